section
-- ===== PART A: goes FIRST, ahead of the names: the tables' words, and 'selects' of the private methods out of them =====
/-- a private method of a class that the tables say can be made, by its rows of tables_1 -/
def lw_okq (q : MethodName × Nat) : Prop := (q.1.cls ≠ "java/lang/invoke/MethodHandle" ∧ q.1.cls ≠ "java/lang/invoke/VarHandle") ∧ Cond.instantiable q.1.cls q.2 ∈ tables_1 ∧ Cond.privateMethod q.1 ∈ tables_1 ∧ Cond.instanceMethod q.1 ∈ tables_1
theorem lw_p0 : lw_okq (⟨"CheapHours", "passHour", "(I)V"⟩, 6) := ⟨⟨by decide +kernel, by decide +kernel⟩, List.mem_of_getElem? (i := 12) (by decide +kernel), List.mem_of_getElem? (i := 249) (by decide +kernel), List.mem_of_getElem? (i := 250) (by decide +kernel)⟩
theorem lw_p1 : lw_okq (⟨"CheapHours", "jobOf", "(I)LCheapHours$Job;"⟩, 6) := ⟨⟨by decide +kernel, by decide +kernel⟩, List.mem_of_getElem? (i := 12) (by decide +kernel), List.mem_of_getElem? (i := 253) (by decide +kernel), List.mem_of_getElem? (i := 254) (by decide +kernel)⟩
theorem lw_p2 : lw_okq (⟨"CheapHours$Job", "need", "()I"⟩, 16) := ⟨⟨by decide +kernel, by decide +kernel⟩, List.mem_of_getElem? (i := 185) (by decide +kernel), List.mem_of_getElem? (i := 265) (by decide +kernel), List.mem_of_getElem? (i := 266) (by decide +kernel)⟩
theorem lw_p3 : lw_okq (⟨"CheapHours$Job", "passAtFull", "(I)V"⟩, 16) := ⟨⟨by decide +kernel, by decide +kernel⟩, List.mem_of_getElem? (i := 185) (by decide +kernel), List.mem_of_getElem? (i := 273) (by decide +kernel), List.mem_of_getElem? (i := 274) (by decide +kernel)⟩
theorem lw_p4 : lw_okq (⟨"CheapHours$Job", "comeToFull", "()V"⟩, 16) := ⟨⟨by decide +kernel, by decide +kernel⟩, List.mem_of_getElem? (i := 185) (by decide +kernel), List.mem_of_getElem? (i := 277) (by decide +kernel), List.mem_of_getElem? (i := 278) (by decide +kernel)⟩
theorem lw_p5 : lw_okq (⟨"CheapHours$Job", "loseUnsaved", "()V"⟩, 16) := ⟨⟨by decide +kernel, by decide +kernel⟩, List.mem_of_getElem? (i := 185) (by decide +kernel), List.mem_of_getElem? (i := 281) (by decide +kernel), List.mem_of_getElem? (i := 282) (by decide +kernel)⟩
theorem lw_p6 : lw_okq (⟨"CheapHours$Job", "bringOn", "()V"⟩, 16) := ⟨⟨by decide +kernel, by decide +kernel⟩, List.mem_of_getElem? (i := 185) (by decide +kernel), List.mem_of_getElem? (i := 285) (by decide +kernel), List.mem_of_getElem? (i := 286) (by decide +kernel)⟩
theorem lw_p7 : lw_okq (⟨"CheapHours$Job", "passWaiting", "()V"⟩, 16) := ⟨⟨by decide +kernel, by decide +kernel⟩, List.mem_of_getElem? (i := 185) (by decide +kernel), List.mem_of_getElem? (i := 289) (by decide +kernel), List.mem_of_getElem? (i := 290) (by decide +kernel)⟩
theorem lw_p8 : lw_okq (⟨"CheapHours$Job", "passAtMarket", "(I)V"⟩, 16) := ⟨⟨by decide +kernel, by decide +kernel⟩, List.mem_of_getElem? (i := 185) (by decide +kernel), List.mem_of_getElem? (i := 293) (by decide +kernel), List.mem_of_getElem? (i := 294) (by decide +kernel)⟩
theorem lw_p9 : lw_okq (⟨"CheapHours$Job", "saveOn", "()V"⟩, 16) := ⟨⟨by decide +kernel, by decide +kernel⟩, List.mem_of_getElem? (i := 185) (by decide +kernel), List.mem_of_getElem? (i := 297) (by decide +kernel), List.mem_of_getElem? (i := 298) (by decide +kernel)⟩
theorem lw_p10 : lw_okq (⟨"CheapHours$Job", "keepAll", "()V"⟩, 16) := ⟨⟨by decide +kernel, by decide +kernel⟩, List.mem_of_getElem? (i := 185) (by decide +kernel), List.mem_of_getElem? (i := 301) (by decide +kernel), List.mem_of_getElem? (i := 302) (by decide +kernel)⟩
theorem lw_p11 : lw_okq (⟨"CheapHours$Job", "workOn", "()V"⟩, 16) := ⟨⟨by decide +kernel, by decide +kernel⟩, List.mem_of_getElem? (i := 185) (by decide +kernel), List.mem_of_getElem? (i := 305) (by decide +kernel), List.mem_of_getElem? (i := 306) (by decide +kernel)⟩
theorem lw_p12 : lw_okq (⟨"CheapHours$Plan", "settleAll", "()V"⟩, 9) := ⟨⟨by decide +kernel, by decide +kernel⟩, List.mem_of_getElem? (i := 42) (by decide +kernel), List.mem_of_getElem? (i := 384) (by decide +kernel), List.mem_of_getElem? (i := 385) (by decide +kernel)⟩
theorem lw_p13 : lw_okq (⟨"CheapHours$Plan", "settleMean", "(III)V"⟩, 9) := ⟨⟨by decide +kernel, by decide +kernel⟩, List.mem_of_getElem? (i := 42) (by decide +kernel), List.mem_of_getElem? (i := 388) (by decide +kernel), List.mem_of_getElem? (i := 389) (by decide +kernel)⟩
theorem lw_p14 : lw_okq (⟨"CheapHours$Plan", "meanBehind", "([JIII)J"⟩, 9) := ⟨⟨by decide +kernel, by decide +kernel⟩, List.mem_of_getElem? (i := 42) (by decide +kernel), List.mem_of_getElem? (i := 396) (by decide +kernel), List.mem_of_getElem? (i := 397) (by decide +kernel)⟩
theorem lw_p15 : lw_okq (⟨"CheapHours$Plan", "chanceOf", "(II)I"⟩, 9) := ⟨⟨by decide +kernel, by decide +kernel⟩, List.mem_of_getElem? (i := 42) (by decide +kernel), List.mem_of_getElem? (i := 400) (by decide +kernel), List.mem_of_getElem? (i := 401) (by decide +kernel)⟩
def lw_privs_1 : List (MethodName × Nat) := [(⟨"CheapHours", "passHour", "(I)V"⟩, 6), (⟨"CheapHours", "jobOf", "(I)LCheapHours$Job;"⟩, 6), (⟨"CheapHours$Job", "need", "()I"⟩, 16), (⟨"CheapHours$Job", "passAtFull", "(I)V"⟩, 16), (⟨"CheapHours$Job", "comeToFull", "()V"⟩, 16), (⟨"CheapHours$Job", "loseUnsaved", "()V"⟩, 16), (⟨"CheapHours$Job", "bringOn", "()V"⟩, 16), (⟨"CheapHours$Job", "passWaiting", "()V"⟩, 16), (⟨"CheapHours$Job", "passAtMarket", "(I)V"⟩, 16), (⟨"CheapHours$Job", "saveOn", "()V"⟩, 16), (⟨"CheapHours$Job", "keepAll", "()V"⟩, 16), (⟨"CheapHours$Job", "workOn", "()V"⟩, 16), (⟨"CheapHours$Plan", "settleAll", "()V"⟩, 9), (⟨"CheapHours$Plan", "settleMean", "(III)V"⟩, 9), (⟨"CheapHours$Plan", "meanBehind", "([JIII)J"⟩, 9), (⟨"CheapHours$Plan", "chanceOf", "(II)I"⟩, 9)]
theorem lw_r1 : ∀ q ∈ lw_privs_1, lw_okq q := List.forall_mem_cons.mpr ⟨lw_p0, List.forall_mem_cons.mpr ⟨lw_p1, List.forall_mem_cons.mpr ⟨lw_p2, List.forall_mem_cons.mpr ⟨lw_p3, List.forall_mem_cons.mpr ⟨lw_p4, List.forall_mem_cons.mpr ⟨lw_p5, List.forall_mem_cons.mpr ⟨lw_p6, List.forall_mem_cons.mpr ⟨lw_p7, List.forall_mem_cons.mpr ⟨lw_p8, List.forall_mem_cons.mpr ⟨lw_p9, List.forall_mem_cons.mpr ⟨lw_p10, List.forall_mem_cons.mpr ⟨lw_p11, List.forall_mem_cons.mpr ⟨lw_p12, List.forall_mem_cons.mpr ⟨lw_p13, List.forall_mem_cons.mpr ⟨lw_p14, List.forall_mem_cons.mpr ⟨lw_p15, fun _ h => absurd h List.not_mem_nil⟩⟩⟩⟩⟩⟩⟩⟩⟩⟩⟩⟩⟩⟩⟩⟩
theorem lw_p16 : lw_okq (⟨"CheapHours$Plan", "askedAt", "(I)I"⟩, 9) := ⟨⟨by decide +kernel, by decide +kernel⟩, List.mem_of_getElem? (i := 42) (by decide +kernel), List.mem_of_getElem? (i := 407) (by decide +kernel), List.mem_of_getElem? (i := 408) (by decide +kernel)⟩
theorem lw_p17 : lw_okq (⟨"CheapHours$Plan", "settleGreatest", "(III)V"⟩, 9) := ⟨⟨by decide +kernel, by decide +kernel⟩, List.mem_of_getElem? (i := 42) (by decide +kernel), List.mem_of_getElem? (i := 411) (by decide +kernel), List.mem_of_getElem? (i := 412) (by decide +kernel)⟩
theorem lw_p18 : lw_okq (⟨"CheapHours$Plan", "greatestBehind", "(III)I"⟩, 9) := ⟨⟨by decide +kernel, by decide +kernel⟩, List.mem_of_getElem? (i := 42) (by decide +kernel), List.mem_of_getElem? (i := 415) (by decide +kernel), List.mem_of_getElem? (i := 416) (by decide +kernel)⟩
theorem lw_p19 : lw_okq (⟨"CheapHours$Plan", "settleCapped", "(IIII)V"⟩, 9) := ⟨⟨by decide +kernel, by decide +kernel⟩, List.mem_of_getElem? (i := 42) (by decide +kernel), List.mem_of_getElem? (i := 450) (by decide +kernel), List.mem_of_getElem? (i := 451) (by decide +kernel)⟩
theorem lw_p20 : lw_okq (⟨"CheapHours$Hindsight", "settleHour", "(LCheapHours$Terms;I)V"⟩, 2) := ⟨⟨by decide +kernel, by decide +kernel⟩, List.mem_of_getElem? (i := 78) (by decide +kernel), List.mem_of_getElem? (i := 462) (by decide +kernel), List.mem_of_getElem? (i := 463) (by decide +kernel)⟩
theorem lw_p21 : lw_okq (⟨"CheapHours$Hindsight", "onMachine", "(LCheapHours$Terms;III)I"⟩, 2) := ⟨⟨by decide +kernel, by decide +kernel⟩, List.mem_of_getElem? (i := 78) (by decide +kernel), List.mem_of_getElem? (i := 466) (by decide +kernel), List.mem_of_getElem? (i := 467) (by decide +kernel)⟩
theorem lw_p22 : lw_okq (⟨"CheapHours$Hindsight", "stay", "(III)I"⟩, 2) := ⟨⟨by decide +kernel, by decide +kernel⟩, List.mem_of_getElem? (i := 78) (by decide +kernel), List.mem_of_getElem? (i := 470) (by decide +kernel), List.mem_of_getElem? (i := 471) (by decide +kernel)⟩
theorem lw_p23 : lw_okq (⟨"CheapHours$Hindsight", "fromSaved", "(LCheapHours$Terms;III)I"⟩, 2) := ⟨⟨by decide +kernel, by decide +kernel⟩, List.mem_of_getElem? (i := 78) (by decide +kernel), List.mem_of_getElem? (i := 480) (by decide +kernel), List.mem_of_getElem? (i := 481) (by decide +kernel)⟩
theorem lw_p24 : lw_okq (⟨"CheapHours$Hindsight", "from", "(LCheapHours$Terms;III)I"⟩, 2) := ⟨⟨by decide +kernel, by decide +kernel⟩, List.mem_of_getElem? (i := 78) (by decide +kernel), List.mem_of_getElem? (i := 484) (by decide +kernel), List.mem_of_getElem? (i := 485) (by decide +kernel)⟩
theorem lw_p25 : lw_okq (⟨"CheapHours$Hindsight", "put", "(IIII)V"⟩, 2) := ⟨⟨by decide +kernel, by decide +kernel⟩, List.mem_of_getElem? (i := 78) (by decide +kernel), List.mem_of_getElem? (i := 492) (by decide +kernel), List.mem_of_getElem? (i := 493) (by decide +kernel)⟩
theorem lw_p26 : lw_okq (⟨"CheapHours$Hindsight", "onNone", "(LCheapHours$Terms;II)I"⟩, 2) := ⟨⟨by decide +kernel, by decide +kernel⟩, List.mem_of_getElem? (i := 78) (by decide +kernel), List.mem_of_getElem? (i := 496) (by decide +kernel), List.mem_of_getElem? (i := 497) (by decide +kernel)⟩
theorem lw_p27 : lw_okq (⟨"CheapHours", "readyJobs", "()I"⟩, 6) := ⟨⟨by decide +kernel, by decide +kernel⟩, List.mem_of_getElem? (i := 12) (by decide +kernel), List.mem_of_getElem? (i := 504) (by decide +kernel), List.mem_of_getElem? (i := 505) (by decide +kernel)⟩
theorem lw_p28 : lw_okq (⟨"CheapHours", "allPaid", "()I"⟩, 6) := ⟨⟨by decide +kernel, by decide +kernel⟩, List.mem_of_getElem? (i := 12) (by decide +kernel), List.mem_of_getElem? (i := 509) (by decide +kernel), List.mem_of_getElem? (i := 510) (by decide +kernel)⟩
theorem lw_p29 : lw_okq (⟨"CheapHoursModel", "hour", "(I)V"⟩, 35) := ⟨⟨by decide +kernel, by decide +kernel⟩, List.mem_of_getElem? (i := 513) (by decide +kernel), List.mem_of_getElem? (i := 646) (by decide +kernel), List.mem_of_getElem? (i := 647) (by decide +kernel)⟩
theorem lw_p30 : lw_okq (⟨"CheapHoursModel", "need", "(I)I"⟩, 35) := ⟨⟨by decide +kernel, by decide +kernel⟩, List.mem_of_getElem? (i := 513) (by decide +kernel), List.mem_of_getElem? (i := 650) (by decide +kernel), List.mem_of_getElem? (i := 651) (by decide +kernel)⟩
theorem lw_p31 : lw_okq (⟨"CheapHoursModel", "atFull", "(I)V"⟩, 35) := ⟨⟨by decide +kernel, by decide +kernel⟩, List.mem_of_getElem? (i := 513) (by decide +kernel), List.mem_of_getElem? (i := 654) (by decide +kernel), List.mem_of_getElem? (i := 655) (by decide +kernel)⟩
def lw_privs_2 : List (MethodName × Nat) := [(⟨"CheapHours$Plan", "askedAt", "(I)I"⟩, 9), (⟨"CheapHours$Plan", "settleGreatest", "(III)V"⟩, 9), (⟨"CheapHours$Plan", "greatestBehind", "(III)I"⟩, 9), (⟨"CheapHours$Plan", "settleCapped", "(IIII)V"⟩, 9), (⟨"CheapHours$Hindsight", "settleHour", "(LCheapHours$Terms;I)V"⟩, 2), (⟨"CheapHours$Hindsight", "onMachine", "(LCheapHours$Terms;III)I"⟩, 2), (⟨"CheapHours$Hindsight", "stay", "(III)I"⟩, 2), (⟨"CheapHours$Hindsight", "fromSaved", "(LCheapHours$Terms;III)I"⟩, 2), (⟨"CheapHours$Hindsight", "from", "(LCheapHours$Terms;III)I"⟩, 2), (⟨"CheapHours$Hindsight", "put", "(IIII)V"⟩, 2), (⟨"CheapHours$Hindsight", "onNone", "(LCheapHours$Terms;II)I"⟩, 2), (⟨"CheapHours", "readyJobs", "()I"⟩, 6), (⟨"CheapHours", "allPaid", "()I"⟩, 6), (⟨"CheapHoursModel", "hour", "(I)V"⟩, 35), (⟨"CheapHoursModel", "need", "(I)I"⟩, 35), (⟨"CheapHoursModel", "atFull", "(I)V"⟩, 35)]
theorem lw_r2 : ∀ q ∈ lw_privs_2, lw_okq q := List.forall_mem_cons.mpr ⟨lw_p16, List.forall_mem_cons.mpr ⟨lw_p17, List.forall_mem_cons.mpr ⟨lw_p18, List.forall_mem_cons.mpr ⟨lw_p19, List.forall_mem_cons.mpr ⟨lw_p20, List.forall_mem_cons.mpr ⟨lw_p21, List.forall_mem_cons.mpr ⟨lw_p22, List.forall_mem_cons.mpr ⟨lw_p23, List.forall_mem_cons.mpr ⟨lw_p24, List.forall_mem_cons.mpr ⟨lw_p25, List.forall_mem_cons.mpr ⟨lw_p26, List.forall_mem_cons.mpr ⟨lw_p27, List.forall_mem_cons.mpr ⟨lw_p28, List.forall_mem_cons.mpr ⟨lw_p29, List.forall_mem_cons.mpr ⟨lw_p30, List.forall_mem_cons.mpr ⟨lw_p31, fun _ h => absurd h List.not_mem_nil⟩⟩⟩⟩⟩⟩⟩⟩⟩⟩⟩⟩⟩⟩⟩⟩
theorem lw_p32 : lw_okq (⟨"CheapHoursModel", "loses", "(I)V"⟩, 35) := ⟨⟨by decide +kernel, by decide +kernel⟩, List.mem_of_getElem? (i := 513) (by decide +kernel), List.mem_of_getElem? (i := 658) (by decide +kernel), List.mem_of_getElem? (i := 659) (by decide +kernel)⟩
theorem lw_p33 : lw_okq (⟨"CheapHoursModel", "atMarket", "(II)V"⟩, 35) := ⟨⟨by decide +kernel, by decide +kernel⟩, List.mem_of_getElem? (i := 513) (by decide +kernel), List.mem_of_getElem? (i := 662) (by decide +kernel), List.mem_of_getElem? (i := 663) (by decide +kernel)⟩
theorem lw_p34 : lw_okq (⟨"CheapHoursModel", "keeps", "(I)V"⟩, 35) := ⟨⟨by decide +kernel, by decide +kernel⟩, List.mem_of_getElem? (i := 513) (by decide +kernel), List.mem_of_getElem? (i := 666) (by decide +kernel), List.mem_of_getElem? (i := 667) (by decide +kernel)⟩
theorem lw_p35 : lw_okq (⟨"CheapHoursModel", "isJob", "(I)Z"⟩, 35) := ⟨⟨by decide +kernel, by decide +kernel⟩, List.mem_of_getElem? (i := 513) (by decide +kernel), List.mem_of_getElem? (i := 674) (by decide +kernel), List.mem_of_getElem? (i := 675) (by decide +kernel)⟩
theorem lw_p36 : lw_okq (⟨"CheapHoursModel", "isState", "(III)Z"⟩, 35) := ⟨⟨by decide +kernel, by decide +kernel⟩, List.mem_of_getElem? (i := 513) (by decide +kernel), List.mem_of_getElem? (i := 711) (by decide +kernel), List.mem_of_getElem? (i := 712) (by decide +kernel)⟩
theorem lw_p37 : lw_okq (⟨"CheapHoursModel", "makes", "(II)V"⟩, 35) := ⟨⟨by decide +kernel, by decide +kernel⟩, List.mem_of_getElem? (i := 513) (by decide +kernel), List.mem_of_getElem? (i := 715) (by decide +kernel), List.mem_of_getElem? (i := 716) (by decide +kernel)⟩
theorem lw_p38 : lw_okq (⟨"CheapHoursModel", "state", "(IIIJI)V"⟩, 35) := ⟨⟨by decide +kernel, by decide +kernel⟩, List.mem_of_getElem? (i := 513) (by decide +kernel), List.mem_of_getElem? (i := 719) (by decide +kernel), List.mem_of_getElem? (i := 720) (by decide +kernel)⟩
theorem lw_p39 : lw_okq (⟨"CheapHoursModel", "next", "(III)J"⟩, 35) := ⟨⟨by decide +kernel, by decide +kernel⟩, List.mem_of_getElem? (i := 513) (by decide +kernel), List.mem_of_getElem? (i := 726) (by decide +kernel), List.mem_of_getElem? (i := 727) (by decide +kernel)⟩
theorem lw_p40 : lw_okq (⟨"CheapHoursModel", "best", "(IIIJJ)I"⟩, 35) := ⟨⟨by decide +kernel, by decide +kernel⟩, List.mem_of_getElem? (i := 513) (by decide +kernel), List.mem_of_getElem? (i := 730) (by decide +kernel), List.mem_of_getElem? (i := 731) (by decide +kernel)⟩
theorem lw_p41 : lw_okq (⟨"CheapHoursModel", "worstNext", "(III)I"⟩, 35) := ⟨⟨by decide +kernel, by decide +kernel⟩, List.mem_of_getElem? (i := 513) (by decide +kernel), List.mem_of_getElem? (i := 734) (by decide +kernel), List.mem_of_getElem? (i := 735) (by decide +kernel)⟩
theorem lw_p42 : lw_okq (⟨"CheapHoursModel", "cheapest", "(III)I"⟩, 35) := ⟨⟨by decide +kernel, by decide +kernel⟩, List.mem_of_getElem? (i := 513) (by decide +kernel), List.mem_of_getElem? (i := 755) (by decide +kernel), List.mem_of_getElem? (i := 756) (by decide +kernel)⟩
theorem lw_p43 : lw_okq (⟨"CheapHoursModel", "priceAt", "(II)I"⟩, 35) := ⟨⟨by decide +kernel, by decide +kernel⟩, List.mem_of_getElem? (i := 513) (by decide +kernel), List.mem_of_getElem? (i := 759) (by decide +kernel), List.mem_of_getElem? (i := 760) (by decide +kernel)⟩
def lw_privs_3 : List (MethodName × Nat) := [(⟨"CheapHoursModel", "loses", "(I)V"⟩, 35), (⟨"CheapHoursModel", "atMarket", "(II)V"⟩, 35), (⟨"CheapHoursModel", "keeps", "(I)V"⟩, 35), (⟨"CheapHoursModel", "isJob", "(I)Z"⟩, 35), (⟨"CheapHoursModel", "isState", "(III)Z"⟩, 35), (⟨"CheapHoursModel", "makes", "(II)V"⟩, 35), (⟨"CheapHoursModel", "state", "(IIIJI)V"⟩, 35), (⟨"CheapHoursModel", "next", "(III)J"⟩, 35), (⟨"CheapHoursModel", "best", "(IIIJJ)I"⟩, 35), (⟨"CheapHoursModel", "worstNext", "(III)I"⟩, 35), (⟨"CheapHoursModel", "cheapest", "(III)I"⟩, 35), (⟨"CheapHoursModel", "priceAt", "(II)I"⟩, 35)]
theorem lw_r3 : ∀ q ∈ lw_privs_3, lw_okq q := List.forall_mem_cons.mpr ⟨lw_p32, List.forall_mem_cons.mpr ⟨lw_p33, List.forall_mem_cons.mpr ⟨lw_p34, List.forall_mem_cons.mpr ⟨lw_p35, List.forall_mem_cons.mpr ⟨lw_p36, List.forall_mem_cons.mpr ⟨lw_p37, List.forall_mem_cons.mpr ⟨lw_p38, List.forall_mem_cons.mpr ⟨lw_p39, List.forall_mem_cons.mpr ⟨lw_p40, List.forall_mem_cons.mpr ⟨lw_p41, List.forall_mem_cons.mpr ⟨lw_p42, List.forall_mem_cons.mpr ⟨lw_p43, fun _ h => absurd h List.not_mem_nil⟩⟩⟩⟩⟩⟩⟩⟩⟩⟩⟩⟩
def lw_privs : List (MethodName × Nat) := lw_privs_1 ++ (lw_privs_2 ++ (lw_privs_3))
def lw_tbl : List Cond := k2_sels lw_privs ++ tables_1
theorem lw_privs_ok : ∀ q ∈ lw_privs, lw_okq q := by
  show ∀ q ∈ lw_privs_1 ++ (lw_privs_2 ++ (lw_privs_3)), lw_okq q
  exact List.forall_mem_append.mpr ⟨lw_r1, List.forall_mem_append.mpr ⟨lw_r2, lw_r3⟩⟩
end
section
/-! ===== BEGIN words of one list among another's, by their places ===== -/
theorem goodIn_r {big : List Cond} (ws : List Cond) (ps : List Nat) (hp : ws = ps.filterMap (fun i => big[i]?)) (h : ws.all goodWord = true) : GoodIn big ws := by
  intro w hw
  have h1 := List.all_eq_true.mp h w hw
  rw [hp] at hw
  obtain ⟨i, -, hi⟩ := List.mem_filterMap.mp hw
  have hm : w ∈ big := by first | exact List.mem_of_getElem? hi | exact List.getElem?_mem hi
  exact ⟨hm, good_of_word h1⟩
theorem goodIn_app {big a b : List Cond} (ha : GoodIn big a) (hb : GoodIn big b) : GoodIn big (a ++ b) := fun w h => (List.mem_append.mp h).elim (ha w) (hb w)
theorem goodIn_ca {big a b : List Cond} {c : Cond} (ha : GoodIn big (c :: a)) (hb : GoodIn big b) : GoodIn big (c :: (a ++ b)) := fun w h => (List.mem_cons.mp h).elim (fun e => ha w (List.mem_cons.mpr (Or.inl e))) (fun h => (List.mem_append.mp h).elim (fun h => ha w (List.mem_cons.mpr (Or.inr h))) (hb w))
theorem goodIn_sub {big ws : List Cond} (hm : ∀ w ∈ ws, w ∈ big) (h : ws.all goodWord = true) : GoodIn big ws := fun w hw => ⟨hm w hw, good_of_word (List.all_eq_true.mp h w hw)⟩
/-! ===== END ===== -/

/-! ===== BEGIN printed: names, fields, word lists, decode rows ===== -/
def RX0 : String := "CheapHours$Hindsight"
def TX0 : u_T := fun k => match k with
  | 0 => ("CheapHours$Hindsight", "prices", "LCheapHours$Prices;", true)
  | _ => ("CheapHours$Hindsight", "least", "[I", true)
def tyX0 : Nat → FieldType := fun k => match k with
  | 0 => .object "CheapHours$Prices"
  | _ => .array .int
abbrev wsX00 : List Cond := u_ws RX0 TX0 2
theorem nmX0 : ∀ a, a < 2 → ∀ b, b < 2 → a ≠ b → (TX0 a).2.1 ≠ (TX0 b).2.1 := by decide +kernel
theorem tyX0_ok : ∀ k, k < 2 → parseFieldDescriptor (TX0 k).2.2.1 = some (tyX0 k) := by decide +kernel
abbrev cX0_init : ByteArray := prog_2_method_1_code
def yX0_init : MethodName := ⟨RX0, "<init>", "(LCheapHours$Prices;)V"⟩
abbrev cX0_leastSum : ByteArray := prog_2_method_2_code
def yX0_leastSum : MethodName := ⟨RX0, "leastSum", "(LCheapHours$Terms;)I"⟩
abbrev cX0_settleHour : ByteArray := prog_2_method_3_code
def yX0_settleHour : MethodName := ⟨RX0, "settleHour", "(LCheapHours$Terms;I)V"⟩
abbrev cX0_onMachine : ByteArray := prog_2_method_4_code
def yX0_onMachine : MethodName := ⟨RX0, "onMachine", "(LCheapHours$Terms;III)I"⟩
abbrev cX0_onNone : ByteArray := prog_2_method_5_code
def yX0_onNone : MethodName := ⟨RX0, "onNone", "(LCheapHours$Terms;II)I"⟩
abbrev cX0_fromSaved : ByteArray := prog_2_method_6_code
def yX0_fromSaved : MethodName := ⟨RX0, "fromSaved", "(LCheapHours$Terms;III)I"⟩
abbrev cX0_from : ByteArray := prog_2_method_7_code
def yX0_from : MethodName := ⟨RX0, "from", "(LCheapHours$Terms;III)I"⟩
abbrev cX0_stay : ByteArray := prog_2_method_8_code
def yX0_stay : MethodName := ⟨RX0, "stay", "(III)I"⟩
abbrev cX0_put : ByteArray := prog_2_method_9_code
def yX0_put : MethodName := ⟨RX0, "put", "(IIII)V"⟩
abbrev cX0_sum : ByteArray := prog_2_method_10_code
def yX0_sum : MethodName := ⟨RX0, "sum", "(II)I"⟩
abbrev cX0_slotOf : ByteArray := prog_2_method_11_code
def yX0_slotOf : MethodName := ⟨RX0, "slotOf", "(III)I"⟩
def RX1 : String := "CheapHours$Job"
def TX1 : u_T := fun k => match k with
  | 0 => ("CheapHours$Job", "terms", "LCheapHours$Terms;", true)
  | 1 => ("CheapHours$Job", "paid", "I", false)
  | 2 => ("CheapHours$Job", "saved", "I", false)
  | 3 => ("CheapHours$Job", "unsaved", "I", false)
  | 4 => ("CheapHours$Job", "lost", "I", false)
  | 5 => ("CheapHours$Job", "workHours", "I", false)
  | 6 => ("CheapHours$Job", "bringHours", "I", false)
  | 7 => ("CheapHours$Job", "saveHours", "I", false)
  | 8 => ("CheapHours$Job", "waitHours", "I", false)
  | 9 => ("CheapHours$Job", "fullHours", "I", false)
  | 10 => ("CheapHours$Job", "place", "I", false)
  | 11 => ("CheapHours$Job", "readyAt", "I", false)
  | 12 => ("CheapHours$Job", "taken", "I", false)
  | 13 => ("CheapHours$Job", "guarded", "Z", false)
  | 14 => ("CheapHours$Job", "bringLeft", "I", false)
  | _ => ("CheapHours$Job", "saveLeft", "I", false)
def tyX1 : Nat → FieldType := fun k => match k with
  | 0 => .object "CheapHours$Terms"
  | 1 => .int
  | 2 => .int
  | 3 => .int
  | 4 => .int
  | 5 => .int
  | 6 => .int
  | 7 => .int
  | 8 => .int
  | 9 => .int
  | 10 => .int
  | 11 => .int
  | 12 => .int
  | 13 => .boolean
  | 14 => .int
  | _ => .int
abbrev wsX10 : List Cond := u_ws RX1 TX1 16
theorem nmX1 : ∀ a, a < 16 → ∀ b, b < 16 → a ≠ b → (TX1 a).2.1 ≠ (TX1 b).2.1 := by decide +kernel
theorem tyX1_ok : ∀ k, k < 16 → parseFieldDescriptor (TX1 k).2.2.1 = some (tyX1 k) := by decide +kernel
abbrev cX1_init : ByteArray := prog_3_method_1_code
def yX1_init : MethodName := ⟨RX1, "<init>", "(LCheapHours$Terms;)V"⟩
abbrev cX1_isReady : ByteArray := prog_3_method_2_code
def yX1_isReady : MethodName := ⟨RX1, "isReady", "()Z"⟩
abbrev cX1_tell : ByteArray := prog_3_method_3_code
def yX1_tell : MethodName := ⟨RX1, "tell", "(I)I"⟩
abbrev cX1_passHour : ByteArray := prog_3_method_4_code
def yX1_passHour : MethodName := ⟨RX1, "passHour", "(ILCheapHours$Prices;)V"⟩
abbrev cX1_need : ByteArray := prog_3_method_5_code
def yX1_need : MethodName := ⟨RX1, "need", "()I"⟩
abbrev cX1_passAtFull : ByteArray := prog_3_method_6_code
def yX1_passAtFull : MethodName := ⟨RX1, "passAtFull", "(I)V"⟩
abbrev cX1_comeToFull : ByteArray := prog_3_method_7_code
def yX1_comeToFull : MethodName := ⟨RX1, "comeToFull", "()V"⟩
abbrev cX1_passWaiting : ByteArray := prog_3_method_8_code
def yX1_passWaiting : MethodName := ⟨RX1, "passWaiting", "()V"⟩
abbrev cX1_passAtMarket : ByteArray := prog_3_method_9_code
def yX1_passAtMarket : MethodName := ⟨RX1, "passAtMarket", "(I)V"⟩
abbrev cX1_bringOn : ByteArray := prog_3_method_10_code
def yX1_bringOn : MethodName := ⟨RX1, "bringOn", "()V"⟩
abbrev cX1_saveOn : ByteArray := prog_3_method_11_code
def yX1_saveOn : MethodName := ⟨RX1, "saveOn", "()V"⟩
abbrev cX1_workOn : ByteArray := prog_3_method_12_code
def yX1_workOn : MethodName := ⟨RX1, "workOn", "()V"⟩
abbrev cX1_keepAll : ByteArray := prog_3_method_13_code
def yX1_keepAll : MethodName := ⟨RX1, "keepAll", "()V"⟩
abbrev cX1_loseUnsaved : ByteArray := prog_3_method_14_code
def yX1_loseUnsaved : MethodName := ⟨RX1, "loseUnsaved", "()V"⟩
def RX2 : String := "CheapHours$Losses"
def TX2 : u_T := fun k => match k with
  | _ => ("", "", "", false)
def tyX2 : Nat → FieldType := fun k => match k with
  | _ => .int
abbrev wsX20 : List Cond := u_ws RX2 TX2 0
theorem nmX2 : ∀ a, a < 0 → ∀ b, b < 0 → a ≠ b → (TX2 a).2.1 ≠ (TX2 b).2.1 := by decide +kernel
theorem tyX2_ok : ∀ k, k < 0 → parseFieldDescriptor (TX2 k).2.2.1 = some (tyX2 k) := by decide +kernel
abbrev cX2_canBe : ByteArray := prog_4_method_2_code
def yX2_canBe : MethodName := ⟨RX2, "canBe", "(III)Z"⟩
abbrev cX2_bestSpan : ByteArray := prog_4_method_3_code
def yX2_bestSpan : MethodName := ⟨RX2, "bestSpan", "(III)I"⟩
abbrev cX2_above : ByteArray := prog_4_method_4_code
def yX2_above : MethodName := ⟨RX2, "above", "(IIIII)J"⟩
abbrev cX2_power : ByteArray := prog_4_method_5_code
def yX2_power : MethodName := ⟨RX2, "power", "(II)J"⟩
abbrev cX2_commonDivisor : ByteArray := prog_4_method_6_code
def yX2_commonDivisor : MethodName := ⟨RX2, "commonDivisor", "(JJ)J"⟩
def RX3 : String := "CheapHours$Plan"
def TX3 : u_T := fun k => match k with
  | 0 => ("CheapHours$Plan", "size", "I", false)
  | 1 => ("CheapHours$Plan", "known", "Z", false)
  | 2 => ("CheapHours$Plan", "prices", "LCheapHours$Prices;", true)
  | 3 => ("CheapHours$Plan", "asked", "[I", true)
  | 4 => ("CheapHours$Plan", "chance", "[I", true)
  | 5 => ("CheapHours$Plan", "mean", "[J", true)
  | 6 => ("CheapHours$Plan", "choice", "[I", true)
  | 7 => ("CheapHours$Plan", "greatest", "[I", true)
  | _ => ("CheapHours$Plan", "meanByCap", "[J", true)
def tyX3 : Nat → FieldType := fun k => match k with
  | 0 => .int
  | 1 => .boolean
  | 2 => .object "CheapHours$Prices"
  | 3 => .array .int
  | 4 => .array .int
  | 5 => .array .long
  | 6 => .array .int
  | 7 => .array .int
  | _ => .array .long
abbrev wsX30 : List Cond := u_ws RX3 TX3 9
theorem nmX3 : ∀ a, a < 9 → ∀ b, b < 9 → a ≠ b → (TX3 a).2.1 ≠ (TX3 b).2.1 := by decide +kernel
theorem tyX3_ok : ∀ k, k < 9 → parseFieldDescriptor (TX3 k).2.2.1 = some (tyX3 k) := by decide +kernel
abbrev cX3_init : ByteArray := prog_5_method_1_code
def yX3_init : MethodName := ⟨RX3, "<init>", "(LCheapHours$Prices;)V"⟩
abbrev cX3_forget : ByteArray := prog_5_method_2_code
def yX3_forget : MethodName := ⟨RX3, "forget", "()V"⟩
abbrev cX3_startAnew : ByteArray := prog_5_method_3_code
def yX3_startAnew : MethodName := ⟨RX3, "startAnew", "(I)V"⟩
abbrev cX3_has : ByteArray := prog_5_method_4_code
def yX3_has : MethodName := ⟨RX3, "has", "(I)Z"⟩
abbrev cX3_hasState : ByteArray := prog_5_method_5_code
def yX3_hasState : MethodName := ⟨RX3, "hasState", "(III)Z"⟩
abbrev cX3_canGo : ByteArray := prog_5_method_6_code
def yX3_canGo : MethodName := ⟨RX3, "canGo", "(I)Z"⟩
abbrev cX3_setLevel : ByteArray := prog_5_method_7_code
def yX3_setLevel : MethodName := ⟨RX3, "setLevel", "(III)V"⟩
abbrev cX3_meanOf : ByteArray := prog_5_method_8_code
def yX3_meanOf : MethodName := ⟨RX3, "meanOf", "(III)J"⟩
abbrev cX3_ruleOf : ByteArray := prog_5_method_9_code
def yX3_ruleOf : MethodName := ⟨RX3, "ruleOf", "(III)I"⟩
abbrev cX3_greatestOf : ByteArray := prog_5_method_10_code
def yX3_greatestOf : MethodName := ⟨RX3, "greatestOf", "(III)I"⟩
abbrev cX3_meanCapped : ByteArray := prog_5_method_11_code
def yX3_meanCapped : MethodName := ⟨RX3, "meanCapped", "(IIII)J"⟩
abbrev cX3_settleAll : ByteArray := prog_5_method_12_code
def yX3_settleAll : MethodName := ⟨RX3, "settleAll", "()V"⟩
abbrev cX3_settleMean : ByteArray := prog_5_method_13_code
def yX3_settleMean : MethodName := ⟨RX3, "settleMean", "(III)V"⟩
abbrev cX3_settleGreatest : ByteArray := prog_5_method_14_code
def yX3_settleGreatest : MethodName := ⟨RX3, "settleGreatest", "(III)V"⟩
abbrev cX3_settleCapped : ByteArray := prog_5_method_15_code
def yX3_settleCapped : MethodName := ⟨RX3, "settleCapped", "(IIII)V"⟩
abbrev cX3_meanBehind : ByteArray := prog_5_method_16_code
def yX3_meanBehind : MethodName := ⟨RX3, "meanBehind", "([JIII)J"⟩
abbrev cX3_greatestBehind : ByteArray := prog_5_method_17_code
def yX3_greatestBehind : MethodName := ⟨RX3, "greatestBehind", "(III)I"⟩
abbrev cX3_askedAt : ByteArray := prog_5_method_18_code
def yX3_askedAt : MethodName := ⟨RX3, "askedAt", "(I)I"⟩
abbrev cX3_chanceOf : ByteArray := prog_5_method_19_code
def yX3_chanceOf : MethodName := ⟨RX3, "chanceOf", "(II)I"⟩
abbrev cX3_read : ByteArray := prog_5_method_20_code
def yX3_read : MethodName := ⟨RX3, "read", "([JIII)J"⟩
abbrev cX3_readInt : ByteArray := prog_5_method_21_code
def yX3_readInt : MethodName := ⟨RX3, "readInt", "([IIII)I"⟩
abbrev cX3_stateOf : ByteArray := prog_5_method_22_code
def yX3_stateOf : MethodName := ⟨RX3, "stateOf", "(III)I"⟩
def RX4 : String := "CheapHours$Prices"
def TX4 : u_T := fun k => match k with
  | 0 => ("CheapHours$Prices", "let", "[I", true)
  | _ => ("CheapHours$Prices", "atFull", "I", false)
def tyX4 : Nat → FieldType := fun k => match k with
  | 0 => .array .int
  | _ => .int
abbrev wsX40 : List Cond := u_ws RX4 TX4 2
theorem nmX4 : ∀ a, a < 2 → ∀ b, b < 2 → a ≠ b → (TX4 a).2.1 ≠ (TX4 b).2.1 := by decide +kernel
theorem tyX4_ok : ∀ k, k < 2 → parseFieldDescriptor (TX4 k).2.2.1 = some (tyX4 k) := by decide +kernel
abbrev cX4_init : ByteArray := prog_6_method_1_code
def yX4_init : MethodName := ⟨RX4, "<init>", "()V"⟩
abbrev cX4_put : ByteArray := prog_6_method_2_code
def yX4_put : MethodName := ⟨RX4, "put", "(IIII)V"⟩
abbrev cX4_at : ByteArray := prog_6_method_3_code
def yX4_at : MethodName := ⟨RX4, "at", "(II)I"⟩
abbrev cX4_isLetHour : ByteArray := prog_6_method_4_code
def yX4_isLetHour : MethodName := ⟨RX4, "isLetHour", "(II)Z"⟩
def RX5 : String := "CheapHours$Terms"
def TX5 : u_T := fun k => match k with
  | 0 => ("CheapHours$Terms", "work", "I", true)
  | 1 => ("CheapHours$Terms", "due", "I", true)
  | 2 => ("CheapHours$Terms", "market", "I", true)
  | 3 => ("CheapHours$Terms", "save", "I", true)
  | 4 => ("CheapHours$Terms", "bring", "I", true)
  | 5 => ("CheapHours$Terms", "bid", "I", true)
  | 6 => ("CheapHours$Terms", "span", "I", true)
  | _ => ("CheapHours$Terms", "came", "I", true)
def tyX5 : Nat → FieldType := fun k => match k with
  | 0 => .int
  | 1 => .int
  | 2 => .int
  | 3 => .int
  | 4 => .int
  | 5 => .int
  | 6 => .int
  | _ => .int
abbrev wsX50 : List Cond := u_ws RX5 TX5 8
theorem nmX5 : ∀ a, a < 8 → ∀ b, b < 8 → a ≠ b → (TX5 a).2.1 ≠ (TX5 b).2.1 := by decide +kernel
theorem tyX5_ok : ∀ k, k < 8 → parseFieldDescriptor (TX5 k).2.2.1 = some (tyX5 k) := by decide +kernel
abbrev cX5_init : ByteArray := prog_7_method_1_code
def yX5_init : MethodName := ⟨RX5, "<init>", "(IIII)V"⟩
abbrev cX5_canBe : ByteArray := prog_7_method_2_code
def yX5_canBe : MethodName := ⟨RX5, "canBe", "()Z"⟩
def RX6 : String := "CheapHours"
def TX6 : u_T := fun k => match k with
  | 0 => ("CheapHours", "prices", "LCheapHours$Prices;", true)
  | 1 => ("CheapHours", "jobs", "[LCheapHours$Job;", true)
  | 2 => ("CheapHours", "plan", "LCheapHours$Plan;", true)
  | 3 => ("CheapHours", "hindsight", "LCheapHours$Hindsight;", true)
  | 4 => ("CheapHours", "jobCount", "I", false)
  | _ => ("CheapHours", "now", "I", false)
def tyX6 : Nat → FieldType := fun k => match k with
  | 0 => .object "CheapHours$Prices"
  | 1 => .array (.object "CheapHours$Job")
  | 2 => .object "CheapHours$Plan"
  | 3 => .object "CheapHours$Hindsight"
  | 4 => .int
  | _ => .int
abbrev wsX60 : List Cond := u_ws RX6 TX6 6
theorem nmX6 : ∀ a, a < 6 → ∀ b, b < 6 → a ≠ b → (TX6 a).2.1 ≠ (TX6 b).2.1 := by decide +kernel
theorem tyX6_ok : ∀ k, k < 6 → parseFieldDescriptor (TX6 k).2.2.1 = some (tyX6 k) := by decide +kernel
abbrev cX6_init : ByteArray := prog_1_method_1_code
def yX6_init : MethodName := ⟨RX6, "<init>", "()V"⟩
abbrev cX6_price : ByteArray := prog_1_method_2_code
def yX6_price : MethodName := ⟨RX6, "price", "(IIII)Z"⟩
abbrev cX6_full : ByteArray := prog_1_method_3_code
def yX6_full : MethodName := ⟨RX6, "full", "(I)Z"⟩
abbrev cX6_job : ByteArray := prog_1_method_4_code
def yX6_job : MethodName := ⟨RX6, "job", "(III)I"⟩
abbrev cX6_go : ByteArray := prog_1_method_5_code
def yX6_go : MethodName := ⟨RX6, "go", "(I)I"⟩
abbrev cX6_told : ByteArray := prog_1_method_6_code
def yX6_told : MethodName := ⟨RX6, "told", "(II)I"⟩
abbrev cX6_span : ByteArray := prog_1_method_7_code
def yX6_span : MethodName := ⟨RX6, "span", "(III)I"⟩
abbrev cX6_mean : ByteArray := prog_1_method_8_code
def yX6_mean : MethodName := ⟨RX6, "mean", "(IIIII)J"⟩
abbrev cX6_levels : ByteArray := prog_1_method_9_code
def yX6_levels : MethodName := ⟨RX6, "levels", "(I)Z"⟩
abbrev cX6_level : ByteArray := prog_1_method_10_code
def yX6_level : MethodName := ⟨RX6, "level", "(III)Z"⟩
abbrev cX6_table : ByteArray := prog_1_method_11_code
def yX6_table : MethodName := ⟨RX6, "table", "(III)J"⟩
abbrev cX6_rule : ByteArray := prog_1_method_12_code
def yX6_rule : MethodName := ⟨RX6, "rule", "(III)I"⟩
abbrev cX6_worst : ByteArray := prog_1_method_13_code
def yX6_worst : MethodName := ⟨RX6, "worst", "(III)I"⟩
abbrev cX6_capped : ByteArray := prog_1_method_14_code
def yX6_capped : MethodName := ⟨RX6, "capped", "(IIII)J"⟩
abbrev cX6_oracle : ByteArray := prog_1_method_15_code
def yX6_oracle : MethodName := ⟨RX6, "oracle", "(I)I"⟩
abbrev cX6_count : ByteArray := prog_1_method_16_code
def yX6_count : MethodName := ⟨RX6, "count", "(I)I"⟩
abbrev cX6_passHour : ByteArray := prog_1_method_17_code
def yX6_passHour : MethodName := ⟨RX6, "passHour", "(I)V"⟩
abbrev cX6_readyJobs : ByteArray := prog_1_method_18_code
def yX6_readyJobs : MethodName := ⟨RX6, "readyJobs", "()I"⟩
abbrev cX6_allPaid : ByteArray := prog_1_method_19_code
def yX6_allPaid : MethodName := ⟨RX6, "allPaid", "()I"⟩
abbrev cX6_jobOf : ByteArray := prog_1_method_20_code
def yX6_jobOf : MethodName := ⟨RX6, "jobOf", "(I)LCheapHours$Job;"⟩
abbrev cX6_within : ByteArray := prog_1_method_21_code
def yX6_within : MethodName := ⟨RX6, "within", "(III)Z"⟩
def RX7 : String := "CheapHoursModel"
def TX7 : u_T := fun k => match k with
  | 0 => ("CheapHoursModel", "now", "I", false)
  | 1 => ("CheapHoursModel", "full", "I", false)
  | 2 => ("CheapHoursModel", "prices", "[I", true)
  | 3 => ("CheapHoursModel", "jobs", "I", false)
  | 4 => ("CheapHoursModel", "work", "[I", true)
  | 5 => ("CheapHoursModel", "due", "[I", true)
  | 6 => ("CheapHoursModel", "market", "[I", true)
  | 7 => ("CheapHoursModel", "bid", "[I", true)
  | 8 => ("CheapHoursModel", "spanOf", "[I", true)
  | 9 => ("CheapHoursModel", "save", "[I", true)
  | 10 => ("CheapHoursModel", "bring", "[I", true)
  | 11 => ("CheapHoursModel", "cameAt", "[I", true)
  | 12 => ("CheapHoursModel", "saved", "[I", true)
  | 13 => ("CheapHoursModel", "done", "[I", true)
  | 14 => ("CheapHoursModel", "lost", "[I", true)
  | 15 => ("CheapHoursModel", "worked", "[I", true)
  | 16 => ("CheapHoursModel", "brought", "[I", true)
  | 17 => ("CheapHoursModel", "saving", "[I", true)
  | 18 => ("CheapHoursModel", "waited", "[I", true)
  | 19 => ("CheapHoursModel", "paid", "[I", true)
  | 20 => ("CheapHoursModel", "fullHours", "[I", true)
  | 21 => ("CheapHoursModel", "place", "[I", true)
  | 22 => ("CheapHoursModel", "readyAt", "[I", true)
  | 23 => ("CheapHoursModel", "taken", "[I", true)
  | 24 => ("CheapHoursModel", "toBring", "[I", true)
  | 25 => ("CheapHoursModel", "toSave", "[I", true)
  | 26 => ("CheapHoursModel", "since", "[I", true)
  | 27 => ("CheapHoursModel", "isGuarded", "[Z", true)
  | 28 => ("CheapHoursModel", "levels", "I", false)
  | 29 => ("CheapHoursModel", "levelPrice", "[I", true)
  | 30 => ("CheapHoursModel", "chance", "[I", true)
  | 31 => ("CheapHoursModel", "means", "[J", true)
  | 32 => ("CheapHoursModel", "rules", "[I", true)
  | 33 => ("CheapHoursModel", "worsts", "[I", true)
  | _ => ("CheapHoursModel", "costs", "[I", true)
def tyX7 : Nat → FieldType := fun k => match k with
  | 0 => .int
  | 1 => .int
  | 2 => .array .int
  | 3 => .int
  | 4 => .array .int
  | 5 => .array .int
  | 6 => .array .int
  | 7 => .array .int
  | 8 => .array .int
  | 9 => .array .int
  | 10 => .array .int
  | 11 => .array .int
  | 12 => .array .int
  | 13 => .array .int
  | 14 => .array .int
  | 15 => .array .int
  | 16 => .array .int
  | 17 => .array .int
  | 18 => .array .int
  | 19 => .array .int
  | 20 => .array .int
  | 21 => .array .int
  | 22 => .array .int
  | 23 => .array .int
  | 24 => .array .int
  | 25 => .array .int
  | 26 => .array .int
  | 27 => .array .boolean
  | 28 => .int
  | 29 => .array .int
  | 30 => .array .int
  | 31 => .array .long
  | 32 => .array .int
  | 33 => .array .int
  | _ => .array .int
abbrev wsX70 : List Cond := u_ws RX7 TX7 35
theorem nmX7 : ∀ a, a < 35 → ∀ b, b < 35 → a ≠ b → (TX7 a).2.1 ≠ (TX7 b).2.1 := by decide +kernel
theorem tyX7_ok : ∀ k, k < 35 → parseFieldDescriptor (TX7 k).2.2.1 = some (tyX7 k) := by decide +kernel
abbrev cX7_init : ByteArray := prog_9_method_1_code
def yX7_init : MethodName := ⟨RX7, "<init>", "()V"⟩
abbrev cX7_in : ByteArray := prog_9_method_2_code
def yX7_in : MethodName := ⟨RX7, "in", "(III)Z"⟩
abbrev cX7_isJob : ByteArray := prog_9_method_3_code
def yX7_isJob : MethodName := ⟨RX7, "isJob", "(I)Z"⟩
abbrev cX7_price : ByteArray := prog_9_method_4_code
def yX7_price : MethodName := ⟨RX7, "price", "(IIII)Z"⟩
abbrev cX7_full : ByteArray := prog_9_method_5_code
def yX7_full : MethodName := ⟨RX7, "full", "(I)Z"⟩
abbrev cX7_job : ByteArray := prog_9_method_6_code
def yX7_job : MethodName := ⟨RX7, "job", "(III)I"⟩
abbrev cX7_need : ByteArray := prog_9_method_7_code
def yX7_need : MethodName := ⟨RX7, "need", "(I)I"⟩
abbrev cX7_loses : ByteArray := prog_9_method_8_code
def yX7_loses : MethodName := ⟨RX7, "loses", "(I)V"⟩
abbrev cX7_atFull : ByteArray := prog_9_method_9_code
def yX7_atFull : MethodName := ⟨RX7, "atFull", "(I)V"⟩
abbrev cX7_atMarket : ByteArray := prog_9_method_10_code
def yX7_atMarket : MethodName := ⟨RX7, "atMarket", "(II)V"⟩
abbrev cX7_keeps : ByteArray := prog_9_method_11_code
def yX7_keeps : MethodName := ⟨RX7, "keeps", "(I)V"⟩
abbrev cX7_hour : ByteArray := prog_9_method_12_code
def yX7_hour : MethodName := ⟨RX7, "hour", "(I)V"⟩
abbrev cX7_go : ByteArray := prog_9_method_13_code
def yX7_go : MethodName := ⟨RX7, "go", "(I)I"⟩
abbrev cX7_told : ByteArray := prog_9_method_14_code
def yX7_told : MethodName := ⟨RX7, "told", "(II)I"⟩
abbrev cX7_isTry : ByteArray := prog_9_method_15_code
def yX7_isTry : MethodName := ⟨RX7, "isTry", "(III)Z"⟩
abbrev cX7_power : ByteArray := prog_9_method_16_code
def yX7_power : MethodName := ⟨RX7, "power", "(II)J"⟩
abbrev cX7_tries : ByteArray := prog_9_method_17_code
def yX7_tries : MethodName := ⟨RX7, "tries", "(III)J"⟩
abbrev cX7_pieces : ByteArray := prog_9_method_18_code
def yX7_pieces : MethodName := ⟨RX7, "pieces", "(IIII)J"⟩
abbrev cX7_span : ByteArray := prog_9_method_19_code
def yX7_span : MethodName := ⟨RX7, "span", "(III)I"⟩
abbrev cX7_mean : ByteArray := prog_9_method_20_code
def yX7_mean : MethodName := ⟨RX7, "mean", "(IIIII)J"⟩
abbrev cX7_levels : ByteArray := prog_9_method_21_code
def yX7_levels : MethodName := ⟨RX7, "levels", "(I)Z"⟩
abbrev cX7_level : ByteArray := prog_9_method_22_code
def yX7_level : MethodName := ⟨RX7, "level", "(III)Z"⟩
abbrev cX7_isState : ByteArray := prog_9_method_23_code
def yX7_isState : MethodName := ⟨RX7, "isState", "(III)Z"⟩
abbrev cX7_at : ByteArray := prog_9_method_24_code
def yX7_at : MethodName := ⟨RX7, "at", "(III)I"⟩
abbrev cX7_next : ByteArray := prog_9_method_25_code
def yX7_next : MethodName := ⟨RX7, "next", "(III)J"⟩
abbrev cX7_worstNext : ByteArray := prog_9_method_26_code
def yX7_worstNext : MethodName := ⟨RX7, "worstNext", "(III)I"⟩
abbrev cX7_makes : ByteArray := prog_9_method_27_code
def yX7_makes : MethodName := ⟨RX7, "makes", "(II)V"⟩
abbrev cX7_state : ByteArray := prog_9_method_28_code
def yX7_state : MethodName := ⟨RX7, "state", "(IIIJI)V"⟩
abbrev cX7_best : ByteArray := prog_9_method_29_code
def yX7_best : MethodName := ⟨RX7, "best", "(IIIJJ)I"⟩
abbrev cX7_table : ByteArray := prog_9_method_30_code
def yX7_table : MethodName := ⟨RX7, "table", "(III)J"⟩
abbrev cX7_rule : ByteArray := prog_9_method_31_code
def yX7_rule : MethodName := ⟨RX7, "rule", "(III)I"⟩
abbrev cX7_worst : ByteArray := prog_9_method_32_code
def yX7_worst : MethodName := ⟨RX7, "worst", "(III)I"⟩
abbrev cX7_capped : ByteArray := prog_9_method_33_code
def yX7_capped : MethodName := ⟨RX7, "capped", "(IIII)J"⟩
abbrev cX7_priceAt : ByteArray := prog_9_method_34_code
def yX7_priceAt : MethodName := ⟨RX7, "priceAt", "(II)I"⟩
abbrev cX7_cheapest : ByteArray := prog_9_method_35_code
def yX7_cheapest : MethodName := ⟨RX7, "cheapest", "(III)I"⟩
abbrev cX7_oracle : ByteArray := prog_9_method_36_code
def yX7_oracle : MethodName := ⟨RX7, "oracle", "(I)I"⟩
abbrev cX7_count : ByteArray := prog_9_method_37_code
def yX7_count : MethodName := ⟨RX7, "count", "(I)I"⟩
def RJ9 : String := "java/lang/Math"
def TJ9 : u_T := fun k => match k with
  | _ => ("", "", "", false)
def tyJ9 : Nat → FieldType := fun k => match k with
  | _ => .int
abbrev wsJ90 : List Cond := u_ws RJ9 TJ9 0
theorem nmJ9 : ∀ a, a < 0 → ∀ b, b < 0 → a ≠ b → (TJ9 a).2.1 ≠ (TJ9 b).2.1 := by decide +kernel
theorem tyJ9_ok : ∀ k, k < 0 → parseFieldDescriptor (TJ9 k).2.2.1 = some (tyJ9 k) := by decide +kernel
abbrev cJ9_max_7cf53 : ByteArray := prog_10_method_65_code
def yJ9_max_7cf53 : MethodName := ⟨RJ9, "max", "(II)I"⟩
abbrev cJ9_min_7cf53 : ByteArray := prog_10_method_69_code
def yJ9_min_7cf53 : MethodName := ⟨RJ9, "min", "(II)I"⟩
def RJ7 : String := "java/util/Arrays"
def TJ7 : u_T := fun k => match k with
  | _ => ("", "", "", false)
def tyJ7 : Nat → FieldType := fun k => match k with
  | _ => .int
abbrev wsJ70 : List Cond := u_ws RJ7 TJ7 0
theorem nmJ7 : ∀ a, a < 0 → ∀ b, b < 0 → a ≠ b → (TJ7 a).2.1 ≠ (TJ7 b).2.1 := by decide +kernel
theorem tyJ7_ok : ∀ k, k < 0 → parseFieldDescriptor (TJ7 k).2.2.1 = some (tyJ7 k) := by decide +kernel
abbrev cJ7_fill_53178 : ByteArray := prog_11_method_103_code
def yJ7_fill_53178 : MethodName := ⟨RJ7, "fill", "([II)V"⟩
def RL : String := "CheapHoursLaw"
abbrev cL_law : ByteArray := code
def yL_law : MethodName := ⟨RL, "law", "([I)Z"⟩
def wsX0_init : List Cond := .code yX0_init cX0_init 2 none :: ([.methodLink RX0 7 objectInit, .instanceMethod objectInit, .code objectInit ⟨#[0xb1]⟩ 1 none, .fieldLink RX0 13 "CheapHours$Hindsight" "prices" "LCheapHours$Prices;", .arrayClass .int, .fieldLink RX0 19 "CheapHours$Hindsight" "least" "[I"] ++ wsX00)
def wsX6_within : List Cond := .code yX6_within cX6_within 3 (some .boolean) :: ([])
def wsX4_isLetHour : List Cond := .code yX4_isLetHour cX4_isLetHour 2 (some .boolean) :: ([.static yX6_within, .initialized RX6, .code yX6_within cX6_within 3 (some .boolean)])
def wsX4_at : List Cond := .code yX4_at cX4_at 3 (some .int) :: ([.fieldLink RX4 21 "CheapHours$Prices" "atFull" "I", .fieldLink RX4 9 "CheapHours$Prices" "let" "[I", .methodLink RX4 25 yX4_isLetHour, .static yX4_isLetHour, .initialized RX4, .code yX4_isLetHour cX4_isLetHour 2 (some .boolean), .static yX6_within, .initialized RX6, .code yX6_within cX6_within 3 (some .boolean)] ++ wsX40)
def wsX0_sum : List Cond := .code yX0_sum cX0_sum 2 (some .int) :: ([.constant RX0 74 (1000000000), .methodLink RX0 66 Lib.Math.min.name, .static Lib.Math.min.name, .initialized "java/lang/Math", .code Lib.Math.min.name Lib.Math.min.code 2 (some .int)])
def wsX0_stay : List Cond := .code yX0_stay cX0_stay 7 (some .int) :: ([.fieldLink RX0 13 "CheapHours$Hindsight" "prices" "LCheapHours$Prices;", .constant RX0 74 (1000000000), .methodLink RX0 82 yX4_at, .instanceMethod yX4_at, .selects RX4 yX4_at yX4_at, .initialized RX4, .code yX4_at cX4_at 3 (some .int), .fieldLink RX4 21 "CheapHours$Prices" "atFull" "I", .fieldLink RX4 9 "CheapHours$Prices" "let" "[I", .methodLink RX4 25 yX4_isLetHour, .static yX4_isLetHour, .code yX4_isLetHour cX4_isLetHour 2 (some .boolean), .static yX6_within, .initialized RX6, .code yX6_within cX6_within 3 (some .boolean), .methodLink RX0 62 yX0_sum, .static yX0_sum, .initialized RX0, .code yX0_sum cX0_sum 2 (some .int), .methodLink RX0 66 Lib.Math.min.name, .static Lib.Math.min.name, .initialized "java/lang/Math", .code Lib.Math.min.name Lib.Math.min.code 2 (some .int)] ++ wsX00 ++ wsX40)
def wsX0_slotOf : List Cond := .code yX0_slotOf cX0_slotOf 4 (some .int) :: ([])
def wsX0_from : List Cond := .code yX0_from cX0_from 6 (some .int) :: ([.fieldLink RX0 23 "CheapHours$Terms" "due" "I", .constant RX0 74 (1000000000), .fieldLink RX0 38 "CheapHours$Terms" "work" "I", .fieldLink RX0 19 "CheapHours$Hindsight" "least" "[I", .methodLink RX0 75 yX0_slotOf, .static yX0_slotOf, .initialized RX0, .code yX0_slotOf cX0_slotOf 4 (some .int), .static yX6_within, .initialized RX6, .code yX6_within cX6_within 3 (some .boolean)] ++ wsX50 ++ wsX00)
def wsX0_fromSaved : List Cond := .code yX0_fromSaved cX0_fromSaved 5 (some .int) :: ([.methodLink RX0 66 Lib.Math.min.name, .static Lib.Math.min.name, .initialized "java/lang/Math", .code Lib.Math.min.name Lib.Math.min.code 2 (some .int), .methodLink RX0 34 yX0_from, .instanceMethod yX0_from, .selects RX0 yX0_from yX0_from, .initialized RX0, .code yX0_from cX0_from 6 (some .int), .fieldLink RX0 23 "CheapHours$Terms" "due" "I", .constant RX0 74 (1000000000), .fieldLink RX0 38 "CheapHours$Terms" "work" "I", .fieldLink RX0 19 "CheapHours$Hindsight" "least" "[I", .methodLink RX0 75 yX0_slotOf, .static yX0_slotOf, .code yX0_slotOf cX0_slotOf 4 (some .int), .static yX6_within, .initialized RX6, .code yX6_within cX6_within 3 (some .boolean)] ++ wsX50 ++ wsX00)
def wsX0_onMachine_r1 : List Cond := [Cond.fieldLink RX0 56 "CheapHours$Terms" "save" "I", Cond.methodLink RX0 66 Lib.Math.min.name, Cond.static Lib.Math.min.name, Cond.initialized "java/lang/Math", Cond.code Lib.Math.min.name Lib.Math.min.code 2 (some .int), Cond.methodLink RX0 52 yX0_stay, Cond.instanceMethod yX0_stay, Cond.selects RX0 yX0_stay yX0_stay, Cond.initialized RX0, Cond.code yX0_stay cX0_stay 7 (some .int), Cond.fieldLink RX0 13 "CheapHours$Hindsight" "prices" "LCheapHours$Prices;", Cond.constant RX0 74 (1000000000), Cond.methodLink RX0 82 yX4_at, Cond.instanceMethod yX4_at, Cond.selects RX4 yX4_at yX4_at, Cond.initialized RX4, Cond.code yX4_at cX4_at 3 (some .int), Cond.fieldLink RX4 21 "CheapHours$Prices" "atFull" "I", Cond.fieldLink RX4 9 "CheapHours$Prices" "let" "[I", Cond.methodLink RX4 25 yX4_isLetHour, Cond.static yX4_isLetHour, Cond.code yX4_isLetHour cX4_isLetHour 2 (some .boolean), Cond.static yX6_within, Cond.initialized RX6]
def wsX0_onMachine_r2 : List Cond := [Cond.code yX6_within cX6_within 3 (some .boolean), Cond.methodLink RX0 62 yX0_sum, Cond.static yX0_sum, Cond.code yX0_sum cX0_sum 2 (some .int), Cond.methodLink RX0 59 yX0_fromSaved, Cond.instanceMethod yX0_fromSaved, Cond.selects RX0 yX0_fromSaved yX0_fromSaved, Cond.code yX0_fromSaved cX0_fromSaved 5 (some .int), Cond.methodLink RX0 34 yX0_from, Cond.instanceMethod yX0_from, Cond.selects RX0 yX0_from yX0_from, Cond.code yX0_from cX0_from 6 (some .int), Cond.fieldLink RX0 23 "CheapHours$Terms" "due" "I", Cond.fieldLink RX0 38 "CheapHours$Terms" "work" "I", Cond.fieldLink RX0 19 "CheapHours$Hindsight" "least" "[I", Cond.methodLink RX0 75 yX0_slotOf, Cond.static yX0_slotOf, Cond.code yX0_slotOf cX0_slotOf 4 (some .int)]
def wsX0_onMachine : List Cond := .code yX0_onMachine cX0_onMachine 8 (some .int) :: ((wsX0_onMachine_r1 ++ wsX0_onMachine_r2) ++ wsX50 ++ wsX00 ++ wsX40)
def wsX0_put : List Cond := .code yX0_put cX0_put 6 none :: ([.fieldLink RX0 19 "CheapHours$Hindsight" "least" "[I", .methodLink RX0 75 yX0_slotOf, .static yX0_slotOf, .initialized RX0, .code yX0_slotOf cX0_slotOf 4 (some .int), .static yX6_within, .initialized RX6, .code yX6_within cX6_within 3 (some .boolean)] ++ wsX00)
def wsX0_onNone_r1 : List Cond := [Cond.fieldLink RX0 71 "CheapHours$Terms" "bring" "I", Cond.constant RX0 74 (1000000000), Cond.methodLink RX0 66 Lib.Math.min.name, Cond.static Lib.Math.min.name, Cond.initialized "java/lang/Math", Cond.code Lib.Math.min.name Lib.Math.min.code 2 (some .int), Cond.methodLink RX0 34 yX0_from, Cond.instanceMethod yX0_from, Cond.selects RX0 yX0_from yX0_from, Cond.initialized RX0, Cond.code yX0_from cX0_from 6 (some .int), Cond.fieldLink RX0 23 "CheapHours$Terms" "due" "I", Cond.fieldLink RX0 38 "CheapHours$Terms" "work" "I", Cond.fieldLink RX0 19 "CheapHours$Hindsight" "least" "[I", Cond.methodLink RX0 75 yX0_slotOf, Cond.static yX0_slotOf, Cond.code yX0_slotOf cX0_slotOf 4 (some .int), Cond.static yX6_within, Cond.initialized RX6, Cond.code yX6_within cX6_within 3 (some .boolean), Cond.methodLink RX0 52 yX0_stay, Cond.instanceMethod yX0_stay, Cond.selects RX0 yX0_stay yX0_stay, Cond.code yX0_stay cX0_stay 7 (some .int)]
def wsX0_onNone_r2 : List Cond := [Cond.fieldLink RX0 13 "CheapHours$Hindsight" "prices" "LCheapHours$Prices;", Cond.methodLink RX0 82 yX4_at, Cond.instanceMethod yX4_at, Cond.selects RX4 yX4_at yX4_at, Cond.initialized RX4, Cond.code yX4_at cX4_at 3 (some .int), Cond.fieldLink RX4 21 "CheapHours$Prices" "atFull" "I", Cond.fieldLink RX4 9 "CheapHours$Prices" "let" "[I", Cond.methodLink RX4 25 yX4_isLetHour, Cond.static yX4_isLetHour, Cond.code yX4_isLetHour cX4_isLetHour 2 (some .boolean), Cond.methodLink RX0 62 yX0_sum, Cond.static yX0_sum, Cond.code yX0_sum cX0_sum 2 (some .int)]
def wsX0_onNone : List Cond := .code yX0_onNone cX0_onNone 9 (some .int) :: ((wsX0_onNone_r1 ++ wsX0_onNone_r2) ++ wsX50 ++ wsX00 ++ wsX40)
def wsX0_settleHour_r1 : List Cond := [Cond.fieldLink RX0 38 "CheapHours$Terms" "work" "I", Cond.methodLink RX0 41 yX0_onMachine, Cond.instanceMethod yX0_onMachine, Cond.selects RX0 yX0_onMachine yX0_onMachine, Cond.initialized RX0, Cond.code yX0_onMachine cX0_onMachine 8 (some .int), Cond.fieldLink RX0 56 "CheapHours$Terms" "save" "I", Cond.methodLink RX0 66 Lib.Math.min.name, Cond.static Lib.Math.min.name, Cond.initialized "java/lang/Math", Cond.code Lib.Math.min.name Lib.Math.min.code 2 (some .int), Cond.methodLink RX0 52 yX0_stay, Cond.instanceMethod yX0_stay, Cond.selects RX0 yX0_stay yX0_stay, Cond.code yX0_stay cX0_stay 7 (some .int), Cond.fieldLink RX0 13 "CheapHours$Hindsight" "prices" "LCheapHours$Prices;", Cond.constant RX0 74 (1000000000), Cond.methodLink RX0 82 yX4_at, Cond.instanceMethod yX4_at, Cond.selects RX4 yX4_at yX4_at, Cond.initialized RX4, Cond.code yX4_at cX4_at 3 (some .int), Cond.fieldLink RX4 21 "CheapHours$Prices" "atFull" "I", Cond.fieldLink RX4 9 "CheapHours$Prices" "let" "[I"]
def wsX0_settleHour_r2 : List Cond := [Cond.methodLink RX4 25 yX4_isLetHour, Cond.static yX4_isLetHour, Cond.code yX4_isLetHour cX4_isLetHour 2 (some .boolean), Cond.static yX6_within, Cond.initialized RX6, Cond.code yX6_within cX6_within 3 (some .boolean), Cond.methodLink RX0 62 yX0_sum, Cond.static yX0_sum, Cond.code yX0_sum cX0_sum 2 (some .int), Cond.methodLink RX0 59 yX0_fromSaved, Cond.instanceMethod yX0_fromSaved, Cond.selects RX0 yX0_fromSaved yX0_fromSaved, Cond.code yX0_fromSaved cX0_fromSaved 5 (some .int), Cond.methodLink RX0 34 yX0_from, Cond.instanceMethod yX0_from, Cond.selects RX0 yX0_from yX0_from, Cond.code yX0_from cX0_from 6 (some .int), Cond.fieldLink RX0 23 "CheapHours$Terms" "due" "I", Cond.fieldLink RX0 19 "CheapHours$Hindsight" "least" "[I", Cond.methodLink RX0 75 yX0_slotOf, Cond.static yX0_slotOf, Cond.code yX0_slotOf cX0_slotOf 4 (some .int), Cond.methodLink RX0 44 yX0_put, Cond.instanceMethod yX0_put]
def wsX0_settleHour_r3 : List Cond := [Cond.selects RX0 yX0_put yX0_put, Cond.code yX0_put cX0_put 6 none, Cond.methodLink RX0 48 yX0_onNone, Cond.instanceMethod yX0_onNone, Cond.selects RX0 yX0_onNone yX0_onNone, Cond.code yX0_onNone cX0_onNone 9 (some .int), Cond.fieldLink RX0 71 "CheapHours$Terms" "bring" "I"]
def wsX0_settleHour : List Cond := .code yX0_settleHour cX0_settleHour 5 none :: ((wsX0_settleHour_r1 ++ (wsX0_settleHour_r2 ++ wsX0_settleHour_r3)) ++ wsX50 ++ wsX00 ++ wsX40)
def wsX0_leastSum_r1 : List Cond := [Cond.fieldLink RX0 23 "CheapHours$Terms" "due" "I", Cond.fieldLink RX0 27 "CheapHours$Terms" "came" "I", Cond.methodLink RX0 30 yX0_settleHour, Cond.instanceMethod yX0_settleHour, Cond.selects RX0 yX0_settleHour yX0_settleHour, Cond.initialized RX0, Cond.code yX0_settleHour cX0_settleHour 5 none, Cond.fieldLink RX0 38 "CheapHours$Terms" "work" "I", Cond.methodLink RX0 41 yX0_onMachine, Cond.instanceMethod yX0_onMachine, Cond.selects RX0 yX0_onMachine yX0_onMachine, Cond.code yX0_onMachine cX0_onMachine 8 (some .int), Cond.fieldLink RX0 56 "CheapHours$Terms" "save" "I", Cond.methodLink RX0 66 Lib.Math.min.name, Cond.static Lib.Math.min.name, Cond.initialized "java/lang/Math", Cond.code Lib.Math.min.name Lib.Math.min.code 2 (some .int), Cond.methodLink RX0 52 yX0_stay, Cond.instanceMethod yX0_stay, Cond.selects RX0 yX0_stay yX0_stay, Cond.code yX0_stay cX0_stay 7 (some .int), Cond.fieldLink RX0 13 "CheapHours$Hindsight" "prices" "LCheapHours$Prices;", Cond.constant RX0 74 (1000000000), Cond.methodLink RX0 82 yX4_at]
def wsX0_leastSum_r2 : List Cond := [Cond.instanceMethod yX4_at, Cond.selects RX4 yX4_at yX4_at, Cond.initialized RX4, Cond.code yX4_at cX4_at 3 (some .int), Cond.fieldLink RX4 21 "CheapHours$Prices" "atFull" "I", Cond.fieldLink RX4 9 "CheapHours$Prices" "let" "[I", Cond.methodLink RX4 25 yX4_isLetHour, Cond.static yX4_isLetHour, Cond.code yX4_isLetHour cX4_isLetHour 2 (some .boolean), Cond.static yX6_within, Cond.initialized RX6, Cond.code yX6_within cX6_within 3 (some .boolean), Cond.methodLink RX0 62 yX0_sum, Cond.static yX0_sum, Cond.code yX0_sum cX0_sum 2 (some .int), Cond.methodLink RX0 59 yX0_fromSaved, Cond.instanceMethod yX0_fromSaved, Cond.selects RX0 yX0_fromSaved yX0_fromSaved, Cond.code yX0_fromSaved cX0_fromSaved 5 (some .int), Cond.methodLink RX0 34 yX0_from, Cond.instanceMethod yX0_from, Cond.selects RX0 yX0_from yX0_from, Cond.code yX0_from cX0_from 6 (some .int), Cond.fieldLink RX0 19 "CheapHours$Hindsight" "least" "[I"]
def wsX0_leastSum_r3 : List Cond := [Cond.methodLink RX0 75 yX0_slotOf, Cond.static yX0_slotOf, Cond.code yX0_slotOf cX0_slotOf 4 (some .int), Cond.methodLink RX0 44 yX0_put, Cond.instanceMethod yX0_put, Cond.selects RX0 yX0_put yX0_put, Cond.code yX0_put cX0_put 6 none, Cond.methodLink RX0 48 yX0_onNone, Cond.instanceMethod yX0_onNone, Cond.selects RX0 yX0_onNone yX0_onNone, Cond.code yX0_onNone cX0_onNone 9 (some .int), Cond.fieldLink RX0 71 "CheapHours$Terms" "bring" "I"]
def wsX0_leastSum : List Cond := .code yX0_leastSum cX0_leastSum 3 (some .int) :: ((wsX0_leastSum_r1 ++ (wsX0_leastSum_r2 ++ wsX0_leastSum_r3)) ++ wsX50 ++ wsX00 ++ wsX40)
def wsX1_init : List Cond := .code yX1_init cX1_init 2 none :: ([.methodLink RX1 3 objectInit, .instanceMethod objectInit, .code objectInit ⟨#[0xb1]⟩ 1 none, .fieldLink RX1 9 "CheapHours$Job" "terms" "LCheapHours$Terms;", .fieldLink RX1 15 "CheapHours$Job" "place" "I", .fieldLink RX1 19 "CheapHours$Job" "readyAt" "I"] ++ wsX10)
def wsX1_isReady : List Cond := .code yX1_isReady cX1_isReady 1 (some .boolean) :: ([.fieldLink RX1 19 "CheapHours$Job" "readyAt" "I"] ++ wsX10)
def wsX1_need : List Cond := .code yX1_need cX1_need 1 (some .int) :: ([.fieldLink RX1 22 "CheapHours$Job" "saved" "I", .fieldLink RX1 9 "CheapHours$Job" "terms" "LCheapHours$Terms;", .fieldLink RX1 97 "CheapHours$Terms" "bring" "I", .fieldLink RX1 94 "CheapHours$Terms" "work" "I"] ++ wsX10 ++ wsX50)
def wsX1_tell : List Cond := .code yX1_tell cX1_tell 2 (some .int) :: ([.fieldLink RX1 22 "CheapHours$Job" "saved" "I", .fieldLink RX1 25 "CheapHours$Job" "unsaved" "I", .fieldLink RX1 28 "CheapHours$Job" "lost" "I", .fieldLink RX1 31 "CheapHours$Job" "workHours" "I", .fieldLink RX1 34 "CheapHours$Job" "bringHours" "I", .fieldLink RX1 37 "CheapHours$Job" "saveHours" "I", .fieldLink RX1 40 "CheapHours$Job" "waitHours" "I", .fieldLink RX1 43 "CheapHours$Job" "paid" "I", .fieldLink RX1 46 "CheapHours$Job" "fullHours" "I", .fieldLink RX1 15 "CheapHours$Job" "place" "I", .fieldLink RX1 19 "CheapHours$Job" "readyAt" "I", .fieldLink RX1 53 "CheapHours$Job" "taken" "I", .methodLink RX1 49 yX1_need, .instanceMethod yX1_need, .selects RX1 yX1_need yX1_need, .initialized RX1, .code yX1_need cX1_need 1 (some .int), .fieldLink RX1 9 "CheapHours$Job" "terms" "LCheapHours$Terms;", .fieldLink RX1 97 "CheapHours$Terms" "bring" "I", .fieldLink RX1 94 "CheapHours$Terms" "work" "I"] ++ wsX10 ++ wsX50)
def wsX1_loseUnsaved : List Cond := .code yX1_loseUnsaved cX1_loseUnsaved 1 none :: ([.fieldLink RX1 28 "CheapHours$Job" "lost" "I", .fieldLink RX1 25 "CheapHours$Job" "unsaved" "I", .fieldLink RX1 103 "CheapHours$Job" "bringLeft" "I", .fieldLink RX1 112 "CheapHours$Job" "saveLeft" "I"] ++ wsX10)
def wsX1_comeToFull : List Cond := .code yX1_comeToFull cX1_comeToFull 1 none :: ([.fieldLink RX1 15 "CheapHours$Job" "place" "I", .fieldLink RX1 22 "CheapHours$Job" "saved" "I", .fieldLink RX1 9 "CheapHours$Job" "terms" "LCheapHours$Terms;", .fieldLink RX1 97 "CheapHours$Terms" "bring" "I", .fieldLink RX1 103 "CheapHours$Job" "bringLeft" "I", .fieldLink RX1 28 "CheapHours$Job" "lost" "I", .methodLink RX1 109 yX1_loseUnsaved, .instanceMethod yX1_loseUnsaved, .selects RX1 yX1_loseUnsaved yX1_loseUnsaved, .initialized RX1, .code yX1_loseUnsaved cX1_loseUnsaved 1 none, .fieldLink RX1 25 "CheapHours$Job" "unsaved" "I", .fieldLink RX1 112 "CheapHours$Job" "saveLeft" "I"] ++ wsX10 ++ wsX50)
def wsX1_bringOn : List Cond := .code yX1_bringOn cX1_bringOn 1 none :: ([.fieldLink RX1 103 "CheapHours$Job" "bringLeft" "I", .fieldLink RX1 34 "CheapHours$Job" "bringHours" "I"] ++ wsX10)
def wsX1_passAtFull_r1 : List Cond := [Cond.fieldLink RX1 15 "CheapHours$Job" "place" "I", Cond.fieldLink RX1 43 "CheapHours$Job" "paid" "I", Cond.fieldLink RX1 46 "CheapHours$Job" "fullHours" "I", Cond.fieldLink RX1 103 "CheapHours$Job" "bringLeft" "I", Cond.fieldLink RX1 31 "CheapHours$Job" "workHours" "I", Cond.fieldLink RX1 22 "CheapHours$Job" "saved" "I", Cond.methodLink RX1 100 yX1_comeToFull, Cond.instanceMethod yX1_comeToFull, Cond.selects RX1 yX1_comeToFull yX1_comeToFull, Cond.initialized RX1, Cond.code yX1_comeToFull cX1_comeToFull 1 none, Cond.fieldLink RX1 9 "CheapHours$Job" "terms" "LCheapHours$Terms;", Cond.fieldLink RX1 97 "CheapHours$Terms" "bring" "I", Cond.fieldLink RX1 28 "CheapHours$Job" "lost" "I", Cond.methodLink RX1 109 yX1_loseUnsaved, Cond.instanceMethod yX1_loseUnsaved, Cond.selects RX1 yX1_loseUnsaved yX1_loseUnsaved, Cond.code yX1_loseUnsaved cX1_loseUnsaved 1 none, Cond.fieldLink RX1 25 "CheapHours$Job" "unsaved" "I", Cond.fieldLink RX1 112 "CheapHours$Job" "saveLeft" "I", Cond.methodLink RX1 106 yX1_bringOn, Cond.instanceMethod yX1_bringOn, Cond.selects RX1 yX1_bringOn yX1_bringOn, Cond.code yX1_bringOn cX1_bringOn 1 none]
def wsX1_passAtFull_r2 : List Cond := [Cond.fieldLink RX1 34 "CheapHours$Job" "bringHours" "I"]
def wsX1_passAtFull : List Cond := .code yX1_passAtFull cX1_passAtFull 2 none :: ((wsX1_passAtFull_r1 ++ wsX1_passAtFull_r2) ++ wsX10 ++ wsX50)
def wsX1_passWaiting : List Cond := .code yX1_passWaiting cX1_passWaiting 1 none :: ([.fieldLink RX1 15 "CheapHours$Job" "place" "I", .fieldLink RX1 53 "CheapHours$Job" "taken" "I", .fieldLink RX1 40 "CheapHours$Job" "waitHours" "I", .methodLink RX1 109 yX1_loseUnsaved, .instanceMethod yX1_loseUnsaved, .selects RX1 yX1_loseUnsaved yX1_loseUnsaved, .initialized RX1, .code yX1_loseUnsaved cX1_loseUnsaved 1 none, .fieldLink RX1 28 "CheapHours$Job" "lost" "I", .fieldLink RX1 25 "CheapHours$Job" "unsaved" "I", .fieldLink RX1 103 "CheapHours$Job" "bringLeft" "I", .fieldLink RX1 112 "CheapHours$Job" "saveLeft" "I"] ++ wsX10)
def wsX1_keepAll : List Cond := .code yX1_keepAll cX1_keepAll 1 none :: ([.fieldLink RX1 22 "CheapHours$Job" "saved" "I", .fieldLink RX1 25 "CheapHours$Job" "unsaved" "I"] ++ wsX10)
def wsX1_saveOn : List Cond := .code yX1_saveOn cX1_saveOn 1 none :: ([.fieldLink RX1 112 "CheapHours$Job" "saveLeft" "I", .fieldLink RX1 37 "CheapHours$Job" "saveHours" "I", .methodLink RX1 121 yX1_keepAll, .instanceMethod yX1_keepAll, .selects RX1 yX1_keepAll yX1_keepAll, .initialized RX1, .code yX1_keepAll cX1_keepAll 1 none, .fieldLink RX1 22 "CheapHours$Job" "saved" "I", .fieldLink RX1 25 "CheapHours$Job" "unsaved" "I"] ++ wsX10)
def wsX1_workOn : List Cond := .code yX1_workOn cX1_workOn 1 none :: ([.fieldLink RX1 31 "CheapHours$Job" "workHours" "I", .fieldLink RX1 25 "CheapHours$Job" "unsaved" "I", .fieldLink RX1 9 "CheapHours$Job" "terms" "LCheapHours$Terms;", .fieldLink RX1 124 "CheapHours$Terms" "span" "I", .fieldLink RX1 22 "CheapHours$Job" "saved" "I", .fieldLink RX1 94 "CheapHours$Terms" "work" "I", .fieldLink RX1 127 "CheapHours$Terms" "save" "I", .fieldLink RX1 112 "CheapHours$Job" "saveLeft" "I", .methodLink RX1 121 yX1_keepAll, .instanceMethod yX1_keepAll, .selects RX1 yX1_keepAll yX1_keepAll, .initialized RX1, .code yX1_keepAll cX1_keepAll 1 none] ++ wsX10 ++ wsX50)
def wsX1_passAtMarket_r1 : List Cond := [Cond.fieldLink RX1 15 "CheapHours$Job" "place" "I", Cond.fieldLink RX1 22 "CheapHours$Job" "saved" "I", Cond.fieldLink RX1 9 "CheapHours$Job" "terms" "LCheapHours$Terms;", Cond.fieldLink RX1 97 "CheapHours$Terms" "bring" "I", Cond.fieldLink RX1 103 "CheapHours$Job" "bringLeft" "I", Cond.fieldLink RX1 43 "CheapHours$Job" "paid" "I", Cond.fieldLink RX1 112 "CheapHours$Job" "saveLeft" "I", Cond.methodLink RX1 106 yX1_bringOn, Cond.instanceMethod yX1_bringOn, Cond.selects RX1 yX1_bringOn yX1_bringOn, Cond.initialized RX1, Cond.code yX1_bringOn cX1_bringOn 1 none, Cond.fieldLink RX1 34 "CheapHours$Job" "bringHours" "I", Cond.methodLink RX1 115 yX1_saveOn, Cond.instanceMethod yX1_saveOn, Cond.selects RX1 yX1_saveOn yX1_saveOn, Cond.code yX1_saveOn cX1_saveOn 1 none, Cond.fieldLink RX1 37 "CheapHours$Job" "saveHours" "I", Cond.methodLink RX1 121 yX1_keepAll, Cond.instanceMethod yX1_keepAll, Cond.selects RX1 yX1_keepAll yX1_keepAll, Cond.code yX1_keepAll cX1_keepAll 1 none, Cond.fieldLink RX1 25 "CheapHours$Job" "unsaved" "I", Cond.methodLink RX1 118 yX1_workOn]
def wsX1_passAtMarket_r2 : List Cond := [Cond.instanceMethod yX1_workOn, Cond.selects RX1 yX1_workOn yX1_workOn, Cond.code yX1_workOn cX1_workOn 1 none, Cond.fieldLink RX1 31 "CheapHours$Job" "workHours" "I", Cond.fieldLink RX1 124 "CheapHours$Terms" "span" "I", Cond.fieldLink RX1 94 "CheapHours$Terms" "work" "I", Cond.fieldLink RX1 127 "CheapHours$Terms" "save" "I"]
def wsX1_passAtMarket : List Cond := .code yX1_passAtMarket cX1_passAtMarket 2 none :: ((wsX1_passAtMarket_r1 ++ wsX1_passAtMarket_r2) ++ wsX10 ++ wsX50)
def wsX1_passHour_r1 : List Cond := [Cond.fieldLink RX1 60 "CheapHours$Job" "guarded" "Z", Cond.fieldLink RX1 9 "CheapHours$Job" "terms" "LCheapHours$Terms;", Cond.fieldLink RX1 64 "CheapHours$Terms" "due" "I", Cond.fieldLink RX1 69 "CheapHours$Terms" "market" "I", Cond.fieldLink RX1 78 "CheapHours$Prices" "atFull" "I", Cond.fieldLink RX1 85 "CheapHours$Terms" "bid" "I", Cond.fieldLink RX1 22 "CheapHours$Job" "saved" "I", Cond.fieldLink RX1 94 "CheapHours$Terms" "work" "I", Cond.fieldLink RX1 19 "CheapHours$Job" "readyAt" "I", Cond.fieldLink RX1 15 "CheapHours$Job" "place" "I", Cond.methodLink RX1 56 yX1_isReady, Cond.instanceMethod yX1_isReady, Cond.selects RX1 yX1_isReady yX1_isReady, Cond.initialized RX1, Cond.code yX1_isReady cX1_isReady 1 (some .boolean), Cond.methodLink RX1 49 yX1_need, Cond.instanceMethod yX1_need, Cond.selects RX1 yX1_need yX1_need, Cond.code yX1_need cX1_need 1 (some .int), Cond.fieldLink RX1 97 "CheapHours$Terms" "bring" "I", Cond.methodLink RX1 72 yX4_at, Cond.instanceMethod yX4_at, Cond.selects RX4 yX4_at yX4_at, Cond.initialized RX4]
def wsX1_passHour_r2 : List Cond := [Cond.code yX4_at cX4_at 3 (some .int), Cond.fieldLink RX4 21 "CheapHours$Prices" "atFull" "I", Cond.fieldLink RX4 9 "CheapHours$Prices" "let" "[I", Cond.methodLink RX4 25 yX4_isLetHour, Cond.static yX4_isLetHour, Cond.code yX4_isLetHour cX4_isLetHour 2 (some .boolean), Cond.static yX6_within, Cond.initialized RX6, Cond.code yX6_within cX6_within 3 (some .boolean), Cond.methodLink RX1 81 yX1_passAtFull, Cond.instanceMethod yX1_passAtFull, Cond.selects RX1 yX1_passAtFull yX1_passAtFull, Cond.code yX1_passAtFull cX1_passAtFull 2 none, Cond.fieldLink RX1 43 "CheapHours$Job" "paid" "I", Cond.fieldLink RX1 46 "CheapHours$Job" "fullHours" "I", Cond.fieldLink RX1 103 "CheapHours$Job" "bringLeft" "I", Cond.fieldLink RX1 31 "CheapHours$Job" "workHours" "I", Cond.methodLink RX1 100 yX1_comeToFull, Cond.instanceMethod yX1_comeToFull, Cond.selects RX1 yX1_comeToFull yX1_comeToFull, Cond.code yX1_comeToFull cX1_comeToFull 1 none, Cond.fieldLink RX1 28 "CheapHours$Job" "lost" "I", Cond.methodLink RX1 109 yX1_loseUnsaved, Cond.instanceMethod yX1_loseUnsaved]
def wsX1_passHour_r3 : List Cond := [Cond.selects RX1 yX1_loseUnsaved yX1_loseUnsaved, Cond.code yX1_loseUnsaved cX1_loseUnsaved 1 none, Cond.fieldLink RX1 25 "CheapHours$Job" "unsaved" "I", Cond.fieldLink RX1 112 "CheapHours$Job" "saveLeft" "I", Cond.methodLink RX1 106 yX1_bringOn, Cond.instanceMethod yX1_bringOn, Cond.selects RX1 yX1_bringOn yX1_bringOn, Cond.code yX1_bringOn cX1_bringOn 1 none, Cond.fieldLink RX1 34 "CheapHours$Job" "bringHours" "I", Cond.methodLink RX1 88 yX1_passWaiting, Cond.instanceMethod yX1_passWaiting, Cond.selects RX1 yX1_passWaiting yX1_passWaiting, Cond.code yX1_passWaiting cX1_passWaiting 1 none, Cond.fieldLink RX1 53 "CheapHours$Job" "taken" "I", Cond.fieldLink RX1 40 "CheapHours$Job" "waitHours" "I", Cond.methodLink RX1 91 yX1_passAtMarket, Cond.instanceMethod yX1_passAtMarket, Cond.selects RX1 yX1_passAtMarket yX1_passAtMarket, Cond.code yX1_passAtMarket cX1_passAtMarket 2 none, Cond.methodLink RX1 115 yX1_saveOn, Cond.instanceMethod yX1_saveOn, Cond.selects RX1 yX1_saveOn yX1_saveOn, Cond.code yX1_saveOn cX1_saveOn 1 none, Cond.fieldLink RX1 37 "CheapHours$Job" "saveHours" "I"]
def wsX1_passHour_r4 : List Cond := [Cond.methodLink RX1 121 yX1_keepAll, Cond.instanceMethod yX1_keepAll, Cond.selects RX1 yX1_keepAll yX1_keepAll, Cond.code yX1_keepAll cX1_keepAll 1 none, Cond.methodLink RX1 118 yX1_workOn, Cond.instanceMethod yX1_workOn, Cond.selects RX1 yX1_workOn yX1_workOn, Cond.code yX1_workOn cX1_workOn 1 none, Cond.fieldLink RX1 124 "CheapHours$Terms" "span" "I", Cond.fieldLink RX1 127 "CheapHours$Terms" "save" "I"]
def wsX1_passHour : List Cond := .code yX1_passHour cX1_passHour 4 none :: ((wsX1_passHour_r1 ++ (wsX1_passHour_r2 ++ (wsX1_passHour_r3 ++ wsX1_passHour_r4))) ++ wsX10 ++ wsX50 ++ wsX40)
def wsX2_canBe : List Cond := .code yX2_canBe cX2_canBe 3 (some .boolean) :: ([.static yX6_within, .initialized RX6, .code yX6_within cX6_within 3 (some .boolean)])
def wsX2_power : List Cond := .code yX2_power cX2_power 5 (some .long) :: ([])
def wsX2_above : List Cond := .code yX2_above cX2_above 13 (some .long) :: ([.methodLink RX2 19 Lib.Math.min.name, .static Lib.Math.min.name, .initialized "java/lang/Math", .code Lib.Math.min.name Lib.Math.min.code 2 (some .int), .methodLink RX2 25 yX2_power, .static yX2_power, .initialized RX2, .code yX2_power cX2_power 5 (some .long)])
def wsX2_bestSpan : List Cond := .code yX2_bestSpan cX2_bestSpan 9 (some .int) :: ([.methodLink RX2 13 yX2_above, .static yX2_above, .initialized RX2, .code yX2_above cX2_above 13 (some .long), .methodLink RX2 19 Lib.Math.min.name, .static Lib.Math.min.name, .initialized "java/lang/Math", .code Lib.Math.min.name Lib.Math.min.code 2 (some .int), .methodLink RX2 25 yX2_power, .static yX2_power, .code yX2_power cX2_power 5 (some .long)])
def wsX2_commonDivisor : List Cond := .code yX2_commonDivisor cX2_commonDivisor 11 (some .long) :: ([])
def wsX3_init : List Cond := .code yX3_init cX3_init 2 none :: ([.methodLink RX3 5 objectInit, .instanceMethod objectInit, .code objectInit ⟨#[0xb1]⟩ 1 none, .fieldLink RX3 11 "CheapHours$Plan" "prices" "LCheapHours$Prices;", .arrayClass .int, .fieldLink RX3 15 "CheapHours$Plan" "asked" "[I", .fieldLink RX3 19 "CheapHours$Plan" "chance" "[I", .arrayClass .long, .fieldLink RX3 22 "CheapHours$Plan" "mean" "[J", .fieldLink RX3 26 "CheapHours$Plan" "choice" "[I", .fieldLink RX3 29 "CheapHours$Plan" "greatest" "[I", .fieldLink RX3 32 "CheapHours$Plan" "meanByCap" "[J"] ++ wsX30)
def wsX3_forget : List Cond := .code yX3_forget cX3_forget 1 none :: ([.fieldLink RX3 35 "CheapHours$Plan" "known" "Z"] ++ wsX30)
def wsX3_setLevel : List Cond := .code yX3_setLevel cX3_setLevel 8 none :: ([.fieldLink RX3 15 "CheapHours$Plan" "asked" "[I", .fieldLink RX3 19 "CheapHours$Plan" "chance" "[I", .fieldLink RX3 35 "CheapHours$Plan" "known" "Z", .static yX6_within, .initialized RX6, .code yX6_within cX6_within 3 (some .boolean)] ++ wsX30)
def wsX3_startAnew : List Cond := .code yX3_startAnew cX3_startAnew 3 none :: ([.fieldLink RX3 39 "CheapHours$Plan" "size" "I", .methodLink RX3 43 yX3_setLevel, .instanceMethod yX3_setLevel, .selects RX3 yX3_setLevel yX3_setLevel, .initialized RX3, .code yX3_setLevel cX3_setLevel 8 none, .fieldLink RX3 15 "CheapHours$Plan" "asked" "[I", .fieldLink RX3 19 "CheapHours$Plan" "chance" "[I", .fieldLink RX3 35 "CheapHours$Plan" "known" "Z", .static yX6_within, .initialized RX6, .code yX6_within cX6_within 3 (some .boolean)] ++ wsX30)
def wsX3_has : List Cond := .code yX3_has cX3_has 2 (some .boolean) :: ([.fieldLink RX3 39 "CheapHours$Plan" "size" "I", .static yX6_within, .initialized RX6, .code yX6_within cX6_within 3 (some .boolean)] ++ wsX30)
def wsX3_hasState : List Cond := .code yX3_hasState cX3_hasState 4 (some .boolean) :: ([.static yX6_within, .initialized RX6, .code yX6_within cX6_within 3 (some .boolean), .methodLink RX3 51 yX3_has, .instanceMethod yX3_has, .selects RX3 yX3_has yX3_has, .initialized RX3, .code yX3_has cX3_has 2 (some .boolean), .fieldLink RX3 39 "CheapHours$Plan" "size" "I"] ++ wsX30)
def wsX3_canGo : List Cond := .code yX3_canGo cX3_canGo 5 (some .boolean) :: ([.fieldLink RX3 39 "CheapHours$Plan" "size" "I"] ++ wsX30)
def wsX3_stateOf : List Cond := .code yX3_stateOf cX3_stateOf 4 (some .int) :: ([])
def wsX3_chanceOf : List Cond := .code yX3_chanceOf cX3_chanceOf 4 (some .int) :: ([.fieldLink RX3 19 "CheapHours$Plan" "chance" "[I", .static yX6_within, .initialized RX6, .code yX6_within cX6_within 3 (some .boolean)] ++ wsX30)
def wsX3_read : List Cond := .code yX3_read cX3_read 5 (some .long) :: ([.methodLink RX3 82 yX3_stateOf, .static yX3_stateOf, .initialized RX3, .code yX3_stateOf cX3_stateOf 4 (some .int), .static yX6_within, .initialized RX6, .code yX6_within cX6_within 3 (some .boolean)])
def wsX3_meanBehind : List Cond := .code yX3_meanBehind cX3_meanBehind 8 (some .long) :: ([.fieldLink RX3 39 "CheapHours$Plan" "size" "I", .methodLink RX3 107 yX3_chanceOf, .instanceMethod yX3_chanceOf, .selects RX3 yX3_chanceOf yX3_chanceOf, .initialized RX3, .code yX3_chanceOf cX3_chanceOf 4 (some .int), .fieldLink RX3 19 "CheapHours$Plan" "chance" "[I", .static yX6_within, .initialized RX6, .code yX6_within cX6_within 3 (some .boolean), .methodLink RX3 58 yX3_read, .static yX3_read, .code yX3_read cX3_read 5 (some .long), .methodLink RX3 82 yX3_stateOf, .static yX3_stateOf, .code yX3_stateOf cX3_stateOf 4 (some .int)] ++ wsX30)
def wsX3_askedAt : List Cond := .code yX3_askedAt cX3_askedAt 2 (some .int) :: ([.fieldLink RX3 15 "CheapHours$Plan" "asked" "[I", .static yX6_within, .initialized RX6, .code yX6_within cX6_within 3 (some .boolean)] ++ wsX30)
def wsX3_settleMean_r1 : List Cond := [Cond.fieldLink RX3 22 "CheapHours$Plan" "mean" "[J", Cond.fieldLink RX3 26 "CheapHours$Plan" "choice" "[I", Cond.fieldLink RX3 11 "CheapHours$Plan" "prices" "LCheapHours$Prices;", Cond.fieldLink RX3 95 "CheapHours$Prices" "atFull" "I", Cond.methodLink RX3 82 yX3_stateOf, Cond.static yX3_stateOf, Cond.initialized RX3, Cond.code yX3_stateOf cX3_stateOf 4 (some .int), Cond.methodLink RX3 86 yX2_power, Cond.static yX2_power, Cond.initialized RX2, Cond.code yX2_power cX2_power 5 (some .long), Cond.methodLink RX3 92 yX3_meanBehind, Cond.instanceMethod yX3_meanBehind, Cond.selects RX3 yX3_meanBehind yX3_meanBehind, Cond.code yX3_meanBehind cX3_meanBehind 8 (some .long), Cond.fieldLink RX3 39 "CheapHours$Plan" "size" "I", Cond.methodLink RX3 107 yX3_chanceOf, Cond.instanceMethod yX3_chanceOf, Cond.selects RX3 yX3_chanceOf yX3_chanceOf, Cond.code yX3_chanceOf cX3_chanceOf 4 (some .int), Cond.fieldLink RX3 19 "CheapHours$Plan" "chance" "[I", Cond.static yX6_within, Cond.initialized RX6]
def wsX3_settleMean_r2 : List Cond := [Cond.code yX6_within cX6_within 3 (some .boolean), Cond.methodLink RX3 58 yX3_read, Cond.static yX3_read, Cond.code yX3_read cX3_read 5 (some .long), Cond.methodLink RX3 100 yX3_askedAt, Cond.instanceMethod yX3_askedAt, Cond.selects RX3 yX3_askedAt yX3_askedAt, Cond.code yX3_askedAt cX3_askedAt 2 (some .int), Cond.fieldLink RX3 15 "CheapHours$Plan" "asked" "[I"]
def wsX3_settleMean : List Cond := .code yX3_settleMean cX3_settleMean 16 none :: ((wsX3_settleMean_r1 ++ wsX3_settleMean_r2) ++ wsX30 ++ wsX40)
def wsX3_readInt : List Cond := .code yX3_readInt cX3_readInt 5 (some .int) :: ([.methodLink RX3 82 yX3_stateOf, .static yX3_stateOf, .initialized RX3, .code yX3_stateOf cX3_stateOf 4 (some .int), .static yX6_within, .initialized RX6, .code yX6_within cX6_within 3 (some .boolean)])
def wsX3_greatestBehind : List Cond := .code yX3_greatestBehind cX3_greatestBehind 6 (some .int) :: ([.fieldLink RX3 39 "CheapHours$Plan" "size" "I", .fieldLink RX3 29 "CheapHours$Plan" "greatest" "[I", .methodLink RX3 110 Lib.Math.max.name, .static Lib.Math.max.name, .initialized "java/lang/Math", .code Lib.Math.max.name Lib.Math.max.code 2 (some .int), .methodLink RX3 107 yX3_chanceOf, .instanceMethod yX3_chanceOf, .selects RX3 yX3_chanceOf yX3_chanceOf, .initialized RX3, .code yX3_chanceOf cX3_chanceOf 4 (some .int), .fieldLink RX3 19 "CheapHours$Plan" "chance" "[I", .static yX6_within, .initialized RX6, .code yX6_within cX6_within 3 (some .boolean), .methodLink RX3 62 yX3_readInt, .static yX3_readInt, .code yX3_readInt cX3_readInt 5 (some .int), .methodLink RX3 82 yX3_stateOf, .static yX3_stateOf, .code yX3_stateOf cX3_stateOf 4 (some .int)] ++ wsX30)
def wsX3_settleGreatest_r1 : List Cond := [Cond.fieldLink RX3 29 "CheapHours$Plan" "greatest" "[I", Cond.fieldLink RX3 26 "CheapHours$Plan" "choice" "[I", Cond.fieldLink RX3 11 "CheapHours$Plan" "prices" "LCheapHours$Prices;", Cond.fieldLink RX3 95 "CheapHours$Prices" "atFull" "I", Cond.methodLink RX3 82 yX3_stateOf, Cond.static yX3_stateOf, Cond.initialized RX3, Cond.code yX3_stateOf cX3_stateOf 4 (some .int), Cond.methodLink RX3 104 yX3_greatestBehind, Cond.instanceMethod yX3_greatestBehind, Cond.selects RX3 yX3_greatestBehind yX3_greatestBehind, Cond.code yX3_greatestBehind cX3_greatestBehind 6 (some .int), Cond.fieldLink RX3 39 "CheapHours$Plan" "size" "I", Cond.methodLink RX3 110 Lib.Math.max.name, Cond.static Lib.Math.max.name, Cond.initialized "java/lang/Math", Cond.code Lib.Math.max.name Lib.Math.max.code 2 (some .int), Cond.methodLink RX3 107 yX3_chanceOf, Cond.instanceMethod yX3_chanceOf, Cond.selects RX3 yX3_chanceOf yX3_chanceOf, Cond.code yX3_chanceOf cX3_chanceOf 4 (some .int), Cond.fieldLink RX3 19 "CheapHours$Plan" "chance" "[I", Cond.static yX6_within, Cond.initialized RX6]
def wsX3_settleGreatest_r2 : List Cond := [Cond.code yX6_within cX6_within 3 (some .boolean), Cond.methodLink RX3 62 yX3_readInt, Cond.static yX3_readInt, Cond.code yX3_readInt cX3_readInt 5 (some .int), Cond.methodLink RX3 100 yX3_askedAt, Cond.instanceMethod yX3_askedAt, Cond.selects RX3 yX3_askedAt yX3_askedAt, Cond.code yX3_askedAt cX3_askedAt 2 (some .int), Cond.fieldLink RX3 15 "CheapHours$Plan" "asked" "[I"]
def wsX3_settleGreatest : List Cond := .code yX3_settleGreatest cX3_settleGreatest 6 none :: ((wsX3_settleGreatest_r1 ++ wsX3_settleGreatest_r2) ++ wsX30 ++ wsX40)
def wsX3_settleAll_r1 : List Cond := [Cond.fieldLink RX3 35 "CheapHours$Plan" "known" "Z", Cond.fieldLink RX3 39 "CheapHours$Plan" "size" "I", Cond.methodLink RX3 76 yX3_settleMean, Cond.instanceMethod yX3_settleMean, Cond.selects RX3 yX3_settleMean yX3_settleMean, Cond.initialized RX3, Cond.code yX3_settleMean cX3_settleMean 16 none, Cond.fieldLink RX3 22 "CheapHours$Plan" "mean" "[J", Cond.fieldLink RX3 26 "CheapHours$Plan" "choice" "[I", Cond.fieldLink RX3 11 "CheapHours$Plan" "prices" "LCheapHours$Prices;", Cond.fieldLink RX3 95 "CheapHours$Prices" "atFull" "I", Cond.methodLink RX3 82 yX3_stateOf, Cond.static yX3_stateOf, Cond.code yX3_stateOf cX3_stateOf 4 (some .int), Cond.methodLink RX3 86 yX2_power, Cond.static yX2_power, Cond.initialized RX2, Cond.code yX2_power cX2_power 5 (some .long), Cond.methodLink RX3 92 yX3_meanBehind, Cond.instanceMethod yX3_meanBehind, Cond.selects RX3 yX3_meanBehind yX3_meanBehind, Cond.code yX3_meanBehind cX3_meanBehind 8 (some .long), Cond.methodLink RX3 107 yX3_chanceOf, Cond.instanceMethod yX3_chanceOf]
def wsX3_settleAll_r2 : List Cond := [Cond.selects RX3 yX3_chanceOf yX3_chanceOf, Cond.code yX3_chanceOf cX3_chanceOf 4 (some .int), Cond.fieldLink RX3 19 "CheapHours$Plan" "chance" "[I", Cond.static yX6_within, Cond.initialized RX6, Cond.code yX6_within cX6_within 3 (some .boolean), Cond.methodLink RX3 58 yX3_read, Cond.static yX3_read, Cond.code yX3_read cX3_read 5 (some .long), Cond.methodLink RX3 100 yX3_askedAt, Cond.instanceMethod yX3_askedAt, Cond.selects RX3 yX3_askedAt yX3_askedAt, Cond.code yX3_askedAt cX3_askedAt 2 (some .int), Cond.fieldLink RX3 15 "CheapHours$Plan" "asked" "[I", Cond.methodLink RX3 79 yX3_settleGreatest, Cond.instanceMethod yX3_settleGreatest, Cond.selects RX3 yX3_settleGreatest yX3_settleGreatest, Cond.code yX3_settleGreatest cX3_settleGreatest 6 none, Cond.fieldLink RX3 29 "CheapHours$Plan" "greatest" "[I", Cond.methodLink RX3 104 yX3_greatestBehind, Cond.instanceMethod yX3_greatestBehind, Cond.selects RX3 yX3_greatestBehind yX3_greatestBehind, Cond.code yX3_greatestBehind cX3_greatestBehind 6 (some .int), Cond.methodLink RX3 110 Lib.Math.max.name]
def wsX3_settleAll_r3 : List Cond := [Cond.static Lib.Math.max.name, Cond.initialized "java/lang/Math", Cond.code Lib.Math.max.name Lib.Math.max.code 2 (some .int), Cond.methodLink RX3 62 yX3_readInt, Cond.static yX3_readInt, Cond.code yX3_readInt cX3_readInt 5 (some .int)]
def wsX3_settleAll : List Cond := .code yX3_settleAll cX3_settleAll 4 none :: ((wsX3_settleAll_r1 ++ (wsX3_settleAll_r2 ++ wsX3_settleAll_r3)) ++ wsX30 ++ wsX40)
def wsX3_meanOf_r1 : List Cond := [Cond.fieldLink RX3 22 "CheapHours$Plan" "mean" "[J", Cond.methodLink RX3 55 yX3_settleAll, Cond.instanceMethod yX3_settleAll, Cond.selects RX3 yX3_settleAll yX3_settleAll, Cond.initialized RX3, Cond.code yX3_settleAll cX3_settleAll 4 none, Cond.fieldLink RX3 35 "CheapHours$Plan" "known" "Z", Cond.fieldLink RX3 39 "CheapHours$Plan" "size" "I", Cond.methodLink RX3 76 yX3_settleMean, Cond.instanceMethod yX3_settleMean, Cond.selects RX3 yX3_settleMean yX3_settleMean, Cond.code yX3_settleMean cX3_settleMean 16 none, Cond.fieldLink RX3 26 "CheapHours$Plan" "choice" "[I", Cond.fieldLink RX3 11 "CheapHours$Plan" "prices" "LCheapHours$Prices;", Cond.fieldLink RX3 95 "CheapHours$Prices" "atFull" "I", Cond.methodLink RX3 82 yX3_stateOf, Cond.static yX3_stateOf, Cond.code yX3_stateOf cX3_stateOf 4 (some .int), Cond.methodLink RX3 86 yX2_power, Cond.static yX2_power, Cond.initialized RX2, Cond.code yX2_power cX2_power 5 (some .long), Cond.methodLink RX3 92 yX3_meanBehind, Cond.instanceMethod yX3_meanBehind]
def wsX3_meanOf_r2 : List Cond := [Cond.selects RX3 yX3_meanBehind yX3_meanBehind, Cond.code yX3_meanBehind cX3_meanBehind 8 (some .long), Cond.methodLink RX3 107 yX3_chanceOf, Cond.instanceMethod yX3_chanceOf, Cond.selects RX3 yX3_chanceOf yX3_chanceOf, Cond.code yX3_chanceOf cX3_chanceOf 4 (some .int), Cond.fieldLink RX3 19 "CheapHours$Plan" "chance" "[I", Cond.static yX6_within, Cond.initialized RX6, Cond.code yX6_within cX6_within 3 (some .boolean), Cond.methodLink RX3 58 yX3_read, Cond.static yX3_read, Cond.code yX3_read cX3_read 5 (some .long), Cond.methodLink RX3 100 yX3_askedAt, Cond.instanceMethod yX3_askedAt, Cond.selects RX3 yX3_askedAt yX3_askedAt, Cond.code yX3_askedAt cX3_askedAt 2 (some .int), Cond.fieldLink RX3 15 "CheapHours$Plan" "asked" "[I", Cond.methodLink RX3 79 yX3_settleGreatest, Cond.instanceMethod yX3_settleGreatest, Cond.selects RX3 yX3_settleGreatest yX3_settleGreatest, Cond.code yX3_settleGreatest cX3_settleGreatest 6 none, Cond.fieldLink RX3 29 "CheapHours$Plan" "greatest" "[I", Cond.methodLink RX3 104 yX3_greatestBehind]
def wsX3_meanOf_r3 : List Cond := [Cond.instanceMethod yX3_greatestBehind, Cond.selects RX3 yX3_greatestBehind yX3_greatestBehind, Cond.code yX3_greatestBehind cX3_greatestBehind 6 (some .int), Cond.methodLink RX3 110 Lib.Math.max.name, Cond.static Lib.Math.max.name, Cond.initialized "java/lang/Math", Cond.code Lib.Math.max.name Lib.Math.max.code 2 (some .int), Cond.methodLink RX3 62 yX3_readInt, Cond.static yX3_readInt, Cond.code yX3_readInt cX3_readInt 5 (some .int)]
def wsX3_meanOf : List Cond := .code yX3_meanOf cX3_meanOf 4 (some .long) :: ((wsX3_meanOf_r1 ++ (wsX3_meanOf_r2 ++ wsX3_meanOf_r3)) ++ wsX30 ++ wsX40)
def wsX3_ruleOf_r1 : List Cond := [Cond.fieldLink RX3 26 "CheapHours$Plan" "choice" "[I", Cond.methodLink RX3 55 yX3_settleAll, Cond.instanceMethod yX3_settleAll, Cond.selects RX3 yX3_settleAll yX3_settleAll, Cond.initialized RX3, Cond.code yX3_settleAll cX3_settleAll 4 none, Cond.fieldLink RX3 35 "CheapHours$Plan" "known" "Z", Cond.fieldLink RX3 39 "CheapHours$Plan" "size" "I", Cond.methodLink RX3 76 yX3_settleMean, Cond.instanceMethod yX3_settleMean, Cond.selects RX3 yX3_settleMean yX3_settleMean, Cond.code yX3_settleMean cX3_settleMean 16 none, Cond.fieldLink RX3 22 "CheapHours$Plan" "mean" "[J", Cond.fieldLink RX3 11 "CheapHours$Plan" "prices" "LCheapHours$Prices;", Cond.fieldLink RX3 95 "CheapHours$Prices" "atFull" "I", Cond.methodLink RX3 82 yX3_stateOf, Cond.static yX3_stateOf, Cond.code yX3_stateOf cX3_stateOf 4 (some .int), Cond.methodLink RX3 86 yX2_power, Cond.static yX2_power, Cond.initialized RX2, Cond.code yX2_power cX2_power 5 (some .long), Cond.methodLink RX3 92 yX3_meanBehind, Cond.instanceMethod yX3_meanBehind]
def wsX3_ruleOf_r2 : List Cond := [Cond.selects RX3 yX3_meanBehind yX3_meanBehind, Cond.code yX3_meanBehind cX3_meanBehind 8 (some .long), Cond.methodLink RX3 107 yX3_chanceOf, Cond.instanceMethod yX3_chanceOf, Cond.selects RX3 yX3_chanceOf yX3_chanceOf, Cond.code yX3_chanceOf cX3_chanceOf 4 (some .int), Cond.fieldLink RX3 19 "CheapHours$Plan" "chance" "[I", Cond.static yX6_within, Cond.initialized RX6, Cond.code yX6_within cX6_within 3 (some .boolean), Cond.methodLink RX3 58 yX3_read, Cond.static yX3_read, Cond.code yX3_read cX3_read 5 (some .long), Cond.methodLink RX3 100 yX3_askedAt, Cond.instanceMethod yX3_askedAt, Cond.selects RX3 yX3_askedAt yX3_askedAt, Cond.code yX3_askedAt cX3_askedAt 2 (some .int), Cond.fieldLink RX3 15 "CheapHours$Plan" "asked" "[I", Cond.methodLink RX3 79 yX3_settleGreatest, Cond.instanceMethod yX3_settleGreatest, Cond.selects RX3 yX3_settleGreatest yX3_settleGreatest, Cond.code yX3_settleGreatest cX3_settleGreatest 6 none, Cond.fieldLink RX3 29 "CheapHours$Plan" "greatest" "[I", Cond.methodLink RX3 104 yX3_greatestBehind]
def wsX3_ruleOf_r3 : List Cond := [Cond.instanceMethod yX3_greatestBehind, Cond.selects RX3 yX3_greatestBehind yX3_greatestBehind, Cond.code yX3_greatestBehind cX3_greatestBehind 6 (some .int), Cond.methodLink RX3 110 Lib.Math.max.name, Cond.static Lib.Math.max.name, Cond.initialized "java/lang/Math", Cond.code Lib.Math.max.name Lib.Math.max.code 2 (some .int), Cond.methodLink RX3 62 yX3_readInt, Cond.static yX3_readInt, Cond.code yX3_readInt cX3_readInt 5 (some .int)]
def wsX3_ruleOf : List Cond := .code yX3_ruleOf cX3_ruleOf 4 (some .int) :: ((wsX3_ruleOf_r1 ++ (wsX3_ruleOf_r2 ++ wsX3_ruleOf_r3)) ++ wsX30 ++ wsX40)
def wsX3_greatestOf_r1 : List Cond := [Cond.fieldLink RX3 29 "CheapHours$Plan" "greatest" "[I", Cond.methodLink RX3 55 yX3_settleAll, Cond.instanceMethod yX3_settleAll, Cond.selects RX3 yX3_settleAll yX3_settleAll, Cond.initialized RX3, Cond.code yX3_settleAll cX3_settleAll 4 none, Cond.fieldLink RX3 35 "CheapHours$Plan" "known" "Z", Cond.fieldLink RX3 39 "CheapHours$Plan" "size" "I", Cond.methodLink RX3 76 yX3_settleMean, Cond.instanceMethod yX3_settleMean, Cond.selects RX3 yX3_settleMean yX3_settleMean, Cond.code yX3_settleMean cX3_settleMean 16 none, Cond.fieldLink RX3 22 "CheapHours$Plan" "mean" "[J", Cond.fieldLink RX3 26 "CheapHours$Plan" "choice" "[I", Cond.fieldLink RX3 11 "CheapHours$Plan" "prices" "LCheapHours$Prices;", Cond.fieldLink RX3 95 "CheapHours$Prices" "atFull" "I", Cond.methodLink RX3 82 yX3_stateOf, Cond.static yX3_stateOf, Cond.code yX3_stateOf cX3_stateOf 4 (some .int), Cond.methodLink RX3 86 yX2_power, Cond.static yX2_power, Cond.initialized RX2, Cond.code yX2_power cX2_power 5 (some .long), Cond.methodLink RX3 92 yX3_meanBehind]
def wsX3_greatestOf_r2 : List Cond := [Cond.instanceMethod yX3_meanBehind, Cond.selects RX3 yX3_meanBehind yX3_meanBehind, Cond.code yX3_meanBehind cX3_meanBehind 8 (some .long), Cond.methodLink RX3 107 yX3_chanceOf, Cond.instanceMethod yX3_chanceOf, Cond.selects RX3 yX3_chanceOf yX3_chanceOf, Cond.code yX3_chanceOf cX3_chanceOf 4 (some .int), Cond.fieldLink RX3 19 "CheapHours$Plan" "chance" "[I", Cond.static yX6_within, Cond.initialized RX6, Cond.code yX6_within cX6_within 3 (some .boolean), Cond.methodLink RX3 58 yX3_read, Cond.static yX3_read, Cond.code yX3_read cX3_read 5 (some .long), Cond.methodLink RX3 100 yX3_askedAt, Cond.instanceMethod yX3_askedAt, Cond.selects RX3 yX3_askedAt yX3_askedAt, Cond.code yX3_askedAt cX3_askedAt 2 (some .int), Cond.fieldLink RX3 15 "CheapHours$Plan" "asked" "[I", Cond.methodLink RX3 79 yX3_settleGreatest, Cond.instanceMethod yX3_settleGreatest, Cond.selects RX3 yX3_settleGreatest yX3_settleGreatest, Cond.code yX3_settleGreatest cX3_settleGreatest 6 none, Cond.methodLink RX3 104 yX3_greatestBehind]
def wsX3_greatestOf_r3 : List Cond := [Cond.instanceMethod yX3_greatestBehind, Cond.selects RX3 yX3_greatestBehind yX3_greatestBehind, Cond.code yX3_greatestBehind cX3_greatestBehind 6 (some .int), Cond.methodLink RX3 110 Lib.Math.max.name, Cond.static Lib.Math.max.name, Cond.initialized "java/lang/Math", Cond.code Lib.Math.max.name Lib.Math.max.code 2 (some .int), Cond.methodLink RX3 62 yX3_readInt, Cond.static yX3_readInt, Cond.code yX3_readInt cX3_readInt 5 (some .int)]
def wsX3_greatestOf : List Cond := .code yX3_greatestOf cX3_greatestOf 4 (some .int) :: ((wsX3_greatestOf_r1 ++ (wsX3_greatestOf_r2 ++ wsX3_greatestOf_r3)) ++ wsX30 ++ wsX40)
def wsX3_settleCapped_r1 : List Cond := [Cond.fieldLink RX3 32 "CheapHours$Plan" "meanByCap" "[J", Cond.fieldLink RX3 11 "CheapHours$Plan" "prices" "LCheapHours$Prices;", Cond.fieldLink RX3 95 "CheapHours$Prices" "atFull" "I", Cond.methodLink RX3 66 Lib.Math.min.name, Cond.static Lib.Math.min.name, Cond.initialized "java/lang/Math", Cond.code Lib.Math.min.name Lib.Math.min.code 2 (some .int), Cond.methodLink RX3 82 yX3_stateOf, Cond.static yX3_stateOf, Cond.initialized RX3, Cond.code yX3_stateOf cX3_stateOf 4 (some .int), Cond.methodLink RX3 100 yX3_askedAt, Cond.instanceMethod yX3_askedAt, Cond.selects RX3 yX3_askedAt yX3_askedAt, Cond.code yX3_askedAt cX3_askedAt 2 (some .int), Cond.fieldLink RX3 15 "CheapHours$Plan" "asked" "[I", Cond.static yX6_within, Cond.initialized RX6, Cond.code yX6_within cX6_within 3 (some .boolean), Cond.methodLink RX3 92 yX3_meanBehind, Cond.instanceMethod yX3_meanBehind, Cond.selects RX3 yX3_meanBehind yX3_meanBehind, Cond.code yX3_meanBehind cX3_meanBehind 8 (some .long), Cond.fieldLink RX3 39 "CheapHours$Plan" "size" "I"]
def wsX3_settleCapped_r2 : List Cond := [Cond.methodLink RX3 107 yX3_chanceOf, Cond.instanceMethod yX3_chanceOf, Cond.selects RX3 yX3_chanceOf yX3_chanceOf, Cond.code yX3_chanceOf cX3_chanceOf 4 (some .int), Cond.fieldLink RX3 19 "CheapHours$Plan" "chance" "[I", Cond.methodLink RX3 58 yX3_read, Cond.static yX3_read, Cond.code yX3_read cX3_read 5 (some .long), Cond.methodLink RX3 86 yX2_power, Cond.static yX2_power, Cond.initialized RX2, Cond.code yX2_power cX2_power 5 (some .long)]
def wsX3_settleCapped : List Cond := .code yX3_settleCapped cX3_settleCapped 8 none :: ((wsX3_settleCapped_r1 ++ wsX3_settleCapped_r2) ++ wsX30 ++ wsX40)
def wsX3_meanCapped_r1 : List Cond := [Cond.methodLink RX3 66 Lib.Math.min.name, Cond.static Lib.Math.min.name, Cond.initialized "java/lang/Math", Cond.code Lib.Math.min.name Lib.Math.min.code 2 (some .int), Cond.fieldLink RX3 39 "CheapHours$Plan" "size" "I", Cond.fieldLink RX3 32 "CheapHours$Plan" "meanByCap" "[J", Cond.methodLink RX3 72 yX3_settleCapped, Cond.instanceMethod yX3_settleCapped, Cond.selects RX3 yX3_settleCapped yX3_settleCapped, Cond.initialized RX3, Cond.code yX3_settleCapped cX3_settleCapped 8 none, Cond.fieldLink RX3 11 "CheapHours$Plan" "prices" "LCheapHours$Prices;", Cond.fieldLink RX3 95 "CheapHours$Prices" "atFull" "I", Cond.methodLink RX3 82 yX3_stateOf, Cond.static yX3_stateOf, Cond.code yX3_stateOf cX3_stateOf 4 (some .int), Cond.methodLink RX3 100 yX3_askedAt, Cond.instanceMethod yX3_askedAt, Cond.selects RX3 yX3_askedAt yX3_askedAt, Cond.code yX3_askedAt cX3_askedAt 2 (some .int), Cond.fieldLink RX3 15 "CheapHours$Plan" "asked" "[I", Cond.static yX6_within, Cond.initialized RX6, Cond.code yX6_within cX6_within 3 (some .boolean)]
def wsX3_meanCapped_r2 : List Cond := [Cond.methodLink RX3 92 yX3_meanBehind, Cond.instanceMethod yX3_meanBehind, Cond.selects RX3 yX3_meanBehind yX3_meanBehind, Cond.code yX3_meanBehind cX3_meanBehind 8 (some .long), Cond.methodLink RX3 107 yX3_chanceOf, Cond.instanceMethod yX3_chanceOf, Cond.selects RX3 yX3_chanceOf yX3_chanceOf, Cond.code yX3_chanceOf cX3_chanceOf 4 (some .int), Cond.fieldLink RX3 19 "CheapHours$Plan" "chance" "[I", Cond.methodLink RX3 58 yX3_read, Cond.static yX3_read, Cond.code yX3_read cX3_read 5 (some .long), Cond.methodLink RX3 86 yX2_power, Cond.static yX2_power, Cond.initialized RX2, Cond.code yX2_power cX2_power 5 (some .long)]
def wsX3_meanCapped : List Cond := .code yX3_meanCapped cX3_meanCapped 8 (some .long) :: ((wsX3_meanCapped_r1 ++ wsX3_meanCapped_r2) ++ wsX30 ++ wsX40)
def wsJ7_fill_53178 : List Cond := .code yJ7_fill_53178 cJ7_fill_53178 4 none :: ([])
def wsX4_init : List Cond := .code yX4_init cX4_init 1 none :: ([.methodLink RX4 3 objectInit, .instanceMethod objectInit, .code objectInit ⟨#[0xb1]⟩ 1 none, .arrayClass .int, .fieldLink RX4 9 "CheapHours$Prices" "let" "[I", .fieldLink RX4 21 "CheapHours$Prices" "atFull" "I", .methodLink RX4 15 yJ7_fill_53178, .static yJ7_fill_53178, .initialized RJ7, .code yJ7_fill_53178 cJ7_fill_53178 4 none] ++ wsX40)
def wsX4_put : List Cond := .code yX4_put cX4_put 6 none :: ([.fieldLink RX4 9 "CheapHours$Prices" "let" "[I", .methodLink RX4 25 yX4_isLetHour, .static yX4_isLetHour, .initialized RX4, .code yX4_isLetHour cX4_isLetHour 2 (some .boolean), .static yX6_within, .initialized RX6, .code yX6_within cX6_within 3 (some .boolean)] ++ wsX40)
def wsX5_init : List Cond := .code yX5_init cX5_init 5 none :: ([.methodLink RX5 3 objectInit, .instanceMethod objectInit, .code objectInit ⟨#[0xb1]⟩ 1 none, .constant RX5 9 (1000000), .fieldLink RX5 10 "CheapHours$Terms" "work" "I", .fieldLink RX5 16 "CheapHours$Terms" "due" "I", .fieldLink RX5 19 "CheapHours$Terms" "market" "I", .fieldLink RX5 22 "CheapHours$Terms" "save" "I", .fieldLink RX5 25 "CheapHours$Terms" "bring" "I", .fieldLink RX5 28 "CheapHours$Terms" "bid" "I", .fieldLink RX5 31 "CheapHours$Terms" "span" "I", .fieldLink RX5 34 "CheapHours$Terms" "came" "I"] ++ wsX50)
def wsX5_canBe : List Cond := .code yX5_canBe cX5_canBe 1 (some .boolean) :: ([.fieldLink RX5 10 "CheapHours$Terms" "work" "I", .fieldLink RX5 16 "CheapHours$Terms" "due" "I", .fieldLink RX5 19 "CheapHours$Terms" "market" "I", .fieldLink RX5 22 "CheapHours$Terms" "save" "I", .fieldLink RX5 25 "CheapHours$Terms" "bring" "I", .fieldLink RX5 28 "CheapHours$Terms" "bid" "I", .fieldLink RX5 31 "CheapHours$Terms" "span" "I", .fieldLink RX5 34 "CheapHours$Terms" "came" "I", .static yX6_within, .initialized RX6, .code yX6_within cX6_within 3 (some .boolean)] ++ wsX50)
def wsX6_init_r1 : List Cond := [Cond.methodLink RX6 1 objectInit, Cond.instanceMethod objectInit, Cond.code objectInit ⟨#[0xb1]⟩ 1 none, Cond.classLink RX6 7 RX4, Cond.instantiable RX4 2, Cond.initialized RX4, Cond.fieldLink RX6 10 "CheapHours" "prices" "LCheapHours$Prices;", Cond.classLink RX6 16 RX1, Cond.fieldLink RX6 18 "CheapHours" "jobs" "[LCheapHours$Job;", Cond.classLink RX6 22 RX3, Cond.instantiable RX3 9, Cond.initialized RX3, Cond.fieldLink RX6 27 "CheapHours" "plan" "LCheapHours$Plan;", Cond.classLink RX6 31 RX0, Cond.instantiable RX0 2, Cond.initialized RX0, Cond.fieldLink RX6 34 "CheapHours" "hindsight" "LCheapHours$Hindsight;", Cond.methodLink RX6 9 yX4_init, Cond.instanceMethod yX4_init, Cond.code yX4_init cX4_init 1 none, Cond.methodLink RX4 3 objectInit, Cond.arrayClass .int, Cond.fieldLink RX4 9 "CheapHours$Prices" "let" "[I", Cond.fieldLink RX4 21 "CheapHours$Prices" "atFull" "I"]
def wsX6_init_r2 : List Cond := [Cond.methodLink RX4 15 yJ7_fill_53178, Cond.static yJ7_fill_53178, Cond.initialized RJ7, Cond.code yJ7_fill_53178 cJ7_fill_53178 4 none, Cond.methodLink RX6 24 yX3_init, Cond.instanceMethod yX3_init, Cond.code yX3_init cX3_init 2 none, Cond.methodLink RX3 5 objectInit, Cond.fieldLink RX3 11 "CheapHours$Plan" "prices" "LCheapHours$Prices;", Cond.fieldLink RX3 15 "CheapHours$Plan" "asked" "[I", Cond.fieldLink RX3 19 "CheapHours$Plan" "chance" "[I", Cond.arrayClass .long, Cond.fieldLink RX3 22 "CheapHours$Plan" "mean" "[J", Cond.fieldLink RX3 26 "CheapHours$Plan" "choice" "[I", Cond.fieldLink RX3 29 "CheapHours$Plan" "greatest" "[I", Cond.fieldLink RX3 32 "CheapHours$Plan" "meanByCap" "[J", Cond.methodLink RX6 33 yX0_init, Cond.instanceMethod yX0_init, Cond.code yX0_init cX0_init 2 none, Cond.methodLink RX0 7 objectInit, Cond.fieldLink RX0 13 "CheapHours$Hindsight" "prices" "LCheapHours$Prices;", Cond.fieldLink RX0 19 "CheapHours$Hindsight" "least" "[I"]
def wsX6_init : List Cond := .code yX6_init cX6_init 1 none :: ((wsX6_init_r1 ++ wsX6_init_r2) ++ wsX40 ++ wsX60 ++ wsX30 ++ wsX00)
def wsX6_price : List Cond := .code yX6_price cX6_price 5 (some .boolean) :: ([.fieldLink RX6 42 "CheapHours" "now" "I", .fieldLink RX6 10 "CheapHours" "prices" "LCheapHours$Prices;", .methodLink RX6 38 yX6_within, .static yX6_within, .initialized RX6, .code yX6_within cX6_within 3 (some .boolean), .methodLink RX6 46 yX4_put, .instanceMethod yX4_put, .selects RX4 yX4_put yX4_put, .initialized RX4, .code yX4_put cX4_put 6 none, .fieldLink RX4 9 "CheapHours$Prices" "let" "[I", .methodLink RX4 25 yX4_isLetHour, .static yX4_isLetHour, .code yX4_isLetHour cX4_isLetHour 2 (some .boolean)] ++ wsX60 ++ wsX40)
def wsX6_full : List Cond := .code yX6_full cX6_full 2 (some .boolean) :: ([.fieldLink RX6 42 "CheapHours" "now" "I", .fieldLink RX6 50 "CheapHours" "jobCount" "I", .fieldLink RX6 10 "CheapHours" "prices" "LCheapHours$Prices;", .fieldLink RX6 53 "CheapHours$Prices" "atFull" "I", .fieldLink RX6 27 "CheapHours" "plan" "LCheapHours$Plan;", .methodLink RX6 38 yX6_within, .static yX6_within, .initialized RX6, .code yX6_within cX6_within 3 (some .boolean), .methodLink RX6 56 yX3_forget, .instanceMethod yX3_forget, .selects RX3 yX3_forget yX3_forget, .initialized RX3, .code yX3_forget cX3_forget 1 none, .fieldLink RX3 35 "CheapHours$Plan" "known" "Z"] ++ wsX60 ++ wsX40 ++ wsX30)
def wsX6_job_r1 : List Cond := [Cond.fieldLink RX6 50 "CheapHours" "jobCount" "I", Cond.fieldLink RX6 18 "CheapHours" "jobs" "[LCheapHours$Job;", Cond.classLink RX6 59 RX5, Cond.instantiable RX5 8, Cond.initialized RX5, Cond.fieldLink RX6 42 "CheapHours" "now" "I", Cond.classLink RX6 16 RX1, Cond.instantiable RX1 16, Cond.initialized RX1, Cond.methodLink RX6 38 yX6_within, Cond.static yX6_within, Cond.initialized RX6, Cond.code yX6_within cX6_within 3 (some .boolean), Cond.methodLink RX6 61 yX5_init, Cond.instanceMethod yX5_init, Cond.code yX5_init cX5_init 5 none, Cond.methodLink RX5 3 objectInit, Cond.instanceMethod objectInit, Cond.code objectInit ⟨#[0xb1]⟩ 1 none, Cond.constant RX5 9 (1000000), Cond.fieldLink RX5 10 "CheapHours$Terms" "work" "I", Cond.fieldLink RX5 16 "CheapHours$Terms" "due" "I", Cond.fieldLink RX5 19 "CheapHours$Terms" "market" "I", Cond.fieldLink RX5 22 "CheapHours$Terms" "save" "I"]
def wsX6_job_r2 : List Cond := [Cond.fieldLink RX5 25 "CheapHours$Terms" "bring" "I", Cond.fieldLink RX5 28 "CheapHours$Terms" "bid" "I", Cond.fieldLink RX5 31 "CheapHours$Terms" "span" "I", Cond.fieldLink RX5 34 "CheapHours$Terms" "came" "I", Cond.methodLink RX6 63 yX5_canBe, Cond.instanceMethod yX5_canBe, Cond.selects RX5 yX5_canBe yX5_canBe, Cond.code yX5_canBe cX5_canBe 1 (some .boolean), Cond.methodLink RX6 67 yX1_init, Cond.instanceMethod yX1_init, Cond.code yX1_init cX1_init 2 none, Cond.methodLink RX1 3 objectInit, Cond.fieldLink RX1 9 "CheapHours$Job" "terms" "LCheapHours$Terms;", Cond.fieldLink RX1 15 "CheapHours$Job" "place" "I", Cond.fieldLink RX1 19 "CheapHours$Job" "readyAt" "I"]
def wsX6_job : List Cond := .code yX6_job cX6_job 6 (some .int) :: ((wsX6_job_r1 ++ wsX6_job_r2) ++ wsX60 ++ wsX50 ++ wsX10)
def wsX6_jobOf : List Cond := .code yX6_jobOf cX6_jobOf 2 (some (.object "CheapHours$Job")) :: ([.fieldLink RX6 18 "CheapHours" "jobs" "[LCheapHours$Job;", .methodLink RX6 38 yX6_within, .static yX6_within, .initialized RX6, .code yX6_within cX6_within 3 (some .boolean)] ++ wsX60)
def wsX6_passHour_r1 : List Cond := [Cond.fieldLink RX6 50 "CheapHours" "jobCount" "I", Cond.fieldLink RX6 10 "CheapHours" "prices" "LCheapHours$Prices;", Cond.methodLink RX6 80 yX6_jobOf, Cond.instanceMethod yX6_jobOf, Cond.selects RX6 yX6_jobOf yX6_jobOf, Cond.initialized RX6, Cond.code yX6_jobOf cX6_jobOf 2 (some (.object "CheapHours$Job")), Cond.fieldLink RX6 18 "CheapHours" "jobs" "[LCheapHours$Job;", Cond.methodLink RX6 38 yX6_within, Cond.static yX6_within, Cond.code yX6_within cX6_within 3 (some .boolean), Cond.methodLink RX6 159 yX1_passHour, Cond.instanceMethod yX1_passHour, Cond.selects RX1 yX1_passHour yX1_passHour, Cond.initialized RX1, Cond.code yX1_passHour cX1_passHour 4 none, Cond.fieldLink RX1 60 "CheapHours$Job" "guarded" "Z", Cond.fieldLink RX1 9 "CheapHours$Job" "terms" "LCheapHours$Terms;", Cond.fieldLink RX1 64 "CheapHours$Terms" "due" "I", Cond.fieldLink RX1 69 "CheapHours$Terms" "market" "I", Cond.fieldLink RX1 78 "CheapHours$Prices" "atFull" "I", Cond.fieldLink RX1 85 "CheapHours$Terms" "bid" "I", Cond.fieldLink RX1 22 "CheapHours$Job" "saved" "I", Cond.fieldLink RX1 94 "CheapHours$Terms" "work" "I"]
def wsX6_passHour_r2 : List Cond := [Cond.fieldLink RX1 19 "CheapHours$Job" "readyAt" "I", Cond.fieldLink RX1 15 "CheapHours$Job" "place" "I", Cond.methodLink RX1 56 yX1_isReady, Cond.instanceMethod yX1_isReady, Cond.selects RX1 yX1_isReady yX1_isReady, Cond.code yX1_isReady cX1_isReady 1 (some .boolean), Cond.methodLink RX1 49 yX1_need, Cond.instanceMethod yX1_need, Cond.selects RX1 yX1_need yX1_need, Cond.code yX1_need cX1_need 1 (some .int), Cond.fieldLink RX1 97 "CheapHours$Terms" "bring" "I", Cond.methodLink RX1 72 yX4_at, Cond.instanceMethod yX4_at, Cond.selects RX4 yX4_at yX4_at, Cond.initialized RX4, Cond.code yX4_at cX4_at 3 (some .int), Cond.fieldLink RX4 21 "CheapHours$Prices" "atFull" "I", Cond.fieldLink RX4 9 "CheapHours$Prices" "let" "[I", Cond.methodLink RX4 25 yX4_isLetHour, Cond.static yX4_isLetHour, Cond.code yX4_isLetHour cX4_isLetHour 2 (some .boolean), Cond.methodLink RX1 81 yX1_passAtFull, Cond.instanceMethod yX1_passAtFull, Cond.selects RX1 yX1_passAtFull yX1_passAtFull]
def wsX6_passHour_r3 : List Cond := [Cond.code yX1_passAtFull cX1_passAtFull 2 none, Cond.fieldLink RX1 43 "CheapHours$Job" "paid" "I", Cond.fieldLink RX1 46 "CheapHours$Job" "fullHours" "I", Cond.fieldLink RX1 103 "CheapHours$Job" "bringLeft" "I", Cond.fieldLink RX1 31 "CheapHours$Job" "workHours" "I", Cond.methodLink RX1 100 yX1_comeToFull, Cond.instanceMethod yX1_comeToFull, Cond.selects RX1 yX1_comeToFull yX1_comeToFull, Cond.code yX1_comeToFull cX1_comeToFull 1 none, Cond.fieldLink RX1 28 "CheapHours$Job" "lost" "I", Cond.methodLink RX1 109 yX1_loseUnsaved, Cond.instanceMethod yX1_loseUnsaved, Cond.selects RX1 yX1_loseUnsaved yX1_loseUnsaved, Cond.code yX1_loseUnsaved cX1_loseUnsaved 1 none, Cond.fieldLink RX1 25 "CheapHours$Job" "unsaved" "I", Cond.fieldLink RX1 112 "CheapHours$Job" "saveLeft" "I", Cond.methodLink RX1 106 yX1_bringOn, Cond.instanceMethod yX1_bringOn, Cond.selects RX1 yX1_bringOn yX1_bringOn, Cond.code yX1_bringOn cX1_bringOn 1 none, Cond.fieldLink RX1 34 "CheapHours$Job" "bringHours" "I", Cond.methodLink RX1 88 yX1_passWaiting, Cond.instanceMethod yX1_passWaiting, Cond.selects RX1 yX1_passWaiting yX1_passWaiting]
def wsX6_passHour_r4 : List Cond := [Cond.code yX1_passWaiting cX1_passWaiting 1 none, Cond.fieldLink RX1 53 "CheapHours$Job" "taken" "I", Cond.fieldLink RX1 40 "CheapHours$Job" "waitHours" "I", Cond.methodLink RX1 91 yX1_passAtMarket, Cond.instanceMethod yX1_passAtMarket, Cond.selects RX1 yX1_passAtMarket yX1_passAtMarket, Cond.code yX1_passAtMarket cX1_passAtMarket 2 none, Cond.methodLink RX1 115 yX1_saveOn, Cond.instanceMethod yX1_saveOn, Cond.selects RX1 yX1_saveOn yX1_saveOn, Cond.code yX1_saveOn cX1_saveOn 1 none, Cond.fieldLink RX1 37 "CheapHours$Job" "saveHours" "I", Cond.methodLink RX1 121 yX1_keepAll, Cond.instanceMethod yX1_keepAll, Cond.selects RX1 yX1_keepAll yX1_keepAll, Cond.code yX1_keepAll cX1_keepAll 1 none, Cond.methodLink RX1 118 yX1_workOn, Cond.instanceMethod yX1_workOn, Cond.selects RX1 yX1_workOn yX1_workOn, Cond.code yX1_workOn cX1_workOn 1 none, Cond.fieldLink RX1 124 "CheapHours$Terms" "span" "I", Cond.fieldLink RX1 127 "CheapHours$Terms" "save" "I"]
def wsX6_passHour : List Cond := .code yX6_passHour cX6_passHour 4 none :: ((wsX6_passHour_r1 ++ (wsX6_passHour_r2 ++ (wsX6_passHour_r3 ++ wsX6_passHour_r4))) ++ wsX60 ++ wsX10 ++ wsX50 ++ wsX40)
def wsX6_go_r1 : List Cond := [Cond.fieldLink RX6 42 "CheapHours" "now" "I", Cond.methodLink RX6 70 Lib.Math.min.name, Cond.static Lib.Math.min.name, Cond.initialized "java/lang/Math", Cond.code Lib.Math.min.name Lib.Math.min.code 2 (some .int), Cond.methodLink RX6 38 yX6_within, Cond.static yX6_within, Cond.initialized RX6, Cond.code yX6_within cX6_within 3 (some .boolean), Cond.methodLink RX6 76 yX6_passHour, Cond.instanceMethod yX6_passHour, Cond.selects RX6 yX6_passHour yX6_passHour, Cond.code yX6_passHour cX6_passHour 4 none, Cond.fieldLink RX6 50 "CheapHours" "jobCount" "I", Cond.fieldLink RX6 10 "CheapHours" "prices" "LCheapHours$Prices;", Cond.methodLink RX6 80 yX6_jobOf, Cond.instanceMethod yX6_jobOf, Cond.selects RX6 yX6_jobOf yX6_jobOf, Cond.code yX6_jobOf cX6_jobOf 2 (some (.object "CheapHours$Job")), Cond.fieldLink RX6 18 "CheapHours" "jobs" "[LCheapHours$Job;", Cond.methodLink RX6 159 yX1_passHour, Cond.instanceMethod yX1_passHour, Cond.selects RX1 yX1_passHour yX1_passHour, Cond.initialized RX1]
def wsX6_go_r2 : List Cond := [Cond.code yX1_passHour cX1_passHour 4 none, Cond.fieldLink RX1 60 "CheapHours$Job" "guarded" "Z", Cond.fieldLink RX1 9 "CheapHours$Job" "terms" "LCheapHours$Terms;", Cond.fieldLink RX1 64 "CheapHours$Terms" "due" "I", Cond.fieldLink RX1 69 "CheapHours$Terms" "market" "I", Cond.fieldLink RX1 78 "CheapHours$Prices" "atFull" "I", Cond.fieldLink RX1 85 "CheapHours$Terms" "bid" "I", Cond.fieldLink RX1 22 "CheapHours$Job" "saved" "I", Cond.fieldLink RX1 94 "CheapHours$Terms" "work" "I", Cond.fieldLink RX1 19 "CheapHours$Job" "readyAt" "I", Cond.fieldLink RX1 15 "CheapHours$Job" "place" "I", Cond.methodLink RX1 56 yX1_isReady, Cond.instanceMethod yX1_isReady, Cond.selects RX1 yX1_isReady yX1_isReady, Cond.code yX1_isReady cX1_isReady 1 (some .boolean), Cond.methodLink RX1 49 yX1_need, Cond.instanceMethod yX1_need, Cond.selects RX1 yX1_need yX1_need, Cond.code yX1_need cX1_need 1 (some .int), Cond.fieldLink RX1 97 "CheapHours$Terms" "bring" "I", Cond.methodLink RX1 72 yX4_at, Cond.instanceMethod yX4_at, Cond.selects RX4 yX4_at yX4_at, Cond.initialized RX4]
def wsX6_go_r3 : List Cond := [Cond.code yX4_at cX4_at 3 (some .int), Cond.fieldLink RX4 21 "CheapHours$Prices" "atFull" "I", Cond.fieldLink RX4 9 "CheapHours$Prices" "let" "[I", Cond.methodLink RX4 25 yX4_isLetHour, Cond.static yX4_isLetHour, Cond.code yX4_isLetHour cX4_isLetHour 2 (some .boolean), Cond.methodLink RX1 81 yX1_passAtFull, Cond.instanceMethod yX1_passAtFull, Cond.selects RX1 yX1_passAtFull yX1_passAtFull, Cond.code yX1_passAtFull cX1_passAtFull 2 none, Cond.fieldLink RX1 43 "CheapHours$Job" "paid" "I", Cond.fieldLink RX1 46 "CheapHours$Job" "fullHours" "I", Cond.fieldLink RX1 103 "CheapHours$Job" "bringLeft" "I", Cond.fieldLink RX1 31 "CheapHours$Job" "workHours" "I", Cond.methodLink RX1 100 yX1_comeToFull, Cond.instanceMethod yX1_comeToFull, Cond.selects RX1 yX1_comeToFull yX1_comeToFull, Cond.code yX1_comeToFull cX1_comeToFull 1 none, Cond.fieldLink RX1 28 "CheapHours$Job" "lost" "I", Cond.methodLink RX1 109 yX1_loseUnsaved, Cond.instanceMethod yX1_loseUnsaved, Cond.selects RX1 yX1_loseUnsaved yX1_loseUnsaved, Cond.code yX1_loseUnsaved cX1_loseUnsaved 1 none, Cond.fieldLink RX1 25 "CheapHours$Job" "unsaved" "I"]
def wsX6_go_r4 : List Cond := [Cond.fieldLink RX1 112 "CheapHours$Job" "saveLeft" "I", Cond.methodLink RX1 106 yX1_bringOn, Cond.instanceMethod yX1_bringOn, Cond.selects RX1 yX1_bringOn yX1_bringOn, Cond.code yX1_bringOn cX1_bringOn 1 none, Cond.fieldLink RX1 34 "CheapHours$Job" "bringHours" "I", Cond.methodLink RX1 88 yX1_passWaiting, Cond.instanceMethod yX1_passWaiting, Cond.selects RX1 yX1_passWaiting yX1_passWaiting, Cond.code yX1_passWaiting cX1_passWaiting 1 none, Cond.fieldLink RX1 53 "CheapHours$Job" "taken" "I", Cond.fieldLink RX1 40 "CheapHours$Job" "waitHours" "I", Cond.methodLink RX1 91 yX1_passAtMarket, Cond.instanceMethod yX1_passAtMarket, Cond.selects RX1 yX1_passAtMarket yX1_passAtMarket, Cond.code yX1_passAtMarket cX1_passAtMarket 2 none, Cond.methodLink RX1 115 yX1_saveOn, Cond.instanceMethod yX1_saveOn, Cond.selects RX1 yX1_saveOn yX1_saveOn, Cond.code yX1_saveOn cX1_saveOn 1 none, Cond.fieldLink RX1 37 "CheapHours$Job" "saveHours" "I", Cond.methodLink RX1 121 yX1_keepAll, Cond.instanceMethod yX1_keepAll, Cond.selects RX1 yX1_keepAll yX1_keepAll]
def wsX6_go_r5 : List Cond := [Cond.code yX1_keepAll cX1_keepAll 1 none, Cond.methodLink RX1 118 yX1_workOn, Cond.instanceMethod yX1_workOn, Cond.selects RX1 yX1_workOn yX1_workOn, Cond.code yX1_workOn cX1_workOn 1 none, Cond.fieldLink RX1 124 "CheapHours$Terms" "span" "I", Cond.fieldLink RX1 127 "CheapHours$Terms" "save" "I"]
def wsX6_go : List Cond := .code yX6_go cX6_go 4 (some .int) :: ((wsX6_go_r1 ++ (wsX6_go_r2 ++ (wsX6_go_r3 ++ (wsX6_go_r4 ++ wsX6_go_r5)))) ++ wsX60 ++ wsX10 ++ wsX50 ++ wsX40)
def wsX6_told_r1 : List Cond := [Cond.methodLink RX6 80 yX6_jobOf, Cond.instanceMethod yX6_jobOf, Cond.selects RX6 yX6_jobOf yX6_jobOf, Cond.initialized RX6, Cond.code yX6_jobOf cX6_jobOf 2 (some (.object "CheapHours$Job")), Cond.fieldLink RX6 18 "CheapHours" "jobs" "[LCheapHours$Job;", Cond.methodLink RX6 38 yX6_within, Cond.static yX6_within, Cond.code yX6_within cX6_within 3 (some .boolean), Cond.methodLink RX6 84 yX1_tell, Cond.instanceMethod yX1_tell, Cond.selects RX1 yX1_tell yX1_tell, Cond.initialized RX1, Cond.code yX1_tell cX1_tell 2 (some .int), Cond.fieldLink RX1 22 "CheapHours$Job" "saved" "I", Cond.fieldLink RX1 25 "CheapHours$Job" "unsaved" "I", Cond.fieldLink RX1 28 "CheapHours$Job" "lost" "I", Cond.fieldLink RX1 31 "CheapHours$Job" "workHours" "I", Cond.fieldLink RX1 34 "CheapHours$Job" "bringHours" "I", Cond.fieldLink RX1 37 "CheapHours$Job" "saveHours" "I", Cond.fieldLink RX1 40 "CheapHours$Job" "waitHours" "I", Cond.fieldLink RX1 43 "CheapHours$Job" "paid" "I", Cond.fieldLink RX1 46 "CheapHours$Job" "fullHours" "I", Cond.fieldLink RX1 15 "CheapHours$Job" "place" "I"]
def wsX6_told_r2 : List Cond := [Cond.fieldLink RX1 19 "CheapHours$Job" "readyAt" "I", Cond.fieldLink RX1 53 "CheapHours$Job" "taken" "I", Cond.methodLink RX1 49 yX1_need, Cond.instanceMethod yX1_need, Cond.selects RX1 yX1_need yX1_need, Cond.code yX1_need cX1_need 1 (some .int), Cond.fieldLink RX1 9 "CheapHours$Job" "terms" "LCheapHours$Terms;", Cond.fieldLink RX1 97 "CheapHours$Terms" "bring" "I", Cond.fieldLink RX1 94 "CheapHours$Terms" "work" "I"]
def wsX6_told : List Cond := .code yX6_told cX6_told 4 (some .int) :: ((wsX6_told_r1 ++ wsX6_told_r2) ++ wsX60 ++ wsX10 ++ wsX50)
def wsX6_span : List Cond := .code yX6_span cX6_span 4 (some .int) :: ([.methodLink RX6 88 yX2_canBe, .static yX2_canBe, .initialized RX2, .code yX2_canBe cX2_canBe 3 (some .boolean), .static yX6_within, .initialized RX6, .code yX6_within cX6_within 3 (some .boolean), .methodLink RX6 92 yX2_bestSpan, .static yX2_bestSpan, .code yX2_bestSpan cX2_bestSpan 9 (some .int), .methodLink RX2 13 yX2_above, .static yX2_above, .code yX2_above cX2_above 13 (some .long), .methodLink RX2 19 Lib.Math.min.name, .static Lib.Math.min.name, .initialized "java/lang/Math", .code Lib.Math.min.name Lib.Math.min.code 2 (some .int), .methodLink RX2 25 yX2_power, .static yX2_power, .code yX2_power cX2_power 5 (some .long)])
def wsX6_mean : List Cond := .code yX6_mean cX6_mean 12 (some .long) :: ([.constantLong RX6 96 (-1), .methodLink RX6 88 yX2_canBe, .static yX2_canBe, .initialized RX2, .code yX2_canBe cX2_canBe 3 (some .boolean), .static yX6_within, .initialized RX6, .code yX6_within cX6_within 3 (some .boolean), .methodLink RX6 38 yX6_within, .methodLink RX6 98 yX2_power, .static yX2_power, .code yX2_power cX2_power 5 (some .long), .methodLink RX6 102 yX2_above, .static yX2_above, .code yX2_above cX2_above 13 (some .long), .methodLink RX2 19 Lib.Math.min.name, .static Lib.Math.min.name, .initialized "java/lang/Math", .code Lib.Math.min.name Lib.Math.min.code 2 (some .int), .methodLink RX2 25 yX2_power, .methodLink RX6 106 yX2_commonDivisor, .static yX2_commonDivisor, .code yX2_commonDivisor cX2_commonDivisor 11 (some .long)])
def wsX6_levels : List Cond := .code yX6_levels cX6_levels 2 (some .boolean) :: ([.fieldLink RX6 27 "CheapHours" "plan" "LCheapHours$Plan;", .methodLink RX6 38 yX6_within, .static yX6_within, .initialized RX6, .code yX6_within cX6_within 3 (some .boolean), .methodLink RX6 110 yX3_startAnew, .instanceMethod yX3_startAnew, .selects RX3 yX3_startAnew yX3_startAnew, .initialized RX3, .code yX3_startAnew cX3_startAnew 3 none, .fieldLink RX3 39 "CheapHours$Plan" "size" "I", .methodLink RX3 43 yX3_setLevel, .instanceMethod yX3_setLevel, .selects RX3 yX3_setLevel yX3_setLevel, .code yX3_setLevel cX3_setLevel 8 none, .fieldLink RX3 15 "CheapHours$Plan" "asked" "[I", .fieldLink RX3 19 "CheapHours$Plan" "chance" "[I", .fieldLink RX3 35 "CheapHours$Plan" "known" "Z"] ++ wsX60 ++ wsX30)
def wsX6_level : List Cond := .code yX6_level cX6_level 4 (some .boolean) :: ([.fieldLink RX6 27 "CheapHours" "plan" "LCheapHours$Plan;", .methodLink RX6 113 yX3_has, .instanceMethod yX3_has, .selects RX3 yX3_has yX3_has, .initialized RX3, .code yX3_has cX3_has 2 (some .boolean), .fieldLink RX3 39 "CheapHours$Plan" "size" "I", .static yX6_within, .initialized RX6, .code yX6_within cX6_within 3 (some .boolean), .methodLink RX6 38 yX6_within, .methodLink RX6 117 yX3_canGo, .instanceMethod yX3_canGo, .selects RX3 yX3_canGo yX3_canGo, .code yX3_canGo cX3_canGo 5 (some .boolean), .methodLink RX6 120 yX3_setLevel, .instanceMethod yX3_setLevel, .selects RX3 yX3_setLevel yX3_setLevel, .code yX3_setLevel cX3_setLevel 8 none, .fieldLink RX3 15 "CheapHours$Plan" "asked" "[I", .fieldLink RX3 19 "CheapHours$Plan" "chance" "[I", .fieldLink RX3 35 "CheapHours$Plan" "known" "Z"] ++ wsX60 ++ wsX30)
def wsX6_table_r1 : List Cond := [Cond.fieldLink RX6 27 "CheapHours" "plan" "LCheapHours$Plan;", Cond.constantLong RX6 96 (-1), Cond.methodLink RX6 124 yX3_hasState, Cond.instanceMethod yX3_hasState, Cond.selects RX3 yX3_hasState yX3_hasState, Cond.initialized RX3, Cond.code yX3_hasState cX3_hasState 4 (some .boolean), Cond.static yX6_within, Cond.initialized RX6, Cond.code yX6_within cX6_within 3 (some .boolean), Cond.methodLink RX3 51 yX3_has, Cond.instanceMethod yX3_has, Cond.selects RX3 yX3_has yX3_has, Cond.code yX3_has cX3_has 2 (some .boolean), Cond.fieldLink RX3 39 "CheapHours$Plan" "size" "I", Cond.methodLink RX6 127 yX3_meanOf, Cond.instanceMethod yX3_meanOf, Cond.selects RX3 yX3_meanOf yX3_meanOf, Cond.code yX3_meanOf cX3_meanOf 4 (some .long), Cond.fieldLink RX3 22 "CheapHours$Plan" "mean" "[J", Cond.methodLink RX3 55 yX3_settleAll, Cond.instanceMethod yX3_settleAll, Cond.selects RX3 yX3_settleAll yX3_settleAll, Cond.code yX3_settleAll cX3_settleAll 4 none]
def wsX6_table_r2 : List Cond := [Cond.fieldLink RX3 35 "CheapHours$Plan" "known" "Z", Cond.methodLink RX3 76 yX3_settleMean, Cond.instanceMethod yX3_settleMean, Cond.selects RX3 yX3_settleMean yX3_settleMean, Cond.code yX3_settleMean cX3_settleMean 16 none, Cond.fieldLink RX3 26 "CheapHours$Plan" "choice" "[I", Cond.fieldLink RX3 11 "CheapHours$Plan" "prices" "LCheapHours$Prices;", Cond.fieldLink RX3 95 "CheapHours$Prices" "atFull" "I", Cond.methodLink RX3 82 yX3_stateOf, Cond.static yX3_stateOf, Cond.code yX3_stateOf cX3_stateOf 4 (some .int), Cond.methodLink RX3 86 yX2_power, Cond.static yX2_power, Cond.initialized RX2, Cond.code yX2_power cX2_power 5 (some .long), Cond.methodLink RX3 92 yX3_meanBehind, Cond.instanceMethod yX3_meanBehind, Cond.selects RX3 yX3_meanBehind yX3_meanBehind, Cond.code yX3_meanBehind cX3_meanBehind 8 (some .long), Cond.methodLink RX3 107 yX3_chanceOf, Cond.instanceMethod yX3_chanceOf, Cond.selects RX3 yX3_chanceOf yX3_chanceOf, Cond.code yX3_chanceOf cX3_chanceOf 4 (some .int), Cond.fieldLink RX3 19 "CheapHours$Plan" "chance" "[I"]
def wsX6_table_r3 : List Cond := [Cond.methodLink RX3 58 yX3_read, Cond.static yX3_read, Cond.code yX3_read cX3_read 5 (some .long), Cond.methodLink RX3 100 yX3_askedAt, Cond.instanceMethod yX3_askedAt, Cond.selects RX3 yX3_askedAt yX3_askedAt, Cond.code yX3_askedAt cX3_askedAt 2 (some .int), Cond.fieldLink RX3 15 "CheapHours$Plan" "asked" "[I", Cond.methodLink RX3 79 yX3_settleGreatest, Cond.instanceMethod yX3_settleGreatest, Cond.selects RX3 yX3_settleGreatest yX3_settleGreatest, Cond.code yX3_settleGreatest cX3_settleGreatest 6 none, Cond.fieldLink RX3 29 "CheapHours$Plan" "greatest" "[I", Cond.methodLink RX3 104 yX3_greatestBehind, Cond.instanceMethod yX3_greatestBehind, Cond.selects RX3 yX3_greatestBehind yX3_greatestBehind, Cond.code yX3_greatestBehind cX3_greatestBehind 6 (some .int), Cond.methodLink RX3 110 Lib.Math.max.name, Cond.static Lib.Math.max.name, Cond.initialized "java/lang/Math", Cond.code Lib.Math.max.name Lib.Math.max.code 2 (some .int), Cond.methodLink RX3 62 yX3_readInt, Cond.static yX3_readInt, Cond.code yX3_readInt cX3_readInt 5 (some .int)]
def wsX6_table : List Cond := .code yX6_table cX6_table 4 (some .long) :: ((wsX6_table_r1 ++ (wsX6_table_r2 ++ wsX6_table_r3)) ++ wsX60 ++ wsX30 ++ wsX40)
def wsX6_rule_r1 : List Cond := [Cond.fieldLink RX6 27 "CheapHours" "plan" "LCheapHours$Plan;", Cond.methodLink RX6 124 yX3_hasState, Cond.instanceMethod yX3_hasState, Cond.selects RX3 yX3_hasState yX3_hasState, Cond.initialized RX3, Cond.code yX3_hasState cX3_hasState 4 (some .boolean), Cond.static yX6_within, Cond.initialized RX6, Cond.code yX6_within cX6_within 3 (some .boolean), Cond.methodLink RX3 51 yX3_has, Cond.instanceMethod yX3_has, Cond.selects RX3 yX3_has yX3_has, Cond.code yX3_has cX3_has 2 (some .boolean), Cond.fieldLink RX3 39 "CheapHours$Plan" "size" "I", Cond.methodLink RX6 131 yX3_ruleOf, Cond.instanceMethod yX3_ruleOf, Cond.selects RX3 yX3_ruleOf yX3_ruleOf, Cond.code yX3_ruleOf cX3_ruleOf 4 (some .int), Cond.fieldLink RX3 26 "CheapHours$Plan" "choice" "[I", Cond.methodLink RX3 55 yX3_settleAll, Cond.instanceMethod yX3_settleAll, Cond.selects RX3 yX3_settleAll yX3_settleAll, Cond.code yX3_settleAll cX3_settleAll 4 none, Cond.fieldLink RX3 35 "CheapHours$Plan" "known" "Z"]
def wsX6_rule_r2 : List Cond := [Cond.methodLink RX3 76 yX3_settleMean, Cond.instanceMethod yX3_settleMean, Cond.selects RX3 yX3_settleMean yX3_settleMean, Cond.code yX3_settleMean cX3_settleMean 16 none, Cond.fieldLink RX3 22 "CheapHours$Plan" "mean" "[J", Cond.fieldLink RX3 11 "CheapHours$Plan" "prices" "LCheapHours$Prices;", Cond.fieldLink RX3 95 "CheapHours$Prices" "atFull" "I", Cond.methodLink RX3 82 yX3_stateOf, Cond.static yX3_stateOf, Cond.code yX3_stateOf cX3_stateOf 4 (some .int), Cond.methodLink RX3 86 yX2_power, Cond.static yX2_power, Cond.initialized RX2, Cond.code yX2_power cX2_power 5 (some .long), Cond.methodLink RX3 92 yX3_meanBehind, Cond.instanceMethod yX3_meanBehind, Cond.selects RX3 yX3_meanBehind yX3_meanBehind, Cond.code yX3_meanBehind cX3_meanBehind 8 (some .long), Cond.methodLink RX3 107 yX3_chanceOf, Cond.instanceMethod yX3_chanceOf, Cond.selects RX3 yX3_chanceOf yX3_chanceOf, Cond.code yX3_chanceOf cX3_chanceOf 4 (some .int), Cond.fieldLink RX3 19 "CheapHours$Plan" "chance" "[I", Cond.methodLink RX3 58 yX3_read]
def wsX6_rule_r3 : List Cond := [Cond.static yX3_read, Cond.code yX3_read cX3_read 5 (some .long), Cond.methodLink RX3 100 yX3_askedAt, Cond.instanceMethod yX3_askedAt, Cond.selects RX3 yX3_askedAt yX3_askedAt, Cond.code yX3_askedAt cX3_askedAt 2 (some .int), Cond.fieldLink RX3 15 "CheapHours$Plan" "asked" "[I", Cond.methodLink RX3 79 yX3_settleGreatest, Cond.instanceMethod yX3_settleGreatest, Cond.selects RX3 yX3_settleGreatest yX3_settleGreatest, Cond.code yX3_settleGreatest cX3_settleGreatest 6 none, Cond.fieldLink RX3 29 "CheapHours$Plan" "greatest" "[I", Cond.methodLink RX3 104 yX3_greatestBehind, Cond.instanceMethod yX3_greatestBehind, Cond.selects RX3 yX3_greatestBehind yX3_greatestBehind, Cond.code yX3_greatestBehind cX3_greatestBehind 6 (some .int), Cond.methodLink RX3 110 Lib.Math.max.name, Cond.static Lib.Math.max.name, Cond.initialized "java/lang/Math", Cond.code Lib.Math.max.name Lib.Math.max.code 2 (some .int), Cond.methodLink RX3 62 yX3_readInt, Cond.static yX3_readInt, Cond.code yX3_readInt cX3_readInt 5 (some .int)]
def wsX6_rule : List Cond := .code yX6_rule cX6_rule 4 (some .int) :: ((wsX6_rule_r1 ++ (wsX6_rule_r2 ++ wsX6_rule_r3)) ++ wsX60 ++ wsX30 ++ wsX40)
def wsX6_worst_r1 : List Cond := [Cond.fieldLink RX6 27 "CheapHours" "plan" "LCheapHours$Plan;", Cond.methodLink RX6 124 yX3_hasState, Cond.instanceMethod yX3_hasState, Cond.selects RX3 yX3_hasState yX3_hasState, Cond.initialized RX3, Cond.code yX3_hasState cX3_hasState 4 (some .boolean), Cond.static yX6_within, Cond.initialized RX6, Cond.code yX6_within cX6_within 3 (some .boolean), Cond.methodLink RX3 51 yX3_has, Cond.instanceMethod yX3_has, Cond.selects RX3 yX3_has yX3_has, Cond.code yX3_has cX3_has 2 (some .boolean), Cond.fieldLink RX3 39 "CheapHours$Plan" "size" "I", Cond.methodLink RX6 134 yX3_greatestOf, Cond.instanceMethod yX3_greatestOf, Cond.selects RX3 yX3_greatestOf yX3_greatestOf, Cond.code yX3_greatestOf cX3_greatestOf 4 (some .int), Cond.fieldLink RX3 29 "CheapHours$Plan" "greatest" "[I", Cond.methodLink RX3 55 yX3_settleAll, Cond.instanceMethod yX3_settleAll, Cond.selects RX3 yX3_settleAll yX3_settleAll, Cond.code yX3_settleAll cX3_settleAll 4 none, Cond.fieldLink RX3 35 "CheapHours$Plan" "known" "Z"]
def wsX6_worst_r2 : List Cond := [Cond.methodLink RX3 76 yX3_settleMean, Cond.instanceMethod yX3_settleMean, Cond.selects RX3 yX3_settleMean yX3_settleMean, Cond.code yX3_settleMean cX3_settleMean 16 none, Cond.fieldLink RX3 22 "CheapHours$Plan" "mean" "[J", Cond.fieldLink RX3 26 "CheapHours$Plan" "choice" "[I", Cond.fieldLink RX3 11 "CheapHours$Plan" "prices" "LCheapHours$Prices;", Cond.fieldLink RX3 95 "CheapHours$Prices" "atFull" "I", Cond.methodLink RX3 82 yX3_stateOf, Cond.static yX3_stateOf, Cond.code yX3_stateOf cX3_stateOf 4 (some .int), Cond.methodLink RX3 86 yX2_power, Cond.static yX2_power, Cond.initialized RX2, Cond.code yX2_power cX2_power 5 (some .long), Cond.methodLink RX3 92 yX3_meanBehind, Cond.instanceMethod yX3_meanBehind, Cond.selects RX3 yX3_meanBehind yX3_meanBehind, Cond.code yX3_meanBehind cX3_meanBehind 8 (some .long), Cond.methodLink RX3 107 yX3_chanceOf, Cond.instanceMethod yX3_chanceOf, Cond.selects RX3 yX3_chanceOf yX3_chanceOf, Cond.code yX3_chanceOf cX3_chanceOf 4 (some .int), Cond.fieldLink RX3 19 "CheapHours$Plan" "chance" "[I"]
def wsX6_worst_r3 : List Cond := [Cond.methodLink RX3 58 yX3_read, Cond.static yX3_read, Cond.code yX3_read cX3_read 5 (some .long), Cond.methodLink RX3 100 yX3_askedAt, Cond.instanceMethod yX3_askedAt, Cond.selects RX3 yX3_askedAt yX3_askedAt, Cond.code yX3_askedAt cX3_askedAt 2 (some .int), Cond.fieldLink RX3 15 "CheapHours$Plan" "asked" "[I", Cond.methodLink RX3 79 yX3_settleGreatest, Cond.instanceMethod yX3_settleGreatest, Cond.selects RX3 yX3_settleGreatest yX3_settleGreatest, Cond.code yX3_settleGreatest cX3_settleGreatest 6 none, Cond.methodLink RX3 104 yX3_greatestBehind, Cond.instanceMethod yX3_greatestBehind, Cond.selects RX3 yX3_greatestBehind yX3_greatestBehind, Cond.code yX3_greatestBehind cX3_greatestBehind 6 (some .int), Cond.methodLink RX3 110 Lib.Math.max.name, Cond.static Lib.Math.max.name, Cond.initialized "java/lang/Math", Cond.code Lib.Math.max.name Lib.Math.max.code 2 (some .int), Cond.methodLink RX3 62 yX3_readInt, Cond.static yX3_readInt, Cond.code yX3_readInt cX3_readInt 5 (some .int)]
def wsX6_worst : List Cond := .code yX6_worst cX6_worst 4 (some .int) :: ((wsX6_worst_r1 ++ (wsX6_worst_r2 ++ wsX6_worst_r3)) ++ wsX60 ++ wsX30 ++ wsX40)
def wsX6_capped_r1 : List Cond := [Cond.fieldLink RX6 27 "CheapHours" "plan" "LCheapHours$Plan;", Cond.constantLong RX6 96 (-1), Cond.methodLink RX6 124 yX3_hasState, Cond.instanceMethod yX3_hasState, Cond.selects RX3 yX3_hasState yX3_hasState, Cond.initialized RX3, Cond.code yX3_hasState cX3_hasState 4 (some .boolean), Cond.static yX6_within, Cond.initialized RX6, Cond.code yX6_within cX6_within 3 (some .boolean), Cond.methodLink RX3 51 yX3_has, Cond.instanceMethod yX3_has, Cond.selects RX3 yX3_has yX3_has, Cond.code yX3_has cX3_has 2 (some .boolean), Cond.fieldLink RX3 39 "CheapHours$Plan" "size" "I", Cond.methodLink RX6 38 yX6_within, Cond.methodLink RX6 137 yX3_meanCapped, Cond.instanceMethod yX3_meanCapped, Cond.selects RX3 yX3_meanCapped yX3_meanCapped, Cond.code yX3_meanCapped cX3_meanCapped 8 (some .long), Cond.methodLink RX3 66 Lib.Math.min.name, Cond.static Lib.Math.min.name, Cond.initialized "java/lang/Math", Cond.code Lib.Math.min.name Lib.Math.min.code 2 (some .int)]
def wsX6_capped_r2 : List Cond := [Cond.fieldLink RX3 32 "CheapHours$Plan" "meanByCap" "[J", Cond.methodLink RX3 72 yX3_settleCapped, Cond.instanceMethod yX3_settleCapped, Cond.selects RX3 yX3_settleCapped yX3_settleCapped, Cond.code yX3_settleCapped cX3_settleCapped 8 none, Cond.fieldLink RX3 11 "CheapHours$Plan" "prices" "LCheapHours$Prices;", Cond.fieldLink RX3 95 "CheapHours$Prices" "atFull" "I", Cond.methodLink RX3 82 yX3_stateOf, Cond.static yX3_stateOf, Cond.code yX3_stateOf cX3_stateOf 4 (some .int), Cond.methodLink RX3 100 yX3_askedAt, Cond.instanceMethod yX3_askedAt, Cond.selects RX3 yX3_askedAt yX3_askedAt, Cond.code yX3_askedAt cX3_askedAt 2 (some .int), Cond.fieldLink RX3 15 "CheapHours$Plan" "asked" "[I", Cond.methodLink RX3 92 yX3_meanBehind, Cond.instanceMethod yX3_meanBehind, Cond.selects RX3 yX3_meanBehind yX3_meanBehind, Cond.code yX3_meanBehind cX3_meanBehind 8 (some .long), Cond.methodLink RX3 107 yX3_chanceOf, Cond.instanceMethod yX3_chanceOf, Cond.selects RX3 yX3_chanceOf yX3_chanceOf, Cond.code yX3_chanceOf cX3_chanceOf 4 (some .int), Cond.fieldLink RX3 19 "CheapHours$Plan" "chance" "[I"]
def wsX6_capped_r3 : List Cond := [Cond.methodLink RX3 58 yX3_read, Cond.static yX3_read, Cond.code yX3_read cX3_read 5 (some .long), Cond.methodLink RX3 86 yX2_power, Cond.static yX2_power, Cond.initialized RX2, Cond.code yX2_power cX2_power 5 (some .long)]
def wsX6_capped : List Cond := .code yX6_capped cX6_capped 5 (some .long) :: ((wsX6_capped_r1 ++ (wsX6_capped_r2 ++ wsX6_capped_r3)) ++ wsX60 ++ wsX30 ++ wsX40)
def wsX6_oracle_r1 : List Cond := [Cond.fieldLink RX6 34 "CheapHours" "hindsight" "LCheapHours$Hindsight;", Cond.fieldLink RX6 141 "CheapHours$Job" "terms" "LCheapHours$Terms;", Cond.methodLink RX6 80 yX6_jobOf, Cond.instanceMethod yX6_jobOf, Cond.selects RX6 yX6_jobOf yX6_jobOf, Cond.initialized RX6, Cond.code yX6_jobOf cX6_jobOf 2 (some (.object "CheapHours$Job")), Cond.fieldLink RX6 18 "CheapHours" "jobs" "[LCheapHours$Job;", Cond.methodLink RX6 38 yX6_within, Cond.static yX6_within, Cond.code yX6_within cX6_within 3 (some .boolean), Cond.methodLink RX6 145 yX0_leastSum, Cond.instanceMethod yX0_leastSum, Cond.selects RX0 yX0_leastSum yX0_leastSum, Cond.initialized RX0, Cond.code yX0_leastSum cX0_leastSum 3 (some .int), Cond.fieldLink RX0 23 "CheapHours$Terms" "due" "I", Cond.fieldLink RX0 27 "CheapHours$Terms" "came" "I", Cond.methodLink RX0 30 yX0_settleHour, Cond.instanceMethod yX0_settleHour, Cond.selects RX0 yX0_settleHour yX0_settleHour, Cond.code yX0_settleHour cX0_settleHour 5 none, Cond.fieldLink RX0 38 "CheapHours$Terms" "work" "I", Cond.methodLink RX0 41 yX0_onMachine]
def wsX6_oracle_r2 : List Cond := [Cond.instanceMethod yX0_onMachine, Cond.selects RX0 yX0_onMachine yX0_onMachine, Cond.code yX0_onMachine cX0_onMachine 8 (some .int), Cond.fieldLink RX0 56 "CheapHours$Terms" "save" "I", Cond.methodLink RX0 66 Lib.Math.min.name, Cond.static Lib.Math.min.name, Cond.initialized "java/lang/Math", Cond.code Lib.Math.min.name Lib.Math.min.code 2 (some .int), Cond.methodLink RX0 52 yX0_stay, Cond.instanceMethod yX0_stay, Cond.selects RX0 yX0_stay yX0_stay, Cond.code yX0_stay cX0_stay 7 (some .int), Cond.fieldLink RX0 13 "CheapHours$Hindsight" "prices" "LCheapHours$Prices;", Cond.constant RX0 74 (1000000000), Cond.methodLink RX0 82 yX4_at, Cond.instanceMethod yX4_at, Cond.selects RX4 yX4_at yX4_at, Cond.initialized RX4, Cond.code yX4_at cX4_at 3 (some .int), Cond.fieldLink RX4 21 "CheapHours$Prices" "atFull" "I", Cond.fieldLink RX4 9 "CheapHours$Prices" "let" "[I", Cond.methodLink RX4 25 yX4_isLetHour, Cond.static yX4_isLetHour, Cond.code yX4_isLetHour cX4_isLetHour 2 (some .boolean)]
def wsX6_oracle_r3 : List Cond := [Cond.methodLink RX0 62 yX0_sum, Cond.static yX0_sum, Cond.code yX0_sum cX0_sum 2 (some .int), Cond.methodLink RX0 59 yX0_fromSaved, Cond.instanceMethod yX0_fromSaved, Cond.selects RX0 yX0_fromSaved yX0_fromSaved, Cond.code yX0_fromSaved cX0_fromSaved 5 (some .int), Cond.methodLink RX0 34 yX0_from, Cond.instanceMethod yX0_from, Cond.selects RX0 yX0_from yX0_from, Cond.code yX0_from cX0_from 6 (some .int), Cond.fieldLink RX0 19 "CheapHours$Hindsight" "least" "[I", Cond.methodLink RX0 75 yX0_slotOf, Cond.static yX0_slotOf, Cond.code yX0_slotOf cX0_slotOf 4 (some .int), Cond.methodLink RX0 44 yX0_put, Cond.instanceMethod yX0_put, Cond.selects RX0 yX0_put yX0_put, Cond.code yX0_put cX0_put 6 none, Cond.methodLink RX0 48 yX0_onNone, Cond.instanceMethod yX0_onNone, Cond.selects RX0 yX0_onNone yX0_onNone, Cond.code yX0_onNone cX0_onNone 9 (some .int), Cond.fieldLink RX0 71 "CheapHours$Terms" "bring" "I"]
def wsX6_oracle : List Cond := .code yX6_oracle cX6_oracle 3 (some .int) :: ((wsX6_oracle_r1 ++ (wsX6_oracle_r2 ++ wsX6_oracle_r3)) ++ wsX60 ++ wsX10 ++ wsX50 ++ wsX00 ++ wsX40)
def wsX6_readyJobs : List Cond := .code yX6_readyJobs cX6_readyJobs 4 (some .int) :: ([.fieldLink RX6 50 "CheapHours" "jobCount" "I", .methodLink RX6 80 yX6_jobOf, .instanceMethod yX6_jobOf, .selects RX6 yX6_jobOf yX6_jobOf, .initialized RX6, .code yX6_jobOf cX6_jobOf 2 (some (.object "CheapHours$Job")), .fieldLink RX6 18 "CheapHours" "jobs" "[LCheapHours$Job;", .methodLink RX6 38 yX6_within, .static yX6_within, .code yX6_within cX6_within 3 (some .boolean), .methodLink RX6 162 yX1_isReady, .instanceMethod yX1_isReady, .selects RX1 yX1_isReady yX1_isReady, .initialized RX1, .code yX1_isReady cX1_isReady 1 (some .boolean), .fieldLink RX1 19 "CheapHours$Job" "readyAt" "I"] ++ wsX60 ++ wsX10)
def wsX6_allPaid : List Cond := .code yX6_allPaid cX6_allPaid 4 (some .int) :: ([.fieldLink RX6 50 "CheapHours" "jobCount" "I", .fieldLink RX6 165 "CheapHours$Job" "paid" "I", .methodLink RX6 80 yX6_jobOf, .instanceMethod yX6_jobOf, .selects RX6 yX6_jobOf yX6_jobOf, .initialized RX6, .code yX6_jobOf cX6_jobOf 2 (some (.object "CheapHours$Job")), .fieldLink RX6 18 "CheapHours" "jobs" "[LCheapHours$Job;", .methodLink RX6 38 yX6_within, .static yX6_within, .code yX6_within cX6_within 3 (some .boolean)] ++ wsX60 ++ wsX10)
def wsX6_count_r1 : List Cond := [Cond.fieldLink RX6 42 "CheapHours" "now" "I", Cond.fieldLink RX6 50 "CheapHours" "jobCount" "I", Cond.fieldLink RX6 27 "CheapHours" "plan" "LCheapHours$Plan;", Cond.fieldLink RX6 156 "CheapHours$Plan" "size" "I", Cond.fieldLink RX6 10 "CheapHours" "prices" "LCheapHours$Prices;", Cond.fieldLink RX6 53 "CheapHours$Prices" "atFull" "I", Cond.methodLink RX6 149 yX6_readyJobs, Cond.instanceMethod yX6_readyJobs, Cond.selects RX6 yX6_readyJobs yX6_readyJobs, Cond.initialized RX6, Cond.code yX6_readyJobs cX6_readyJobs 4 (some .int), Cond.methodLink RX6 80 yX6_jobOf, Cond.instanceMethod yX6_jobOf, Cond.selects RX6 yX6_jobOf yX6_jobOf, Cond.code yX6_jobOf cX6_jobOf 2 (some (.object "CheapHours$Job")), Cond.fieldLink RX6 18 "CheapHours" "jobs" "[LCheapHours$Job;", Cond.methodLink RX6 38 yX6_within, Cond.static yX6_within, Cond.code yX6_within cX6_within 3 (some .boolean), Cond.methodLink RX6 162 yX1_isReady, Cond.instanceMethod yX1_isReady, Cond.selects RX1 yX1_isReady yX1_isReady, Cond.initialized RX1, Cond.code yX1_isReady cX1_isReady 1 (some .boolean)]
def wsX6_count_r2 : List Cond := [Cond.fieldLink RX1 19 "CheapHours$Job" "readyAt" "I", Cond.methodLink RX6 153 yX6_allPaid, Cond.instanceMethod yX6_allPaid, Cond.selects RX6 yX6_allPaid yX6_allPaid, Cond.code yX6_allPaid cX6_allPaid 4 (some .int), Cond.fieldLink RX6 165 "CheapHours$Job" "paid" "I"]
def wsX6_count : List Cond := .code yX6_count cX6_count 2 (some .int) :: ((wsX6_count_r1 ++ wsX6_count_r2) ++ wsX60 ++ wsX30 ++ wsX40 ++ wsX10)
def wsX7_init_r1 : List Cond := [Cond.methodLink RX7 1 objectInit, Cond.instanceMethod objectInit, Cond.code objectInit ⟨#[0xb1]⟩ 1 none, Cond.fieldLink RX7 7 "CheapHoursModel" "full" "I", Cond.arrayClass .int, Cond.fieldLink RX7 13 "CheapHoursModel" "prices" "[I", Cond.fieldLink RX7 17 "CheapHoursModel" "work" "[I", Cond.fieldLink RX7 20 "CheapHoursModel" "due" "[I", Cond.fieldLink RX7 23 "CheapHoursModel" "market" "[I", Cond.fieldLink RX7 26 "CheapHoursModel" "bid" "[I", Cond.fieldLink RX7 29 "CheapHoursModel" "spanOf" "[I", Cond.fieldLink RX7 32 "CheapHoursModel" "save" "[I", Cond.fieldLink RX7 35 "CheapHoursModel" "bring" "[I", Cond.fieldLink RX7 38 "CheapHoursModel" "cameAt" "[I", Cond.fieldLink RX7 41 "CheapHoursModel" "saved" "[I", Cond.fieldLink RX7 44 "CheapHoursModel" "done" "[I", Cond.fieldLink RX7 47 "CheapHoursModel" "lost" "[I", Cond.fieldLink RX7 50 "CheapHoursModel" "worked" "[I", Cond.fieldLink RX7 53 "CheapHoursModel" "brought" "[I", Cond.fieldLink RX7 56 "CheapHoursModel" "saving" "[I", Cond.fieldLink RX7 59 "CheapHoursModel" "waited" "[I", Cond.fieldLink RX7 62 "CheapHoursModel" "paid" "[I", Cond.fieldLink RX7 65 "CheapHoursModel" "fullHours" "[I", Cond.fieldLink RX7 68 "CheapHoursModel" "place" "[I"]
def wsX7_init_r2 : List Cond := [Cond.fieldLink RX7 71 "CheapHoursModel" "readyAt" "[I", Cond.fieldLink RX7 74 "CheapHoursModel" "taken" "[I", Cond.fieldLink RX7 77 "CheapHoursModel" "toBring" "[I", Cond.fieldLink RX7 80 "CheapHoursModel" "toSave" "[I", Cond.fieldLink RX7 83 "CheapHoursModel" "since" "[I", Cond.arrayClass .boolean, Cond.fieldLink RX7 86 "CheapHoursModel" "isGuarded" "[Z", Cond.fieldLink RX7 90 "CheapHoursModel" "levelPrice" "[I", Cond.fieldLink RX7 93 "CheapHoursModel" "chance" "[I", Cond.arrayClass .long, Cond.fieldLink RX7 96 "CheapHoursModel" "means" "[J", Cond.fieldLink RX7 100 "CheapHoursModel" "rules" "[I", Cond.fieldLink RX7 103 "CheapHoursModel" "worsts" "[I", Cond.fieldLink RX7 106 "CheapHoursModel" "costs" "[I"]
def wsX7_init : List Cond := .code yX7_init cX7_init 2 none :: ((wsX7_init_r1 ++ wsX7_init_r2) ++ wsX70)
def wsX7_in : List Cond := .code yX7_in cX7_in 3 (some .boolean) :: ([])
def wsX7_isJob : List Cond := .code yX7_isJob cX7_isJob 2 (some .boolean) :: ([.fieldLink RX7 109 "CheapHoursModel" "jobs" "I", .methodLink RX7 112 yX7_in, .static yX7_in, .initialized RX7, .code yX7_in cX7_in 3 (some .boolean)] ++ wsX70)
def wsX7_price : List Cond := .code yX7_price cX7_price 6 (some .boolean) :: ([.fieldLink RX7 116 "CheapHoursModel" "now" "I", .fieldLink RX7 13 "CheapHoursModel" "prices" "[I", .methodLink RX7 112 yX7_in, .static yX7_in, .initialized RX7, .code yX7_in cX7_in 3 (some .boolean)] ++ wsX70)
def wsX7_full : List Cond := .code yX7_full cX7_full 2 (some .boolean) :: ([.fieldLink RX7 116 "CheapHoursModel" "now" "I", .fieldLink RX7 109 "CheapHoursModel" "jobs" "I", .fieldLink RX7 7 "CheapHoursModel" "full" "I", .methodLink RX7 112 yX7_in, .static yX7_in, .initialized RX7, .code yX7_in cX7_in 3 (some .boolean)] ++ wsX70)
def wsX7_job : List Cond := .code yX7_job cX7_job 7 (some .int) :: ([.constant RX7 119 (1000000), .fieldLink RX7 116 "CheapHoursModel" "now" "I", .fieldLink RX7 109 "CheapHoursModel" "jobs" "I", .fieldLink RX7 17 "CheapHoursModel" "work" "[I", .fieldLink RX7 20 "CheapHoursModel" "due" "[I", .fieldLink RX7 23 "CheapHoursModel" "market" "[I", .fieldLink RX7 32 "CheapHoursModel" "save" "[I", .fieldLink RX7 35 "CheapHoursModel" "bring" "[I", .fieldLink RX7 26 "CheapHoursModel" "bid" "[I", .fieldLink RX7 29 "CheapHoursModel" "spanOf" "[I", .fieldLink RX7 38 "CheapHoursModel" "cameAt" "[I", .fieldLink RX7 71 "CheapHoursModel" "readyAt" "[I", .methodLink RX7 112 yX7_in, .static yX7_in, .initialized RX7, .code yX7_in cX7_in 3 (some .boolean)] ++ wsX70)
def wsX7_need : List Cond := .code yX7_need cX7_need 2 (some .int) :: ([.fieldLink RX7 41 "CheapHoursModel" "saved" "[I", .fieldLink RX7 35 "CheapHoursModel" "bring" "[I", .fieldLink RX7 17 "CheapHoursModel" "work" "[I"] ++ wsX70)
def wsX7_loses : List Cond := .code yX7_loses cX7_loses 2 none :: ([.fieldLink RX7 47 "CheapHoursModel" "lost" "[I", .fieldLink RX7 44 "CheapHoursModel" "done" "[I", .fieldLink RX7 80 "CheapHoursModel" "toSave" "[I", .fieldLink RX7 77 "CheapHoursModel" "toBring" "[I", .fieldLink RX7 83 "CheapHoursModel" "since" "[I"] ++ wsX70)
def wsX7_atFull : List Cond := .code yX7_atFull cX7_atFull 2 none :: ([.fieldLink RX7 68 "CheapHoursModel" "place" "[I", .fieldLink RX7 41 "CheapHoursModel" "saved" "[I", .fieldLink RX7 35 "CheapHoursModel" "bring" "[I", .fieldLink RX7 77 "CheapHoursModel" "toBring" "[I", .fieldLink RX7 47 "CheapHoursModel" "lost" "[I", .fieldLink RX7 62 "CheapHoursModel" "paid" "[I", .fieldLink RX7 7 "CheapHoursModel" "full" "I", .fieldLink RX7 65 "CheapHoursModel" "fullHours" "[I", .fieldLink RX7 53 "CheapHoursModel" "brought" "[I", .fieldLink RX7 50 "CheapHoursModel" "worked" "[I", .methodLink RX7 120 yX7_loses, .instanceMethod yX7_loses, .selects RX7 yX7_loses yX7_loses, .initialized RX7, .code yX7_loses cX7_loses 2 none, .fieldLink RX7 44 "CheapHoursModel" "done" "[I", .fieldLink RX7 80 "CheapHoursModel" "toSave" "[I", .fieldLink RX7 83 "CheapHoursModel" "since" "[I"] ++ wsX70)
def wsX7_keeps : List Cond := .code yX7_keeps cX7_keeps 2 none :: ([.fieldLink RX7 41 "CheapHoursModel" "saved" "[I", .fieldLink RX7 44 "CheapHoursModel" "done" "[I", .fieldLink RX7 83 "CheapHoursModel" "since" "[I"] ++ wsX70)
def wsX7_atMarket : List Cond := .code yX7_atMarket cX7_atMarket 3 none :: ([.fieldLink RX7 68 "CheapHoursModel" "place" "[I", .fieldLink RX7 83 "CheapHoursModel" "since" "[I", .fieldLink RX7 77 "CheapHoursModel" "toBring" "[I", .fieldLink RX7 41 "CheapHoursModel" "saved" "[I", .fieldLink RX7 35 "CheapHoursModel" "bring" "[I", .fieldLink RX7 62 "CheapHoursModel" "paid" "[I", .fieldLink RX7 53 "CheapHoursModel" "brought" "[I", .fieldLink RX7 80 "CheapHoursModel" "toSave" "[I", .fieldLink RX7 56 "CheapHoursModel" "saving" "[I", .fieldLink RX7 50 "CheapHoursModel" "worked" "[I", .fieldLink RX7 44 "CheapHoursModel" "done" "[I", .fieldLink RX7 29 "CheapHoursModel" "spanOf" "[I", .fieldLink RX7 17 "CheapHoursModel" "work" "[I", .fieldLink RX7 32 "CheapHoursModel" "save" "[I", .methodLink RX7 124 yX7_keeps, .instanceMethod yX7_keeps, .selects RX7 yX7_keeps yX7_keeps, .initialized RX7, .code yX7_keeps cX7_keeps 2 none] ++ wsX70)
def wsX7_hour_r1 : List Cond := [Cond.fieldLink RX7 86 "CheapHoursModel" "isGuarded" "[Z", Cond.fieldLink RX7 20 "CheapHoursModel" "due" "[I", Cond.fieldLink RX7 116 "CheapHoursModel" "now" "I", Cond.fieldLink RX7 13 "CheapHoursModel" "prices" "[I", Cond.fieldLink RX7 23 "CheapHoursModel" "market" "[I", Cond.fieldLink RX7 26 "CheapHoursModel" "bid" "[I", Cond.fieldLink RX7 68 "CheapHoursModel" "place" "[I", Cond.fieldLink RX7 74 "CheapHoursModel" "taken" "[I", Cond.fieldLink RX7 59 "CheapHoursModel" "waited" "[I", Cond.fieldLink RX7 41 "CheapHoursModel" "saved" "[I", Cond.fieldLink RX7 17 "CheapHoursModel" "work" "[I", Cond.fieldLink RX7 71 "CheapHoursModel" "readyAt" "[I", Cond.methodLink RX7 127 yX7_need, Cond.instanceMethod yX7_need, Cond.selects RX7 yX7_need yX7_need, Cond.initialized RX7, Cond.code yX7_need cX7_need 2 (some .int), Cond.fieldLink RX7 35 "CheapHoursModel" "bring" "[I", Cond.methodLink RX7 131 yX7_atFull, Cond.instanceMethod yX7_atFull, Cond.selects RX7 yX7_atFull yX7_atFull, Cond.code yX7_atFull cX7_atFull 2 none, Cond.fieldLink RX7 77 "CheapHoursModel" "toBring" "[I", Cond.fieldLink RX7 47 "CheapHoursModel" "lost" "[I"]
def wsX7_hour_r2 : List Cond := [Cond.fieldLink RX7 62 "CheapHoursModel" "paid" "[I", Cond.fieldLink RX7 7 "CheapHoursModel" "full" "I", Cond.fieldLink RX7 65 "CheapHoursModel" "fullHours" "[I", Cond.fieldLink RX7 53 "CheapHoursModel" "brought" "[I", Cond.fieldLink RX7 50 "CheapHoursModel" "worked" "[I", Cond.methodLink RX7 120 yX7_loses, Cond.instanceMethod yX7_loses, Cond.selects RX7 yX7_loses yX7_loses, Cond.code yX7_loses cX7_loses 2 none, Cond.fieldLink RX7 44 "CheapHoursModel" "done" "[I", Cond.fieldLink RX7 80 "CheapHoursModel" "toSave" "[I", Cond.fieldLink RX7 83 "CheapHoursModel" "since" "[I", Cond.methodLink RX7 134 yX7_atMarket, Cond.instanceMethod yX7_atMarket, Cond.selects RX7 yX7_atMarket yX7_atMarket, Cond.code yX7_atMarket cX7_atMarket 3 none, Cond.fieldLink RX7 56 "CheapHoursModel" "saving" "[I", Cond.fieldLink RX7 29 "CheapHoursModel" "spanOf" "[I", Cond.fieldLink RX7 32 "CheapHoursModel" "save" "[I", Cond.methodLink RX7 124 yX7_keeps, Cond.instanceMethod yX7_keeps, Cond.selects RX7 yX7_keeps yX7_keeps, Cond.code yX7_keeps cX7_keeps 2 none]
def wsX7_hour : List Cond := .code yX7_hour cX7_hour 3 none :: ((wsX7_hour_r1 ++ wsX7_hour_r2) ++ wsX70)
def wsX7_go_r1 : List Cond := [Cond.fieldLink RX7 116 "CheapHoursModel" "now" "I", Cond.fieldLink RX7 109 "CheapHoursModel" "jobs" "I", Cond.fieldLink RX7 71 "CheapHoursModel" "readyAt" "[I", Cond.methodLink RX7 112 yX7_in, Cond.static yX7_in, Cond.initialized RX7, Cond.code yX7_in cX7_in 3 (some .boolean), Cond.methodLink RX7 138 yX7_hour, Cond.instanceMethod yX7_hour, Cond.selects RX7 yX7_hour yX7_hour, Cond.code yX7_hour cX7_hour 3 none, Cond.fieldLink RX7 86 "CheapHoursModel" "isGuarded" "[Z", Cond.fieldLink RX7 20 "CheapHoursModel" "due" "[I", Cond.fieldLink RX7 13 "CheapHoursModel" "prices" "[I", Cond.fieldLink RX7 23 "CheapHoursModel" "market" "[I", Cond.fieldLink RX7 26 "CheapHoursModel" "bid" "[I", Cond.fieldLink RX7 68 "CheapHoursModel" "place" "[I", Cond.fieldLink RX7 74 "CheapHoursModel" "taken" "[I", Cond.fieldLink RX7 59 "CheapHoursModel" "waited" "[I", Cond.fieldLink RX7 41 "CheapHoursModel" "saved" "[I", Cond.fieldLink RX7 17 "CheapHoursModel" "work" "[I", Cond.methodLink RX7 127 yX7_need, Cond.instanceMethod yX7_need, Cond.selects RX7 yX7_need yX7_need]
def wsX7_go_r2 : List Cond := [Cond.code yX7_need cX7_need 2 (some .int), Cond.fieldLink RX7 35 "CheapHoursModel" "bring" "[I", Cond.methodLink RX7 131 yX7_atFull, Cond.instanceMethod yX7_atFull, Cond.selects RX7 yX7_atFull yX7_atFull, Cond.code yX7_atFull cX7_atFull 2 none, Cond.fieldLink RX7 77 "CheapHoursModel" "toBring" "[I", Cond.fieldLink RX7 47 "CheapHoursModel" "lost" "[I", Cond.fieldLink RX7 62 "CheapHoursModel" "paid" "[I", Cond.fieldLink RX7 7 "CheapHoursModel" "full" "I", Cond.fieldLink RX7 65 "CheapHoursModel" "fullHours" "[I", Cond.fieldLink RX7 53 "CheapHoursModel" "brought" "[I", Cond.fieldLink RX7 50 "CheapHoursModel" "worked" "[I", Cond.methodLink RX7 120 yX7_loses, Cond.instanceMethod yX7_loses, Cond.selects RX7 yX7_loses yX7_loses, Cond.code yX7_loses cX7_loses 2 none, Cond.fieldLink RX7 44 "CheapHoursModel" "done" "[I", Cond.fieldLink RX7 80 "CheapHoursModel" "toSave" "[I", Cond.fieldLink RX7 83 "CheapHoursModel" "since" "[I", Cond.methodLink RX7 134 yX7_atMarket, Cond.instanceMethod yX7_atMarket, Cond.selects RX7 yX7_atMarket yX7_atMarket, Cond.code yX7_atMarket cX7_atMarket 3 none]
def wsX7_go_r3 : List Cond := [Cond.fieldLink RX7 56 "CheapHoursModel" "saving" "[I", Cond.fieldLink RX7 29 "CheapHoursModel" "spanOf" "[I", Cond.fieldLink RX7 32 "CheapHoursModel" "save" "[I", Cond.methodLink RX7 124 yX7_keeps, Cond.instanceMethod yX7_keeps, Cond.selects RX7 yX7_keeps yX7_keeps, Cond.code yX7_keeps cX7_keeps 2 none]
def wsX7_go : List Cond := .code yX7_go cX7_go 4 (some .int) :: ((wsX7_go_r1 ++ (wsX7_go_r2 ++ wsX7_go_r3)) ++ wsX70)
def wsX7_told_r1 : List Cond := [Cond.fieldLink RX7 41 "CheapHoursModel" "saved" "[I", Cond.fieldLink RX7 44 "CheapHoursModel" "done" "[I", Cond.fieldLink RX7 47 "CheapHoursModel" "lost" "[I", Cond.fieldLink RX7 50 "CheapHoursModel" "worked" "[I", Cond.fieldLink RX7 53 "CheapHoursModel" "brought" "[I", Cond.fieldLink RX7 56 "CheapHoursModel" "saving" "[I", Cond.fieldLink RX7 59 "CheapHoursModel" "waited" "[I", Cond.fieldLink RX7 62 "CheapHoursModel" "paid" "[I", Cond.fieldLink RX7 65 "CheapHoursModel" "fullHours" "[I", Cond.fieldLink RX7 68 "CheapHoursModel" "place" "[I", Cond.fieldLink RX7 71 "CheapHoursModel" "readyAt" "[I", Cond.fieldLink RX7 74 "CheapHoursModel" "taken" "[I", Cond.methodLink RX7 141 yX7_isJob, Cond.instanceMethod yX7_isJob, Cond.selects RX7 yX7_isJob yX7_isJob, Cond.initialized RX7, Cond.code yX7_isJob cX7_isJob 2 (some .boolean), Cond.fieldLink RX7 109 "CheapHoursModel" "jobs" "I", Cond.methodLink RX7 112 yX7_in, Cond.static yX7_in, Cond.code yX7_in cX7_in 3 (some .boolean), Cond.methodLink RX7 127 yX7_need, Cond.instanceMethod yX7_need, Cond.selects RX7 yX7_need yX7_need]
def wsX7_told_r2 : List Cond := [Cond.code yX7_need cX7_need 2 (some .int), Cond.fieldLink RX7 35 "CheapHoursModel" "bring" "[I", Cond.fieldLink RX7 17 "CheapHoursModel" "work" "[I"]
def wsX7_told : List Cond := .code yX7_told cX7_told 3 (some .int) :: ((wsX7_told_r1 ++ wsX7_told_r2) ++ wsX70)
def wsX7_isTry : List Cond := .code yX7_isTry cX7_isTry 3 (some .boolean) :: ([.methodLink RX7 112 yX7_in, .static yX7_in, .initialized RX7, .code yX7_in cX7_in 3 (some .boolean)])
def wsX7_power : List Cond := .code yX7_power cX7_power 5 (some .long) :: ([])
def wsX7_tries : List Cond := .code yX7_tries cX7_tries 3 (some .long) :: ([.methodLink RX7 145 yX7_power, .static yX7_power, .initialized RX7, .code yX7_power cX7_power 5 (some .long)])
def wsX7_pieces : List Cond := .code yX7_pieces cX7_pieces 8 (some .long) :: ([.methodLink RX7 149 yX7_tries, .static yX7_tries, .initialized RX7, .code yX7_tries cX7_tries 3 (some .long), .methodLink RX7 145 yX7_power, .static yX7_power, .code yX7_power cX7_power 5 (some .long)])
def wsX7_span : List Cond := .code yX7_span cX7_span 6 (some .int) :: ([.methodLink RX7 153 yX7_isTry, .static yX7_isTry, .initialized RX7, .code yX7_isTry cX7_isTry 3 (some .boolean), .methodLink RX7 112 yX7_in, .static yX7_in, .code yX7_in cX7_in 3 (some .boolean), .methodLink RX7 156 yX7_pieces, .static yX7_pieces, .code yX7_pieces cX7_pieces 8 (some .long), .methodLink RX7 149 yX7_tries, .static yX7_tries, .code yX7_tries cX7_tries 3 (some .long), .methodLink RX7 145 yX7_power, .static yX7_power, .code yX7_power cX7_power 5 (some .long)])
def wsX7_mean : List Cond := .code yX7_mean cX7_mean 16 (some .long) :: ([.constantLong RX7 160 (-1), .methodLink RX7 153 yX7_isTry, .static yX7_isTry, .initialized RX7, .code yX7_isTry cX7_isTry 3 (some .boolean), .methodLink RX7 112 yX7_in, .static yX7_in, .code yX7_in cX7_in 3 (some .boolean), .methodLink RX7 156 yX7_pieces, .static yX7_pieces, .code yX7_pieces cX7_pieces 8 (some .long), .methodLink RX7 149 yX7_tries, .static yX7_tries, .code yX7_tries cX7_tries 3 (some .long), .methodLink RX7 145 yX7_power, .static yX7_power, .code yX7_power cX7_power 5 (some .long)])
def wsX7_levels : List Cond := .code yX7_levels cX7_levels 3 (some .boolean) :: ([.fieldLink RX7 162 "CheapHoursModel" "levels" "I", .fieldLink RX7 93 "CheapHoursModel" "chance" "[I", .fieldLink RX7 90 "CheapHoursModel" "levelPrice" "[I", .methodLink RX7 112 yX7_in, .static yX7_in, .initialized RX7, .code yX7_in cX7_in 3 (some .boolean)] ++ wsX70)
def wsX7_level : List Cond := .code yX7_level cX7_level 7 (some .boolean) :: ([.fieldLink RX7 162 "CheapHoursModel" "levels" "I", .fieldLink RX7 93 "CheapHoursModel" "chance" "[I", .fieldLink RX7 90 "CheapHoursModel" "levelPrice" "[I", .methodLink RX7 112 yX7_in, .static yX7_in, .initialized RX7, .code yX7_in cX7_in 3 (some .boolean)] ++ wsX70)
def wsX7_isState : List Cond := .code yX7_isState cX7_isState 4 (some .boolean) :: ([.fieldLink RX7 162 "CheapHoursModel" "levels" "I", .methodLink RX7 112 yX7_in, .static yX7_in, .initialized RX7, .code yX7_in cX7_in 3 (some .boolean)] ++ wsX70)
def wsX7_at : List Cond := .code yX7_at cX7_at 3 (some .int) :: ([])
def wsX7_next : List Cond := .code yX7_next cX7_next 7 (some .long) :: ([.fieldLink RX7 162 "CheapHoursModel" "levels" "I", .fieldLink RX7 93 "CheapHoursModel" "chance" "[I", .fieldLink RX7 96 "CheapHoursModel" "means" "[J", .methodLink RX7 165 yX7_at, .static yX7_at, .initialized RX7, .code yX7_at cX7_at 3 (some .int)] ++ wsX70)
def wsX7_worstNext : List Cond := .code yX7_worstNext cX7_worstNext 6 (some .int) :: ([.fieldLink RX7 162 "CheapHoursModel" "levels" "I", .fieldLink RX7 93 "CheapHoursModel" "chance" "[I", .fieldLink RX7 103 "CheapHoursModel" "worsts" "[I", .methodLink RX7 165 yX7_at, .static yX7_at, .initialized RX7, .code yX7_at cX7_at 3 (some .int)] ++ wsX70)
def wsX7_best : List Cond := .code yX7_best cX7_best 12 (some .int) :: ([.fieldLink RX7 90 "CheapHoursModel" "levelPrice" "[I", .fieldLink RX7 7 "CheapHoursModel" "full" "I", .methodLink RX7 173 yX7_next, .instanceMethod yX7_next, .selects RX7 yX7_next yX7_next, .initialized RX7, .code yX7_next cX7_next 7 (some .long), .fieldLink RX7 162 "CheapHoursModel" "levels" "I", .fieldLink RX7 93 "CheapHoursModel" "chance" "[I", .fieldLink RX7 96 "CheapHoursModel" "means" "[J", .methodLink RX7 165 yX7_at, .static yX7_at, .code yX7_at cX7_at 3 (some .int)] ++ wsX70)
def wsX7_state : List Cond := .code yX7_state cX7_state 13 none :: ([.fieldLink RX7 96 "CheapHoursModel" "means" "[J", .fieldLink RX7 100 "CheapHoursModel" "rules" "[I", .fieldLink RX7 103 "CheapHoursModel" "worsts" "[I", .fieldLink RX7 90 "CheapHoursModel" "levelPrice" "[I", .fieldLink RX7 7 "CheapHoursModel" "full" "I", .methodLink RX7 165 yX7_at, .static yX7_at, .initialized RX7, .code yX7_at cX7_at 3 (some .int), .methodLink RX7 173 yX7_next, .instanceMethod yX7_next, .selects RX7 yX7_next yX7_next, .code yX7_next cX7_next 7 (some .long), .fieldLink RX7 162 "CheapHoursModel" "levels" "I", .fieldLink RX7 93 "CheapHoursModel" "chance" "[I", .methodLink RX7 176 yX7_best, .instanceMethod yX7_best, .selects RX7 yX7_best yX7_best, .code yX7_best cX7_best 12 (some .int), .methodLink RX7 180 yX7_worstNext, .instanceMethod yX7_worstNext, .selects RX7 yX7_worstNext yX7_worstNext, .code yX7_worstNext cX7_worstNext 6 (some .int)] ++ wsX70)
def wsX7_makes_r1 : List Cond := [Cond.fieldLink RX7 162 "CheapHoursModel" "levels" "I", Cond.methodLink RX7 145 yX7_power, Cond.static yX7_power, Cond.initialized RX7, Cond.code yX7_power cX7_power 5 (some .long), Cond.methodLink RX7 169 yX7_state, Cond.instanceMethod yX7_state, Cond.selects RX7 yX7_state yX7_state, Cond.code yX7_state cX7_state 13 none, Cond.fieldLink RX7 96 "CheapHoursModel" "means" "[J", Cond.fieldLink RX7 100 "CheapHoursModel" "rules" "[I", Cond.fieldLink RX7 103 "CheapHoursModel" "worsts" "[I", Cond.fieldLink RX7 90 "CheapHoursModel" "levelPrice" "[I", Cond.fieldLink RX7 7 "CheapHoursModel" "full" "I", Cond.methodLink RX7 165 yX7_at, Cond.static yX7_at, Cond.code yX7_at cX7_at 3 (some .int), Cond.methodLink RX7 173 yX7_next, Cond.instanceMethod yX7_next, Cond.selects RX7 yX7_next yX7_next, Cond.code yX7_next cX7_next 7 (some .long), Cond.fieldLink RX7 93 "CheapHoursModel" "chance" "[I", Cond.methodLink RX7 176 yX7_best, Cond.instanceMethod yX7_best]
def wsX7_makes_r2 : List Cond := [Cond.selects RX7 yX7_best yX7_best, Cond.code yX7_best cX7_best 12 (some .int), Cond.methodLink RX7 180 yX7_worstNext, Cond.instanceMethod yX7_worstNext, Cond.selects RX7 yX7_worstNext yX7_worstNext, Cond.code yX7_worstNext cX7_worstNext 6 (some .int)]
def wsX7_makes : List Cond := .code yX7_makes cX7_makes 8 none :: ((wsX7_makes_r1 ++ wsX7_makes_r2) ++ wsX70)
def wsX7_table_r1 : List Cond := [Cond.constantLong RX7 160 (-1), Cond.fieldLink RX7 96 "CheapHoursModel" "means" "[J", Cond.methodLink RX7 183 yX7_isState, Cond.instanceMethod yX7_isState, Cond.selects RX7 yX7_isState yX7_isState, Cond.initialized RX7, Cond.code yX7_isState cX7_isState 4 (some .boolean), Cond.fieldLink RX7 162 "CheapHoursModel" "levels" "I", Cond.methodLink RX7 112 yX7_in, Cond.static yX7_in, Cond.code yX7_in cX7_in 3 (some .boolean), Cond.methodLink RX7 186 yX7_makes, Cond.instanceMethod yX7_makes, Cond.selects RX7 yX7_makes yX7_makes, Cond.code yX7_makes cX7_makes 8 none, Cond.methodLink RX7 145 yX7_power, Cond.static yX7_power, Cond.code yX7_power cX7_power 5 (some .long), Cond.methodLink RX7 169 yX7_state, Cond.instanceMethod yX7_state, Cond.selects RX7 yX7_state yX7_state, Cond.code yX7_state cX7_state 13 none, Cond.fieldLink RX7 100 "CheapHoursModel" "rules" "[I", Cond.fieldLink RX7 103 "CheapHoursModel" "worsts" "[I"]
def wsX7_table_r2 : List Cond := [Cond.fieldLink RX7 90 "CheapHoursModel" "levelPrice" "[I", Cond.fieldLink RX7 7 "CheapHoursModel" "full" "I", Cond.methodLink RX7 165 yX7_at, Cond.static yX7_at, Cond.code yX7_at cX7_at 3 (some .int), Cond.methodLink RX7 173 yX7_next, Cond.instanceMethod yX7_next, Cond.selects RX7 yX7_next yX7_next, Cond.code yX7_next cX7_next 7 (some .long), Cond.fieldLink RX7 93 "CheapHoursModel" "chance" "[I", Cond.methodLink RX7 176 yX7_best, Cond.instanceMethod yX7_best, Cond.selects RX7 yX7_best yX7_best, Cond.code yX7_best cX7_best 12 (some .int), Cond.methodLink RX7 180 yX7_worstNext, Cond.instanceMethod yX7_worstNext, Cond.selects RX7 yX7_worstNext yX7_worstNext, Cond.code yX7_worstNext cX7_worstNext 6 (some .int)]
def wsX7_table : List Cond := .code yX7_table cX7_table 4 (some .long) :: ((wsX7_table_r1 ++ wsX7_table_r2) ++ wsX70)
def wsX7_rule_r1 : List Cond := [Cond.fieldLink RX7 100 "CheapHoursModel" "rules" "[I", Cond.methodLink RX7 183 yX7_isState, Cond.instanceMethod yX7_isState, Cond.selects RX7 yX7_isState yX7_isState, Cond.initialized RX7, Cond.code yX7_isState cX7_isState 4 (some .boolean), Cond.fieldLink RX7 162 "CheapHoursModel" "levels" "I", Cond.methodLink RX7 112 yX7_in, Cond.static yX7_in, Cond.code yX7_in cX7_in 3 (some .boolean), Cond.methodLink RX7 186 yX7_makes, Cond.instanceMethod yX7_makes, Cond.selects RX7 yX7_makes yX7_makes, Cond.code yX7_makes cX7_makes 8 none, Cond.methodLink RX7 145 yX7_power, Cond.static yX7_power, Cond.code yX7_power cX7_power 5 (some .long), Cond.methodLink RX7 169 yX7_state, Cond.instanceMethod yX7_state, Cond.selects RX7 yX7_state yX7_state, Cond.code yX7_state cX7_state 13 none, Cond.fieldLink RX7 96 "CheapHoursModel" "means" "[J", Cond.fieldLink RX7 103 "CheapHoursModel" "worsts" "[I", Cond.fieldLink RX7 90 "CheapHoursModel" "levelPrice" "[I"]
def wsX7_rule_r2 : List Cond := [Cond.fieldLink RX7 7 "CheapHoursModel" "full" "I", Cond.methodLink RX7 165 yX7_at, Cond.static yX7_at, Cond.code yX7_at cX7_at 3 (some .int), Cond.methodLink RX7 173 yX7_next, Cond.instanceMethod yX7_next, Cond.selects RX7 yX7_next yX7_next, Cond.code yX7_next cX7_next 7 (some .long), Cond.fieldLink RX7 93 "CheapHoursModel" "chance" "[I", Cond.methodLink RX7 176 yX7_best, Cond.instanceMethod yX7_best, Cond.selects RX7 yX7_best yX7_best, Cond.code yX7_best cX7_best 12 (some .int), Cond.methodLink RX7 180 yX7_worstNext, Cond.instanceMethod yX7_worstNext, Cond.selects RX7 yX7_worstNext yX7_worstNext, Cond.code yX7_worstNext cX7_worstNext 6 (some .int)]
def wsX7_rule : List Cond := .code yX7_rule cX7_rule 4 (some .int) :: ((wsX7_rule_r1 ++ wsX7_rule_r2) ++ wsX70)
def wsX7_worst_r1 : List Cond := [Cond.fieldLink RX7 103 "CheapHoursModel" "worsts" "[I", Cond.methodLink RX7 183 yX7_isState, Cond.instanceMethod yX7_isState, Cond.selects RX7 yX7_isState yX7_isState, Cond.initialized RX7, Cond.code yX7_isState cX7_isState 4 (some .boolean), Cond.fieldLink RX7 162 "CheapHoursModel" "levels" "I", Cond.methodLink RX7 112 yX7_in, Cond.static yX7_in, Cond.code yX7_in cX7_in 3 (some .boolean), Cond.methodLink RX7 186 yX7_makes, Cond.instanceMethod yX7_makes, Cond.selects RX7 yX7_makes yX7_makes, Cond.code yX7_makes cX7_makes 8 none, Cond.methodLink RX7 145 yX7_power, Cond.static yX7_power, Cond.code yX7_power cX7_power 5 (some .long), Cond.methodLink RX7 169 yX7_state, Cond.instanceMethod yX7_state, Cond.selects RX7 yX7_state yX7_state, Cond.code yX7_state cX7_state 13 none, Cond.fieldLink RX7 96 "CheapHoursModel" "means" "[J", Cond.fieldLink RX7 100 "CheapHoursModel" "rules" "[I", Cond.fieldLink RX7 90 "CheapHoursModel" "levelPrice" "[I"]
def wsX7_worst_r2 : List Cond := [Cond.fieldLink RX7 7 "CheapHoursModel" "full" "I", Cond.methodLink RX7 165 yX7_at, Cond.static yX7_at, Cond.code yX7_at cX7_at 3 (some .int), Cond.methodLink RX7 173 yX7_next, Cond.instanceMethod yX7_next, Cond.selects RX7 yX7_next yX7_next, Cond.code yX7_next cX7_next 7 (some .long), Cond.fieldLink RX7 93 "CheapHoursModel" "chance" "[I", Cond.methodLink RX7 176 yX7_best, Cond.instanceMethod yX7_best, Cond.selects RX7 yX7_best yX7_best, Cond.code yX7_best cX7_best 12 (some .int), Cond.methodLink RX7 180 yX7_worstNext, Cond.instanceMethod yX7_worstNext, Cond.selects RX7 yX7_worstNext yX7_worstNext, Cond.code yX7_worstNext cX7_worstNext 6 (some .int)]
def wsX7_worst : List Cond := .code yX7_worst cX7_worst 4 (some .int) :: ((wsX7_worst_r1 ++ wsX7_worst_r2) ++ wsX70)
def wsX7_capped_r1 : List Cond := [Cond.constantLong RX7 160 (-1), Cond.fieldLink RX7 96 "CheapHoursModel" "means" "[J", Cond.methodLink RX7 183 yX7_isState, Cond.instanceMethod yX7_isState, Cond.selects RX7 yX7_isState yX7_isState, Cond.initialized RX7, Cond.code yX7_isState cX7_isState 4 (some .boolean), Cond.fieldLink RX7 162 "CheapHoursModel" "levels" "I", Cond.methodLink RX7 112 yX7_in, Cond.static yX7_in, Cond.code yX7_in cX7_in 3 (some .boolean), Cond.methodLink RX7 186 yX7_makes, Cond.instanceMethod yX7_makes, Cond.selects RX7 yX7_makes yX7_makes, Cond.code yX7_makes cX7_makes 8 none, Cond.methodLink RX7 145 yX7_power, Cond.static yX7_power, Cond.code yX7_power cX7_power 5 (some .long), Cond.methodLink RX7 169 yX7_state, Cond.instanceMethod yX7_state, Cond.selects RX7 yX7_state yX7_state, Cond.code yX7_state cX7_state 13 none, Cond.fieldLink RX7 100 "CheapHoursModel" "rules" "[I", Cond.fieldLink RX7 103 "CheapHoursModel" "worsts" "[I"]
def wsX7_capped_r2 : List Cond := [Cond.fieldLink RX7 90 "CheapHoursModel" "levelPrice" "[I", Cond.fieldLink RX7 7 "CheapHoursModel" "full" "I", Cond.methodLink RX7 165 yX7_at, Cond.static yX7_at, Cond.code yX7_at cX7_at 3 (some .int), Cond.methodLink RX7 173 yX7_next, Cond.instanceMethod yX7_next, Cond.selects RX7 yX7_next yX7_next, Cond.code yX7_next cX7_next 7 (some .long), Cond.fieldLink RX7 93 "CheapHoursModel" "chance" "[I", Cond.methodLink RX7 176 yX7_best, Cond.instanceMethod yX7_best, Cond.selects RX7 yX7_best yX7_best, Cond.code yX7_best cX7_best 12 (some .int), Cond.methodLink RX7 180 yX7_worstNext, Cond.instanceMethod yX7_worstNext, Cond.selects RX7 yX7_worstNext yX7_worstNext, Cond.code yX7_worstNext cX7_worstNext 6 (some .int)]
def wsX7_capped : List Cond := .code yX7_capped cX7_capped 5 (some .long) :: ((wsX7_capped_r1 ++ wsX7_capped_r2) ++ wsX70)
def wsX7_priceAt : List Cond := .code yX7_priceAt cX7_priceAt 3 (some .int) :: ([.fieldLink RX7 7 "CheapHoursModel" "full" "I", .fieldLink RX7 13 "CheapHoursModel" "prices" "[I"] ++ wsX70)
def wsX7_cheapest : List Cond := .code yX7_cheapest cX7_cheapest 13 (some .int) :: ([.fieldLink RX7 106 "CheapHoursModel" "costs" "[I", .fieldLink RX7 35 "CheapHoursModel" "bring" "[I", .fieldLink RX7 20 "CheapHoursModel" "due" "[I", .fieldLink RX7 17 "CheapHoursModel" "work" "[I", .fieldLink RX7 32 "CheapHoursModel" "save" "[I", .methodLink RX7 189 yX7_priceAt, .instanceMethod yX7_priceAt, .selects RX7 yX7_priceAt yX7_priceAt, .initialized RX7, .code yX7_priceAt cX7_priceAt 3 (some .int), .fieldLink RX7 7 "CheapHoursModel" "full" "I", .fieldLink RX7 13 "CheapHoursModel" "prices" "[I"] ++ wsX70)
def wsX7_oracle_r1 : List Cond := [Cond.fieldLink RX7 106 "CheapHoursModel" "costs" "[I", Cond.fieldLink RX7 20 "CheapHoursModel" "due" "[I", Cond.constant RX7 193 (1000000000), Cond.fieldLink RX7 38 "CheapHoursModel" "cameAt" "[I", Cond.fieldLink RX7 17 "CheapHoursModel" "work" "[I", Cond.methodLink RX7 141 yX7_isJob, Cond.instanceMethod yX7_isJob, Cond.selects RX7 yX7_isJob yX7_isJob, Cond.initialized RX7, Cond.code yX7_isJob cX7_isJob 2 (some .boolean), Cond.fieldLink RX7 109 "CheapHoursModel" "jobs" "I", Cond.methodLink RX7 112 yX7_in, Cond.static yX7_in, Cond.code yX7_in cX7_in 3 (some .boolean), Cond.methodLink RX7 194 yX7_cheapest, Cond.instanceMethod yX7_cheapest, Cond.selects RX7 yX7_cheapest yX7_cheapest, Cond.code yX7_cheapest cX7_cheapest 13 (some .int), Cond.fieldLink RX7 35 "CheapHoursModel" "bring" "[I", Cond.fieldLink RX7 32 "CheapHoursModel" "save" "[I", Cond.methodLink RX7 189 yX7_priceAt, Cond.instanceMethod yX7_priceAt, Cond.selects RX7 yX7_priceAt yX7_priceAt, Cond.code yX7_priceAt cX7_priceAt 3 (some .int)]
def wsX7_oracle_r2 : List Cond := [Cond.fieldLink RX7 7 "CheapHoursModel" "full" "I", Cond.fieldLink RX7 13 "CheapHoursModel" "prices" "[I"]
def wsX7_oracle : List Cond := .code yX7_oracle cX7_oracle 4 (some .int) :: ((wsX7_oracle_r1 ++ wsX7_oracle_r2) ++ wsX70)
def wsX7_count : List Cond := .code yX7_count cX7_count 4 (some .int) :: ([.fieldLink RX7 116 "CheapHoursModel" "now" "I", .fieldLink RX7 109 "CheapHoursModel" "jobs" "I", .fieldLink RX7 71 "CheapHoursModel" "readyAt" "[I", .fieldLink RX7 62 "CheapHoursModel" "paid" "[I", .fieldLink RX7 162 "CheapHoursModel" "levels" "I", .fieldLink RX7 7 "CheapHoursModel" "full" "I"] ++ wsX70)
def wsJ9_max_7cf53 : List Cond := .code yJ9_max_7cf53 cJ9_max_7cf53 2 (some .int) :: ([])
def wsJ9_min_7cf53 : List Cond := .code yJ9_min_7cf53 cJ9_min_7cf53 2 (some .int) :: ([])
def wsL_law_r1 : List Cond := [Cond.classLink RL 7 RX6, Cond.instantiable RX6 6, Cond.initialized RX6, Cond.classLink RL 10 RX7, Cond.instantiable RX7 35, Cond.initialized RX7, Cond.methodLink RL 9 yX6_init, Cond.instanceMethod yX6_init, Cond.code yX6_init cX6_init 1 none, Cond.methodLink RX6 1 objectInit, Cond.instanceMethod objectInit, Cond.code objectInit ⟨#[0xb1]⟩ 1 none, Cond.classLink RX6 7 RX4, Cond.instantiable RX4 2, Cond.initialized RX4, Cond.fieldLink RX6 10 "CheapHours" "prices" "LCheapHours$Prices;", Cond.classLink RX6 16 RX1, Cond.fieldLink RX6 18 "CheapHours" "jobs" "[LCheapHours$Job;", Cond.classLink RX6 22 RX3, Cond.instantiable RX3 9, Cond.initialized RX3, Cond.fieldLink RX6 27 "CheapHours" "plan" "LCheapHours$Plan;", Cond.classLink RX6 31 RX0, Cond.instantiable RX0 2]
def wsL_law_r2 : List Cond := [Cond.initialized RX0, Cond.fieldLink RX6 34 "CheapHours" "hindsight" "LCheapHours$Hindsight;", Cond.methodLink RX6 9 yX4_init, Cond.instanceMethod yX4_init, Cond.code yX4_init cX4_init 1 none, Cond.methodLink RX4 3 objectInit, Cond.arrayClass .int, Cond.fieldLink RX4 9 "CheapHours$Prices" "let" "[I", Cond.fieldLink RX4 21 "CheapHours$Prices" "atFull" "I", Cond.methodLink RX4 15 yJ7_fill_53178, Cond.static yJ7_fill_53178, Cond.initialized RJ7, Cond.code yJ7_fill_53178 cJ7_fill_53178 4 none, Cond.methodLink RX6 24 yX3_init, Cond.instanceMethod yX3_init, Cond.code yX3_init cX3_init 2 none, Cond.methodLink RX3 5 objectInit, Cond.fieldLink RX3 11 "CheapHours$Plan" "prices" "LCheapHours$Prices;", Cond.fieldLink RX3 15 "CheapHours$Plan" "asked" "[I", Cond.fieldLink RX3 19 "CheapHours$Plan" "chance" "[I", Cond.arrayClass .long, Cond.fieldLink RX3 22 "CheapHours$Plan" "mean" "[J", Cond.fieldLink RX3 26 "CheapHours$Plan" "choice" "[I", Cond.fieldLink RX3 29 "CheapHours$Plan" "greatest" "[I"]
def wsL_law_r3 : List Cond := [Cond.fieldLink RX3 32 "CheapHours$Plan" "meanByCap" "[J", Cond.methodLink RX6 33 yX0_init, Cond.instanceMethod yX0_init, Cond.code yX0_init cX0_init 2 none, Cond.methodLink RX0 7 objectInit, Cond.fieldLink RX0 13 "CheapHours$Hindsight" "prices" "LCheapHours$Prices;", Cond.fieldLink RX0 19 "CheapHours$Hindsight" "least" "[I", Cond.methodLink RL 12 yX7_init, Cond.instanceMethod yX7_init, Cond.code yX7_init cX7_init 2 none, Cond.methodLink RX7 1 objectInit, Cond.fieldLink RX7 7 "CheapHoursModel" "full" "I", Cond.fieldLink RX7 13 "CheapHoursModel" "prices" "[I", Cond.fieldLink RX7 17 "CheapHoursModel" "work" "[I", Cond.fieldLink RX7 20 "CheapHoursModel" "due" "[I", Cond.fieldLink RX7 23 "CheapHoursModel" "market" "[I", Cond.fieldLink RX7 26 "CheapHoursModel" "bid" "[I", Cond.fieldLink RX7 29 "CheapHoursModel" "spanOf" "[I", Cond.fieldLink RX7 32 "CheapHoursModel" "save" "[I", Cond.fieldLink RX7 35 "CheapHoursModel" "bring" "[I", Cond.fieldLink RX7 38 "CheapHoursModel" "cameAt" "[I", Cond.fieldLink RX7 41 "CheapHoursModel" "saved" "[I", Cond.fieldLink RX7 44 "CheapHoursModel" "done" "[I", Cond.fieldLink RX7 47 "CheapHoursModel" "lost" "[I"]
def wsL_law_r4 : List Cond := [Cond.fieldLink RX7 50 "CheapHoursModel" "worked" "[I", Cond.fieldLink RX7 53 "CheapHoursModel" "brought" "[I", Cond.fieldLink RX7 56 "CheapHoursModel" "saving" "[I", Cond.fieldLink RX7 59 "CheapHoursModel" "waited" "[I", Cond.fieldLink RX7 62 "CheapHoursModel" "paid" "[I", Cond.fieldLink RX7 65 "CheapHoursModel" "fullHours" "[I", Cond.fieldLink RX7 68 "CheapHoursModel" "place" "[I", Cond.fieldLink RX7 71 "CheapHoursModel" "readyAt" "[I", Cond.fieldLink RX7 74 "CheapHoursModel" "taken" "[I", Cond.fieldLink RX7 77 "CheapHoursModel" "toBring" "[I", Cond.fieldLink RX7 80 "CheapHoursModel" "toSave" "[I", Cond.fieldLink RX7 83 "CheapHoursModel" "since" "[I", Cond.arrayClass .boolean, Cond.fieldLink RX7 86 "CheapHoursModel" "isGuarded" "[Z", Cond.fieldLink RX7 90 "CheapHoursModel" "levelPrice" "[I", Cond.fieldLink RX7 93 "CheapHoursModel" "chance" "[I", Cond.fieldLink RX7 96 "CheapHoursModel" "means" "[J", Cond.fieldLink RX7 100 "CheapHoursModel" "rules" "[I", Cond.fieldLink RX7 103 "CheapHoursModel" "worsts" "[I", Cond.fieldLink RX7 106 "CheapHoursModel" "costs" "[I", Cond.methodLink RL 13 yX6_price, Cond.instanceMethod yX6_price, Cond.selects RX6 yX6_price yX6_price, Cond.code yX6_price cX6_price 5 (some .boolean)]
def wsL_law_r5 : List Cond := [Cond.fieldLink RX6 42 "CheapHours" "now" "I", Cond.methodLink RX6 38 yX6_within, Cond.static yX6_within, Cond.code yX6_within cX6_within 3 (some .boolean), Cond.methodLink RX6 46 yX4_put, Cond.instanceMethod yX4_put, Cond.selects RX4 yX4_put yX4_put, Cond.code yX4_put cX4_put 6 none, Cond.methodLink RX4 25 yX4_isLetHour, Cond.static yX4_isLetHour, Cond.code yX4_isLetHour cX4_isLetHour 2 (some .boolean), Cond.methodLink RL 17 yX7_price, Cond.instanceMethod yX7_price, Cond.selects RX7 yX7_price yX7_price, Cond.code yX7_price cX7_price 6 (some .boolean), Cond.fieldLink RX7 116 "CheapHoursModel" "now" "I", Cond.methodLink RX7 112 yX7_in, Cond.static yX7_in, Cond.code yX7_in cX7_in 3 (some .boolean), Cond.methodLink RL 18 yX6_full, Cond.instanceMethod yX6_full, Cond.selects RX6 yX6_full yX6_full, Cond.code yX6_full cX6_full 2 (some .boolean), Cond.fieldLink RX6 50 "CheapHours" "jobCount" "I"]
def wsL_law_r6 : List Cond := [Cond.fieldLink RX6 53 "CheapHours$Prices" "atFull" "I", Cond.methodLink RX6 56 yX3_forget, Cond.instanceMethod yX3_forget, Cond.selects RX3 yX3_forget yX3_forget, Cond.code yX3_forget cX3_forget 1 none, Cond.fieldLink RX3 35 "CheapHours$Plan" "known" "Z", Cond.methodLink RL 22 yX7_full, Cond.instanceMethod yX7_full, Cond.selects RX7 yX7_full yX7_full, Cond.code yX7_full cX7_full 2 (some .boolean), Cond.fieldLink RX7 109 "CheapHoursModel" "jobs" "I", Cond.methodLink RL 23 yX6_job, Cond.instanceMethod yX6_job, Cond.selects RX6 yX6_job yX6_job, Cond.code yX6_job cX6_job 6 (some .int), Cond.classLink RX6 59 RX5, Cond.instantiable RX5 8, Cond.initialized RX5, Cond.instantiable RX1 16, Cond.initialized RX1, Cond.methodLink RX6 61 yX5_init, Cond.instanceMethod yX5_init, Cond.code yX5_init cX5_init 5 none, Cond.methodLink RX5 3 objectInit]
def wsL_law_r7 : List Cond := [Cond.constant RX5 9 (1000000), Cond.fieldLink RX5 10 "CheapHours$Terms" "work" "I", Cond.fieldLink RX5 16 "CheapHours$Terms" "due" "I", Cond.fieldLink RX5 19 "CheapHours$Terms" "market" "I", Cond.fieldLink RX5 22 "CheapHours$Terms" "save" "I", Cond.fieldLink RX5 25 "CheapHours$Terms" "bring" "I", Cond.fieldLink RX5 28 "CheapHours$Terms" "bid" "I", Cond.fieldLink RX5 31 "CheapHours$Terms" "span" "I", Cond.fieldLink RX5 34 "CheapHours$Terms" "came" "I", Cond.methodLink RX6 63 yX5_canBe, Cond.instanceMethod yX5_canBe, Cond.selects RX5 yX5_canBe yX5_canBe, Cond.code yX5_canBe cX5_canBe 1 (some .boolean), Cond.methodLink RX6 67 yX1_init, Cond.instanceMethod yX1_init, Cond.code yX1_init cX1_init 2 none, Cond.methodLink RX1 3 objectInit, Cond.fieldLink RX1 9 "CheapHours$Job" "terms" "LCheapHours$Terms;", Cond.fieldLink RX1 15 "CheapHours$Job" "place" "I", Cond.fieldLink RX1 19 "CheapHours$Job" "readyAt" "I", Cond.methodLink RL 27 yX7_job, Cond.instanceMethod yX7_job, Cond.selects RX7 yX7_job yX7_job, Cond.code yX7_job cX7_job 7 (some .int)]
def wsL_law_r8 : List Cond := [Cond.constant RX7 119 (1000000), Cond.methodLink RL 28 yX6_go, Cond.instanceMethod yX6_go, Cond.selects RX6 yX6_go yX6_go, Cond.code yX6_go cX6_go 4 (some .int), Cond.methodLink RX6 70 Lib.Math.min.name, Cond.static Lib.Math.min.name, Cond.initialized "java/lang/Math", Cond.code Lib.Math.min.name Lib.Math.min.code 2 (some .int), Cond.methodLink RX6 76 yX6_passHour, Cond.instanceMethod yX6_passHour, Cond.selects RX6 yX6_passHour yX6_passHour, Cond.code yX6_passHour cX6_passHour 4 none, Cond.methodLink RX6 80 yX6_jobOf, Cond.instanceMethod yX6_jobOf, Cond.selects RX6 yX6_jobOf yX6_jobOf, Cond.code yX6_jobOf cX6_jobOf 2 (some (.object "CheapHours$Job")), Cond.methodLink RX6 159 yX1_passHour, Cond.instanceMethod yX1_passHour, Cond.selects RX1 yX1_passHour yX1_passHour, Cond.code yX1_passHour cX1_passHour 4 none, Cond.fieldLink RX1 60 "CheapHours$Job" "guarded" "Z", Cond.fieldLink RX1 64 "CheapHours$Terms" "due" "I", Cond.fieldLink RX1 69 "CheapHours$Terms" "market" "I"]
def wsL_law_r9 : List Cond := [Cond.fieldLink RX1 78 "CheapHours$Prices" "atFull" "I", Cond.fieldLink RX1 85 "CheapHours$Terms" "bid" "I", Cond.fieldLink RX1 22 "CheapHours$Job" "saved" "I", Cond.fieldLink RX1 94 "CheapHours$Terms" "work" "I", Cond.methodLink RX1 56 yX1_isReady, Cond.instanceMethod yX1_isReady, Cond.selects RX1 yX1_isReady yX1_isReady, Cond.code yX1_isReady cX1_isReady 1 (some .boolean), Cond.methodLink RX1 49 yX1_need, Cond.instanceMethod yX1_need, Cond.selects RX1 yX1_need yX1_need, Cond.code yX1_need cX1_need 1 (some .int), Cond.fieldLink RX1 97 "CheapHours$Terms" "bring" "I", Cond.methodLink RX1 72 yX4_at, Cond.instanceMethod yX4_at, Cond.selects RX4 yX4_at yX4_at, Cond.code yX4_at cX4_at 3 (some .int), Cond.methodLink RX1 81 yX1_passAtFull, Cond.instanceMethod yX1_passAtFull, Cond.selects RX1 yX1_passAtFull yX1_passAtFull, Cond.code yX1_passAtFull cX1_passAtFull 2 none, Cond.fieldLink RX1 43 "CheapHours$Job" "paid" "I", Cond.fieldLink RX1 46 "CheapHours$Job" "fullHours" "I", Cond.fieldLink RX1 103 "CheapHours$Job" "bringLeft" "I"]
def wsL_law_r10 : List Cond := [Cond.fieldLink RX1 31 "CheapHours$Job" "workHours" "I", Cond.methodLink RX1 100 yX1_comeToFull, Cond.instanceMethod yX1_comeToFull, Cond.selects RX1 yX1_comeToFull yX1_comeToFull, Cond.code yX1_comeToFull cX1_comeToFull 1 none, Cond.fieldLink RX1 28 "CheapHours$Job" "lost" "I", Cond.methodLink RX1 109 yX1_loseUnsaved, Cond.instanceMethod yX1_loseUnsaved, Cond.selects RX1 yX1_loseUnsaved yX1_loseUnsaved, Cond.code yX1_loseUnsaved cX1_loseUnsaved 1 none, Cond.fieldLink RX1 25 "CheapHours$Job" "unsaved" "I", Cond.fieldLink RX1 112 "CheapHours$Job" "saveLeft" "I", Cond.methodLink RX1 106 yX1_bringOn, Cond.instanceMethod yX1_bringOn, Cond.selects RX1 yX1_bringOn yX1_bringOn, Cond.code yX1_bringOn cX1_bringOn 1 none, Cond.fieldLink RX1 34 "CheapHours$Job" "bringHours" "I", Cond.methodLink RX1 88 yX1_passWaiting, Cond.instanceMethod yX1_passWaiting, Cond.selects RX1 yX1_passWaiting yX1_passWaiting, Cond.code yX1_passWaiting cX1_passWaiting 1 none, Cond.fieldLink RX1 53 "CheapHours$Job" "taken" "I", Cond.fieldLink RX1 40 "CheapHours$Job" "waitHours" "I", Cond.methodLink RX1 91 yX1_passAtMarket]
def wsL_law_r11 : List Cond := [Cond.instanceMethod yX1_passAtMarket, Cond.selects RX1 yX1_passAtMarket yX1_passAtMarket, Cond.code yX1_passAtMarket cX1_passAtMarket 2 none, Cond.methodLink RX1 115 yX1_saveOn, Cond.instanceMethod yX1_saveOn, Cond.selects RX1 yX1_saveOn yX1_saveOn, Cond.code yX1_saveOn cX1_saveOn 1 none, Cond.fieldLink RX1 37 "CheapHours$Job" "saveHours" "I", Cond.methodLink RX1 121 yX1_keepAll, Cond.instanceMethod yX1_keepAll, Cond.selects RX1 yX1_keepAll yX1_keepAll, Cond.code yX1_keepAll cX1_keepAll 1 none, Cond.methodLink RX1 118 yX1_workOn, Cond.instanceMethod yX1_workOn, Cond.selects RX1 yX1_workOn yX1_workOn, Cond.code yX1_workOn cX1_workOn 1 none, Cond.fieldLink RX1 124 "CheapHours$Terms" "span" "I", Cond.fieldLink RX1 127 "CheapHours$Terms" "save" "I", Cond.methodLink RL 32 yX7_go, Cond.instanceMethod yX7_go, Cond.selects RX7 yX7_go yX7_go, Cond.code yX7_go cX7_go 4 (some .int), Cond.methodLink RX7 138 yX7_hour, Cond.instanceMethod yX7_hour]
def wsL_law_r12 : List Cond := [Cond.selects RX7 yX7_hour yX7_hour, Cond.code yX7_hour cX7_hour 3 none, Cond.methodLink RX7 127 yX7_need, Cond.instanceMethod yX7_need, Cond.selects RX7 yX7_need yX7_need, Cond.code yX7_need cX7_need 2 (some .int), Cond.methodLink RX7 131 yX7_atFull, Cond.instanceMethod yX7_atFull, Cond.selects RX7 yX7_atFull yX7_atFull, Cond.code yX7_atFull cX7_atFull 2 none, Cond.methodLink RX7 120 yX7_loses, Cond.instanceMethod yX7_loses, Cond.selects RX7 yX7_loses yX7_loses, Cond.code yX7_loses cX7_loses 2 none, Cond.methodLink RX7 134 yX7_atMarket, Cond.instanceMethod yX7_atMarket, Cond.selects RX7 yX7_atMarket yX7_atMarket, Cond.code yX7_atMarket cX7_atMarket 3 none, Cond.methodLink RX7 124 yX7_keeps, Cond.instanceMethod yX7_keeps, Cond.selects RX7 yX7_keeps yX7_keeps, Cond.code yX7_keeps cX7_keeps 2 none, Cond.methodLink RL 33 yX6_told, Cond.instanceMethod yX6_told]
def wsL_law_r13 : List Cond := [Cond.selects RX6 yX6_told yX6_told, Cond.code yX6_told cX6_told 4 (some .int), Cond.methodLink RX6 84 yX1_tell, Cond.instanceMethod yX1_tell, Cond.selects RX1 yX1_tell yX1_tell, Cond.code yX1_tell cX1_tell 2 (some .int), Cond.methodLink RL 37 yX7_told, Cond.instanceMethod yX7_told, Cond.selects RX7 yX7_told yX7_told, Cond.code yX7_told cX7_told 3 (some .int), Cond.methodLink RX7 141 yX7_isJob, Cond.instanceMethod yX7_isJob, Cond.selects RX7 yX7_isJob yX7_isJob, Cond.code yX7_isJob cX7_isJob 2 (some .boolean), Cond.methodLink RL 38 yX6_span, Cond.instanceMethod yX6_span, Cond.selects RX6 yX6_span yX6_span, Cond.code yX6_span cX6_span 4 (some .int), Cond.methodLink RX6 88 yX2_canBe, Cond.static yX2_canBe, Cond.initialized RX2, Cond.code yX2_canBe cX2_canBe 3 (some .boolean), Cond.methodLink RX6 92 yX2_bestSpan, Cond.static yX2_bestSpan]
def wsL_law_r14 : List Cond := [Cond.code yX2_bestSpan cX2_bestSpan 9 (some .int), Cond.methodLink RX2 13 yX2_above, Cond.static yX2_above, Cond.code yX2_above cX2_above 13 (some .long), Cond.methodLink RX2 19 Lib.Math.min.name, Cond.methodLink RX2 25 yX2_power, Cond.static yX2_power, Cond.code yX2_power cX2_power 5 (some .long), Cond.methodLink RL 41 yX7_span, Cond.instanceMethod yX7_span, Cond.selects RX7 yX7_span yX7_span, Cond.code yX7_span cX7_span 6 (some .int), Cond.methodLink RX7 153 yX7_isTry, Cond.static yX7_isTry, Cond.code yX7_isTry cX7_isTry 3 (some .boolean), Cond.methodLink RX7 156 yX7_pieces, Cond.static yX7_pieces, Cond.code yX7_pieces cX7_pieces 8 (some .long), Cond.methodLink RX7 149 yX7_tries, Cond.static yX7_tries, Cond.code yX7_tries cX7_tries 3 (some .long), Cond.methodLink RX7 145 yX7_power, Cond.static yX7_power, Cond.code yX7_power cX7_power 5 (some .long)]
def wsL_law_r15 : List Cond := [Cond.methodLink RL 42 yX6_mean, Cond.instanceMethod yX6_mean, Cond.selects RX6 yX6_mean yX6_mean, Cond.code yX6_mean cX6_mean 12 (some .long), Cond.constantLong RX6 96 (-1), Cond.methodLink RX6 98 yX2_power, Cond.methodLink RX6 102 yX2_above, Cond.methodLink RX6 106 yX2_commonDivisor, Cond.static yX2_commonDivisor, Cond.code yX2_commonDivisor cX2_commonDivisor 11 (some .long), Cond.methodLink RL 46 yX7_mean, Cond.instanceMethod yX7_mean, Cond.selects RX7 yX7_mean yX7_mean, Cond.code yX7_mean cX7_mean 16 (some .long), Cond.constantLong RX7 160 (-1), Cond.methodLink RL 47 yX6_levels, Cond.instanceMethod yX6_levels, Cond.selects RX6 yX6_levels yX6_levels, Cond.code yX6_levels cX6_levels 2 (some .boolean), Cond.methodLink RX6 110 yX3_startAnew, Cond.instanceMethod yX3_startAnew, Cond.selects RX3 yX3_startAnew yX3_startAnew, Cond.code yX3_startAnew cX3_startAnew 3 none, Cond.fieldLink RX3 39 "CheapHours$Plan" "size" "I"]
def wsL_law_r16 : List Cond := [Cond.methodLink RX3 43 yX3_setLevel, Cond.instanceMethod yX3_setLevel, Cond.selects RX3 yX3_setLevel yX3_setLevel, Cond.code yX3_setLevel cX3_setLevel 8 none, Cond.methodLink RL 50 yX7_levels, Cond.instanceMethod yX7_levels, Cond.selects RX7 yX7_levels yX7_levels, Cond.code yX7_levels cX7_levels 3 (some .boolean), Cond.fieldLink RX7 162 "CheapHoursModel" "levels" "I", Cond.methodLink RL 51 yX6_level, Cond.instanceMethod yX6_level, Cond.selects RX6 yX6_level yX6_level, Cond.code yX6_level cX6_level 4 (some .boolean), Cond.methodLink RX6 113 yX3_has, Cond.instanceMethod yX3_has, Cond.selects RX3 yX3_has yX3_has, Cond.code yX3_has cX3_has 2 (some .boolean), Cond.methodLink RX6 117 yX3_canGo, Cond.instanceMethod yX3_canGo, Cond.selects RX3 yX3_canGo yX3_canGo, Cond.code yX3_canGo cX3_canGo 5 (some .boolean), Cond.methodLink RX6 120 yX3_setLevel, Cond.methodLink RL 55 yX7_level, Cond.instanceMethod yX7_level]
def wsL_law_r17 : List Cond := [Cond.selects RX7 yX7_level yX7_level, Cond.code yX7_level cX7_level 7 (some .boolean), Cond.methodLink RL 56 yX6_table, Cond.instanceMethod yX6_table, Cond.selects RX6 yX6_table yX6_table, Cond.code yX6_table cX6_table 4 (some .long), Cond.methodLink RX6 124 yX3_hasState, Cond.instanceMethod yX3_hasState, Cond.selects RX3 yX3_hasState yX3_hasState, Cond.code yX3_hasState cX3_hasState 4 (some .boolean), Cond.methodLink RX3 51 yX3_has, Cond.methodLink RX6 127 yX3_meanOf, Cond.instanceMethod yX3_meanOf, Cond.selects RX3 yX3_meanOf yX3_meanOf, Cond.code yX3_meanOf cX3_meanOf 4 (some .long), Cond.methodLink RX3 55 yX3_settleAll, Cond.instanceMethod yX3_settleAll, Cond.selects RX3 yX3_settleAll yX3_settleAll, Cond.code yX3_settleAll cX3_settleAll 4 none, Cond.methodLink RX3 76 yX3_settleMean, Cond.instanceMethod yX3_settleMean, Cond.selects RX3 yX3_settleMean yX3_settleMean, Cond.code yX3_settleMean cX3_settleMean 16 none, Cond.fieldLink RX3 95 "CheapHours$Prices" "atFull" "I"]
def wsL_law_r18 : List Cond := [Cond.methodLink RX3 82 yX3_stateOf, Cond.static yX3_stateOf, Cond.code yX3_stateOf cX3_stateOf 4 (some .int), Cond.methodLink RX3 86 yX2_power, Cond.methodLink RX3 92 yX3_meanBehind, Cond.instanceMethod yX3_meanBehind, Cond.selects RX3 yX3_meanBehind yX3_meanBehind, Cond.code yX3_meanBehind cX3_meanBehind 8 (some .long), Cond.methodLink RX3 107 yX3_chanceOf, Cond.instanceMethod yX3_chanceOf, Cond.selects RX3 yX3_chanceOf yX3_chanceOf, Cond.code yX3_chanceOf cX3_chanceOf 4 (some .int), Cond.methodLink RX3 58 yX3_read, Cond.static yX3_read, Cond.code yX3_read cX3_read 5 (some .long), Cond.methodLink RX3 100 yX3_askedAt, Cond.instanceMethod yX3_askedAt, Cond.selects RX3 yX3_askedAt yX3_askedAt, Cond.code yX3_askedAt cX3_askedAt 2 (some .int), Cond.methodLink RX3 79 yX3_settleGreatest, Cond.instanceMethod yX3_settleGreatest, Cond.selects RX3 yX3_settleGreatest yX3_settleGreatest, Cond.code yX3_settleGreatest cX3_settleGreatest 6 none, Cond.methodLink RX3 104 yX3_greatestBehind]
def wsL_law_r19 : List Cond := [Cond.instanceMethod yX3_greatestBehind, Cond.selects RX3 yX3_greatestBehind yX3_greatestBehind, Cond.code yX3_greatestBehind cX3_greatestBehind 6 (some .int), Cond.methodLink RX3 110 Lib.Math.max.name, Cond.static Lib.Math.max.name, Cond.code Lib.Math.max.name Lib.Math.max.code 2 (some .int), Cond.methodLink RX3 62 yX3_readInt, Cond.static yX3_readInt, Cond.code yX3_readInt cX3_readInt 5 (some .int), Cond.methodLink RL 60 yX7_table, Cond.instanceMethod yX7_table, Cond.selects RX7 yX7_table yX7_table, Cond.code yX7_table cX7_table 4 (some .long), Cond.methodLink RX7 183 yX7_isState, Cond.instanceMethod yX7_isState, Cond.selects RX7 yX7_isState yX7_isState, Cond.code yX7_isState cX7_isState 4 (some .boolean), Cond.methodLink RX7 186 yX7_makes, Cond.instanceMethod yX7_makes, Cond.selects RX7 yX7_makes yX7_makes, Cond.code yX7_makes cX7_makes 8 none, Cond.methodLink RX7 169 yX7_state, Cond.instanceMethod yX7_state, Cond.selects RX7 yX7_state yX7_state]
def wsL_law_r20 : List Cond := [Cond.code yX7_state cX7_state 13 none, Cond.methodLink RX7 165 yX7_at, Cond.static yX7_at, Cond.code yX7_at cX7_at 3 (some .int), Cond.methodLink RX7 173 yX7_next, Cond.instanceMethod yX7_next, Cond.selects RX7 yX7_next yX7_next, Cond.code yX7_next cX7_next 7 (some .long), Cond.methodLink RX7 176 yX7_best, Cond.instanceMethod yX7_best, Cond.selects RX7 yX7_best yX7_best, Cond.code yX7_best cX7_best 12 (some .int), Cond.methodLink RX7 180 yX7_worstNext, Cond.instanceMethod yX7_worstNext, Cond.selects RX7 yX7_worstNext yX7_worstNext, Cond.code yX7_worstNext cX7_worstNext 6 (some .int), Cond.methodLink RL 61 yX6_rule, Cond.instanceMethod yX6_rule, Cond.selects RX6 yX6_rule yX6_rule, Cond.code yX6_rule cX6_rule 4 (some .int), Cond.methodLink RX6 131 yX3_ruleOf, Cond.instanceMethod yX3_ruleOf, Cond.selects RX3 yX3_ruleOf yX3_ruleOf, Cond.code yX3_ruleOf cX3_ruleOf 4 (some .int)]
def wsL_law_r21 : List Cond := [Cond.methodLink RL 64 yX7_rule, Cond.instanceMethod yX7_rule, Cond.selects RX7 yX7_rule yX7_rule, Cond.code yX7_rule cX7_rule 4 (some .int), Cond.methodLink RL 65 yX6_worst, Cond.instanceMethod yX6_worst, Cond.selects RX6 yX6_worst yX6_worst, Cond.code yX6_worst cX6_worst 4 (some .int), Cond.methodLink RX6 134 yX3_greatestOf, Cond.instanceMethod yX3_greatestOf, Cond.selects RX3 yX3_greatestOf yX3_greatestOf, Cond.code yX3_greatestOf cX3_greatestOf 4 (some .int), Cond.methodLink RL 68 yX7_worst, Cond.instanceMethod yX7_worst, Cond.selects RX7 yX7_worst yX7_worst, Cond.code yX7_worst cX7_worst 4 (some .int), Cond.methodLink RL 69 yX6_capped, Cond.instanceMethod yX6_capped, Cond.selects RX6 yX6_capped yX6_capped, Cond.code yX6_capped cX6_capped 5 (some .long), Cond.methodLink RX6 137 yX3_meanCapped, Cond.instanceMethod yX3_meanCapped, Cond.selects RX3 yX3_meanCapped yX3_meanCapped, Cond.code yX3_meanCapped cX3_meanCapped 8 (some .long)]
def wsL_law_r22 : List Cond := [Cond.methodLink RX3 66 Lib.Math.min.name, Cond.methodLink RX3 72 yX3_settleCapped, Cond.instanceMethod yX3_settleCapped, Cond.selects RX3 yX3_settleCapped yX3_settleCapped, Cond.code yX3_settleCapped cX3_settleCapped 8 none, Cond.methodLink RL 73 yX7_capped, Cond.instanceMethod yX7_capped, Cond.selects RX7 yX7_capped yX7_capped, Cond.code yX7_capped cX7_capped 5 (some .long), Cond.methodLink RL 74 yX6_oracle, Cond.instanceMethod yX6_oracle, Cond.selects RX6 yX6_oracle yX6_oracle, Cond.code yX6_oracle cX6_oracle 3 (some .int), Cond.fieldLink RX6 141 "CheapHours$Job" "terms" "LCheapHours$Terms;", Cond.methodLink RX6 145 yX0_leastSum, Cond.instanceMethod yX0_leastSum, Cond.selects RX0 yX0_leastSum yX0_leastSum, Cond.code yX0_leastSum cX0_leastSum 3 (some .int), Cond.fieldLink RX0 23 "CheapHours$Terms" "due" "I", Cond.fieldLink RX0 27 "CheapHours$Terms" "came" "I", Cond.methodLink RX0 30 yX0_settleHour, Cond.instanceMethod yX0_settleHour, Cond.selects RX0 yX0_settleHour yX0_settleHour, Cond.code yX0_settleHour cX0_settleHour 5 none]
def wsL_law_r23 : List Cond := [Cond.fieldLink RX0 38 "CheapHours$Terms" "work" "I", Cond.methodLink RX0 41 yX0_onMachine, Cond.instanceMethod yX0_onMachine, Cond.selects RX0 yX0_onMachine yX0_onMachine, Cond.code yX0_onMachine cX0_onMachine 8 (some .int), Cond.fieldLink RX0 56 "CheapHours$Terms" "save" "I", Cond.methodLink RX0 66 Lib.Math.min.name, Cond.methodLink RX0 52 yX0_stay, Cond.instanceMethod yX0_stay, Cond.selects RX0 yX0_stay yX0_stay, Cond.code yX0_stay cX0_stay 7 (some .int), Cond.constant RX0 74 (1000000000), Cond.methodLink RX0 82 yX4_at, Cond.methodLink RX0 62 yX0_sum, Cond.static yX0_sum, Cond.code yX0_sum cX0_sum 2 (some .int), Cond.methodLink RX0 59 yX0_fromSaved, Cond.instanceMethod yX0_fromSaved, Cond.selects RX0 yX0_fromSaved yX0_fromSaved, Cond.code yX0_fromSaved cX0_fromSaved 5 (some .int), Cond.methodLink RX0 34 yX0_from, Cond.instanceMethod yX0_from, Cond.selects RX0 yX0_from yX0_from, Cond.code yX0_from cX0_from 6 (some .int)]
def wsL_law_r24 : List Cond := [Cond.methodLink RX0 75 yX0_slotOf, Cond.static yX0_slotOf, Cond.code yX0_slotOf cX0_slotOf 4 (some .int), Cond.methodLink RX0 44 yX0_put, Cond.instanceMethod yX0_put, Cond.selects RX0 yX0_put yX0_put, Cond.code yX0_put cX0_put 6 none, Cond.methodLink RX0 48 yX0_onNone, Cond.instanceMethod yX0_onNone, Cond.selects RX0 yX0_onNone yX0_onNone, Cond.code yX0_onNone cX0_onNone 9 (some .int), Cond.fieldLink RX0 71 "CheapHours$Terms" "bring" "I", Cond.methodLink RL 77 yX7_oracle, Cond.instanceMethod yX7_oracle, Cond.selects RX7 yX7_oracle yX7_oracle, Cond.code yX7_oracle cX7_oracle 4 (some .int), Cond.constant RX7 193 (1000000000), Cond.methodLink RX7 194 yX7_cheapest, Cond.instanceMethod yX7_cheapest, Cond.selects RX7 yX7_cheapest yX7_cheapest, Cond.code yX7_cheapest cX7_cheapest 13 (some .int), Cond.methodLink RX7 189 yX7_priceAt, Cond.instanceMethod yX7_priceAt, Cond.selects RX7 yX7_priceAt yX7_priceAt]
def wsL_law_r25 : List Cond := [Cond.code yX7_priceAt cX7_priceAt 3 (some .int), Cond.methodLink RL 78 yX6_count, Cond.instanceMethod yX6_count, Cond.selects RX6 yX6_count yX6_count, Cond.code yX6_count cX6_count 2 (some .int), Cond.fieldLink RX6 156 "CheapHours$Plan" "size" "I", Cond.methodLink RX6 149 yX6_readyJobs, Cond.instanceMethod yX6_readyJobs, Cond.selects RX6 yX6_readyJobs yX6_readyJobs, Cond.code yX6_readyJobs cX6_readyJobs 4 (some .int), Cond.methodLink RX6 162 yX1_isReady, Cond.methodLink RX6 153 yX6_allPaid, Cond.instanceMethod yX6_allPaid, Cond.selects RX6 yX6_allPaid yX6_allPaid, Cond.code yX6_allPaid cX6_allPaid 4 (some .int), Cond.fieldLink RX6 165 "CheapHours$Job" "paid" "I", Cond.methodLink RL 81 yX7_count, Cond.instanceMethod yX7_count, Cond.selects RX7 yX7_count yX7_count, Cond.code yX7_count cX7_count 4 (some .int)]
def wsL_law : List Cond := (wsL_law_r1 ++ (wsL_law_r2 ++ (wsL_law_r3 ++ (wsL_law_r4 ++ (wsL_law_r5 ++ (wsL_law_r6 ++ (wsL_law_r7 ++ (wsL_law_r8 ++ (wsL_law_r9 ++ (wsL_law_r10 ++ (wsL_law_r11 ++ (wsL_law_r12 ++ (wsL_law_r13 ++ (wsL_law_r14 ++ (wsL_law_r15 ++ (wsL_law_r16 ++ (wsL_law_r17 ++ (wsL_law_r18 ++ (wsL_law_r19 ++ (wsL_law_r20 ++ (wsL_law_r21 ++ (wsL_law_r22 ++ (wsL_law_r23 ++ (wsL_law_r24 ++ wsL_law_r25)))))))))))))))))))))))) ++ wsX60 ++ wsX70 ++ wsX40 ++ wsX30 ++ wsX00 ++ wsX50 ++ wsX10 ++ ([] : List Cond)
theorem inlX0 : ∀ w ∈ wsX00, w ∈ wsL_law := fun _ h => List.mem_append_left _ (List.mem_append_left _ (List.mem_append_left _ (List.mem_append_right _ h)))
theorem inlX1 : ∀ w ∈ wsX10, w ∈ wsL_law := fun _ h => List.mem_append_left _ (List.mem_append_right _ h)
theorem inX2 : ∀ w ∈ wsX20, w ∈ lw_tbl := by decide +kernel
theorem inlX3 : ∀ w ∈ wsX30, w ∈ wsL_law := fun _ h => List.mem_append_left _ (List.mem_append_left _ (List.mem_append_left _ (List.mem_append_left _ (List.mem_append_right _ h))))
theorem inlX4 : ∀ w ∈ wsX40, w ∈ wsL_law := fun _ h => List.mem_append_left _ (List.mem_append_left _ (List.mem_append_left _ (List.mem_append_left _ (List.mem_append_left _ (List.mem_append_right _ h)))))
theorem inlX5 : ∀ w ∈ wsX50, w ∈ wsL_law := fun _ h => List.mem_append_left _ (List.mem_append_left _ (List.mem_append_right _ h))
theorem inlX6 : ∀ w ∈ wsX60, w ∈ wsL_law := fun _ h => List.mem_append_left _ (List.mem_append_left _ (List.mem_append_left _ (List.mem_append_left _ (List.mem_append_left _ (List.mem_append_left _ (List.mem_append_left _ (List.mem_append_right _ h)))))))
theorem inlX7 : ∀ w ∈ wsX70, w ∈ wsL_law := fun _ h => List.mem_append_left _ (List.mem_append_left _ (List.mem_append_left _ (List.mem_append_left _ (List.mem_append_left _ (List.mem_append_left _ (List.mem_append_right _ h))))))
theorem inJ9 : ∀ w ∈ wsJ90, w ∈ lw_tbl := by decide +kernel
theorem inJ7 : ∀ w ∈ wsJ70, w ∈ lw_tbl := by decide +kernel
end
section
theorem dX0_init_0 : decode cX0_init 0 = .ok (.aload_n 0, 1) := by decide +kernel
theorem dX0_init_1 : decode cX0_init 1 = .ok (.invokespecial 7, 3) := by decide +kernel
theorem dX0_init_4 : decode cX0_init 4 = .ok (.aload_n 0, 1) := by decide +kernel
theorem dX0_init_5 : decode cX0_init 5 = .ok (.aload_n 1, 1) := by decide +kernel
theorem dX0_init_6 : decode cX0_init 6 = .ok (.putfield 13, 3) := by decide +kernel
theorem dX0_init_9 : decode cX0_init 9 = .ok (.aload_n 0, 1) := by decide +kernel
theorem dX0_init_10 : decode cX0_init 10 = .ok (.sipush 900, 3) := by decide +kernel
theorem dX0_init_13 : decode cX0_init 13 = .ok (.newarray .int, 2) := by decide +kernel
theorem dX0_init_15 : decode cX0_init 15 = .ok (.putfield 19, 3) := by decide +kernel
theorem dX0_init_18 : decode cX0_init 18 = .ok (.return_, 1) := by decide +kernel
set_option maxRecDepth 20000 in
theorem ggX0_leastSum_X0_settleHour : GoodIn wsX0_leastSum wsX0_settleHour := goodIn_r _ [7, 8, 9, 10, 11, 6, 12, 13, 14, 15, 16, 17, 18, 19, 20, 21, 22, 23, 24, 25, 26, 27, 28, 29, 30, 31, 32, 33, 34, 35, 36, 37, 38, 39, 40, 41, 42, 43, 44, 45, 46, 47, 1, 48, 49, 50, 51, 52, 53, 54, 55, 56, 57, 58, 59, 60, 61, 62, 63, 64, 65, 66, 67, 68, 69, 70, 71, 72] (by decide +kernel) (by decide +kernel)
set_option maxRecDepth 20000 in
theorem gX0_leastSum_X0_settleHour : GoodIn wsX0_leastSum (wsV RX0 30 RX0 yX0_settleHour wsX0_settleHour) := goodIn_app (goodIn_of _ (by decide +kernel)) ggX0_leastSum_X0_settleHour
set_option maxRecDepth 20000 in
theorem ggX0_leastSum_X0_from : GoodIn wsX0_leastSum wsX0_from := goodIn_r _ [47, 1, 23, 8, 48, 49, 50, 6, 51, 34, 35, 36, 61, 62, 63, 64, 65, 66, 67, 68, 69, 70] (by decide +kernel) (by decide +kernel)
set_option maxRecDepth 20000 in
theorem gX0_leastSum_X0_from : GoodIn wsX0_leastSum (wsV RX0 34 RX0 yX0_from wsX0_from) := goodIn_app (goodIn_of _ (by decide +kernel)) ggX0_leastSum_X0_from
theorem dX0_leastSum_0 : decode cX0_leastSum 0 = .ok (.aload_n 1, 1) := by decide +kernel
theorem dX0_leastSum_1 : decode cX0_leastSum 1 = .ok (.getfield 23, 3) := by decide +kernel
theorem dX0_leastSum_4 : decode cX0_leastSum 4 = .ok (.iconst 1, 1) := by decide +kernel
theorem dX0_leastSum_5 : decode cX0_leastSum 5 = .ok (.isub, 1) := by decide +kernel
theorem dX0_leastSum_6 : decode cX0_leastSum 6 = .ok (.istore_n 2, 1) := by decide +kernel
theorem dX0_leastSum_7 : decode cX0_leastSum 7 = .ok (.iload_n 2, 1) := by decide +kernel
theorem dX0_leastSum_8 : decode cX0_leastSum 8 = .ok (.aload_n 1, 1) := by decide +kernel
theorem dX0_leastSum_9 : decode cX0_leastSum 9 = .ok (.getfield 27, 3) := by decide +kernel
theorem dX0_leastSum_12 : decode cX0_leastSum 12 = .ok (.if_icmp .lt 15, 3) := by decide +kernel
theorem dX0_leastSum_15 : decode cX0_leastSum 15 = .ok (.aload_n 0, 1) := by decide +kernel
theorem dX0_leastSum_16 : decode cX0_leastSum 16 = .ok (.aload_n 1, 1) := by decide +kernel
theorem dX0_leastSum_17 : decode cX0_leastSum 17 = .ok (.iload_n 2, 1) := by decide +kernel
theorem dX0_leastSum_18 : decode cX0_leastSum 18 = .ok (.invokevirtual 30, 3) := by decide +kernel
theorem dX0_leastSum_21 : decode cX0_leastSum 21 = .ok (.iinc 2 (-1), 3) := by decide +kernel
theorem dX0_leastSum_24 : decode cX0_leastSum 24 = .ok (.goto (-17), 3) := by decide +kernel
theorem dX0_leastSum_27 : decode cX0_leastSum 27 = .ok (.aload_n 0, 1) := by decide +kernel
theorem dX0_leastSum_28 : decode cX0_leastSum 28 = .ok (.aload_n 1, 1) := by decide +kernel
theorem dX0_leastSum_29 : decode cX0_leastSum 29 = .ok (.aload_n 1, 1) := by decide +kernel
theorem dX0_leastSum_30 : decode cX0_leastSum 30 = .ok (.getfield 27, 3) := by decide +kernel
theorem dX0_leastSum_33 : decode cX0_leastSum 33 = .ok (.iconst 4, 1) := by decide +kernel
theorem dX0_leastSum_34 : decode cX0_leastSum 34 = .ok (.iconst 0, 1) := by decide +kernel
theorem dX0_leastSum_35 : decode cX0_leastSum 35 = .ok (.invokevirtual 34, 3) := by decide +kernel
theorem dX0_leastSum_38 : decode cX0_leastSum 38 = .ok (.ireturn, 1) := by decide +kernel
set_option maxRecDepth 20000 in
theorem ggX0_settleHour_X0_onMachine : GoodIn wsX0_settleHour wsX0_onMachine := goodIn_r _ [6, 7, 8, 9, 10, 11, 12, 13, 14, 5, 15, 16, 17, 18, 19, 20, 21, 22, 23, 24, 25, 26, 27, 28, 29, 30, 31, 32, 33, 34, 35, 36, 37, 38, 39, 40, 41, 42, 1, 43, 44, 45, 46, 56, 57, 58, 59, 60, 61, 62, 63, 64, 65, 66, 67] (by decide +kernel) (by decide +kernel)
set_option maxRecDepth 20000 in
theorem gX0_settleHour_X0_onMachine : GoodIn wsX0_settleHour (wsV RX0 41 RX0 yX0_onMachine wsX0_onMachine) := goodIn_app (goodIn_of _ (by decide +kernel)) ggX0_settleHour_X0_onMachine
set_option maxRecDepth 20000 in
theorem ggX0_settleHour_X0_put : GoodIn wsX0_settleHour wsX0_put := goodIn_r _ [50, 43, 44, 45, 5, 46, 28, 29, 30, 64, 65] (by decide +kernel) (by decide +kernel)
set_option maxRecDepth 20000 in
theorem gX0_settleHour_X0_put : GoodIn wsX0_settleHour (wsV RX0 44 RX0 yX0_put wsX0_put) := goodIn_app (goodIn_of _ (by decide +kernel)) ggX0_settleHour_X0_put
set_option maxRecDepth 20000 in
theorem ggX0_settleHour_X0_onNone : GoodIn wsX0_settleHour wsX0_onNone := goodIn_r _ [54, 55, 17, 8, 9, 10, 11, 38, 39, 40, 5, 41, 42, 1, 43, 44, 45, 46, 28, 29, 30, 12, 13, 14, 15, 16, 18, 19, 20, 21, 22, 23, 24, 25, 26, 27, 31, 32, 33, 56, 57, 58, 59, 60, 61, 62, 63, 64, 65, 66, 67] (by decide +kernel) (by decide +kernel)
set_option maxRecDepth 20000 in
theorem gX0_settleHour_X0_onNone : GoodIn wsX0_settleHour (wsV RX0 48 RX0 yX0_onNone wsX0_onNone) := goodIn_app (goodIn_of _ (by decide +kernel)) ggX0_settleHour_X0_onNone
theorem dX0_settleHour_0 : decode cX0_settleHour 0 = .ok (.iconst 0, 1) := by decide +kernel
theorem dX0_settleHour_1 : decode cX0_settleHour 1 = .ok (.istore_n 3, 1) := by decide +kernel
theorem dX0_settleHour_2 : decode cX0_settleHour 2 = .ok (.iload_n 3, 1) := by decide +kernel
theorem dX0_settleHour_3 : decode cX0_settleHour 3 = .ok (.iconst 4, 1) := by decide +kernel
theorem dX0_settleHour_4 : decode cX0_settleHour 4 = .ok (.if_icmp .ge 44, 3) := by decide +kernel
theorem dX0_settleHour_7 : decode cX0_settleHour 7 = .ok (.iconst 0, 1) := by decide +kernel
theorem dX0_settleHour_8 : decode cX0_settleHour 8 = .ok (.istore 4, 2) := by decide +kernel
theorem dX0_settleHour_10 : decode cX0_settleHour 10 = .ok (.iload 4, 2) := by decide +kernel
theorem dX0_settleHour_12 : decode cX0_settleHour 12 = .ok (.aload_n 1, 1) := by decide +kernel
theorem dX0_settleHour_13 : decode cX0_settleHour 13 = .ok (.getfield 38, 3) := by decide +kernel
theorem dX0_settleHour_16 : decode cX0_settleHour 16 = .ok (.if_icmp .ge 26, 3) := by decide +kernel
theorem dX0_settleHour_19 : decode cX0_settleHour 19 = .ok (.aload_n 0, 1) := by decide +kernel
theorem dX0_settleHour_20 : decode cX0_settleHour 20 = .ok (.iload_n 2, 1) := by decide +kernel
theorem dX0_settleHour_21 : decode cX0_settleHour 21 = .ok (.iload_n 3, 1) := by decide +kernel
theorem dX0_settleHour_22 : decode cX0_settleHour 22 = .ok (.iload 4, 2) := by decide +kernel
theorem dX0_settleHour_24 : decode cX0_settleHour 24 = .ok (.aload_n 0, 1) := by decide +kernel
theorem dX0_settleHour_25 : decode cX0_settleHour 25 = .ok (.aload_n 1, 1) := by decide +kernel
theorem dX0_settleHour_26 : decode cX0_settleHour 26 = .ok (.iload_n 2, 1) := by decide +kernel
theorem dX0_settleHour_27 : decode cX0_settleHour 27 = .ok (.iload_n 3, 1) := by decide +kernel
theorem dX0_settleHour_28 : decode cX0_settleHour 28 = .ok (.iload 4, 2) := by decide +kernel
theorem dX0_settleHour_30 : decode cX0_settleHour 30 = .ok (.invokevirtual 41, 3) := by decide +kernel
theorem dX0_settleHour_33 : decode cX0_settleHour 33 = .ok (.invokevirtual 44, 3) := by decide +kernel
theorem dX0_settleHour_36 : decode cX0_settleHour 36 = .ok (.iinc 4 1, 3) := by decide +kernel
theorem dX0_settleHour_39 : decode cX0_settleHour 39 = .ok (.goto (-29), 3) := by decide +kernel
theorem dX0_settleHour_42 : decode cX0_settleHour 42 = .ok (.iinc 3 1, 3) := by decide +kernel
theorem dX0_settleHour_45 : decode cX0_settleHour 45 = .ok (.goto (-43), 3) := by decide +kernel
theorem dX0_settleHour_48 : decode cX0_settleHour 48 = .ok (.iconst 0, 1) := by decide +kernel
theorem dX0_settleHour_49 : decode cX0_settleHour 49 = .ok (.istore_n 3, 1) := by decide +kernel
theorem dX0_settleHour_50 : decode cX0_settleHour 50 = .ok (.iload_n 3, 1) := by decide +kernel
theorem dX0_settleHour_51 : decode cX0_settleHour 51 = .ok (.aload_n 1, 1) := by decide +kernel
theorem dX0_settleHour_52 : decode cX0_settleHour 52 = .ok (.getfield 38, 3) := by decide +kernel
theorem dX0_settleHour_55 : decode cX0_settleHour 55 = .ok (.if_icmp .ge 23, 3) := by decide +kernel
theorem dX0_settleHour_58 : decode cX0_settleHour 58 = .ok (.aload_n 0, 1) := by decide +kernel
theorem dX0_settleHour_59 : decode cX0_settleHour 59 = .ok (.iload_n 2, 1) := by decide +kernel
theorem dX0_settleHour_60 : decode cX0_settleHour 60 = .ok (.iconst 4, 1) := by decide +kernel
theorem dX0_settleHour_61 : decode cX0_settleHour 61 = .ok (.iload_n 3, 1) := by decide +kernel
theorem dX0_settleHour_62 : decode cX0_settleHour 62 = .ok (.aload_n 0, 1) := by decide +kernel
theorem dX0_settleHour_63 : decode cX0_settleHour 63 = .ok (.aload_n 1, 1) := by decide +kernel
theorem dX0_settleHour_64 : decode cX0_settleHour 64 = .ok (.iload_n 2, 1) := by decide +kernel
theorem dX0_settleHour_65 : decode cX0_settleHour 65 = .ok (.iload_n 3, 1) := by decide +kernel
theorem dX0_settleHour_66 : decode cX0_settleHour 66 = .ok (.invokevirtual 48, 3) := by decide +kernel
theorem dX0_settleHour_69 : decode cX0_settleHour 69 = .ok (.invokevirtual 44, 3) := by decide +kernel
theorem dX0_settleHour_72 : decode cX0_settleHour 72 = .ok (.iinc 3 1, 3) := by decide +kernel
theorem dX0_settleHour_75 : decode cX0_settleHour 75 = .ok (.goto (-25), 3) := by decide +kernel
theorem dX0_settleHour_78 : decode cX0_settleHour 78 = .ok (.return_, 1) := by decide +kernel
set_option maxRecDepth 20000 in
theorem ggX0_onMachine_X0_stay : GoodIn wsX0_onMachine wsX0_stay := goodIn_r _ [10, 11, 12, 13, 14, 15, 16, 17, 18, 19, 20, 21, 22, 23, 24, 25, 26, 27, 9, 28, 2, 3, 4, 5, 51, 52, 53, 54] (by decide +kernel) (by decide +kernel)
set_option maxRecDepth 20000 in
theorem gX0_onMachine_X0_stay : GoodIn wsX0_onMachine (wsV RX0 52 RX0 yX0_stay wsX0_stay) := goodIn_app (goodIn_of _ (by decide +kernel)) ggX0_onMachine_X0_stay
set_option maxRecDepth 20000 in
theorem ggX0_onMachine_X0_fromSaved : GoodIn wsX0_onMachine wsX0_fromSaved := goodIn_r _ [32, 2, 3, 4, 5, 33, 34, 35, 9, 36, 37, 12, 38, 39, 40, 41, 42, 23, 24, 25, 43, 44, 45, 46, 47, 48, 49, 50, 51, 52] (by decide +kernel) (by decide +kernel)
set_option maxRecDepth 20000 in
theorem gX0_onMachine_X0_fromSaved : GoodIn wsX0_onMachine (wsV RX0 59 RX0 yX0_fromSaved wsX0_fromSaved) := goodIn_app (goodIn_of _ (by decide +kernel)) ggX0_onMachine_X0_fromSaved
set_option maxRecDepth 20000 in
theorem ggX0_onMachine_X0_sum : GoodIn wsX0_onMachine wsX0_sum := goodIn_r _ [28, 12, 2, 3, 4, 5] (by decide +kernel) (by decide +kernel)
set_option maxRecDepth 20000 in
theorem gX0_onMachine_X0_sum : GoodIn wsX0_onMachine (va_wsS RX0 62 yX0_sum wsX0_sum) := goodIn_app (goodIn_of _ (by decide +kernel)) ggX0_onMachine_X0_sum
set_option maxRecDepth 20000 in
theorem ggX0_onMachine_X0_from : GoodIn wsX0_onMachine wsX0_from := goodIn_r _ [36, 37, 12, 38, 39, 40, 41, 9, 42, 23, 24, 25, 43, 44, 45, 46, 47, 48, 49, 50, 51, 52] (by decide +kernel) (by decide +kernel)
set_option maxRecDepth 20000 in
theorem gX0_onMachine_X0_from : GoodIn wsX0_onMachine (wsV RX0 34 RX0 yX0_from wsX0_from) := goodIn_app (goodIn_of _ (by decide +kernel)) ggX0_onMachine_X0_from
theorem dX0_onMachine_0 : decode cX0_onMachine 0 = .ok (.aload_n 0, 1) := by decide +kernel
theorem dX0_onMachine_1 : decode cX0_onMachine 1 = .ok (.iload_n 3, 1) := by decide +kernel
theorem dX0_onMachine_2 : decode cX0_onMachine 2 = .ok (.iload_n 2, 1) := by decide +kernel
theorem dX0_onMachine_3 : decode cX0_onMachine 3 = .ok (.iconst 1, 1) := by decide +kernel
theorem dX0_onMachine_4 : decode cX0_onMachine 4 = .ok (.invokevirtual 52, 3) := by decide +kernel
theorem dX0_onMachine_7 : decode cX0_onMachine 7 = .ok (.istore 5, 2) := by decide +kernel
theorem dX0_onMachine_9 : decode cX0_onMachine 9 = .ok (.aload_n 1, 1) := by decide +kernel
theorem dX0_onMachine_10 : decode cX0_onMachine 10 = .ok (.getfield 56, 3) := by decide +kernel
theorem dX0_onMachine_13 : decode cX0_onMachine 13 = .ok (.ifCond .ne 22, 3) := by decide +kernel
theorem dX0_onMachine_16 : decode cX0_onMachine 16 = .ok (.iload 5, 2) := by decide +kernel
theorem dX0_onMachine_18 : decode cX0_onMachine 18 = .ok (.aload_n 0, 1) := by decide +kernel
theorem dX0_onMachine_19 : decode cX0_onMachine 19 = .ok (.aload_n 1, 1) := by decide +kernel
theorem dX0_onMachine_20 : decode cX0_onMachine 20 = .ok (.iload_n 2, 1) := by decide +kernel
theorem dX0_onMachine_21 : decode cX0_onMachine 21 = .ok (.iconst 1, 1) := by decide +kernel
theorem dX0_onMachine_22 : decode cX0_onMachine 22 = .ok (.iadd, 1) := by decide +kernel
theorem dX0_onMachine_23 : decode cX0_onMachine 23 = .ok (.iload_n 3, 1) := by decide +kernel
theorem dX0_onMachine_24 : decode cX0_onMachine 24 = .ok (.iload 4, 2) := by decide +kernel
theorem dX0_onMachine_26 : decode cX0_onMachine 26 = .ok (.iconst 1, 1) := by decide +kernel
theorem dX0_onMachine_27 : decode cX0_onMachine 27 = .ok (.iadd, 1) := by decide +kernel
theorem dX0_onMachine_28 : decode cX0_onMachine 28 = .ok (.invokevirtual 59, 3) := by decide +kernel
theorem dX0_onMachine_31 : decode cX0_onMachine 31 = .ok (.invokestatic 62, 3) := by decide +kernel
theorem dX0_onMachine_34 : decode cX0_onMachine 34 = .ok (.ireturn, 1) := by decide +kernel
theorem dX0_onMachine_35 : decode cX0_onMachine 35 = .ok (.iload 5, 2) := by decide +kernel
theorem dX0_onMachine_37 : decode cX0_onMachine 37 = .ok (.aload_n 0, 1) := by decide +kernel
theorem dX0_onMachine_38 : decode cX0_onMachine 38 = .ok (.aload_n 1, 1) := by decide +kernel
theorem dX0_onMachine_39 : decode cX0_onMachine 39 = .ok (.iload_n 2, 1) := by decide +kernel
theorem dX0_onMachine_40 : decode cX0_onMachine 40 = .ok (.iconst 1, 1) := by decide +kernel
theorem dX0_onMachine_41 : decode cX0_onMachine 41 = .ok (.iadd, 1) := by decide +kernel
theorem dX0_onMachine_42 : decode cX0_onMachine 42 = .ok (.iload_n 3, 1) := by decide +kernel
theorem dX0_onMachine_43 : decode cX0_onMachine 43 = .ok (.iload 4, 2) := by decide +kernel
theorem dX0_onMachine_45 : decode cX0_onMachine 45 = .ok (.iconst 1, 1) := by decide +kernel
theorem dX0_onMachine_46 : decode cX0_onMachine 46 = .ok (.iadd, 1) := by decide +kernel
theorem dX0_onMachine_47 : decode cX0_onMachine 47 = .ok (.invokevirtual 34, 3) := by decide +kernel
theorem dX0_onMachine_50 : decode cX0_onMachine 50 = .ok (.invokestatic 62, 3) := by decide +kernel
theorem dX0_onMachine_53 : decode cX0_onMachine 53 = .ok (.istore 6, 2) := by decide +kernel
theorem dX0_onMachine_55 : decode cX0_onMachine 55 = .ok (.aload_n 0, 1) := by decide +kernel
theorem dX0_onMachine_56 : decode cX0_onMachine 56 = .ok (.iload_n 3, 1) := by decide +kernel
theorem dX0_onMachine_57 : decode cX0_onMachine 57 = .ok (.iload_n 2, 1) := by decide +kernel
theorem dX0_onMachine_58 : decode cX0_onMachine 58 = .ok (.aload_n 1, 1) := by decide +kernel
theorem dX0_onMachine_59 : decode cX0_onMachine 59 = .ok (.getfield 56, 3) := by decide +kernel
theorem dX0_onMachine_62 : decode cX0_onMachine 62 = .ok (.invokevirtual 52, 3) := by decide +kernel
theorem dX0_onMachine_65 : decode cX0_onMachine 65 = .ok (.istore 7, 2) := by decide +kernel
theorem dX0_onMachine_67 : decode cX0_onMachine 67 = .ok (.iload 6, 2) := by decide +kernel
theorem dX0_onMachine_69 : decode cX0_onMachine 69 = .ok (.iload 7, 2) := by decide +kernel
theorem dX0_onMachine_71 : decode cX0_onMachine 71 = .ok (.aload_n 0, 1) := by decide +kernel
theorem dX0_onMachine_72 : decode cX0_onMachine 72 = .ok (.aload_n 1, 1) := by decide +kernel
theorem dX0_onMachine_73 : decode cX0_onMachine 73 = .ok (.iload_n 2, 1) := by decide +kernel
theorem dX0_onMachine_74 : decode cX0_onMachine 74 = .ok (.aload_n 1, 1) := by decide +kernel
theorem dX0_onMachine_75 : decode cX0_onMachine 75 = .ok (.getfield 56, 3) := by decide +kernel
theorem dX0_onMachine_78 : decode cX0_onMachine 78 = .ok (.iadd, 1) := by decide +kernel
theorem dX0_onMachine_79 : decode cX0_onMachine 79 = .ok (.iload_n 3, 1) := by decide +kernel
theorem dX0_onMachine_80 : decode cX0_onMachine 80 = .ok (.iload 4, 2) := by decide +kernel
theorem dX0_onMachine_82 : decode cX0_onMachine 82 = .ok (.invokevirtual 59, 3) := by decide +kernel
theorem dX0_onMachine_85 : decode cX0_onMachine 85 = .ok (.invokestatic 62, 3) := by decide +kernel
theorem dX0_onMachine_88 : decode cX0_onMachine 88 = .ok (.invokestatic 66, 3) := by decide +kernel
theorem dX0_onMachine_91 : decode cX0_onMachine 91 = .ok (.ireturn, 1) := by decide +kernel
set_option maxRecDepth 20000 in
theorem ggX0_onNone_X0_from : GoodIn wsX0_onNone wsX0_from := goodIn_r _ [11, 12, 2, 13, 14, 15, 16, 10, 17, 18, 19, 20, 39, 40, 41, 42, 43, 44, 45, 46, 47, 48] (by decide +kernel) (by decide +kernel)
set_option maxRecDepth 20000 in
theorem gX0_onNone_X0_from : GoodIn wsX0_onNone (wsV RX0 34 RX0 yX0_from wsX0_from) := goodIn_app (goodIn_of _ (by decide +kernel)) ggX0_onNone_X0_from
set_option maxRecDepth 20000 in
theorem ggX0_onNone_X0_stay : GoodIn wsX0_onNone wsX0_stay := goodIn_r _ [24, 25, 2, 26, 27, 28, 29, 30, 31, 32, 33, 34, 35, 18, 19, 20, 36, 37, 10, 38, 3, 4, 5, 6, 47, 48, 49, 50] (by decide +kernel) (by decide +kernel)
set_option maxRecDepth 20000 in
theorem gX0_onNone_X0_stay : GoodIn wsX0_onNone (wsV RX0 52 RX0 yX0_stay wsX0_stay) := goodIn_app (goodIn_of _ (by decide +kernel)) ggX0_onNone_X0_stay
set_option maxRecDepth 20000 in
theorem ggX0_onNone_X0_sum : GoodIn wsX0_onNone wsX0_sum := goodIn_r _ [38, 2, 3, 4, 5, 6] (by decide +kernel) (by decide +kernel)
set_option maxRecDepth 20000 in
theorem gX0_onNone_X0_sum : GoodIn wsX0_onNone (va_wsS RX0 62 yX0_sum wsX0_sum) := goodIn_app (goodIn_of _ (by decide +kernel)) ggX0_onNone_X0_sum
theorem dX0_onNone_0 : decode cX0_onNone 0 = .ok (.aload_n 0, 1) := by decide +kernel
theorem dX0_onNone_1 : decode cX0_onNone 1 = .ok (.aload_n 1, 1) := by decide +kernel
theorem dX0_onNone_2 : decode cX0_onNone 2 = .ok (.iload_n 2, 1) := by decide +kernel
theorem dX0_onNone_3 : decode cX0_onNone 3 = .ok (.iconst 1, 1) := by decide +kernel
theorem dX0_onNone_4 : decode cX0_onNone 4 = .ok (.iadd, 1) := by decide +kernel
theorem dX0_onNone_5 : decode cX0_onNone 5 = .ok (.iconst 4, 1) := by decide +kernel
theorem dX0_onNone_6 : decode cX0_onNone 6 = .ok (.iload_n 3, 1) := by decide +kernel
theorem dX0_onNone_7 : decode cX0_onNone 7 = .ok (.invokevirtual 34, 3) := by decide +kernel
theorem dX0_onNone_10 : decode cX0_onNone 10 = .ok (.istore 4, 2) := by decide +kernel
theorem dX0_onNone_12 : decode cX0_onNone 12 = .ok (.iconst 0, 1) := by decide +kernel
theorem dX0_onNone_13 : decode cX0_onNone 13 = .ok (.istore 5, 2) := by decide +kernel
theorem dX0_onNone_15 : decode cX0_onNone 15 = .ok (.iload 5, 2) := by decide +kernel
theorem dX0_onNone_17 : decode cX0_onNone 17 = .ok (.iconst 4, 1) := by decide +kernel
theorem dX0_onNone_18 : decode cX0_onNone 18 = .ok (.if_icmp .ge 77, 3) := by decide +kernel
theorem dX0_onNone_21 : decode cX0_onNone 21 = .ok (.aload_n 0, 1) := by decide +kernel
theorem dX0_onNone_22 : decode cX0_onNone 22 = .ok (.aload_n 1, 1) := by decide +kernel
theorem dX0_onNone_23 : decode cX0_onNone 23 = .ok (.iload_n 2, 1) := by decide +kernel
theorem dX0_onNone_24 : decode cX0_onNone 24 = .ok (.iload 5, 2) := by decide +kernel
theorem dX0_onNone_26 : decode cX0_onNone 26 = .ok (.iconst 0, 1) := by decide +kernel
theorem dX0_onNone_27 : decode cX0_onNone 27 = .ok (.invokevirtual 34, 3) := by decide +kernel
theorem dX0_onNone_30 : decode cX0_onNone 30 = .ok (.istore 6, 2) := by decide +kernel
theorem dX0_onNone_32 : decode cX0_onNone 32 = .ok (.aload_n 0, 1) := by decide +kernel
theorem dX0_onNone_33 : decode cX0_onNone 33 = .ok (.iload 5, 2) := by decide +kernel
theorem dX0_onNone_35 : decode cX0_onNone 35 = .ok (.iload_n 2, 1) := by decide +kernel
theorem dX0_onNone_36 : decode cX0_onNone 36 = .ok (.aload_n 1, 1) := by decide +kernel
theorem dX0_onNone_37 : decode cX0_onNone 37 = .ok (.getfield 71, 3) := by decide +kernel
theorem dX0_onNone_40 : decode cX0_onNone 40 = .ok (.invokevirtual 52, 3) := by decide +kernel
theorem dX0_onNone_43 : decode cX0_onNone 43 = .ok (.istore 7, 2) := by decide +kernel
theorem dX0_onNone_45 : decode cX0_onNone 45 = .ok (.iload_n 3, 1) := by decide +kernel
theorem dX0_onNone_46 : decode cX0_onNone 46 = .ok (.ifCond .ne 8, 3) := by decide +kernel
theorem dX0_onNone_49 : decode cX0_onNone 49 = .ok (.ldc 74, 2) := by decide +kernel
theorem dX0_onNone_51 : decode cX0_onNone 51 = .ok (.goto 22, 3) := by decide +kernel
theorem dX0_onNone_54 : decode cX0_onNone 54 = .ok (.iload 7, 2) := by decide +kernel
theorem dX0_onNone_56 : decode cX0_onNone 56 = .ok (.aload_n 0, 1) := by decide +kernel
theorem dX0_onNone_57 : decode cX0_onNone 57 = .ok (.aload_n 1, 1) := by decide +kernel
theorem dX0_onNone_58 : decode cX0_onNone 58 = .ok (.iload_n 2, 1) := by decide +kernel
theorem dX0_onNone_59 : decode cX0_onNone 59 = .ok (.aload_n 1, 1) := by decide +kernel
theorem dX0_onNone_60 : decode cX0_onNone 60 = .ok (.getfield 71, 3) := by decide +kernel
theorem dX0_onNone_63 : decode cX0_onNone 63 = .ok (.iadd, 1) := by decide +kernel
theorem dX0_onNone_64 : decode cX0_onNone 64 = .ok (.iload 5, 2) := by decide +kernel
theorem dX0_onNone_66 : decode cX0_onNone 66 = .ok (.iload_n 3, 1) := by decide +kernel
theorem dX0_onNone_67 : decode cX0_onNone 67 = .ok (.invokevirtual 34, 3) := by decide +kernel
theorem dX0_onNone_70 : decode cX0_onNone 70 = .ok (.invokestatic 62, 3) := by decide +kernel
theorem dX0_onNone_73 : decode cX0_onNone 73 = .ok (.istore 8, 2) := by decide +kernel
theorem dX0_onNone_75 : decode cX0_onNone 75 = .ok (.iload 4, 2) := by decide +kernel
theorem dX0_onNone_77 : decode cX0_onNone 77 = .ok (.iload 6, 2) := by decide +kernel
theorem dX0_onNone_79 : decode cX0_onNone 79 = .ok (.iload 8, 2) := by decide +kernel
theorem dX0_onNone_81 : decode cX0_onNone 81 = .ok (.invokestatic 66, 3) := by decide +kernel
theorem dX0_onNone_84 : decode cX0_onNone 84 = .ok (.invokestatic 66, 3) := by decide +kernel
theorem dX0_onNone_87 : decode cX0_onNone 87 = .ok (.istore 4, 2) := by decide +kernel
theorem dX0_onNone_89 : decode cX0_onNone 89 = .ok (.iinc 5 1, 3) := by decide +kernel
theorem dX0_onNone_92 : decode cX0_onNone 92 = .ok (.goto (-77), 3) := by decide +kernel
theorem dX0_onNone_95 : decode cX0_onNone 95 = .ok (.iload 4, 2) := by decide +kernel
theorem dX0_onNone_97 : decode cX0_onNone 97 = .ok (.ireturn, 1) := by decide +kernel
set_option maxRecDepth 20000 in
theorem ggX0_fromSaved_X0_from : GoodIn wsX0_fromSaved wsX0_from := goodIn_r _ [9, 10, 11, 12, 13, 14, 15, 8, 16, 17, 18, 19, 20, 21, 22, 23, 24, 25, 26, 27, 28, 29] (by decide +kernel) (by decide +kernel)
set_option maxRecDepth 20000 in
theorem gX0_fromSaved_X0_from : GoodIn wsX0_fromSaved (wsV RX0 34 RX0 yX0_from wsX0_from) := goodIn_app (goodIn_of _ (by decide +kernel)) ggX0_fromSaved_X0_from
theorem dX0_fromSaved_0 : decode cX0_fromSaved 0 = .ok (.aload_n 0, 1) := by decide +kernel
theorem dX0_fromSaved_1 : decode cX0_fromSaved 1 = .ok (.aload_n 1, 1) := by decide +kernel
theorem dX0_fromSaved_2 : decode cX0_fromSaved 2 = .ok (.iload_n 2, 1) := by decide +kernel
theorem dX0_fromSaved_3 : decode cX0_fromSaved 3 = .ok (.iload_n 3, 1) := by decide +kernel
theorem dX0_fromSaved_4 : decode cX0_fromSaved 4 = .ok (.iload 4, 2) := by decide +kernel
theorem dX0_fromSaved_6 : decode cX0_fromSaved 6 = .ok (.invokevirtual 34, 3) := by decide +kernel
theorem dX0_fromSaved_9 : decode cX0_fromSaved 9 = .ok (.aload_n 0, 1) := by decide +kernel
theorem dX0_fromSaved_10 : decode cX0_fromSaved 10 = .ok (.aload_n 1, 1) := by decide +kernel
theorem dX0_fromSaved_11 : decode cX0_fromSaved 11 = .ok (.iload_n 2, 1) := by decide +kernel
theorem dX0_fromSaved_12 : decode cX0_fromSaved 12 = .ok (.iconst 4, 1) := by decide +kernel
theorem dX0_fromSaved_13 : decode cX0_fromSaved 13 = .ok (.iload 4, 2) := by decide +kernel
theorem dX0_fromSaved_15 : decode cX0_fromSaved 15 = .ok (.invokevirtual 34, 3) := by decide +kernel
theorem dX0_fromSaved_18 : decode cX0_fromSaved 18 = .ok (.invokestatic 66, 3) := by decide +kernel
theorem dX0_fromSaved_21 : decode cX0_fromSaved 21 = .ok (.ireturn, 1) := by decide +kernel
set_option maxRecDepth 20000 in
theorem ggX0_from_X0_slotOf : GoodIn wsX0_from wsX0_slotOf := goodIn_r _ [8] (by decide +kernel) (by decide +kernel)
set_option maxRecDepth 20000 in
theorem gX0_from_X0_slotOf : GoodIn wsX0_from (va_wsS RX0 75 yX0_slotOf wsX0_slotOf) := goodIn_app (goodIn_of _ (by decide +kernel)) ggX0_from_X0_slotOf
set_option maxRecDepth 20000 in
theorem ggX0_from_X6_within : GoodIn wsX0_from wsX6_within := goodIn_r _ [11] (by decide +kernel) (by decide +kernel)
set_option maxRecDepth 20000 in
theorem gX0_from_X6_within_n78 : GoodIn wsX0_from (wsX6_within) := ggX0_from_X6_within
theorem dX0_from_0 : decode cX0_from 0 = .ok (.iload_n 2, 1) := by decide +kernel
theorem dX0_from_1 : decode cX0_from 1 = .ok (.aload_n 1, 1) := by decide +kernel
theorem dX0_from_2 : decode cX0_from 2 = .ok (.getfield 23, 3) := by decide +kernel
theorem dX0_from_5 : decode cX0_from 5 = .ok (.if_icmp .le 6, 3) := by decide +kernel
theorem dX0_from_8 : decode cX0_from 8 = .ok (.ldc 74, 2) := by decide +kernel
theorem dX0_from_10 : decode cX0_from 10 = .ok (.ireturn, 1) := by decide +kernel
theorem dX0_from_11 : decode cX0_from 11 = .ok (.iload 4, 2) := by decide +kernel
theorem dX0_from_13 : decode cX0_from 13 = .ok (.aload_n 1, 1) := by decide +kernel
theorem dX0_from_14 : decode cX0_from 14 = .ok (.getfield 38, 3) := by decide +kernel
theorem dX0_from_17 : decode cX0_from 17 = .ok (.if_icmp .lt 5, 3) := by decide +kernel
theorem dX0_from_20 : decode cX0_from 20 = .ok (.iconst 0, 1) := by decide +kernel
theorem dX0_from_21 : decode cX0_from 21 = .ok (.ireturn, 1) := by decide +kernel
theorem dX0_from_22 : decode cX0_from 22 = .ok (.iload_n 2, 1) := by decide +kernel
theorem dX0_from_23 : decode cX0_from 23 = .ok (.aload_n 1, 1) := by decide +kernel
theorem dX0_from_24 : decode cX0_from 24 = .ok (.getfield 23, 3) := by decide +kernel
theorem dX0_from_27 : decode cX0_from 27 = .ok (.if_icmp .ge 13, 3) := by decide +kernel
theorem dX0_from_30 : decode cX0_from 30 = .ok (.iload_n 2, 1) := by decide +kernel
theorem dX0_from_31 : decode cX0_from 31 = .ok (.iload_n 3, 1) := by decide +kernel
theorem dX0_from_32 : decode cX0_from 32 = .ok (.iload 4, 2) := by decide +kernel
theorem dX0_from_34 : decode cX0_from 34 = .ok (.invokestatic 75, 3) := by decide +kernel
theorem dX0_from_37 : decode cX0_from 37 = .ok (.goto 4, 3) := by decide +kernel
theorem dX0_from_40 : decode cX0_from 40 = .ok (.iconst (-1), 1) := by decide +kernel
theorem dX0_from_41 : decode cX0_from 41 = .ok (.istore 5, 2) := by decide +kernel
theorem dX0_from_43 : decode cX0_from 43 = .ok (.iload 5, 2) := by decide +kernel
theorem dX0_from_45 : decode cX0_from 45 = .ok (.iconst 0, 1) := by decide +kernel
theorem dX0_from_46 : decode cX0_from 46 = .ok (.aload_n 0, 1) := by decide +kernel
theorem dX0_from_47 : decode cX0_from 47 = .ok (.getfield 19, 3) := by decide +kernel
theorem dX0_from_50 : decode cX0_from 50 = .ok (.arraylength, 1) := by decide +kernel
theorem dX0_from_51 : decode cX0_from 51 = .ok (.iconst 1, 1) := by decide +kernel
theorem dX0_from_52 : decode cX0_from 52 = .ok (.isub, 1) := by decide +kernel
theorem dX0_from_53 : decode cX0_from 53 = .ok (.invokestatic 78, 3) := by decide +kernel
theorem dX0_from_56 : decode cX0_from 56 = .ok (.ifCond .eq 13, 3) := by decide +kernel
theorem dX0_from_59 : decode cX0_from 59 = .ok (.aload_n 0, 1) := by decide +kernel
theorem dX0_from_60 : decode cX0_from 60 = .ok (.getfield 19, 3) := by decide +kernel
theorem dX0_from_63 : decode cX0_from 63 = .ok (.iload 5, 2) := by decide +kernel
theorem dX0_from_65 : decode cX0_from 65 = .ok (.iaload, 1) := by decide +kernel
theorem dX0_from_66 : decode cX0_from 66 = .ok (.goto 5, 3) := by decide +kernel
theorem dX0_from_69 : decode cX0_from 69 = .ok (.ldc 74, 2) := by decide +kernel
theorem dX0_from_71 : decode cX0_from 71 = .ok (.ireturn, 1) := by decide +kernel
set_option maxRecDepth 20000 in
theorem ggX0_stay_X4_at : GoodIn wsX0_stay wsX4_at := goodIn_r _ [7, 8, 9, 10, 11, 6, 12, 13, 14, 15, 26, 27] (by decide +kernel) (by decide +kernel)
set_option maxRecDepth 20000 in
theorem gX0_stay_X4_at : GoodIn wsX0_stay (wsV RX0 82 RX4 yX4_at wsX4_at) := goodIn_app (goodIn_of _ (by decide +kernel)) ggX0_stay_X4_at
set_option maxRecDepth 20000 in
theorem ggX0_stay_X0_sum : GoodIn wsX0_stay wsX0_sum := goodIn_r _ [19, 2, 20, 21, 22, 23] (by decide +kernel) (by decide +kernel)
set_option maxRecDepth 20000 in
theorem gX0_stay_X0_sum : GoodIn wsX0_stay (va_wsS RX0 62 yX0_sum wsX0_sum) := goodIn_app (goodIn_of _ (by decide +kernel)) ggX0_stay_X0_sum
theorem dX0_stay_0 : decode cX0_stay 0 = .ok (.iconst 0, 1) := by decide +kernel
theorem dX0_stay_1 : decode cX0_stay 1 = .ok (.istore 4, 2) := by decide +kernel
theorem dX0_stay_3 : decode cX0_stay 3 = .ok (.iconst 0, 1) := by decide +kernel
theorem dX0_stay_4 : decode cX0_stay 4 = .ok (.istore 5, 2) := by decide +kernel
theorem dX0_stay_6 : decode cX0_stay 6 = .ok (.iload 5, 2) := by decide +kernel
theorem dX0_stay_8 : decode cX0_stay 8 = .ok (.iload_n 3, 1) := by decide +kernel
theorem dX0_stay_9 : decode cX0_stay 9 = .ok (.if_icmp .ge 43, 3) := by decide +kernel
theorem dX0_stay_12 : decode cX0_stay 12 = .ok (.aload_n 0, 1) := by decide +kernel
theorem dX0_stay_13 : decode cX0_stay 13 = .ok (.getfield 13, 3) := by decide +kernel
theorem dX0_stay_16 : decode cX0_stay 16 = .ok (.iload_n 1, 1) := by decide +kernel
theorem dX0_stay_17 : decode cX0_stay 17 = .ok (.iload_n 2, 1) := by decide +kernel
theorem dX0_stay_18 : decode cX0_stay 18 = .ok (.iload 5, 2) := by decide +kernel
theorem dX0_stay_20 : decode cX0_stay 20 = .ok (.iadd, 1) := by decide +kernel
theorem dX0_stay_21 : decode cX0_stay 21 = .ok (.invokevirtual 82, 3) := by decide +kernel
theorem dX0_stay_24 : decode cX0_stay 24 = .ok (.istore 6, 2) := by decide +kernel
theorem dX0_stay_26 : decode cX0_stay 26 = .ok (.iload 4, 2) := by decide +kernel
theorem dX0_stay_28 : decode cX0_stay 28 = .ok (.iload 6, 2) := by decide +kernel
theorem dX0_stay_30 : decode cX0_stay 30 = .ok (.iconst (-1), 1) := by decide +kernel
theorem dX0_stay_31 : decode cX0_stay 31 = .ok (.if_icmp .ne 8, 3) := by decide +kernel
theorem dX0_stay_34 : decode cX0_stay 34 = .ok (.ldc 74, 2) := by decide +kernel
theorem dX0_stay_36 : decode cX0_stay 36 = .ok (.goto 5, 3) := by decide +kernel
theorem dX0_stay_39 : decode cX0_stay 39 = .ok (.iload 6, 2) := by decide +kernel
theorem dX0_stay_41 : decode cX0_stay 41 = .ok (.invokestatic 62, 3) := by decide +kernel
theorem dX0_stay_44 : decode cX0_stay 44 = .ok (.istore 4, 2) := by decide +kernel
theorem dX0_stay_46 : decode cX0_stay 46 = .ok (.iinc 5 1, 3) := by decide +kernel
theorem dX0_stay_49 : decode cX0_stay 49 = .ok (.goto (-43), 3) := by decide +kernel
theorem dX0_stay_52 : decode cX0_stay 52 = .ok (.iload 4, 2) := by decide +kernel
theorem dX0_stay_54 : decode cX0_stay 54 = .ok (.ireturn, 1) := by decide +kernel
set_option maxRecDepth 20000 in
theorem ggX0_put_X0_slotOf : GoodIn wsX0_put wsX0_slotOf := goodIn_r _ [5] (by decide +kernel) (by decide +kernel)
set_option maxRecDepth 20000 in
theorem gX0_put_X0_slotOf : GoodIn wsX0_put (va_wsS RX0 75 yX0_slotOf wsX0_slotOf) := goodIn_app (goodIn_of _ (by decide +kernel)) ggX0_put_X0_slotOf
set_option maxRecDepth 20000 in
theorem ggX0_put_X6_within : GoodIn wsX0_put wsX6_within := goodIn_r _ [8] (by decide +kernel) (by decide +kernel)
set_option maxRecDepth 20000 in
theorem gX0_put_X6_within_n78 : GoodIn wsX0_put (wsX6_within) := ggX0_put_X6_within
theorem dX0_put_0 : decode cX0_put 0 = .ok (.iload_n 1, 1) := by decide +kernel
theorem dX0_put_1 : decode cX0_put 1 = .ok (.iload_n 2, 1) := by decide +kernel
theorem dX0_put_2 : decode cX0_put 2 = .ok (.iload_n 3, 1) := by decide +kernel
theorem dX0_put_3 : decode cX0_put 3 = .ok (.invokestatic 75, 3) := by decide +kernel
theorem dX0_put_6 : decode cX0_put 6 = .ok (.istore 5, 2) := by decide +kernel
theorem dX0_put_8 : decode cX0_put 8 = .ok (.iload 5, 2) := by decide +kernel
theorem dX0_put_10 : decode cX0_put 10 = .ok (.iconst 0, 1) := by decide +kernel
theorem dX0_put_11 : decode cX0_put 11 = .ok (.aload_n 0, 1) := by decide +kernel
theorem dX0_put_12 : decode cX0_put 12 = .ok (.getfield 19, 3) := by decide +kernel
theorem dX0_put_15 : decode cX0_put 15 = .ok (.arraylength, 1) := by decide +kernel
theorem dX0_put_16 : decode cX0_put 16 = .ok (.iconst 1, 1) := by decide +kernel
theorem dX0_put_17 : decode cX0_put 17 = .ok (.isub, 1) := by decide +kernel
theorem dX0_put_18 : decode cX0_put 18 = .ok (.invokestatic 78, 3) := by decide +kernel
theorem dX0_put_21 : decode cX0_put 21 = .ok (.ifCond .eq 12, 3) := by decide +kernel
theorem dX0_put_24 : decode cX0_put 24 = .ok (.aload_n 0, 1) := by decide +kernel
theorem dX0_put_25 : decode cX0_put 25 = .ok (.getfield 19, 3) := by decide +kernel
theorem dX0_put_28 : decode cX0_put 28 = .ok (.iload 5, 2) := by decide +kernel
theorem dX0_put_30 : decode cX0_put 30 = .ok (.iload 4, 2) := by decide +kernel
theorem dX0_put_32 : decode cX0_put 32 = .ok (.iastore, 1) := by decide +kernel
theorem dX0_put_33 : decode cX0_put 33 = .ok (.return_, 1) := by decide +kernel
theorem dX0_sum_0 : decode cX0_sum 0 = .ok (.ldc 74, 2) := by decide +kernel
theorem dX0_sum_2 : decode cX0_sum 2 = .ok (.iload_n 0, 1) := by decide +kernel
theorem dX0_sum_3 : decode cX0_sum 3 = .ok (.iload_n 1, 1) := by decide +kernel
theorem dX0_sum_4 : decode cX0_sum 4 = .ok (.iadd, 1) := by decide +kernel
theorem dX0_sum_5 : decode cX0_sum 5 = .ok (.invokestatic 66, 3) := by decide +kernel
theorem dX0_sum_8 : decode cX0_sum 8 = .ok (.ireturn, 1) := by decide +kernel
theorem dX0_slotOf_0 : decode cX0_slotOf 0 = .ok (.iload_n 0, 1) := by decide +kernel
theorem dX0_slotOf_1 : decode cX0_slotOf 1 = .ok (.ifCond .lt 33, 3) := by decide +kernel
theorem dX0_slotOf_4 : decode cX0_slotOf 4 = .ok (.iload_n 0, 1) := by decide +kernel
theorem dX0_slotOf_5 : decode cX0_slotOf 5 = .ok (.sipush 200, 3) := by decide +kernel
theorem dX0_slotOf_8 : decode cX0_slotOf 8 = .ok (.if_icmp .ge 26, 3) := by decide +kernel
theorem dX0_slotOf_11 : decode cX0_slotOf 11 = .ok (.iload_n 1, 1) := by decide +kernel
theorem dX0_slotOf_12 : decode cX0_slotOf 12 = .ok (.ifCond .lt 22, 3) := by decide +kernel
theorem dX0_slotOf_15 : decode cX0_slotOf 15 = .ok (.iload_n 1, 1) := by decide +kernel
theorem dX0_slotOf_16 : decode cX0_slotOf 16 = .ok (.iconst 5, 1) := by decide +kernel
theorem dX0_slotOf_17 : decode cX0_slotOf 17 = .ok (.if_icmp .ge 17, 3) := by decide +kernel
theorem dX0_slotOf_20 : decode cX0_slotOf 20 = .ok (.iload_n 2, 1) := by decide +kernel
theorem dX0_slotOf_21 : decode cX0_slotOf 21 = .ok (.ifCond .lt 13, 3) := by decide +kernel
theorem dX0_slotOf_24 : decode cX0_slotOf 24 = .ok (.iload_n 2, 1) := by decide +kernel
theorem dX0_slotOf_25 : decode cX0_slotOf 25 = .ok (.bipush 30, 2) := by decide +kernel
theorem dX0_slotOf_27 : decode cX0_slotOf 27 = .ok (.if_icmp .ge 7, 3) := by decide +kernel
theorem dX0_slotOf_30 : decode cX0_slotOf 30 = .ok (.iconst 1, 1) := by decide +kernel
theorem dX0_slotOf_31 : decode cX0_slotOf 31 = .ok (.goto 4, 3) := by decide +kernel
theorem dX0_slotOf_34 : decode cX0_slotOf 34 = .ok (.iconst 0, 1) := by decide +kernel
theorem dX0_slotOf_35 : decode cX0_slotOf 35 = .ok (.istore_n 3, 1) := by decide +kernel
theorem dX0_slotOf_36 : decode cX0_slotOf 36 = .ok (.iload_n 3, 1) := by decide +kernel
theorem dX0_slotOf_37 : decode cX0_slotOf 37 = .ok (.ifCond .eq 19, 3) := by decide +kernel
theorem dX0_slotOf_40 : decode cX0_slotOf 40 = .ok (.iload_n 0, 1) := by decide +kernel
theorem dX0_slotOf_41 : decode cX0_slotOf 41 = .ok (.bipush 6, 2) := by decide +kernel
theorem dX0_slotOf_43 : decode cX0_slotOf 43 = .ok (.irem, 1) := by decide +kernel
theorem dX0_slotOf_44 : decode cX0_slotOf 44 = .ok (.iconst 5, 1) := by decide +kernel
theorem dX0_slotOf_45 : decode cX0_slotOf 45 = .ok (.imul, 1) := by decide +kernel
theorem dX0_slotOf_46 : decode cX0_slotOf 46 = .ok (.iload_n 1, 1) := by decide +kernel
theorem dX0_slotOf_47 : decode cX0_slotOf 47 = .ok (.iadd, 1) := by decide +kernel
theorem dX0_slotOf_48 : decode cX0_slotOf 48 = .ok (.bipush 30, 2) := by decide +kernel
theorem dX0_slotOf_50 : decode cX0_slotOf 50 = .ok (.imul, 1) := by decide +kernel
theorem dX0_slotOf_51 : decode cX0_slotOf 51 = .ok (.iload_n 2, 1) := by decide +kernel
theorem dX0_slotOf_52 : decode cX0_slotOf 52 = .ok (.iadd, 1) := by decide +kernel
theorem dX0_slotOf_53 : decode cX0_slotOf 53 = .ok (.goto 4, 3) := by decide +kernel
theorem dX0_slotOf_56 : decode cX0_slotOf 56 = .ok (.iconst (-1), 1) := by decide +kernel
theorem dX0_slotOf_57 : decode cX0_slotOf 57 = .ok (.ireturn, 1) := by decide +kernel
theorem dX1_init_0 : decode cX1_init 0 = .ok (.aload_n 0, 1) := by decide +kernel
theorem dX1_init_1 : decode cX1_init 1 = .ok (.invokespecial 3, 3) := by decide +kernel
theorem dX1_init_4 : decode cX1_init 4 = .ok (.aload_n 0, 1) := by decide +kernel
theorem dX1_init_5 : decode cX1_init 5 = .ok (.aload_n 1, 1) := by decide +kernel
theorem dX1_init_6 : decode cX1_init 6 = .ok (.putfield 9, 3) := by decide +kernel
theorem dX1_init_9 : decode cX1_init 9 = .ok (.aload_n 0, 1) := by decide +kernel
theorem dX1_init_10 : decode cX1_init 10 = .ok (.iconst 0, 1) := by decide +kernel
theorem dX1_init_11 : decode cX1_init 11 = .ok (.putfield 15, 3) := by decide +kernel
theorem dX1_init_14 : decode cX1_init 14 = .ok (.aload_n 0, 1) := by decide +kernel
theorem dX1_init_15 : decode cX1_init 15 = .ok (.iconst (-1), 1) := by decide +kernel
theorem dX1_init_16 : decode cX1_init 16 = .ok (.putfield 19, 3) := by decide +kernel
theorem dX1_init_19 : decode cX1_init 19 = .ok (.return_, 1) := by decide +kernel
theorem dX1_isReady_0 : decode cX1_isReady 0 = .ok (.aload_n 0, 1) := by decide +kernel
theorem dX1_isReady_1 : decode cX1_isReady 1 = .ok (.getfield 19, 3) := by decide +kernel
theorem dX1_isReady_4 : decode cX1_isReady 4 = .ok (.iconst (-1), 1) := by decide +kernel
theorem dX1_isReady_5 : decode cX1_isReady 5 = .ok (.if_icmp .eq 7, 3) := by decide +kernel
theorem dX1_isReady_8 : decode cX1_isReady 8 = .ok (.iconst 1, 1) := by decide +kernel
theorem dX1_isReady_9 : decode cX1_isReady 9 = .ok (.goto 4, 3) := by decide +kernel
theorem dX1_isReady_12 : decode cX1_isReady 12 = .ok (.iconst 0, 1) := by decide +kernel
theorem dX1_isReady_13 : decode cX1_isReady 13 = .ok (.ireturn, 1) := by decide +kernel
set_option maxRecDepth 20000 in
theorem ggX1_tell_X1_need : GoodIn wsX1_tell wsX1_need := goodIn_r _ [17, 1, 18, 19, 20, 21, 22, 23, 24, 25, 26, 27, 28, 29, 30, 31, 32, 33, 34, 35, 36, 37, 38, 39, 40, 41, 42, 43, 44] (by decide +kernel) (by decide +kernel)
set_option maxRecDepth 20000 in
theorem gX1_tell_X1_need : GoodIn wsX1_tell (wsV RX1 49 RX1 yX1_need wsX1_need) := goodIn_app (goodIn_of _ (by decide +kernel)) ggX1_tell_X1_need
theorem dX1_tell_0 : decode cX1_tell 0 = .ok (.iload_n 1, 1) := by decide +kernel
theorem dX1_tell_1 : decode cX1_tell 1 = .ok (.tableswitch 132 0 12 #[67, 72, 77, 82, 87, 92, 97, 102, 107, 112, 117, 122, 127], 67) := by decide +kernel
theorem dX1_tell_68 : decode cX1_tell 68 = .ok (.aload_n 0, 1) := by decide +kernel
theorem dX1_tell_69 : decode cX1_tell 69 = .ok (.getfield 22, 3) := by decide +kernel
theorem dX1_tell_72 : decode cX1_tell 72 = .ok (.ireturn, 1) := by decide +kernel
theorem dX1_tell_73 : decode cX1_tell 73 = .ok (.aload_n 0, 1) := by decide +kernel
theorem dX1_tell_74 : decode cX1_tell 74 = .ok (.getfield 25, 3) := by decide +kernel
theorem dX1_tell_77 : decode cX1_tell 77 = .ok (.ireturn, 1) := by decide +kernel
theorem dX1_tell_78 : decode cX1_tell 78 = .ok (.aload_n 0, 1) := by decide +kernel
theorem dX1_tell_79 : decode cX1_tell 79 = .ok (.getfield 28, 3) := by decide +kernel
theorem dX1_tell_82 : decode cX1_tell 82 = .ok (.ireturn, 1) := by decide +kernel
theorem dX1_tell_83 : decode cX1_tell 83 = .ok (.aload_n 0, 1) := by decide +kernel
theorem dX1_tell_84 : decode cX1_tell 84 = .ok (.getfield 31, 3) := by decide +kernel
theorem dX1_tell_87 : decode cX1_tell 87 = .ok (.ireturn, 1) := by decide +kernel
theorem dX1_tell_88 : decode cX1_tell 88 = .ok (.aload_n 0, 1) := by decide +kernel
theorem dX1_tell_89 : decode cX1_tell 89 = .ok (.getfield 34, 3) := by decide +kernel
theorem dX1_tell_92 : decode cX1_tell 92 = .ok (.ireturn, 1) := by decide +kernel
theorem dX1_tell_93 : decode cX1_tell 93 = .ok (.aload_n 0, 1) := by decide +kernel
theorem dX1_tell_94 : decode cX1_tell 94 = .ok (.getfield 37, 3) := by decide +kernel
theorem dX1_tell_97 : decode cX1_tell 97 = .ok (.ireturn, 1) := by decide +kernel
theorem dX1_tell_98 : decode cX1_tell 98 = .ok (.aload_n 0, 1) := by decide +kernel
theorem dX1_tell_99 : decode cX1_tell 99 = .ok (.getfield 40, 3) := by decide +kernel
theorem dX1_tell_102 : decode cX1_tell 102 = .ok (.ireturn, 1) := by decide +kernel
theorem dX1_tell_103 : decode cX1_tell 103 = .ok (.aload_n 0, 1) := by decide +kernel
theorem dX1_tell_104 : decode cX1_tell 104 = .ok (.getfield 43, 3) := by decide +kernel
theorem dX1_tell_107 : decode cX1_tell 107 = .ok (.ireturn, 1) := by decide +kernel
theorem dX1_tell_108 : decode cX1_tell 108 = .ok (.aload_n 0, 1) := by decide +kernel
theorem dX1_tell_109 : decode cX1_tell 109 = .ok (.getfield 46, 3) := by decide +kernel
theorem dX1_tell_112 : decode cX1_tell 112 = .ok (.ireturn, 1) := by decide +kernel
theorem dX1_tell_113 : decode cX1_tell 113 = .ok (.aload_n 0, 1) := by decide +kernel
theorem dX1_tell_114 : decode cX1_tell 114 = .ok (.getfield 15, 3) := by decide +kernel
theorem dX1_tell_117 : decode cX1_tell 117 = .ok (.ireturn, 1) := by decide +kernel
theorem dX1_tell_118 : decode cX1_tell 118 = .ok (.aload_n 0, 1) := by decide +kernel
theorem dX1_tell_119 : decode cX1_tell 119 = .ok (.getfield 19, 3) := by decide +kernel
theorem dX1_tell_122 : decode cX1_tell 122 = .ok (.ireturn, 1) := by decide +kernel
theorem dX1_tell_123 : decode cX1_tell 123 = .ok (.aload_n 0, 1) := by decide +kernel
theorem dX1_tell_124 : decode cX1_tell 124 = .ok (.invokevirtual 49, 3) := by decide +kernel
theorem dX1_tell_127 : decode cX1_tell 127 = .ok (.ireturn, 1) := by decide +kernel
theorem dX1_tell_128 : decode cX1_tell 128 = .ok (.aload_n 0, 1) := by decide +kernel
theorem dX1_tell_129 : decode cX1_tell 129 = .ok (.getfield 53, 3) := by decide +kernel
theorem dX1_tell_132 : decode cX1_tell 132 = .ok (.ireturn, 1) := by decide +kernel
theorem dX1_tell_133 : decode cX1_tell 133 = .ok (.iconst (-1), 1) := by decide +kernel
theorem dX1_tell_134 : decode cX1_tell 134 = .ok (.ireturn, 1) := by decide +kernel
set_option maxRecDepth 20000 in
theorem ggX1_passHour_X1_isReady : GoodIn wsX1_passHour wsX1_isReady := goodIn_r _ [15, 9, 83, 84, 85, 86, 87, 88, 89, 90, 91, 92, 93, 94, 95, 96, 97, 98] (by decide +kernel) (by decide +kernel)
set_option maxRecDepth 20000 in
theorem gX1_passHour_X1_isReady : GoodIn wsX1_passHour (wsV RX1 56 RX1 yX1_isReady wsX1_isReady) := goodIn_app (goodIn_of _ (by decide +kernel)) ggX1_passHour_X1_isReady
set_option maxRecDepth 20000 in
theorem ggX1_passHour_X1_need : GoodIn wsX1_passHour wsX1_need := goodIn_r _ [19, 7, 2, 20, 8, 83, 84, 85, 86, 87, 88, 89, 90, 91, 92, 93, 94, 95, 96, 97, 98, 99, 100, 101, 102, 103, 104, 105, 106] (by decide +kernel) (by decide +kernel)
set_option maxRecDepth 20000 in
theorem gX1_passHour_X1_need : GoodIn wsX1_passHour (wsV RX1 49 RX1 yX1_need wsX1_need) := goodIn_app (goodIn_of _ (by decide +kernel)) ggX1_passHour_X1_need
set_option maxRecDepth 20000 in
theorem ggX1_passHour_X4_at : GoodIn wsX1_passHour wsX4_at := goodIn_r _ [25, 26, 27, 28, 29, 24, 30, 31, 32, 33, 107, 108] (by decide +kernel) (by decide +kernel)
set_option maxRecDepth 20000 in
theorem gX1_passHour_X4_at : GoodIn wsX1_passHour (wsV RX1 72 RX4 yX4_at wsX4_at) := goodIn_app (goodIn_of _ (by decide +kernel)) ggX1_passHour_X4_at
set_option maxRecDepth 20000 in
theorem ggX1_passHour_X1_passAtFull : GoodIn wsX1_passHour wsX1_passAtFull := goodIn_r _ [37, 10, 38, 39, 40, 41, 7, 42, 43, 44, 14, 45, 2, 20, 46, 47, 48, 49, 50, 51, 52, 53, 54, 55, 56, 57, 83, 84, 85, 86, 87, 88, 89, 90, 91, 92, 93, 94, 95, 96, 97, 98, 99, 100, 101, 102, 103, 104, 105, 106] (by decide +kernel) (by decide +kernel)
set_option maxRecDepth 20000 in
theorem gX1_passHour_X1_passAtFull : GoodIn wsX1_passHour (wsV RX1 81 RX1 yX1_passAtFull wsX1_passAtFull) := goodIn_app (goodIn_of _ (by decide +kernel)) ggX1_passHour_X1_passAtFull
set_option maxRecDepth 20000 in
theorem ggX1_passHour_X1_passWaiting : GoodIn wsX1_passHour wsX1_passWaiting := goodIn_r _ [61, 10, 62, 63, 47, 48, 49, 14, 50, 46, 51, 40, 52, 83, 84, 85, 86, 87, 88, 89, 90, 91, 92, 93, 94, 95, 96, 97, 98] (by decide +kernel) (by decide +kernel)
set_option maxRecDepth 20000 in
theorem gX1_passHour_X1_passWaiting : GoodIn wsX1_passHour (wsV RX1 88 RX1 yX1_passWaiting wsX1_passWaiting) := goodIn_app (goodIn_of _ (by decide +kernel)) ggX1_passHour_X1_passWaiting
set_option maxRecDepth 20000 in
theorem ggX1_passHour_X1_passAtMarket : GoodIn wsX1_passHour wsX1_passAtMarket := goodIn_r _ [67, 10, 7, 2, 20, 40, 38, 52, 53, 54, 55, 14, 56, 57, 68, 69, 70, 71, 72, 73, 74, 75, 76, 51, 77, 78, 79, 80, 41, 81, 8, 82, 83, 84, 85, 86, 87, 88, 89, 90, 91, 92, 93, 94, 95, 96, 97, 98, 99, 100, 101, 102, 103, 104, 105, 106] (by decide +kernel) (by decide +kernel)
set_option maxRecDepth 20000 in
theorem gX1_passHour_X1_passAtMarket : GoodIn wsX1_passHour (wsV RX1 91 RX1 yX1_passAtMarket wsX1_passAtMarket) := goodIn_app (goodIn_of _ (by decide +kernel)) ggX1_passHour_X1_passAtMarket
theorem dX1_passHour_0 : decode cX1_passHour 0 = .ok (.aload_n 0, 1) := by decide +kernel
theorem dX1_passHour_1 : decode cX1_passHour 1 = .ok (.invokevirtual 56, 3) := by decide +kernel
theorem dX1_passHour_4 : decode cX1_passHour 4 = .ok (.ifCond .eq 4, 3) := by decide +kernel
theorem dX1_passHour_7 : decode cX1_passHour 7 = .ok (.return_, 1) := by decide +kernel
theorem dX1_passHour_8 : decode cX1_passHour 8 = .ok (.aload_n 0, 1) := by decide +kernel
theorem dX1_passHour_9 : decode cX1_passHour 9 = .ok (.aload_n 0, 1) := by decide +kernel
theorem dX1_passHour_10 : decode cX1_passHour 10 = .ok (.getfield 60, 3) := by decide +kernel
theorem dX1_passHour_13 : decode cX1_passHour 13 = .ok (.ifCond .ne 19, 3) := by decide +kernel
theorem dX1_passHour_16 : decode cX1_passHour 16 = .ok (.aload_n 0, 1) := by decide +kernel
theorem dX1_passHour_17 : decode cX1_passHour 17 = .ok (.getfield 9, 3) := by decide +kernel
theorem dX1_passHour_20 : decode cX1_passHour 20 = .ok (.getfield 64, 3) := by decide +kernel
theorem dX1_passHour_23 : decode cX1_passHour 23 = .ok (.iload_n 1, 1) := by decide +kernel
theorem dX1_passHour_24 : decode cX1_passHour 24 = .ok (.isub, 1) := by decide +kernel
theorem dX1_passHour_25 : decode cX1_passHour 25 = .ok (.aload_n 0, 1) := by decide +kernel
theorem dX1_passHour_26 : decode cX1_passHour 26 = .ok (.invokevirtual 49, 3) := by decide +kernel
theorem dX1_passHour_29 : decode cX1_passHour 29 = .ok (.if_icmp .gt 7, 3) := by decide +kernel
theorem dX1_passHour_32 : decode cX1_passHour 32 = .ok (.iconst 1, 1) := by decide +kernel
theorem dX1_passHour_33 : decode cX1_passHour 33 = .ok (.goto 4, 3) := by decide +kernel
theorem dX1_passHour_36 : decode cX1_passHour 36 = .ok (.iconst 0, 1) := by decide +kernel
theorem dX1_passHour_37 : decode cX1_passHour 37 = .ok (.putfield 60, 3) := by decide +kernel
theorem dX1_passHour_40 : decode cX1_passHour 40 = .ok (.aload_n 2, 1) := by decide +kernel
theorem dX1_passHour_41 : decode cX1_passHour 41 = .ok (.aload_n 0, 1) := by decide +kernel
theorem dX1_passHour_42 : decode cX1_passHour 42 = .ok (.getfield 9, 3) := by decide +kernel
theorem dX1_passHour_45 : decode cX1_passHour 45 = .ok (.getfield 69, 3) := by decide +kernel
theorem dX1_passHour_48 : decode cX1_passHour 48 = .ok (.iload_n 1, 1) := by decide +kernel
theorem dX1_passHour_49 : decode cX1_passHour 49 = .ok (.invokevirtual 72, 3) := by decide +kernel
theorem dX1_passHour_52 : decode cX1_passHour 52 = .ok (.istore_n 3, 1) := by decide +kernel
theorem dX1_passHour_53 : decode cX1_passHour 53 = .ok (.aload_n 0, 1) := by decide +kernel
theorem dX1_passHour_54 : decode cX1_passHour 54 = .ok (.getfield 60, 3) := by decide +kernel
theorem dX1_passHour_57 : decode cX1_passHour 57 = .ok (.ifCond .eq 14, 3) := by decide +kernel
theorem dX1_passHour_60 : decode cX1_passHour 60 = .ok (.aload_n 0, 1) := by decide +kernel
theorem dX1_passHour_61 : decode cX1_passHour 61 = .ok (.aload_n 2, 1) := by decide +kernel
theorem dX1_passHour_62 : decode cX1_passHour 62 = .ok (.getfield 78, 3) := by decide +kernel
theorem dX1_passHour_65 : decode cX1_passHour 65 = .ok (.invokevirtual 81, 3) := by decide +kernel
theorem dX1_passHour_68 : decode cX1_passHour 68 = .ok (.goto 31, 3) := by decide +kernel
theorem dX1_passHour_71 : decode cX1_passHour 71 = .ok (.iload_n 3, 1) := by decide +kernel
theorem dX1_passHour_72 : decode cX1_passHour 72 = .ok (.iconst (-1), 1) := by decide +kernel
theorem dX1_passHour_73 : decode cX1_passHour 73 = .ok (.if_icmp .eq 14, 3) := by decide +kernel
theorem dX1_passHour_76 : decode cX1_passHour 76 = .ok (.iload_n 3, 1) := by decide +kernel
theorem dX1_passHour_77 : decode cX1_passHour 77 = .ok (.aload_n 0, 1) := by decide +kernel
theorem dX1_passHour_78 : decode cX1_passHour 78 = .ok (.getfield 9, 3) := by decide +kernel
theorem dX1_passHour_81 : decode cX1_passHour 81 = .ok (.getfield 85, 3) := by decide +kernel
theorem dX1_passHour_84 : decode cX1_passHour 84 = .ok (.if_icmp .le 10, 3) := by decide +kernel
theorem dX1_passHour_87 : decode cX1_passHour 87 = .ok (.aload_n 0, 1) := by decide +kernel
theorem dX1_passHour_88 : decode cX1_passHour 88 = .ok (.invokevirtual 88, 3) := by decide +kernel
theorem dX1_passHour_91 : decode cX1_passHour 91 = .ok (.goto 8, 3) := by decide +kernel
theorem dX1_passHour_94 : decode cX1_passHour 94 = .ok (.aload_n 0, 1) := by decide +kernel
theorem dX1_passHour_95 : decode cX1_passHour 95 = .ok (.iload_n 3, 1) := by decide +kernel
theorem dX1_passHour_96 : decode cX1_passHour 96 = .ok (.invokevirtual 91, 3) := by decide +kernel
theorem dX1_passHour_99 : decode cX1_passHour 99 = .ok (.aload_n 0, 1) := by decide +kernel
theorem dX1_passHour_100 : decode cX1_passHour 100 = .ok (.getfield 22, 3) := by decide +kernel
theorem dX1_passHour_103 : decode cX1_passHour 103 = .ok (.aload_n 0, 1) := by decide +kernel
theorem dX1_passHour_104 : decode cX1_passHour 104 = .ok (.getfield 9, 3) := by decide +kernel
theorem dX1_passHour_107 : decode cX1_passHour 107 = .ok (.getfield 94, 3) := by decide +kernel
theorem dX1_passHour_110 : decode cX1_passHour 110 = .ok (.if_icmp .lt 15, 3) := by decide +kernel
theorem dX1_passHour_113 : decode cX1_passHour 113 = .ok (.aload_n 0, 1) := by decide +kernel
theorem dX1_passHour_114 : decode cX1_passHour 114 = .ok (.iload_n 1, 1) := by decide +kernel
theorem dX1_passHour_115 : decode cX1_passHour 115 = .ok (.iconst 1, 1) := by decide +kernel
theorem dX1_passHour_116 : decode cX1_passHour 116 = .ok (.iadd, 1) := by decide +kernel
theorem dX1_passHour_117 : decode cX1_passHour 117 = .ok (.putfield 19, 3) := by decide +kernel
theorem dX1_passHour_120 : decode cX1_passHour 120 = .ok (.aload_n 0, 1) := by decide +kernel
theorem dX1_passHour_121 : decode cX1_passHour 121 = .ok (.iconst 0, 1) := by decide +kernel
theorem dX1_passHour_122 : decode cX1_passHour 122 = .ok (.putfield 15, 3) := by decide +kernel
theorem dX1_passHour_125 : decode cX1_passHour 125 = .ok (.return_, 1) := by decide +kernel
theorem dX1_need_0 : decode cX1_need 0 = .ok (.aload_n 0, 1) := by decide +kernel
theorem dX1_need_1 : decode cX1_need 1 = .ok (.getfield 22, 3) := by decide +kernel
theorem dX1_need_4 : decode cX1_need 4 = .ok (.aload_n 0, 1) := by decide +kernel
theorem dX1_need_5 : decode cX1_need 5 = .ok (.getfield 9, 3) := by decide +kernel
theorem dX1_need_8 : decode cX1_need 8 = .ok (.getfield 97, 3) := by decide +kernel
theorem dX1_need_11 : decode cX1_need 11 = .ok (.if_icmp .le 26, 3) := by decide +kernel
theorem dX1_need_14 : decode cX1_need 14 = .ok (.aload_n 0, 1) := by decide +kernel
theorem dX1_need_15 : decode cX1_need 15 = .ok (.getfield 9, 3) := by decide +kernel
theorem dX1_need_18 : decode cX1_need 18 = .ok (.getfield 94, 3) := by decide +kernel
theorem dX1_need_21 : decode cX1_need 21 = .ok (.aload_n 0, 1) := by decide +kernel
theorem dX1_need_22 : decode cX1_need 22 = .ok (.getfield 22, 3) := by decide +kernel
theorem dX1_need_25 : decode cX1_need 25 = .ok (.isub, 1) := by decide +kernel
theorem dX1_need_26 : decode cX1_need 26 = .ok (.aload_n 0, 1) := by decide +kernel
theorem dX1_need_27 : decode cX1_need 27 = .ok (.getfield 9, 3) := by decide +kernel
theorem dX1_need_30 : decode cX1_need 30 = .ok (.getfield 97, 3) := by decide +kernel
theorem dX1_need_33 : decode cX1_need 33 = .ok (.iadd, 1) := by decide +kernel
theorem dX1_need_34 : decode cX1_need 34 = .ok (.goto 10, 3) := by decide +kernel
theorem dX1_need_37 : decode cX1_need 37 = .ok (.aload_n 0, 1) := by decide +kernel
theorem dX1_need_38 : decode cX1_need 38 = .ok (.getfield 9, 3) := by decide +kernel
theorem dX1_need_41 : decode cX1_need 41 = .ok (.getfield 94, 3) := by decide +kernel
theorem dX1_need_44 : decode cX1_need 44 = .ok (.ireturn, 1) := by decide +kernel
set_option maxRecDepth 20000 in
theorem ggX1_passAtFull_X1_comeToFull : GoodIn wsX1_passAtFull wsX1_comeToFull := goodIn_r _ [11, 1, 6, 12, 13, 4, 14, 15, 16, 17, 10, 18, 19, 20, 26, 27, 28, 29, 30, 31, 32, 33, 34, 35, 36, 37, 38, 39, 40, 41, 42, 43, 44, 45, 46, 47, 48, 49] (by decide +kernel) (by decide +kernel)
set_option maxRecDepth 20000 in
theorem gX1_passAtFull_X1_comeToFull : GoodIn wsX1_passAtFull (wsV RX1 100 RX1 yX1_comeToFull wsX1_comeToFull) := goodIn_app (goodIn_of _ (by decide +kernel)) ggX1_passAtFull_X1_comeToFull
set_option maxRecDepth 20000 in
theorem ggX1_passAtFull_X1_bringOn : GoodIn wsX1_passAtFull wsX1_bringOn := goodIn_r _ [24, 4, 25, 26, 27, 28, 29, 30, 31, 32, 33, 34, 35, 36, 37, 38, 39, 40, 41] (by decide +kernel) (by decide +kernel)
set_option maxRecDepth 20000 in
theorem gX1_passAtFull_X1_bringOn : GoodIn wsX1_passAtFull (wsV RX1 106 RX1 yX1_bringOn wsX1_bringOn) := goodIn_app (goodIn_of _ (by decide +kernel)) ggX1_passAtFull_X1_bringOn
theorem dX1_passAtFull_0 : decode cX1_passAtFull 0 = .ok (.aload_n 0, 1) := by decide +kernel
theorem dX1_passAtFull_1 : decode cX1_passAtFull 1 = .ok (.getfield 15, 3) := by decide +kernel
theorem dX1_passAtFull_4 : decode cX1_passAtFull 4 = .ok (.iconst 2, 1) := by decide +kernel
theorem dX1_passAtFull_5 : decode cX1_passAtFull 5 = .ok (.if_icmp .eq 7, 3) := by decide +kernel
theorem dX1_passAtFull_8 : decode cX1_passAtFull 8 = .ok (.aload_n 0, 1) := by decide +kernel
theorem dX1_passAtFull_9 : decode cX1_passAtFull 9 = .ok (.invokevirtual 100, 3) := by decide +kernel
theorem dX1_passAtFull_12 : decode cX1_passAtFull 12 = .ok (.aload_n 0, 1) := by decide +kernel
theorem dX1_passAtFull_13 : decode cX1_passAtFull 13 = .ok (.dup, 1) := by decide +kernel
theorem dX1_passAtFull_14 : decode cX1_passAtFull 14 = .ok (.getfield 43, 3) := by decide +kernel
theorem dX1_passAtFull_17 : decode cX1_passAtFull 17 = .ok (.iload_n 1, 1) := by decide +kernel
theorem dX1_passAtFull_18 : decode cX1_passAtFull 18 = .ok (.iadd, 1) := by decide +kernel
theorem dX1_passAtFull_19 : decode cX1_passAtFull 19 = .ok (.putfield 43, 3) := by decide +kernel
theorem dX1_passAtFull_22 : decode cX1_passAtFull 22 = .ok (.aload_n 0, 1) := by decide +kernel
theorem dX1_passAtFull_23 : decode cX1_passAtFull 23 = .ok (.dup, 1) := by decide +kernel
theorem dX1_passAtFull_24 : decode cX1_passAtFull 24 = .ok (.getfield 46, 3) := by decide +kernel
theorem dX1_passAtFull_27 : decode cX1_passAtFull 27 = .ok (.iconst 1, 1) := by decide +kernel
theorem dX1_passAtFull_28 : decode cX1_passAtFull 28 = .ok (.iadd, 1) := by decide +kernel
theorem dX1_passAtFull_29 : decode cX1_passAtFull 29 = .ok (.putfield 46, 3) := by decide +kernel
theorem dX1_passAtFull_32 : decode cX1_passAtFull 32 = .ok (.aload_n 0, 1) := by decide +kernel
theorem dX1_passAtFull_33 : decode cX1_passAtFull 33 = .ok (.getfield 103, 3) := by decide +kernel
theorem dX1_passAtFull_36 : decode cX1_passAtFull 36 = .ok (.ifCond .le 10, 3) := by decide +kernel
theorem dX1_passAtFull_39 : decode cX1_passAtFull 39 = .ok (.aload_n 0, 1) := by decide +kernel
theorem dX1_passAtFull_40 : decode cX1_passAtFull 40 = .ok (.invokevirtual 106, 3) := by decide +kernel
theorem dX1_passAtFull_43 : decode cX1_passAtFull 43 = .ok (.goto 23, 3) := by decide +kernel
theorem dX1_passAtFull_46 : decode cX1_passAtFull 46 = .ok (.aload_n 0, 1) := by decide +kernel
theorem dX1_passAtFull_47 : decode cX1_passAtFull 47 = .ok (.dup, 1) := by decide +kernel
theorem dX1_passAtFull_48 : decode cX1_passAtFull 48 = .ok (.getfield 31, 3) := by decide +kernel
theorem dX1_passAtFull_51 : decode cX1_passAtFull 51 = .ok (.iconst 1, 1) := by decide +kernel
theorem dX1_passAtFull_52 : decode cX1_passAtFull 52 = .ok (.iadd, 1) := by decide +kernel
theorem dX1_passAtFull_53 : decode cX1_passAtFull 53 = .ok (.putfield 31, 3) := by decide +kernel
theorem dX1_passAtFull_56 : decode cX1_passAtFull 56 = .ok (.aload_n 0, 1) := by decide +kernel
theorem dX1_passAtFull_57 : decode cX1_passAtFull 57 = .ok (.dup, 1) := by decide +kernel
theorem dX1_passAtFull_58 : decode cX1_passAtFull 58 = .ok (.getfield 22, 3) := by decide +kernel
theorem dX1_passAtFull_61 : decode cX1_passAtFull 61 = .ok (.iconst 1, 1) := by decide +kernel
theorem dX1_passAtFull_62 : decode cX1_passAtFull 62 = .ok (.iadd, 1) := by decide +kernel
theorem dX1_passAtFull_63 : decode cX1_passAtFull 63 = .ok (.putfield 22, 3) := by decide +kernel
theorem dX1_passAtFull_66 : decode cX1_passAtFull 66 = .ok (.return_, 1) := by decide +kernel
set_option maxRecDepth 20000 in
theorem ggX1_comeToFull_X1_loseUnsaved : GoodIn wsX1_comeToFull wsX1_loseUnsaved := goodIn_r _ [11, 6, 12, 5, 13, 14, 15, 16, 17, 18, 19, 20, 21, 22, 23, 24, 25, 26, 27, 28, 29] (by decide +kernel) (by decide +kernel)
set_option maxRecDepth 20000 in
theorem gX1_comeToFull_X1_loseUnsaved : GoodIn wsX1_comeToFull (wsV RX1 109 RX1 yX1_loseUnsaved wsX1_loseUnsaved) := goodIn_app (goodIn_of _ (by decide +kernel)) ggX1_comeToFull_X1_loseUnsaved
theorem dX1_comeToFull_0 : decode cX1_comeToFull 0 = .ok (.aload_n 0, 1) := by decide +kernel
theorem dX1_comeToFull_1 : decode cX1_comeToFull 1 = .ok (.invokevirtual 109, 3) := by decide +kernel
theorem dX1_comeToFull_4 : decode cX1_comeToFull 4 = .ok (.aload_n 0, 1) := by decide +kernel
theorem dX1_comeToFull_5 : decode cX1_comeToFull 5 = .ok (.iconst 2, 1) := by decide +kernel
theorem dX1_comeToFull_6 : decode cX1_comeToFull 6 = .ok (.putfield 15, 3) := by decide +kernel
theorem dX1_comeToFull_9 : decode cX1_comeToFull 9 = .ok (.aload_n 0, 1) := by decide +kernel
theorem dX1_comeToFull_10 : decode cX1_comeToFull 10 = .ok (.getfield 22, 3) := by decide +kernel
theorem dX1_comeToFull_13 : decode cX1_comeToFull 13 = .ok (.aload_n 0, 1) := by decide +kernel
theorem dX1_comeToFull_14 : decode cX1_comeToFull 14 = .ok (.getfield 9, 3) := by decide +kernel
theorem dX1_comeToFull_17 : decode cX1_comeToFull 17 = .ok (.getfield 97, 3) := by decide +kernel
theorem dX1_comeToFull_20 : decode cX1_comeToFull 20 = .ok (.if_icmp .le 17, 3) := by decide +kernel
theorem dX1_comeToFull_23 : decode cX1_comeToFull 23 = .ok (.aload_n 0, 1) := by decide +kernel
theorem dX1_comeToFull_24 : decode cX1_comeToFull 24 = .ok (.aload_n 0, 1) := by decide +kernel
theorem dX1_comeToFull_25 : decode cX1_comeToFull 25 = .ok (.getfield 9, 3) := by decide +kernel
theorem dX1_comeToFull_28 : decode cX1_comeToFull 28 = .ok (.getfield 97, 3) := by decide +kernel
theorem dX1_comeToFull_31 : decode cX1_comeToFull 31 = .ok (.putfield 103, 3) := by decide +kernel
theorem dX1_comeToFull_34 : decode cX1_comeToFull 34 = .ok (.goto 21, 3) := by decide +kernel
theorem dX1_comeToFull_37 : decode cX1_comeToFull 37 = .ok (.aload_n 0, 1) := by decide +kernel
theorem dX1_comeToFull_38 : decode cX1_comeToFull 38 = .ok (.dup, 1) := by decide +kernel
theorem dX1_comeToFull_39 : decode cX1_comeToFull 39 = .ok (.getfield 28, 3) := by decide +kernel
theorem dX1_comeToFull_42 : decode cX1_comeToFull 42 = .ok (.aload_n 0, 1) := by decide +kernel
theorem dX1_comeToFull_43 : decode cX1_comeToFull 43 = .ok (.getfield 22, 3) := by decide +kernel
theorem dX1_comeToFull_46 : decode cX1_comeToFull 46 = .ok (.iadd, 1) := by decide +kernel
theorem dX1_comeToFull_47 : decode cX1_comeToFull 47 = .ok (.putfield 28, 3) := by decide +kernel
theorem dX1_comeToFull_50 : decode cX1_comeToFull 50 = .ok (.aload_n 0, 1) := by decide +kernel
theorem dX1_comeToFull_51 : decode cX1_comeToFull 51 = .ok (.iconst 0, 1) := by decide +kernel
theorem dX1_comeToFull_52 : decode cX1_comeToFull 52 = .ok (.putfield 22, 3) := by decide +kernel
theorem dX1_comeToFull_55 : decode cX1_comeToFull 55 = .ok (.return_, 1) := by decide +kernel
set_option maxRecDepth 20000 in
theorem ggX1_passWaiting_X1_loseUnsaved : GoodIn wsX1_passWaiting wsX1_loseUnsaved := goodIn_r _ [8, 9, 10, 11, 12, 13, 14, 15, 16, 17, 18, 19, 20, 21, 22, 23, 24, 25, 26, 27, 28] (by decide +kernel) (by decide +kernel)
set_option maxRecDepth 20000 in
theorem gX1_passWaiting_X1_loseUnsaved : GoodIn wsX1_passWaiting (wsV RX1 109 RX1 yX1_loseUnsaved wsX1_loseUnsaved) := goodIn_app (goodIn_of _ (by decide +kernel)) ggX1_passWaiting_X1_loseUnsaved
theorem dX1_passWaiting_0 : decode cX1_passWaiting 0 = .ok (.aload_n 0, 1) := by decide +kernel
theorem dX1_passWaiting_1 : decode cX1_passWaiting 1 = .ok (.getfield 15, 3) := by decide +kernel
theorem dX1_passWaiting_4 : decode cX1_passWaiting 4 = .ok (.iconst 1, 1) := by decide +kernel
theorem dX1_passWaiting_5 : decode cX1_passWaiting 5 = .ok (.if_icmp .ne 22, 3) := by decide +kernel
theorem dX1_passWaiting_8 : decode cX1_passWaiting 8 = .ok (.aload_n 0, 1) := by decide +kernel
theorem dX1_passWaiting_9 : decode cX1_passWaiting 9 = .ok (.dup, 1) := by decide +kernel
theorem dX1_passWaiting_10 : decode cX1_passWaiting 10 = .ok (.getfield 53, 3) := by decide +kernel
theorem dX1_passWaiting_13 : decode cX1_passWaiting 13 = .ok (.iconst 1, 1) := by decide +kernel
theorem dX1_passWaiting_14 : decode cX1_passWaiting 14 = .ok (.iadd, 1) := by decide +kernel
theorem dX1_passWaiting_15 : decode cX1_passWaiting 15 = .ok (.putfield 53, 3) := by decide +kernel
theorem dX1_passWaiting_18 : decode cX1_passWaiting 18 = .ok (.aload_n 0, 1) := by decide +kernel
theorem dX1_passWaiting_19 : decode cX1_passWaiting 19 = .ok (.invokevirtual 109, 3) := by decide +kernel
theorem dX1_passWaiting_22 : decode cX1_passWaiting 22 = .ok (.aload_n 0, 1) := by decide +kernel
theorem dX1_passWaiting_23 : decode cX1_passWaiting 23 = .ok (.iconst 0, 1) := by decide +kernel
theorem dX1_passWaiting_24 : decode cX1_passWaiting 24 = .ok (.putfield 15, 3) := by decide +kernel
theorem dX1_passWaiting_27 : decode cX1_passWaiting 27 = .ok (.aload_n 0, 1) := by decide +kernel
theorem dX1_passWaiting_28 : decode cX1_passWaiting 28 = .ok (.dup, 1) := by decide +kernel
theorem dX1_passWaiting_29 : decode cX1_passWaiting 29 = .ok (.getfield 40, 3) := by decide +kernel
theorem dX1_passWaiting_32 : decode cX1_passWaiting 32 = .ok (.iconst 1, 1) := by decide +kernel
theorem dX1_passWaiting_33 : decode cX1_passWaiting 33 = .ok (.iadd, 1) := by decide +kernel
theorem dX1_passWaiting_34 : decode cX1_passWaiting 34 = .ok (.putfield 40, 3) := by decide +kernel
theorem dX1_passWaiting_37 : decode cX1_passWaiting 37 = .ok (.return_, 1) := by decide +kernel
set_option maxRecDepth 20000 in
theorem ggX1_passAtMarket_X1_bringOn : GoodIn wsX1_passAtMarket wsX1_bringOn := goodIn_r _ [12, 5, 13, 32, 33, 34, 35, 36, 37, 38, 39, 40, 41, 42, 43, 44, 45, 46, 47] (by decide +kernel) (by decide +kernel)
set_option maxRecDepth 20000 in
theorem gX1_passAtMarket_X1_bringOn : GoodIn wsX1_passAtMarket (wsV RX1 106 RX1 yX1_bringOn wsX1_bringOn) := goodIn_app (goodIn_of _ (by decide +kernel)) ggX1_passAtMarket_X1_bringOn
set_option maxRecDepth 20000 in
theorem ggX1_passAtMarket_X1_saveOn : GoodIn wsX1_passAtMarket wsX1_saveOn := goodIn_r _ [17, 7, 18, 19, 20, 21, 11, 22, 2, 23, 32, 33, 34, 35, 36, 37, 38, 39, 40, 41, 42, 43, 44, 45, 46, 47] (by decide +kernel) (by decide +kernel)
set_option maxRecDepth 20000 in
theorem gX1_passAtMarket_X1_saveOn : GoodIn wsX1_passAtMarket (wsV RX1 115 RX1 yX1_saveOn wsX1_saveOn) := goodIn_app (goodIn_of _ (by decide +kernel)) ggX1_passAtMarket_X1_saveOn
set_option maxRecDepth 20000 in
theorem ggX1_passAtMarket_X1_workOn : GoodIn wsX1_passAtMarket wsX1_workOn := goodIn_r _ [27, 28, 23, 3, 29, 2, 30, 31, 7, 19, 20, 21, 11, 22, 32, 33, 34, 35, 36, 37, 38, 39, 40, 41, 42, 43, 44, 45, 46, 47, 48, 49, 50, 51, 52, 53, 54, 55] (by decide +kernel) (by decide +kernel)
set_option maxRecDepth 20000 in
theorem gX1_passAtMarket_X1_workOn : GoodIn wsX1_passAtMarket (wsV RX1 118 RX1 yX1_workOn wsX1_workOn) := goodIn_app (goodIn_of _ (by decide +kernel)) ggX1_passAtMarket_X1_workOn
theorem dX1_passAtMarket_0 : decode cX1_passAtMarket 0 = .ok (.aload_n 0, 1) := by decide +kernel
theorem dX1_passAtMarket_1 : decode cX1_passAtMarket 1 = .ok (.getfield 15, 3) := by decide +kernel
theorem dX1_passAtMarket_4 : decode cX1_passAtMarket 4 = .ok (.iconst 1, 1) := by decide +kernel
theorem dX1_passAtMarket_5 : decode cX1_passAtMarket 5 = .ok (.if_icmp .eq 30, 3) := by decide +kernel
theorem dX1_passAtMarket_8 : decode cX1_passAtMarket 8 = .ok (.aload_n 0, 1) := by decide +kernel
theorem dX1_passAtMarket_9 : decode cX1_passAtMarket 9 = .ok (.iconst 1, 1) := by decide +kernel
theorem dX1_passAtMarket_10 : decode cX1_passAtMarket 10 = .ok (.putfield 15, 3) := by decide +kernel
theorem dX1_passAtMarket_13 : decode cX1_passAtMarket 13 = .ok (.aload_n 0, 1) := by decide +kernel
theorem dX1_passAtMarket_14 : decode cX1_passAtMarket 14 = .ok (.aload_n 0, 1) := by decide +kernel
theorem dX1_passAtMarket_15 : decode cX1_passAtMarket 15 = .ok (.getfield 22, 3) := by decide +kernel
theorem dX1_passAtMarket_18 : decode cX1_passAtMarket 18 = .ok (.ifCond .le 13, 3) := by decide +kernel
theorem dX1_passAtMarket_21 : decode cX1_passAtMarket 21 = .ok (.aload_n 0, 1) := by decide +kernel
theorem dX1_passAtMarket_22 : decode cX1_passAtMarket 22 = .ok (.getfield 9, 3) := by decide +kernel
theorem dX1_passAtMarket_25 : decode cX1_passAtMarket 25 = .ok (.getfield 97, 3) := by decide +kernel
theorem dX1_passAtMarket_28 : decode cX1_passAtMarket 28 = .ok (.goto 4, 3) := by decide +kernel
theorem dX1_passAtMarket_31 : decode cX1_passAtMarket 31 = .ok (.iconst 0, 1) := by decide +kernel
theorem dX1_passAtMarket_32 : decode cX1_passAtMarket 32 = .ok (.putfield 103, 3) := by decide +kernel
theorem dX1_passAtMarket_35 : decode cX1_passAtMarket 35 = .ok (.aload_n 0, 1) := by decide +kernel
theorem dX1_passAtMarket_36 : decode cX1_passAtMarket 36 = .ok (.dup, 1) := by decide +kernel
theorem dX1_passAtMarket_37 : decode cX1_passAtMarket 37 = .ok (.getfield 43, 3) := by decide +kernel
theorem dX1_passAtMarket_40 : decode cX1_passAtMarket 40 = .ok (.iload_n 1, 1) := by decide +kernel
theorem dX1_passAtMarket_41 : decode cX1_passAtMarket 41 = .ok (.iadd, 1) := by decide +kernel
theorem dX1_passAtMarket_42 : decode cX1_passAtMarket 42 = .ok (.putfield 43, 3) := by decide +kernel
theorem dX1_passAtMarket_45 : decode cX1_passAtMarket 45 = .ok (.aload_n 0, 1) := by decide +kernel
theorem dX1_passAtMarket_46 : decode cX1_passAtMarket 46 = .ok (.getfield 103, 3) := by decide +kernel
theorem dX1_passAtMarket_49 : decode cX1_passAtMarket 49 = .ok (.ifCond .le 10, 3) := by decide +kernel
theorem dX1_passAtMarket_52 : decode cX1_passAtMarket 52 = .ok (.aload_n 0, 1) := by decide +kernel
theorem dX1_passAtMarket_53 : decode cX1_passAtMarket 53 = .ok (.invokevirtual 106, 3) := by decide +kernel
theorem dX1_passAtMarket_56 : decode cX1_passAtMarket 56 = .ok (.goto 21, 3) := by decide +kernel
theorem dX1_passAtMarket_59 : decode cX1_passAtMarket 59 = .ok (.aload_n 0, 1) := by decide +kernel
theorem dX1_passAtMarket_60 : decode cX1_passAtMarket 60 = .ok (.getfield 112, 3) := by decide +kernel
theorem dX1_passAtMarket_63 : decode cX1_passAtMarket 63 = .ok (.ifCond .le 10, 3) := by decide +kernel
theorem dX1_passAtMarket_66 : decode cX1_passAtMarket 66 = .ok (.aload_n 0, 1) := by decide +kernel
theorem dX1_passAtMarket_67 : decode cX1_passAtMarket 67 = .ok (.invokevirtual 115, 3) := by decide +kernel
theorem dX1_passAtMarket_70 : decode cX1_passAtMarket 70 = .ok (.goto 7, 3) := by decide +kernel
theorem dX1_passAtMarket_73 : decode cX1_passAtMarket 73 = .ok (.aload_n 0, 1) := by decide +kernel
theorem dX1_passAtMarket_74 : decode cX1_passAtMarket 74 = .ok (.invokevirtual 118, 3) := by decide +kernel
theorem dX1_passAtMarket_77 : decode cX1_passAtMarket 77 = .ok (.return_, 1) := by decide +kernel
theorem dX1_bringOn_0 : decode cX1_bringOn 0 = .ok (.aload_n 0, 1) := by decide +kernel
theorem dX1_bringOn_1 : decode cX1_bringOn 1 = .ok (.dup, 1) := by decide +kernel
theorem dX1_bringOn_2 : decode cX1_bringOn 2 = .ok (.getfield 103, 3) := by decide +kernel
theorem dX1_bringOn_5 : decode cX1_bringOn 5 = .ok (.iconst 1, 1) := by decide +kernel
theorem dX1_bringOn_6 : decode cX1_bringOn 6 = .ok (.isub, 1) := by decide +kernel
theorem dX1_bringOn_7 : decode cX1_bringOn 7 = .ok (.putfield 103, 3) := by decide +kernel
theorem dX1_bringOn_10 : decode cX1_bringOn 10 = .ok (.aload_n 0, 1) := by decide +kernel
theorem dX1_bringOn_11 : decode cX1_bringOn 11 = .ok (.dup, 1) := by decide +kernel
theorem dX1_bringOn_12 : decode cX1_bringOn 12 = .ok (.getfield 34, 3) := by decide +kernel
theorem dX1_bringOn_15 : decode cX1_bringOn 15 = .ok (.iconst 1, 1) := by decide +kernel
theorem dX1_bringOn_16 : decode cX1_bringOn 16 = .ok (.iadd, 1) := by decide +kernel
theorem dX1_bringOn_17 : decode cX1_bringOn 17 = .ok (.putfield 34, 3) := by decide +kernel
theorem dX1_bringOn_20 : decode cX1_bringOn 20 = .ok (.return_, 1) := by decide +kernel
set_option maxRecDepth 20000 in
theorem ggX1_saveOn_X1_keepAll : GoodIn wsX1_saveOn wsX1_keepAll := goodIn_r _ [7, 8, 9, 10, 11, 12, 13, 14, 15, 16, 17, 18, 19, 20, 21, 22, 23, 24, 25] (by decide +kernel) (by decide +kernel)
set_option maxRecDepth 20000 in
theorem gX1_saveOn_X1_keepAll : GoodIn wsX1_saveOn (wsV RX1 121 RX1 yX1_keepAll wsX1_keepAll) := goodIn_app (goodIn_of _ (by decide +kernel)) ggX1_saveOn_X1_keepAll
theorem dX1_saveOn_0 : decode cX1_saveOn 0 = .ok (.aload_n 0, 1) := by decide +kernel
theorem dX1_saveOn_1 : decode cX1_saveOn 1 = .ok (.dup, 1) := by decide +kernel
theorem dX1_saveOn_2 : decode cX1_saveOn 2 = .ok (.getfield 112, 3) := by decide +kernel
theorem dX1_saveOn_5 : decode cX1_saveOn 5 = .ok (.iconst 1, 1) := by decide +kernel
theorem dX1_saveOn_6 : decode cX1_saveOn 6 = .ok (.isub, 1) := by decide +kernel
theorem dX1_saveOn_7 : decode cX1_saveOn 7 = .ok (.putfield 112, 3) := by decide +kernel
theorem dX1_saveOn_10 : decode cX1_saveOn 10 = .ok (.aload_n 0, 1) := by decide +kernel
theorem dX1_saveOn_11 : decode cX1_saveOn 11 = .ok (.dup, 1) := by decide +kernel
theorem dX1_saveOn_12 : decode cX1_saveOn 12 = .ok (.getfield 37, 3) := by decide +kernel
theorem dX1_saveOn_15 : decode cX1_saveOn 15 = .ok (.iconst 1, 1) := by decide +kernel
theorem dX1_saveOn_16 : decode cX1_saveOn 16 = .ok (.iadd, 1) := by decide +kernel
theorem dX1_saveOn_17 : decode cX1_saveOn 17 = .ok (.putfield 37, 3) := by decide +kernel
theorem dX1_saveOn_20 : decode cX1_saveOn 20 = .ok (.aload_n 0, 1) := by decide +kernel
theorem dX1_saveOn_21 : decode cX1_saveOn 21 = .ok (.getfield 112, 3) := by decide +kernel
theorem dX1_saveOn_24 : decode cX1_saveOn 24 = .ok (.ifCond .ne 7, 3) := by decide +kernel
theorem dX1_saveOn_27 : decode cX1_saveOn 27 = .ok (.aload_n 0, 1) := by decide +kernel
theorem dX1_saveOn_28 : decode cX1_saveOn 28 = .ok (.invokevirtual 121, 3) := by decide +kernel
theorem dX1_saveOn_31 : decode cX1_saveOn 31 = .ok (.return_, 1) := by decide +kernel
set_option maxRecDepth 20000 in
theorem ggX1_workOn_X1_keepAll : GoodIn wsX1_workOn wsX1_keepAll := goodIn_r _ [13, 5, 2, 14, 15, 16, 17, 18, 19, 20, 21, 22, 23, 24, 25, 26, 27, 28, 29] (by decide +kernel) (by decide +kernel)
set_option maxRecDepth 20000 in
theorem gX1_workOn_X1_keepAll : GoodIn wsX1_workOn (wsV RX1 121 RX1 yX1_keepAll wsX1_keepAll) := goodIn_app (goodIn_of _ (by decide +kernel)) ggX1_workOn_X1_keepAll
theorem dX1_workOn_0 : decode cX1_workOn 0 = .ok (.aload_n 0, 1) := by decide +kernel
theorem dX1_workOn_1 : decode cX1_workOn 1 = .ok (.dup, 1) := by decide +kernel
theorem dX1_workOn_2 : decode cX1_workOn 2 = .ok (.getfield 31, 3) := by decide +kernel
theorem dX1_workOn_5 : decode cX1_workOn 5 = .ok (.iconst 1, 1) := by decide +kernel
theorem dX1_workOn_6 : decode cX1_workOn 6 = .ok (.iadd, 1) := by decide +kernel
theorem dX1_workOn_7 : decode cX1_workOn 7 = .ok (.putfield 31, 3) := by decide +kernel
theorem dX1_workOn_10 : decode cX1_workOn 10 = .ok (.aload_n 0, 1) := by decide +kernel
theorem dX1_workOn_11 : decode cX1_workOn 11 = .ok (.dup, 1) := by decide +kernel
theorem dX1_workOn_12 : decode cX1_workOn 12 = .ok (.getfield 25, 3) := by decide +kernel
theorem dX1_workOn_15 : decode cX1_workOn 15 = .ok (.iconst 1, 1) := by decide +kernel
theorem dX1_workOn_16 : decode cX1_workOn 16 = .ok (.iadd, 1) := by decide +kernel
theorem dX1_workOn_17 : decode cX1_workOn 17 = .ok (.putfield 25, 3) := by decide +kernel
theorem dX1_workOn_20 : decode cX1_workOn 20 = .ok (.aload_n 0, 1) := by decide +kernel
theorem dX1_workOn_21 : decode cX1_workOn 21 = .ok (.getfield 25, 3) := by decide +kernel
theorem dX1_workOn_24 : decode cX1_workOn 24 = .ok (.aload_n 0, 1) := by decide +kernel
theorem dX1_workOn_25 : decode cX1_workOn 25 = .ok (.getfield 9, 3) := by decide +kernel
theorem dX1_workOn_28 : decode cX1_workOn 28 = .ok (.getfield 124, 3) := by decide +kernel
theorem dX1_workOn_31 : decode cX1_workOn 31 = .ok (.if_icmp .ge 23, 3) := by decide +kernel
theorem dX1_workOn_34 : decode cX1_workOn 34 = .ok (.aload_n 0, 1) := by decide +kernel
theorem dX1_workOn_35 : decode cX1_workOn 35 = .ok (.getfield 22, 3) := by decide +kernel
theorem dX1_workOn_38 : decode cX1_workOn 38 = .ok (.aload_n 0, 1) := by decide +kernel
theorem dX1_workOn_39 : decode cX1_workOn 39 = .ok (.getfield 25, 3) := by decide +kernel
theorem dX1_workOn_42 : decode cX1_workOn 42 = .ok (.iadd, 1) := by decide +kernel
theorem dX1_workOn_43 : decode cX1_workOn 43 = .ok (.aload_n 0, 1) := by decide +kernel
theorem dX1_workOn_44 : decode cX1_workOn 44 = .ok (.getfield 9, 3) := by decide +kernel
theorem dX1_workOn_47 : decode cX1_workOn 47 = .ok (.getfield 94, 3) := by decide +kernel
theorem dX1_workOn_50 : decode cX1_workOn 50 = .ok (.if_icmp .ge 4, 3) := by decide +kernel
theorem dX1_workOn_53 : decode cX1_workOn 53 = .ok (.return_, 1) := by decide +kernel
theorem dX1_workOn_54 : decode cX1_workOn 54 = .ok (.aload_n 0, 1) := by decide +kernel
theorem dX1_workOn_55 : decode cX1_workOn 55 = .ok (.aload_n 0, 1) := by decide +kernel
theorem dX1_workOn_56 : decode cX1_workOn 56 = .ok (.getfield 9, 3) := by decide +kernel
theorem dX1_workOn_59 : decode cX1_workOn 59 = .ok (.getfield 127, 3) := by decide +kernel
theorem dX1_workOn_62 : decode cX1_workOn 62 = .ok (.putfield 112, 3) := by decide +kernel
theorem dX1_workOn_65 : decode cX1_workOn 65 = .ok (.aload_n 0, 1) := by decide +kernel
theorem dX1_workOn_66 : decode cX1_workOn 66 = .ok (.getfield 112, 3) := by decide +kernel
theorem dX1_workOn_69 : decode cX1_workOn 69 = .ok (.ifCond .ne 7, 3) := by decide +kernel
theorem dX1_workOn_72 : decode cX1_workOn 72 = .ok (.aload_n 0, 1) := by decide +kernel
theorem dX1_workOn_73 : decode cX1_workOn 73 = .ok (.invokevirtual 121, 3) := by decide +kernel
theorem dX1_workOn_76 : decode cX1_workOn 76 = .ok (.return_, 1) := by decide +kernel
theorem dX1_keepAll_0 : decode cX1_keepAll 0 = .ok (.aload_n 0, 1) := by decide +kernel
theorem dX1_keepAll_1 : decode cX1_keepAll 1 = .ok (.dup, 1) := by decide +kernel
theorem dX1_keepAll_2 : decode cX1_keepAll 2 = .ok (.getfield 22, 3) := by decide +kernel
theorem dX1_keepAll_5 : decode cX1_keepAll 5 = .ok (.aload_n 0, 1) := by decide +kernel
theorem dX1_keepAll_6 : decode cX1_keepAll 6 = .ok (.getfield 25, 3) := by decide +kernel
theorem dX1_keepAll_9 : decode cX1_keepAll 9 = .ok (.iadd, 1) := by decide +kernel
theorem dX1_keepAll_10 : decode cX1_keepAll 10 = .ok (.putfield 22, 3) := by decide +kernel
theorem dX1_keepAll_13 : decode cX1_keepAll 13 = .ok (.aload_n 0, 1) := by decide +kernel
theorem dX1_keepAll_14 : decode cX1_keepAll 14 = .ok (.iconst 0, 1) := by decide +kernel
theorem dX1_keepAll_15 : decode cX1_keepAll 15 = .ok (.putfield 25, 3) := by decide +kernel
theorem dX1_keepAll_18 : decode cX1_keepAll 18 = .ok (.return_, 1) := by decide +kernel
theorem dX1_loseUnsaved_0 : decode cX1_loseUnsaved 0 = .ok (.aload_n 0, 1) := by decide +kernel
theorem dX1_loseUnsaved_1 : decode cX1_loseUnsaved 1 = .ok (.dup, 1) := by decide +kernel
theorem dX1_loseUnsaved_2 : decode cX1_loseUnsaved 2 = .ok (.getfield 28, 3) := by decide +kernel
theorem dX1_loseUnsaved_5 : decode cX1_loseUnsaved 5 = .ok (.aload_n 0, 1) := by decide +kernel
theorem dX1_loseUnsaved_6 : decode cX1_loseUnsaved 6 = .ok (.getfield 25, 3) := by decide +kernel
theorem dX1_loseUnsaved_9 : decode cX1_loseUnsaved 9 = .ok (.iadd, 1) := by decide +kernel
theorem dX1_loseUnsaved_10 : decode cX1_loseUnsaved 10 = .ok (.putfield 28, 3) := by decide +kernel
theorem dX1_loseUnsaved_13 : decode cX1_loseUnsaved 13 = .ok (.aload_n 0, 1) := by decide +kernel
theorem dX1_loseUnsaved_14 : decode cX1_loseUnsaved 14 = .ok (.iconst 0, 1) := by decide +kernel
theorem dX1_loseUnsaved_15 : decode cX1_loseUnsaved 15 = .ok (.putfield 25, 3) := by decide +kernel
theorem dX1_loseUnsaved_18 : decode cX1_loseUnsaved 18 = .ok (.aload_n 0, 1) := by decide +kernel
theorem dX1_loseUnsaved_19 : decode cX1_loseUnsaved 19 = .ok (.iconst 0, 1) := by decide +kernel
theorem dX1_loseUnsaved_20 : decode cX1_loseUnsaved 20 = .ok (.putfield 103, 3) := by decide +kernel
theorem dX1_loseUnsaved_23 : decode cX1_loseUnsaved 23 = .ok (.aload_n 0, 1) := by decide +kernel
theorem dX1_loseUnsaved_24 : decode cX1_loseUnsaved 24 = .ok (.iconst 0, 1) := by decide +kernel
theorem dX1_loseUnsaved_25 : decode cX1_loseUnsaved 25 = .ok (.putfield 112, 3) := by decide +kernel
theorem dX1_loseUnsaved_28 : decode cX1_loseUnsaved 28 = .ok (.return_, 1) := by decide +kernel
set_option maxRecDepth 20000 in
theorem ggX2_canBe_X6_within : GoodIn wsX2_canBe wsX6_within := goodIn_r _ [3] (by decide +kernel) (by decide +kernel)
set_option maxRecDepth 20000 in
theorem gX2_canBe_X6_within_n7 : GoodIn wsX2_canBe (wsX6_within) := ggX2_canBe_X6_within
theorem dX2_canBe_0 : decode cX2_canBe 0 = .ok (.iload_n 0, 1) := by decide +kernel
theorem dX2_canBe_1 : decode cX2_canBe 1 = .ok (.iconst 1, 1) := by decide +kernel
theorem dX2_canBe_2 : decode cX2_canBe 2 = .ok (.bipush 10, 2) := by decide +kernel
theorem dX2_canBe_4 : decode cX2_canBe 4 = .ok (.invokestatic 7, 3) := by decide +kernel
theorem dX2_canBe_7 : decode cX2_canBe 7 = .ok (.ifCond .eq 26, 3) := by decide +kernel
theorem dX2_canBe_10 : decode cX2_canBe 10 = .ok (.iload_n 1, 1) := by decide +kernel
theorem dX2_canBe_11 : decode cX2_canBe 11 = .ok (.iconst 0, 1) := by decide +kernel
theorem dX2_canBe_12 : decode cX2_canBe 12 = .ok (.iconst 2, 1) := by decide +kernel
theorem dX2_canBe_13 : decode cX2_canBe 13 = .ok (.invokestatic 7, 3) := by decide +kernel
theorem dX2_canBe_16 : decode cX2_canBe 16 = .ok (.ifCond .eq 17, 3) := by decide +kernel
theorem dX2_canBe_19 : decode cX2_canBe 19 = .ok (.iload_n 2, 1) := by decide +kernel
theorem dX2_canBe_20 : decode cX2_canBe 20 = .ok (.iconst 2, 1) := by decide +kernel
theorem dX2_canBe_21 : decode cX2_canBe 21 = .ok (.bipush 10, 2) := by decide +kernel
theorem dX2_canBe_23 : decode cX2_canBe 23 = .ok (.invokestatic 7, 3) := by decide +kernel
theorem dX2_canBe_26 : decode cX2_canBe 26 = .ok (.ifCond .eq 7, 3) := by decide +kernel
theorem dX2_canBe_29 : decode cX2_canBe 29 = .ok (.iconst 1, 1) := by decide +kernel
theorem dX2_canBe_30 : decode cX2_canBe 30 = .ok (.goto 4, 3) := by decide +kernel
theorem dX2_canBe_33 : decode cX2_canBe 33 = .ok (.iconst 0, 1) := by decide +kernel
theorem dX2_canBe_34 : decode cX2_canBe 34 = .ok (.ireturn, 1) := by decide +kernel
set_option maxRecDepth 20000 in
theorem ggX2_bestSpan_X2_above : GoodIn wsX2_bestSpan wsX2_above := goodIn_r _ [4, 5, 6, 7, 8, 9, 10, 3, 11] (by decide +kernel) (by decide +kernel)
set_option maxRecDepth 20000 in
theorem gX2_bestSpan_X2_above : GoodIn wsX2_bestSpan (va_wsS RX2 13 yX2_above wsX2_above) := goodIn_app (goodIn_of _ (by decide +kernel)) ggX2_bestSpan_X2_above
theorem dX2_bestSpan_0 : decode cX2_bestSpan 0 = .ok (.iconst 1, 1) := by decide +kernel
theorem dX2_bestSpan_1 : decode cX2_bestSpan 1 = .ok (.istore_n 3, 1) := by decide +kernel
theorem dX2_bestSpan_2 : decode cX2_bestSpan 2 = .ok (.iload_n 0, 1) := by decide +kernel
theorem dX2_bestSpan_3 : decode cX2_bestSpan 3 = .ok (.iload_n 1, 1) := by decide +kernel
theorem dX2_bestSpan_4 : decode cX2_bestSpan 4 = .ok (.iload_n 2, 1) := by decide +kernel
theorem dX2_bestSpan_5 : decode cX2_bestSpan 5 = .ok (.iconst 1, 1) := by decide +kernel
theorem dX2_bestSpan_6 : decode cX2_bestSpan 6 = .ok (.iload_n 0, 1) := by decide +kernel
theorem dX2_bestSpan_7 : decode cX2_bestSpan 7 = .ok (.iload_n 1, 1) := by decide +kernel
theorem dX2_bestSpan_8 : decode cX2_bestSpan 8 = .ok (.iadd, 1) := by decide +kernel
theorem dX2_bestSpan_9 : decode cX2_bestSpan 9 = .ok (.invokestatic 13, 3) := by decide +kernel
theorem dX2_bestSpan_12 : decode cX2_bestSpan 12 = .ok (.lstore 4, 2) := by decide +kernel
theorem dX2_bestSpan_14 : decode cX2_bestSpan 14 = .ok (.iconst 2, 1) := by decide +kernel
theorem dX2_bestSpan_15 : decode cX2_bestSpan 15 = .ok (.istore 6, 2) := by decide +kernel
theorem dX2_bestSpan_17 : decode cX2_bestSpan 17 = .ok (.iload 6, 2) := by decide +kernel
theorem dX2_bestSpan_19 : decode cX2_bestSpan 19 = .ok (.iload_n 0, 1) := by decide +kernel
theorem dX2_bestSpan_20 : decode cX2_bestSpan 20 = .ok (.if_icmp .gt 37, 3) := by decide +kernel
theorem dX2_bestSpan_23 : decode cX2_bestSpan 23 = .ok (.iload_n 0, 1) := by decide +kernel
theorem dX2_bestSpan_24 : decode cX2_bestSpan 24 = .ok (.iload_n 1, 1) := by decide +kernel
theorem dX2_bestSpan_25 : decode cX2_bestSpan 25 = .ok (.iload_n 2, 1) := by decide +kernel
theorem dX2_bestSpan_26 : decode cX2_bestSpan 26 = .ok (.iload 6, 2) := by decide +kernel
theorem dX2_bestSpan_28 : decode cX2_bestSpan 28 = .ok (.iload_n 0, 1) := by decide +kernel
theorem dX2_bestSpan_29 : decode cX2_bestSpan 29 = .ok (.iload_n 1, 1) := by decide +kernel
theorem dX2_bestSpan_30 : decode cX2_bestSpan 30 = .ok (.iadd, 1) := by decide +kernel
theorem dX2_bestSpan_31 : decode cX2_bestSpan 31 = .ok (.invokestatic 13, 3) := by decide +kernel
theorem dX2_bestSpan_34 : decode cX2_bestSpan 34 = .ok (.lstore 7, 2) := by decide +kernel
theorem dX2_bestSpan_36 : decode cX2_bestSpan 36 = .ok (.lload 7, 2) := by decide +kernel
theorem dX2_bestSpan_38 : decode cX2_bestSpan 38 = .ok (.lload 4, 2) := by decide +kernel
theorem dX2_bestSpan_40 : decode cX2_bestSpan 40 = .ok (.lcmp, 1) := by decide +kernel
theorem dX2_bestSpan_41 : decode cX2_bestSpan 41 = .ok (.ifCond .ge 10, 3) := by decide +kernel
theorem dX2_bestSpan_44 : decode cX2_bestSpan 44 = .ok (.lload 7, 2) := by decide +kernel
theorem dX2_bestSpan_46 : decode cX2_bestSpan 46 = .ok (.lstore 4, 2) := by decide +kernel
theorem dX2_bestSpan_48 : decode cX2_bestSpan 48 = .ok (.iload 6, 2) := by decide +kernel
theorem dX2_bestSpan_50 : decode cX2_bestSpan 50 = .ok (.istore_n 3, 1) := by decide +kernel
theorem dX2_bestSpan_51 : decode cX2_bestSpan 51 = .ok (.iinc 6 1, 3) := by decide +kernel
theorem dX2_bestSpan_54 : decode cX2_bestSpan 54 = .ok (.goto (-37), 3) := by decide +kernel
theorem dX2_bestSpan_57 : decode cX2_bestSpan 57 = .ok (.iload_n 3, 1) := by decide +kernel
theorem dX2_bestSpan_58 : decode cX2_bestSpan 58 = .ok (.ireturn, 1) := by decide +kernel
set_option maxRecDepth 20000 in
theorem ggX2_above_X2_power : GoodIn wsX2_above wsX2_power := goodIn_r _ [8] (by decide +kernel) (by decide +kernel)
set_option maxRecDepth 20000 in
theorem gX2_above_X2_power : GoodIn wsX2_above (va_wsS RX2 25 yX2_power wsX2_power) := goodIn_app (goodIn_of _ (by decide +kernel)) ggX2_above_X2_power
theorem dX2_above_0 : decode cX2_above 0 = .ok (.lconst 0, 1) := by decide +kernel
theorem dX2_above_1 : decode cX2_above 1 = .ok (.lstore 5, 2) := by decide +kernel
theorem dX2_above_3 : decode cX2_above 3 = .ok (.iload_n 0, 1) := by decide +kernel
theorem dX2_above_4 : decode cX2_above 4 = .ok (.istore 7, 2) := by decide +kernel
theorem dX2_above_6 : decode cX2_above 6 = .ok (.iconst 0, 1) := by decide +kernel
theorem dX2_above_7 : decode cX2_above 7 = .ok (.istore 8, 2) := by decide +kernel
theorem dX2_above_9 : decode cX2_above 9 = .ok (.iload 8, 2) := by decide +kernel
theorem dX2_above_11 : decode cX2_above 11 = .ok (.iload_n 0, 1) := by decide +kernel
theorem dX2_above_12 : decode cX2_above 12 = .ok (.if_icmp .ge 74, 3) := by decide +kernel
theorem dX2_above_15 : decode cX2_above 15 = .ok (.iload 7, 2) := by decide +kernel
theorem dX2_above_17 : decode cX2_above 17 = .ok (.ifCond .le 69, 3) := by decide +kernel
theorem dX2_above_20 : decode cX2_above 20 = .ok (.iload_n 3, 1) := by decide +kernel
theorem dX2_above_21 : decode cX2_above 21 = .ok (.iload 7, 2) := by decide +kernel
theorem dX2_above_23 : decode cX2_above 23 = .ok (.invokestatic 19, 3) := by decide +kernel
theorem dX2_above_26 : decode cX2_above 26 = .ok (.istore 9, 2) := by decide +kernel
theorem dX2_above_28 : decode cX2_above 28 = .ok (.iload 9, 2) := by decide +kernel
theorem dX2_above_30 : decode cX2_above 30 = .ok (.iload_n 1, 1) := by decide +kernel
theorem dX2_above_31 : decode cX2_above 31 = .ok (.iadd, 1) := by decide +kernel
theorem dX2_above_32 : decode cX2_above 32 = .ok (.istore 10, 2) := by decide +kernel
theorem dX2_above_34 : decode cX2_above 34 = .ok (.iload_n 2, 1) := by decide +kernel
theorem dX2_above_35 : decode cX2_above 35 = .ok (.iconst 1, 1) := by decide +kernel
theorem dX2_above_36 : decode cX2_above 36 = .ok (.isub, 1) := by decide +kernel
theorem dX2_above_37 : decode cX2_above 37 = .ok (.iload 10, 2) := by decide +kernel
theorem dX2_above_39 : decode cX2_above 39 = .ok (.invokestatic 25, 3) := by decide +kernel
theorem dX2_above_42 : decode cX2_above 42 = .ok (.lstore 11, 2) := by decide +kernel
theorem dX2_above_44 : decode cX2_above 44 = .ok (.lload 5, 2) := by decide +kernel
theorem dX2_above_46 : decode cX2_above 46 = .ok (.iload_n 2, 1) := by decide +kernel
theorem dX2_above_47 : decode cX2_above 47 = .ok (.i2l, 1) := by decide +kernel
theorem dX2_above_48 : decode cX2_above 48 = .ok (.iload_n 2, 1) := by decide +kernel
theorem dX2_above_49 : decode cX2_above 49 = .ok (.iload 10, 2) := by decide +kernel
theorem dX2_above_51 : decode cX2_above 51 = .ok (.invokestatic 25, 3) := by decide +kernel
theorem dX2_above_54 : decode cX2_above 54 = .ok (.lload 11, 2) := by decide +kernel
theorem dX2_above_56 : decode cX2_above 56 = .ok (.lsub, 1) := by decide +kernel
theorem dX2_above_57 : decode cX2_above 57 = .ok (.lmul, 1) := by decide +kernel
theorem dX2_above_58 : decode cX2_above 58 = .ok (.iload_n 2, 1) := by decide +kernel
theorem dX2_above_59 : decode cX2_above 59 = .ok (.iconst 1, 1) := by decide +kernel
theorem dX2_above_60 : decode cX2_above 60 = .ok (.isub, 1) := by decide +kernel
theorem dX2_above_61 : decode cX2_above 61 = .ok (.iload 4, 2) := by decide +kernel
theorem dX2_above_63 : decode cX2_above 63 = .ok (.iload 10, 2) := by decide +kernel
theorem dX2_above_65 : decode cX2_above 65 = .ok (.isub, 1) := by decide +kernel
theorem dX2_above_66 : decode cX2_above 66 = .ok (.invokestatic 25, 3) := by decide +kernel
theorem dX2_above_69 : decode cX2_above 69 = .ok (.lmul, 1) := by decide +kernel
theorem dX2_above_70 : decode cX2_above 70 = .ok (.ladd, 1) := by decide +kernel
theorem dX2_above_71 : decode cX2_above 71 = .ok (.lstore 5, 2) := by decide +kernel
theorem dX2_above_73 : decode cX2_above 73 = .ok (.iload 7, 2) := by decide +kernel
theorem dX2_above_75 : decode cX2_above 75 = .ok (.iload 9, 2) := by decide +kernel
theorem dX2_above_77 : decode cX2_above 77 = .ok (.isub, 1) := by decide +kernel
theorem dX2_above_78 : decode cX2_above 78 = .ok (.istore 7, 2) := by decide +kernel
theorem dX2_above_80 : decode cX2_above 80 = .ok (.iinc 8 1, 3) := by decide +kernel
theorem dX2_above_83 : decode cX2_above 83 = .ok (.goto (-74), 3) := by decide +kernel
theorem dX2_above_86 : decode cX2_above 86 = .ok (.lload 5, 2) := by decide +kernel
theorem dX2_above_88 : decode cX2_above 88 = .ok (.lreturn, 1) := by decide +kernel
theorem dX2_power_0 : decode cX2_power 0 = .ok (.lconst 1, 1) := by decide +kernel
theorem dX2_power_1 : decode cX2_power 1 = .ok (.lstore_n 2, 1) := by decide +kernel
theorem dX2_power_2 : decode cX2_power 2 = .ok (.iconst 0, 1) := by decide +kernel
theorem dX2_power_3 : decode cX2_power 3 = .ok (.istore 4, 2) := by decide +kernel
theorem dX2_power_5 : decode cX2_power 5 = .ok (.iload 4, 2) := by decide +kernel
theorem dX2_power_7 : decode cX2_power 7 = .ok (.iload_n 1, 1) := by decide +kernel
theorem dX2_power_8 : decode cX2_power 8 = .ok (.if_icmp .ge 14, 3) := by decide +kernel
theorem dX2_power_11 : decode cX2_power 11 = .ok (.lload_n 2, 1) := by decide +kernel
theorem dX2_power_12 : decode cX2_power 12 = .ok (.iload_n 0, 1) := by decide +kernel
theorem dX2_power_13 : decode cX2_power 13 = .ok (.i2l, 1) := by decide +kernel
theorem dX2_power_14 : decode cX2_power 14 = .ok (.lmul, 1) := by decide +kernel
theorem dX2_power_15 : decode cX2_power 15 = .ok (.lstore_n 2, 1) := by decide +kernel
theorem dX2_power_16 : decode cX2_power 16 = .ok (.iinc 4 1, 3) := by decide +kernel
theorem dX2_power_19 : decode cX2_power 19 = .ok (.goto (-14), 3) := by decide +kernel
theorem dX2_power_22 : decode cX2_power 22 = .ok (.lload_n 2, 1) := by decide +kernel
theorem dX2_power_23 : decode cX2_power 23 = .ok (.lreturn, 1) := by decide +kernel
theorem dX2_commonDivisor_0 : decode cX2_commonDivisor 0 = .ok (.lload_n 0, 1) := by decide +kernel
theorem dX2_commonDivisor_1 : decode cX2_commonDivisor 1 = .ok (.lstore 4, 2) := by decide +kernel
theorem dX2_commonDivisor_3 : decode cX2_commonDivisor 3 = .ok (.lload_n 2, 1) := by decide +kernel
theorem dX2_commonDivisor_4 : decode cX2_commonDivisor 4 = .ok (.lstore 6, 2) := by decide +kernel
theorem dX2_commonDivisor_6 : decode cX2_commonDivisor 6 = .ok (.iconst 0, 1) := by decide +kernel
theorem dX2_commonDivisor_7 : decode cX2_commonDivisor 7 = .ok (.istore 8, 2) := by decide +kernel
theorem dX2_commonDivisor_9 : decode cX2_commonDivisor 9 = .ok (.iload 8, 2) := by decide +kernel
theorem dX2_commonDivisor_11 : decode cX2_commonDivisor 11 = .ok (.sipush 200, 3) := by decide +kernel
theorem dX2_commonDivisor_14 : decode cX2_commonDivisor 14 = .ok (.if_icmp .ge 31, 3) := by decide +kernel
theorem dX2_commonDivisor_17 : decode cX2_commonDivisor 17 = .ok (.lload 6, 2) := by decide +kernel
theorem dX2_commonDivisor_19 : decode cX2_commonDivisor 19 = .ok (.lconst 0, 1) := by decide +kernel
theorem dX2_commonDivisor_20 : decode cX2_commonDivisor 20 = .ok (.lcmp, 1) := by decide +kernel
theorem dX2_commonDivisor_21 : decode cX2_commonDivisor 21 = .ok (.ifCond .eq 24, 3) := by decide +kernel
theorem dX2_commonDivisor_24 : decode cX2_commonDivisor 24 = .ok (.lload 4, 2) := by decide +kernel
theorem dX2_commonDivisor_26 : decode cX2_commonDivisor 26 = .ok (.lload 6, 2) := by decide +kernel
theorem dX2_commonDivisor_28 : decode cX2_commonDivisor 28 = .ok (.lrem, 1) := by decide +kernel
theorem dX2_commonDivisor_29 : decode cX2_commonDivisor 29 = .ok (.lstore 9, 2) := by decide +kernel
theorem dX2_commonDivisor_31 : decode cX2_commonDivisor 31 = .ok (.lload 6, 2) := by decide +kernel
theorem dX2_commonDivisor_33 : decode cX2_commonDivisor 33 = .ok (.lstore 4, 2) := by decide +kernel
theorem dX2_commonDivisor_35 : decode cX2_commonDivisor 35 = .ok (.lload 9, 2) := by decide +kernel
theorem dX2_commonDivisor_37 : decode cX2_commonDivisor 37 = .ok (.lstore 6, 2) := by decide +kernel
theorem dX2_commonDivisor_39 : decode cX2_commonDivisor 39 = .ok (.iinc 8 1, 3) := by decide +kernel
theorem dX2_commonDivisor_42 : decode cX2_commonDivisor 42 = .ok (.goto (-33), 3) := by decide +kernel
end
section
theorem dX2_commonDivisor_45 : decode cX2_commonDivisor 45 = .ok (.lload 4, 2) := by decide +kernel
theorem dX2_commonDivisor_47 : decode cX2_commonDivisor 47 = .ok (.lreturn, 1) := by decide +kernel
theorem dX3_init_0 : decode cX3_init 0 = .ok (.aload_n 0, 1) := by decide +kernel
theorem dX3_init_1 : decode cX3_init 1 = .ok (.invokespecial 5, 3) := by decide +kernel
theorem dX3_init_4 : decode cX3_init 4 = .ok (.aload_n 0, 1) := by decide +kernel
theorem dX3_init_5 : decode cX3_init 5 = .ok (.aload_n 1, 1) := by decide +kernel
theorem dX3_init_6 : decode cX3_init 6 = .ok (.putfield 11, 3) := by decide +kernel
theorem dX3_init_9 : decode cX3_init 9 = .ok (.aload_n 0, 1) := by decide +kernel
theorem dX3_init_10 : decode cX3_init 10 = .ok (.bipush 6, 2) := by decide +kernel
theorem dX3_init_12 : decode cX3_init 12 = .ok (.newarray .int, 2) := by decide +kernel
theorem dX3_init_14 : decode cX3_init 14 = .ok (.putfield 15, 3) := by decide +kernel
theorem dX3_init_17 : decode cX3_init 17 = .ok (.aload_n 0, 1) := by decide +kernel
theorem dX3_init_18 : decode cX3_init 18 = .ok (.bipush 36, 2) := by decide +kernel
theorem dX3_init_20 : decode cX3_init 20 = .ok (.newarray .int, 2) := by decide +kernel
theorem dX3_init_22 : decode cX3_init 22 = .ok (.putfield 19, 3) := by decide +kernel
theorem dX3_init_25 : decode cX3_init 25 = .ok (.aload_n 0, 1) := by decide +kernel
theorem dX3_init_26 : decode cX3_init 26 = .ok (.sipush 1014, 3) := by decide +kernel
theorem dX3_init_29 : decode cX3_init 29 = .ok (.newarray .long, 2) := by decide +kernel
theorem dX3_init_31 : decode cX3_init 31 = .ok (.putfield 22, 3) := by decide +kernel
theorem dX3_init_34 : decode cX3_init 34 = .ok (.aload_n 0, 1) := by decide +kernel
theorem dX3_init_35 : decode cX3_init 35 = .ok (.sipush 1014, 3) := by decide +kernel
theorem dX3_init_38 : decode cX3_init 38 = .ok (.newarray .int, 2) := by decide +kernel
theorem dX3_init_40 : decode cX3_init 40 = .ok (.putfield 26, 3) := by decide +kernel
theorem dX3_init_43 : decode cX3_init 43 = .ok (.aload_n 0, 1) := by decide +kernel
theorem dX3_init_44 : decode cX3_init 44 = .ok (.sipush 1014, 3) := by decide +kernel
theorem dX3_init_47 : decode cX3_init 47 = .ok (.newarray .int, 2) := by decide +kernel
theorem dX3_init_49 : decode cX3_init 49 = .ok (.putfield 29, 3) := by decide +kernel
theorem dX3_init_52 : decode cX3_init 52 = .ok (.aload_n 0, 1) := by decide +kernel
theorem dX3_init_53 : decode cX3_init 53 = .ok (.sipush 1014, 3) := by decide +kernel
theorem dX3_init_56 : decode cX3_init 56 = .ok (.newarray .long, 2) := by decide +kernel
theorem dX3_init_58 : decode cX3_init 58 = .ok (.putfield 32, 3) := by decide +kernel
theorem dX3_init_61 : decode cX3_init 61 = .ok (.return_, 1) := by decide +kernel
theorem dX3_forget_0 : decode cX3_forget 0 = .ok (.aload_n 0, 1) := by decide +kernel
theorem dX3_forget_1 : decode cX3_forget 1 = .ok (.iconst 0, 1) := by decide +kernel
theorem dX3_forget_2 : decode cX3_forget 2 = .ok (.putfield 35, 3) := by decide +kernel
theorem dX3_forget_5 : decode cX3_forget 5 = .ok (.return_, 1) := by decide +kernel
set_option maxRecDepth 20000 in
theorem ggX3_startAnew_X3_setLevel : GoodIn wsX3_startAnew wsX3_setLevel := goodIn_r _ [6, 7, 8, 9, 10, 11, 12, 13, 14, 15, 16, 17, 18, 19, 20, 21] (by decide +kernel) (by decide +kernel)
set_option maxRecDepth 20000 in
theorem gX3_startAnew_X3_setLevel : GoodIn wsX3_startAnew (wsV RX3 43 RX3 yX3_setLevel wsX3_setLevel) := goodIn_app (goodIn_of _ (by decide +kernel)) ggX3_startAnew_X3_setLevel
theorem dX3_startAnew_0 : decode cX3_startAnew 0 = .ok (.aload_n 0, 1) := by decide +kernel
theorem dX3_startAnew_1 : decode cX3_startAnew 1 = .ok (.iload_n 1, 1) := by decide +kernel
theorem dX3_startAnew_2 : decode cX3_startAnew 2 = .ok (.putfield 39, 3) := by decide +kernel
theorem dX3_startAnew_5 : decode cX3_startAnew 5 = .ok (.iconst 0, 1) := by decide +kernel
theorem dX3_startAnew_6 : decode cX3_startAnew 6 = .ok (.istore_n 2, 1) := by decide +kernel
theorem dX3_startAnew_7 : decode cX3_startAnew 7 = .ok (.iload_n 2, 1) := by decide +kernel
theorem dX3_startAnew_8 : decode cX3_startAnew 8 = .ok (.iload_n 1, 1) := by decide +kernel
theorem dX3_startAnew_9 : decode cX3_startAnew 9 = .ok (.if_icmp .ge 16, 3) := by decide +kernel
theorem dX3_startAnew_12 : decode cX3_startAnew 12 = .ok (.aload_n 0, 1) := by decide +kernel
theorem dX3_startAnew_13 : decode cX3_startAnew 13 = .ok (.iload_n 2, 1) := by decide +kernel
theorem dX3_startAnew_14 : decode cX3_startAnew 14 = .ok (.iconst 0, 1) := by decide +kernel
theorem dX3_startAnew_15 : decode cX3_startAnew 15 = .ok (.iconst 0, 1) := by decide +kernel
theorem dX3_startAnew_16 : decode cX3_startAnew 16 = .ok (.invokevirtual 43, 3) := by decide +kernel
theorem dX3_startAnew_19 : decode cX3_startAnew 19 = .ok (.iinc 2 1, 3) := by decide +kernel
theorem dX3_startAnew_22 : decode cX3_startAnew 22 = .ok (.goto (-15), 3) := by decide +kernel
theorem dX3_startAnew_25 : decode cX3_startAnew 25 = .ok (.return_, 1) := by decide +kernel
set_option maxRecDepth 20000 in
theorem ggX3_has_X6_within : GoodIn wsX3_has wsX6_within := goodIn_r _ [4] (by decide +kernel) (by decide +kernel)
set_option maxRecDepth 20000 in
theorem gX3_has_X6_within_n47 : GoodIn wsX3_has (wsX6_within) := ggX3_has_X6_within
theorem dX3_has_0 : decode cX3_has 0 = .ok (.iload_n 1, 1) := by decide +kernel
theorem dX3_has_1 : decode cX3_has 1 = .ok (.iconst 0, 1) := by decide +kernel
theorem dX3_has_2 : decode cX3_has 2 = .ok (.aload_n 0, 1) := by decide +kernel
theorem dX3_has_3 : decode cX3_has 3 = .ok (.getfield 39, 3) := by decide +kernel
theorem dX3_has_6 : decode cX3_has 6 = .ok (.iconst 1, 1) := by decide +kernel
theorem dX3_has_7 : decode cX3_has 7 = .ok (.isub, 1) := by decide +kernel
theorem dX3_has_8 : decode cX3_has 8 = .ok (.invokestatic 47, 3) := by decide +kernel
theorem dX3_has_11 : decode cX3_has 11 = .ok (.ireturn, 1) := by decide +kernel
set_option maxRecDepth 20000 in
theorem ggX3_hasState_X6_within : GoodIn wsX3_hasState wsX6_within := goodIn_r _ [3] (by decide +kernel) (by decide +kernel)
set_option maxRecDepth 20000 in
theorem gX3_hasState_X6_within_n47 : GoodIn wsX3_hasState (wsX6_within) := ggX3_hasState_X6_within
set_option maxRecDepth 20000 in
theorem ggX3_hasState_X3_has : GoodIn wsX3_hasState wsX3_has := goodIn_r _ [8, 9, 1, 2, 3, 10, 11, 12, 13, 14, 15, 16, 17, 18] (by decide +kernel) (by decide +kernel)
set_option maxRecDepth 20000 in
theorem gX3_hasState_X3_has : GoodIn wsX3_hasState (wsV RX3 51 RX3 yX3_has wsX3_has) := goodIn_app (goodIn_of _ (by decide +kernel)) ggX3_hasState_X3_has
theorem dX3_hasState_0 : decode cX3_hasState 0 = .ok (.iload_n 1, 1) := by decide +kernel
theorem dX3_hasState_1 : decode cX3_hasState 1 = .ok (.iconst 0, 1) := by decide +kernel
theorem dX3_hasState_2 : decode cX3_hasState 2 = .ok (.bipush 12, 2) := by decide +kernel
theorem dX3_hasState_4 : decode cX3_hasState 4 = .ok (.invokestatic 47, 3) := by decide +kernel
theorem dX3_hasState_7 : decode cX3_hasState 7 = .ok (.ifCond .eq 24, 3) := by decide +kernel
theorem dX3_hasState_10 : decode cX3_hasState 10 = .ok (.iload_n 2, 1) := by decide +kernel
theorem dX3_hasState_11 : decode cX3_hasState 11 = .ok (.iconst 0, 1) := by decide +kernel
theorem dX3_hasState_12 : decode cX3_hasState 12 = .ok (.iload_n 1, 1) := by decide +kernel
theorem dX3_hasState_13 : decode cX3_hasState 13 = .ok (.invokestatic 47, 3) := by decide +kernel
theorem dX3_hasState_16 : decode cX3_hasState 16 = .ok (.ifCond .eq 15, 3) := by decide +kernel
theorem dX3_hasState_19 : decode cX3_hasState 19 = .ok (.aload_n 0, 1) := by decide +kernel
theorem dX3_hasState_20 : decode cX3_hasState 20 = .ok (.iload_n 3, 1) := by decide +kernel
theorem dX3_hasState_21 : decode cX3_hasState 21 = .ok (.invokevirtual 51, 3) := by decide +kernel
theorem dX3_hasState_24 : decode cX3_hasState 24 = .ok (.ifCond .eq 7, 3) := by decide +kernel
theorem dX3_hasState_27 : decode cX3_hasState 27 = .ok (.iconst 1, 1) := by decide +kernel
theorem dX3_hasState_28 : decode cX3_hasState 28 = .ok (.goto 4, 3) := by decide +kernel
theorem dX3_hasState_31 : decode cX3_hasState 31 = .ok (.iconst 0, 1) := by decide +kernel
theorem dX3_hasState_32 : decode cX3_hasState 32 = .ok (.ireturn, 1) := by decide +kernel
theorem dX3_canGo_0 : decode cX3_canGo 0 = .ok (.iload_n 1, 1) := by decide +kernel
theorem dX3_canGo_1 : decode cX3_canGo 1 = .ok (.ifCond .ge 5, 3) := by decide +kernel
theorem dX3_canGo_4 : decode cX3_canGo 4 = .ok (.iconst 0, 1) := by decide +kernel
theorem dX3_canGo_5 : decode cX3_canGo 5 = .ok (.ireturn, 1) := by decide +kernel
theorem dX3_canGo_6 : decode cX3_canGo 6 = .ok (.iload_n 1, 1) := by decide +kernel
theorem dX3_canGo_7 : decode cX3_canGo 7 = .ok (.istore_n 2, 1) := by decide +kernel
theorem dX3_canGo_8 : decode cX3_canGo 8 = .ok (.iconst 0, 1) := by decide +kernel
theorem dX3_canGo_9 : decode cX3_canGo 9 = .ok (.istore_n 3, 1) := by decide +kernel
theorem dX3_canGo_10 : decode cX3_canGo 10 = .ok (.iconst 0, 1) := by decide +kernel
theorem dX3_canGo_11 : decode cX3_canGo 11 = .ok (.istore 4, 2) := by decide +kernel
theorem dX3_canGo_13 : decode cX3_canGo 13 = .ok (.iload 4, 2) := by decide +kernel
theorem dX3_canGo_15 : decode cX3_canGo 15 = .ok (.aload_n 0, 1) := by decide +kernel
theorem dX3_canGo_16 : decode cX3_canGo 16 = .ok (.getfield 39, 3) := by decide +kernel
theorem dX3_canGo_19 : decode cX3_canGo 19 = .ok (.if_icmp .ge 21, 3) := by decide +kernel
theorem dX3_canGo_22 : decode cX3_canGo 22 = .ok (.iload_n 3, 1) := by decide +kernel
theorem dX3_canGo_23 : decode cX3_canGo 23 = .ok (.iload_n 2, 1) := by decide +kernel
theorem dX3_canGo_24 : decode cX3_canGo 24 = .ok (.bipush 10, 2) := by decide +kernel
theorem dX3_canGo_26 : decode cX3_canGo 26 = .ok (.irem, 1) := by decide +kernel
theorem dX3_canGo_27 : decode cX3_canGo 27 = .ok (.iadd, 1) := by decide +kernel
theorem dX3_canGo_28 : decode cX3_canGo 28 = .ok (.istore_n 3, 1) := by decide +kernel
theorem dX3_canGo_29 : decode cX3_canGo 29 = .ok (.iload_n 2, 1) := by decide +kernel
theorem dX3_canGo_30 : decode cX3_canGo 30 = .ok (.bipush 10, 2) := by decide +kernel
theorem dX3_canGo_32 : decode cX3_canGo 32 = .ok (.idiv, 1) := by decide +kernel
theorem dX3_canGo_33 : decode cX3_canGo 33 = .ok (.istore_n 2, 1) := by decide +kernel
theorem dX3_canGo_34 : decode cX3_canGo 34 = .ok (.iinc 4 1, 3) := by decide +kernel
theorem dX3_canGo_37 : decode cX3_canGo 37 = .ok (.goto (-24), 3) := by decide +kernel
theorem dX3_canGo_40 : decode cX3_canGo 40 = .ok (.iload_n 2, 1) := by decide +kernel
theorem dX3_canGo_41 : decode cX3_canGo 41 = .ok (.ifCond .ne 13, 3) := by decide +kernel
theorem dX3_canGo_44 : decode cX3_canGo 44 = .ok (.iload_n 3, 1) := by decide +kernel
theorem dX3_canGo_45 : decode cX3_canGo 45 = .ok (.bipush 10, 2) := by decide +kernel
theorem dX3_canGo_47 : decode cX3_canGo 47 = .ok (.if_icmp .gt 7, 3) := by decide +kernel
theorem dX3_canGo_50 : decode cX3_canGo 50 = .ok (.iconst 1, 1) := by decide +kernel
theorem dX3_canGo_51 : decode cX3_canGo 51 = .ok (.goto 4, 3) := by decide +kernel
theorem dX3_canGo_54 : decode cX3_canGo 54 = .ok (.iconst 0, 1) := by decide +kernel
theorem dX3_canGo_55 : decode cX3_canGo 55 = .ok (.ireturn, 1) := by decide +kernel
set_option maxRecDepth 20000 in
theorem ggX3_setLevel_X6_within : GoodIn wsX3_setLevel wsX6_within := goodIn_r _ [6] (by decide +kernel) (by decide +kernel)
set_option maxRecDepth 20000 in
theorem gX3_setLevel_X6_within_n47 : GoodIn wsX3_setLevel (wsX6_within) := ggX3_setLevel_X6_within
theorem dX3_setLevel_0 : decode cX3_setLevel 0 = .ok (.iload_n 1, 1) := by decide +kernel
theorem dX3_setLevel_1 : decode cX3_setLevel 1 = .ok (.iconst 0, 1) := by decide +kernel
theorem dX3_setLevel_2 : decode cX3_setLevel 2 = .ok (.iconst 5, 1) := by decide +kernel
theorem dX3_setLevel_3 : decode cX3_setLevel 3 = .ok (.invokestatic 47, 3) := by decide +kernel
theorem dX3_setLevel_6 : decode cX3_setLevel 6 = .ok (.ifCond .ne 4, 3) := by decide +kernel
theorem dX3_setLevel_9 : decode cX3_setLevel 9 = .ok (.return_, 1) := by decide +kernel
theorem dX3_setLevel_10 : decode cX3_setLevel 10 = .ok (.aload_n 0, 1) := by decide +kernel
theorem dX3_setLevel_11 : decode cX3_setLevel 11 = .ok (.getfield 15, 3) := by decide +kernel
theorem dX3_setLevel_14 : decode cX3_setLevel 14 = .ok (.iload_n 1, 1) := by decide +kernel
theorem dX3_setLevel_15 : decode cX3_setLevel 15 = .ok (.iload_n 2, 1) := by decide +kernel
theorem dX3_setLevel_16 : decode cX3_setLevel 16 = .ok (.iastore, 1) := by decide +kernel
theorem dX3_setLevel_17 : decode cX3_setLevel 17 = .ok (.iload_n 3, 1) := by decide +kernel
theorem dX3_setLevel_18 : decode cX3_setLevel 18 = .ok (.istore 4, 2) := by decide +kernel
theorem dX3_setLevel_20 : decode cX3_setLevel 20 = .ok (.bipush 10, 2) := by decide +kernel
theorem dX3_setLevel_22 : decode cX3_setLevel 22 = .ok (.istore 5, 2) := by decide +kernel
theorem dX3_setLevel_24 : decode cX3_setLevel 24 = .ok (.iload_n 1, 1) := by decide +kernel
theorem dX3_setLevel_25 : decode cX3_setLevel 25 = .ok (.bipush 6, 2) := by decide +kernel
theorem dX3_setLevel_27 : decode cX3_setLevel 27 = .ok (.imul, 1) := by decide +kernel
theorem dX3_setLevel_28 : decode cX3_setLevel 28 = .ok (.istore 6, 2) := by decide +kernel
theorem dX3_setLevel_30 : decode cX3_setLevel 30 = .ok (.iconst 0, 1) := by decide +kernel
theorem dX3_setLevel_31 : decode cX3_setLevel 31 = .ok (.istore 7, 2) := by decide +kernel
theorem dX3_setLevel_33 : decode cX3_setLevel 33 = .ok (.iload 7, 2) := by decide +kernel
theorem dX3_setLevel_35 : decode cX3_setLevel 35 = .ok (.bipush 6, 2) := by decide +kernel
theorem dX3_setLevel_37 : decode cX3_setLevel 37 = .ok (.if_icmp .ge 41, 3) := by decide +kernel
theorem dX3_setLevel_40 : decode cX3_setLevel 40 = .ok (.aload_n 0, 1) := by decide +kernel
theorem dX3_setLevel_41 : decode cX3_setLevel 41 = .ok (.getfield 19, 3) := by decide +kernel
theorem dX3_setLevel_44 : decode cX3_setLevel 44 = .ok (.iload 6, 2) := by decide +kernel
theorem dX3_setLevel_46 : decode cX3_setLevel 46 = .ok (.iload 7, 2) := by decide +kernel
theorem dX3_setLevel_48 : decode cX3_setLevel 48 = .ok (.iadd, 1) := by decide +kernel
theorem dX3_setLevel_49 : decode cX3_setLevel 49 = .ok (.iload 4, 2) := by decide +kernel
theorem dX3_setLevel_51 : decode cX3_setLevel 51 = .ok (.bipush 10, 2) := by decide +kernel
theorem dX3_setLevel_53 : decode cX3_setLevel 53 = .ok (.irem, 1) := by decide +kernel
theorem dX3_setLevel_54 : decode cX3_setLevel 54 = .ok (.iastore, 1) := by decide +kernel
theorem dX3_setLevel_55 : decode cX3_setLevel 55 = .ok (.iload 5, 2) := by decide +kernel
theorem dX3_setLevel_57 : decode cX3_setLevel 57 = .ok (.iload 4, 2) := by decide +kernel
theorem dX3_setLevel_59 : decode cX3_setLevel 59 = .ok (.bipush 10, 2) := by decide +kernel
theorem dX3_setLevel_61 : decode cX3_setLevel 61 = .ok (.irem, 1) := by decide +kernel
theorem dX3_setLevel_62 : decode cX3_setLevel 62 = .ok (.isub, 1) := by decide +kernel
theorem dX3_setLevel_63 : decode cX3_setLevel 63 = .ok (.istore 5, 2) := by decide +kernel
theorem dX3_setLevel_65 : decode cX3_setLevel 65 = .ok (.iload 4, 2) := by decide +kernel
theorem dX3_setLevel_67 : decode cX3_setLevel 67 = .ok (.bipush 10, 2) := by decide +kernel
theorem dX3_setLevel_69 : decode cX3_setLevel 69 = .ok (.idiv, 1) := by decide +kernel
theorem dX3_setLevel_70 : decode cX3_setLevel 70 = .ok (.istore 4, 2) := by decide +kernel
theorem dX3_setLevel_72 : decode cX3_setLevel 72 = .ok (.iinc 7 1, 3) := by decide +kernel
theorem dX3_setLevel_75 : decode cX3_setLevel 75 = .ok (.goto (-42), 3) := by decide +kernel
theorem dX3_setLevel_78 : decode cX3_setLevel 78 = .ok (.aload_n 0, 1) := by decide +kernel
theorem dX3_setLevel_79 : decode cX3_setLevel 79 = .ok (.getfield 19, 3) := by decide +kernel
theorem dX3_setLevel_82 : decode cX3_setLevel 82 = .ok (.iload 6, 2) := by decide +kernel
theorem dX3_setLevel_84 : decode cX3_setLevel 84 = .ok (.dup2, 1) := by decide +kernel
theorem dX3_setLevel_85 : decode cX3_setLevel 85 = .ok (.iaload, 1) := by decide +kernel
theorem dX3_setLevel_86 : decode cX3_setLevel 86 = .ok (.iload 5, 2) := by decide +kernel
theorem dX3_setLevel_88 : decode cX3_setLevel 88 = .ok (.iadd, 1) := by decide +kernel
theorem dX3_setLevel_89 : decode cX3_setLevel 89 = .ok (.iastore, 1) := by decide +kernel
theorem dX3_setLevel_90 : decode cX3_setLevel 90 = .ok (.aload_n 0, 1) := by decide +kernel
theorem dX3_setLevel_91 : decode cX3_setLevel 91 = .ok (.iconst 0, 1) := by decide +kernel
theorem dX3_setLevel_92 : decode cX3_setLevel 92 = .ok (.putfield 35, 3) := by decide +kernel
theorem dX3_setLevel_95 : decode cX3_setLevel 95 = .ok (.return_, 1) := by decide +kernel
set_option maxRecDepth 20000 in
theorem ggX3_meanOf_X3_settleAll : GoodIn wsX3_meanOf wsX3_settleAll := goodIn_r _ [6, 7, 8, 9, 10, 11, 5, 12, 1, 13, 14, 15, 16, 17, 18, 19, 20, 21, 22, 23, 24, 25, 26, 27, 28, 29, 30, 31, 32, 33, 34, 35, 36, 37, 38, 39, 40, 41, 42, 43, 44, 45, 46, 47, 48, 49, 50, 51, 52, 53, 54, 55, 56, 57, 58, 59, 60, 61, 62, 63, 64, 65, 66, 67, 68, 69] (by decide +kernel) (by decide +kernel)
set_option maxRecDepth 20000 in
theorem gX3_meanOf_X3_settleAll : GoodIn wsX3_meanOf (wsV RX3 55 RX3 yX3_settleAll wsX3_settleAll) := goodIn_app (goodIn_of _ (by decide +kernel)) ggX3_meanOf_X3_settleAll
set_option maxRecDepth 20000 in
theorem ggX3_meanOf_X3_read : GoodIn wsX3_meanOf wsX3_read := goodIn_r _ [37, 16, 17, 5, 18, 32, 33, 34] (by decide +kernel) (by decide +kernel)
set_option maxRecDepth 20000 in
theorem gX3_meanOf_X3_read : GoodIn wsX3_meanOf (va_wsS RX3 58 yX3_read wsX3_read) := goodIn_app (goodIn_of _ (by decide +kernel)) ggX3_meanOf_X3_read
theorem dX3_meanOf_0 : decode cX3_meanOf 0 = .ok (.aload_n 0, 1) := by decide +kernel
theorem dX3_meanOf_1 : decode cX3_meanOf 1 = .ok (.invokevirtual 55, 3) := by decide +kernel
theorem dX3_meanOf_4 : decode cX3_meanOf 4 = .ok (.aload_n 0, 1) := by decide +kernel
theorem dX3_meanOf_5 : decode cX3_meanOf 5 = .ok (.getfield 22, 3) := by decide +kernel
theorem dX3_meanOf_8 : decode cX3_meanOf 8 = .ok (.iload_n 1, 1) := by decide +kernel
theorem dX3_meanOf_9 : decode cX3_meanOf 9 = .ok (.iload_n 2, 1) := by decide +kernel
theorem dX3_meanOf_10 : decode cX3_meanOf 10 = .ok (.iload_n 3, 1) := by decide +kernel
theorem dX3_meanOf_11 : decode cX3_meanOf 11 = .ok (.invokestatic 58, 3) := by decide +kernel
theorem dX3_meanOf_14 : decode cX3_meanOf 14 = .ok (.lreturn, 1) := by decide +kernel
set_option maxRecDepth 20000 in
theorem ggX3_ruleOf_X3_settleAll : GoodIn wsX3_ruleOf wsX3_settleAll := goodIn_r _ [6, 7, 8, 9, 10, 11, 5, 12, 13, 1, 14, 15, 16, 17, 18, 19, 20, 21, 22, 23, 24, 25, 26, 27, 28, 29, 30, 31, 32, 33, 34, 35, 36, 37, 38, 39, 40, 41, 42, 43, 44, 45, 46, 47, 48, 49, 50, 51, 52, 53, 54, 55, 56, 57, 58, 59, 60, 61, 62, 63, 64, 65, 66, 67, 68, 69] (by decide +kernel) (by decide +kernel)
set_option maxRecDepth 20000 in
theorem gX3_ruleOf_X3_settleAll : GoodIn wsX3_ruleOf (wsV RX3 55 RX3 yX3_settleAll wsX3_settleAll) := goodIn_app (goodIn_of _ (by decide +kernel)) ggX3_ruleOf_X3_settleAll
set_option maxRecDepth 20000 in
theorem ggX3_ruleOf_X3_readInt : GoodIn wsX3_ruleOf wsX3_readInt := goodIn_r _ [58, 16, 17, 5, 18, 32, 33, 34] (by decide +kernel) (by decide +kernel)
set_option maxRecDepth 20000 in
theorem gX3_ruleOf_X3_readInt : GoodIn wsX3_ruleOf (va_wsS RX3 62 yX3_readInt wsX3_readInt) := goodIn_app (goodIn_of _ (by decide +kernel)) ggX3_ruleOf_X3_readInt
theorem dX3_ruleOf_0 : decode cX3_ruleOf 0 = .ok (.aload_n 0, 1) := by decide +kernel
theorem dX3_ruleOf_1 : decode cX3_ruleOf 1 = .ok (.invokevirtual 55, 3) := by decide +kernel
theorem dX3_ruleOf_4 : decode cX3_ruleOf 4 = .ok (.aload_n 0, 1) := by decide +kernel
theorem dX3_ruleOf_5 : decode cX3_ruleOf 5 = .ok (.getfield 26, 3) := by decide +kernel
theorem dX3_ruleOf_8 : decode cX3_ruleOf 8 = .ok (.iload_n 1, 1) := by decide +kernel
theorem dX3_ruleOf_9 : decode cX3_ruleOf 9 = .ok (.iload_n 2, 1) := by decide +kernel
theorem dX3_ruleOf_10 : decode cX3_ruleOf 10 = .ok (.iload_n 3, 1) := by decide +kernel
theorem dX3_ruleOf_11 : decode cX3_ruleOf 11 = .ok (.invokestatic 62, 3) := by decide +kernel
theorem dX3_ruleOf_14 : decode cX3_ruleOf 14 = .ok (.ireturn, 1) := by decide +kernel
set_option maxRecDepth 20000 in
theorem ggX3_greatestOf_X3_settleAll : GoodIn wsX3_greatestOf wsX3_settleAll := goodIn_r _ [6, 7, 8, 9, 10, 11, 5, 12, 13, 14, 15, 16, 17, 18, 19, 20, 21, 22, 23, 24, 25, 26, 27, 28, 29, 30, 31, 32, 33, 34, 35, 36, 37, 38, 39, 40, 41, 42, 43, 44, 45, 46, 47, 1, 48, 49, 50, 51, 52, 53, 54, 55, 56, 57, 58, 59, 60, 61, 62, 63, 64, 65, 66, 67, 68, 69] (by decide +kernel) (by decide +kernel)
set_option maxRecDepth 20000 in
theorem gX3_greatestOf_X3_settleAll : GoodIn wsX3_greatestOf (wsV RX3 55 RX3 yX3_settleAll wsX3_settleAll) := goodIn_app (goodIn_of _ (by decide +kernel)) ggX3_greatestOf_X3_settleAll
set_option maxRecDepth 20000 in
theorem ggX3_greatestOf_X3_readInt : GoodIn wsX3_greatestOf wsX3_readInt := goodIn_r _ [58, 17, 18, 5, 19, 33, 34, 35] (by decide +kernel) (by decide +kernel)
set_option maxRecDepth 20000 in
theorem gX3_greatestOf_X3_readInt : GoodIn wsX3_greatestOf (va_wsS RX3 62 yX3_readInt wsX3_readInt) := goodIn_app (goodIn_of _ (by decide +kernel)) ggX3_greatestOf_X3_readInt
theorem dX3_greatestOf_0 : decode cX3_greatestOf 0 = .ok (.aload_n 0, 1) := by decide +kernel
theorem dX3_greatestOf_1 : decode cX3_greatestOf 1 = .ok (.invokevirtual 55, 3) := by decide +kernel
theorem dX3_greatestOf_4 : decode cX3_greatestOf 4 = .ok (.aload_n 0, 1) := by decide +kernel
theorem dX3_greatestOf_5 : decode cX3_greatestOf 5 = .ok (.getfield 29, 3) := by decide +kernel
theorem dX3_greatestOf_8 : decode cX3_greatestOf 8 = .ok (.iload_n 1, 1) := by decide +kernel
theorem dX3_greatestOf_9 : decode cX3_greatestOf 9 = .ok (.iload_n 2, 1) := by decide +kernel
theorem dX3_greatestOf_10 : decode cX3_greatestOf 10 = .ok (.iload_n 3, 1) := by decide +kernel
theorem dX3_greatestOf_11 : decode cX3_greatestOf 11 = .ok (.invokestatic 62, 3) := by decide +kernel
theorem dX3_greatestOf_14 : decode cX3_greatestOf 14 = .ok (.ireturn, 1) := by decide +kernel
set_option maxRecDepth 20000 in
theorem ggX3_meanCapped_X3_settleCapped : GoodIn wsX3_meanCapped wsX3_settleCapped := goodIn_r _ [11, 6, 12, 13, 1, 2, 3, 4, 14, 15, 10, 16, 17, 18, 19, 20, 21, 22, 23, 24, 25, 26, 27, 28, 5, 29, 30, 31, 32, 33, 34, 35, 36, 37, 38, 39, 40, 41, 42, 43, 44, 45, 46, 47, 48, 49, 50, 51] (by decide +kernel) (by decide +kernel)
set_option maxRecDepth 20000 in
theorem gX3_meanCapped_X3_settleCapped : GoodIn wsX3_meanCapped (wsV RX3 72 RX3 yX3_settleCapped wsX3_settleCapped) := goodIn_app (goodIn_of _ (by decide +kernel)) ggX3_meanCapped_X3_settleCapped
set_option maxRecDepth 20000 in
theorem ggX3_meanCapped_X3_read : GoodIn wsX3_meanCapped wsX3_read := goodIn_r _ [36, 14, 15, 10, 16, 22, 23, 24] (by decide +kernel) (by decide +kernel)
set_option maxRecDepth 20000 in
theorem gX3_meanCapped_X3_read : GoodIn wsX3_meanCapped (va_wsS RX3 58 yX3_read wsX3_read) := goodIn_app (goodIn_of _ (by decide +kernel)) ggX3_meanCapped_X3_read
theorem dX3_meanCapped_0 : decode cX3_meanCapped 0 = .ok (.iconst 0, 1) := by decide +kernel
theorem dX3_meanCapped_1 : decode cX3_meanCapped 1 = .ok (.istore 5, 2) := by decide +kernel
theorem dX3_meanCapped_3 : decode cX3_meanCapped 3 = .ok (.iload 5, 2) := by decide +kernel
theorem dX3_meanCapped_5 : decode cX3_meanCapped 5 = .ok (.iload_n 1, 1) := by decide +kernel
theorem dX3_meanCapped_6 : decode cX3_meanCapped 6 = .ok (.if_icmp .gt 59, 3) := by decide +kernel
theorem dX3_meanCapped_9 : decode cX3_meanCapped 9 = .ok (.iconst 0, 1) := by decide +kernel
theorem dX3_meanCapped_10 : decode cX3_meanCapped 10 = .ok (.istore 6, 2) := by decide +kernel
theorem dX3_meanCapped_12 : decode cX3_meanCapped 12 = .ok (.iload 6, 2) := by decide +kernel
theorem dX3_meanCapped_14 : decode cX3_meanCapped 14 = .ok (.iload 5, 2) := by decide +kernel
theorem dX3_meanCapped_16 : decode cX3_meanCapped 16 = .ok (.iload_n 2, 1) := by decide +kernel
theorem dX3_meanCapped_17 : decode cX3_meanCapped 17 = .ok (.invokestatic 66, 3) := by decide +kernel
theorem dX3_meanCapped_20 : decode cX3_meanCapped 20 = .ok (.if_icmp .gt 39, 3) := by decide +kernel
theorem dX3_meanCapped_23 : decode cX3_meanCapped 23 = .ok (.iconst 0, 1) := by decide +kernel
theorem dX3_meanCapped_24 : decode cX3_meanCapped 24 = .ok (.istore 7, 2) := by decide +kernel
theorem dX3_meanCapped_26 : decode cX3_meanCapped 26 = .ok (.iload 7, 2) := by decide +kernel
theorem dX3_meanCapped_28 : decode cX3_meanCapped 28 = .ok (.aload_n 0, 1) := by decide +kernel
theorem dX3_meanCapped_29 : decode cX3_meanCapped 29 = .ok (.getfield 39, 3) := by decide +kernel
theorem dX3_meanCapped_32 : decode cX3_meanCapped 32 = .ok (.if_icmp .ge 21, 3) := by decide +kernel
theorem dX3_meanCapped_35 : decode cX3_meanCapped 35 = .ok (.aload_n 0, 1) := by decide +kernel
theorem dX3_meanCapped_36 : decode cX3_meanCapped 36 = .ok (.iload 5, 2) := by decide +kernel
theorem dX3_meanCapped_38 : decode cX3_meanCapped 38 = .ok (.iload 6, 2) := by decide +kernel
theorem dX3_meanCapped_40 : decode cX3_meanCapped 40 = .ok (.iload 7, 2) := by decide +kernel
theorem dX3_meanCapped_42 : decode cX3_meanCapped 42 = .ok (.iload 4, 2) := by decide +kernel
theorem dX3_meanCapped_44 : decode cX3_meanCapped 44 = .ok (.invokevirtual 72, 3) := by decide +kernel
theorem dX3_meanCapped_47 : decode cX3_meanCapped 47 = .ok (.iinc 7 1, 3) := by decide +kernel
theorem dX3_meanCapped_50 : decode cX3_meanCapped 50 = .ok (.goto (-24), 3) := by decide +kernel
theorem dX3_meanCapped_53 : decode cX3_meanCapped 53 = .ok (.iinc 6 1, 3) := by decide +kernel
theorem dX3_meanCapped_56 : decode cX3_meanCapped 56 = .ok (.goto (-44), 3) := by decide +kernel
theorem dX3_meanCapped_59 : decode cX3_meanCapped 59 = .ok (.iinc 5 1, 3) := by decide +kernel
theorem dX3_meanCapped_62 : decode cX3_meanCapped 62 = .ok (.goto (-59), 3) := by decide +kernel
theorem dX3_meanCapped_65 : decode cX3_meanCapped 65 = .ok (.aload_n 0, 1) := by decide +kernel
theorem dX3_meanCapped_66 : decode cX3_meanCapped 66 = .ok (.getfield 32, 3) := by decide +kernel
theorem dX3_meanCapped_69 : decode cX3_meanCapped 69 = .ok (.iload_n 1, 1) := by decide +kernel
theorem dX3_meanCapped_70 : decode cX3_meanCapped 70 = .ok (.iload_n 2, 1) := by decide +kernel
theorem dX3_meanCapped_71 : decode cX3_meanCapped 71 = .ok (.iload_n 3, 1) := by decide +kernel
theorem dX3_meanCapped_72 : decode cX3_meanCapped 72 = .ok (.invokestatic 58, 3) := by decide +kernel
theorem dX3_meanCapped_75 : decode cX3_meanCapped 75 = .ok (.lreturn, 1) := by decide +kernel
set_option maxRecDepth 20000 in
theorem ggX3_settleAll_X3_settleMean : GoodIn wsX3_settleAll wsX3_settleMean := goodIn_r _ [7, 8, 9, 10, 11, 12, 13, 6, 14, 15, 16, 17, 18, 19, 20, 21, 22, 2, 23, 24, 25, 26, 27, 28, 29, 30, 31, 32, 33, 34, 35, 36, 37, 38, 55, 56, 57, 58, 59, 60, 61, 62, 63, 64, 65] (by decide +kernel) (by decide +kernel)
set_option maxRecDepth 20000 in
theorem gX3_settleAll_X3_settleMean : GoodIn wsX3_settleAll (wsV RX3 76 RX3 yX3_settleMean wsX3_settleMean) := goodIn_app (goodIn_of _ (by decide +kernel)) ggX3_settleAll_X3_settleMean
set_option maxRecDepth 20000 in
theorem ggX3_settleAll_X3_settleGreatest : GoodIn wsX3_settleAll wsX3_settleGreatest := goodIn_r _ [42, 43, 9, 10, 11, 12, 13, 6, 14, 44, 45, 46, 47, 2, 48, 49, 50, 51, 23, 24, 25, 26, 27, 28, 29, 30, 52, 53, 54, 34, 35, 36, 37, 38, 55, 56, 57, 58, 59, 60, 61, 62, 63, 64, 65] (by decide +kernel) (by decide +kernel)
set_option maxRecDepth 20000 in
theorem gX3_settleAll_X3_settleGreatest : GoodIn wsX3_settleAll (wsV RX3 79 RX3 yX3_settleGreatest wsX3_settleGreatest) := goodIn_app (goodIn_of _ (by decide +kernel)) ggX3_settleAll_X3_settleGreatest
theorem dX3_settleAll_0 : decode cX3_settleAll 0 = .ok (.aload_n 0, 1) := by decide +kernel
theorem dX3_settleAll_1 : decode cX3_settleAll 1 = .ok (.getfield 35, 3) := by decide +kernel
theorem dX3_settleAll_4 : decode cX3_settleAll 4 = .ok (.ifCond .eq 4, 3) := by decide +kernel
theorem dX3_settleAll_7 : decode cX3_settleAll 7 = .ok (.return_, 1) := by decide +kernel
theorem dX3_settleAll_8 : decode cX3_settleAll 8 = .ok (.iconst 0, 1) := by decide +kernel
theorem dX3_settleAll_9 : decode cX3_settleAll 9 = .ok (.istore_n 1, 1) := by decide +kernel
theorem dX3_settleAll_10 : decode cX3_settleAll 10 = .ok (.iload_n 1, 1) := by decide +kernel
theorem dX3_settleAll_11 : decode cX3_settleAll 11 = .ok (.bipush 12, 2) := by decide +kernel
theorem dX3_settleAll_13 : decode cX3_settleAll 13 = .ok (.if_icmp .gt 52, 3) := by decide +kernel
theorem dX3_settleAll_16 : decode cX3_settleAll 16 = .ok (.iconst 0, 1) := by decide +kernel
theorem dX3_settleAll_17 : decode cX3_settleAll 17 = .ok (.istore_n 2, 1) := by decide +kernel
theorem dX3_settleAll_18 : decode cX3_settleAll 18 = .ok (.iload_n 2, 1) := by decide +kernel
theorem dX3_settleAll_19 : decode cX3_settleAll 19 = .ok (.iload_n 1, 1) := by decide +kernel
theorem dX3_settleAll_20 : decode cX3_settleAll 20 = .ok (.if_icmp .gt 39, 3) := by decide +kernel
theorem dX3_settleAll_23 : decode cX3_settleAll 23 = .ok (.iconst 0, 1) := by decide +kernel
theorem dX3_settleAll_24 : decode cX3_settleAll 24 = .ok (.istore_n 3, 1) := by decide +kernel
theorem dX3_settleAll_25 : decode cX3_settleAll 25 = .ok (.iload_n 3, 1) := by decide +kernel
theorem dX3_settleAll_26 : decode cX3_settleAll 26 = .ok (.aload_n 0, 1) := by decide +kernel
theorem dX3_settleAll_27 : decode cX3_settleAll 27 = .ok (.getfield 39, 3) := by decide +kernel
theorem dX3_settleAll_30 : decode cX3_settleAll 30 = .ok (.if_icmp .ge 23, 3) := by decide +kernel
theorem dX3_settleAll_33 : decode cX3_settleAll 33 = .ok (.aload_n 0, 1) := by decide +kernel
theorem dX3_settleAll_34 : decode cX3_settleAll 34 = .ok (.iload_n 1, 1) := by decide +kernel
theorem dX3_settleAll_35 : decode cX3_settleAll 35 = .ok (.iload_n 2, 1) := by decide +kernel
theorem dX3_settleAll_36 : decode cX3_settleAll 36 = .ok (.iload_n 3, 1) := by decide +kernel
theorem dX3_settleAll_37 : decode cX3_settleAll 37 = .ok (.invokevirtual 76, 3) := by decide +kernel
theorem dX3_settleAll_40 : decode cX3_settleAll 40 = .ok (.aload_n 0, 1) := by decide +kernel
theorem dX3_settleAll_41 : decode cX3_settleAll 41 = .ok (.iload_n 1, 1) := by decide +kernel
theorem dX3_settleAll_42 : decode cX3_settleAll 42 = .ok (.iload_n 2, 1) := by decide +kernel
theorem dX3_settleAll_43 : decode cX3_settleAll 43 = .ok (.iload_n 3, 1) := by decide +kernel
theorem dX3_settleAll_44 : decode cX3_settleAll 44 = .ok (.invokevirtual 79, 3) := by decide +kernel
theorem dX3_settleAll_47 : decode cX3_settleAll 47 = .ok (.iinc 3 1, 3) := by decide +kernel
theorem dX3_settleAll_50 : decode cX3_settleAll 50 = .ok (.goto (-25), 3) := by decide +kernel
theorem dX3_settleAll_53 : decode cX3_settleAll 53 = .ok (.iinc 2 1, 3) := by decide +kernel
theorem dX3_settleAll_56 : decode cX3_settleAll 56 = .ok (.goto (-38), 3) := by decide +kernel
theorem dX3_settleAll_59 : decode cX3_settleAll 59 = .ok (.iinc 1 1, 3) := by decide +kernel
theorem dX3_settleAll_62 : decode cX3_settleAll 62 = .ok (.goto (-52), 3) := by decide +kernel
theorem dX3_settleAll_65 : decode cX3_settleAll 65 = .ok (.aload_n 0, 1) := by decide +kernel
theorem dX3_settleAll_66 : decode cX3_settleAll 66 = .ok (.iconst 1, 1) := by decide +kernel
theorem dX3_settleAll_67 : decode cX3_settleAll 67 = .ok (.putfield 35, 3) := by decide +kernel
theorem dX3_settleAll_70 : decode cX3_settleAll 70 = .ok (.return_, 1) := by decide +kernel
set_option maxRecDepth 20000 in
theorem ggX3_settleMean_X3_stateOf : GoodIn wsX3_settleMean wsX3_stateOf := goodIn_r _ [8] (by decide +kernel) (by decide +kernel)
set_option maxRecDepth 20000 in
theorem gX3_settleMean_X3_stateOf : GoodIn wsX3_settleMean (va_wsS RX3 82 yX3_stateOf wsX3_stateOf) := goodIn_app (goodIn_of _ (by decide +kernel)) ggX3_settleMean_X3_stateOf
set_option maxRecDepth 20000 in
theorem ggX3_settleMean_X2_power : GoodIn wsX3_settleMean wsX2_power := goodIn_r _ [12] (by decide +kernel) (by decide +kernel)
set_option maxRecDepth 20000 in
theorem gX3_settleMean_X2_power : GoodIn wsX3_settleMean (va_wsS RX3 86 yX2_power wsX2_power) := goodIn_app (goodIn_of _ (by decide +kernel)) ggX3_settleMean_X2_power
set_option maxRecDepth 20000 in
theorem ggX3_settleMean_X3_meanBehind : GoodIn wsX3_settleMean wsX3_meanBehind := goodIn_r _ [16, 17, 18, 19, 20, 7, 21, 22, 23, 24, 25, 26, 27, 28, 5, 6, 8, 34, 35, 36, 37, 38, 39, 40, 41, 42] (by decide +kernel) (by decide +kernel)
set_option maxRecDepth 20000 in
theorem gX3_settleMean_X3_meanBehind : GoodIn wsX3_settleMean (wsV RX3 92 RX3 yX3_meanBehind wsX3_meanBehind) := goodIn_app (goodIn_of _ (by decide +kernel)) ggX3_settleMean_X3_meanBehind
set_option maxRecDepth 20000 in
theorem ggX3_settleMean_X3_askedAt : GoodIn wsX3_settleMean wsX3_askedAt := goodIn_r _ [32, 33, 23, 24, 25, 34, 35, 36, 37, 38, 39, 40, 41, 42] (by decide +kernel) (by decide +kernel)
set_option maxRecDepth 20000 in
theorem gX3_settleMean_X3_askedAt : GoodIn wsX3_settleMean (wsV RX3 100 RX3 yX3_askedAt wsX3_askedAt) := goodIn_app (goodIn_of _ (by decide +kernel)) ggX3_settleMean_X3_askedAt
theorem dX3_settleMean_0 : decode cX3_settleMean 0 = .ok (.iload_n 1, 1) := by decide +kernel
theorem dX3_settleMean_1 : decode cX3_settleMean 1 = .ok (.iload_n 2, 1) := by decide +kernel
theorem dX3_settleMean_2 : decode cX3_settleMean 2 = .ok (.iload_n 3, 1) := by decide +kernel
theorem dX3_settleMean_3 : decode cX3_settleMean 3 = .ok (.invokestatic 82, 3) := by decide +kernel
theorem dX3_settleMean_6 : decode cX3_settleMean 6 = .ok (.istore 4, 2) := by decide +kernel
theorem dX3_settleMean_8 : decode cX3_settleMean 8 = .ok (.iload 4, 2) := by decide +kernel
theorem dX3_settleMean_10 : decode cX3_settleMean 10 = .ok (.iconst (-1), 1) := by decide +kernel
theorem dX3_settleMean_11 : decode cX3_settleMean 11 = .ok (.if_icmp .ne 4, 3) := by decide +kernel
theorem dX3_settleMean_14 : decode cX3_settleMean 14 = .ok (.return_, 1) := by decide +kernel
theorem dX3_settleMean_15 : decode cX3_settleMean 15 = .ok (.iload_n 2, 1) := by decide +kernel
theorem dX3_settleMean_16 : decode cX3_settleMean 16 = .ok (.ifCond .ne 20, 3) := by decide +kernel
theorem dX3_settleMean_19 : decode cX3_settleMean 19 = .ok (.aload_n 0, 1) := by decide +kernel
theorem dX3_settleMean_20 : decode cX3_settleMean 20 = .ok (.getfield 22, 3) := by decide +kernel
theorem dX3_settleMean_23 : decode cX3_settleMean 23 = .ok (.iload 4, 2) := by decide +kernel
theorem dX3_settleMean_25 : decode cX3_settleMean 25 = .ok (.lconst 0, 1) := by decide +kernel
theorem dX3_settleMean_26 : decode cX3_settleMean 26 = .ok (.lastore, 1) := by decide +kernel
theorem dX3_settleMean_27 : decode cX3_settleMean 27 = .ok (.aload_n 0, 1) := by decide +kernel
theorem dX3_settleMean_28 : decode cX3_settleMean 28 = .ok (.getfield 26, 3) := by decide +kernel
theorem dX3_settleMean_31 : decode cX3_settleMean 31 = .ok (.iload 4, 2) := by decide +kernel
theorem dX3_settleMean_33 : decode cX3_settleMean 33 = .ok (.iconst 0, 1) := by decide +kernel
theorem dX3_settleMean_34 : decode cX3_settleMean 34 = .ok (.iastore, 1) := by decide +kernel
theorem dX3_settleMean_35 : decode cX3_settleMean 35 = .ok (.return_, 1) := by decide +kernel
theorem dX3_settleMean_36 : decode cX3_settleMean 36 = .ok (.bipush 10, 2) := by decide +kernel
theorem dX3_settleMean_38 : decode cX3_settleMean 38 = .ok (.iload_n 1, 1) := by decide +kernel
theorem dX3_settleMean_39 : decode cX3_settleMean 39 = .ok (.invokestatic 86, 3) := by decide +kernel
theorem dX3_settleMean_42 : decode cX3_settleMean 42 = .ok (.lstore 5, 2) := by decide +kernel
theorem dX3_settleMean_44 : decode cX3_settleMean 44 = .ok (.aload_n 0, 1) := by decide +kernel
theorem dX3_settleMean_45 : decode cX3_settleMean 45 = .ok (.aload_n 0, 1) := by decide +kernel
theorem dX3_settleMean_46 : decode cX3_settleMean 46 = .ok (.getfield 22, 3) := by decide +kernel
theorem dX3_settleMean_49 : decode cX3_settleMean 49 = .ok (.iload_n 1, 1) := by decide +kernel
theorem dX3_settleMean_50 : decode cX3_settleMean 50 = .ok (.iconst 1, 1) := by decide +kernel
theorem dX3_settleMean_51 : decode cX3_settleMean 51 = .ok (.isub, 1) := by decide +kernel
theorem dX3_settleMean_52 : decode cX3_settleMean 52 = .ok (.iload_n 2, 1) := by decide +kernel
theorem dX3_settleMean_53 : decode cX3_settleMean 53 = .ok (.iconst 1, 1) := by decide +kernel
theorem dX3_settleMean_54 : decode cX3_settleMean 54 = .ok (.isub, 1) := by decide +kernel
theorem dX3_settleMean_55 : decode cX3_settleMean 55 = .ok (.iload_n 3, 1) := by decide +kernel
theorem dX3_settleMean_56 : decode cX3_settleMean 56 = .ok (.invokevirtual 92, 3) := by decide +kernel
theorem dX3_settleMean_59 : decode cX3_settleMean 59 = .ok (.lstore 7, 2) := by decide +kernel
theorem dX3_settleMean_61 : decode cX3_settleMean 61 = .ok (.aload_n 0, 1) := by decide +kernel
theorem dX3_settleMean_62 : decode cX3_settleMean 62 = .ok (.getfield 11, 3) := by decide +kernel
theorem dX3_settleMean_65 : decode cX3_settleMean 65 = .ok (.getfield 95, 3) := by decide +kernel
theorem dX3_settleMean_68 : decode cX3_settleMean 68 = .ok (.i2l, 1) := by decide +kernel
theorem dX3_settleMean_69 : decode cX3_settleMean 69 = .ok (.lload 5, 2) := by decide +kernel
theorem dX3_settleMean_71 : decode cX3_settleMean 71 = .ok (.lmul, 1) := by decide +kernel
theorem dX3_settleMean_72 : decode cX3_settleMean 72 = .ok (.lload 7, 2) := by decide +kernel
theorem dX3_settleMean_74 : decode cX3_settleMean 74 = .ok (.ladd, 1) := by decide +kernel
theorem dX3_settleMean_75 : decode cX3_settleMean 75 = .ok (.lstore 9, 2) := by decide +kernel
theorem dX3_settleMean_77 : decode cX3_settleMean 77 = .ok (.iconst 2, 1) := by decide +kernel
theorem dX3_settleMean_78 : decode cX3_settleMean 78 = .ok (.istore 11, 2) := by decide +kernel
theorem dX3_settleMean_80 : decode cX3_settleMean 80 = .ok (.aload_n 0, 1) := by decide +kernel
theorem dX3_settleMean_81 : decode cX3_settleMean 81 = .ok (.iload_n 3, 1) := by decide +kernel
theorem dX3_settleMean_82 : decode cX3_settleMean 82 = .ok (.invokevirtual 100, 3) := by decide +kernel
theorem dX3_settleMean_85 : decode cX3_settleMean 85 = .ok (.i2l, 1) := by decide +kernel
theorem dX3_settleMean_86 : decode cX3_settleMean 86 = .ok (.lload 5, 2) := by decide +kernel
theorem dX3_settleMean_88 : decode cX3_settleMean 88 = .ok (.lmul, 1) := by decide +kernel
theorem dX3_settleMean_89 : decode cX3_settleMean 89 = .ok (.lload 7, 2) := by decide +kernel
theorem dX3_settleMean_91 : decode cX3_settleMean 91 = .ok (.ladd, 1) := by decide +kernel
theorem dX3_settleMean_92 : decode cX3_settleMean 92 = .ok (.lstore 12, 2) := by decide +kernel
theorem dX3_settleMean_94 : decode cX3_settleMean 94 = .ok (.lload 12, 2) := by decide +kernel
theorem dX3_settleMean_96 : decode cX3_settleMean 96 = .ok (.lload 9, 2) := by decide +kernel
theorem dX3_settleMean_98 : decode cX3_settleMean 98 = .ok (.lcmp, 1) := by decide +kernel
theorem dX3_settleMean_99 : decode cX3_settleMean 99 = .ok (.ifCond .gt 10, 3) := by decide +kernel
theorem dX3_settleMean_102 : decode cX3_settleMean 102 = .ok (.lload 12, 2) := by decide +kernel
theorem dX3_settleMean_104 : decode cX3_settleMean 104 = .ok (.lstore 9, 2) := by decide +kernel
theorem dX3_settleMean_106 : decode cX3_settleMean 106 = .ok (.iconst 1, 1) := by decide +kernel
theorem dX3_settleMean_107 : decode cX3_settleMean 107 = .ok (.istore 11, 2) := by decide +kernel
theorem dX3_settleMean_109 : decode cX3_settleMean 109 = .ok (.aload_n 0, 1) := by decide +kernel
theorem dX3_settleMean_110 : decode cX3_settleMean 110 = .ok (.aload_n 0, 1) := by decide +kernel
theorem dX3_settleMean_111 : decode cX3_settleMean 111 = .ok (.getfield 22, 3) := by decide +kernel
theorem dX3_settleMean_114 : decode cX3_settleMean 114 = .ok (.iload_n 1, 1) := by decide +kernel
theorem dX3_settleMean_115 : decode cX3_settleMean 115 = .ok (.iconst 1, 1) := by decide +kernel
theorem dX3_settleMean_116 : decode cX3_settleMean 116 = .ok (.isub, 1) := by decide +kernel
theorem dX3_settleMean_117 : decode cX3_settleMean 117 = .ok (.iload_n 2, 1) := by decide +kernel
theorem dX3_settleMean_118 : decode cX3_settleMean 118 = .ok (.iload_n 3, 1) := by decide +kernel
theorem dX3_settleMean_119 : decode cX3_settleMean 119 = .ok (.invokevirtual 92, 3) := by decide +kernel
theorem dX3_settleMean_122 : decode cX3_settleMean 122 = .ok (.lstore 14, 2) := by decide +kernel
theorem dX3_settleMean_124 : decode cX3_settleMean 124 = .ok (.iload_n 2, 1) := by decide +kernel
theorem dX3_settleMean_125 : decode cX3_settleMean 125 = .ok (.iload_n 1, 1) := by decide +kernel
theorem dX3_settleMean_126 : decode cX3_settleMean 126 = .ok (.if_icmp .ge 18, 3) := by decide +kernel
theorem dX3_settleMean_129 : decode cX3_settleMean 129 = .ok (.lload 14, 2) := by decide +kernel
theorem dX3_settleMean_131 : decode cX3_settleMean 131 = .ok (.lload 9, 2) := by decide +kernel
theorem dX3_settleMean_133 : decode cX3_settleMean 133 = .ok (.lcmp, 1) := by decide +kernel
theorem dX3_settleMean_134 : decode cX3_settleMean 134 = .ok (.ifCond .gt 10, 3) := by decide +kernel
theorem dX3_settleMean_137 : decode cX3_settleMean 137 = .ok (.lload 14, 2) := by decide +kernel
theorem dX3_settleMean_139 : decode cX3_settleMean 139 = .ok (.lstore 9, 2) := by decide +kernel
theorem dX3_settleMean_141 : decode cX3_settleMean 141 = .ok (.iconst 0, 1) := by decide +kernel
theorem dX3_settleMean_142 : decode cX3_settleMean 142 = .ok (.istore 11, 2) := by decide +kernel
theorem dX3_settleMean_144 : decode cX3_settleMean 144 = .ok (.aload_n 0, 1) := by decide +kernel
theorem dX3_settleMean_145 : decode cX3_settleMean 145 = .ok (.getfield 22, 3) := by decide +kernel
theorem dX3_settleMean_148 : decode cX3_settleMean 148 = .ok (.iload 4, 2) := by decide +kernel
theorem dX3_settleMean_150 : decode cX3_settleMean 150 = .ok (.lload 9, 2) := by decide +kernel
theorem dX3_settleMean_152 : decode cX3_settleMean 152 = .ok (.lastore, 1) := by decide +kernel
theorem dX3_settleMean_153 : decode cX3_settleMean 153 = .ok (.aload_n 0, 1) := by decide +kernel
theorem dX3_settleMean_154 : decode cX3_settleMean 154 = .ok (.getfield 26, 3) := by decide +kernel
theorem dX3_settleMean_157 : decode cX3_settleMean 157 = .ok (.iload 4, 2) := by decide +kernel
theorem dX3_settleMean_159 : decode cX3_settleMean 159 = .ok (.iload 11, 2) := by decide +kernel
theorem dX3_settleMean_161 : decode cX3_settleMean 161 = .ok (.iastore, 1) := by decide +kernel
theorem dX3_settleMean_162 : decode cX3_settleMean 162 = .ok (.return_, 1) := by decide +kernel
set_option maxRecDepth 20000 in
theorem ggX3_settleGreatest_X3_stateOf : GoodIn wsX3_settleGreatest wsX3_stateOf := goodIn_r _ [8] (by decide +kernel) (by decide +kernel)
set_option maxRecDepth 20000 in
theorem gX3_settleGreatest_X3_stateOf : GoodIn wsX3_settleGreatest (va_wsS RX3 82 yX3_stateOf wsX3_stateOf) := goodIn_app (goodIn_of _ (by decide +kernel)) ggX3_settleGreatest_X3_stateOf
set_option maxRecDepth 20000 in
theorem ggX3_settleGreatest_X3_greatestBehind : GoodIn wsX3_settleGreatest wsX3_greatestBehind := goodIn_r _ [12, 13, 1, 14, 15, 16, 17, 18, 19, 20, 7, 21, 22, 23, 24, 25, 26, 27, 28, 5, 6, 8, 34, 35, 36, 37, 38, 39, 40, 41, 42] (by decide +kernel) (by decide +kernel)
set_option maxRecDepth 20000 in
theorem gX3_settleGreatest_X3_greatestBehind : GoodIn wsX3_settleGreatest (wsV RX3 104 RX3 yX3_greatestBehind wsX3_greatestBehind) := goodIn_app (goodIn_of _ (by decide +kernel)) ggX3_settleGreatest_X3_greatestBehind
set_option maxRecDepth 20000 in
theorem ggX3_settleGreatest_X3_askedAt : GoodIn wsX3_settleGreatest wsX3_askedAt := goodIn_r _ [32, 33, 23, 24, 25, 34, 35, 36, 37, 38, 39, 40, 41, 42] (by decide +kernel) (by decide +kernel)
set_option maxRecDepth 20000 in
theorem gX3_settleGreatest_X3_askedAt : GoodIn wsX3_settleGreatest (wsV RX3 100 RX3 yX3_askedAt wsX3_askedAt) := goodIn_app (goodIn_of _ (by decide +kernel)) ggX3_settleGreatest_X3_askedAt
theorem dX3_settleGreatest_0 : decode cX3_settleGreatest 0 = .ok (.iload_n 1, 1) := by decide +kernel
theorem dX3_settleGreatest_1 : decode cX3_settleGreatest 1 = .ok (.iload_n 2, 1) := by decide +kernel
theorem dX3_settleGreatest_2 : decode cX3_settleGreatest 2 = .ok (.iload_n 3, 1) := by decide +kernel
theorem dX3_settleGreatest_3 : decode cX3_settleGreatest 3 = .ok (.invokestatic 82, 3) := by decide +kernel
theorem dX3_settleGreatest_6 : decode cX3_settleGreatest 6 = .ok (.istore 4, 2) := by decide +kernel
theorem dX3_settleGreatest_8 : decode cX3_settleGreatest 8 = .ok (.iload 4, 2) := by decide +kernel
theorem dX3_settleGreatest_10 : decode cX3_settleGreatest 10 = .ok (.iconst (-1), 1) := by decide +kernel
theorem dX3_settleGreatest_11 : decode cX3_settleGreatest 11 = .ok (.if_icmp .ne 4, 3) := by decide +kernel
theorem dX3_settleGreatest_14 : decode cX3_settleGreatest 14 = .ok (.return_, 1) := by decide +kernel
theorem dX3_settleGreatest_15 : decode cX3_settleGreatest 15 = .ok (.iload_n 2, 1) := by decide +kernel
theorem dX3_settleGreatest_16 : decode cX3_settleGreatest 16 = .ok (.ifCond .ne 14, 3) := by decide +kernel
theorem dX3_settleGreatest_19 : decode cX3_settleGreatest 19 = .ok (.aload_n 0, 1) := by decide +kernel
theorem dX3_settleGreatest_20 : decode cX3_settleGreatest 20 = .ok (.getfield 29, 3) := by decide +kernel
theorem dX3_settleGreatest_23 : decode cX3_settleGreatest 23 = .ok (.iload 4, 2) := by decide +kernel
theorem dX3_settleGreatest_25 : decode cX3_settleGreatest 25 = .ok (.iconst 0, 1) := by decide +kernel
theorem dX3_settleGreatest_26 : decode cX3_settleGreatest 26 = .ok (.iastore, 1) := by decide +kernel
theorem dX3_settleGreatest_27 : decode cX3_settleGreatest 27 = .ok (.goto 81, 3) := by decide +kernel
theorem dX3_settleGreatest_30 : decode cX3_settleGreatest 30 = .ok (.aload_n 0, 1) := by decide +kernel
theorem dX3_settleGreatest_31 : decode cX3_settleGreatest 31 = .ok (.getfield 26, 3) := by decide +kernel
theorem dX3_settleGreatest_34 : decode cX3_settleGreatest 34 = .ok (.iload 4, 2) := by decide +kernel
theorem dX3_settleGreatest_36 : decode cX3_settleGreatest 36 = .ok (.iaload, 1) := by decide +kernel
theorem dX3_settleGreatest_37 : decode cX3_settleGreatest 37 = .ok (.ifCond .ne 22, 3) := by decide +kernel
theorem dX3_settleGreatest_40 : decode cX3_settleGreatest 40 = .ok (.aload_n 0, 1) := by decide +kernel
theorem dX3_settleGreatest_41 : decode cX3_settleGreatest 41 = .ok (.getfield 29, 3) := by decide +kernel
theorem dX3_settleGreatest_44 : decode cX3_settleGreatest 44 = .ok (.iload 4, 2) := by decide +kernel
theorem dX3_settleGreatest_46 : decode cX3_settleGreatest 46 = .ok (.aload_n 0, 1) := by decide +kernel
theorem dX3_settleGreatest_47 : decode cX3_settleGreatest 47 = .ok (.iload_n 1, 1) := by decide +kernel
theorem dX3_settleGreatest_48 : decode cX3_settleGreatest 48 = .ok (.iconst 1, 1) := by decide +kernel
theorem dX3_settleGreatest_49 : decode cX3_settleGreatest 49 = .ok (.isub, 1) := by decide +kernel
theorem dX3_settleGreatest_50 : decode cX3_settleGreatest 50 = .ok (.iload_n 2, 1) := by decide +kernel
theorem dX3_settleGreatest_51 : decode cX3_settleGreatest 51 = .ok (.iload_n 3, 1) := by decide +kernel
theorem dX3_settleGreatest_52 : decode cX3_settleGreatest 52 = .ok (.invokevirtual 104, 3) := by decide +kernel
theorem dX3_settleGreatest_55 : decode cX3_settleGreatest 55 = .ok (.iastore, 1) := by decide +kernel
theorem dX3_settleGreatest_56 : decode cX3_settleGreatest 56 = .ok (.goto 52, 3) := by decide +kernel
theorem dX3_settleGreatest_59 : decode cX3_settleGreatest 59 = .ok (.aload_n 0, 1) := by decide +kernel
theorem dX3_settleGreatest_60 : decode cX3_settleGreatest 60 = .ok (.getfield 26, 3) := by decide +kernel
theorem dX3_settleGreatest_63 : decode cX3_settleGreatest 63 = .ok (.iload 4, 2) := by decide +kernel
theorem dX3_settleGreatest_65 : decode cX3_settleGreatest 65 = .ok (.iaload, 1) := by decide +kernel
theorem dX3_settleGreatest_66 : decode cX3_settleGreatest 66 = .ok (.iconst 1, 1) := by decide +kernel
theorem dX3_settleGreatest_67 : decode cX3_settleGreatest 67 = .ok (.if_icmp .ne 11, 3) := by decide +kernel
theorem dX3_settleGreatest_70 : decode cX3_settleGreatest 70 = .ok (.aload_n 0, 1) := by decide +kernel
theorem dX3_settleGreatest_71 : decode cX3_settleGreatest 71 = .ok (.iload_n 3, 1) := by decide +kernel
theorem dX3_settleGreatest_72 : decode cX3_settleGreatest 72 = .ok (.invokevirtual 100, 3) := by decide +kernel
theorem dX3_settleGreatest_75 : decode cX3_settleGreatest 75 = .ok (.goto 10, 3) := by decide +kernel
theorem dX3_settleGreatest_78 : decode cX3_settleGreatest 78 = .ok (.aload_n 0, 1) := by decide +kernel
theorem dX3_settleGreatest_79 : decode cX3_settleGreatest 79 = .ok (.getfield 11, 3) := by decide +kernel
theorem dX3_settleGreatest_82 : decode cX3_settleGreatest 82 = .ok (.getfield 95, 3) := by decide +kernel
theorem dX3_settleGreatest_85 : decode cX3_settleGreatest 85 = .ok (.istore 5, 2) := by decide +kernel
theorem dX3_settleGreatest_87 : decode cX3_settleGreatest 87 = .ok (.aload_n 0, 1) := by decide +kernel
theorem dX3_settleGreatest_88 : decode cX3_settleGreatest 88 = .ok (.getfield 29, 3) := by decide +kernel
theorem dX3_settleGreatest_91 : decode cX3_settleGreatest 91 = .ok (.iload 4, 2) := by decide +kernel
theorem dX3_settleGreatest_93 : decode cX3_settleGreatest 93 = .ok (.iload 5, 2) := by decide +kernel
theorem dX3_settleGreatest_95 : decode cX3_settleGreatest 95 = .ok (.aload_n 0, 1) := by decide +kernel
theorem dX3_settleGreatest_96 : decode cX3_settleGreatest 96 = .ok (.iload_n 1, 1) := by decide +kernel
theorem dX3_settleGreatest_97 : decode cX3_settleGreatest 97 = .ok (.iconst 1, 1) := by decide +kernel
theorem dX3_settleGreatest_98 : decode cX3_settleGreatest 98 = .ok (.isub, 1) := by decide +kernel
theorem dX3_settleGreatest_99 : decode cX3_settleGreatest 99 = .ok (.iload_n 2, 1) := by decide +kernel
theorem dX3_settleGreatest_100 : decode cX3_settleGreatest 100 = .ok (.iconst 1, 1) := by decide +kernel
theorem dX3_settleGreatest_101 : decode cX3_settleGreatest 101 = .ok (.isub, 1) := by decide +kernel
theorem dX3_settleGreatest_102 : decode cX3_settleGreatest 102 = .ok (.iload_n 3, 1) := by decide +kernel
theorem dX3_settleGreatest_103 : decode cX3_settleGreatest 103 = .ok (.invokevirtual 104, 3) := by decide +kernel
theorem dX3_settleGreatest_106 : decode cX3_settleGreatest 106 = .ok (.iadd, 1) := by decide +kernel
theorem dX3_settleGreatest_107 : decode cX3_settleGreatest 107 = .ok (.iastore, 1) := by decide +kernel
theorem dX3_settleGreatest_108 : decode cX3_settleGreatest 108 = .ok (.return_, 1) := by decide +kernel
set_option maxRecDepth 20000 in
theorem ggX3_settleCapped_X3_stateOf : GoodIn wsX3_settleCapped wsX3_stateOf := goodIn_r _ [11] (by decide +kernel) (by decide +kernel)
set_option maxRecDepth 20000 in
theorem gX3_settleCapped_X3_stateOf : GoodIn wsX3_settleCapped (va_wsS RX3 82 yX3_stateOf wsX3_stateOf) := goodIn_app (goodIn_of _ (by decide +kernel)) ggX3_settleCapped_X3_stateOf
set_option maxRecDepth 20000 in
theorem ggX3_settleCapped_X3_askedAt : GoodIn wsX3_settleCapped wsX3_askedAt := goodIn_r _ [15, 16, 17, 18, 19, 37, 38, 39, 40, 41, 42, 43, 44, 45] (by decide +kernel) (by decide +kernel)
set_option maxRecDepth 20000 in
theorem gX3_settleCapped_X3_askedAt : GoodIn wsX3_settleCapped (wsV RX3 100 RX3 yX3_askedAt wsX3_askedAt) := goodIn_app (goodIn_of _ (by decide +kernel)) ggX3_settleCapped_X3_askedAt
set_option maxRecDepth 20000 in
theorem ggX3_settleCapped_X3_meanBehind : GoodIn wsX3_settleCapped wsX3_meanBehind := goodIn_r _ [23, 24, 25, 26, 27, 10, 28, 29, 17, 18, 19, 30, 31, 32, 8, 9, 11, 37, 38, 39, 40, 41, 42, 43, 44, 45] (by decide +kernel) (by decide +kernel)
set_option maxRecDepth 20000 in
theorem gX3_settleCapped_X3_meanBehind : GoodIn wsX3_settleCapped (wsV RX3 92 RX3 yX3_meanBehind wsX3_meanBehind) := goodIn_app (goodIn_of _ (by decide +kernel)) ggX3_settleCapped_X3_meanBehind
set_option maxRecDepth 20000 in
theorem ggX3_settleCapped_X2_power : GoodIn wsX3_settleCapped wsX2_power := goodIn_r _ [36] (by decide +kernel) (by decide +kernel)
set_option maxRecDepth 20000 in
theorem gX3_settleCapped_X2_power : GoodIn wsX3_settleCapped (va_wsS RX3 86 yX2_power wsX2_power) := goodIn_app (goodIn_of _ (by decide +kernel)) ggX3_settleCapped_X2_power
theorem dX3_settleCapped_0 : decode cX3_settleCapped 0 = .ok (.iload_n 1, 1) := by decide +kernel
theorem dX3_settleCapped_1 : decode cX3_settleCapped 1 = .ok (.iload_n 2, 1) := by decide +kernel
theorem dX3_settleCapped_2 : decode cX3_settleCapped 2 = .ok (.iload_n 3, 1) := by decide +kernel
theorem dX3_settleCapped_3 : decode cX3_settleCapped 3 = .ok (.invokestatic 82, 3) := by decide +kernel
theorem dX3_settleCapped_6 : decode cX3_settleCapped 6 = .ok (.istore 5, 2) := by decide +kernel
theorem dX3_settleCapped_8 : decode cX3_settleCapped 8 = .ok (.iload 5, 2) := by decide +kernel
theorem dX3_settleCapped_10 : decode cX3_settleCapped 10 = .ok (.iconst (-1), 1) := by decide +kernel
theorem dX3_settleCapped_11 : decode cX3_settleCapped 11 = .ok (.if_icmp .ne 4, 3) := by decide +kernel
theorem dX3_settleCapped_14 : decode cX3_settleCapped 14 = .ok (.return_, 1) := by decide +kernel
theorem dX3_settleCapped_15 : decode cX3_settleCapped 15 = .ok (.aload_n 0, 1) := by decide +kernel
theorem dX3_settleCapped_16 : decode cX3_settleCapped 16 = .ok (.iload_n 3, 1) := by decide +kernel
theorem dX3_settleCapped_17 : decode cX3_settleCapped 17 = .ok (.invokevirtual 100, 3) := by decide +kernel
theorem dX3_settleCapped_20 : decode cX3_settleCapped 20 = .ok (.istore 6, 2) := by decide +kernel
theorem dX3_settleCapped_22 : decode cX3_settleCapped 22 = .ok (.iload_n 2, 1) := by decide +kernel
theorem dX3_settleCapped_23 : decode cX3_settleCapped 23 = .ok (.ifCond .ne 14, 3) := by decide +kernel
theorem dX3_settleCapped_26 : decode cX3_settleCapped 26 = .ok (.aload_n 0, 1) := by decide +kernel
theorem dX3_settleCapped_27 : decode cX3_settleCapped 27 = .ok (.getfield 32, 3) := by decide +kernel
theorem dX3_settleCapped_30 : decode cX3_settleCapped 30 = .ok (.iload 5, 2) := by decide +kernel
theorem dX3_settleCapped_32 : decode cX3_settleCapped 32 = .ok (.lconst 0, 1) := by decide +kernel
theorem dX3_settleCapped_33 : decode cX3_settleCapped 33 = .ok (.lastore, 1) := by decide +kernel
theorem dX3_settleCapped_34 : decode cX3_settleCapped 34 = .ok (.goto 97, 3) := by decide +kernel
theorem dX3_settleCapped_37 : decode cX3_settleCapped 37 = .ok (.iload 6, 2) := by decide +kernel
theorem dX3_settleCapped_39 : decode cX3_settleCapped 39 = .ok (.iload 4, 2) := by decide +kernel
theorem dX3_settleCapped_41 : decode cX3_settleCapped 41 = .ok (.if_icmp .le 31, 3) := by decide +kernel
theorem dX3_settleCapped_44 : decode cX3_settleCapped 44 = .ok (.iload_n 2, 1) := by decide +kernel
theorem dX3_settleCapped_45 : decode cX3_settleCapped 45 = .ok (.iload_n 1, 1) := by decide +kernel
theorem dX3_settleCapped_46 : decode cX3_settleCapped 46 = .ok (.if_icmp .ge 26, 3) := by decide +kernel
theorem dX3_settleCapped_49 : decode cX3_settleCapped 49 = .ok (.aload_n 0, 1) := by decide +kernel
theorem dX3_settleCapped_50 : decode cX3_settleCapped 50 = .ok (.getfield 32, 3) := by decide +kernel
theorem dX3_settleCapped_53 : decode cX3_settleCapped 53 = .ok (.iload 5, 2) := by decide +kernel
theorem dX3_settleCapped_55 : decode cX3_settleCapped 55 = .ok (.aload_n 0, 1) := by decide +kernel
theorem dX3_settleCapped_56 : decode cX3_settleCapped 56 = .ok (.aload_n 0, 1) := by decide +kernel
theorem dX3_settleCapped_57 : decode cX3_settleCapped 57 = .ok (.getfield 32, 3) := by decide +kernel
theorem dX3_settleCapped_60 : decode cX3_settleCapped 60 = .ok (.iload_n 1, 1) := by decide +kernel
theorem dX3_settleCapped_61 : decode cX3_settleCapped 61 = .ok (.iconst 1, 1) := by decide +kernel
theorem dX3_settleCapped_62 : decode cX3_settleCapped 62 = .ok (.isub, 1) := by decide +kernel
theorem dX3_settleCapped_63 : decode cX3_settleCapped 63 = .ok (.iload_n 2, 1) := by decide +kernel
theorem dX3_settleCapped_64 : decode cX3_settleCapped 64 = .ok (.iload_n 3, 1) := by decide +kernel
theorem dX3_settleCapped_65 : decode cX3_settleCapped 65 = .ok (.invokevirtual 92, 3) := by decide +kernel
theorem dX3_settleCapped_68 : decode cX3_settleCapped 68 = .ok (.lastore, 1) := by decide +kernel
theorem dX3_settleCapped_69 : decode cX3_settleCapped 69 = .ok (.goto 62, 3) := by decide +kernel
theorem dX3_settleCapped_72 : decode cX3_settleCapped 72 = .ok (.iload 6, 2) := by decide +kernel
theorem dX3_settleCapped_74 : decode cX3_settleCapped 74 = .ok (.iload 4, 2) := by decide +kernel
theorem dX3_settleCapped_76 : decode cX3_settleCapped 76 = .ok (.if_icmp .le 18, 3) := by decide +kernel
theorem dX3_settleCapped_79 : decode cX3_settleCapped 79 = .ok (.iload 6, 2) := by decide +kernel
theorem dX3_settleCapped_81 : decode cX3_settleCapped 81 = .ok (.aload_n 0, 1) := by decide +kernel
theorem dX3_settleCapped_82 : decode cX3_settleCapped 82 = .ok (.getfield 11, 3) := by decide +kernel
theorem dX3_settleCapped_85 : decode cX3_settleCapped 85 = .ok (.getfield 95, 3) := by decide +kernel
theorem dX3_settleCapped_88 : decode cX3_settleCapped 88 = .ok (.invokestatic 66, 3) := by decide +kernel
theorem dX3_settleCapped_91 : decode cX3_settleCapped 91 = .ok (.goto 5, 3) := by decide +kernel
theorem dX3_settleCapped_94 : decode cX3_settleCapped 94 = .ok (.iload 6, 2) := by decide +kernel
theorem dX3_settleCapped_96 : decode cX3_settleCapped 96 = .ok (.istore 7, 2) := by decide +kernel
theorem dX3_settleCapped_98 : decode cX3_settleCapped 98 = .ok (.aload_n 0, 1) := by decide +kernel
theorem dX3_settleCapped_99 : decode cX3_settleCapped 99 = .ok (.getfield 32, 3) := by decide +kernel
theorem dX3_settleCapped_102 : decode cX3_settleCapped 102 = .ok (.iload 5, 2) := by decide +kernel
theorem dX3_settleCapped_104 : decode cX3_settleCapped 104 = .ok (.iload 7, 2) := by decide +kernel
theorem dX3_settleCapped_106 : decode cX3_settleCapped 106 = .ok (.i2l, 1) := by decide +kernel
theorem dX3_settleCapped_107 : decode cX3_settleCapped 107 = .ok (.bipush 10, 2) := by decide +kernel
theorem dX3_settleCapped_109 : decode cX3_settleCapped 109 = .ok (.iload_n 1, 1) := by decide +kernel
theorem dX3_settleCapped_110 : decode cX3_settleCapped 110 = .ok (.invokestatic 86, 3) := by decide +kernel
theorem dX3_settleCapped_113 : decode cX3_settleCapped 113 = .ok (.lmul, 1) := by decide +kernel
theorem dX3_settleCapped_114 : decode cX3_settleCapped 114 = .ok (.aload_n 0, 1) := by decide +kernel
theorem dX3_settleCapped_115 : decode cX3_settleCapped 115 = .ok (.aload_n 0, 1) := by decide +kernel
theorem dX3_settleCapped_116 : decode cX3_settleCapped 116 = .ok (.getfield 32, 3) := by decide +kernel
theorem dX3_settleCapped_119 : decode cX3_settleCapped 119 = .ok (.iload_n 1, 1) := by decide +kernel
theorem dX3_settleCapped_120 : decode cX3_settleCapped 120 = .ok (.iconst 1, 1) := by decide +kernel
theorem dX3_settleCapped_121 : decode cX3_settleCapped 121 = .ok (.isub, 1) := by decide +kernel
theorem dX3_settleCapped_122 : decode cX3_settleCapped 122 = .ok (.iload_n 2, 1) := by decide +kernel
theorem dX3_settleCapped_123 : decode cX3_settleCapped 123 = .ok (.iconst 1, 1) := by decide +kernel
theorem dX3_settleCapped_124 : decode cX3_settleCapped 124 = .ok (.isub, 1) := by decide +kernel
theorem dX3_settleCapped_125 : decode cX3_settleCapped 125 = .ok (.iload_n 3, 1) := by decide +kernel
theorem dX3_settleCapped_126 : decode cX3_settleCapped 126 = .ok (.invokevirtual 92, 3) := by decide +kernel
theorem dX3_settleCapped_129 : decode cX3_settleCapped 129 = .ok (.ladd, 1) := by decide +kernel
theorem dX3_settleCapped_130 : decode cX3_settleCapped 130 = .ok (.lastore, 1) := by decide +kernel
theorem dX3_settleCapped_131 : decode cX3_settleCapped 131 = .ok (.return_, 1) := by decide +kernel
set_option maxRecDepth 20000 in
theorem ggX3_meanBehind_X3_chanceOf : GoodIn wsX3_meanBehind wsX3_chanceOf := goodIn_r _ [6, 7, 8, 9, 10, 17, 18, 19, 20, 21, 22, 23, 24, 25] (by decide +kernel) (by decide +kernel)
set_option maxRecDepth 20000 in
theorem gX3_meanBehind_X3_chanceOf : GoodIn wsX3_meanBehind (wsV RX3 107 RX3 yX3_chanceOf wsX3_chanceOf) := goodIn_app (goodIn_of _ (by decide +kernel)) ggX3_meanBehind_X3_chanceOf
set_option maxRecDepth 20000 in
theorem ggX3_meanBehind_X3_read : GoodIn wsX3_meanBehind wsX3_read := goodIn_r _ [13, 14, 15, 5, 16, 8, 9, 10] (by decide +kernel) (by decide +kernel)
set_option maxRecDepth 20000 in
theorem gX3_meanBehind_X3_read : GoodIn wsX3_meanBehind (va_wsS RX3 58 yX3_read wsX3_read) := goodIn_app (goodIn_of _ (by decide +kernel)) ggX3_meanBehind_X3_read
theorem dX3_meanBehind_0 : decode cX3_meanBehind 0 = .ok (.lconst 0, 1) := by decide +kernel
theorem dX3_meanBehind_1 : decode cX3_meanBehind 1 = .ok (.lstore 5, 2) := by decide +kernel
theorem dX3_meanBehind_3 : decode cX3_meanBehind 3 = .ok (.iconst 0, 1) := by decide +kernel
theorem dX3_meanBehind_4 : decode cX3_meanBehind 4 = .ok (.istore 7, 2) := by decide +kernel
theorem dX3_meanBehind_6 : decode cX3_meanBehind 6 = .ok (.iload 7, 2) := by decide +kernel
theorem dX3_meanBehind_8 : decode cX3_meanBehind 8 = .ok (.aload_n 0, 1) := by decide +kernel
theorem dX3_meanBehind_9 : decode cX3_meanBehind 9 = .ok (.getfield 39, 3) := by decide +kernel
theorem dX3_meanBehind_12 : decode cX3_meanBehind 12 = .ok (.if_icmp .ge 32, 3) := by decide +kernel
theorem dX3_meanBehind_15 : decode cX3_meanBehind 15 = .ok (.lload 5, 2) := by decide +kernel
theorem dX3_meanBehind_17 : decode cX3_meanBehind 17 = .ok (.aload_n 0, 1) := by decide +kernel
theorem dX3_meanBehind_18 : decode cX3_meanBehind 18 = .ok (.iload 4, 2) := by decide +kernel
theorem dX3_meanBehind_20 : decode cX3_meanBehind 20 = .ok (.iload 7, 2) := by decide +kernel
theorem dX3_meanBehind_22 : decode cX3_meanBehind 22 = .ok (.invokevirtual 107, 3) := by decide +kernel
theorem dX3_meanBehind_25 : decode cX3_meanBehind 25 = .ok (.i2l, 1) := by decide +kernel
theorem dX3_meanBehind_26 : decode cX3_meanBehind 26 = .ok (.aload_n 1, 1) := by decide +kernel
theorem dX3_meanBehind_27 : decode cX3_meanBehind 27 = .ok (.iload_n 2, 1) := by decide +kernel
theorem dX3_meanBehind_28 : decode cX3_meanBehind 28 = .ok (.iload_n 3, 1) := by decide +kernel
theorem dX3_meanBehind_29 : decode cX3_meanBehind 29 = .ok (.iload 7, 2) := by decide +kernel
theorem dX3_meanBehind_31 : decode cX3_meanBehind 31 = .ok (.invokestatic 58, 3) := by decide +kernel
theorem dX3_meanBehind_34 : decode cX3_meanBehind 34 = .ok (.lmul, 1) := by decide +kernel
theorem dX3_meanBehind_35 : decode cX3_meanBehind 35 = .ok (.ladd, 1) := by decide +kernel
theorem dX3_meanBehind_36 : decode cX3_meanBehind 36 = .ok (.lstore 5, 2) := by decide +kernel
theorem dX3_meanBehind_38 : decode cX3_meanBehind 38 = .ok (.iinc 7 1, 3) := by decide +kernel
theorem dX3_meanBehind_41 : decode cX3_meanBehind 41 = .ok (.goto (-35), 3) := by decide +kernel
theorem dX3_meanBehind_44 : decode cX3_meanBehind 44 = .ok (.lload 5, 2) := by decide +kernel
theorem dX3_meanBehind_46 : decode cX3_meanBehind 46 = .ok (.lreturn, 1) := by decide +kernel
set_option maxRecDepth 20000 in
theorem ggX3_greatestBehind_X3_chanceOf : GoodIn wsX3_greatestBehind wsX3_chanceOf := goodIn_r _ [11, 12, 13, 14, 15, 22, 23, 24, 25, 26, 27, 28, 29, 30] (by decide +kernel) (by decide +kernel)
set_option maxRecDepth 20000 in
theorem gX3_greatestBehind_X3_chanceOf : GoodIn wsX3_greatestBehind (wsV RX3 107 RX3 yX3_chanceOf wsX3_chanceOf) := goodIn_app (goodIn_of _ (by decide +kernel)) ggX3_greatestBehind_X3_chanceOf
set_option maxRecDepth 20000 in
theorem ggX3_greatestBehind_X3_readInt : GoodIn wsX3_greatestBehind wsX3_readInt := goodIn_r _ [18, 19, 20, 10, 21, 13, 14, 15] (by decide +kernel) (by decide +kernel)
set_option maxRecDepth 20000 in
theorem gX3_greatestBehind_X3_readInt : GoodIn wsX3_greatestBehind (va_wsS RX3 62 yX3_readInt wsX3_readInt) := goodIn_app (goodIn_of _ (by decide +kernel)) ggX3_greatestBehind_X3_readInt
theorem dX3_greatestBehind_0 : decode cX3_greatestBehind 0 = .ok (.iconst 0, 1) := by decide +kernel
theorem dX3_greatestBehind_1 : decode cX3_greatestBehind 1 = .ok (.istore 4, 2) := by decide +kernel
theorem dX3_greatestBehind_3 : decode cX3_greatestBehind 3 = .ok (.iconst 0, 1) := by decide +kernel
theorem dX3_greatestBehind_4 : decode cX3_greatestBehind 4 = .ok (.istore 5, 2) := by decide +kernel
theorem dX3_greatestBehind_6 : decode cX3_greatestBehind 6 = .ok (.iload 5, 2) := by decide +kernel
theorem dX3_greatestBehind_8 : decode cX3_greatestBehind 8 = .ok (.aload_n 0, 1) := by decide +kernel
theorem dX3_greatestBehind_9 : decode cX3_greatestBehind 9 = .ok (.getfield 39, 3) := by decide +kernel
theorem dX3_greatestBehind_12 : decode cX3_greatestBehind 12 = .ok (.if_icmp .ge 37, 3) := by decide +kernel
theorem dX3_greatestBehind_15 : decode cX3_greatestBehind 15 = .ok (.aload_n 0, 1) := by decide +kernel
theorem dX3_greatestBehind_16 : decode cX3_greatestBehind 16 = .ok (.iload_n 3, 1) := by decide +kernel
theorem dX3_greatestBehind_17 : decode cX3_greatestBehind 17 = .ok (.iload 5, 2) := by decide +kernel
theorem dX3_greatestBehind_19 : decode cX3_greatestBehind 19 = .ok (.invokevirtual 107, 3) := by decide +kernel
theorem dX3_greatestBehind_22 : decode cX3_greatestBehind 22 = .ok (.ifCond .le 21, 3) := by decide +kernel
theorem dX3_greatestBehind_25 : decode cX3_greatestBehind 25 = .ok (.iload 4, 2) := by decide +kernel
theorem dX3_greatestBehind_27 : decode cX3_greatestBehind 27 = .ok (.aload_n 0, 1) := by decide +kernel
theorem dX3_greatestBehind_28 : decode cX3_greatestBehind 28 = .ok (.getfield 29, 3) := by decide +kernel
theorem dX3_greatestBehind_31 : decode cX3_greatestBehind 31 = .ok (.iload_n 1, 1) := by decide +kernel
theorem dX3_greatestBehind_32 : decode cX3_greatestBehind 32 = .ok (.iload_n 2, 1) := by decide +kernel
theorem dX3_greatestBehind_33 : decode cX3_greatestBehind 33 = .ok (.iload 5, 2) := by decide +kernel
theorem dX3_greatestBehind_35 : decode cX3_greatestBehind 35 = .ok (.invokestatic 62, 3) := by decide +kernel
theorem dX3_greatestBehind_38 : decode cX3_greatestBehind 38 = .ok (.invokestatic 110, 3) := by decide +kernel
theorem dX3_greatestBehind_41 : decode cX3_greatestBehind 41 = .ok (.istore 4, 2) := by decide +kernel
theorem dX3_greatestBehind_43 : decode cX3_greatestBehind 43 = .ok (.iinc 5 1, 3) := by decide +kernel
theorem dX3_greatestBehind_46 : decode cX3_greatestBehind 46 = .ok (.goto (-40), 3) := by decide +kernel
theorem dX3_greatestBehind_49 : decode cX3_greatestBehind 49 = .ok (.iload 4, 2) := by decide +kernel
theorem dX3_greatestBehind_51 : decode cX3_greatestBehind 51 = .ok (.ireturn, 1) := by decide +kernel
set_option maxRecDepth 20000 in
theorem ggX3_askedAt_X6_within : GoodIn wsX3_askedAt wsX6_within := goodIn_r _ [4] (by decide +kernel) (by decide +kernel)
set_option maxRecDepth 20000 in
theorem gX3_askedAt_X6_within_n47 : GoodIn wsX3_askedAt (wsX6_within) := ggX3_askedAt_X6_within
theorem dX3_askedAt_0 : decode cX3_askedAt 0 = .ok (.iload_n 1, 1) := by decide +kernel
theorem dX3_askedAt_1 : decode cX3_askedAt 1 = .ok (.iconst 0, 1) := by decide +kernel
theorem dX3_askedAt_2 : decode cX3_askedAt 2 = .ok (.aload_n 0, 1) := by decide +kernel
theorem dX3_askedAt_3 : decode cX3_askedAt 3 = .ok (.getfield 15, 3) := by decide +kernel
theorem dX3_askedAt_6 : decode cX3_askedAt 6 = .ok (.arraylength, 1) := by decide +kernel
theorem dX3_askedAt_7 : decode cX3_askedAt 7 = .ok (.iconst 1, 1) := by decide +kernel
theorem dX3_askedAt_8 : decode cX3_askedAt 8 = .ok (.isub, 1) := by decide +kernel
theorem dX3_askedAt_9 : decode cX3_askedAt 9 = .ok (.invokestatic 47, 3) := by decide +kernel
theorem dX3_askedAt_12 : decode cX3_askedAt 12 = .ok (.ifCond .eq 12, 3) := by decide +kernel
theorem dX3_askedAt_15 : decode cX3_askedAt 15 = .ok (.aload_n 0, 1) := by decide +kernel
theorem dX3_askedAt_16 : decode cX3_askedAt 16 = .ok (.getfield 15, 3) := by decide +kernel
theorem dX3_askedAt_19 : decode cX3_askedAt 19 = .ok (.iload_n 1, 1) := by decide +kernel
theorem dX3_askedAt_20 : decode cX3_askedAt 20 = .ok (.iaload, 1) := by decide +kernel
theorem dX3_askedAt_21 : decode cX3_askedAt 21 = .ok (.goto 4, 3) := by decide +kernel
theorem dX3_askedAt_24 : decode cX3_askedAt 24 = .ok (.iconst 0, 1) := by decide +kernel
theorem dX3_askedAt_25 : decode cX3_askedAt 25 = .ok (.ireturn, 1) := by decide +kernel
set_option maxRecDepth 20000 in
theorem ggX3_chanceOf_X6_within : GoodIn wsX3_chanceOf wsX6_within := goodIn_r _ [4] (by decide +kernel) (by decide +kernel)
set_option maxRecDepth 20000 in
theorem gX3_chanceOf_X6_within_n47 : GoodIn wsX3_chanceOf (wsX6_within) := ggX3_chanceOf_X6_within
theorem dX3_chanceOf_0 : decode cX3_chanceOf 0 = .ok (.iload_n 1, 1) := by decide +kernel
theorem dX3_chanceOf_1 : decode cX3_chanceOf 1 = .ok (.iconst 0, 1) := by decide +kernel
theorem dX3_chanceOf_2 : decode cX3_chanceOf 2 = .ok (.iconst 5, 1) := by decide +kernel
theorem dX3_chanceOf_3 : decode cX3_chanceOf 3 = .ok (.invokestatic 47, 3) := by decide +kernel
theorem dX3_chanceOf_6 : decode cX3_chanceOf 6 = .ok (.ifCond .eq 16, 3) := by decide +kernel
theorem dX3_chanceOf_9 : decode cX3_chanceOf 9 = .ok (.iload_n 2, 1) := by decide +kernel
theorem dX3_chanceOf_10 : decode cX3_chanceOf 10 = .ok (.iconst 0, 1) := by decide +kernel
theorem dX3_chanceOf_11 : decode cX3_chanceOf 11 = .ok (.iconst 5, 1) := by decide +kernel
theorem dX3_chanceOf_12 : decode cX3_chanceOf 12 = .ok (.invokestatic 47, 3) := by decide +kernel
theorem dX3_chanceOf_15 : decode cX3_chanceOf 15 = .ok (.ifCond .eq 7, 3) := by decide +kernel
theorem dX3_chanceOf_18 : decode cX3_chanceOf 18 = .ok (.iconst 1, 1) := by decide +kernel
theorem dX3_chanceOf_19 : decode cX3_chanceOf 19 = .ok (.goto 4, 3) := by decide +kernel
theorem dX3_chanceOf_22 : decode cX3_chanceOf 22 = .ok (.iconst 0, 1) := by decide +kernel
theorem dX3_chanceOf_23 : decode cX3_chanceOf 23 = .ok (.istore_n 3, 1) := by decide +kernel
theorem dX3_chanceOf_24 : decode cX3_chanceOf 24 = .ok (.iload_n 3, 1) := by decide +kernel
theorem dX3_chanceOf_25 : decode cX3_chanceOf 25 = .ok (.ifCond .eq 17, 3) := by decide +kernel
theorem dX3_chanceOf_28 : decode cX3_chanceOf 28 = .ok (.aload_n 0, 1) := by decide +kernel
theorem dX3_chanceOf_29 : decode cX3_chanceOf 29 = .ok (.getfield 19, 3) := by decide +kernel
theorem dX3_chanceOf_32 : decode cX3_chanceOf 32 = .ok (.iload_n 1, 1) := by decide +kernel
theorem dX3_chanceOf_33 : decode cX3_chanceOf 33 = .ok (.bipush 6, 2) := by decide +kernel
theorem dX3_chanceOf_35 : decode cX3_chanceOf 35 = .ok (.imul, 1) := by decide +kernel
theorem dX3_chanceOf_36 : decode cX3_chanceOf 36 = .ok (.iload_n 2, 1) := by decide +kernel
theorem dX3_chanceOf_37 : decode cX3_chanceOf 37 = .ok (.iadd, 1) := by decide +kernel
theorem dX3_chanceOf_38 : decode cX3_chanceOf 38 = .ok (.iaload, 1) := by decide +kernel
theorem dX3_chanceOf_39 : decode cX3_chanceOf 39 = .ok (.goto 4, 3) := by decide +kernel
theorem dX3_chanceOf_42 : decode cX3_chanceOf 42 = .ok (.iconst 0, 1) := by decide +kernel
theorem dX3_chanceOf_43 : decode cX3_chanceOf 43 = .ok (.ireturn, 1) := by decide +kernel
set_option maxRecDepth 20000 in
theorem ggX3_read_X3_stateOf : GoodIn wsX3_read wsX3_stateOf := goodIn_r _ [4] (by decide +kernel) (by decide +kernel)
set_option maxRecDepth 20000 in
theorem gX3_read_X3_stateOf : GoodIn wsX3_read (va_wsS RX3 82 yX3_stateOf wsX3_stateOf) := goodIn_app (goodIn_of _ (by decide +kernel)) ggX3_read_X3_stateOf
set_option maxRecDepth 20000 in
theorem ggX3_read_X6_within : GoodIn wsX3_read wsX6_within := goodIn_r _ [7] (by decide +kernel) (by decide +kernel)
set_option maxRecDepth 20000 in
theorem gX3_read_X6_within_n47 : GoodIn wsX3_read (wsX6_within) := ggX3_read_X6_within
theorem dX3_read_0 : decode cX3_read 0 = .ok (.iload_n 1, 1) := by decide +kernel
theorem dX3_read_1 : decode cX3_read 1 = .ok (.iload_n 2, 1) := by decide +kernel
theorem dX3_read_2 : decode cX3_read 2 = .ok (.iload_n 3, 1) := by decide +kernel
theorem dX3_read_3 : decode cX3_read 3 = .ok (.invokestatic 82, 3) := by decide +kernel
theorem dX3_read_6 : decode cX3_read 6 = .ok (.istore 4, 2) := by decide +kernel
theorem dX3_read_8 : decode cX3_read 8 = .ok (.iload 4, 2) := by decide +kernel
theorem dX3_read_10 : decode cX3_read 10 = .ok (.iconst 0, 1) := by decide +kernel
theorem dX3_read_11 : decode cX3_read 11 = .ok (.aload_n 0, 1) := by decide +kernel
theorem dX3_read_12 : decode cX3_read 12 = .ok (.arraylength, 1) := by decide +kernel
theorem dX3_read_13 : decode cX3_read 13 = .ok (.iconst 1, 1) := by decide +kernel
theorem dX3_read_14 : decode cX3_read 14 = .ok (.isub, 1) := by decide +kernel
theorem dX3_read_15 : decode cX3_read 15 = .ok (.invokestatic 47, 3) := by decide +kernel
theorem dX3_read_18 : decode cX3_read 18 = .ok (.ifCond .eq 10, 3) := by decide +kernel
theorem dX3_read_21 : decode cX3_read 21 = .ok (.aload_n 0, 1) := by decide +kernel
theorem dX3_read_22 : decode cX3_read 22 = .ok (.iload 4, 2) := by decide +kernel
theorem dX3_read_24 : decode cX3_read 24 = .ok (.laload, 1) := by decide +kernel
theorem dX3_read_25 : decode cX3_read 25 = .ok (.goto 4, 3) := by decide +kernel
theorem dX3_read_28 : decode cX3_read 28 = .ok (.lconst 0, 1) := by decide +kernel
theorem dX3_read_29 : decode cX3_read 29 = .ok (.lreturn, 1) := by decide +kernel
set_option maxRecDepth 20000 in
theorem ggX3_readInt_X3_stateOf : GoodIn wsX3_readInt wsX3_stateOf := goodIn_r _ [4] (by decide +kernel) (by decide +kernel)
set_option maxRecDepth 20000 in
theorem gX3_readInt_X3_stateOf : GoodIn wsX3_readInt (va_wsS RX3 82 yX3_stateOf wsX3_stateOf) := goodIn_app (goodIn_of _ (by decide +kernel)) ggX3_readInt_X3_stateOf
set_option maxRecDepth 20000 in
theorem ggX3_readInt_X6_within : GoodIn wsX3_readInt wsX6_within := goodIn_r _ [7] (by decide +kernel) (by decide +kernel)
set_option maxRecDepth 20000 in
theorem gX3_readInt_X6_within_n47 : GoodIn wsX3_readInt (wsX6_within) := ggX3_readInt_X6_within
theorem dX3_readInt_0 : decode cX3_readInt 0 = .ok (.iload_n 1, 1) := by decide +kernel
theorem dX3_readInt_1 : decode cX3_readInt 1 = .ok (.iload_n 2, 1) := by decide +kernel
theorem dX3_readInt_2 : decode cX3_readInt 2 = .ok (.iload_n 3, 1) := by decide +kernel
theorem dX3_readInt_3 : decode cX3_readInt 3 = .ok (.invokestatic 82, 3) := by decide +kernel
theorem dX3_readInt_6 : decode cX3_readInt 6 = .ok (.istore 4, 2) := by decide +kernel
theorem dX3_readInt_8 : decode cX3_readInt 8 = .ok (.iload 4, 2) := by decide +kernel
theorem dX3_readInt_10 : decode cX3_readInt 10 = .ok (.iconst 0, 1) := by decide +kernel
theorem dX3_readInt_11 : decode cX3_readInt 11 = .ok (.aload_n 0, 1) := by decide +kernel
theorem dX3_readInt_12 : decode cX3_readInt 12 = .ok (.arraylength, 1) := by decide +kernel
theorem dX3_readInt_13 : decode cX3_readInt 13 = .ok (.iconst 1, 1) := by decide +kernel
theorem dX3_readInt_14 : decode cX3_readInt 14 = .ok (.isub, 1) := by decide +kernel
theorem dX3_readInt_15 : decode cX3_readInt 15 = .ok (.invokestatic 47, 3) := by decide +kernel
theorem dX3_readInt_18 : decode cX3_readInt 18 = .ok (.ifCond .eq 10, 3) := by decide +kernel
theorem dX3_readInt_21 : decode cX3_readInt 21 = .ok (.aload_n 0, 1) := by decide +kernel
theorem dX3_readInt_22 : decode cX3_readInt 22 = .ok (.iload 4, 2) := by decide +kernel
theorem dX3_readInt_24 : decode cX3_readInt 24 = .ok (.iaload, 1) := by decide +kernel
theorem dX3_readInt_25 : decode cX3_readInt 25 = .ok (.goto 4, 3) := by decide +kernel
theorem dX3_readInt_28 : decode cX3_readInt 28 = .ok (.iconst 0, 1) := by decide +kernel
theorem dX3_readInt_29 : decode cX3_readInt 29 = .ok (.ireturn, 1) := by decide +kernel
theorem dX3_stateOf_0 : decode cX3_stateOf 0 = .ok (.iload_n 0, 1) := by decide +kernel
theorem dX3_stateOf_1 : decode cX3_stateOf 1 = .ok (.ifCond .lt 33, 3) := by decide +kernel
theorem dX3_stateOf_4 : decode cX3_stateOf 4 = .ok (.iload_n 0, 1) := by decide +kernel
theorem dX3_stateOf_5 : decode cX3_stateOf 5 = .ok (.bipush 12, 2) := by decide +kernel
theorem dX3_stateOf_7 : decode cX3_stateOf 7 = .ok (.if_icmp .gt 27, 3) := by decide +kernel
theorem dX3_stateOf_10 : decode cX3_stateOf 10 = .ok (.iload_n 1, 1) := by decide +kernel
theorem dX3_stateOf_11 : decode cX3_stateOf 11 = .ok (.ifCond .lt 23, 3) := by decide +kernel
theorem dX3_stateOf_14 : decode cX3_stateOf 14 = .ok (.iload_n 1, 1) := by decide +kernel
theorem dX3_stateOf_15 : decode cX3_stateOf 15 = .ok (.bipush 12, 2) := by decide +kernel
theorem dX3_stateOf_17 : decode cX3_stateOf 17 = .ok (.if_icmp .gt 17, 3) := by decide +kernel
theorem dX3_stateOf_20 : decode cX3_stateOf 20 = .ok (.iload_n 2, 1) := by decide +kernel
theorem dX3_stateOf_21 : decode cX3_stateOf 21 = .ok (.ifCond .lt 13, 3) := by decide +kernel
theorem dX3_stateOf_24 : decode cX3_stateOf 24 = .ok (.iload_n 2, 1) := by decide +kernel
theorem dX3_stateOf_25 : decode cX3_stateOf 25 = .ok (.bipush 6, 2) := by decide +kernel
theorem dX3_stateOf_27 : decode cX3_stateOf 27 = .ok (.if_icmp .ge 7, 3) := by decide +kernel
theorem dX3_stateOf_30 : decode cX3_stateOf 30 = .ok (.iconst 1, 1) := by decide +kernel
theorem dX3_stateOf_31 : decode cX3_stateOf 31 = .ok (.goto 4, 3) := by decide +kernel
theorem dX3_stateOf_34 : decode cX3_stateOf 34 = .ok (.iconst 0, 1) := by decide +kernel
theorem dX3_stateOf_35 : decode cX3_stateOf 35 = .ok (.istore_n 3, 1) := by decide +kernel
theorem dX3_stateOf_36 : decode cX3_stateOf 36 = .ok (.iload_n 3, 1) := by decide +kernel
theorem dX3_stateOf_37 : decode cX3_stateOf 37 = .ok (.ifCond .eq 17, 3) := by decide +kernel
theorem dX3_stateOf_40 : decode cX3_stateOf 40 = .ok (.iload_n 0, 1) := by decide +kernel
theorem dX3_stateOf_41 : decode cX3_stateOf 41 = .ok (.bipush 13, 2) := by decide +kernel
theorem dX3_stateOf_43 : decode cX3_stateOf 43 = .ok (.imul, 1) := by decide +kernel
theorem dX3_stateOf_44 : decode cX3_stateOf 44 = .ok (.iload_n 1, 1) := by decide +kernel
theorem dX3_stateOf_45 : decode cX3_stateOf 45 = .ok (.iadd, 1) := by decide +kernel
theorem dX3_stateOf_46 : decode cX3_stateOf 46 = .ok (.bipush 6, 2) := by decide +kernel
theorem dX3_stateOf_48 : decode cX3_stateOf 48 = .ok (.imul, 1) := by decide +kernel
theorem dX3_stateOf_49 : decode cX3_stateOf 49 = .ok (.iload_n 2, 1) := by decide +kernel
theorem dX3_stateOf_50 : decode cX3_stateOf 50 = .ok (.iadd, 1) := by decide +kernel
theorem dX3_stateOf_51 : decode cX3_stateOf 51 = .ok (.goto 4, 3) := by decide +kernel
theorem dX3_stateOf_54 : decode cX3_stateOf 54 = .ok (.iconst (-1), 1) := by decide +kernel
theorem dX3_stateOf_55 : decode cX3_stateOf 55 = .ok (.ireturn, 1) := by decide +kernel
set_option maxRecDepth 20000 in
theorem ggX4_init_J7_fill_53178 : GoodIn wsX4_init wsJ7_fill_53178 := goodIn_r _ [10] (by decide +kernel) (by decide +kernel)
set_option maxRecDepth 20000 in
theorem gX4_init_J7_fill_53178 : GoodIn wsX4_init (va_wsS RX4 15 yJ7_fill_53178 wsJ7_fill_53178) := goodIn_app (goodIn_of _ (by decide +kernel)) ggX4_init_J7_fill_53178
theorem dX4_init_0 : decode cX4_init 0 = .ok (.aload_n 0, 1) := by decide +kernel
theorem dX4_init_1 : decode cX4_init 1 = .ok (.invokespecial 3, 3) := by decide +kernel
theorem dX4_init_4 : decode cX4_init 4 = .ok (.aload_n 0, 1) := by decide +kernel
theorem dX4_init_5 : decode cX4_init 5 = .ok (.sipush 600, 3) := by decide +kernel
theorem dX4_init_8 : decode cX4_init 8 = .ok (.newarray .int, 2) := by decide +kernel
theorem dX4_init_10 : decode cX4_init 10 = .ok (.putfield 9, 3) := by decide +kernel
theorem dX4_init_13 : decode cX4_init 13 = .ok (.aload_n 0, 1) := by decide +kernel
theorem dX4_init_14 : decode cX4_init 14 = .ok (.getfield 9, 3) := by decide +kernel
theorem dX4_init_17 : decode cX4_init 17 = .ok (.iconst (-1), 1) := by decide +kernel
theorem dX4_init_18 : decode cX4_init 18 = .ok (.invokestatic 15, 3) := by decide +kernel
theorem dX4_init_21 : decode cX4_init 21 = .ok (.aload_n 0, 1) := by decide +kernel
theorem dX4_init_22 : decode cX4_init 22 = .ok (.bipush 100, 2) := by decide +kernel
theorem dX4_init_24 : decode cX4_init 24 = .ok (.putfield 21, 3) := by decide +kernel
theorem dX4_init_27 : decode cX4_init 27 = .ok (.return_, 1) := by decide +kernel
set_option maxRecDepth 20000 in
theorem ggX4_put_X4_isLetHour : GoodIn wsX4_put wsX4_isLetHour := goodIn_r _ [5, 6, 7, 8] (by decide +kernel) (by decide +kernel)
set_option maxRecDepth 20000 in
theorem gX4_put_X4_isLetHour : GoodIn wsX4_put (va_wsS RX4 25 yX4_isLetHour wsX4_isLetHour) := goodIn_app (goodIn_of _ (by decide +kernel)) ggX4_put_X4_isLetHour
theorem dX4_put_0 : decode cX4_put 0 = .ok (.iload_n 2, 1) := by decide +kernel
theorem dX4_put_1 : decode cX4_put 1 = .ok (.istore 5, 2) := by decide +kernel
theorem dX4_put_3 : decode cX4_put 3 = .ok (.iload 5, 2) := by decide +kernel
theorem dX4_put_5 : decode cX4_put 5 = .ok (.iload_n 3, 1) := by decide +kernel
theorem dX4_put_6 : decode cX4_put 6 = .ok (.if_icmp .gt 41, 3) := by decide +kernel
theorem dX4_put_9 : decode cX4_put 9 = .ok (.iload 5, 2) := by decide +kernel
theorem dX4_put_11 : decode cX4_put 11 = .ok (.sipush 200, 3) := by decide +kernel
theorem dX4_put_14 : decode cX4_put 14 = .ok (.if_icmp .ge 33, 3) := by decide +kernel
theorem dX4_put_17 : decode cX4_put 17 = .ok (.iload_n 1, 1) := by decide +kernel
theorem dX4_put_18 : decode cX4_put 18 = .ok (.iload 5, 2) := by decide +kernel
theorem dX4_put_20 : decode cX4_put 20 = .ok (.invokestatic 25, 3) := by decide +kernel
theorem dX4_put_23 : decode cX4_put 23 = .ok (.ifCond .eq 18, 3) := by decide +kernel
theorem dX4_put_26 : decode cX4_put 26 = .ok (.aload_n 0, 1) := by decide +kernel
theorem dX4_put_27 : decode cX4_put 27 = .ok (.getfield 9, 3) := by decide +kernel
theorem dX4_put_30 : decode cX4_put 30 = .ok (.iload_n 1, 1) := by decide +kernel
theorem dX4_put_31 : decode cX4_put 31 = .ok (.sipush 200, 3) := by decide +kernel
theorem dX4_put_34 : decode cX4_put 34 = .ok (.imul, 1) := by decide +kernel
theorem dX4_put_35 : decode cX4_put 35 = .ok (.iload 5, 2) := by decide +kernel
theorem dX4_put_37 : decode cX4_put 37 = .ok (.iadd, 1) := by decide +kernel
theorem dX4_put_38 : decode cX4_put 38 = .ok (.iload 4, 2) := by decide +kernel
theorem dX4_put_40 : decode cX4_put 40 = .ok (.iastore, 1) := by decide +kernel
theorem dX4_put_41 : decode cX4_put 41 = .ok (.iinc 5 1, 3) := by decide +kernel
theorem dX4_put_44 : decode cX4_put 44 = .ok (.goto (-41), 3) := by decide +kernel
theorem dX4_put_47 : decode cX4_put 47 = .ok (.return_, 1) := by decide +kernel
set_option maxRecDepth 20000 in
theorem ggX4_at_X4_isLetHour : GoodIn wsX4_at wsX4_isLetHour := goodIn_r _ [6, 7, 8, 9] (by decide +kernel) (by decide +kernel)
set_option maxRecDepth 20000 in
theorem gX4_at_X4_isLetHour : GoodIn wsX4_at (va_wsS RX4 25 yX4_isLetHour wsX4_isLetHour) := goodIn_app (goodIn_of _ (by decide +kernel)) ggX4_at_X4_isLetHour
theorem dX4_at_0 : decode cX4_at 0 = .ok (.iload_n 1, 1) := by decide +kernel
theorem dX4_at_1 : decode cX4_at 1 = .ok (.iconst 3, 1) := by decide +kernel
theorem dX4_at_2 : decode cX4_at 2 = .ok (.if_icmp .ne 8, 3) := by decide +kernel
theorem dX4_at_5 : decode cX4_at 5 = .ok (.aload_n 0, 1) := by decide +kernel
theorem dX4_at_6 : decode cX4_at 6 = .ok (.getfield 21, 3) := by decide +kernel
theorem dX4_at_9 : decode cX4_at 9 = .ok (.ireturn, 1) := by decide +kernel
theorem dX4_at_10 : decode cX4_at 10 = .ok (.iload_n 1, 1) := by decide +kernel
theorem dX4_at_11 : decode cX4_at 11 = .ok (.iload_n 2, 1) := by decide +kernel
theorem dX4_at_12 : decode cX4_at 12 = .ok (.invokestatic 25, 3) := by decide +kernel
theorem dX4_at_15 : decode cX4_at 15 = .ok (.ifCond .eq 18, 3) := by decide +kernel
theorem dX4_at_18 : decode cX4_at 18 = .ok (.aload_n 0, 1) := by decide +kernel
theorem dX4_at_19 : decode cX4_at 19 = .ok (.getfield 9, 3) := by decide +kernel
theorem dX4_at_22 : decode cX4_at 22 = .ok (.iload_n 1, 1) := by decide +kernel
theorem dX4_at_23 : decode cX4_at 23 = .ok (.sipush 200, 3) := by decide +kernel
theorem dX4_at_26 : decode cX4_at 26 = .ok (.imul, 1) := by decide +kernel
theorem dX4_at_27 : decode cX4_at 27 = .ok (.iload_n 2, 1) := by decide +kernel
theorem dX4_at_28 : decode cX4_at 28 = .ok (.iadd, 1) := by decide +kernel
theorem dX4_at_29 : decode cX4_at 29 = .ok (.iaload, 1) := by decide +kernel
theorem dX4_at_30 : decode cX4_at 30 = .ok (.goto 4, 3) := by decide +kernel
theorem dX4_at_33 : decode cX4_at 33 = .ok (.iconst (-1), 1) := by decide +kernel
theorem dX4_at_34 : decode cX4_at 34 = .ok (.ireturn, 1) := by decide +kernel
set_option maxRecDepth 20000 in
theorem ggX4_isLetHour_X6_within : GoodIn wsX4_isLetHour wsX6_within := goodIn_r _ [3] (by decide +kernel) (by decide +kernel)
set_option maxRecDepth 20000 in
theorem gX4_isLetHour_X6_within_n29 : GoodIn wsX4_isLetHour (wsX6_within) := ggX4_isLetHour_X6_within
theorem dX4_isLetHour_0 : decode cX4_isLetHour 0 = .ok (.iload_n 0, 1) := by decide +kernel
theorem dX4_isLetHour_1 : decode cX4_isLetHour 1 = .ok (.iconst 0, 1) := by decide +kernel
theorem dX4_isLetHour_2 : decode cX4_isLetHour 2 = .ok (.iconst 2, 1) := by decide +kernel
theorem dX4_isLetHour_3 : decode cX4_isLetHour 3 = .ok (.invokestatic 29, 3) := by decide +kernel
theorem dX4_isLetHour_6 : decode cX4_isLetHour 6 = .ok (.ifCond .eq 18, 3) := by decide +kernel
theorem dX4_isLetHour_9 : decode cX4_isLetHour 9 = .ok (.iload_n 1, 1) := by decide +kernel
theorem dX4_isLetHour_10 : decode cX4_isLetHour 10 = .ok (.iconst 0, 1) := by decide +kernel
theorem dX4_isLetHour_11 : decode cX4_isLetHour 11 = .ok (.sipush 199, 3) := by decide +kernel
theorem dX4_isLetHour_14 : decode cX4_isLetHour 14 = .ok (.invokestatic 29, 3) := by decide +kernel
theorem dX4_isLetHour_17 : decode cX4_isLetHour 17 = .ok (.ifCond .eq 7, 3) := by decide +kernel
theorem dX4_isLetHour_20 : decode cX4_isLetHour 20 = .ok (.iconst 1, 1) := by decide +kernel
theorem dX4_isLetHour_21 : decode cX4_isLetHour 21 = .ok (.goto 4, 3) := by decide +kernel
theorem dX4_isLetHour_24 : decode cX4_isLetHour 24 = .ok (.iconst 0, 1) := by decide +kernel
theorem dX4_isLetHour_25 : decode cX4_isLetHour 25 = .ok (.ireturn, 1) := by decide +kernel
theorem dX5_init_0 : decode cX5_init 0 = .ok (.aload_n 0, 1) := by decide +kernel
theorem dX5_init_1 : decode cX5_init 1 = .ok (.invokespecial 3, 3) := by decide +kernel
theorem dX5_init_4 : decode cX5_init 4 = .ok (.aload_n 0, 1) := by decide +kernel
theorem dX5_init_5 : decode cX5_init 5 = .ok (.iload_n 1, 1) := by decide +kernel
theorem dX5_init_6 : decode cX5_init 6 = .ok (.ldc 9, 2) := by decide +kernel
theorem dX5_init_8 : decode cX5_init 8 = .ok (.idiv, 1) := by decide +kernel
theorem dX5_init_9 : decode cX5_init 9 = .ok (.putfield 10, 3) := by decide +kernel
theorem dX5_init_12 : decode cX5_init 12 = .ok (.aload_n 0, 1) := by decide +kernel
theorem dX5_init_13 : decode cX5_init 13 = .ok (.iload_n 1, 1) := by decide +kernel
theorem dX5_init_14 : decode cX5_init 14 = .ok (.sipush 1000, 3) := by decide +kernel
theorem dX5_init_17 : decode cX5_init 17 = .ok (.idiv, 1) := by decide +kernel
theorem dX5_init_18 : decode cX5_init 18 = .ok (.sipush 1000, 3) := by decide +kernel
theorem dX5_init_21 : decode cX5_init 21 = .ok (.irem, 1) := by decide +kernel
theorem dX5_init_22 : decode cX5_init 22 = .ok (.putfield 16, 3) := by decide +kernel
theorem dX5_init_25 : decode cX5_init 25 = .ok (.aload_n 0, 1) := by decide +kernel
theorem dX5_init_26 : decode cX5_init 26 = .ok (.iload_n 1, 1) := by decide +kernel
theorem dX5_init_27 : decode cX5_init 27 = .ok (.bipush 100, 2) := by decide +kernel
theorem dX5_init_29 : decode cX5_init 29 = .ok (.idiv, 1) := by decide +kernel
theorem dX5_init_30 : decode cX5_init 30 = .ok (.bipush 10, 2) := by decide +kernel
theorem dX5_init_32 : decode cX5_init 32 = .ok (.irem, 1) := by decide +kernel
theorem dX5_init_33 : decode cX5_init 33 = .ok (.putfield 19, 3) := by decide +kernel
theorem dX5_init_36 : decode cX5_init 36 = .ok (.aload_n 0, 1) := by decide +kernel
theorem dX5_init_37 : decode cX5_init 37 = .ok (.iload_n 1, 1) := by decide +kernel
theorem dX5_init_38 : decode cX5_init 38 = .ok (.bipush 10, 2) := by decide +kernel
theorem dX5_init_40 : decode cX5_init 40 = .ok (.idiv, 1) := by decide +kernel
theorem dX5_init_41 : decode cX5_init 41 = .ok (.bipush 10, 2) := by decide +kernel
theorem dX5_init_43 : decode cX5_init 43 = .ok (.irem, 1) := by decide +kernel
theorem dX5_init_44 : decode cX5_init 44 = .ok (.putfield 22, 3) := by decide +kernel
theorem dX5_init_47 : decode cX5_init 47 = .ok (.aload_n 0, 1) := by decide +kernel
theorem dX5_init_48 : decode cX5_init 48 = .ok (.iload_n 1, 1) := by decide +kernel
theorem dX5_init_49 : decode cX5_init 49 = .ok (.bipush 10, 2) := by decide +kernel
theorem dX5_init_51 : decode cX5_init 51 = .ok (.irem, 1) := by decide +kernel
theorem dX5_init_52 : decode cX5_init 52 = .ok (.putfield 25, 3) := by decide +kernel
theorem dX5_init_55 : decode cX5_init 55 = .ok (.aload_n 0, 1) := by decide +kernel
theorem dX5_init_56 : decode cX5_init 56 = .ok (.iload_n 2, 1) := by decide +kernel
theorem dX5_init_57 : decode cX5_init 57 = .ok (.putfield 28, 3) := by decide +kernel
theorem dX5_init_60 : decode cX5_init 60 = .ok (.aload_n 0, 1) := by decide +kernel
theorem dX5_init_61 : decode cX5_init 61 = .ok (.iload_n 3, 1) := by decide +kernel
theorem dX5_init_62 : decode cX5_init 62 = .ok (.putfield 31, 3) := by decide +kernel
theorem dX5_init_65 : decode cX5_init 65 = .ok (.aload_n 0, 1) := by decide +kernel
theorem dX5_init_66 : decode cX5_init 66 = .ok (.iload 4, 2) := by decide +kernel
theorem dX5_init_68 : decode cX5_init 68 = .ok (.putfield 34, 3) := by decide +kernel
theorem dX5_init_71 : decode cX5_init 71 = .ok (.return_, 1) := by decide +kernel
set_option maxRecDepth 20000 in
theorem ggX5_canBe_X6_within : GoodIn wsX5_canBe wsX6_within := goodIn_r _ [11] (by decide +kernel) (by decide +kernel)
set_option maxRecDepth 20000 in
theorem gX5_canBe_X6_within_n37 : GoodIn wsX5_canBe (wsX6_within) := ggX5_canBe_X6_within
theorem dX5_canBe_0 : decode cX5_canBe 0 = .ok (.aload_n 0, 1) := by decide +kernel
theorem dX5_canBe_1 : decode cX5_canBe 1 = .ok (.getfield 10, 3) := by decide +kernel
theorem dX5_canBe_4 : decode cX5_canBe 4 = .ok (.iconst 1, 1) := by decide +kernel
theorem dX5_canBe_5 : decode cX5_canBe 5 = .ok (.bipush 30, 2) := by decide +kernel
theorem dX5_canBe_7 : decode cX5_canBe 7 = .ok (.invokestatic 37, 3) := by decide +kernel
theorem dX5_canBe_10 : decode cX5_canBe 10 = .ok (.ifCond .eq 100, 3) := by decide +kernel
theorem dX5_canBe_13 : decode cX5_canBe 13 = .ok (.aload_n 0, 1) := by decide +kernel
theorem dX5_canBe_14 : decode cX5_canBe 14 = .ok (.getfield 16, 3) := by decide +kernel
theorem dX5_canBe_17 : decode cX5_canBe 17 = .ok (.iconst 0, 1) := by decide +kernel
theorem dX5_canBe_18 : decode cX5_canBe 18 = .ok (.sipush 200, 3) := by decide +kernel
theorem dX5_canBe_21 : decode cX5_canBe 21 = .ok (.invokestatic 37, 3) := by decide +kernel
theorem dX5_canBe_24 : decode cX5_canBe 24 = .ok (.ifCond .eq 86, 3) := by decide +kernel
theorem dX5_canBe_27 : decode cX5_canBe 27 = .ok (.aload_n 0, 1) := by decide +kernel
theorem dX5_canBe_28 : decode cX5_canBe 28 = .ok (.getfield 19, 3) := by decide +kernel
theorem dX5_canBe_31 : decode cX5_canBe 31 = .ok (.iconst 0, 1) := by decide +kernel
theorem dX5_canBe_32 : decode cX5_canBe 32 = .ok (.iconst 2, 1) := by decide +kernel
theorem dX5_canBe_33 : decode cX5_canBe 33 = .ok (.invokestatic 37, 3) := by decide +kernel
theorem dX5_canBe_36 : decode cX5_canBe 36 = .ok (.ifCond .eq 74, 3) := by decide +kernel
theorem dX5_canBe_39 : decode cX5_canBe 39 = .ok (.aload_n 0, 1) := by decide +kernel
theorem dX5_canBe_40 : decode cX5_canBe 40 = .ok (.getfield 22, 3) := by decide +kernel
theorem dX5_canBe_43 : decode cX5_canBe 43 = .ok (.iconst 0, 1) := by decide +kernel
theorem dX5_canBe_44 : decode cX5_canBe 44 = .ok (.iconst 5, 1) := by decide +kernel
theorem dX5_canBe_45 : decode cX5_canBe 45 = .ok (.invokestatic 37, 3) := by decide +kernel
theorem dX5_canBe_48 : decode cX5_canBe 48 = .ok (.ifCond .eq 62, 3) := by decide +kernel
theorem dX5_canBe_51 : decode cX5_canBe 51 = .ok (.aload_n 0, 1) := by decide +kernel
theorem dX5_canBe_52 : decode cX5_canBe 52 = .ok (.getfield 25, 3) := by decide +kernel
theorem dX5_canBe_55 : decode cX5_canBe 55 = .ok (.iconst 0, 1) := by decide +kernel
theorem dX5_canBe_56 : decode cX5_canBe 56 = .ok (.iconst 5, 1) := by decide +kernel
theorem dX5_canBe_57 : decode cX5_canBe 57 = .ok (.invokestatic 37, 3) := by decide +kernel
theorem dX5_canBe_60 : decode cX5_canBe 60 = .ok (.ifCond .eq 50, 3) := by decide +kernel
theorem dX5_canBe_63 : decode cX5_canBe 63 = .ok (.aload_n 0, 1) := by decide +kernel
theorem dX5_canBe_64 : decode cX5_canBe 64 = .ok (.getfield 28, 3) := by decide +kernel
theorem dX5_canBe_67 : decode cX5_canBe 67 = .ok (.iconst 0, 1) := by decide +kernel
theorem dX5_canBe_68 : decode cX5_canBe 68 = .ok (.sipush 999, 3) := by decide +kernel
theorem dX5_canBe_71 : decode cX5_canBe 71 = .ok (.invokestatic 37, 3) := by decide +kernel
theorem dX5_canBe_74 : decode cX5_canBe 74 = .ok (.ifCond .eq 36, 3) := by decide +kernel
theorem dX5_canBe_77 : decode cX5_canBe 77 = .ok (.aload_n 0, 1) := by decide +kernel
theorem dX5_canBe_78 : decode cX5_canBe 78 = .ok (.getfield 31, 3) := by decide +kernel
theorem dX5_canBe_81 : decode cX5_canBe 81 = .ok (.iconst 1, 1) := by decide +kernel
theorem dX5_canBe_82 : decode cX5_canBe 82 = .ok (.bipush 60, 2) := by decide +kernel
theorem dX5_canBe_84 : decode cX5_canBe 84 = .ok (.invokestatic 37, 3) := by decide +kernel
theorem dX5_canBe_87 : decode cX5_canBe 87 = .ok (.ifCond .eq 23, 3) := by decide +kernel
theorem dX5_canBe_90 : decode cX5_canBe 90 = .ok (.aload_n 0, 1) := by decide +kernel
end
section
theorem dX5_canBe_91 : decode cX5_canBe 91 = .ok (.getfield 10, 3) := by decide +kernel
theorem dX5_canBe_94 : decode cX5_canBe 94 = .ok (.aload_n 0, 1) := by decide +kernel
theorem dX5_canBe_95 : decode cX5_canBe 95 = .ok (.getfield 16, 3) := by decide +kernel
theorem dX5_canBe_98 : decode cX5_canBe 98 = .ok (.aload_n 0, 1) := by decide +kernel
theorem dX5_canBe_99 : decode cX5_canBe 99 = .ok (.getfield 34, 3) := by decide +kernel
theorem dX5_canBe_102 : decode cX5_canBe 102 = .ok (.isub, 1) := by decide +kernel
theorem dX5_canBe_103 : decode cX5_canBe 103 = .ok (.if_icmp .gt 7, 3) := by decide +kernel
theorem dX5_canBe_106 : decode cX5_canBe 106 = .ok (.iconst 1, 1) := by decide +kernel
theorem dX5_canBe_107 : decode cX5_canBe 107 = .ok (.goto 4, 3) := by decide +kernel
theorem dX5_canBe_110 : decode cX5_canBe 110 = .ok (.iconst 0, 1) := by decide +kernel
theorem dX5_canBe_111 : decode cX5_canBe 111 = .ok (.ireturn, 1) := by decide +kernel
set_option maxRecDepth 20000 in
theorem ggX6_init_X4_init : GoodIn wsX6_init wsX4_init := goodIn_r _ [20, 21, 2, 3, 22, 23, 24, 25, 26, 27, 28, 47, 48] (by decide +kernel) (by decide +kernel)
set_option maxRecDepth 20000 in
theorem gX6_init_X4_init : GoodIn wsX6_init (wsX4_init) := ggX6_init_X4_init
set_option maxRecDepth 20000 in
theorem ggX6_init_X3_init : GoodIn wsX6_init wsX3_init := goodIn_r _ [31, 32, 2, 3, 33, 22, 34, 35, 36, 37, 38, 39, 40, 55, 56, 57, 58, 59, 60, 61, 62, 63] (by decide +kernel) (by decide +kernel)
set_option maxRecDepth 20000 in
theorem gX6_init_X3_init : GoodIn wsX6_init (wsX3_init) := ggX6_init_X3_init
set_option maxRecDepth 20000 in
theorem ggX6_init_X0_init : GoodIn wsX6_init wsX0_init := goodIn_r _ [43, 44, 2, 3, 45, 22, 46, 64, 65] (by decide +kernel) (by decide +kernel)
set_option maxRecDepth 20000 in
theorem gX6_init_X0_init : GoodIn wsX6_init (wsX0_init) := ggX6_init_X0_init
theorem dX6_init_0 : decode cX6_init 0 = .ok (.aload_n 0, 1) := by decide +kernel
theorem dX6_init_1 : decode cX6_init 1 = .ok (.invokespecial 1, 3) := by decide +kernel
theorem dX6_init_4 : decode cX6_init 4 = .ok (.aload_n 0, 1) := by decide +kernel
theorem dX6_init_5 : decode cX6_init 5 = .ok (.new 7, 3) := by decide +kernel
theorem dX6_init_8 : decode cX6_init 8 = .ok (.dup, 1) := by decide +kernel
theorem dX6_init_9 : decode cX6_init 9 = .ok (.invokespecial 9, 3) := by decide +kernel
theorem dX6_init_12 : decode cX6_init 12 = .ok (.putfield 10, 3) := by decide +kernel
theorem dX6_init_15 : decode cX6_init 15 = .ok (.aload_n 0, 1) := by decide +kernel
theorem dX6_init_16 : decode cX6_init 16 = .ok (.bipush 12, 2) := by decide +kernel
theorem dX6_init_18 : decode cX6_init 18 = .ok (.anewarray 16, 3) := by decide +kernel
theorem dX6_init_21 : decode cX6_init 21 = .ok (.putfield 18, 3) := by decide +kernel
theorem dX6_init_24 : decode cX6_init 24 = .ok (.aload_n 0, 1) := by decide +kernel
theorem dX6_init_25 : decode cX6_init 25 = .ok (.new 22, 3) := by decide +kernel
theorem dX6_init_28 : decode cX6_init 28 = .ok (.dup, 1) := by decide +kernel
theorem dX6_init_29 : decode cX6_init 29 = .ok (.aload_n 0, 1) := by decide +kernel
theorem dX6_init_30 : decode cX6_init 30 = .ok (.getfield 10, 3) := by decide +kernel
theorem dX6_init_33 : decode cX6_init 33 = .ok (.invokespecial 24, 3) := by decide +kernel
theorem dX6_init_36 : decode cX6_init 36 = .ok (.putfield 27, 3) := by decide +kernel
theorem dX6_init_39 : decode cX6_init 39 = .ok (.aload_n 0, 1) := by decide +kernel
theorem dX6_init_40 : decode cX6_init 40 = .ok (.new 31, 3) := by decide +kernel
theorem dX6_init_43 : decode cX6_init 43 = .ok (.dup, 1) := by decide +kernel
theorem dX6_init_44 : decode cX6_init 44 = .ok (.aload_n 0, 1) := by decide +kernel
theorem dX6_init_45 : decode cX6_init 45 = .ok (.getfield 10, 3) := by decide +kernel
theorem dX6_init_48 : decode cX6_init 48 = .ok (.invokespecial 33, 3) := by decide +kernel
theorem dX6_init_51 : decode cX6_init 51 = .ok (.putfield 34, 3) := by decide +kernel
theorem dX6_init_54 : decode cX6_init 54 = .ok (.return_, 1) := by decide +kernel
set_option maxRecDepth 20000 in
theorem ggX6_price_X6_within : GoodIn wsX6_price wsX6_within := goodIn_r _ [6] (by decide +kernel) (by decide +kernel)
set_option maxRecDepth 20000 in
theorem gX6_price_X6_within : GoodIn wsX6_price (va_wsS RX6 38 yX6_within wsX6_within) := goodIn_app (goodIn_of _ (by decide +kernel)) ggX6_price_X6_within
set_option maxRecDepth 20000 in
theorem ggX6_price_X4_put : GoodIn wsX6_price wsX4_put := goodIn_r _ [11, 12, 13, 14, 10, 15, 4, 5, 6, 22, 23] (by decide +kernel) (by decide +kernel)
set_option maxRecDepth 20000 in
theorem gX6_price_X4_put : GoodIn wsX6_price (wsV RX6 46 RX4 yX4_put wsX4_put) := goodIn_app (goodIn_of _ (by decide +kernel)) ggX6_price_X4_put
theorem dX6_price_0 : decode cX6_price 0 = .ok (.iload_n 1, 1) := by decide +kernel
theorem dX6_price_1 : decode cX6_price 1 = .ok (.iconst 0, 1) := by decide +kernel
theorem dX6_price_2 : decode cX6_price 2 = .ok (.iconst 2, 1) := by decide +kernel
theorem dX6_price_3 : decode cX6_price 3 = .ok (.invokestatic 38, 3) := by decide +kernel
theorem dX6_price_6 : decode cX6_price 6 = .ok (.ifCond .eq 15, 3) := by decide +kernel
theorem dX6_price_9 : decode cX6_price 9 = .ok (.iload 4, 2) := by decide +kernel
theorem dX6_price_11 : decode cX6_price 11 = .ok (.iconst (-1), 1) := by decide +kernel
theorem dX6_price_12 : decode cX6_price 12 = .ok (.sipush 999, 3) := by decide +kernel
theorem dX6_price_15 : decode cX6_price 15 = .ok (.invokestatic 38, 3) := by decide +kernel
theorem dX6_price_18 : decode cX6_price 18 = .ok (.ifCond .ne 5, 3) := by decide +kernel
theorem dX6_price_21 : decode cX6_price 21 = .ok (.iconst 0, 1) := by decide +kernel
theorem dX6_price_22 : decode cX6_price 22 = .ok (.ireturn, 1) := by decide +kernel
theorem dX6_price_23 : decode cX6_price 23 = .ok (.iload_n 2, 1) := by decide +kernel
theorem dX6_price_24 : decode cX6_price 24 = .ok (.aload_n 0, 1) := by decide +kernel
theorem dX6_price_25 : decode cX6_price 25 = .ok (.getfield 42, 3) := by decide +kernel
theorem dX6_price_28 : decode cX6_price 28 = .ok (.if_icmp .lt 15, 3) := by decide +kernel
theorem dX6_price_31 : decode cX6_price 31 = .ok (.iload_n 2, 1) := by decide +kernel
theorem dX6_price_32 : decode cX6_price 32 = .ok (.iload_n 3, 1) := by decide +kernel
theorem dX6_price_33 : decode cX6_price 33 = .ok (.if_icmp .gt 10, 3) := by decide +kernel
theorem dX6_price_36 : decode cX6_price 36 = .ok (.iload_n 3, 1) := by decide +kernel
theorem dX6_price_37 : decode cX6_price 37 = .ok (.sipush 200, 3) := by decide +kernel
theorem dX6_price_40 : decode cX6_price 40 = .ok (.if_icmp .lt 5, 3) := by decide +kernel
theorem dX6_price_43 : decode cX6_price 43 = .ok (.iconst 0, 1) := by decide +kernel
theorem dX6_price_44 : decode cX6_price 44 = .ok (.ireturn, 1) := by decide +kernel
theorem dX6_price_45 : decode cX6_price 45 = .ok (.aload_n 0, 1) := by decide +kernel
theorem dX6_price_46 : decode cX6_price 46 = .ok (.getfield 10, 3) := by decide +kernel
theorem dX6_price_49 : decode cX6_price 49 = .ok (.iload_n 1, 1) := by decide +kernel
theorem dX6_price_50 : decode cX6_price 50 = .ok (.iload_n 2, 1) := by decide +kernel
theorem dX6_price_51 : decode cX6_price 51 = .ok (.iload_n 3, 1) := by decide +kernel
theorem dX6_price_52 : decode cX6_price 52 = .ok (.iload 4, 2) := by decide +kernel
theorem dX6_price_54 : decode cX6_price 54 = .ok (.invokevirtual 46, 3) := by decide +kernel
theorem dX6_price_57 : decode cX6_price 57 = .ok (.iconst 1, 1) := by decide +kernel
theorem dX6_price_58 : decode cX6_price 58 = .ok (.ireturn, 1) := by decide +kernel
set_option maxRecDepth 20000 in
theorem ggX6_full_X6_within : GoodIn wsX6_full wsX6_within := goodIn_r _ [9] (by decide +kernel) (by decide +kernel)
set_option maxRecDepth 20000 in
theorem gX6_full_X6_within : GoodIn wsX6_full (va_wsS RX6 38 yX6_within wsX6_within) := goodIn_app (goodIn_of _ (by decide +kernel)) ggX6_full_X6_within
set_option maxRecDepth 20000 in
theorem ggX6_full_X3_forget : GoodIn wsX6_full wsX3_forget := goodIn_r _ [14, 15, 24, 25, 26, 27, 28, 29, 30, 31, 32] (by decide +kernel) (by decide +kernel)
set_option maxRecDepth 20000 in
theorem gX6_full_X3_forget : GoodIn wsX6_full (wsV RX6 56 RX3 yX3_forget wsX3_forget) := goodIn_app (goodIn_of _ (by decide +kernel)) ggX6_full_X3_forget
theorem dX6_full_0 : decode cX6_full 0 = .ok (.iload_n 1, 1) := by decide +kernel
theorem dX6_full_1 : decode cX6_full 1 = .ok (.iconst 1, 1) := by decide +kernel
theorem dX6_full_2 : decode cX6_full 2 = .ok (.sipush 999, 3) := by decide +kernel
theorem dX6_full_5 : decode cX6_full 5 = .ok (.invokestatic 38, 3) := by decide +kernel
theorem dX6_full_8 : decode cX6_full 8 = .ok (.ifCond .eq 17, 3) := by decide +kernel
theorem dX6_full_11 : decode cX6_full 11 = .ok (.aload_n 0, 1) := by decide +kernel
theorem dX6_full_12 : decode cX6_full 12 = .ok (.getfield 42, 3) := by decide +kernel
theorem dX6_full_15 : decode cX6_full 15 = .ok (.ifCond .ne 10, 3) := by decide +kernel
theorem dX6_full_18 : decode cX6_full 18 = .ok (.aload_n 0, 1) := by decide +kernel
theorem dX6_full_19 : decode cX6_full 19 = .ok (.getfield 50, 3) := by decide +kernel
theorem dX6_full_22 : decode cX6_full 22 = .ok (.ifCond .eq 5, 3) := by decide +kernel
theorem dX6_full_25 : decode cX6_full 25 = .ok (.iconst 0, 1) := by decide +kernel
theorem dX6_full_26 : decode cX6_full 26 = .ok (.ireturn, 1) := by decide +kernel
theorem dX6_full_27 : decode cX6_full 27 = .ok (.aload_n 0, 1) := by decide +kernel
theorem dX6_full_28 : decode cX6_full 28 = .ok (.getfield 10, 3) := by decide +kernel
theorem dX6_full_31 : decode cX6_full 31 = .ok (.iload_n 1, 1) := by decide +kernel
theorem dX6_full_32 : decode cX6_full 32 = .ok (.putfield 53, 3) := by decide +kernel
theorem dX6_full_35 : decode cX6_full 35 = .ok (.aload_n 0, 1) := by decide +kernel
theorem dX6_full_36 : decode cX6_full 36 = .ok (.getfield 27, 3) := by decide +kernel
theorem dX6_full_39 : decode cX6_full 39 = .ok (.invokevirtual 56, 3) := by decide +kernel
theorem dX6_full_42 : decode cX6_full 42 = .ok (.iconst 1, 1) := by decide +kernel
theorem dX6_full_43 : decode cX6_full 43 = .ok (.ireturn, 1) := by decide +kernel
set_option maxRecDepth 20000 in
theorem ggX6_job_X6_within : GoodIn wsX6_job wsX6_within := goodIn_r _ [13] (by decide +kernel) (by decide +kernel)
set_option maxRecDepth 20000 in
theorem gX6_job_X6_within : GoodIn wsX6_job (va_wsS RX6 38 yX6_within wsX6_within) := goodIn_app (goodIn_of _ (by decide +kernel)) ggX6_job_X6_within
set_option maxRecDepth 20000 in
theorem ggX6_job_X5_init : GoodIn wsX6_job wsX5_init := goodIn_r _ [16, 17, 18, 19, 20, 21, 22, 23, 24, 25, 26, 27, 28, 46, 47, 48, 49, 50, 51, 52, 53] (by decide +kernel) (by decide +kernel)
set_option maxRecDepth 20000 in
theorem gX6_job_X5_init : GoodIn wsX6_job (wsX5_init) := ggX6_job_X5_init
set_option maxRecDepth 20000 in
theorem ggX6_job_X5_canBe : GoodIn wsX6_job wsX5_canBe := goodIn_r _ [32, 21, 22, 23, 24, 25, 26, 27, 28, 11, 12, 13, 46, 47, 48, 49, 50, 51, 52, 53] (by decide +kernel) (by decide +kernel)
set_option maxRecDepth 20000 in
theorem gX6_job_X5_canBe : GoodIn wsX6_job (wsV RX6 63 RX5 yX5_canBe wsX5_canBe) := goodIn_app (goodIn_of _ (by decide +kernel)) ggX6_job_X5_canBe
set_option maxRecDepth 20000 in
theorem ggX6_job_X1_init : GoodIn wsX6_job wsX1_init := goodIn_r _ [35, 36, 18, 19, 37, 38, 39, 54, 55, 56, 57, 58, 59, 60, 61, 62, 63, 64, 65, 66, 67, 68, 69] (by decide +kernel) (by decide +kernel)
set_option maxRecDepth 20000 in
theorem gX6_job_X1_init : GoodIn wsX6_job (wsX1_init) := ggX6_job_X1_init
theorem dX6_job_0 : decode cX6_job 0 = .ok (.aload_n 0, 1) := by decide +kernel
theorem dX6_job_1 : decode cX6_job 1 = .ok (.getfield 50, 3) := by decide +kernel
theorem dX6_job_4 : decode cX6_job 4 = .ok (.istore 4, 2) := by decide +kernel
theorem dX6_job_6 : decode cX6_job 6 = .ok (.iload 4, 2) := by decide +kernel
theorem dX6_job_8 : decode cX6_job 8 = .ok (.iconst 0, 1) := by decide +kernel
theorem dX6_job_9 : decode cX6_job 9 = .ok (.aload_n 0, 1) := by decide +kernel
theorem dX6_job_10 : decode cX6_job 10 = .ok (.getfield 18, 3) := by decide +kernel
theorem dX6_job_13 : decode cX6_job 13 = .ok (.arraylength, 1) := by decide +kernel
theorem dX6_job_14 : decode cX6_job 14 = .ok (.iconst 1, 1) := by decide +kernel
theorem dX6_job_15 : decode cX6_job 15 = .ok (.isub, 1) := by decide +kernel
theorem dX6_job_16 : decode cX6_job 16 = .ok (.invokestatic 38, 3) := by decide +kernel
theorem dX6_job_19 : decode cX6_job 19 = .ok (.ifCond .ne 5, 3) := by decide +kernel
theorem dX6_job_22 : decode cX6_job 22 = .ok (.iconst (-1), 1) := by decide +kernel
theorem dX6_job_23 : decode cX6_job 23 = .ok (.ireturn, 1) := by decide +kernel
theorem dX6_job_24 : decode cX6_job 24 = .ok (.new 59, 3) := by decide +kernel
theorem dX6_job_27 : decode cX6_job 27 = .ok (.dup, 1) := by decide +kernel
theorem dX6_job_28 : decode cX6_job 28 = .ok (.iload_n 1, 1) := by decide +kernel
theorem dX6_job_29 : decode cX6_job 29 = .ok (.iload_n 2, 1) := by decide +kernel
theorem dX6_job_30 : decode cX6_job 30 = .ok (.iload_n 3, 1) := by decide +kernel
theorem dX6_job_31 : decode cX6_job 31 = .ok (.aload_n 0, 1) := by decide +kernel
theorem dX6_job_32 : decode cX6_job 32 = .ok (.getfield 42, 3) := by decide +kernel
theorem dX6_job_35 : decode cX6_job 35 = .ok (.invokespecial 61, 3) := by decide +kernel
theorem dX6_job_38 : decode cX6_job 38 = .ok (.astore 5, 2) := by decide +kernel
theorem dX6_job_40 : decode cX6_job 40 = .ok (.aload 5, 2) := by decide +kernel
theorem dX6_job_42 : decode cX6_job 42 = .ok (.invokevirtual 63, 3) := by decide +kernel
theorem dX6_job_45 : decode cX6_job 45 = .ok (.ifCond .ne 5, 3) := by decide +kernel
theorem dX6_job_48 : decode cX6_job 48 = .ok (.iconst (-1), 1) := by decide +kernel
theorem dX6_job_49 : decode cX6_job 49 = .ok (.ireturn, 1) := by decide +kernel
theorem dX6_job_50 : decode cX6_job 50 = .ok (.aload_n 0, 1) := by decide +kernel
theorem dX6_job_51 : decode cX6_job 51 = .ok (.getfield 18, 3) := by decide +kernel
theorem dX6_job_54 : decode cX6_job 54 = .ok (.iload 4, 2) := by decide +kernel
theorem dX6_job_56 : decode cX6_job 56 = .ok (.new 16, 3) := by decide +kernel
theorem dX6_job_59 : decode cX6_job 59 = .ok (.dup, 1) := by decide +kernel
theorem dX6_job_60 : decode cX6_job 60 = .ok (.aload 5, 2) := by decide +kernel
theorem dX6_job_62 : decode cX6_job 62 = .ok (.invokespecial 67, 3) := by decide +kernel
theorem dX6_job_65 : decode cX6_job 65 = .ok (.aastore, 1) := by decide +kernel
theorem dX6_job_66 : decode cX6_job 66 = .ok (.aload_n 0, 1) := by decide +kernel
theorem dX6_job_67 : decode cX6_job 67 = .ok (.iload 4, 2) := by decide +kernel
theorem dX6_job_69 : decode cX6_job 69 = .ok (.iconst 1, 1) := by decide +kernel
theorem dX6_job_70 : decode cX6_job 70 = .ok (.iadd, 1) := by decide +kernel
theorem dX6_job_71 : decode cX6_job 71 = .ok (.putfield 50, 3) := by decide +kernel
theorem dX6_job_74 : decode cX6_job 74 = .ok (.iload 4, 2) := by decide +kernel
theorem dX6_job_76 : decode cX6_job 76 = .ok (.ireturn, 1) := by decide +kernel
set_option maxRecDepth 20000 in
theorem ggX6_go_X6_within : GoodIn wsX6_go wsX6_within := goodIn_r _ [9] (by decide +kernel) (by decide +kernel)
set_option maxRecDepth 20000 in
theorem gX6_go_X6_within : GoodIn wsX6_go (va_wsS RX6 38 yX6_within wsX6_within) := goodIn_app (goodIn_of _ (by decide +kernel)) ggX6_go_X6_within
set_option maxRecDepth 20000 in
theorem ggX6_go_X6_passHour : GoodIn wsX6_go wsX6_passHour := goodIn_r _ [13, 14, 15, 16, 17, 18, 8, 19, 20, 6, 7, 9, 21, 22, 23, 24, 25, 26, 27, 28, 29, 30, 31, 32, 33, 34, 35, 36, 37, 38, 39, 40, 41, 42, 43, 44, 45, 46, 47, 48, 49, 50, 51, 52, 53, 54, 55, 56, 57, 58, 59, 60, 61, 62, 63, 64, 65, 66, 67, 68, 69, 70, 71, 72, 73, 74, 75, 76, 77, 78, 79, 80, 81, 82, 83, 84, 85, 86, 87, 88, 89, 90, 91, 92, 93, 94, 95, 96, 97, 98, 99, 100, 101, 102, 103, 104, 105, 106, 107, 108, 109, 110, 111, 112, 113, 114, 115, 116, 117, 118, 119, 120, 121, 122, 123, 124, 125, 126, 127, 128, 129, 130, 131, 132, 133, 134, 135] (by decide +kernel) (by decide +kernel)
set_option maxRecDepth 20000 in
theorem gX6_go_X6_passHour : GoodIn wsX6_go (wsV RX6 76 RX6 yX6_passHour wsX6_passHour) := goodIn_app (goodIn_of _ (by decide +kernel)) ggX6_go_X6_passHour
theorem dX6_go_0 : decode cX6_go 0 = .ok (.iload_n 1, 1) := by decide +kernel
theorem dX6_go_1 : decode cX6_go 1 = .ok (.iconst 0, 1) := by decide +kernel
theorem dX6_go_2 : decode cX6_go 2 = .ok (.sipush 200, 3) := by decide +kernel
theorem dX6_go_5 : decode cX6_go 5 = .ok (.invokestatic 38, 3) := by decide +kernel
theorem dX6_go_8 : decode cX6_go 8 = .ok (.ifCond .ne 5, 3) := by decide +kernel
theorem dX6_go_11 : decode cX6_go 11 = .ok (.iconst (-1), 1) := by decide +kernel
theorem dX6_go_12 : decode cX6_go 12 = .ok (.ireturn, 1) := by decide +kernel
theorem dX6_go_13 : decode cX6_go 13 = .ok (.sipush 200, 3) := by decide +kernel
theorem dX6_go_16 : decode cX6_go 16 = .ok (.aload_n 0, 1) := by decide +kernel
theorem dX6_go_17 : decode cX6_go 17 = .ok (.getfield 42, 3) := by decide +kernel
theorem dX6_go_20 : decode cX6_go 20 = .ok (.iload_n 1, 1) := by decide +kernel
theorem dX6_go_21 : decode cX6_go 21 = .ok (.iadd, 1) := by decide +kernel
theorem dX6_go_22 : decode cX6_go 22 = .ok (.invokestatic 70, 3) := by decide +kernel
theorem dX6_go_25 : decode cX6_go 25 = .ok (.istore_n 2, 1) := by decide +kernel
theorem dX6_go_26 : decode cX6_go 26 = .ok (.aload_n 0, 1) := by decide +kernel
theorem dX6_go_27 : decode cX6_go 27 = .ok (.getfield 42, 3) := by decide +kernel
theorem dX6_go_30 : decode cX6_go 30 = .ok (.istore_n 3, 1) := by decide +kernel
theorem dX6_go_31 : decode cX6_go 31 = .ok (.iload_n 3, 1) := by decide +kernel
theorem dX6_go_32 : decode cX6_go 32 = .ok (.iload_n 2, 1) := by decide +kernel
theorem dX6_go_33 : decode cX6_go 33 = .ok (.if_icmp .ge 14, 3) := by decide +kernel
theorem dX6_go_36 : decode cX6_go 36 = .ok (.aload_n 0, 1) := by decide +kernel
theorem dX6_go_37 : decode cX6_go 37 = .ok (.iload_n 3, 1) := by decide +kernel
theorem dX6_go_38 : decode cX6_go 38 = .ok (.invokevirtual 76, 3) := by decide +kernel
theorem dX6_go_41 : decode cX6_go 41 = .ok (.iinc 3 1, 3) := by decide +kernel
theorem dX6_go_44 : decode cX6_go 44 = .ok (.goto (-13), 3) := by decide +kernel
theorem dX6_go_47 : decode cX6_go 47 = .ok (.aload_n 0, 1) := by decide +kernel
theorem dX6_go_48 : decode cX6_go 48 = .ok (.iload_n 2, 1) := by decide +kernel
theorem dX6_go_49 : decode cX6_go 49 = .ok (.putfield 42, 3) := by decide +kernel
theorem dX6_go_52 : decode cX6_go 52 = .ok (.aload_n 0, 1) := by decide +kernel
theorem dX6_go_53 : decode cX6_go 53 = .ok (.getfield 42, 3) := by decide +kernel
theorem dX6_go_56 : decode cX6_go 56 = .ok (.ireturn, 1) := by decide +kernel
set_option maxRecDepth 20000 in
theorem ggX6_told_X6_jobOf : GoodIn wsX6_told wsX6_jobOf := goodIn_r _ [5, 6, 7, 8, 4, 9, 34, 35, 36, 37, 38, 39] (by decide +kernel) (by decide +kernel)
set_option maxRecDepth 20000 in
theorem gX6_told_X6_jobOf : GoodIn wsX6_told (wsV RX6 80 RX6 yX6_jobOf wsX6_jobOf) := goodIn_app (goodIn_of _ (by decide +kernel)) ggX6_told_X6_jobOf
set_option maxRecDepth 20000 in
theorem ggX6_told_X1_tell : GoodIn wsX6_told wsX1_tell := goodIn_r _ [14, 15, 16, 17, 18, 19, 20, 21, 22, 23, 24, 25, 26, 27, 28, 29, 13, 30, 31, 32, 33, 40, 41, 42, 43, 44, 45, 46, 47, 48, 49, 50, 51, 52, 53, 54, 55, 56, 57, 58, 59, 60, 61, 62, 63] (by decide +kernel) (by decide +kernel)
set_option maxRecDepth 20000 in
theorem gX6_told_X1_tell : GoodIn wsX6_told (wsV RX6 84 RX1 yX1_tell wsX1_tell) := goodIn_app (goodIn_of _ (by decide +kernel)) ggX6_told_X1_tell
theorem dX6_told_0 : decode cX6_told 0 = .ok (.aload_n 0, 1) := by decide +kernel
theorem dX6_told_1 : decode cX6_told 1 = .ok (.iload_n 1, 1) := by decide +kernel
theorem dX6_told_2 : decode cX6_told 2 = .ok (.invokevirtual 80, 3) := by decide +kernel
theorem dX6_told_5 : decode cX6_told 5 = .ok (.astore_n 3, 1) := by decide +kernel
theorem dX6_told_6 : decode cX6_told 6 = .ok (.aload_n 3, 1) := by decide +kernel
theorem dX6_told_7 : decode cX6_told 7 = .ok (.ifnonnull 7, 3) := by decide +kernel
theorem dX6_told_10 : decode cX6_told 10 = .ok (.iconst (-1), 1) := by decide +kernel
theorem dX6_told_11 : decode cX6_told 11 = .ok (.goto 8, 3) := by decide +kernel
theorem dX6_told_14 : decode cX6_told 14 = .ok (.aload_n 3, 1) := by decide +kernel
theorem dX6_told_15 : decode cX6_told 15 = .ok (.iload_n 2, 1) := by decide +kernel
theorem dX6_told_16 : decode cX6_told 16 = .ok (.invokevirtual 84, 3) := by decide +kernel
theorem dX6_told_19 : decode cX6_told 19 = .ok (.ireturn, 1) := by decide +kernel
set_option maxRecDepth 20000 in
theorem ggX6_span_X2_canBe : GoodIn wsX6_span wsX2_canBe := goodIn_r _ [4, 5, 6, 7] (by decide +kernel) (by decide +kernel)
set_option maxRecDepth 20000 in
theorem gX6_span_X2_canBe : GoodIn wsX6_span (va_wsS RX6 88 yX2_canBe wsX2_canBe) := goodIn_app (goodIn_of _ (by decide +kernel)) ggX6_span_X2_canBe
set_option maxRecDepth 20000 in
theorem ggX6_span_X2_bestSpan : GoodIn wsX6_span wsX2_bestSpan := goodIn_r _ [10, 11, 12, 3, 13, 14, 15, 16, 17, 18, 19, 20] (by decide +kernel) (by decide +kernel)
set_option maxRecDepth 20000 in
theorem gX6_span_X2_bestSpan : GoodIn wsX6_span (va_wsS RX6 92 yX2_bestSpan wsX2_bestSpan) := goodIn_app (goodIn_of _ (by decide +kernel)) ggX6_span_X2_bestSpan
theorem dX6_span_0 : decode cX6_span 0 = .ok (.iload_n 1, 1) := by decide +kernel
theorem dX6_span_1 : decode cX6_span 1 = .ok (.iload_n 2, 1) := by decide +kernel
theorem dX6_span_2 : decode cX6_span 2 = .ok (.iload_n 3, 1) := by decide +kernel
theorem dX6_span_3 : decode cX6_span 3 = .ok (.invokestatic 88, 3) := by decide +kernel
theorem dX6_span_6 : decode cX6_span 6 = .ok (.ifCond .eq 12, 3) := by decide +kernel
theorem dX6_span_9 : decode cX6_span 9 = .ok (.iload_n 1, 1) := by decide +kernel
theorem dX6_span_10 : decode cX6_span 10 = .ok (.iload_n 2, 1) := by decide +kernel
theorem dX6_span_11 : decode cX6_span 11 = .ok (.iload_n 3, 1) := by decide +kernel
theorem dX6_span_12 : decode cX6_span 12 = .ok (.invokestatic 92, 3) := by decide +kernel
theorem dX6_span_15 : decode cX6_span 15 = .ok (.goto 4, 3) := by decide +kernel
theorem dX6_span_18 : decode cX6_span 18 = .ok (.iconst (-1), 1) := by decide +kernel
theorem dX6_span_19 : decode cX6_span 19 = .ok (.ireturn, 1) := by decide +kernel
set_option maxRecDepth 20000 in
theorem ggX6_mean_X2_canBe : GoodIn wsX6_mean wsX2_canBe := goodIn_r _ [5, 6, 7, 8] (by decide +kernel) (by decide +kernel)
set_option maxRecDepth 20000 in
theorem gX6_mean_X2_canBe : GoodIn wsX6_mean (va_wsS RX6 88 yX2_canBe wsX2_canBe) := goodIn_app (goodIn_of _ (by decide +kernel)) ggX6_mean_X2_canBe
set_option maxRecDepth 20000 in
theorem ggX6_mean_X6_within : GoodIn wsX6_mean wsX6_within := goodIn_r _ [8] (by decide +kernel) (by decide +kernel)
set_option maxRecDepth 20000 in
theorem gX6_mean_X6_within : GoodIn wsX6_mean (va_wsS RX6 38 yX6_within wsX6_within) := goodIn_app (goodIn_of _ (by decide +kernel)) ggX6_mean_X6_within
set_option maxRecDepth 20000 in
theorem ggX6_mean_X2_power : GoodIn wsX6_mean wsX2_power := goodIn_r _ [12] (by decide +kernel) (by decide +kernel)
set_option maxRecDepth 20000 in
theorem gX6_mean_X2_power : GoodIn wsX6_mean (va_wsS RX6 98 yX2_power wsX2_power) := goodIn_app (goodIn_of _ (by decide +kernel)) ggX6_mean_X2_power
set_option maxRecDepth 20000 in
theorem ggX6_mean_X2_above : GoodIn wsX6_mean wsX2_above := goodIn_r _ [15, 16, 17, 18, 19, 20, 11, 4, 12] (by decide +kernel) (by decide +kernel)
set_option maxRecDepth 20000 in
theorem gX6_mean_X2_above : GoodIn wsX6_mean (va_wsS RX6 102 yX2_above wsX2_above) := goodIn_app (goodIn_of _ (by decide +kernel)) ggX6_mean_X2_above
set_option maxRecDepth 20000 in
theorem ggX6_mean_X2_commonDivisor : GoodIn wsX6_mean wsX2_commonDivisor := goodIn_r _ [23] (by decide +kernel) (by decide +kernel)
set_option maxRecDepth 20000 in
theorem gX6_mean_X2_commonDivisor : GoodIn wsX6_mean (va_wsS RX6 106 yX2_commonDivisor wsX2_commonDivisor) := goodIn_app (goodIn_of _ (by decide +kernel)) ggX6_mean_X2_commonDivisor
theorem dX6_mean_0 : decode cX6_mean 0 = .ok (.iload_n 1, 1) := by decide +kernel
theorem dX6_mean_1 : decode cX6_mean 1 = .ok (.iload_n 2, 1) := by decide +kernel
theorem dX6_mean_2 : decode cX6_mean 2 = .ok (.iload_n 3, 1) := by decide +kernel
theorem dX6_mean_3 : decode cX6_mean 3 = .ok (.invokestatic 88, 3) := by decide +kernel
theorem dX6_mean_6 : decode cX6_mean 6 = .ok (.ifCond .eq 23, 3) := by decide +kernel
theorem dX6_mean_9 : decode cX6_mean 9 = .ok (.iload 4, 2) := by decide +kernel
theorem dX6_mean_11 : decode cX6_mean 11 = .ok (.iconst 1, 1) := by decide +kernel
theorem dX6_mean_12 : decode cX6_mean 12 = .ok (.iload_n 1, 1) := by decide +kernel
theorem dX6_mean_13 : decode cX6_mean 13 = .ok (.invokestatic 38, 3) := by decide +kernel
theorem dX6_mean_16 : decode cX6_mean 16 = .ok (.ifCond .eq 13, 3) := by decide +kernel
theorem dX6_mean_19 : decode cX6_mean 19 = .ok (.iload 5, 2) := by decide +kernel
theorem dX6_mean_21 : decode cX6_mean 21 = .ok (.iconst 0, 1) := by decide +kernel
theorem dX6_mean_22 : decode cX6_mean 22 = .ok (.iconst 1, 1) := by decide +kernel
theorem dX6_mean_23 : decode cX6_mean 23 = .ok (.invokestatic 38, 3) := by decide +kernel
theorem dX6_mean_26 : decode cX6_mean 26 = .ok (.ifCond .ne 7, 3) := by decide +kernel
theorem dX6_mean_29 : decode cX6_mean 29 = .ok (.ldc2_w 96, 3) := by decide +kernel
theorem dX6_mean_32 : decode cX6_mean 32 = .ok (.lreturn, 1) := by decide +kernel
theorem dX6_mean_33 : decode cX6_mean 33 = .ok (.iload_n 3, 1) := by decide +kernel
theorem dX6_mean_34 : decode cX6_mean 34 = .ok (.iconst 1, 1) := by decide +kernel
theorem dX6_mean_35 : decode cX6_mean 35 = .ok (.isub, 1) := by decide +kernel
theorem dX6_mean_36 : decode cX6_mean 36 = .ok (.iload 4, 2) := by decide +kernel
theorem dX6_mean_38 : decode cX6_mean 38 = .ok (.iload_n 2, 1) := by decide +kernel
theorem dX6_mean_39 : decode cX6_mean 39 = .ok (.iadd, 1) := by decide +kernel
theorem dX6_mean_40 : decode cX6_mean 40 = .ok (.invokestatic 98, 3) := by decide +kernel
theorem dX6_mean_43 : decode cX6_mean 43 = .ok (.lstore 6, 2) := by decide +kernel
theorem dX6_mean_45 : decode cX6_mean 45 = .ok (.iload_n 1, 1) := by decide +kernel
theorem dX6_mean_46 : decode cX6_mean 46 = .ok (.iload_n 2, 1) := by decide +kernel
theorem dX6_mean_47 : decode cX6_mean 47 = .ok (.iload_n 3, 1) := by decide +kernel
theorem dX6_mean_48 : decode cX6_mean 48 = .ok (.iload 4, 2) := by decide +kernel
theorem dX6_mean_50 : decode cX6_mean 50 = .ok (.iload 4, 2) := by decide +kernel
theorem dX6_mean_52 : decode cX6_mean 52 = .ok (.iload_n 2, 1) := by decide +kernel
theorem dX6_mean_53 : decode cX6_mean 53 = .ok (.iadd, 1) := by decide +kernel
theorem dX6_mean_54 : decode cX6_mean 54 = .ok (.invokestatic 102, 3) := by decide +kernel
theorem dX6_mean_57 : decode cX6_mean 57 = .ok (.lstore 8, 2) := by decide +kernel
theorem dX6_mean_59 : decode cX6_mean 59 = .ok (.lload 8, 2) := by decide +kernel
theorem dX6_mean_61 : decode cX6_mean 61 = .ok (.lload 6, 2) := by decide +kernel
theorem dX6_mean_63 : decode cX6_mean 63 = .ok (.invokestatic 106, 3) := by decide +kernel
theorem dX6_mean_66 : decode cX6_mean 66 = .ok (.lstore 10, 2) := by decide +kernel
theorem dX6_mean_68 : decode cX6_mean 68 = .ok (.lload 10, 2) := by decide +kernel
theorem dX6_mean_70 : decode cX6_mean 70 = .ok (.lconst 0, 1) := by decide +kernel
theorem dX6_mean_71 : decode cX6_mean 71 = .ok (.lcmp, 1) := by decide +kernel
theorem dX6_mean_72 : decode cX6_mean 72 = .ok (.ifCond .gt 7, 3) := by decide +kernel
theorem dX6_mean_75 : decode cX6_mean 75 = .ok (.ldc2_w 96, 3) := by decide +kernel
theorem dX6_mean_78 : decode cX6_mean 78 = .ok (.lreturn, 1) := by decide +kernel
theorem dX6_mean_79 : decode cX6_mean 79 = .ok (.iload 5, 2) := by decide +kernel
theorem dX6_mean_81 : decode cX6_mean 81 = .ok (.ifCond .ne 8, 3) := by decide +kernel
theorem dX6_mean_84 : decode cX6_mean 84 = .ok (.lload 8, 2) := by decide +kernel
theorem dX6_mean_86 : decode cX6_mean 86 = .ok (.goto 5, 3) := by decide +kernel
theorem dX6_mean_89 : decode cX6_mean 89 = .ok (.lload 6, 2) := by decide +kernel
theorem dX6_mean_91 : decode cX6_mean 91 = .ok (.lload 10, 2) := by decide +kernel
theorem dX6_mean_93 : decode cX6_mean 93 = .ok (.ldiv, 1) := by decide +kernel
theorem dX6_mean_94 : decode cX6_mean 94 = .ok (.lreturn, 1) := by decide +kernel
set_option maxRecDepth 20000 in
theorem ggX6_levels_X6_within : GoodIn wsX6_levels wsX6_within := goodIn_r _ [5] (by decide +kernel) (by decide +kernel)
set_option maxRecDepth 20000 in
theorem gX6_levels_X6_within : GoodIn wsX6_levels (va_wsS RX6 38 yX6_within wsX6_within) := goodIn_app (goodIn_of _ (by decide +kernel)) ggX6_levels_X6_within
set_option maxRecDepth 20000 in
theorem ggX6_levels_X3_startAnew : GoodIn wsX6_levels wsX3_startAnew := goodIn_r _ [10, 11, 12, 13, 14, 9, 15, 16, 17, 18, 3, 4, 5, 25, 26, 27, 28, 29, 30, 31, 32, 33] (by decide +kernel) (by decide +kernel)
set_option maxRecDepth 20000 in
theorem gX6_levels_X3_startAnew : GoodIn wsX6_levels (wsV RX6 110 RX3 yX3_startAnew wsX3_startAnew) := goodIn_app (goodIn_of _ (by decide +kernel)) ggX6_levels_X3_startAnew
theorem dX6_levels_0 : decode cX6_levels 0 = .ok (.iload_n 1, 1) := by decide +kernel
theorem dX6_levels_1 : decode cX6_levels 1 = .ok (.iconst 1, 1) := by decide +kernel
theorem dX6_levels_2 : decode cX6_levels 2 = .ok (.bipush 6, 2) := by decide +kernel
theorem dX6_levels_4 : decode cX6_levels 4 = .ok (.invokestatic 38, 3) := by decide +kernel
theorem dX6_levels_7 : decode cX6_levels 7 = .ok (.ifCond .ne 5, 3) := by decide +kernel
theorem dX6_levels_10 : decode cX6_levels 10 = .ok (.iconst 0, 1) := by decide +kernel
theorem dX6_levels_11 : decode cX6_levels 11 = .ok (.ireturn, 1) := by decide +kernel
theorem dX6_levels_12 : decode cX6_levels 12 = .ok (.aload_n 0, 1) := by decide +kernel
theorem dX6_levels_13 : decode cX6_levels 13 = .ok (.getfield 27, 3) := by decide +kernel
theorem dX6_levels_16 : decode cX6_levels 16 = .ok (.iload_n 1, 1) := by decide +kernel
theorem dX6_levels_17 : decode cX6_levels 17 = .ok (.invokevirtual 110, 3) := by decide +kernel
theorem dX6_levels_20 : decode cX6_levels 20 = .ok (.iconst 1, 1) := by decide +kernel
theorem dX6_levels_21 : decode cX6_levels 21 = .ok (.ireturn, 1) := by decide +kernel
set_option maxRecDepth 20000 in
theorem ggX6_level_X3_has : GoodIn wsX6_level wsX3_has := goodIn_r _ [6, 7, 8, 9, 10, 29, 30, 31, 32, 33, 34, 35, 36, 37] (by decide +kernel) (by decide +kernel)
set_option maxRecDepth 20000 in
theorem gX6_level_X3_has : GoodIn wsX6_level (wsV RX6 113 RX3 yX3_has wsX3_has) := goodIn_app (goodIn_of _ (by decide +kernel)) ggX6_level_X3_has
set_option maxRecDepth 20000 in
theorem ggX6_level_X6_within : GoodIn wsX6_level wsX6_within := goodIn_r _ [10] (by decide +kernel) (by decide +kernel)
set_option maxRecDepth 20000 in
theorem gX6_level_X6_within : GoodIn wsX6_level (va_wsS RX6 38 yX6_within wsX6_within) := goodIn_app (goodIn_of _ (by decide +kernel)) ggX6_level_X6_within
set_option maxRecDepth 20000 in
theorem ggX6_level_X3_canGo : GoodIn wsX6_level wsX3_canGo := goodIn_r _ [15, 7, 29, 30, 31, 32, 33, 34, 35, 36, 37] (by decide +kernel) (by decide +kernel)
set_option maxRecDepth 20000 in
theorem gX6_level_X3_canGo : GoodIn wsX6_level (wsV RX6 117 RX3 yX3_canGo wsX3_canGo) := goodIn_app (goodIn_of _ (by decide +kernel)) ggX6_level_X3_canGo
set_option maxRecDepth 20000 in
theorem ggX6_level_X3_setLevel : GoodIn wsX6_level wsX3_setLevel := goodIn_r _ [19, 20, 21, 22, 8, 9, 10, 29, 30, 31, 32, 33, 34, 35, 36, 37] (by decide +kernel) (by decide +kernel)
set_option maxRecDepth 20000 in
theorem gX6_level_X3_setLevel : GoodIn wsX6_level (wsV RX6 120 RX3 yX3_setLevel wsX3_setLevel) := goodIn_app (goodIn_of _ (by decide +kernel)) ggX6_level_X3_setLevel
theorem dX6_level_0 : decode cX6_level 0 = .ok (.aload_n 0, 1) := by decide +kernel
theorem dX6_level_1 : decode cX6_level 1 = .ok (.getfield 27, 3) := by decide +kernel
theorem dX6_level_4 : decode cX6_level 4 = .ok (.iload_n 1, 1) := by decide +kernel
theorem dX6_level_5 : decode cX6_level 5 = .ok (.invokevirtual 113, 3) := by decide +kernel
theorem dX6_level_8 : decode cX6_level 8 = .ok (.ifCond .eq 25, 3) := by decide +kernel
theorem dX6_level_11 : decode cX6_level 11 = .ok (.iload_n 2, 1) := by decide +kernel
theorem dX6_level_12 : decode cX6_level 12 = .ok (.iconst 0, 1) := by decide +kernel
theorem dX6_level_13 : decode cX6_level 13 = .ok (.sipush 999, 3) := by decide +kernel
theorem dX6_level_16 : decode cX6_level 16 = .ok (.invokestatic 38, 3) := by decide +kernel
theorem dX6_level_19 : decode cX6_level 19 = .ok (.ifCond .eq 14, 3) := by decide +kernel
theorem dX6_level_22 : decode cX6_level 22 = .ok (.aload_n 0, 1) := by decide +kernel
theorem dX6_level_23 : decode cX6_level 23 = .ok (.getfield 27, 3) := by decide +kernel
theorem dX6_level_26 : decode cX6_level 26 = .ok (.iload_n 3, 1) := by decide +kernel
theorem dX6_level_27 : decode cX6_level 27 = .ok (.invokevirtual 117, 3) := by decide +kernel
theorem dX6_level_30 : decode cX6_level 30 = .ok (.ifCond .ne 5, 3) := by decide +kernel
theorem dX6_level_33 : decode cX6_level 33 = .ok (.iconst 0, 1) := by decide +kernel
theorem dX6_level_34 : decode cX6_level 34 = .ok (.ireturn, 1) := by decide +kernel
theorem dX6_level_35 : decode cX6_level 35 = .ok (.aload_n 0, 1) := by decide +kernel
theorem dX6_level_36 : decode cX6_level 36 = .ok (.getfield 27, 3) := by decide +kernel
theorem dX6_level_39 : decode cX6_level 39 = .ok (.iload_n 1, 1) := by decide +kernel
theorem dX6_level_40 : decode cX6_level 40 = .ok (.iload_n 2, 1) := by decide +kernel
theorem dX6_level_41 : decode cX6_level 41 = .ok (.iload_n 3, 1) := by decide +kernel
theorem dX6_level_42 : decode cX6_level 42 = .ok (.invokevirtual 120, 3) := by decide +kernel
theorem dX6_level_45 : decode cX6_level 45 = .ok (.iconst 1, 1) := by decide +kernel
theorem dX6_level_46 : decode cX6_level 46 = .ok (.ireturn, 1) := by decide +kernel
set_option maxRecDepth 20000 in
theorem ggX6_table_X3_hasState : GoodIn wsX6_table wsX3_hasState := goodIn_r _ [7, 8, 9, 10, 11, 12, 13, 6, 14, 15, 79, 80, 81, 82, 83, 84, 85, 86, 87] (by decide +kernel) (by decide +kernel)
set_option maxRecDepth 20000 in
theorem gX6_table_X3_hasState : GoodIn wsX6_table (wsV RX6 124 RX3 yX3_hasState wsX3_hasState) := goodIn_app (goodIn_of _ (by decide +kernel)) ggX6_table_X3_hasState
set_option maxRecDepth 20000 in
theorem ggX6_table_X3_meanOf : GoodIn wsX6_table wsX3_meanOf := goodIn_r _ [19, 20, 21, 22, 23, 6, 24, 25, 15, 26, 27, 28, 29, 30, 31, 32, 33, 34, 35, 36, 37, 38, 39, 40, 41, 42, 43, 44, 45, 46, 47, 48, 8, 9, 10, 49, 50, 51, 52, 53, 54, 55, 56, 57, 58, 59, 60, 61, 62, 63, 64, 65, 66, 67, 68, 69, 70, 71, 72, 79, 80, 81, 82, 83, 84, 85, 86, 87, 88, 89] (by decide +kernel) (by decide +kernel)
set_option maxRecDepth 20000 in
theorem gX6_table_X3_meanOf : GoodIn wsX6_table (wsV RX6 127 RX3 yX3_meanOf wsX3_meanOf) := goodIn_app (goodIn_of _ (by decide +kernel)) ggX6_table_X3_meanOf
theorem dX6_table_0 : decode cX6_table 0 = .ok (.aload_n 0, 1) := by decide +kernel
theorem dX6_table_1 : decode cX6_table 1 = .ok (.getfield 27, 3) := by decide +kernel
theorem dX6_table_4 : decode cX6_table 4 = .ok (.iload_n 1, 1) := by decide +kernel
theorem dX6_table_5 : decode cX6_table 5 = .ok (.iload_n 2, 1) := by decide +kernel
theorem dX6_table_6 : decode cX6_table 6 = .ok (.iload_n 3, 1) := by decide +kernel
theorem dX6_table_7 : decode cX6_table 7 = .ok (.invokevirtual 124, 3) := by decide +kernel
theorem dX6_table_10 : decode cX6_table 10 = .ok (.ifCond .eq 16, 3) := by decide +kernel
theorem dX6_table_13 : decode cX6_table 13 = .ok (.aload_n 0, 1) := by decide +kernel
theorem dX6_table_14 : decode cX6_table 14 = .ok (.getfield 27, 3) := by decide +kernel
theorem dX6_table_17 : decode cX6_table 17 = .ok (.iload_n 1, 1) := by decide +kernel
theorem dX6_table_18 : decode cX6_table 18 = .ok (.iload_n 2, 1) := by decide +kernel
theorem dX6_table_19 : decode cX6_table 19 = .ok (.iload_n 3, 1) := by decide +kernel
theorem dX6_table_20 : decode cX6_table 20 = .ok (.invokevirtual 127, 3) := by decide +kernel
theorem dX6_table_23 : decode cX6_table 23 = .ok (.goto 6, 3) := by decide +kernel
theorem dX6_table_26 : decode cX6_table 26 = .ok (.ldc2_w 96, 3) := by decide +kernel
theorem dX6_table_29 : decode cX6_table 29 = .ok (.lreturn, 1) := by decide +kernel
set_option maxRecDepth 20000 in
theorem ggX6_rule_X3_hasState : GoodIn wsX6_rule wsX3_hasState := goodIn_r _ [6, 7, 8, 9, 10, 11, 12, 5, 13, 14, 78, 79, 80, 81, 82, 83, 84, 85, 86] (by decide +kernel) (by decide +kernel)
set_option maxRecDepth 20000 in
theorem gX6_rule_X3_hasState : GoodIn wsX6_rule (wsV RX6 124 RX3 yX3_hasState wsX3_hasState) := goodIn_app (goodIn_of _ (by decide +kernel)) ggX6_rule_X3_hasState
set_option maxRecDepth 20000 in
theorem ggX6_rule_X3_ruleOf : GoodIn wsX6_rule wsX3_ruleOf := goodIn_r _ [18, 19, 20, 21, 22, 5, 23, 24, 14, 25, 26, 27, 28, 29, 30, 31, 32, 33, 34, 35, 36, 37, 38, 39, 40, 41, 42, 43, 44, 45, 46, 47, 7, 8, 9, 48, 49, 50, 51, 52, 53, 54, 55, 56, 57, 58, 59, 60, 61, 62, 63, 64, 65, 66, 67, 68, 69, 70, 71, 78, 79, 80, 81, 82, 83, 84, 85, 86, 87, 88] (by decide +kernel) (by decide +kernel)
set_option maxRecDepth 20000 in
theorem gX6_rule_X3_ruleOf : GoodIn wsX6_rule (wsV RX6 131 RX3 yX3_ruleOf wsX3_ruleOf) := goodIn_app (goodIn_of _ (by decide +kernel)) ggX6_rule_X3_ruleOf
theorem dX6_rule_0 : decode cX6_rule 0 = .ok (.aload_n 0, 1) := by decide +kernel
theorem dX6_rule_1 : decode cX6_rule 1 = .ok (.getfield 27, 3) := by decide +kernel
theorem dX6_rule_4 : decode cX6_rule 4 = .ok (.iload_n 1, 1) := by decide +kernel
theorem dX6_rule_5 : decode cX6_rule 5 = .ok (.iload_n 2, 1) := by decide +kernel
theorem dX6_rule_6 : decode cX6_rule 6 = .ok (.iload_n 3, 1) := by decide +kernel
theorem dX6_rule_7 : decode cX6_rule 7 = .ok (.invokevirtual 124, 3) := by decide +kernel
theorem dX6_rule_10 : decode cX6_rule 10 = .ok (.ifCond .eq 16, 3) := by decide +kernel
theorem dX6_rule_13 : decode cX6_rule 13 = .ok (.aload_n 0, 1) := by decide +kernel
theorem dX6_rule_14 : decode cX6_rule 14 = .ok (.getfield 27, 3) := by decide +kernel
theorem dX6_rule_17 : decode cX6_rule 17 = .ok (.iload_n 1, 1) := by decide +kernel
theorem dX6_rule_18 : decode cX6_rule 18 = .ok (.iload_n 2, 1) := by decide +kernel
theorem dX6_rule_19 : decode cX6_rule 19 = .ok (.iload_n 3, 1) := by decide +kernel
theorem dX6_rule_20 : decode cX6_rule 20 = .ok (.invokevirtual 131, 3) := by decide +kernel
theorem dX6_rule_23 : decode cX6_rule 23 = .ok (.goto 4, 3) := by decide +kernel
theorem dX6_rule_26 : decode cX6_rule 26 = .ok (.iconst (-1), 1) := by decide +kernel
theorem dX6_rule_27 : decode cX6_rule 27 = .ok (.ireturn, 1) := by decide +kernel
set_option maxRecDepth 20000 in
theorem ggX6_worst_X3_hasState : GoodIn wsX6_worst wsX3_hasState := goodIn_r _ [6, 7, 8, 9, 10, 11, 12, 5, 13, 14, 78, 79, 80, 81, 82, 83, 84, 85, 86] (by decide +kernel) (by decide +kernel)
set_option maxRecDepth 20000 in
theorem gX6_worst_X3_hasState : GoodIn wsX6_worst (wsV RX6 124 RX3 yX3_hasState wsX3_hasState) := goodIn_app (goodIn_of _ (by decide +kernel)) ggX6_worst_X3_hasState
set_option maxRecDepth 20000 in
theorem ggX6_worst_X3_greatestOf : GoodIn wsX6_worst wsX3_greatestOf := goodIn_r _ [18, 19, 20, 21, 22, 5, 23, 24, 14, 25, 26, 27, 28, 29, 30, 31, 32, 33, 34, 35, 36, 37, 38, 39, 40, 41, 42, 43, 44, 45, 46, 47, 48, 7, 8, 9, 49, 50, 51, 52, 53, 54, 55, 56, 57, 58, 59, 60, 61, 62, 63, 64, 65, 66, 67, 68, 69, 70, 71, 78, 79, 80, 81, 82, 83, 84, 85, 86, 87, 88] (by decide +kernel) (by decide +kernel)
set_option maxRecDepth 20000 in
theorem gX6_worst_X3_greatestOf : GoodIn wsX6_worst (wsV RX6 134 RX3 yX3_greatestOf wsX3_greatestOf) := goodIn_app (goodIn_of _ (by decide +kernel)) ggX6_worst_X3_greatestOf
theorem dX6_worst_0 : decode cX6_worst 0 = .ok (.aload_n 0, 1) := by decide +kernel
theorem dX6_worst_1 : decode cX6_worst 1 = .ok (.getfield 27, 3) := by decide +kernel
theorem dX6_worst_4 : decode cX6_worst 4 = .ok (.iload_n 1, 1) := by decide +kernel
theorem dX6_worst_5 : decode cX6_worst 5 = .ok (.iload_n 2, 1) := by decide +kernel
theorem dX6_worst_6 : decode cX6_worst 6 = .ok (.iload_n 3, 1) := by decide +kernel
theorem dX6_worst_7 : decode cX6_worst 7 = .ok (.invokevirtual 124, 3) := by decide +kernel
theorem dX6_worst_10 : decode cX6_worst 10 = .ok (.ifCond .eq 16, 3) := by decide +kernel
theorem dX6_worst_13 : decode cX6_worst 13 = .ok (.aload_n 0, 1) := by decide +kernel
theorem dX6_worst_14 : decode cX6_worst 14 = .ok (.getfield 27, 3) := by decide +kernel
theorem dX6_worst_17 : decode cX6_worst 17 = .ok (.iload_n 1, 1) := by decide +kernel
theorem dX6_worst_18 : decode cX6_worst 18 = .ok (.iload_n 2, 1) := by decide +kernel
theorem dX6_worst_19 : decode cX6_worst 19 = .ok (.iload_n 3, 1) := by decide +kernel
theorem dX6_worst_20 : decode cX6_worst 20 = .ok (.invokevirtual 134, 3) := by decide +kernel
theorem dX6_worst_23 : decode cX6_worst 23 = .ok (.goto 4, 3) := by decide +kernel
theorem dX6_worst_26 : decode cX6_worst 26 = .ok (.iconst (-1), 1) := by decide +kernel
theorem dX6_worst_27 : decode cX6_worst 27 = .ok (.ireturn, 1) := by decide +kernel
set_option maxRecDepth 20000 in
theorem ggX6_capped_X3_hasState : GoodIn wsX6_capped wsX3_hasState := goodIn_r _ [7, 8, 9, 10, 11, 12, 13, 6, 14, 15, 62, 63, 64, 65, 66, 67, 68, 69, 70] (by decide +kernel) (by decide +kernel)
set_option maxRecDepth 20000 in
theorem gX6_capped_X3_hasState : GoodIn wsX6_capped (wsV RX6 124 RX3 yX3_hasState wsX3_hasState) := goodIn_app (goodIn_of _ (by decide +kernel)) ggX6_capped_X3_hasState
set_option maxRecDepth 20000 in
theorem ggX6_capped_X6_within : GoodIn wsX6_capped wsX6_within := goodIn_r _ [10] (by decide +kernel) (by decide +kernel)
set_option maxRecDepth 20000 in
theorem gX6_capped_X6_within : GoodIn wsX6_capped (va_wsS RX6 38 yX6_within wsX6_within) := goodIn_app (goodIn_of _ (by decide +kernel)) ggX6_capped_X6_within
set_option maxRecDepth 20000 in
theorem ggX6_capped_X3_meanCapped : GoodIn wsX6_capped wsX3_meanCapped := goodIn_r _ [20, 21, 22, 23, 24, 15, 25, 26, 27, 28, 6, 29, 30, 31, 32, 33, 34, 35, 36, 37, 38, 39, 8, 9, 10, 40, 41, 42, 43, 44, 45, 46, 47, 48, 49, 50, 51, 52, 53, 54, 55, 62, 63, 64, 65, 66, 67, 68, 69, 70, 71, 72] (by decide +kernel) (by decide +kernel)
set_option maxRecDepth 20000 in
theorem gX6_capped_X3_meanCapped : GoodIn wsX6_capped (wsV RX6 137 RX3 yX3_meanCapped wsX3_meanCapped) := goodIn_app (goodIn_of _ (by decide +kernel)) ggX6_capped_X3_meanCapped
theorem dX6_capped_0 : decode cX6_capped 0 = .ok (.aload_n 0, 1) := by decide +kernel
theorem dX6_capped_1 : decode cX6_capped 1 = .ok (.getfield 27, 3) := by decide +kernel
theorem dX6_capped_4 : decode cX6_capped 4 = .ok (.iload_n 1, 1) := by decide +kernel
theorem dX6_capped_5 : decode cX6_capped 5 = .ok (.iload_n 2, 1) := by decide +kernel
theorem dX6_capped_6 : decode cX6_capped 6 = .ok (.iload_n 3, 1) := by decide +kernel
theorem dX6_capped_7 : decode cX6_capped 7 = .ok (.invokevirtual 124, 3) := by decide +kernel
theorem dX6_capped_10 : decode cX6_capped 10 = .ok (.ifCond .eq 15, 3) := by decide +kernel
theorem dX6_capped_13 : decode cX6_capped 13 = .ok (.iload 4, 2) := by decide +kernel
theorem dX6_capped_15 : decode cX6_capped 15 = .ok (.iconst 0, 1) := by decide +kernel
theorem dX6_capped_16 : decode cX6_capped 16 = .ok (.sipush 999, 3) := by decide +kernel
theorem dX6_capped_19 : decode cX6_capped 19 = .ok (.invokestatic 38, 3) := by decide +kernel
theorem dX6_capped_22 : decode cX6_capped 22 = .ok (.ifCond .ne 7, 3) := by decide +kernel
theorem dX6_capped_25 : decode cX6_capped 25 = .ok (.ldc2_w 96, 3) := by decide +kernel
theorem dX6_capped_28 : decode cX6_capped 28 = .ok (.lreturn, 1) := by decide +kernel
theorem dX6_capped_29 : decode cX6_capped 29 = .ok (.aload_n 0, 1) := by decide +kernel
theorem dX6_capped_30 : decode cX6_capped 30 = .ok (.getfield 27, 3) := by decide +kernel
theorem dX6_capped_33 : decode cX6_capped 33 = .ok (.iload_n 1, 1) := by decide +kernel
theorem dX6_capped_34 : decode cX6_capped 34 = .ok (.iload_n 2, 1) := by decide +kernel
theorem dX6_capped_35 : decode cX6_capped 35 = .ok (.iload_n 3, 1) := by decide +kernel
theorem dX6_capped_36 : decode cX6_capped 36 = .ok (.iload 4, 2) := by decide +kernel
theorem dX6_capped_38 : decode cX6_capped 38 = .ok (.invokevirtual 137, 3) := by decide +kernel
theorem dX6_capped_41 : decode cX6_capped 41 = .ok (.lreturn, 1) := by decide +kernel
set_option maxRecDepth 20000 in
theorem ggX6_oracle_X6_jobOf : GoodIn wsX6_oracle wsX6_jobOf := goodIn_r _ [7, 8, 9, 10, 6, 11, 73, 74, 75, 76, 77, 78] (by decide +kernel) (by decide +kernel)
set_option maxRecDepth 20000 in
theorem gX6_oracle_X6_jobOf : GoodIn wsX6_oracle (wsV RX6 80 RX6 yX6_jobOf wsX6_jobOf) := goodIn_app (goodIn_of _ (by decide +kernel)) ggX6_oracle_X6_jobOf
set_option maxRecDepth 20000 in
theorem ggX6_oracle_X0_leastSum : GoodIn wsX6_oracle wsX0_leastSum := goodIn_r _ [16, 17, 18, 19, 20, 21, 15, 22, 23, 24, 25, 26, 27, 28, 29, 30, 31, 32, 33, 34, 35, 36, 37, 38, 39, 40, 41, 42, 43, 44, 45, 46, 47, 48, 10, 6, 11, 49, 50, 51, 52, 53, 54, 55, 56, 57, 58, 59, 60, 61, 62, 63, 64, 65, 66, 67, 68, 69, 70, 71, 72, 95, 96, 97, 98, 99, 100, 101, 102, 103, 104, 105, 106] (by decide +kernel) (by decide +kernel)
set_option maxRecDepth 20000 in
theorem gX6_oracle_X0_leastSum : GoodIn wsX6_oracle (wsV RX6 145 RX0 yX0_leastSum wsX0_leastSum) := goodIn_app (goodIn_of _ (by decide +kernel)) ggX6_oracle_X0_leastSum
theorem dX6_oracle_0 : decode cX6_oracle 0 = .ok (.aload_n 0, 1) := by decide +kernel
theorem dX6_oracle_1 : decode cX6_oracle 1 = .ok (.iload_n 1, 1) := by decide +kernel
theorem dX6_oracle_2 : decode cX6_oracle 2 = .ok (.invokevirtual 80, 3) := by decide +kernel
theorem dX6_oracle_5 : decode cX6_oracle 5 = .ok (.astore_n 2, 1) := by decide +kernel
theorem dX6_oracle_6 : decode cX6_oracle 6 = .ok (.aload_n 2, 1) := by decide +kernel
theorem dX6_oracle_7 : decode cX6_oracle 7 = .ok (.ifnonnull 7, 3) := by decide +kernel
theorem dX6_oracle_10 : decode cX6_oracle 10 = .ok (.iconst (-1), 1) := by decide +kernel
theorem dX6_oracle_11 : decode cX6_oracle 11 = .ok (.goto 14, 3) := by decide +kernel
theorem dX6_oracle_14 : decode cX6_oracle 14 = .ok (.aload_n 0, 1) := by decide +kernel
theorem dX6_oracle_15 : decode cX6_oracle 15 = .ok (.getfield 34, 3) := by decide +kernel
theorem dX6_oracle_18 : decode cX6_oracle 18 = .ok (.aload_n 2, 1) := by decide +kernel
theorem dX6_oracle_19 : decode cX6_oracle 19 = .ok (.getfield 141, 3) := by decide +kernel
theorem dX6_oracle_22 : decode cX6_oracle 22 = .ok (.invokevirtual 145, 3) := by decide +kernel
theorem dX6_oracle_25 : decode cX6_oracle 25 = .ok (.ireturn, 1) := by decide +kernel
set_option maxRecDepth 20000 in
theorem ggX6_count_X6_readyJobs : GoodIn wsX6_count wsX6_readyJobs := goodIn_r _ [11, 2, 12, 13, 14, 10, 15, 16, 17, 18, 19, 20, 21, 22, 23, 24, 25, 31, 32, 33, 34, 35, 36, 48, 49, 50, 51, 52, 53, 54, 55, 56, 57, 58, 59, 60, 61, 62, 63] (by decide +kernel) (by decide +kernel)
set_option maxRecDepth 20000 in
theorem gX6_count_X6_readyJobs : GoodIn wsX6_count (wsV RX6 149 RX6 yX6_readyJobs wsX6_readyJobs) := goodIn_app (goodIn_of _ (by decide +kernel)) ggX6_count_X6_readyJobs
set_option maxRecDepth 20000 in
theorem ggX6_count_X6_allPaid : GoodIn wsX6_count wsX6_allPaid := goodIn_r _ [29, 2, 30, 12, 13, 14, 10, 15, 16, 17, 18, 19, 31, 32, 33, 34, 35, 36, 48, 49, 50, 51, 52, 53, 54, 55, 56, 57, 58, 59, 60, 61, 62, 63] (by decide +kernel) (by decide +kernel)
set_option maxRecDepth 20000 in
theorem gX6_count_X6_allPaid : GoodIn wsX6_count (wsV RX6 153 RX6 yX6_allPaid wsX6_allPaid) := goodIn_app (goodIn_of _ (by decide +kernel)) ggX6_count_X6_allPaid
theorem dX6_count_0 : decode cX6_count 0 = .ok (.iload_n 1, 1) := by decide +kernel
theorem dX6_count_1 : decode cX6_count 1 = .ok (.tableswitch 75 0 5 #[39, 44, 49, 54, 59, 67], 39) := by decide +kernel
theorem dX6_count_40 : decode cX6_count 40 = .ok (.aload_n 0, 1) := by decide +kernel
theorem dX6_count_41 : decode cX6_count 41 = .ok (.getfield 42, 3) := by decide +kernel
theorem dX6_count_44 : decode cX6_count 44 = .ok (.ireturn, 1) := by decide +kernel
theorem dX6_count_45 : decode cX6_count 45 = .ok (.aload_n 0, 1) := by decide +kernel
theorem dX6_count_46 : decode cX6_count 46 = .ok (.getfield 50, 3) := by decide +kernel
theorem dX6_count_49 : decode cX6_count 49 = .ok (.ireturn, 1) := by decide +kernel
theorem dX6_count_50 : decode cX6_count 50 = .ok (.aload_n 0, 1) := by decide +kernel
theorem dX6_count_51 : decode cX6_count 51 = .ok (.invokevirtual 149, 3) := by decide +kernel
theorem dX6_count_54 : decode cX6_count 54 = .ok (.ireturn, 1) := by decide +kernel
theorem dX6_count_55 : decode cX6_count 55 = .ok (.aload_n 0, 1) := by decide +kernel
theorem dX6_count_56 : decode cX6_count 56 = .ok (.invokevirtual 153, 3) := by decide +kernel
theorem dX6_count_59 : decode cX6_count 59 = .ok (.ireturn, 1) := by decide +kernel
theorem dX6_count_60 : decode cX6_count 60 = .ok (.aload_n 0, 1) := by decide +kernel
theorem dX6_count_61 : decode cX6_count 61 = .ok (.getfield 27, 3) := by decide +kernel
theorem dX6_count_64 : decode cX6_count 64 = .ok (.getfield 156, 3) := by decide +kernel
theorem dX6_count_67 : decode cX6_count 67 = .ok (.ireturn, 1) := by decide +kernel
theorem dX6_count_68 : decode cX6_count 68 = .ok (.aload_n 0, 1) := by decide +kernel
theorem dX6_count_69 : decode cX6_count 69 = .ok (.getfield 10, 3) := by decide +kernel
theorem dX6_count_72 : decode cX6_count 72 = .ok (.getfield 53, 3) := by decide +kernel
theorem dX6_count_75 : decode cX6_count 75 = .ok (.ireturn, 1) := by decide +kernel
theorem dX6_count_76 : decode cX6_count 76 = .ok (.iconst (-1), 1) := by decide +kernel
theorem dX6_count_77 : decode cX6_count 77 = .ok (.ireturn, 1) := by decide +kernel
set_option maxRecDepth 20000 in
theorem ggX6_passHour_X6_jobOf : GoodIn wsX6_passHour wsX6_jobOf := goodIn_r _ [7, 8, 9, 10, 6, 11, 95, 96, 97, 98, 99, 100] (by decide +kernel) (by decide +kernel)
set_option maxRecDepth 20000 in
theorem gX6_passHour_X6_jobOf : GoodIn wsX6_passHour (wsV RX6 80 RX6 yX6_jobOf wsX6_jobOf) := goodIn_app (goodIn_of _ (by decide +kernel)) ggX6_passHour_X6_jobOf
set_option maxRecDepth 20000 in
theorem ggX6_passHour_X1_passHour : GoodIn wsX6_passHour wsX1_passHour := goodIn_r _ [16, 17, 18, 19, 20, 21, 22, 23, 24, 25, 26, 27, 28, 29, 15, 30, 31, 32, 33, 34, 35, 36, 37, 38, 39, 40, 41, 42, 43, 44, 45, 10, 6, 11, 46, 47, 48, 49, 50, 51, 52, 53, 54, 55, 56, 57, 58, 59, 60, 61, 62, 63, 64, 65, 66, 67, 68, 69, 70, 71, 72, 73, 74, 75, 76, 77, 78, 79, 80, 81, 82, 83, 84, 85, 86, 87, 88, 89, 90, 91, 92, 93, 94, 101, 102, 103, 104, 105, 106, 107, 108, 109, 110, 111, 112, 113, 114, 115, 116, 117, 118, 119, 120, 121, 122, 123, 124, 125, 126] (by decide +kernel) (by decide +kernel)
set_option maxRecDepth 20000 in
theorem gX6_passHour_X1_passHour : GoodIn wsX6_passHour (wsV RX6 159 RX1 yX1_passHour wsX1_passHour) := goodIn_app (goodIn_of _ (by decide +kernel)) ggX6_passHour_X1_passHour
theorem dX6_passHour_0 : decode cX6_passHour 0 = .ok (.iconst 0, 1) := by decide +kernel
theorem dX6_passHour_1 : decode cX6_passHour 1 = .ok (.istore_n 2, 1) := by decide +kernel
theorem dX6_passHour_2 : decode cX6_passHour 2 = .ok (.iload_n 2, 1) := by decide +kernel
theorem dX6_passHour_3 : decode cX6_passHour 3 = .ok (.aload_n 0, 1) := by decide +kernel
theorem dX6_passHour_4 : decode cX6_passHour 4 = .ok (.getfield 50, 3) := by decide +kernel
theorem dX6_passHour_7 : decode cX6_passHour 7 = .ok (.if_icmp .ge 28, 3) := by decide +kernel
theorem dX6_passHour_10 : decode cX6_passHour 10 = .ok (.aload_n 0, 1) := by decide +kernel
theorem dX6_passHour_11 : decode cX6_passHour 11 = .ok (.iload_n 2, 1) := by decide +kernel
theorem dX6_passHour_12 : decode cX6_passHour 12 = .ok (.invokevirtual 80, 3) := by decide +kernel
theorem dX6_passHour_15 : decode cX6_passHour 15 = .ok (.astore_n 3, 1) := by decide +kernel
theorem dX6_passHour_16 : decode cX6_passHour 16 = .ok (.aload_n 3, 1) := by decide +kernel
theorem dX6_passHour_17 : decode cX6_passHour 17 = .ok (.ifnull 12, 3) := by decide +kernel
theorem dX6_passHour_20 : decode cX6_passHour 20 = .ok (.aload_n 3, 1) := by decide +kernel
theorem dX6_passHour_21 : decode cX6_passHour 21 = .ok (.iload_n 1, 1) := by decide +kernel
theorem dX6_passHour_22 : decode cX6_passHour 22 = .ok (.aload_n 0, 1) := by decide +kernel
theorem dX6_passHour_23 : decode cX6_passHour 23 = .ok (.getfield 10, 3) := by decide +kernel
theorem dX6_passHour_26 : decode cX6_passHour 26 = .ok (.invokevirtual 159, 3) := by decide +kernel
theorem dX6_passHour_29 : decode cX6_passHour 29 = .ok (.iinc 2 1, 3) := by decide +kernel
theorem dX6_passHour_32 : decode cX6_passHour 32 = .ok (.goto (-30), 3) := by decide +kernel
theorem dX6_passHour_35 : decode cX6_passHour 35 = .ok (.return_, 1) := by decide +kernel
set_option maxRecDepth 20000 in
theorem ggX6_readyJobs_X6_jobOf : GoodIn wsX6_readyJobs wsX6_jobOf := goodIn_r _ [6, 7, 8, 9, 5, 10, 17, 18, 19, 20, 21, 22] (by decide +kernel) (by decide +kernel)
set_option maxRecDepth 20000 in
theorem gX6_readyJobs_X6_jobOf : GoodIn wsX6_readyJobs (wsV RX6 80 RX6 yX6_jobOf wsX6_jobOf) := goodIn_app (goodIn_of _ (by decide +kernel)) ggX6_readyJobs_X6_jobOf
set_option maxRecDepth 20000 in
theorem ggX6_readyJobs_X1_isReady : GoodIn wsX6_readyJobs wsX1_isReady := goodIn_r _ [15, 16, 23, 24, 25, 26, 27, 28, 29, 30, 31, 32, 33, 34, 35, 36, 37, 38] (by decide +kernel) (by decide +kernel)
set_option maxRecDepth 20000 in
theorem gX6_readyJobs_X1_isReady : GoodIn wsX6_readyJobs (wsV RX6 162 RX1 yX1_isReady wsX1_isReady) := goodIn_app (goodIn_of _ (by decide +kernel)) ggX6_readyJobs_X1_isReady
theorem dX6_readyJobs_0 : decode cX6_readyJobs 0 = .ok (.iconst 0, 1) := by decide +kernel
theorem dX6_readyJobs_1 : decode cX6_readyJobs 1 = .ok (.istore_n 1, 1) := by decide +kernel
theorem dX6_readyJobs_2 : decode cX6_readyJobs 2 = .ok (.iconst 0, 1) := by decide +kernel
theorem dX6_readyJobs_3 : decode cX6_readyJobs 3 = .ok (.istore_n 2, 1) := by decide +kernel
theorem dX6_readyJobs_4 : decode cX6_readyJobs 4 = .ok (.iload_n 2, 1) := by decide +kernel
theorem dX6_readyJobs_5 : decode cX6_readyJobs 5 = .ok (.aload_n 0, 1) := by decide +kernel
theorem dX6_readyJobs_6 : decode cX6_readyJobs 6 = .ok (.getfield 50, 3) := by decide +kernel
theorem dX6_readyJobs_9 : decode cX6_readyJobs 9 = .ok (.if_icmp .ge 29, 3) := by decide +kernel
theorem dX6_readyJobs_12 : decode cX6_readyJobs 12 = .ok (.aload_n 0, 1) := by decide +kernel
theorem dX6_readyJobs_13 : decode cX6_readyJobs 13 = .ok (.iload_n 2, 1) := by decide +kernel
theorem dX6_readyJobs_14 : decode cX6_readyJobs 14 = .ok (.invokevirtual 80, 3) := by decide +kernel
theorem dX6_readyJobs_17 : decode cX6_readyJobs 17 = .ok (.astore_n 3, 1) := by decide +kernel
theorem dX6_readyJobs_18 : decode cX6_readyJobs 18 = .ok (.aload_n 3, 1) := by decide +kernel
theorem dX6_readyJobs_19 : decode cX6_readyJobs 19 = .ok (.ifnull 13, 3) := by decide +kernel
theorem dX6_readyJobs_22 : decode cX6_readyJobs 22 = .ok (.aload_n 3, 1) := by decide +kernel
theorem dX6_readyJobs_23 : decode cX6_readyJobs 23 = .ok (.invokevirtual 162, 3) := by decide +kernel
theorem dX6_readyJobs_26 : decode cX6_readyJobs 26 = .ok (.ifCond .eq 6, 3) := by decide +kernel
theorem dX6_readyJobs_29 : decode cX6_readyJobs 29 = .ok (.iinc 1 1, 3) := by decide +kernel
theorem dX6_readyJobs_32 : decode cX6_readyJobs 32 = .ok (.iinc 2 1, 3) := by decide +kernel
theorem dX6_readyJobs_35 : decode cX6_readyJobs 35 = .ok (.goto (-31), 3) := by decide +kernel
theorem dX6_readyJobs_38 : decode cX6_readyJobs 38 = .ok (.iload_n 1, 1) := by decide +kernel
theorem dX6_readyJobs_39 : decode cX6_readyJobs 39 = .ok (.ireturn, 1) := by decide +kernel
set_option maxRecDepth 20000 in
theorem ggX6_allPaid_X6_jobOf : GoodIn wsX6_allPaid wsX6_jobOf := goodIn_r _ [7, 8, 9, 10, 6, 11, 12, 13, 14, 15, 16, 17] (by decide +kernel) (by decide +kernel)
set_option maxRecDepth 20000 in
theorem gX6_allPaid_X6_jobOf : GoodIn wsX6_allPaid (wsV RX6 80 RX6 yX6_jobOf wsX6_jobOf) := goodIn_app (goodIn_of _ (by decide +kernel)) ggX6_allPaid_X6_jobOf
theorem dX6_allPaid_0 : decode cX6_allPaid 0 = .ok (.iconst 0, 1) := by decide +kernel
theorem dX6_allPaid_1 : decode cX6_allPaid 1 = .ok (.istore_n 1, 1) := by decide +kernel
theorem dX6_allPaid_2 : decode cX6_allPaid 2 = .ok (.iconst 0, 1) := by decide +kernel
theorem dX6_allPaid_3 : decode cX6_allPaid 3 = .ok (.istore_n 2, 1) := by decide +kernel
theorem dX6_allPaid_4 : decode cX6_allPaid 4 = .ok (.iload_n 2, 1) := by decide +kernel
theorem dX6_allPaid_5 : decode cX6_allPaid 5 = .ok (.aload_n 0, 1) := by decide +kernel
theorem dX6_allPaid_6 : decode cX6_allPaid 6 = .ok (.getfield 50, 3) := by decide +kernel
theorem dX6_allPaid_9 : decode cX6_allPaid 9 = .ok (.if_icmp .ge 26, 3) := by decide +kernel
theorem dX6_allPaid_12 : decode cX6_allPaid 12 = .ok (.aload_n 0, 1) := by decide +kernel
theorem dX6_allPaid_13 : decode cX6_allPaid 13 = .ok (.iload_n 2, 1) := by decide +kernel
theorem dX6_allPaid_14 : decode cX6_allPaid 14 = .ok (.invokevirtual 80, 3) := by decide +kernel
theorem dX6_allPaid_17 : decode cX6_allPaid 17 = .ok (.astore_n 3, 1) := by decide +kernel
theorem dX6_allPaid_18 : decode cX6_allPaid 18 = .ok (.aload_n 3, 1) := by decide +kernel
theorem dX6_allPaid_19 : decode cX6_allPaid 19 = .ok (.ifnull 10, 3) := by decide +kernel
theorem dX6_allPaid_22 : decode cX6_allPaid 22 = .ok (.iload_n 1, 1) := by decide +kernel
theorem dX6_allPaid_23 : decode cX6_allPaid 23 = .ok (.aload_n 3, 1) := by decide +kernel
theorem dX6_allPaid_24 : decode cX6_allPaid 24 = .ok (.getfield 165, 3) := by decide +kernel
theorem dX6_allPaid_27 : decode cX6_allPaid 27 = .ok (.iadd, 1) := by decide +kernel
theorem dX6_allPaid_28 : decode cX6_allPaid 28 = .ok (.istore_n 1, 1) := by decide +kernel
theorem dX6_allPaid_29 : decode cX6_allPaid 29 = .ok (.iinc 2 1, 3) := by decide +kernel
theorem dX6_allPaid_32 : decode cX6_allPaid 32 = .ok (.goto (-28), 3) := by decide +kernel
theorem dX6_allPaid_35 : decode cX6_allPaid 35 = .ok (.iload_n 1, 1) := by decide +kernel
theorem dX6_allPaid_36 : decode cX6_allPaid 36 = .ok (.ireturn, 1) := by decide +kernel
set_option maxRecDepth 20000 in
theorem ggX6_jobOf_X6_within : GoodIn wsX6_jobOf wsX6_within := goodIn_r _ [5] (by decide +kernel) (by decide +kernel)
set_option maxRecDepth 20000 in
theorem gX6_jobOf_X6_within : GoodIn wsX6_jobOf (va_wsS RX6 38 yX6_within wsX6_within) := goodIn_app (goodIn_of _ (by decide +kernel)) ggX6_jobOf_X6_within
theorem dX6_jobOf_0 : decode cX6_jobOf 0 = .ok (.iload_n 1, 1) := by decide +kernel
theorem dX6_jobOf_1 : decode cX6_jobOf 1 = .ok (.iconst 0, 1) := by decide +kernel
theorem dX6_jobOf_2 : decode cX6_jobOf 2 = .ok (.aload_n 0, 1) := by decide +kernel
theorem dX6_jobOf_3 : decode cX6_jobOf 3 = .ok (.getfield 18, 3) := by decide +kernel
theorem dX6_jobOf_6 : decode cX6_jobOf 6 = .ok (.arraylength, 1) := by decide +kernel
theorem dX6_jobOf_7 : decode cX6_jobOf 7 = .ok (.iconst 1, 1) := by decide +kernel
theorem dX6_jobOf_8 : decode cX6_jobOf 8 = .ok (.isub, 1) := by decide +kernel
theorem dX6_jobOf_9 : decode cX6_jobOf 9 = .ok (.invokestatic 38, 3) := by decide +kernel
theorem dX6_jobOf_12 : decode cX6_jobOf 12 = .ok (.ifCond .eq 12, 3) := by decide +kernel
theorem dX6_jobOf_15 : decode cX6_jobOf 15 = .ok (.aload_n 0, 1) := by decide +kernel
theorem dX6_jobOf_16 : decode cX6_jobOf 16 = .ok (.getfield 18, 3) := by decide +kernel
theorem dX6_jobOf_19 : decode cX6_jobOf 19 = .ok (.iload_n 1, 1) := by decide +kernel
theorem dX6_jobOf_20 : decode cX6_jobOf 20 = .ok (.aaload, 1) := by decide +kernel
theorem dX6_jobOf_21 : decode cX6_jobOf 21 = .ok (.goto 4, 3) := by decide +kernel
theorem dX6_jobOf_24 : decode cX6_jobOf 24 = .ok (.aconst_null, 1) := by decide +kernel
theorem dX6_jobOf_25 : decode cX6_jobOf 25 = .ok (.areturn, 1) := by decide +kernel
theorem dX6_within_0 : decode cX6_within 0 = .ok (.iload_n 0, 1) := by decide +kernel
theorem dX6_within_1 : decode cX6_within 1 = .ok (.iload_n 1, 1) := by decide +kernel
theorem dX6_within_2 : decode cX6_within 2 = .ok (.if_icmp .lt 12, 3) := by decide +kernel
theorem dX6_within_5 : decode cX6_within 5 = .ok (.iload_n 0, 1) := by decide +kernel
theorem dX6_within_6 : decode cX6_within 6 = .ok (.iload_n 2, 1) := by decide +kernel
theorem dX6_within_7 : decode cX6_within 7 = .ok (.if_icmp .gt 7, 3) := by decide +kernel
theorem dX6_within_10 : decode cX6_within 10 = .ok (.iconst 1, 1) := by decide +kernel
theorem dX6_within_11 : decode cX6_within 11 = .ok (.goto 4, 3) := by decide +kernel
theorem dX6_within_14 : decode cX6_within 14 = .ok (.iconst 0, 1) := by decide +kernel
theorem dX6_within_15 : decode cX6_within 15 = .ok (.ireturn, 1) := by decide +kernel
theorem dX7_init_0 : decode cX7_init 0 = .ok (.aload_n 0, 1) := by decide +kernel
theorem dX7_init_1 : decode cX7_init 1 = .ok (.invokespecial 1, 3) := by decide +kernel
theorem dX7_init_4 : decode cX7_init 4 = .ok (.aload_n 0, 1) := by decide +kernel
theorem dX7_init_5 : decode cX7_init 5 = .ok (.bipush 100, 2) := by decide +kernel
theorem dX7_init_7 : decode cX7_init 7 = .ok (.putfield 7, 3) := by decide +kernel
theorem dX7_init_10 : decode cX7_init 10 = .ok (.aload_n 0, 1) := by decide +kernel
theorem dX7_init_11 : decode cX7_init 11 = .ok (.sipush 600, 3) := by decide +kernel
theorem dX7_init_14 : decode cX7_init 14 = .ok (.newarray .int, 2) := by decide +kernel
theorem dX7_init_16 : decode cX7_init 16 = .ok (.putfield 13, 3) := by decide +kernel
theorem dX7_init_19 : decode cX7_init 19 = .ok (.aload_n 0, 1) := by decide +kernel
theorem dX7_init_20 : decode cX7_init 20 = .ok (.bipush 12, 2) := by decide +kernel
theorem dX7_init_22 : decode cX7_init 22 = .ok (.newarray .int, 2) := by decide +kernel
theorem dX7_init_24 : decode cX7_init 24 = .ok (.putfield 17, 3) := by decide +kernel
theorem dX7_init_27 : decode cX7_init 27 = .ok (.aload_n 0, 1) := by decide +kernel
theorem dX7_init_28 : decode cX7_init 28 = .ok (.bipush 12, 2) := by decide +kernel
theorem dX7_init_30 : decode cX7_init 30 = .ok (.newarray .int, 2) := by decide +kernel
theorem dX7_init_32 : decode cX7_init 32 = .ok (.putfield 20, 3) := by decide +kernel
theorem dX7_init_35 : decode cX7_init 35 = .ok (.aload_n 0, 1) := by decide +kernel
theorem dX7_init_36 : decode cX7_init 36 = .ok (.bipush 12, 2) := by decide +kernel
theorem dX7_init_38 : decode cX7_init 38 = .ok (.newarray .int, 2) := by decide +kernel
theorem dX7_init_40 : decode cX7_init 40 = .ok (.putfield 23, 3) := by decide +kernel
theorem dX7_init_43 : decode cX7_init 43 = .ok (.aload_n 0, 1) := by decide +kernel
theorem dX7_init_44 : decode cX7_init 44 = .ok (.bipush 12, 2) := by decide +kernel
theorem dX7_init_46 : decode cX7_init 46 = .ok (.newarray .int, 2) := by decide +kernel
theorem dX7_init_48 : decode cX7_init 48 = .ok (.putfield 26, 3) := by decide +kernel
theorem dX7_init_51 : decode cX7_init 51 = .ok (.aload_n 0, 1) := by decide +kernel
theorem dX7_init_52 : decode cX7_init 52 = .ok (.bipush 12, 2) := by decide +kernel
theorem dX7_init_54 : decode cX7_init 54 = .ok (.newarray .int, 2) := by decide +kernel
theorem dX7_init_56 : decode cX7_init 56 = .ok (.putfield 29, 3) := by decide +kernel
theorem dX7_init_59 : decode cX7_init 59 = .ok (.aload_n 0, 1) := by decide +kernel
theorem dX7_init_60 : decode cX7_init 60 = .ok (.bipush 12, 2) := by decide +kernel
theorem dX7_init_62 : decode cX7_init 62 = .ok (.newarray .int, 2) := by decide +kernel
theorem dX7_init_64 : decode cX7_init 64 = .ok (.putfield 32, 3) := by decide +kernel
theorem dX7_init_67 : decode cX7_init 67 = .ok (.aload_n 0, 1) := by decide +kernel
theorem dX7_init_68 : decode cX7_init 68 = .ok (.bipush 12, 2) := by decide +kernel
theorem dX7_init_70 : decode cX7_init 70 = .ok (.newarray .int, 2) := by decide +kernel
theorem dX7_init_72 : decode cX7_init 72 = .ok (.putfield 35, 3) := by decide +kernel
theorem dX7_init_75 : decode cX7_init 75 = .ok (.aload_n 0, 1) := by decide +kernel
theorem dX7_init_76 : decode cX7_init 76 = .ok (.bipush 12, 2) := by decide +kernel
theorem dX7_init_78 : decode cX7_init 78 = .ok (.newarray .int, 2) := by decide +kernel
theorem dX7_init_80 : decode cX7_init 80 = .ok (.putfield 38, 3) := by decide +kernel
theorem dX7_init_83 : decode cX7_init 83 = .ok (.aload_n 0, 1) := by decide +kernel
theorem dX7_init_84 : decode cX7_init 84 = .ok (.bipush 12, 2) := by decide +kernel
theorem dX7_init_86 : decode cX7_init 86 = .ok (.newarray .int, 2) := by decide +kernel
theorem dX7_init_88 : decode cX7_init 88 = .ok (.putfield 41, 3) := by decide +kernel
theorem dX7_init_91 : decode cX7_init 91 = .ok (.aload_n 0, 1) := by decide +kernel
theorem dX7_init_92 : decode cX7_init 92 = .ok (.bipush 12, 2) := by decide +kernel
theorem dX7_init_94 : decode cX7_init 94 = .ok (.newarray .int, 2) := by decide +kernel
theorem dX7_init_96 : decode cX7_init 96 = .ok (.putfield 44, 3) := by decide +kernel
theorem dX7_init_99 : decode cX7_init 99 = .ok (.aload_n 0, 1) := by decide +kernel
theorem dX7_init_100 : decode cX7_init 100 = .ok (.bipush 12, 2) := by decide +kernel
theorem dX7_init_102 : decode cX7_init 102 = .ok (.newarray .int, 2) := by decide +kernel
theorem dX7_init_104 : decode cX7_init 104 = .ok (.putfield 47, 3) := by decide +kernel
theorem dX7_init_107 : decode cX7_init 107 = .ok (.aload_n 0, 1) := by decide +kernel
theorem dX7_init_108 : decode cX7_init 108 = .ok (.bipush 12, 2) := by decide +kernel
theorem dX7_init_110 : decode cX7_init 110 = .ok (.newarray .int, 2) := by decide +kernel
theorem dX7_init_112 : decode cX7_init 112 = .ok (.putfield 50, 3) := by decide +kernel
theorem dX7_init_115 : decode cX7_init 115 = .ok (.aload_n 0, 1) := by decide +kernel
theorem dX7_init_116 : decode cX7_init 116 = .ok (.bipush 12, 2) := by decide +kernel
theorem dX7_init_118 : decode cX7_init 118 = .ok (.newarray .int, 2) := by decide +kernel
theorem dX7_init_120 : decode cX7_init 120 = .ok (.putfield 53, 3) := by decide +kernel
theorem dX7_init_123 : decode cX7_init 123 = .ok (.aload_n 0, 1) := by decide +kernel
theorem dX7_init_124 : decode cX7_init 124 = .ok (.bipush 12, 2) := by decide +kernel
theorem dX7_init_126 : decode cX7_init 126 = .ok (.newarray .int, 2) := by decide +kernel
theorem dX7_init_128 : decode cX7_init 128 = .ok (.putfield 56, 3) := by decide +kernel
theorem dX7_init_131 : decode cX7_init 131 = .ok (.aload_n 0, 1) := by decide +kernel
theorem dX7_init_132 : decode cX7_init 132 = .ok (.bipush 12, 2) := by decide +kernel
theorem dX7_init_134 : decode cX7_init 134 = .ok (.newarray .int, 2) := by decide +kernel
theorem dX7_init_136 : decode cX7_init 136 = .ok (.putfield 59, 3) := by decide +kernel
theorem dX7_init_139 : decode cX7_init 139 = .ok (.aload_n 0, 1) := by decide +kernel
theorem dX7_init_140 : decode cX7_init 140 = .ok (.bipush 12, 2) := by decide +kernel
theorem dX7_init_142 : decode cX7_init 142 = .ok (.newarray .int, 2) := by decide +kernel
theorem dX7_init_144 : decode cX7_init 144 = .ok (.putfield 62, 3) := by decide +kernel
theorem dX7_init_147 : decode cX7_init 147 = .ok (.aload_n 0, 1) := by decide +kernel
theorem dX7_init_148 : decode cX7_init 148 = .ok (.bipush 12, 2) := by decide +kernel
theorem dX7_init_150 : decode cX7_init 150 = .ok (.newarray .int, 2) := by decide +kernel
theorem dX7_init_152 : decode cX7_init 152 = .ok (.putfield 65, 3) := by decide +kernel
theorem dX7_init_155 : decode cX7_init 155 = .ok (.aload_n 0, 1) := by decide +kernel
theorem dX7_init_156 : decode cX7_init 156 = .ok (.bipush 12, 2) := by decide +kernel
theorem dX7_init_158 : decode cX7_init 158 = .ok (.newarray .int, 2) := by decide +kernel
theorem dX7_init_160 : decode cX7_init 160 = .ok (.putfield 68, 3) := by decide +kernel
theorem dX7_init_163 : decode cX7_init 163 = .ok (.aload_n 0, 1) := by decide +kernel
theorem dX7_init_164 : decode cX7_init 164 = .ok (.bipush 12, 2) := by decide +kernel
theorem dX7_init_166 : decode cX7_init 166 = .ok (.newarray .int, 2) := by decide +kernel
theorem dX7_init_168 : decode cX7_init 168 = .ok (.putfield 71, 3) := by decide +kernel
theorem dX7_init_171 : decode cX7_init 171 = .ok (.aload_n 0, 1) := by decide +kernel
theorem dX7_init_172 : decode cX7_init 172 = .ok (.bipush 12, 2) := by decide +kernel
theorem dX7_init_174 : decode cX7_init 174 = .ok (.newarray .int, 2) := by decide +kernel
theorem dX7_init_176 : decode cX7_init 176 = .ok (.putfield 74, 3) := by decide +kernel
theorem dX7_init_179 : decode cX7_init 179 = .ok (.aload_n 0, 1) := by decide +kernel
theorem dX7_init_180 : decode cX7_init 180 = .ok (.bipush 12, 2) := by decide +kernel
theorem dX7_init_182 : decode cX7_init 182 = .ok (.newarray .int, 2) := by decide +kernel
theorem dX7_init_184 : decode cX7_init 184 = .ok (.putfield 77, 3) := by decide +kernel
theorem dX7_init_187 : decode cX7_init 187 = .ok (.aload_n 0, 1) := by decide +kernel
theorem dX7_init_188 : decode cX7_init 188 = .ok (.bipush 12, 2) := by decide +kernel
theorem dX7_init_190 : decode cX7_init 190 = .ok (.newarray .int, 2) := by decide +kernel
theorem dX7_init_192 : decode cX7_init 192 = .ok (.putfield 80, 3) := by decide +kernel
theorem dX7_init_195 : decode cX7_init 195 = .ok (.aload_n 0, 1) := by decide +kernel
theorem dX7_init_196 : decode cX7_init 196 = .ok (.bipush 12, 2) := by decide +kernel
theorem dX7_init_198 : decode cX7_init 198 = .ok (.newarray .int, 2) := by decide +kernel
theorem dX7_init_200 : decode cX7_init 200 = .ok (.putfield 83, 3) := by decide +kernel
theorem dX7_init_203 : decode cX7_init 203 = .ok (.aload_n 0, 1) := by decide +kernel
theorem dX7_init_204 : decode cX7_init 204 = .ok (.bipush 12, 2) := by decide +kernel
theorem dX7_init_206 : decode cX7_init 206 = .ok (.newarray .boolean, 2) := by decide +kernel
theorem dX7_init_208 : decode cX7_init 208 = .ok (.putfield 86, 3) := by decide +kernel
theorem dX7_init_211 : decode cX7_init 211 = .ok (.aload_n 0, 1) := by decide +kernel
theorem dX7_init_212 : decode cX7_init 212 = .ok (.bipush 6, 2) := by decide +kernel
theorem dX7_init_214 : decode cX7_init 214 = .ok (.newarray .int, 2) := by decide +kernel
theorem dX7_init_216 : decode cX7_init 216 = .ok (.putfield 90, 3) := by decide +kernel
theorem dX7_init_219 : decode cX7_init 219 = .ok (.aload_n 0, 1) := by decide +kernel
theorem dX7_init_220 : decode cX7_init 220 = .ok (.bipush 36, 2) := by decide +kernel
theorem dX7_init_222 : decode cX7_init 222 = .ok (.newarray .int, 2) := by decide +kernel
theorem dX7_init_224 : decode cX7_init 224 = .ok (.putfield 93, 3) := by decide +kernel
theorem dX7_init_227 : decode cX7_init 227 = .ok (.aload_n 0, 1) := by decide +kernel
theorem dX7_init_228 : decode cX7_init 228 = .ok (.sipush 1014, 3) := by decide +kernel
theorem dX7_init_231 : decode cX7_init 231 = .ok (.newarray .long, 2) := by decide +kernel
theorem dX7_init_233 : decode cX7_init 233 = .ok (.putfield 96, 3) := by decide +kernel
theorem dX7_init_236 : decode cX7_init 236 = .ok (.aload_n 0, 1) := by decide +kernel
theorem dX7_init_237 : decode cX7_init 237 = .ok (.sipush 1014, 3) := by decide +kernel
theorem dX7_init_240 : decode cX7_init 240 = .ok (.newarray .int, 2) := by decide +kernel
theorem dX7_init_242 : decode cX7_init 242 = .ok (.putfield 100, 3) := by decide +kernel
theorem dX7_init_245 : decode cX7_init 245 = .ok (.aload_n 0, 1) := by decide +kernel
theorem dX7_init_246 : decode cX7_init 246 = .ok (.sipush 1014, 3) := by decide +kernel
theorem dX7_init_249 : decode cX7_init 249 = .ok (.newarray .int, 2) := by decide +kernel
theorem dX7_init_251 : decode cX7_init 251 = .ok (.putfield 103, 3) := by decide +kernel
theorem dX7_init_254 : decode cX7_init 254 = .ok (.aload_n 0, 1) := by decide +kernel
theorem dX7_init_255 : decode cX7_init 255 = .ok (.sipush 6231, 3) := by decide +kernel
theorem dX7_init_258 : decode cX7_init 258 = .ok (.newarray .int, 2) := by decide +kernel
theorem dX7_init_260 : decode cX7_init 260 = .ok (.putfield 106, 3) := by decide +kernel
theorem dX7_init_263 : decode cX7_init 263 = .ok (.iconst 0, 1) := by decide +kernel
theorem dX7_init_264 : decode cX7_init 264 = .ok (.istore_n 1, 1) := by decide +kernel
theorem dX7_init_265 : decode cX7_init 265 = .ok (.iload_n 1, 1) := by decide +kernel
theorem dX7_init_266 : decode cX7_init 266 = .ok (.sipush 600, 3) := by decide +kernel
theorem dX7_init_269 : decode cX7_init 269 = .ok (.if_icmp .ge 16, 3) := by decide +kernel
theorem dX7_init_272 : decode cX7_init 272 = .ok (.aload_n 0, 1) := by decide +kernel
theorem dX7_init_273 : decode cX7_init 273 = .ok (.getfield 13, 3) := by decide +kernel
theorem dX7_init_276 : decode cX7_init 276 = .ok (.iload_n 1, 1) := by decide +kernel
theorem dX7_init_277 : decode cX7_init 277 = .ok (.iconst (-1), 1) := by decide +kernel
theorem dX7_init_278 : decode cX7_init 278 = .ok (.iastore, 1) := by decide +kernel
theorem dX7_init_279 : decode cX7_init 279 = .ok (.iinc 1 1, 3) := by decide +kernel
theorem dX7_init_282 : decode cX7_init 282 = .ok (.goto (-17), 3) := by decide +kernel
theorem dX7_init_285 : decode cX7_init 285 = .ok (.return_, 1) := by decide +kernel
theorem dX7_in_0 : decode cX7_in 0 = .ok (.iload_n 0, 1) := by decide +kernel
theorem dX7_in_1 : decode cX7_in 1 = .ok (.iload_n 1, 1) := by decide +kernel
theorem dX7_in_2 : decode cX7_in 2 = .ok (.if_icmp .lt 12, 3) := by decide +kernel
theorem dX7_in_5 : decode cX7_in 5 = .ok (.iload_n 0, 1) := by decide +kernel
theorem dX7_in_6 : decode cX7_in 6 = .ok (.iload_n 2, 1) := by decide +kernel
theorem dX7_in_7 : decode cX7_in 7 = .ok (.if_icmp .gt 7, 3) := by decide +kernel
theorem dX7_in_10 : decode cX7_in 10 = .ok (.iconst 1, 1) := by decide +kernel
theorem dX7_in_11 : decode cX7_in 11 = .ok (.goto 4, 3) := by decide +kernel
theorem dX7_in_14 : decode cX7_in 14 = .ok (.iconst 0, 1) := by decide +kernel
theorem dX7_in_15 : decode cX7_in 15 = .ok (.ireturn, 1) := by decide +kernel
set_option maxRecDepth 20000 in
theorem ggX7_isJob_X7_in : GoodIn wsX7_isJob wsX7_in := goodIn_r _ [5] (by decide +kernel) (by decide +kernel)
set_option maxRecDepth 20000 in
theorem gX7_isJob_X7_in : GoodIn wsX7_isJob (va_wsS RX7 112 yX7_in wsX7_in) := goodIn_app (goodIn_of _ (by decide +kernel)) ggX7_isJob_X7_in
theorem dX7_isJob_0 : decode cX7_isJob 0 = .ok (.iload_n 1, 1) := by decide +kernel
theorem dX7_isJob_1 : decode cX7_isJob 1 = .ok (.iconst 0, 1) := by decide +kernel
theorem dX7_isJob_2 : decode cX7_isJob 2 = .ok (.aload_n 0, 1) := by decide +kernel
theorem dX7_isJob_3 : decode cX7_isJob 3 = .ok (.getfield 109, 3) := by decide +kernel
theorem dX7_isJob_6 : decode cX7_isJob 6 = .ok (.iconst 1, 1) := by decide +kernel
theorem dX7_isJob_7 : decode cX7_isJob 7 = .ok (.isub, 1) := by decide +kernel
theorem dX7_isJob_8 : decode cX7_isJob 8 = .ok (.invokestatic 112, 3) := by decide +kernel
theorem dX7_isJob_11 : decode cX7_isJob 11 = .ok (.ireturn, 1) := by decide +kernel
set_option maxRecDepth 20000 in
theorem ggX7_price_X7_in : GoodIn wsX7_price wsX7_in := goodIn_r _ [6] (by decide +kernel) (by decide +kernel)
set_option maxRecDepth 20000 in
theorem gX7_price_X7_in : GoodIn wsX7_price (va_wsS RX7 112 yX7_in wsX7_in) := goodIn_app (goodIn_of _ (by decide +kernel)) ggX7_price_X7_in
theorem dX7_price_0 : decode cX7_price 0 = .ok (.iload_n 1, 1) := by decide +kernel
theorem dX7_price_1 : decode cX7_price 1 = .ok (.iconst 0, 1) := by decide +kernel
theorem dX7_price_2 : decode cX7_price 2 = .ok (.iconst 2, 1) := by decide +kernel
theorem dX7_price_3 : decode cX7_price 3 = .ok (.invokestatic 112, 3) := by decide +kernel
theorem dX7_price_6 : decode cX7_price 6 = .ok (.ifCond .eq 40, 3) := by decide +kernel
theorem dX7_price_9 : decode cX7_price 9 = .ok (.iload 4, 2) := by decide +kernel
theorem dX7_price_11 : decode cX7_price 11 = .ok (.iconst (-1), 1) := by decide +kernel
theorem dX7_price_12 : decode cX7_price 12 = .ok (.sipush 999, 3) := by decide +kernel
theorem dX7_price_15 : decode cX7_price 15 = .ok (.invokestatic 112, 3) := by decide +kernel
theorem dX7_price_18 : decode cX7_price 18 = .ok (.ifCond .eq 28, 3) := by decide +kernel
theorem dX7_price_21 : decode cX7_price 21 = .ok (.iload_n 2, 1) := by decide +kernel
theorem dX7_price_22 : decode cX7_price 22 = .ok (.aload_n 0, 1) := by decide +kernel
theorem dX7_price_23 : decode cX7_price 23 = .ok (.getfield 116, 3) := by decide +kernel
theorem dX7_price_26 : decode cX7_price 26 = .ok (.sipush 199, 3) := by decide +kernel
theorem dX7_price_29 : decode cX7_price 29 = .ok (.invokestatic 112, 3) := by decide +kernel
theorem dX7_price_32 : decode cX7_price 32 = .ok (.ifCond .eq 14, 3) := by decide +kernel
theorem dX7_price_35 : decode cX7_price 35 = .ok (.iload_n 3, 1) := by decide +kernel
theorem dX7_price_36 : decode cX7_price 36 = .ok (.iload_n 2, 1) := by decide +kernel
theorem dX7_price_37 : decode cX7_price 37 = .ok (.sipush 199, 3) := by decide +kernel
theorem dX7_price_40 : decode cX7_price 40 = .ok (.invokestatic 112, 3) := by decide +kernel
theorem dX7_price_43 : decode cX7_price 43 = .ok (.ifCond .ne 5, 3) := by decide +kernel
theorem dX7_price_46 : decode cX7_price 46 = .ok (.iconst 0, 1) := by decide +kernel
theorem dX7_price_47 : decode cX7_price 47 = .ok (.ireturn, 1) := by decide +kernel
theorem dX7_price_48 : decode cX7_price 48 = .ok (.iload_n 2, 1) := by decide +kernel
theorem dX7_price_49 : decode cX7_price 49 = .ok (.istore 5, 2) := by decide +kernel
theorem dX7_price_51 : decode cX7_price 51 = .ok (.iload 5, 2) := by decide +kernel
theorem dX7_price_53 : decode cX7_price 53 = .ok (.iload_n 3, 1) := by decide +kernel
theorem dX7_price_54 : decode cX7_price 54 = .ok (.if_icmp .gt 24, 3) := by decide +kernel
theorem dX7_price_57 : decode cX7_price 57 = .ok (.aload_n 0, 1) := by decide +kernel
theorem dX7_price_58 : decode cX7_price 58 = .ok (.getfield 13, 3) := by decide +kernel
theorem dX7_price_61 : decode cX7_price 61 = .ok (.sipush 200, 3) := by decide +kernel
theorem dX7_price_64 : decode cX7_price 64 = .ok (.iload_n 1, 1) := by decide +kernel
theorem dX7_price_65 : decode cX7_price 65 = .ok (.imul, 1) := by decide +kernel
theorem dX7_price_66 : decode cX7_price 66 = .ok (.iload 5, 2) := by decide +kernel
theorem dX7_price_68 : decode cX7_price 68 = .ok (.iadd, 1) := by decide +kernel
theorem dX7_price_69 : decode cX7_price 69 = .ok (.iload 4, 2) := by decide +kernel
theorem dX7_price_71 : decode cX7_price 71 = .ok (.iastore, 1) := by decide +kernel
theorem dX7_price_72 : decode cX7_price 72 = .ok (.iinc 5 1, 3) := by decide +kernel
theorem dX7_price_75 : decode cX7_price 75 = .ok (.goto (-24), 3) := by decide +kernel
theorem dX7_price_78 : decode cX7_price 78 = .ok (.iconst 1, 1) := by decide +kernel
theorem dX7_price_79 : decode cX7_price 79 = .ok (.ireturn, 1) := by decide +kernel
set_option maxRecDepth 20000 in
theorem ggX7_full_X7_in : GoodIn wsX7_full wsX7_in := goodIn_r _ [7] (by decide +kernel) (by decide +kernel)
set_option maxRecDepth 20000 in
theorem gX7_full_X7_in : GoodIn wsX7_full (va_wsS RX7 112 yX7_in wsX7_in) := goodIn_app (goodIn_of _ (by decide +kernel)) ggX7_full_X7_in
theorem dX7_full_0 : decode cX7_full 0 = .ok (.iload_n 1, 1) := by decide +kernel
theorem dX7_full_1 : decode cX7_full 1 = .ok (.iconst 1, 1) := by decide +kernel
theorem dX7_full_2 : decode cX7_full 2 = .ok (.sipush 999, 3) := by decide +kernel
theorem dX7_full_5 : decode cX7_full 5 = .ok (.invokestatic 112, 3) := by decide +kernel
theorem dX7_full_8 : decode cX7_full 8 = .ok (.ifCond .eq 17, 3) := by decide +kernel
theorem dX7_full_11 : decode cX7_full 11 = .ok (.aload_n 0, 1) := by decide +kernel
theorem dX7_full_12 : decode cX7_full 12 = .ok (.getfield 116, 3) := by decide +kernel
theorem dX7_full_15 : decode cX7_full 15 = .ok (.ifCond .gt 10, 3) := by decide +kernel
theorem dX7_full_18 : decode cX7_full 18 = .ok (.aload_n 0, 1) := by decide +kernel
theorem dX7_full_19 : decode cX7_full 19 = .ok (.getfield 109, 3) := by decide +kernel
theorem dX7_full_22 : decode cX7_full 22 = .ok (.ifCond .le 5, 3) := by decide +kernel
theorem dX7_full_25 : decode cX7_full 25 = .ok (.iconst 0, 1) := by decide +kernel
theorem dX7_full_26 : decode cX7_full 26 = .ok (.ireturn, 1) := by decide +kernel
theorem dX7_full_27 : decode cX7_full 27 = .ok (.aload_n 0, 1) := by decide +kernel
theorem dX7_full_28 : decode cX7_full 28 = .ok (.iload_n 1, 1) := by decide +kernel
theorem dX7_full_29 : decode cX7_full 29 = .ok (.putfield 7, 3) := by decide +kernel
theorem dX7_full_32 : decode cX7_full 32 = .ok (.iconst 1, 1) := by decide +kernel
theorem dX7_full_33 : decode cX7_full 33 = .ok (.ireturn, 1) := by decide +kernel
set_option maxRecDepth 20000 in
theorem ggX7_job_X7_in : GoodIn wsX7_job wsX7_in := goodIn_r _ [16] (by decide +kernel) (by decide +kernel)
set_option maxRecDepth 20000 in
theorem gX7_job_X7_in : GoodIn wsX7_job (va_wsS RX7 112 yX7_in wsX7_in) := goodIn_app (goodIn_of _ (by decide +kernel)) ggX7_job_X7_in
theorem dX7_job_0 : decode cX7_job 0 = .ok (.iload_n 1, 1) := by decide +kernel
theorem dX7_job_1 : decode cX7_job 1 = .ok (.ldc 119, 2) := by decide +kernel
theorem dX7_job_3 : decode cX7_job 3 = .ok (.idiv, 1) := by decide +kernel
theorem dX7_job_4 : decode cX7_job 4 = .ok (.istore 4, 2) := by decide +kernel
theorem dX7_job_6 : decode cX7_job 6 = .ok (.iload_n 1, 1) := by decide +kernel
theorem dX7_job_7 : decode cX7_job 7 = .ok (.sipush 1000, 3) := by decide +kernel
theorem dX7_job_10 : decode cX7_job 10 = .ok (.idiv, 1) := by decide +kernel
theorem dX7_job_11 : decode cX7_job 11 = .ok (.sipush 1000, 3) := by decide +kernel
theorem dX7_job_14 : decode cX7_job 14 = .ok (.irem, 1) := by decide +kernel
theorem dX7_job_15 : decode cX7_job 15 = .ok (.istore 5, 2) := by decide +kernel
theorem dX7_job_17 : decode cX7_job 17 = .ok (.iload_n 1, 1) := by decide +kernel
theorem dX7_job_18 : decode cX7_job 18 = .ok (.bipush 100, 2) := by decide +kernel
theorem dX7_job_20 : decode cX7_job 20 = .ok (.idiv, 1) := by decide +kernel
theorem dX7_job_21 : decode cX7_job 21 = .ok (.bipush 10, 2) := by decide +kernel
theorem dX7_job_23 : decode cX7_job 23 = .ok (.irem, 1) := by decide +kernel
theorem dX7_job_24 : decode cX7_job 24 = .ok (.istore 6, 2) := by decide +kernel
theorem dX7_job_26 : decode cX7_job 26 = .ok (.iload_n 1, 1) := by decide +kernel
theorem dX7_job_27 : decode cX7_job 27 = .ok (.ifCond .lt 47, 3) := by decide +kernel
theorem dX7_job_30 : decode cX7_job 30 = .ok (.iload 4, 2) := by decide +kernel
theorem dX7_job_32 : decode cX7_job 32 = .ok (.iconst 1, 1) := by decide +kernel
theorem dX7_job_33 : decode cX7_job 33 = .ok (.bipush 30, 2) := by decide +kernel
theorem dX7_job_35 : decode cX7_job 35 = .ok (.invokestatic 112, 3) := by decide +kernel
theorem dX7_job_38 : decode cX7_job 38 = .ok (.ifCond .eq 36, 3) := by decide +kernel
theorem dX7_job_41 : decode cX7_job 41 = .ok (.iload 5, 2) := by decide +kernel
theorem dX7_job_43 : decode cX7_job 43 = .ok (.sipush 200, 3) := by decide +kernel
theorem dX7_job_46 : decode cX7_job 46 = .ok (.if_icmp .gt 28, 3) := by decide +kernel
theorem dX7_job_49 : decode cX7_job 49 = .ok (.iload 6, 2) := by decide +kernel
theorem dX7_job_51 : decode cX7_job 51 = .ok (.iconst 3, 1) := by decide +kernel
theorem dX7_job_52 : decode cX7_job 52 = .ok (.if_icmp .ge 22, 3) := by decide +kernel
theorem dX7_job_55 : decode cX7_job 55 = .ok (.iload_n 1, 1) := by decide +kernel
theorem dX7_job_56 : decode cX7_job 56 = .ok (.bipush 10, 2) := by decide +kernel
theorem dX7_job_58 : decode cX7_job 58 = .ok (.idiv, 1) := by decide +kernel
theorem dX7_job_59 : decode cX7_job 59 = .ok (.bipush 10, 2) := by decide +kernel
theorem dX7_job_61 : decode cX7_job 61 = .ok (.irem, 1) := by decide +kernel
theorem dX7_job_62 : decode cX7_job 62 = .ok (.iconst 5, 1) := by decide +kernel
theorem dX7_job_63 : decode cX7_job 63 = .ok (.if_icmp .gt 11, 3) := by decide +kernel
theorem dX7_job_66 : decode cX7_job 66 = .ok (.iload_n 1, 1) := by decide +kernel
theorem dX7_job_67 : decode cX7_job 67 = .ok (.bipush 10, 2) := by decide +kernel
theorem dX7_job_69 : decode cX7_job 69 = .ok (.irem, 1) := by decide +kernel
theorem dX7_job_70 : decode cX7_job 70 = .ok (.iconst 5, 1) := by decide +kernel
theorem dX7_job_71 : decode cX7_job 71 = .ok (.if_icmp .le 5, 3) := by decide +kernel
theorem dX7_job_74 : decode cX7_job 74 = .ok (.iconst (-1), 1) := by decide +kernel
theorem dX7_job_75 : decode cX7_job 75 = .ok (.ireturn, 1) := by decide +kernel
theorem dX7_job_76 : decode cX7_job 76 = .ok (.iload_n 2, 1) := by decide +kernel
theorem dX7_job_77 : decode cX7_job 77 = .ok (.iconst 0, 1) := by decide +kernel
theorem dX7_job_78 : decode cX7_job 78 = .ok (.sipush 999, 3) := by decide +kernel
theorem dX7_job_81 : decode cX7_job 81 = .ok (.invokestatic 112, 3) := by decide +kernel
theorem dX7_job_84 : decode cX7_job 84 = .ok (.ifCond .eq 34, 3) := by decide +kernel
theorem dX7_job_87 : decode cX7_job 87 = .ok (.iload_n 3, 1) := by decide +kernel
theorem dX7_job_88 : decode cX7_job 88 = .ok (.iconst 1, 1) := by decide +kernel
theorem dX7_job_89 : decode cX7_job 89 = .ok (.bipush 60, 2) := by decide +kernel
theorem dX7_job_91 : decode cX7_job 91 = .ok (.invokestatic 112, 3) := by decide +kernel
theorem dX7_job_94 : decode cX7_job 94 = .ok (.ifCond .eq 24, 3) := by decide +kernel
theorem dX7_job_97 : decode cX7_job 97 = .ok (.iload 4, 2) := by decide +kernel
theorem dX7_job_99 : decode cX7_job 99 = .ok (.iload 5, 2) := by decide +kernel
theorem dX7_job_101 : decode cX7_job 101 = .ok (.aload_n 0, 1) := by decide +kernel
theorem dX7_job_102 : decode cX7_job 102 = .ok (.getfield 116, 3) := by decide +kernel
theorem dX7_job_105 : decode cX7_job 105 = .ok (.isub, 1) := by decide +kernel
theorem dX7_job_106 : decode cX7_job 106 = .ok (.if_icmp .gt 12, 3) := by decide +kernel
theorem dX7_job_109 : decode cX7_job 109 = .ok (.aload_n 0, 1) := by decide +kernel
theorem dX7_job_110 : decode cX7_job 110 = .ok (.getfield 109, 3) := by decide +kernel
theorem dX7_job_113 : decode cX7_job 113 = .ok (.bipush 12, 2) := by decide +kernel
theorem dX7_job_115 : decode cX7_job 115 = .ok (.if_icmp .ne 5, 3) := by decide +kernel
theorem dX7_job_118 : decode cX7_job 118 = .ok (.iconst (-1), 1) := by decide +kernel
theorem dX7_job_119 : decode cX7_job 119 = .ok (.ireturn, 1) := by decide +kernel
theorem dX7_job_120 : decode cX7_job 120 = .ok (.aload_n 0, 1) := by decide +kernel
theorem dX7_job_121 : decode cX7_job 121 = .ok (.getfield 17, 3) := by decide +kernel
theorem dX7_job_124 : decode cX7_job 124 = .ok (.aload_n 0, 1) := by decide +kernel
theorem dX7_job_125 : decode cX7_job 125 = .ok (.getfield 109, 3) := by decide +kernel
theorem dX7_job_128 : decode cX7_job 128 = .ok (.iload 4, 2) := by decide +kernel
theorem dX7_job_130 : decode cX7_job 130 = .ok (.iastore, 1) := by decide +kernel
theorem dX7_job_131 : decode cX7_job 131 = .ok (.aload_n 0, 1) := by decide +kernel
theorem dX7_job_132 : decode cX7_job 132 = .ok (.getfield 20, 3) := by decide +kernel
theorem dX7_job_135 : decode cX7_job 135 = .ok (.aload_n 0, 1) := by decide +kernel
theorem dX7_job_136 : decode cX7_job 136 = .ok (.getfield 109, 3) := by decide +kernel
theorem dX7_job_139 : decode cX7_job 139 = .ok (.iload 5, 2) := by decide +kernel
theorem dX7_job_141 : decode cX7_job 141 = .ok (.iastore, 1) := by decide +kernel
theorem dX7_job_142 : decode cX7_job 142 = .ok (.aload_n 0, 1) := by decide +kernel
theorem dX7_job_143 : decode cX7_job 143 = .ok (.getfield 23, 3) := by decide +kernel
theorem dX7_job_146 : decode cX7_job 146 = .ok (.aload_n 0, 1) := by decide +kernel
theorem dX7_job_147 : decode cX7_job 147 = .ok (.getfield 109, 3) := by decide +kernel
theorem dX7_job_150 : decode cX7_job 150 = .ok (.iload 6, 2) := by decide +kernel
theorem dX7_job_152 : decode cX7_job 152 = .ok (.iastore, 1) := by decide +kernel
theorem dX7_job_153 : decode cX7_job 153 = .ok (.aload_n 0, 1) := by decide +kernel
theorem dX7_job_154 : decode cX7_job 154 = .ok (.getfield 32, 3) := by decide +kernel
theorem dX7_job_157 : decode cX7_job 157 = .ok (.aload_n 0, 1) := by decide +kernel
theorem dX7_job_158 : decode cX7_job 158 = .ok (.getfield 109, 3) := by decide +kernel
theorem dX7_job_161 : decode cX7_job 161 = .ok (.iload_n 1, 1) := by decide +kernel
theorem dX7_job_162 : decode cX7_job 162 = .ok (.bipush 10, 2) := by decide +kernel
theorem dX7_job_164 : decode cX7_job 164 = .ok (.idiv, 1) := by decide +kernel
theorem dX7_job_165 : decode cX7_job 165 = .ok (.bipush 10, 2) := by decide +kernel
theorem dX7_job_167 : decode cX7_job 167 = .ok (.irem, 1) := by decide +kernel
theorem dX7_job_168 : decode cX7_job 168 = .ok (.iastore, 1) := by decide +kernel
theorem dX7_job_169 : decode cX7_job 169 = .ok (.aload_n 0, 1) := by decide +kernel
theorem dX7_job_170 : decode cX7_job 170 = .ok (.getfield 35, 3) := by decide +kernel
theorem dX7_job_173 : decode cX7_job 173 = .ok (.aload_n 0, 1) := by decide +kernel
theorem dX7_job_174 : decode cX7_job 174 = .ok (.getfield 109, 3) := by decide +kernel
theorem dX7_job_177 : decode cX7_job 177 = .ok (.iload_n 1, 1) := by decide +kernel
end
section
theorem dX7_job_178 : decode cX7_job 178 = .ok (.bipush 10, 2) := by decide +kernel
theorem dX7_job_180 : decode cX7_job 180 = .ok (.irem, 1) := by decide +kernel
theorem dX7_job_181 : decode cX7_job 181 = .ok (.iastore, 1) := by decide +kernel
theorem dX7_job_182 : decode cX7_job 182 = .ok (.aload_n 0, 1) := by decide +kernel
theorem dX7_job_183 : decode cX7_job 183 = .ok (.getfield 26, 3) := by decide +kernel
theorem dX7_job_186 : decode cX7_job 186 = .ok (.aload_n 0, 1) := by decide +kernel
theorem dX7_job_187 : decode cX7_job 187 = .ok (.getfield 109, 3) := by decide +kernel
theorem dX7_job_190 : decode cX7_job 190 = .ok (.iload_n 2, 1) := by decide +kernel
theorem dX7_job_191 : decode cX7_job 191 = .ok (.iastore, 1) := by decide +kernel
theorem dX7_job_192 : decode cX7_job 192 = .ok (.aload_n 0, 1) := by decide +kernel
theorem dX7_job_193 : decode cX7_job 193 = .ok (.getfield 29, 3) := by decide +kernel
theorem dX7_job_196 : decode cX7_job 196 = .ok (.aload_n 0, 1) := by decide +kernel
theorem dX7_job_197 : decode cX7_job 197 = .ok (.getfield 109, 3) := by decide +kernel
theorem dX7_job_200 : decode cX7_job 200 = .ok (.iload_n 3, 1) := by decide +kernel
theorem dX7_job_201 : decode cX7_job 201 = .ok (.iastore, 1) := by decide +kernel
theorem dX7_job_202 : decode cX7_job 202 = .ok (.aload_n 0, 1) := by decide +kernel
theorem dX7_job_203 : decode cX7_job 203 = .ok (.getfield 38, 3) := by decide +kernel
theorem dX7_job_206 : decode cX7_job 206 = .ok (.aload_n 0, 1) := by decide +kernel
theorem dX7_job_207 : decode cX7_job 207 = .ok (.getfield 109, 3) := by decide +kernel
theorem dX7_job_210 : decode cX7_job 210 = .ok (.aload_n 0, 1) := by decide +kernel
theorem dX7_job_211 : decode cX7_job 211 = .ok (.getfield 116, 3) := by decide +kernel
theorem dX7_job_214 : decode cX7_job 214 = .ok (.iastore, 1) := by decide +kernel
theorem dX7_job_215 : decode cX7_job 215 = .ok (.aload_n 0, 1) := by decide +kernel
theorem dX7_job_216 : decode cX7_job 216 = .ok (.getfield 71, 3) := by decide +kernel
theorem dX7_job_219 : decode cX7_job 219 = .ok (.aload_n 0, 1) := by decide +kernel
theorem dX7_job_220 : decode cX7_job 220 = .ok (.getfield 109, 3) := by decide +kernel
theorem dX7_job_223 : decode cX7_job 223 = .ok (.iconst (-1), 1) := by decide +kernel
theorem dX7_job_224 : decode cX7_job 224 = .ok (.iastore, 1) := by decide +kernel
theorem dX7_job_225 : decode cX7_job 225 = .ok (.aload_n 0, 1) := by decide +kernel
theorem dX7_job_226 : decode cX7_job 226 = .ok (.dup, 1) := by decide +kernel
theorem dX7_job_227 : decode cX7_job 227 = .ok (.getfield 109, 3) := by decide +kernel
theorem dX7_job_230 : decode cX7_job 230 = .ok (.iconst 1, 1) := by decide +kernel
theorem dX7_job_231 : decode cX7_job 231 = .ok (.iadd, 1) := by decide +kernel
theorem dX7_job_232 : decode cX7_job 232 = .ok (.putfield 109, 3) := by decide +kernel
theorem dX7_job_235 : decode cX7_job 235 = .ok (.aload_n 0, 1) := by decide +kernel
theorem dX7_job_236 : decode cX7_job 236 = .ok (.getfield 109, 3) := by decide +kernel
theorem dX7_job_239 : decode cX7_job 239 = .ok (.iconst 1, 1) := by decide +kernel
theorem dX7_job_240 : decode cX7_job 240 = .ok (.isub, 1) := by decide +kernel
theorem dX7_job_241 : decode cX7_job 241 = .ok (.ireturn, 1) := by decide +kernel
theorem dX7_need_0 : decode cX7_need 0 = .ok (.aload_n 0, 1) := by decide +kernel
theorem dX7_need_1 : decode cX7_need 1 = .ok (.getfield 41, 3) := by decide +kernel
theorem dX7_need_4 : decode cX7_need 4 = .ok (.iload_n 1, 1) := by decide +kernel
theorem dX7_need_5 : decode cX7_need 5 = .ok (.iaload, 1) := by decide +kernel
theorem dX7_need_6 : decode cX7_need 6 = .ok (.aload_n 0, 1) := by decide +kernel
theorem dX7_need_7 : decode cX7_need 7 = .ok (.getfield 35, 3) := by decide +kernel
theorem dX7_need_10 : decode cX7_need 10 = .ok (.iload_n 1, 1) := by decide +kernel
theorem dX7_need_11 : decode cX7_need 11 = .ok (.iaload, 1) := by decide +kernel
theorem dX7_need_12 : decode cX7_need 12 = .ok (.if_icmp .le 26, 3) := by decide +kernel
theorem dX7_need_15 : decode cX7_need 15 = .ok (.aload_n 0, 1) := by decide +kernel
theorem dX7_need_16 : decode cX7_need 16 = .ok (.getfield 17, 3) := by decide +kernel
theorem dX7_need_19 : decode cX7_need 19 = .ok (.iload_n 1, 1) := by decide +kernel
theorem dX7_need_20 : decode cX7_need 20 = .ok (.iaload, 1) := by decide +kernel
theorem dX7_need_21 : decode cX7_need 21 = .ok (.aload_n 0, 1) := by decide +kernel
theorem dX7_need_22 : decode cX7_need 22 = .ok (.getfield 41, 3) := by decide +kernel
theorem dX7_need_25 : decode cX7_need 25 = .ok (.iload_n 1, 1) := by decide +kernel
theorem dX7_need_26 : decode cX7_need 26 = .ok (.iaload, 1) := by decide +kernel
theorem dX7_need_27 : decode cX7_need 27 = .ok (.isub, 1) := by decide +kernel
theorem dX7_need_28 : decode cX7_need 28 = .ok (.aload_n 0, 1) := by decide +kernel
theorem dX7_need_29 : decode cX7_need 29 = .ok (.getfield 35, 3) := by decide +kernel
theorem dX7_need_32 : decode cX7_need 32 = .ok (.iload_n 1, 1) := by decide +kernel
theorem dX7_need_33 : decode cX7_need 33 = .ok (.iaload, 1) := by decide +kernel
theorem dX7_need_34 : decode cX7_need 34 = .ok (.iadd, 1) := by decide +kernel
theorem dX7_need_35 : decode cX7_need 35 = .ok (.goto 9, 3) := by decide +kernel
theorem dX7_need_38 : decode cX7_need 38 = .ok (.aload_n 0, 1) := by decide +kernel
theorem dX7_need_39 : decode cX7_need 39 = .ok (.getfield 17, 3) := by decide +kernel
theorem dX7_need_42 : decode cX7_need 42 = .ok (.iload_n 1, 1) := by decide +kernel
theorem dX7_need_43 : decode cX7_need 43 = .ok (.iaload, 1) := by decide +kernel
theorem dX7_need_44 : decode cX7_need 44 = .ok (.ireturn, 1) := by decide +kernel
theorem dX7_loses_0 : decode cX7_loses 0 = .ok (.aload_n 0, 1) := by decide +kernel
theorem dX7_loses_1 : decode cX7_loses 1 = .ok (.getfield 47, 3) := by decide +kernel
theorem dX7_loses_4 : decode cX7_loses 4 = .ok (.iload_n 1, 1) := by decide +kernel
theorem dX7_loses_5 : decode cX7_loses 5 = .ok (.dup2, 1) := by decide +kernel
theorem dX7_loses_6 : decode cX7_loses 6 = .ok (.iaload, 1) := by decide +kernel
theorem dX7_loses_7 : decode cX7_loses 7 = .ok (.aload_n 0, 1) := by decide +kernel
theorem dX7_loses_8 : decode cX7_loses 8 = .ok (.getfield 44, 3) := by decide +kernel
theorem dX7_loses_11 : decode cX7_loses 11 = .ok (.iload_n 1, 1) := by decide +kernel
theorem dX7_loses_12 : decode cX7_loses 12 = .ok (.iaload, 1) := by decide +kernel
theorem dX7_loses_13 : decode cX7_loses 13 = .ok (.iadd, 1) := by decide +kernel
theorem dX7_loses_14 : decode cX7_loses 14 = .ok (.iastore, 1) := by decide +kernel
theorem dX7_loses_15 : decode cX7_loses 15 = .ok (.aload_n 0, 1) := by decide +kernel
theorem dX7_loses_16 : decode cX7_loses 16 = .ok (.getfield 44, 3) := by decide +kernel
theorem dX7_loses_19 : decode cX7_loses 19 = .ok (.iload_n 1, 1) := by decide +kernel
theorem dX7_loses_20 : decode cX7_loses 20 = .ok (.iconst 0, 1) := by decide +kernel
theorem dX7_loses_21 : decode cX7_loses 21 = .ok (.iastore, 1) := by decide +kernel
theorem dX7_loses_22 : decode cX7_loses 22 = .ok (.aload_n 0, 1) := by decide +kernel
theorem dX7_loses_23 : decode cX7_loses 23 = .ok (.getfield 80, 3) := by decide +kernel
theorem dX7_loses_26 : decode cX7_loses 26 = .ok (.iload_n 1, 1) := by decide +kernel
theorem dX7_loses_27 : decode cX7_loses 27 = .ok (.iconst 0, 1) := by decide +kernel
theorem dX7_loses_28 : decode cX7_loses 28 = .ok (.iastore, 1) := by decide +kernel
theorem dX7_loses_29 : decode cX7_loses 29 = .ok (.aload_n 0, 1) := by decide +kernel
theorem dX7_loses_30 : decode cX7_loses 30 = .ok (.getfield 77, 3) := by decide +kernel
theorem dX7_loses_33 : decode cX7_loses 33 = .ok (.iload_n 1, 1) := by decide +kernel
theorem dX7_loses_34 : decode cX7_loses 34 = .ok (.iconst 0, 1) := by decide +kernel
theorem dX7_loses_35 : decode cX7_loses 35 = .ok (.iastore, 1) := by decide +kernel
theorem dX7_loses_36 : decode cX7_loses 36 = .ok (.aload_n 0, 1) := by decide +kernel
theorem dX7_loses_37 : decode cX7_loses 37 = .ok (.getfield 83, 3) := by decide +kernel
theorem dX7_loses_40 : decode cX7_loses 40 = .ok (.iload_n 1, 1) := by decide +kernel
theorem dX7_loses_41 : decode cX7_loses 41 = .ok (.iconst 0, 1) := by decide +kernel
theorem dX7_loses_42 : decode cX7_loses 42 = .ok (.iastore, 1) := by decide +kernel
theorem dX7_loses_43 : decode cX7_loses 43 = .ok (.return_, 1) := by decide +kernel
set_option maxRecDepth 20000 in
theorem ggX7_atFull_X7_loses : GoodIn wsX7_atFull wsX7_loses := goodIn_r _ [15, 5, 16, 17, 4, 18, 19, 20, 21, 22, 23, 24, 25, 26, 27, 28, 29, 30, 31, 32, 33, 34, 35, 36, 37, 38, 39, 40, 41, 42, 43, 44, 45, 46, 47, 48, 49, 50, 51, 52, 53] (by decide +kernel) (by decide +kernel)
set_option maxRecDepth 20000 in
theorem gX7_atFull_X7_loses : GoodIn wsX7_atFull (wsV RX7 120 RX7 yX7_loses wsX7_loses) := goodIn_app (goodIn_of _ (by decide +kernel)) ggX7_atFull_X7_loses
theorem dX7_atFull_0 : decode cX7_atFull 0 = .ok (.aload_n 0, 1) := by decide +kernel
theorem dX7_atFull_1 : decode cX7_atFull 1 = .ok (.getfield 68, 3) := by decide +kernel
theorem dX7_atFull_4 : decode cX7_atFull 4 = .ok (.iload_n 1, 1) := by decide +kernel
theorem dX7_atFull_5 : decode cX7_atFull 5 = .ok (.iaload, 1) := by decide +kernel
theorem dX7_atFull_6 : decode cX7_atFull 6 = .ok (.iconst 2, 1) := by decide +kernel
theorem dX7_atFull_7 : decode cX7_atFull 7 = .ok (.if_icmp .eq 67, 3) := by decide +kernel
theorem dX7_atFull_10 : decode cX7_atFull 10 = .ok (.aload_n 0, 1) := by decide +kernel
theorem dX7_atFull_11 : decode cX7_atFull 11 = .ok (.iload_n 1, 1) := by decide +kernel
theorem dX7_atFull_12 : decode cX7_atFull 12 = .ok (.invokevirtual 120, 3) := by decide +kernel
theorem dX7_atFull_15 : decode cX7_atFull 15 = .ok (.aload_n 0, 1) := by decide +kernel
theorem dX7_atFull_16 : decode cX7_atFull 16 = .ok (.getfield 68, 3) := by decide +kernel
theorem dX7_atFull_19 : decode cX7_atFull 19 = .ok (.iload_n 1, 1) := by decide +kernel
theorem dX7_atFull_20 : decode cX7_atFull 20 = .ok (.iconst 2, 1) := by decide +kernel
theorem dX7_atFull_21 : decode cX7_atFull 21 = .ok (.iastore, 1) := by decide +kernel
theorem dX7_atFull_22 : decode cX7_atFull 22 = .ok (.aload_n 0, 1) := by decide +kernel
theorem dX7_atFull_23 : decode cX7_atFull 23 = .ok (.getfield 41, 3) := by decide +kernel
theorem dX7_atFull_26 : decode cX7_atFull 26 = .ok (.iload_n 1, 1) := by decide +kernel
theorem dX7_atFull_27 : decode cX7_atFull 27 = .ok (.iaload, 1) := by decide +kernel
theorem dX7_atFull_28 : decode cX7_atFull 28 = .ok (.aload_n 0, 1) := by decide +kernel
theorem dX7_atFull_29 : decode cX7_atFull 29 = .ok (.getfield 35, 3) := by decide +kernel
theorem dX7_atFull_32 : decode cX7_atFull 32 = .ok (.iload_n 1, 1) := by decide +kernel
theorem dX7_atFull_33 : decode cX7_atFull 33 = .ok (.iaload, 1) := by decide +kernel
theorem dX7_atFull_34 : decode cX7_atFull 34 = .ok (.if_icmp .le 18, 3) := by decide +kernel
theorem dX7_atFull_37 : decode cX7_atFull 37 = .ok (.aload_n 0, 1) := by decide +kernel
theorem dX7_atFull_38 : decode cX7_atFull 38 = .ok (.getfield 77, 3) := by decide +kernel
theorem dX7_atFull_41 : decode cX7_atFull 41 = .ok (.iload_n 1, 1) := by decide +kernel
theorem dX7_atFull_42 : decode cX7_atFull 42 = .ok (.aload_n 0, 1) := by decide +kernel
theorem dX7_atFull_43 : decode cX7_atFull 43 = .ok (.getfield 35, 3) := by decide +kernel
theorem dX7_atFull_46 : decode cX7_atFull 46 = .ok (.iload_n 1, 1) := by decide +kernel
theorem dX7_atFull_47 : decode cX7_atFull 47 = .ok (.iaload, 1) := by decide +kernel
theorem dX7_atFull_48 : decode cX7_atFull 48 = .ok (.iastore, 1) := by decide +kernel
theorem dX7_atFull_49 : decode cX7_atFull 49 = .ok (.goto 25, 3) := by decide +kernel
theorem dX7_atFull_52 : decode cX7_atFull 52 = .ok (.aload_n 0, 1) := by decide +kernel
theorem dX7_atFull_53 : decode cX7_atFull 53 = .ok (.getfield 47, 3) := by decide +kernel
theorem dX7_atFull_56 : decode cX7_atFull 56 = .ok (.iload_n 1, 1) := by decide +kernel
theorem dX7_atFull_57 : decode cX7_atFull 57 = .ok (.dup2, 1) := by decide +kernel
theorem dX7_atFull_58 : decode cX7_atFull 58 = .ok (.iaload, 1) := by decide +kernel
theorem dX7_atFull_59 : decode cX7_atFull 59 = .ok (.aload_n 0, 1) := by decide +kernel
theorem dX7_atFull_60 : decode cX7_atFull 60 = .ok (.getfield 41, 3) := by decide +kernel
theorem dX7_atFull_63 : decode cX7_atFull 63 = .ok (.iload_n 1, 1) := by decide +kernel
theorem dX7_atFull_64 : decode cX7_atFull 64 = .ok (.iaload, 1) := by decide +kernel
theorem dX7_atFull_65 : decode cX7_atFull 65 = .ok (.iadd, 1) := by decide +kernel
theorem dX7_atFull_66 : decode cX7_atFull 66 = .ok (.iastore, 1) := by decide +kernel
theorem dX7_atFull_67 : decode cX7_atFull 67 = .ok (.aload_n 0, 1) := by decide +kernel
theorem dX7_atFull_68 : decode cX7_atFull 68 = .ok (.getfield 41, 3) := by decide +kernel
theorem dX7_atFull_71 : decode cX7_atFull 71 = .ok (.iload_n 1, 1) := by decide +kernel
theorem dX7_atFull_72 : decode cX7_atFull 72 = .ok (.iconst 0, 1) := by decide +kernel
theorem dX7_atFull_73 : decode cX7_atFull 73 = .ok (.iastore, 1) := by decide +kernel
theorem dX7_atFull_74 : decode cX7_atFull 74 = .ok (.aload_n 0, 1) := by decide +kernel
theorem dX7_atFull_75 : decode cX7_atFull 75 = .ok (.getfield 62, 3) := by decide +kernel
theorem dX7_atFull_78 : decode cX7_atFull 78 = .ok (.iload_n 1, 1) := by decide +kernel
theorem dX7_atFull_79 : decode cX7_atFull 79 = .ok (.dup2, 1) := by decide +kernel
theorem dX7_atFull_80 : decode cX7_atFull 80 = .ok (.iaload, 1) := by decide +kernel
theorem dX7_atFull_81 : decode cX7_atFull 81 = .ok (.aload_n 0, 1) := by decide +kernel
theorem dX7_atFull_82 : decode cX7_atFull 82 = .ok (.getfield 7, 3) := by decide +kernel
theorem dX7_atFull_85 : decode cX7_atFull 85 = .ok (.iadd, 1) := by decide +kernel
theorem dX7_atFull_86 : decode cX7_atFull 86 = .ok (.iastore, 1) := by decide +kernel
theorem dX7_atFull_87 : decode cX7_atFull 87 = .ok (.aload_n 0, 1) := by decide +kernel
theorem dX7_atFull_88 : decode cX7_atFull 88 = .ok (.getfield 65, 3) := by decide +kernel
theorem dX7_atFull_91 : decode cX7_atFull 91 = .ok (.iload_n 1, 1) := by decide +kernel
theorem dX7_atFull_92 : decode cX7_atFull 92 = .ok (.dup2, 1) := by decide +kernel
theorem dX7_atFull_93 : decode cX7_atFull 93 = .ok (.iaload, 1) := by decide +kernel
theorem dX7_atFull_94 : decode cX7_atFull 94 = .ok (.iconst 1, 1) := by decide +kernel
theorem dX7_atFull_95 : decode cX7_atFull 95 = .ok (.iadd, 1) := by decide +kernel
theorem dX7_atFull_96 : decode cX7_atFull 96 = .ok (.iastore, 1) := by decide +kernel
theorem dX7_atFull_97 : decode cX7_atFull 97 = .ok (.aload_n 0, 1) := by decide +kernel
theorem dX7_atFull_98 : decode cX7_atFull 98 = .ok (.getfield 77, 3) := by decide +kernel
theorem dX7_atFull_101 : decode cX7_atFull 101 = .ok (.iload_n 1, 1) := by decide +kernel
theorem dX7_atFull_102 : decode cX7_atFull 102 = .ok (.iaload, 1) := by decide +kernel
theorem dX7_atFull_103 : decode cX7_atFull 103 = .ok (.ifCond .le 26, 3) := by decide +kernel
theorem dX7_atFull_106 : decode cX7_atFull 106 = .ok (.aload_n 0, 1) := by decide +kernel
theorem dX7_atFull_107 : decode cX7_atFull 107 = .ok (.getfield 77, 3) := by decide +kernel
theorem dX7_atFull_110 : decode cX7_atFull 110 = .ok (.iload_n 1, 1) := by decide +kernel
theorem dX7_atFull_111 : decode cX7_atFull 111 = .ok (.dup2, 1) := by decide +kernel
theorem dX7_atFull_112 : decode cX7_atFull 112 = .ok (.iaload, 1) := by decide +kernel
theorem dX7_atFull_113 : decode cX7_atFull 113 = .ok (.iconst 1, 1) := by decide +kernel
theorem dX7_atFull_114 : decode cX7_atFull 114 = .ok (.isub, 1) := by decide +kernel
theorem dX7_atFull_115 : decode cX7_atFull 115 = .ok (.iastore, 1) := by decide +kernel
theorem dX7_atFull_116 : decode cX7_atFull 116 = .ok (.aload_n 0, 1) := by decide +kernel
theorem dX7_atFull_117 : decode cX7_atFull 117 = .ok (.getfield 53, 3) := by decide +kernel
theorem dX7_atFull_120 : decode cX7_atFull 120 = .ok (.iload_n 1, 1) := by decide +kernel
theorem dX7_atFull_121 : decode cX7_atFull 121 = .ok (.dup2, 1) := by decide +kernel
theorem dX7_atFull_122 : decode cX7_atFull 122 = .ok (.iaload, 1) := by decide +kernel
theorem dX7_atFull_123 : decode cX7_atFull 123 = .ok (.iconst 1, 1) := by decide +kernel
theorem dX7_atFull_124 : decode cX7_atFull 124 = .ok (.iadd, 1) := by decide +kernel
theorem dX7_atFull_125 : decode cX7_atFull 125 = .ok (.iastore, 1) := by decide +kernel
theorem dX7_atFull_126 : decode cX7_atFull 126 = .ok (.goto 23, 3) := by decide +kernel
theorem dX7_atFull_129 : decode cX7_atFull 129 = .ok (.aload_n 0, 1) := by decide +kernel
theorem dX7_atFull_130 : decode cX7_atFull 130 = .ok (.getfield 50, 3) := by decide +kernel
theorem dX7_atFull_133 : decode cX7_atFull 133 = .ok (.iload_n 1, 1) := by decide +kernel
theorem dX7_atFull_134 : decode cX7_atFull 134 = .ok (.dup2, 1) := by decide +kernel
theorem dX7_atFull_135 : decode cX7_atFull 135 = .ok (.iaload, 1) := by decide +kernel
theorem dX7_atFull_136 : decode cX7_atFull 136 = .ok (.iconst 1, 1) := by decide +kernel
theorem dX7_atFull_137 : decode cX7_atFull 137 = .ok (.iadd, 1) := by decide +kernel
theorem dX7_atFull_138 : decode cX7_atFull 138 = .ok (.iastore, 1) := by decide +kernel
theorem dX7_atFull_139 : decode cX7_atFull 139 = .ok (.aload_n 0, 1) := by decide +kernel
theorem dX7_atFull_140 : decode cX7_atFull 140 = .ok (.getfield 41, 3) := by decide +kernel
theorem dX7_atFull_143 : decode cX7_atFull 143 = .ok (.iload_n 1, 1) := by decide +kernel
theorem dX7_atFull_144 : decode cX7_atFull 144 = .ok (.dup2, 1) := by decide +kernel
theorem dX7_atFull_145 : decode cX7_atFull 145 = .ok (.iaload, 1) := by decide +kernel
theorem dX7_atFull_146 : decode cX7_atFull 146 = .ok (.iconst 1, 1) := by decide +kernel
theorem dX7_atFull_147 : decode cX7_atFull 147 = .ok (.iadd, 1) := by decide +kernel
theorem dX7_atFull_148 : decode cX7_atFull 148 = .ok (.iastore, 1) := by decide +kernel
theorem dX7_atFull_149 : decode cX7_atFull 149 = .ok (.return_, 1) := by decide +kernel
set_option maxRecDepth 20000 in
theorem ggX7_atMarket_X7_keeps : GoodIn wsX7_atMarket wsX7_keeps := goodIn_r _ [19, 4, 11, 2, 20, 21, 22, 23, 24, 25, 26, 27, 28, 29, 30, 31, 32, 33, 34, 35, 36, 37, 38, 39, 40, 41, 42, 43, 44, 45, 46, 47, 48, 49, 50, 51, 52, 53, 54] (by decide +kernel) (by decide +kernel)
set_option maxRecDepth 20000 in
theorem gX7_atMarket_X7_keeps : GoodIn wsX7_atMarket (wsV RX7 124 RX7 yX7_keeps wsX7_keeps) := goodIn_app (goodIn_of _ (by decide +kernel)) ggX7_atMarket_X7_keeps
theorem dX7_atMarket_0 : decode cX7_atMarket 0 = .ok (.aload_n 0, 1) := by decide +kernel
theorem dX7_atMarket_1 : decode cX7_atMarket 1 = .ok (.getfield 68, 3) := by decide +kernel
theorem dX7_atMarket_4 : decode cX7_atMarket 4 = .ok (.iload_n 1, 1) := by decide +kernel
theorem dX7_atMarket_5 : decode cX7_atMarket 5 = .ok (.iaload, 1) := by decide +kernel
theorem dX7_atMarket_6 : decode cX7_atMarket 6 = .ok (.iconst 1, 1) := by decide +kernel
theorem dX7_atMarket_7 : decode cX7_atMarket 7 = .ok (.if_icmp .eq 42, 3) := by decide +kernel
theorem dX7_atMarket_10 : decode cX7_atMarket 10 = .ok (.aload_n 0, 1) := by decide +kernel
theorem dX7_atMarket_11 : decode cX7_atMarket 11 = .ok (.getfield 68, 3) := by decide +kernel
theorem dX7_atMarket_14 : decode cX7_atMarket 14 = .ok (.iload_n 1, 1) := by decide +kernel
theorem dX7_atMarket_15 : decode cX7_atMarket 15 = .ok (.iconst 1, 1) := by decide +kernel
theorem dX7_atMarket_16 : decode cX7_atMarket 16 = .ok (.iastore, 1) := by decide +kernel
theorem dX7_atMarket_17 : decode cX7_atMarket 17 = .ok (.aload_n 0, 1) := by decide +kernel
theorem dX7_atMarket_18 : decode cX7_atMarket 18 = .ok (.getfield 83, 3) := by decide +kernel
theorem dX7_atMarket_21 : decode cX7_atMarket 21 = .ok (.iload_n 1, 1) := by decide +kernel
theorem dX7_atMarket_22 : decode cX7_atMarket 22 = .ok (.iconst 0, 1) := by decide +kernel
theorem dX7_atMarket_23 : decode cX7_atMarket 23 = .ok (.iastore, 1) := by decide +kernel
theorem dX7_atMarket_24 : decode cX7_atMarket 24 = .ok (.aload_n 0, 1) := by decide +kernel
theorem dX7_atMarket_25 : decode cX7_atMarket 25 = .ok (.getfield 77, 3) := by decide +kernel
theorem dX7_atMarket_28 : decode cX7_atMarket 28 = .ok (.iload_n 1, 1) := by decide +kernel
theorem dX7_atMarket_29 : decode cX7_atMarket 29 = .ok (.aload_n 0, 1) := by decide +kernel
theorem dX7_atMarket_30 : decode cX7_atMarket 30 = .ok (.getfield 41, 3) := by decide +kernel
theorem dX7_atMarket_33 : decode cX7_atMarket 33 = .ok (.iload_n 1, 1) := by decide +kernel
theorem dX7_atMarket_34 : decode cX7_atMarket 34 = .ok (.iaload, 1) := by decide +kernel
theorem dX7_atMarket_35 : decode cX7_atMarket 35 = .ok (.ifCond .le 12, 3) := by decide +kernel
theorem dX7_atMarket_38 : decode cX7_atMarket 38 = .ok (.aload_n 0, 1) := by decide +kernel
theorem dX7_atMarket_39 : decode cX7_atMarket 39 = .ok (.getfield 35, 3) := by decide +kernel
theorem dX7_atMarket_42 : decode cX7_atMarket 42 = .ok (.iload_n 1, 1) := by decide +kernel
theorem dX7_atMarket_43 : decode cX7_atMarket 43 = .ok (.iaload, 1) := by decide +kernel
theorem dX7_atMarket_44 : decode cX7_atMarket 44 = .ok (.goto 4, 3) := by decide +kernel
theorem dX7_atMarket_47 : decode cX7_atMarket 47 = .ok (.iconst 0, 1) := by decide +kernel
theorem dX7_atMarket_48 : decode cX7_atMarket 48 = .ok (.iastore, 1) := by decide +kernel
theorem dX7_atMarket_49 : decode cX7_atMarket 49 = .ok (.aload_n 0, 1) := by decide +kernel
theorem dX7_atMarket_50 : decode cX7_atMarket 50 = .ok (.getfield 62, 3) := by decide +kernel
theorem dX7_atMarket_53 : decode cX7_atMarket 53 = .ok (.iload_n 1, 1) := by decide +kernel
theorem dX7_atMarket_54 : decode cX7_atMarket 54 = .ok (.dup2, 1) := by decide +kernel
theorem dX7_atMarket_55 : decode cX7_atMarket 55 = .ok (.iaload, 1) := by decide +kernel
theorem dX7_atMarket_56 : decode cX7_atMarket 56 = .ok (.iload_n 2, 1) := by decide +kernel
theorem dX7_atMarket_57 : decode cX7_atMarket 57 = .ok (.iadd, 1) := by decide +kernel
theorem dX7_atMarket_58 : decode cX7_atMarket 58 = .ok (.iastore, 1) := by decide +kernel
theorem dX7_atMarket_59 : decode cX7_atMarket 59 = .ok (.aload_n 0, 1) := by decide +kernel
theorem dX7_atMarket_60 : decode cX7_atMarket 60 = .ok (.getfield 77, 3) := by decide +kernel
theorem dX7_atMarket_63 : decode cX7_atMarket 63 = .ok (.iload_n 1, 1) := by decide +kernel
theorem dX7_atMarket_64 : decode cX7_atMarket 64 = .ok (.iaload, 1) := by decide +kernel
theorem dX7_atMarket_65 : decode cX7_atMarket 65 = .ok (.ifCond .le 24, 3) := by decide +kernel
theorem dX7_atMarket_68 : decode cX7_atMarket 68 = .ok (.aload_n 0, 1) := by decide +kernel
theorem dX7_atMarket_69 : decode cX7_atMarket 69 = .ok (.getfield 77, 3) := by decide +kernel
theorem dX7_atMarket_72 : decode cX7_atMarket 72 = .ok (.iload_n 1, 1) := by decide +kernel
theorem dX7_atMarket_73 : decode cX7_atMarket 73 = .ok (.dup2, 1) := by decide +kernel
theorem dX7_atMarket_74 : decode cX7_atMarket 74 = .ok (.iaload, 1) := by decide +kernel
theorem dX7_atMarket_75 : decode cX7_atMarket 75 = .ok (.iconst 1, 1) := by decide +kernel
theorem dX7_atMarket_76 : decode cX7_atMarket 76 = .ok (.isub, 1) := by decide +kernel
theorem dX7_atMarket_77 : decode cX7_atMarket 77 = .ok (.iastore, 1) := by decide +kernel
theorem dX7_atMarket_78 : decode cX7_atMarket 78 = .ok (.aload_n 0, 1) := by decide +kernel
theorem dX7_atMarket_79 : decode cX7_atMarket 79 = .ok (.getfield 53, 3) := by decide +kernel
theorem dX7_atMarket_82 : decode cX7_atMarket 82 = .ok (.iload_n 1, 1) := by decide +kernel
theorem dX7_atMarket_83 : decode cX7_atMarket 83 = .ok (.dup2, 1) := by decide +kernel
theorem dX7_atMarket_84 : decode cX7_atMarket 84 = .ok (.iaload, 1) := by decide +kernel
theorem dX7_atMarket_85 : decode cX7_atMarket 85 = .ok (.iconst 1, 1) := by decide +kernel
theorem dX7_atMarket_86 : decode cX7_atMarket 86 = .ok (.iadd, 1) := by decide +kernel
theorem dX7_atMarket_87 : decode cX7_atMarket 87 = .ok (.iastore, 1) := by decide +kernel
theorem dX7_atMarket_88 : decode cX7_atMarket 88 = .ok (.return_, 1) := by decide +kernel
theorem dX7_atMarket_89 : decode cX7_atMarket 89 = .ok (.aload_n 0, 1) := by decide +kernel
theorem dX7_atMarket_90 : decode cX7_atMarket 90 = .ok (.getfield 80, 3) := by decide +kernel
theorem dX7_atMarket_93 : decode cX7_atMarket 93 = .ok (.iload_n 1, 1) := by decide +kernel
theorem dX7_atMarket_94 : decode cX7_atMarket 94 = .ok (.iaload, 1) := by decide +kernel
theorem dX7_atMarket_95 : decode cX7_atMarket 95 = .ok (.ifCond .le 38, 3) := by decide +kernel
theorem dX7_atMarket_98 : decode cX7_atMarket 98 = .ok (.aload_n 0, 1) := by decide +kernel
theorem dX7_atMarket_99 : decode cX7_atMarket 99 = .ok (.getfield 80, 3) := by decide +kernel
theorem dX7_atMarket_102 : decode cX7_atMarket 102 = .ok (.iload_n 1, 1) := by decide +kernel
theorem dX7_atMarket_103 : decode cX7_atMarket 103 = .ok (.dup2, 1) := by decide +kernel
theorem dX7_atMarket_104 : decode cX7_atMarket 104 = .ok (.iaload, 1) := by decide +kernel
theorem dX7_atMarket_105 : decode cX7_atMarket 105 = .ok (.iconst 1, 1) := by decide +kernel
theorem dX7_atMarket_106 : decode cX7_atMarket 106 = .ok (.isub, 1) := by decide +kernel
theorem dX7_atMarket_107 : decode cX7_atMarket 107 = .ok (.iastore, 1) := by decide +kernel
theorem dX7_atMarket_108 : decode cX7_atMarket 108 = .ok (.aload_n 0, 1) := by decide +kernel
theorem dX7_atMarket_109 : decode cX7_atMarket 109 = .ok (.getfield 56, 3) := by decide +kernel
theorem dX7_atMarket_112 : decode cX7_atMarket 112 = .ok (.iload_n 1, 1) := by decide +kernel
theorem dX7_atMarket_113 : decode cX7_atMarket 113 = .ok (.dup2, 1) := by decide +kernel
theorem dX7_atMarket_114 : decode cX7_atMarket 114 = .ok (.iaload, 1) := by decide +kernel
theorem dX7_atMarket_115 : decode cX7_atMarket 115 = .ok (.iconst 1, 1) := by decide +kernel
theorem dX7_atMarket_116 : decode cX7_atMarket 116 = .ok (.iadd, 1) := by decide +kernel
theorem dX7_atMarket_117 : decode cX7_atMarket 117 = .ok (.iastore, 1) := by decide +kernel
theorem dX7_atMarket_118 : decode cX7_atMarket 118 = .ok (.aload_n 0, 1) := by decide +kernel
theorem dX7_atMarket_119 : decode cX7_atMarket 119 = .ok (.getfield 80, 3) := by decide +kernel
theorem dX7_atMarket_122 : decode cX7_atMarket 122 = .ok (.iload_n 1, 1) := by decide +kernel
theorem dX7_atMarket_123 : decode cX7_atMarket 123 = .ok (.iaload, 1) := by decide +kernel
theorem dX7_atMarket_124 : decode cX7_atMarket 124 = .ok (.ifCond .ne 8, 3) := by decide +kernel
theorem dX7_atMarket_127 : decode cX7_atMarket 127 = .ok (.aload_n 0, 1) := by decide +kernel
theorem dX7_atMarket_128 : decode cX7_atMarket 128 = .ok (.iload_n 1, 1) := by decide +kernel
theorem dX7_atMarket_129 : decode cX7_atMarket 129 = .ok (.invokevirtual 124, 3) := by decide +kernel
theorem dX7_atMarket_132 : decode cX7_atMarket 132 = .ok (.return_, 1) := by decide +kernel
theorem dX7_atMarket_133 : decode cX7_atMarket 133 = .ok (.aload_n 0, 1) := by decide +kernel
theorem dX7_atMarket_134 : decode cX7_atMarket 134 = .ok (.getfield 50, 3) := by decide +kernel
theorem dX7_atMarket_137 : decode cX7_atMarket 137 = .ok (.iload_n 1, 1) := by decide +kernel
theorem dX7_atMarket_138 : decode cX7_atMarket 138 = .ok (.dup2, 1) := by decide +kernel
theorem dX7_atMarket_139 : decode cX7_atMarket 139 = .ok (.iaload, 1) := by decide +kernel
theorem dX7_atMarket_140 : decode cX7_atMarket 140 = .ok (.iconst 1, 1) := by decide +kernel
theorem dX7_atMarket_141 : decode cX7_atMarket 141 = .ok (.iadd, 1) := by decide +kernel
theorem dX7_atMarket_142 : decode cX7_atMarket 142 = .ok (.iastore, 1) := by decide +kernel
theorem dX7_atMarket_143 : decode cX7_atMarket 143 = .ok (.aload_n 0, 1) := by decide +kernel
theorem dX7_atMarket_144 : decode cX7_atMarket 144 = .ok (.getfield 44, 3) := by decide +kernel
theorem dX7_atMarket_147 : decode cX7_atMarket 147 = .ok (.iload_n 1, 1) := by decide +kernel
theorem dX7_atMarket_148 : decode cX7_atMarket 148 = .ok (.dup2, 1) := by decide +kernel
theorem dX7_atMarket_149 : decode cX7_atMarket 149 = .ok (.iaload, 1) := by decide +kernel
theorem dX7_atMarket_150 : decode cX7_atMarket 150 = .ok (.iconst 1, 1) := by decide +kernel
theorem dX7_atMarket_151 : decode cX7_atMarket 151 = .ok (.iadd, 1) := by decide +kernel
theorem dX7_atMarket_152 : decode cX7_atMarket 152 = .ok (.iastore, 1) := by decide +kernel
theorem dX7_atMarket_153 : decode cX7_atMarket 153 = .ok (.aload_n 0, 1) := by decide +kernel
theorem dX7_atMarket_154 : decode cX7_atMarket 154 = .ok (.getfield 83, 3) := by decide +kernel
theorem dX7_atMarket_157 : decode cX7_atMarket 157 = .ok (.iload_n 1, 1) := by decide +kernel
theorem dX7_atMarket_158 : decode cX7_atMarket 158 = .ok (.dup2, 1) := by decide +kernel
theorem dX7_atMarket_159 : decode cX7_atMarket 159 = .ok (.iaload, 1) := by decide +kernel
theorem dX7_atMarket_160 : decode cX7_atMarket 160 = .ok (.iconst 1, 1) := by decide +kernel
theorem dX7_atMarket_161 : decode cX7_atMarket 161 = .ok (.iadd, 1) := by decide +kernel
theorem dX7_atMarket_162 : decode cX7_atMarket 162 = .ok (.iastore, 1) := by decide +kernel
theorem dX7_atMarket_163 : decode cX7_atMarket 163 = .ok (.aload_n 0, 1) := by decide +kernel
theorem dX7_atMarket_164 : decode cX7_atMarket 164 = .ok (.getfield 83, 3) := by decide +kernel
theorem dX7_atMarket_167 : decode cX7_atMarket 167 = .ok (.iload_n 1, 1) := by decide +kernel
theorem dX7_atMarket_168 : decode cX7_atMarket 168 = .ok (.iaload, 1) := by decide +kernel
theorem dX7_atMarket_169 : decode cX7_atMarket 169 = .ok (.aload_n 0, 1) := by decide +kernel
theorem dX7_atMarket_170 : decode cX7_atMarket 170 = .ok (.getfield 29, 3) := by decide +kernel
theorem dX7_atMarket_173 : decode cX7_atMarket 173 = .ok (.iload_n 1, 1) := by decide +kernel
theorem dX7_atMarket_174 : decode cX7_atMarket 174 = .ok (.iaload, 1) := by decide +kernel
theorem dX7_atMarket_175 : decode cX7_atMarket 175 = .ok (.if_icmp .ge 26, 3) := by decide +kernel
theorem dX7_atMarket_178 : decode cX7_atMarket 178 = .ok (.aload_n 0, 1) := by decide +kernel
theorem dX7_atMarket_179 : decode cX7_atMarket 179 = .ok (.getfield 41, 3) := by decide +kernel
theorem dX7_atMarket_182 : decode cX7_atMarket 182 = .ok (.iload_n 1, 1) := by decide +kernel
theorem dX7_atMarket_183 : decode cX7_atMarket 183 = .ok (.iaload, 1) := by decide +kernel
theorem dX7_atMarket_184 : decode cX7_atMarket 184 = .ok (.aload_n 0, 1) := by decide +kernel
theorem dX7_atMarket_185 : decode cX7_atMarket 185 = .ok (.getfield 44, 3) := by decide +kernel
theorem dX7_atMarket_188 : decode cX7_atMarket 188 = .ok (.iload_n 1, 1) := by decide +kernel
theorem dX7_atMarket_189 : decode cX7_atMarket 189 = .ok (.iaload, 1) := by decide +kernel
theorem dX7_atMarket_190 : decode cX7_atMarket 190 = .ok (.iadd, 1) := by decide +kernel
theorem dX7_atMarket_191 : decode cX7_atMarket 191 = .ok (.aload_n 0, 1) := by decide +kernel
theorem dX7_atMarket_192 : decode cX7_atMarket 192 = .ok (.getfield 17, 3) := by decide +kernel
theorem dX7_atMarket_195 : decode cX7_atMarket 195 = .ok (.iload_n 1, 1) := by decide +kernel
theorem dX7_atMarket_196 : decode cX7_atMarket 196 = .ok (.iaload, 1) := by decide +kernel
theorem dX7_atMarket_197 : decode cX7_atMarket 197 = .ok (.if_icmp .ge 4, 3) := by decide +kernel
theorem dX7_atMarket_200 : decode cX7_atMarket 200 = .ok (.return_, 1) := by decide +kernel
theorem dX7_atMarket_201 : decode cX7_atMarket 201 = .ok (.aload_n 0, 1) := by decide +kernel
theorem dX7_atMarket_202 : decode cX7_atMarket 202 = .ok (.getfield 80, 3) := by decide +kernel
theorem dX7_atMarket_205 : decode cX7_atMarket 205 = .ok (.iload_n 1, 1) := by decide +kernel
theorem dX7_atMarket_206 : decode cX7_atMarket 206 = .ok (.aload_n 0, 1) := by decide +kernel
theorem dX7_atMarket_207 : decode cX7_atMarket 207 = .ok (.getfield 32, 3) := by decide +kernel
theorem dX7_atMarket_210 : decode cX7_atMarket 210 = .ok (.iload_n 1, 1) := by decide +kernel
theorem dX7_atMarket_211 : decode cX7_atMarket 211 = .ok (.iaload, 1) := by decide +kernel
theorem dX7_atMarket_212 : decode cX7_atMarket 212 = .ok (.iastore, 1) := by decide +kernel
theorem dX7_atMarket_213 : decode cX7_atMarket 213 = .ok (.aload_n 0, 1) := by decide +kernel
theorem dX7_atMarket_214 : decode cX7_atMarket 214 = .ok (.getfield 80, 3) := by decide +kernel
theorem dX7_atMarket_217 : decode cX7_atMarket 217 = .ok (.iload_n 1, 1) := by decide +kernel
theorem dX7_atMarket_218 : decode cX7_atMarket 218 = .ok (.iaload, 1) := by decide +kernel
theorem dX7_atMarket_219 : decode cX7_atMarket 219 = .ok (.ifCond .ne 8, 3) := by decide +kernel
theorem dX7_atMarket_222 : decode cX7_atMarket 222 = .ok (.aload_n 0, 1) := by decide +kernel
theorem dX7_atMarket_223 : decode cX7_atMarket 223 = .ok (.iload_n 1, 1) := by decide +kernel
theorem dX7_atMarket_224 : decode cX7_atMarket 224 = .ok (.invokevirtual 124, 3) := by decide +kernel
theorem dX7_atMarket_227 : decode cX7_atMarket 227 = .ok (.return_, 1) := by decide +kernel
theorem dX7_keeps_0 : decode cX7_keeps 0 = .ok (.aload_n 0, 1) := by decide +kernel
theorem dX7_keeps_1 : decode cX7_keeps 1 = .ok (.getfield 41, 3) := by decide +kernel
theorem dX7_keeps_4 : decode cX7_keeps 4 = .ok (.iload_n 1, 1) := by decide +kernel
theorem dX7_keeps_5 : decode cX7_keeps 5 = .ok (.dup2, 1) := by decide +kernel
theorem dX7_keeps_6 : decode cX7_keeps 6 = .ok (.iaload, 1) := by decide +kernel
theorem dX7_keeps_7 : decode cX7_keeps 7 = .ok (.aload_n 0, 1) := by decide +kernel
theorem dX7_keeps_8 : decode cX7_keeps 8 = .ok (.getfield 44, 3) := by decide +kernel
theorem dX7_keeps_11 : decode cX7_keeps 11 = .ok (.iload_n 1, 1) := by decide +kernel
theorem dX7_keeps_12 : decode cX7_keeps 12 = .ok (.iaload, 1) := by decide +kernel
theorem dX7_keeps_13 : decode cX7_keeps 13 = .ok (.iadd, 1) := by decide +kernel
theorem dX7_keeps_14 : decode cX7_keeps 14 = .ok (.iastore, 1) := by decide +kernel
theorem dX7_keeps_15 : decode cX7_keeps 15 = .ok (.aload_n 0, 1) := by decide +kernel
theorem dX7_keeps_16 : decode cX7_keeps 16 = .ok (.getfield 44, 3) := by decide +kernel
theorem dX7_keeps_19 : decode cX7_keeps 19 = .ok (.iload_n 1, 1) := by decide +kernel
theorem dX7_keeps_20 : decode cX7_keeps 20 = .ok (.iconst 0, 1) := by decide +kernel
theorem dX7_keeps_21 : decode cX7_keeps 21 = .ok (.iastore, 1) := by decide +kernel
theorem dX7_keeps_22 : decode cX7_keeps 22 = .ok (.aload_n 0, 1) := by decide +kernel
theorem dX7_keeps_23 : decode cX7_keeps 23 = .ok (.getfield 83, 3) := by decide +kernel
theorem dX7_keeps_26 : decode cX7_keeps 26 = .ok (.iload_n 1, 1) := by decide +kernel
theorem dX7_keeps_27 : decode cX7_keeps 27 = .ok (.iconst 0, 1) := by decide +kernel
theorem dX7_keeps_28 : decode cX7_keeps 28 = .ok (.iastore, 1) := by decide +kernel
theorem dX7_keeps_29 : decode cX7_keeps 29 = .ok (.return_, 1) := by decide +kernel
set_option maxRecDepth 20000 in
theorem ggX7_hour_X7_need : GoodIn wsX7_hour wsX7_need := goodIn_r _ [17, 10, 18, 11, 48, 49, 50, 51, 52, 53, 54, 55, 56, 57, 58, 59, 60, 61, 62, 63, 64, 65, 66, 67, 68, 69, 70, 71, 72, 73, 74, 75, 76, 77, 78, 79, 80, 81, 82] (by decide +kernel) (by decide +kernel)
set_option maxRecDepth 20000 in
theorem gX7_hour_X7_need : GoodIn wsX7_hour (wsV RX7 127 RX7 yX7_need wsX7_need) := goodIn_app (goodIn_of _ (by decide +kernel)) ggX7_hour_X7_need
set_option maxRecDepth 20000 in
theorem ggX7_hour_X7_atFull : GoodIn wsX7_hour wsX7_atFull := goodIn_r _ [22, 7, 10, 18, 23, 24, 25, 26, 27, 28, 29, 30, 31, 32, 16, 33, 34, 35, 36, 48, 49, 50, 51, 52, 53, 54, 55, 56, 57, 58, 59, 60, 61, 62, 63, 64, 65, 66, 67, 68, 69, 70, 71, 72, 73, 74, 75, 76, 77, 78, 79, 80, 81, 82] (by decide +kernel) (by decide +kernel)
set_option maxRecDepth 20000 in
theorem gX7_hour_X7_atFull : GoodIn wsX7_hour (wsV RX7 131 RX7 yX7_atFull wsX7_atFull) := goodIn_app (goodIn_of _ (by decide +kernel)) ggX7_hour_X7_atFull
set_option maxRecDepth 20000 in
theorem ggX7_hour_X7_loses : GoodIn wsX7_hour wsX7_loses := goodIn_r _ [33, 24, 34, 35, 23, 36, 48, 49, 50, 51, 52, 53, 54, 55, 56, 57, 58, 59, 60, 61, 62, 63, 64, 65, 66, 67, 68, 69, 70, 71, 72, 73, 74, 75, 76, 77, 78, 79, 80, 81, 82] (by decide +kernel) (by decide +kernel)
set_option maxRecDepth 20000 in
theorem gX7_hour_X7_loses : GoodIn wsX7_hour (wsV RX7 120 RX7 yX7_loses wsX7_loses) := goodIn_app (goodIn_of _ (by decide +kernel)) ggX7_hour_X7_loses
set_option maxRecDepth 20000 in
theorem ggX7_hour_X7_atMarket : GoodIn wsX7_hour wsX7_atMarket := goodIn_r _ [40, 7, 36, 23, 10, 18, 25, 28, 35, 41, 29, 34, 42, 11, 43, 44, 45, 46, 16, 47, 48, 49, 50, 51, 52, 53, 54, 55, 56, 57, 58, 59, 60, 61, 62, 63, 64, 65, 66, 67, 68, 69, 70, 71, 72, 73, 74, 75, 76, 77, 78, 79, 80, 81, 82] (by decide +kernel) (by decide +kernel)
set_option maxRecDepth 20000 in
theorem gX7_hour_X7_atMarket : GoodIn wsX7_hour (wsV RX7 134 RX7 yX7_atMarket wsX7_atMarket) := goodIn_app (goodIn_of _ (by decide +kernel)) ggX7_hour_X7_atMarket
theorem dX7_hour_0 : decode cX7_hour 0 = .ok (.aload_n 0, 1) := by decide +kernel
theorem dX7_hour_1 : decode cX7_hour 1 = .ok (.getfield 86, 3) := by decide +kernel
theorem dX7_hour_4 : decode cX7_hour 4 = .ok (.iload_n 1, 1) := by decide +kernel
theorem dX7_hour_5 : decode cX7_hour 5 = .ok (.aload_n 0, 1) := by decide +kernel
theorem dX7_hour_6 : decode cX7_hour 6 = .ok (.getfield 86, 3) := by decide +kernel
theorem dX7_hour_9 : decode cX7_hour 9 = .ok (.iload_n 1, 1) := by decide +kernel
theorem dX7_hour_10 : decode cX7_hour 10 = .ok (.baload, 1) := by decide +kernel
theorem dX7_hour_11 : decode cX7_hour 11 = .ok (.ifCond .ne 22, 3) := by decide +kernel
theorem dX7_hour_14 : decode cX7_hour 14 = .ok (.aload_n 0, 1) := by decide +kernel
theorem dX7_hour_15 : decode cX7_hour 15 = .ok (.getfield 20, 3) := by decide +kernel
theorem dX7_hour_18 : decode cX7_hour 18 = .ok (.iload_n 1, 1) := by decide +kernel
theorem dX7_hour_19 : decode cX7_hour 19 = .ok (.iaload, 1) := by decide +kernel
theorem dX7_hour_20 : decode cX7_hour 20 = .ok (.aload_n 0, 1) := by decide +kernel
theorem dX7_hour_21 : decode cX7_hour 21 = .ok (.getfield 116, 3) := by decide +kernel
theorem dX7_hour_24 : decode cX7_hour 24 = .ok (.isub, 1) := by decide +kernel
theorem dX7_hour_25 : decode cX7_hour 25 = .ok (.aload_n 0, 1) := by decide +kernel
theorem dX7_hour_26 : decode cX7_hour 26 = .ok (.iload_n 1, 1) := by decide +kernel
theorem dX7_hour_27 : decode cX7_hour 27 = .ok (.invokevirtual 127, 3) := by decide +kernel
theorem dX7_hour_30 : decode cX7_hour 30 = .ok (.if_icmp .gt 7, 3) := by decide +kernel
theorem dX7_hour_33 : decode cX7_hour 33 = .ok (.iconst 1, 1) := by decide +kernel
theorem dX7_hour_34 : decode cX7_hour 34 = .ok (.goto 4, 3) := by decide +kernel
theorem dX7_hour_37 : decode cX7_hour 37 = .ok (.iconst 0, 1) := by decide +kernel
theorem dX7_hour_38 : decode cX7_hour 38 = .ok (.bastore, 1) := by decide +kernel
theorem dX7_hour_39 : decode cX7_hour 39 = .ok (.aload_n 0, 1) := by decide +kernel
theorem dX7_hour_40 : decode cX7_hour 40 = .ok (.getfield 13, 3) := by decide +kernel
theorem dX7_hour_43 : decode cX7_hour 43 = .ok (.sipush 200, 3) := by decide +kernel
theorem dX7_hour_46 : decode cX7_hour 46 = .ok (.aload_n 0, 1) := by decide +kernel
theorem dX7_hour_47 : decode cX7_hour 47 = .ok (.getfield 23, 3) := by decide +kernel
theorem dX7_hour_50 : decode cX7_hour 50 = .ok (.iload_n 1, 1) := by decide +kernel
theorem dX7_hour_51 : decode cX7_hour 51 = .ok (.iaload, 1) := by decide +kernel
theorem dX7_hour_52 : decode cX7_hour 52 = .ok (.imul, 1) := by decide +kernel
theorem dX7_hour_53 : decode cX7_hour 53 = .ok (.aload_n 0, 1) := by decide +kernel
theorem dX7_hour_54 : decode cX7_hour 54 = .ok (.getfield 116, 3) := by decide +kernel
theorem dX7_hour_57 : decode cX7_hour 57 = .ok (.iadd, 1) := by decide +kernel
theorem dX7_hour_58 : decode cX7_hour 58 = .ok (.iaload, 1) := by decide +kernel
theorem dX7_hour_59 : decode cX7_hour 59 = .ok (.istore_n 2, 1) := by decide +kernel
theorem dX7_hour_60 : decode cX7_hour 60 = .ok (.aload_n 0, 1) := by decide +kernel
theorem dX7_hour_61 : decode cX7_hour 61 = .ok (.getfield 86, 3) := by decide +kernel
theorem dX7_hour_64 : decode cX7_hour 64 = .ok (.iload_n 1, 1) := by decide +kernel
theorem dX7_hour_65 : decode cX7_hour 65 = .ok (.baload, 1) := by decide +kernel
theorem dX7_hour_66 : decode cX7_hour 66 = .ok (.ifCond .eq 11, 3) := by decide +kernel
theorem dX7_hour_69 : decode cX7_hour 69 = .ok (.aload_n 0, 1) := by decide +kernel
theorem dX7_hour_70 : decode cX7_hour 70 = .ok (.iload_n 1, 1) := by decide +kernel
theorem dX7_hour_71 : decode cX7_hour 71 = .ok (.invokevirtual 131, 3) := by decide +kernel
theorem dX7_hour_74 : decode cX7_hour 74 = .ok (.goto 69, 3) := by decide +kernel
theorem dX7_hour_77 : decode cX7_hour 77 = .ok (.iload_n 2, 1) := by decide +kernel
theorem dX7_hour_78 : decode cX7_hour 78 = .ok (.iconst (-1), 1) := by decide +kernel
theorem dX7_hour_79 : decode cX7_hour 79 = .ok (.if_icmp .eq 13, 3) := by decide +kernel
theorem dX7_hour_82 : decode cX7_hour 82 = .ok (.iload_n 2, 1) := by decide +kernel
theorem dX7_hour_83 : decode cX7_hour 83 = .ok (.aload_n 0, 1) := by decide +kernel
theorem dX7_hour_84 : decode cX7_hour 84 = .ok (.getfield 26, 3) := by decide +kernel
theorem dX7_hour_87 : decode cX7_hour 87 = .ok (.iload_n 1, 1) := by decide +kernel
theorem dX7_hour_88 : decode cX7_hour 88 = .ok (.iaload, 1) := by decide +kernel
theorem dX7_hour_89 : decode cX7_hour 89 = .ok (.if_icmp .le 48, 3) := by decide +kernel
theorem dX7_hour_92 : decode cX7_hour 92 = .ok (.aload_n 0, 1) := by decide +kernel
theorem dX7_hour_93 : decode cX7_hour 93 = .ok (.getfield 68, 3) := by decide +kernel
theorem dX7_hour_96 : decode cX7_hour 96 = .ok (.iload_n 1, 1) := by decide +kernel
theorem dX7_hour_97 : decode cX7_hour 97 = .ok (.iaload, 1) := by decide +kernel
theorem dX7_hour_98 : decode cX7_hour 98 = .ok (.iconst 1, 1) := by decide +kernel
theorem dX7_hour_99 : decode cX7_hour 99 = .ok (.if_icmp .ne 25, 3) := by decide +kernel
theorem dX7_hour_102 : decode cX7_hour 102 = .ok (.aload_n 0, 1) := by decide +kernel
theorem dX7_hour_103 : decode cX7_hour 103 = .ok (.getfield 74, 3) := by decide +kernel
theorem dX7_hour_106 : decode cX7_hour 106 = .ok (.iload_n 1, 1) := by decide +kernel
theorem dX7_hour_107 : decode cX7_hour 107 = .ok (.dup2, 1) := by decide +kernel
theorem dX7_hour_108 : decode cX7_hour 108 = .ok (.iaload, 1) := by decide +kernel
theorem dX7_hour_109 : decode cX7_hour 109 = .ok (.iconst 1, 1) := by decide +kernel
theorem dX7_hour_110 : decode cX7_hour 110 = .ok (.iadd, 1) := by decide +kernel
theorem dX7_hour_111 : decode cX7_hour 111 = .ok (.iastore, 1) := by decide +kernel
theorem dX7_hour_112 : decode cX7_hour 112 = .ok (.aload_n 0, 1) := by decide +kernel
theorem dX7_hour_113 : decode cX7_hour 113 = .ok (.iload_n 1, 1) := by decide +kernel
theorem dX7_hour_114 : decode cX7_hour 114 = .ok (.invokevirtual 120, 3) := by decide +kernel
theorem dX7_hour_117 : decode cX7_hour 117 = .ok (.aload_n 0, 1) := by decide +kernel
theorem dX7_hour_118 : decode cX7_hour 118 = .ok (.getfield 68, 3) := by decide +kernel
theorem dX7_hour_121 : decode cX7_hour 121 = .ok (.iload_n 1, 1) := by decide +kernel
theorem dX7_hour_122 : decode cX7_hour 122 = .ok (.iconst 0, 1) := by decide +kernel
theorem dX7_hour_123 : decode cX7_hour 123 = .ok (.iastore, 1) := by decide +kernel
theorem dX7_hour_124 : decode cX7_hour 124 = .ok (.aload_n 0, 1) := by decide +kernel
theorem dX7_hour_125 : decode cX7_hour 125 = .ok (.getfield 59, 3) := by decide +kernel
theorem dX7_hour_128 : decode cX7_hour 128 = .ok (.iload_n 1, 1) := by decide +kernel
theorem dX7_hour_129 : decode cX7_hour 129 = .ok (.dup2, 1) := by decide +kernel
theorem dX7_hour_130 : decode cX7_hour 130 = .ok (.iaload, 1) := by decide +kernel
theorem dX7_hour_131 : decode cX7_hour 131 = .ok (.iconst 1, 1) := by decide +kernel
theorem dX7_hour_132 : decode cX7_hour 132 = .ok (.iadd, 1) := by decide +kernel
theorem dX7_hour_133 : decode cX7_hour 133 = .ok (.iastore, 1) := by decide +kernel
theorem dX7_hour_134 : decode cX7_hour 134 = .ok (.goto 9, 3) := by decide +kernel
theorem dX7_hour_137 : decode cX7_hour 137 = .ok (.aload_n 0, 1) := by decide +kernel
theorem dX7_hour_138 : decode cX7_hour 138 = .ok (.iload_n 1, 1) := by decide +kernel
theorem dX7_hour_139 : decode cX7_hour 139 = .ok (.iload_n 2, 1) := by decide +kernel
theorem dX7_hour_140 : decode cX7_hour 140 = .ok (.invokevirtual 134, 3) := by decide +kernel
theorem dX7_hour_143 : decode cX7_hour 143 = .ok (.aload_n 0, 1) := by decide +kernel
theorem dX7_hour_144 : decode cX7_hour 144 = .ok (.getfield 41, 3) := by decide +kernel
theorem dX7_hour_147 : decode cX7_hour 147 = .ok (.iload_n 1, 1) := by decide +kernel
theorem dX7_hour_148 : decode cX7_hour 148 = .ok (.iaload, 1) := by decide +kernel
theorem dX7_hour_149 : decode cX7_hour 149 = .ok (.aload_n 0, 1) := by decide +kernel
theorem dX7_hour_150 : decode cX7_hour 150 = .ok (.getfield 17, 3) := by decide +kernel
theorem dX7_hour_153 : decode cX7_hour 153 = .ok (.iload_n 1, 1) := by decide +kernel
theorem dX7_hour_154 : decode cX7_hour 154 = .ok (.iaload, 1) := by decide +kernel
theorem dX7_hour_155 : decode cX7_hour 155 = .ok (.if_icmp .ge 4, 3) := by decide +kernel
theorem dX7_hour_158 : decode cX7_hour 158 = .ok (.return_, 1) := by decide +kernel
theorem dX7_hour_159 : decode cX7_hour 159 = .ok (.aload_n 0, 1) := by decide +kernel
theorem dX7_hour_160 : decode cX7_hour 160 = .ok (.getfield 71, 3) := by decide +kernel
theorem dX7_hour_163 : decode cX7_hour 163 = .ok (.iload_n 1, 1) := by decide +kernel
theorem dX7_hour_164 : decode cX7_hour 164 = .ok (.aload_n 0, 1) := by decide +kernel
theorem dX7_hour_165 : decode cX7_hour 165 = .ok (.getfield 116, 3) := by decide +kernel
theorem dX7_hour_168 : decode cX7_hour 168 = .ok (.iconst 1, 1) := by decide +kernel
theorem dX7_hour_169 : decode cX7_hour 169 = .ok (.iadd, 1) := by decide +kernel
theorem dX7_hour_170 : decode cX7_hour 170 = .ok (.iastore, 1) := by decide +kernel
theorem dX7_hour_171 : decode cX7_hour 171 = .ok (.aload_n 0, 1) := by decide +kernel
theorem dX7_hour_172 : decode cX7_hour 172 = .ok (.getfield 68, 3) := by decide +kernel
theorem dX7_hour_175 : decode cX7_hour 175 = .ok (.iload_n 1, 1) := by decide +kernel
theorem dX7_hour_176 : decode cX7_hour 176 = .ok (.iconst 0, 1) := by decide +kernel
theorem dX7_hour_177 : decode cX7_hour 177 = .ok (.iastore, 1) := by decide +kernel
theorem dX7_hour_178 : decode cX7_hour 178 = .ok (.return_, 1) := by decide +kernel
set_option maxRecDepth 20000 in
theorem ggX7_go_X7_in : GoodIn wsX7_go wsX7_in := goodIn_r _ [7] (by decide +kernel) (by decide +kernel)
set_option maxRecDepth 20000 in
theorem gX7_go_X7_in : GoodIn wsX7_go (va_wsS RX7 112 yX7_in wsX7_in) := goodIn_app (goodIn_of _ (by decide +kernel)) ggX7_go_X7_in
set_option maxRecDepth 20000 in
theorem ggX7_go_X7_hour : GoodIn wsX7_go wsX7_hour := goodIn_r _ [11, 12, 13, 1, 14, 15, 16, 17, 18, 19, 20, 21, 3, 22, 23, 24, 6, 25, 26, 27, 28, 29, 30, 31, 32, 33, 34, 35, 36, 37, 38, 39, 40, 41, 42, 43, 44, 45, 46, 47, 48, 49, 50, 51, 52, 53, 54, 55, 56, 57, 58, 59, 60, 61, 62, 63, 64, 65, 66, 67, 68, 69, 70, 71, 72, 73, 74, 75, 76, 77, 78, 79, 80, 81, 82, 83, 84, 85, 86, 87, 88, 89, 90] (by decide +kernel) (by decide +kernel)
set_option maxRecDepth 20000 in
theorem gX7_go_X7_hour : GoodIn wsX7_go (wsV RX7 138 RX7 yX7_hour wsX7_hour) := goodIn_app (goodIn_of _ (by decide +kernel)) ggX7_go_X7_hour
theorem dX7_go_0 : decode cX7_go 0 = .ok (.iload_n 1, 1) := by decide +kernel
theorem dX7_go_1 : decode cX7_go 1 = .ok (.iconst 0, 1) := by decide +kernel
theorem dX7_go_2 : decode cX7_go 2 = .ok (.sipush 200, 3) := by decide +kernel
theorem dX7_go_5 : decode cX7_go 5 = .ok (.invokestatic 112, 3) := by decide +kernel
theorem dX7_go_8 : decode cX7_go 8 = .ok (.ifCond .ne 5, 3) := by decide +kernel
theorem dX7_go_11 : decode cX7_go 11 = .ok (.iconst (-1), 1) := by decide +kernel
theorem dX7_go_12 : decode cX7_go 12 = .ok (.ireturn, 1) := by decide +kernel
theorem dX7_go_13 : decode cX7_go 13 = .ok (.iconst 0, 1) := by decide +kernel
theorem dX7_go_14 : decode cX7_go 14 = .ok (.istore_n 2, 1) := by decide +kernel
theorem dX7_go_15 : decode cX7_go 15 = .ok (.iload_n 2, 1) := by decide +kernel
theorem dX7_go_16 : decode cX7_go 16 = .ok (.iload_n 1, 1) := by decide +kernel
theorem dX7_go_17 : decode cX7_go 17 = .ok (.if_icmp .ge 60, 3) := by decide +kernel
theorem dX7_go_20 : decode cX7_go 20 = .ok (.aload_n 0, 1) := by decide +kernel
theorem dX7_go_21 : decode cX7_go 21 = .ok (.getfield 116, 3) := by decide +kernel
theorem dX7_go_24 : decode cX7_go 24 = .ok (.sipush 200, 3) := by decide +kernel
theorem dX7_go_27 : decode cX7_go 27 = .ok (.if_icmp .ge 50, 3) := by decide +kernel
theorem dX7_go_30 : decode cX7_go 30 = .ok (.iconst 0, 1) := by decide +kernel
theorem dX7_go_31 : decode cX7_go 31 = .ok (.istore_n 3, 1) := by decide +kernel
theorem dX7_go_32 : decode cX7_go 32 = .ok (.iload_n 3, 1) := by decide +kernel
theorem dX7_go_33 : decode cX7_go 33 = .ok (.aload_n 0, 1) := by decide +kernel
theorem dX7_go_34 : decode cX7_go 34 = .ok (.getfield 109, 3) := by decide +kernel
theorem dX7_go_37 : decode cX7_go 37 = .ok (.if_icmp .ge 24, 3) := by decide +kernel
theorem dX7_go_40 : decode cX7_go 40 = .ok (.aload_n 0, 1) := by decide +kernel
theorem dX7_go_41 : decode cX7_go 41 = .ok (.getfield 71, 3) := by decide +kernel
theorem dX7_go_44 : decode cX7_go 44 = .ok (.iload_n 3, 1) := by decide +kernel
theorem dX7_go_45 : decode cX7_go 45 = .ok (.iaload, 1) := by decide +kernel
theorem dX7_go_46 : decode cX7_go 46 = .ok (.iconst (-1), 1) := by decide +kernel
theorem dX7_go_47 : decode cX7_go 47 = .ok (.if_icmp .ne 8, 3) := by decide +kernel
theorem dX7_go_50 : decode cX7_go 50 = .ok (.aload_n 0, 1) := by decide +kernel
theorem dX7_go_51 : decode cX7_go 51 = .ok (.iload_n 3, 1) := by decide +kernel
theorem dX7_go_52 : decode cX7_go 52 = .ok (.invokevirtual 138, 3) := by decide +kernel
theorem dX7_go_55 : decode cX7_go 55 = .ok (.iinc 3 1, 3) := by decide +kernel
theorem dX7_go_58 : decode cX7_go 58 = .ok (.goto (-26), 3) := by decide +kernel
theorem dX7_go_61 : decode cX7_go 61 = .ok (.aload_n 0, 1) := by decide +kernel
theorem dX7_go_62 : decode cX7_go 62 = .ok (.dup, 1) := by decide +kernel
theorem dX7_go_63 : decode cX7_go 63 = .ok (.getfield 116, 3) := by decide +kernel
theorem dX7_go_66 : decode cX7_go 66 = .ok (.iconst 1, 1) := by decide +kernel
theorem dX7_go_67 : decode cX7_go 67 = .ok (.iadd, 1) := by decide +kernel
theorem dX7_go_68 : decode cX7_go 68 = .ok (.putfield 116, 3) := by decide +kernel
theorem dX7_go_71 : decode cX7_go 71 = .ok (.iinc 2 1, 3) := by decide +kernel
theorem dX7_go_74 : decode cX7_go 74 = .ok (.goto (-59), 3) := by decide +kernel
theorem dX7_go_77 : decode cX7_go 77 = .ok (.aload_n 0, 1) := by decide +kernel
theorem dX7_go_78 : decode cX7_go 78 = .ok (.getfield 116, 3) := by decide +kernel
theorem dX7_go_81 : decode cX7_go 81 = .ok (.ireturn, 1) := by decide +kernel
set_option maxRecDepth 20000 in
theorem ggX7_told_X7_isJob : GoodIn wsX7_told wsX7_isJob := goodIn_r _ [17, 18, 19, 20, 16, 21, 28, 29, 30, 31, 32, 33, 34, 35, 36, 37, 38, 39, 40, 41, 42, 43, 44, 45, 46, 47, 48, 49, 50, 51, 52, 53, 54, 55, 56, 57, 58, 59, 60, 61, 62] (by decide +kernel) (by decide +kernel)
set_option maxRecDepth 20000 in
theorem gX7_told_X7_isJob : GoodIn wsX7_told (wsV RX7 141 RX7 yX7_isJob wsX7_isJob) := goodIn_app (goodIn_of _ (by decide +kernel)) ggX7_told_X7_isJob
set_option maxRecDepth 20000 in
theorem ggX7_told_X7_need : GoodIn wsX7_told wsX7_need := goodIn_r _ [25, 1, 26, 27, 28, 29, 30, 31, 32, 33, 34, 35, 36, 37, 38, 39, 40, 41, 42, 43, 44, 45, 46, 47, 48, 49, 50, 51, 52, 53, 54, 55, 56, 57, 58, 59, 60, 61, 62] (by decide +kernel) (by decide +kernel)
set_option maxRecDepth 20000 in
theorem gX7_told_X7_need : GoodIn wsX7_told (wsV RX7 127 RX7 yX7_need wsX7_need) := goodIn_app (goodIn_of _ (by decide +kernel)) ggX7_told_X7_need
theorem dX7_told_0 : decode cX7_told 0 = .ok (.aload_n 0, 1) := by decide +kernel
theorem dX7_told_1 : decode cX7_told 1 = .ok (.iload_n 1, 1) := by decide +kernel
theorem dX7_told_2 : decode cX7_told 2 = .ok (.invokevirtual 141, 3) := by decide +kernel
theorem dX7_told_5 : decode cX7_told 5 = .ok (.ifCond .ne 5, 3) := by decide +kernel
theorem dX7_told_8 : decode cX7_told 8 = .ok (.iconst (-1), 1) := by decide +kernel
theorem dX7_told_9 : decode cX7_told 9 = .ok (.ireturn, 1) := by decide +kernel
theorem dX7_told_10 : decode cX7_told 10 = .ok (.iload_n 2, 1) := by decide +kernel
theorem dX7_told_11 : decode cX7_told 11 = .ok (.tableswitch 155 0 12 #[65, 72, 79, 86, 93, 100, 107, 114, 121, 128, 135, 142, 148], 65) := by decide +kernel
theorem dX7_told_76 : decode cX7_told 76 = .ok (.aload_n 0, 1) := by decide +kernel
theorem dX7_told_77 : decode cX7_told 77 = .ok (.getfield 41, 3) := by decide +kernel
theorem dX7_told_80 : decode cX7_told 80 = .ok (.iload_n 1, 1) := by decide +kernel
theorem dX7_told_81 : decode cX7_told 81 = .ok (.iaload, 1) := by decide +kernel
theorem dX7_told_82 : decode cX7_told 82 = .ok (.ireturn, 1) := by decide +kernel
theorem dX7_told_83 : decode cX7_told 83 = .ok (.aload_n 0, 1) := by decide +kernel
theorem dX7_told_84 : decode cX7_told 84 = .ok (.getfield 44, 3) := by decide +kernel
theorem dX7_told_87 : decode cX7_told 87 = .ok (.iload_n 1, 1) := by decide +kernel
theorem dX7_told_88 : decode cX7_told 88 = .ok (.iaload, 1) := by decide +kernel
theorem dX7_told_89 : decode cX7_told 89 = .ok (.ireturn, 1) := by decide +kernel
theorem dX7_told_90 : decode cX7_told 90 = .ok (.aload_n 0, 1) := by decide +kernel
theorem dX7_told_91 : decode cX7_told 91 = .ok (.getfield 47, 3) := by decide +kernel
theorem dX7_told_94 : decode cX7_told 94 = .ok (.iload_n 1, 1) := by decide +kernel
theorem dX7_told_95 : decode cX7_told 95 = .ok (.iaload, 1) := by decide +kernel
theorem dX7_told_96 : decode cX7_told 96 = .ok (.ireturn, 1) := by decide +kernel
theorem dX7_told_97 : decode cX7_told 97 = .ok (.aload_n 0, 1) := by decide +kernel
theorem dX7_told_98 : decode cX7_told 98 = .ok (.getfield 50, 3) := by decide +kernel
theorem dX7_told_101 : decode cX7_told 101 = .ok (.iload_n 1, 1) := by decide +kernel
theorem dX7_told_102 : decode cX7_told 102 = .ok (.iaload, 1) := by decide +kernel
theorem dX7_told_103 : decode cX7_told 103 = .ok (.ireturn, 1) := by decide +kernel
theorem dX7_told_104 : decode cX7_told 104 = .ok (.aload_n 0, 1) := by decide +kernel
theorem dX7_told_105 : decode cX7_told 105 = .ok (.getfield 53, 3) := by decide +kernel
theorem dX7_told_108 : decode cX7_told 108 = .ok (.iload_n 1, 1) := by decide +kernel
theorem dX7_told_109 : decode cX7_told 109 = .ok (.iaload, 1) := by decide +kernel
theorem dX7_told_110 : decode cX7_told 110 = .ok (.ireturn, 1) := by decide +kernel
theorem dX7_told_111 : decode cX7_told 111 = .ok (.aload_n 0, 1) := by decide +kernel
theorem dX7_told_112 : decode cX7_told 112 = .ok (.getfield 56, 3) := by decide +kernel
theorem dX7_told_115 : decode cX7_told 115 = .ok (.iload_n 1, 1) := by decide +kernel
theorem dX7_told_116 : decode cX7_told 116 = .ok (.iaload, 1) := by decide +kernel
theorem dX7_told_117 : decode cX7_told 117 = .ok (.ireturn, 1) := by decide +kernel
theorem dX7_told_118 : decode cX7_told 118 = .ok (.aload_n 0, 1) := by decide +kernel
theorem dX7_told_119 : decode cX7_told 119 = .ok (.getfield 59, 3) := by decide +kernel
theorem dX7_told_122 : decode cX7_told 122 = .ok (.iload_n 1, 1) := by decide +kernel
theorem dX7_told_123 : decode cX7_told 123 = .ok (.iaload, 1) := by decide +kernel
theorem dX7_told_124 : decode cX7_told 124 = .ok (.ireturn, 1) := by decide +kernel
theorem dX7_told_125 : decode cX7_told 125 = .ok (.aload_n 0, 1) := by decide +kernel
theorem dX7_told_126 : decode cX7_told 126 = .ok (.getfield 62, 3) := by decide +kernel
theorem dX7_told_129 : decode cX7_told 129 = .ok (.iload_n 1, 1) := by decide +kernel
theorem dX7_told_130 : decode cX7_told 130 = .ok (.iaload, 1) := by decide +kernel
theorem dX7_told_131 : decode cX7_told 131 = .ok (.ireturn, 1) := by decide +kernel
theorem dX7_told_132 : decode cX7_told 132 = .ok (.aload_n 0, 1) := by decide +kernel
theorem dX7_told_133 : decode cX7_told 133 = .ok (.getfield 65, 3) := by decide +kernel
theorem dX7_told_136 : decode cX7_told 136 = .ok (.iload_n 1, 1) := by decide +kernel
theorem dX7_told_137 : decode cX7_told 137 = .ok (.iaload, 1) := by decide +kernel
theorem dX7_told_138 : decode cX7_told 138 = .ok (.ireturn, 1) := by decide +kernel
theorem dX7_told_139 : decode cX7_told 139 = .ok (.aload_n 0, 1) := by decide +kernel
theorem dX7_told_140 : decode cX7_told 140 = .ok (.getfield 68, 3) := by decide +kernel
theorem dX7_told_143 : decode cX7_told 143 = .ok (.iload_n 1, 1) := by decide +kernel
theorem dX7_told_144 : decode cX7_told 144 = .ok (.iaload, 1) := by decide +kernel
theorem dX7_told_145 : decode cX7_told 145 = .ok (.ireturn, 1) := by decide +kernel
theorem dX7_told_146 : decode cX7_told 146 = .ok (.aload_n 0, 1) := by decide +kernel
theorem dX7_told_147 : decode cX7_told 147 = .ok (.getfield 71, 3) := by decide +kernel
theorem dX7_told_150 : decode cX7_told 150 = .ok (.iload_n 1, 1) := by decide +kernel
theorem dX7_told_151 : decode cX7_told 151 = .ok (.iaload, 1) := by decide +kernel
theorem dX7_told_152 : decode cX7_told 152 = .ok (.ireturn, 1) := by decide +kernel
theorem dX7_told_153 : decode cX7_told 153 = .ok (.aload_n 0, 1) := by decide +kernel
theorem dX7_told_154 : decode cX7_told 154 = .ok (.iload_n 1, 1) := by decide +kernel
theorem dX7_told_155 : decode cX7_told 155 = .ok (.invokevirtual 127, 3) := by decide +kernel
theorem dX7_told_158 : decode cX7_told 158 = .ok (.ireturn, 1) := by decide +kernel
theorem dX7_told_159 : decode cX7_told 159 = .ok (.aload_n 0, 1) := by decide +kernel
theorem dX7_told_160 : decode cX7_told 160 = .ok (.getfield 74, 3) := by decide +kernel
theorem dX7_told_163 : decode cX7_told 163 = .ok (.iload_n 1, 1) := by decide +kernel
theorem dX7_told_164 : decode cX7_told 164 = .ok (.iaload, 1) := by decide +kernel
theorem dX7_told_165 : decode cX7_told 165 = .ok (.ireturn, 1) := by decide +kernel
theorem dX7_told_166 : decode cX7_told 166 = .ok (.iconst (-1), 1) := by decide +kernel
theorem dX7_told_167 : decode cX7_told 167 = .ok (.ireturn, 1) := by decide +kernel
set_option maxRecDepth 20000 in
theorem ggX7_isTry_X7_in : GoodIn wsX7_isTry wsX7_in := goodIn_r _ [4] (by decide +kernel) (by decide +kernel)
set_option maxRecDepth 20000 in
theorem gX7_isTry_X7_in : GoodIn wsX7_isTry (va_wsS RX7 112 yX7_in wsX7_in) := goodIn_app (goodIn_of _ (by decide +kernel)) ggX7_isTry_X7_in
theorem dX7_isTry_0 : decode cX7_isTry 0 = .ok (.iload_n 0, 1) := by decide +kernel
theorem dX7_isTry_1 : decode cX7_isTry 1 = .ok (.iconst 1, 1) := by decide +kernel
theorem dX7_isTry_2 : decode cX7_isTry 2 = .ok (.bipush 10, 2) := by decide +kernel
theorem dX7_isTry_4 : decode cX7_isTry 4 = .ok (.invokestatic 112, 3) := by decide +kernel
theorem dX7_isTry_7 : decode cX7_isTry 7 = .ok (.ifCond .eq 26, 3) := by decide +kernel
theorem dX7_isTry_10 : decode cX7_isTry 10 = .ok (.iload_n 1, 1) := by decide +kernel
theorem dX7_isTry_11 : decode cX7_isTry 11 = .ok (.iconst 0, 1) := by decide +kernel
theorem dX7_isTry_12 : decode cX7_isTry 12 = .ok (.iconst 2, 1) := by decide +kernel
theorem dX7_isTry_13 : decode cX7_isTry 13 = .ok (.invokestatic 112, 3) := by decide +kernel
theorem dX7_isTry_16 : decode cX7_isTry 16 = .ok (.ifCond .eq 17, 3) := by decide +kernel
theorem dX7_isTry_19 : decode cX7_isTry 19 = .ok (.iload_n 2, 1) := by decide +kernel
theorem dX7_isTry_20 : decode cX7_isTry 20 = .ok (.iconst 2, 1) := by decide +kernel
theorem dX7_isTry_21 : decode cX7_isTry 21 = .ok (.bipush 10, 2) := by decide +kernel
theorem dX7_isTry_23 : decode cX7_isTry 23 = .ok (.invokestatic 112, 3) := by decide +kernel
theorem dX7_isTry_26 : decode cX7_isTry 26 = .ok (.ifCond .eq 7, 3) := by decide +kernel
theorem dX7_isTry_29 : decode cX7_isTry 29 = .ok (.iconst 1, 1) := by decide +kernel
theorem dX7_isTry_30 : decode cX7_isTry 30 = .ok (.goto 4, 3) := by decide +kernel
theorem dX7_isTry_33 : decode cX7_isTry 33 = .ok (.iconst 0, 1) := by decide +kernel
theorem dX7_isTry_34 : decode cX7_isTry 34 = .ok (.ireturn, 1) := by decide +kernel
theorem dX7_power_0 : decode cX7_power 0 = .ok (.lconst 1, 1) := by decide +kernel
theorem dX7_power_1 : decode cX7_power 1 = .ok (.lstore_n 2, 1) := by decide +kernel
theorem dX7_power_2 : decode cX7_power 2 = .ok (.iconst 0, 1) := by decide +kernel
theorem dX7_power_3 : decode cX7_power 3 = .ok (.istore 4, 2) := by decide +kernel
theorem dX7_power_5 : decode cX7_power 5 = .ok (.iload 4, 2) := by decide +kernel
theorem dX7_power_7 : decode cX7_power 7 = .ok (.iload_n 1, 1) := by decide +kernel
theorem dX7_power_8 : decode cX7_power 8 = .ok (.if_icmp .ge 14, 3) := by decide +kernel
theorem dX7_power_11 : decode cX7_power 11 = .ok (.lload_n 2, 1) := by decide +kernel
theorem dX7_power_12 : decode cX7_power 12 = .ok (.iload_n 0, 1) := by decide +kernel
theorem dX7_power_13 : decode cX7_power 13 = .ok (.i2l, 1) := by decide +kernel
theorem dX7_power_14 : decode cX7_power 14 = .ok (.lmul, 1) := by decide +kernel
theorem dX7_power_15 : decode cX7_power 15 = .ok (.lstore_n 2, 1) := by decide +kernel
theorem dX7_power_16 : decode cX7_power 16 = .ok (.iinc 4 1, 3) := by decide +kernel
theorem dX7_power_19 : decode cX7_power 19 = .ok (.goto (-14), 3) := by decide +kernel
theorem dX7_power_22 : decode cX7_power 22 = .ok (.lload_n 2, 1) := by decide +kernel
theorem dX7_power_23 : decode cX7_power 23 = .ok (.lreturn, 1) := by decide +kernel
set_option maxRecDepth 20000 in
theorem ggX7_tries_X7_power : GoodIn wsX7_tries wsX7_power := goodIn_r _ [4] (by decide +kernel) (by decide +kernel)
set_option maxRecDepth 20000 in
theorem gX7_tries_X7_power : GoodIn wsX7_tries (va_wsS RX7 145 yX7_power wsX7_power) := goodIn_app (goodIn_of _ (by decide +kernel)) ggX7_tries_X7_power
theorem dX7_tries_0 : decode cX7_tries 0 = .ok (.iload_n 1, 1) := by decide +kernel
theorem dX7_tries_1 : decode cX7_tries 1 = .ok (.i2l, 1) := by decide +kernel
theorem dX7_tries_2 : decode cX7_tries 2 = .ok (.iload_n 1, 1) := by decide +kernel
theorem dX7_tries_3 : decode cX7_tries 3 = .ok (.iload_n 0, 1) := by decide +kernel
theorem dX7_tries_4 : decode cX7_tries 4 = .ok (.invokestatic 145, 3) := by decide +kernel
theorem dX7_tries_7 : decode cX7_tries 7 = .ok (.iload_n 1, 1) := by decide +kernel
theorem dX7_tries_8 : decode cX7_tries 8 = .ok (.iconst 1, 1) := by decide +kernel
theorem dX7_tries_9 : decode cX7_tries 9 = .ok (.isub, 1) := by decide +kernel
theorem dX7_tries_10 : decode cX7_tries 10 = .ok (.iload_n 0, 1) := by decide +kernel
theorem dX7_tries_11 : decode cX7_tries 11 = .ok (.invokestatic 145, 3) := by decide +kernel
theorem dX7_tries_14 : decode cX7_tries 14 = .ok (.lsub, 1) := by decide +kernel
theorem dX7_tries_15 : decode cX7_tries 15 = .ok (.lmul, 1) := by decide +kernel
theorem dX7_tries_16 : decode cX7_tries 16 = .ok (.iload_n 1, 1) := by decide +kernel
theorem dX7_tries_17 : decode cX7_tries 17 = .ok (.iconst 1, 1) := by decide +kernel
theorem dX7_tries_18 : decode cX7_tries 18 = .ok (.isub, 1) := by decide +kernel
theorem dX7_tries_19 : decode cX7_tries 19 = .ok (.iload_n 2, 1) := by decide +kernel
theorem dX7_tries_20 : decode cX7_tries 20 = .ok (.iload_n 0, 1) := by decide +kernel
theorem dX7_tries_21 : decode cX7_tries 21 = .ok (.isub, 1) := by decide +kernel
theorem dX7_tries_22 : decode cX7_tries 22 = .ok (.invokestatic 145, 3) := by decide +kernel
theorem dX7_tries_25 : decode cX7_tries 25 = .ok (.lmul, 1) := by decide +kernel
theorem dX7_tries_26 : decode cX7_tries 26 = .ok (.lreturn, 1) := by decide +kernel
set_option maxRecDepth 20000 in
theorem ggX7_pieces_X7_tries : GoodIn wsX7_pieces wsX7_tries := goodIn_r _ [4, 5, 6, 3, 7] (by decide +kernel) (by decide +kernel)
set_option maxRecDepth 20000 in
theorem gX7_pieces_X7_tries : GoodIn wsX7_pieces (va_wsS RX7 149 yX7_tries wsX7_tries) := goodIn_app (goodIn_of _ (by decide +kernel)) ggX7_pieces_X7_tries
theorem dX7_pieces_0 : decode cX7_pieces 0 = .ok (.iload_n 0, 1) := by decide +kernel
theorem dX7_pieces_1 : decode cX7_pieces 1 = .ok (.iload_n 1, 1) := by decide +kernel
theorem dX7_pieces_2 : decode cX7_pieces 2 = .ok (.iadd, 1) := by decide +kernel
theorem dX7_pieces_3 : decode cX7_pieces 3 = .ok (.istore 4, 2) := by decide +kernel
theorem dX7_pieces_5 : decode cX7_pieces 5 = .ok (.lconst 0, 1) := by decide +kernel
theorem dX7_pieces_6 : decode cX7_pieces 6 = .ok (.lstore 5, 2) := by decide +kernel
theorem dX7_pieces_8 : decode cX7_pieces 8 = .ok (.iload_n 0, 1) := by decide +kernel
theorem dX7_pieces_9 : decode cX7_pieces 9 = .ok (.istore 7, 2) := by decide +kernel
theorem dX7_pieces_11 : decode cX7_pieces 11 = .ok (.iload 7, 2) := by decide +kernel
theorem dX7_pieces_13 : decode cX7_pieces 13 = .ok (.ifCond .le 37, 3) := by decide +kernel
theorem dX7_pieces_16 : decode cX7_pieces 16 = .ok (.lload 5, 2) := by decide +kernel
theorem dX7_pieces_18 : decode cX7_pieces 18 = .ok (.iload 7, 2) := by decide +kernel
theorem dX7_pieces_20 : decode cX7_pieces 20 = .ok (.iload_n 3, 1) := by decide +kernel
theorem dX7_pieces_21 : decode cX7_pieces 21 = .ok (.if_icmp .ge 8, 3) := by decide +kernel
theorem dX7_pieces_24 : decode cX7_pieces 24 = .ok (.iload 7, 2) := by decide +kernel
theorem dX7_pieces_26 : decode cX7_pieces 26 = .ok (.goto 4, 3) := by decide +kernel
theorem dX7_pieces_29 : decode cX7_pieces 29 = .ok (.iload_n 3, 1) := by decide +kernel
theorem dX7_pieces_30 : decode cX7_pieces 30 = .ok (.iload_n 1, 1) := by decide +kernel
theorem dX7_pieces_31 : decode cX7_pieces 31 = .ok (.iadd, 1) := by decide +kernel
theorem dX7_pieces_32 : decode cX7_pieces 32 = .ok (.iload_n 2, 1) := by decide +kernel
theorem dX7_pieces_33 : decode cX7_pieces 33 = .ok (.iload 4, 2) := by decide +kernel
theorem dX7_pieces_35 : decode cX7_pieces 35 = .ok (.invokestatic 149, 3) := by decide +kernel
theorem dX7_pieces_38 : decode cX7_pieces 38 = .ok (.ladd, 1) := by decide +kernel
theorem dX7_pieces_39 : decode cX7_pieces 39 = .ok (.lstore 5, 2) := by decide +kernel
theorem dX7_pieces_41 : decode cX7_pieces 41 = .ok (.iload 7, 2) := by decide +kernel
theorem dX7_pieces_43 : decode cX7_pieces 43 = .ok (.iload_n 3, 1) := by decide +kernel
theorem dX7_pieces_44 : decode cX7_pieces 44 = .ok (.isub, 1) := by decide +kernel
theorem dX7_pieces_45 : decode cX7_pieces 45 = .ok (.istore 7, 2) := by decide +kernel
theorem dX7_pieces_47 : decode cX7_pieces 47 = .ok (.goto (-36), 3) := by decide +kernel
theorem dX7_pieces_50 : decode cX7_pieces 50 = .ok (.lload 5, 2) := by decide +kernel
theorem dX7_pieces_52 : decode cX7_pieces 52 = .ok (.lreturn, 1) := by decide +kernel
set_option maxRecDepth 20000 in
theorem ggX7_span_X7_isTry : GoodIn wsX7_span wsX7_isTry := goodIn_r _ [4, 5, 6, 3, 7] (by decide +kernel) (by decide +kernel)
set_option maxRecDepth 20000 in
theorem gX7_span_X7_isTry : GoodIn wsX7_span (va_wsS RX7 153 yX7_isTry wsX7_isTry) := goodIn_app (goodIn_of _ (by decide +kernel)) ggX7_span_X7_isTry
set_option maxRecDepth 20000 in
theorem ggX7_span_X7_pieces : GoodIn wsX7_span wsX7_pieces := goodIn_r _ [10, 11, 12, 3, 13, 14, 15, 16] (by decide +kernel) (by decide +kernel)
set_option maxRecDepth 20000 in
theorem gX7_span_X7_pieces : GoodIn wsX7_span (va_wsS RX7 156 yX7_pieces wsX7_pieces) := goodIn_app (goodIn_of _ (by decide +kernel)) ggX7_span_X7_pieces
theorem dX7_span_0 : decode cX7_span 0 = .ok (.iload_n 1, 1) := by decide +kernel
theorem dX7_span_1 : decode cX7_span 1 = .ok (.iload_n 2, 1) := by decide +kernel
theorem dX7_span_2 : decode cX7_span 2 = .ok (.iload_n 3, 1) := by decide +kernel
theorem dX7_span_3 : decode cX7_span 3 = .ok (.invokestatic 153, 3) := by decide +kernel
theorem dX7_span_6 : decode cX7_span 6 = .ok (.ifCond .ne 5, 3) := by decide +kernel
theorem dX7_span_9 : decode cX7_span 9 = .ok (.iconst (-1), 1) := by decide +kernel
theorem dX7_span_10 : decode cX7_span 10 = .ok (.ireturn, 1) := by decide +kernel
theorem dX7_span_11 : decode cX7_span 11 = .ok (.iconst 1, 1) := by decide +kernel
theorem dX7_span_12 : decode cX7_span 12 = .ok (.istore 4, 2) := by decide +kernel
theorem dX7_span_14 : decode cX7_span 14 = .ok (.iconst 2, 1) := by decide +kernel
theorem dX7_span_15 : decode cX7_span 15 = .ok (.istore 5, 2) := by decide +kernel
theorem dX7_span_17 : decode cX7_span 17 = .ok (.iload 5, 2) := by decide +kernel
theorem dX7_span_19 : decode cX7_span 19 = .ok (.iload_n 1, 1) := by decide +kernel
theorem dX7_span_20 : decode cX7_span 20 = .ok (.if_icmp .gt 33, 3) := by decide +kernel
theorem dX7_span_23 : decode cX7_span 23 = .ok (.iload_n 1, 1) := by decide +kernel
theorem dX7_span_24 : decode cX7_span 24 = .ok (.iload_n 2, 1) := by decide +kernel
theorem dX7_span_25 : decode cX7_span 25 = .ok (.iload_n 3, 1) := by decide +kernel
theorem dX7_span_26 : decode cX7_span 26 = .ok (.iload 5, 2) := by decide +kernel
theorem dX7_span_28 : decode cX7_span 28 = .ok (.invokestatic 156, 3) := by decide +kernel
theorem dX7_span_31 : decode cX7_span 31 = .ok (.iload_n 1, 1) := by decide +kernel
theorem dX7_span_32 : decode cX7_span 32 = .ok (.iload_n 2, 1) := by decide +kernel
theorem dX7_span_33 : decode cX7_span 33 = .ok (.iload_n 3, 1) := by decide +kernel
theorem dX7_span_34 : decode cX7_span 34 = .ok (.iload 4, 2) := by decide +kernel
theorem dX7_span_36 : decode cX7_span 36 = .ok (.invokestatic 156, 3) := by decide +kernel
theorem dX7_span_39 : decode cX7_span 39 = .ok (.lcmp, 1) := by decide +kernel
theorem dX7_span_40 : decode cX7_span 40 = .ok (.ifCond .ge 7, 3) := by decide +kernel
theorem dX7_span_43 : decode cX7_span 43 = .ok (.iload 5, 2) := by decide +kernel
theorem dX7_span_45 : decode cX7_span 45 = .ok (.istore 4, 2) := by decide +kernel
theorem dX7_span_47 : decode cX7_span 47 = .ok (.iinc 5 1, 3) := by decide +kernel
theorem dX7_span_50 : decode cX7_span 50 = .ok (.goto (-33), 3) := by decide +kernel
theorem dX7_span_53 : decode cX7_span 53 = .ok (.iload 4, 2) := by decide +kernel
theorem dX7_span_55 : decode cX7_span 55 = .ok (.ireturn, 1) := by decide +kernel
set_option maxRecDepth 20000 in
theorem ggX7_mean_X7_isTry : GoodIn wsX7_mean wsX7_isTry := goodIn_r _ [5, 6, 7, 4, 8] (by decide +kernel) (by decide +kernel)
set_option maxRecDepth 20000 in
theorem gX7_mean_X7_isTry : GoodIn wsX7_mean (va_wsS RX7 153 yX7_isTry wsX7_isTry) := goodIn_app (goodIn_of _ (by decide +kernel)) ggX7_mean_X7_isTry
set_option maxRecDepth 20000 in
theorem ggX7_mean_X7_in : GoodIn wsX7_mean wsX7_in := goodIn_r _ [8] (by decide +kernel) (by decide +kernel)
set_option maxRecDepth 20000 in
theorem gX7_mean_X7_in : GoodIn wsX7_mean (va_wsS RX7 112 yX7_in wsX7_in) := goodIn_app (goodIn_of _ (by decide +kernel)) ggX7_mean_X7_in
set_option maxRecDepth 20000 in
theorem ggX7_mean_X7_pieces : GoodIn wsX7_mean wsX7_pieces := goodIn_r _ [11, 12, 13, 4, 14, 15, 16, 17] (by decide +kernel) (by decide +kernel)
set_option maxRecDepth 20000 in
theorem gX7_mean_X7_pieces : GoodIn wsX7_mean (va_wsS RX7 156 yX7_pieces wsX7_pieces) := goodIn_app (goodIn_of _ (by decide +kernel)) ggX7_mean_X7_pieces
set_option maxRecDepth 20000 in
theorem ggX7_mean_X7_power : GoodIn wsX7_mean wsX7_power := goodIn_r _ [17] (by decide +kernel) (by decide +kernel)
set_option maxRecDepth 20000 in
theorem gX7_mean_X7_power : GoodIn wsX7_mean (va_wsS RX7 145 yX7_power wsX7_power) := goodIn_app (goodIn_of _ (by decide +kernel)) ggX7_mean_X7_power
theorem dX7_mean_0 : decode cX7_mean 0 = .ok (.iload_n 1, 1) := by decide +kernel
theorem dX7_mean_1 : decode cX7_mean 1 = .ok (.iload_n 2, 1) := by decide +kernel
theorem dX7_mean_2 : decode cX7_mean 2 = .ok (.iload_n 3, 1) := by decide +kernel
theorem dX7_mean_3 : decode cX7_mean 3 = .ok (.invokestatic 153, 3) := by decide +kernel
theorem dX7_mean_6 : decode cX7_mean 6 = .ok (.ifCond .eq 23, 3) := by decide +kernel
theorem dX7_mean_9 : decode cX7_mean 9 = .ok (.iload 4, 2) := by decide +kernel
theorem dX7_mean_11 : decode cX7_mean 11 = .ok (.iconst 1, 1) := by decide +kernel
theorem dX7_mean_12 : decode cX7_mean 12 = .ok (.iload_n 1, 1) := by decide +kernel
theorem dX7_mean_13 : decode cX7_mean 13 = .ok (.invokestatic 112, 3) := by decide +kernel
theorem dX7_mean_16 : decode cX7_mean 16 = .ok (.ifCond .eq 13, 3) := by decide +kernel
theorem dX7_mean_19 : decode cX7_mean 19 = .ok (.iload 5, 2) := by decide +kernel
theorem dX7_mean_21 : decode cX7_mean 21 = .ok (.iconst 0, 1) := by decide +kernel
theorem dX7_mean_22 : decode cX7_mean 22 = .ok (.iconst 1, 1) := by decide +kernel
theorem dX7_mean_23 : decode cX7_mean 23 = .ok (.invokestatic 112, 3) := by decide +kernel
theorem dX7_mean_26 : decode cX7_mean 26 = .ok (.ifCond .ne 7, 3) := by decide +kernel
theorem dX7_mean_29 : decode cX7_mean 29 = .ok (.ldc2_w 160, 3) := by decide +kernel
theorem dX7_mean_32 : decode cX7_mean 32 = .ok (.lreturn, 1) := by decide +kernel
theorem dX7_mean_33 : decode cX7_mean 33 = .ok (.iload_n 1, 1) := by decide +kernel
theorem dX7_mean_34 : decode cX7_mean 34 = .ok (.iload_n 2, 1) := by decide +kernel
theorem dX7_mean_35 : decode cX7_mean 35 = .ok (.iload_n 3, 1) := by decide +kernel
theorem dX7_mean_36 : decode cX7_mean 36 = .ok (.iload 4, 2) := by decide +kernel
theorem dX7_mean_38 : decode cX7_mean 38 = .ok (.invokestatic 156, 3) := by decide +kernel
theorem dX7_mean_41 : decode cX7_mean 41 = .ok (.lstore 6, 2) := by decide +kernel
theorem dX7_mean_43 : decode cX7_mean 43 = .ok (.iload_n 3, 1) := by decide +kernel
theorem dX7_mean_44 : decode cX7_mean 44 = .ok (.iconst 1, 1) := by decide +kernel
theorem dX7_mean_45 : decode cX7_mean 45 = .ok (.isub, 1) := by decide +kernel
theorem dX7_mean_46 : decode cX7_mean 46 = .ok (.iload_n 1, 1) := by decide +kernel
theorem dX7_mean_47 : decode cX7_mean 47 = .ok (.iload_n 2, 1) := by decide +kernel
theorem dX7_mean_48 : decode cX7_mean 48 = .ok (.iadd, 1) := by decide +kernel
theorem dX7_mean_49 : decode cX7_mean 49 = .ok (.invokestatic 145, 3) := by decide +kernel
theorem dX7_mean_52 : decode cX7_mean 52 = .ok (.lstore 8, 2) := by decide +kernel
theorem dX7_mean_54 : decode cX7_mean 54 = .ok (.lload 6, 2) := by decide +kernel
theorem dX7_mean_56 : decode cX7_mean 56 = .ok (.lstore 10, 2) := by decide +kernel
theorem dX7_mean_58 : decode cX7_mean 58 = .ok (.lload 8, 2) := by decide +kernel
theorem dX7_mean_60 : decode cX7_mean 60 = .ok (.lstore 12, 2) := by decide +kernel
theorem dX7_mean_62 : decode cX7_mean 62 = .ok (.lload 12, 2) := by decide +kernel
theorem dX7_mean_64 : decode cX7_mean 64 = .ok (.lconst 0, 1) := by decide +kernel
theorem dX7_mean_65 : decode cX7_mean 65 = .ok (.lcmp, 1) := by decide +kernel
theorem dX7_mean_66 : decode cX7_mean 66 = .ok (.ifCond .eq 21, 3) := by decide +kernel
theorem dX7_mean_69 : decode cX7_mean 69 = .ok (.lload 10, 2) := by decide +kernel
theorem dX7_mean_71 : decode cX7_mean 71 = .ok (.lload 12, 2) := by decide +kernel
theorem dX7_mean_73 : decode cX7_mean 73 = .ok (.lrem, 1) := by decide +kernel
theorem dX7_mean_74 : decode cX7_mean 74 = .ok (.lstore 14, 2) := by decide +kernel
theorem dX7_mean_76 : decode cX7_mean 76 = .ok (.lload 12, 2) := by decide +kernel
theorem dX7_mean_78 : decode cX7_mean 78 = .ok (.lstore 10, 2) := by decide +kernel
theorem dX7_mean_80 : decode cX7_mean 80 = .ok (.lload 14, 2) := by decide +kernel
theorem dX7_mean_82 : decode cX7_mean 82 = .ok (.lstore 12, 2) := by decide +kernel
theorem dX7_mean_84 : decode cX7_mean 84 = .ok (.goto (-22), 3) := by decide +kernel
theorem dX7_mean_87 : decode cX7_mean 87 = .ok (.iload 5, 2) := by decide +kernel
theorem dX7_mean_89 : decode cX7_mean 89 = .ok (.ifCond .ne 11, 3) := by decide +kernel
theorem dX7_mean_92 : decode cX7_mean 92 = .ok (.lload 6, 2) := by decide +kernel
theorem dX7_mean_94 : decode cX7_mean 94 = .ok (.lload 10, 2) := by decide +kernel
theorem dX7_mean_96 : decode cX7_mean 96 = .ok (.ldiv, 1) := by decide +kernel
theorem dX7_mean_97 : decode cX7_mean 97 = .ok (.goto 8, 3) := by decide +kernel
theorem dX7_mean_100 : decode cX7_mean 100 = .ok (.lload 8, 2) := by decide +kernel
theorem dX7_mean_102 : decode cX7_mean 102 = .ok (.lload 10, 2) := by decide +kernel
theorem dX7_mean_104 : decode cX7_mean 104 = .ok (.ldiv, 1) := by decide +kernel
theorem dX7_mean_105 : decode cX7_mean 105 = .ok (.lreturn, 1) := by decide +kernel
set_option maxRecDepth 20000 in
theorem ggX7_levels_X7_in : GoodIn wsX7_levels wsX7_in := goodIn_r _ [7] (by decide +kernel) (by decide +kernel)
set_option maxRecDepth 20000 in
theorem gX7_levels_X7_in : GoodIn wsX7_levels (va_wsS RX7 112 yX7_in wsX7_in) := goodIn_app (goodIn_of _ (by decide +kernel)) ggX7_levels_X7_in
theorem dX7_levels_0 : decode cX7_levels 0 = .ok (.iload_n 1, 1) := by decide +kernel
theorem dX7_levels_1 : decode cX7_levels 1 = .ok (.iconst 1, 1) := by decide +kernel
theorem dX7_levels_2 : decode cX7_levels 2 = .ok (.bipush 6, 2) := by decide +kernel
theorem dX7_levels_4 : decode cX7_levels 4 = .ok (.invokestatic 112, 3) := by decide +kernel
theorem dX7_levels_7 : decode cX7_levels 7 = .ok (.ifCond .ne 5, 3) := by decide +kernel
theorem dX7_levels_10 : decode cX7_levels 10 = .ok (.iconst 0, 1) := by decide +kernel
theorem dX7_levels_11 : decode cX7_levels 11 = .ok (.ireturn, 1) := by decide +kernel
theorem dX7_levels_12 : decode cX7_levels 12 = .ok (.aload_n 0, 1) := by decide +kernel
theorem dX7_levels_13 : decode cX7_levels 13 = .ok (.iload_n 1, 1) := by decide +kernel
theorem dX7_levels_14 : decode cX7_levels 14 = .ok (.putfield 162, 3) := by decide +kernel
theorem dX7_levels_17 : decode cX7_levels 17 = .ok (.iconst 0, 1) := by decide +kernel
theorem dX7_levels_18 : decode cX7_levels 18 = .ok (.istore_n 2, 1) := by decide +kernel
theorem dX7_levels_19 : decode cX7_levels 19 = .ok (.iload_n 2, 1) := by decide +kernel
theorem dX7_levels_20 : decode cX7_levels 20 = .ok (.bipush 36, 2) := by decide +kernel
theorem dX7_levels_22 : decode cX7_levels 22 = .ok (.if_icmp .ge 28, 3) := by decide +kernel
theorem dX7_levels_25 : decode cX7_levels 25 = .ok (.aload_n 0, 1) := by decide +kernel
theorem dX7_levels_26 : decode cX7_levels 26 = .ok (.getfield 93, 3) := by decide +kernel
theorem dX7_levels_29 : decode cX7_levels 29 = .ok (.iload_n 2, 1) := by decide +kernel
theorem dX7_levels_30 : decode cX7_levels 30 = .ok (.iload_n 2, 1) := by decide +kernel
theorem dX7_levels_31 : decode cX7_levels 31 = .ok (.bipush 6, 2) := by decide +kernel
theorem dX7_levels_33 : decode cX7_levels 33 = .ok (.irem, 1) := by decide +kernel
theorem dX7_levels_34 : decode cX7_levels 34 = .ok (.ifCond .ne 8, 3) := by decide +kernel
theorem dX7_levels_37 : decode cX7_levels 37 = .ok (.bipush 10, 2) := by decide +kernel
theorem dX7_levels_39 : decode cX7_levels 39 = .ok (.goto 4, 3) := by decide +kernel
theorem dX7_levels_42 : decode cX7_levels 42 = .ok (.iconst 0, 1) := by decide +kernel
theorem dX7_levels_43 : decode cX7_levels 43 = .ok (.iastore, 1) := by decide +kernel
theorem dX7_levels_44 : decode cX7_levels 44 = .ok (.iinc 2 1, 3) := by decide +kernel
theorem dX7_levels_47 : decode cX7_levels 47 = .ok (.goto (-28), 3) := by decide +kernel
theorem dX7_levels_50 : decode cX7_levels 50 = .ok (.iconst 0, 1) := by decide +kernel
theorem dX7_levels_51 : decode cX7_levels 51 = .ok (.istore_n 2, 1) := by decide +kernel
theorem dX7_levels_52 : decode cX7_levels 52 = .ok (.iload_n 2, 1) := by decide +kernel
theorem dX7_levels_53 : decode cX7_levels 53 = .ok (.bipush 6, 2) := by decide +kernel
theorem dX7_levels_55 : decode cX7_levels 55 = .ok (.if_icmp .ge 16, 3) := by decide +kernel
theorem dX7_levels_58 : decode cX7_levels 58 = .ok (.aload_n 0, 1) := by decide +kernel
theorem dX7_levels_59 : decode cX7_levels 59 = .ok (.getfield 90, 3) := by decide +kernel
theorem dX7_levels_62 : decode cX7_levels 62 = .ok (.iload_n 2, 1) := by decide +kernel
theorem dX7_levels_63 : decode cX7_levels 63 = .ok (.iconst 0, 1) := by decide +kernel
theorem dX7_levels_64 : decode cX7_levels 64 = .ok (.iastore, 1) := by decide +kernel
theorem dX7_levels_65 : decode cX7_levels 65 = .ok (.iinc 2 1, 3) := by decide +kernel
theorem dX7_levels_68 : decode cX7_levels 68 = .ok (.goto (-16), 3) := by decide +kernel
theorem dX7_levels_71 : decode cX7_levels 71 = .ok (.iconst 1, 1) := by decide +kernel
theorem dX7_levels_72 : decode cX7_levels 72 = .ok (.ireturn, 1) := by decide +kernel
set_option maxRecDepth 20000 in
theorem ggX7_level_X7_in : GoodIn wsX7_level wsX7_in := goodIn_r _ [7] (by decide +kernel) (by decide +kernel)
set_option maxRecDepth 20000 in
theorem gX7_level_X7_in : GoodIn wsX7_level (va_wsS RX7 112 yX7_in wsX7_in) := goodIn_app (goodIn_of _ (by decide +kernel)) ggX7_level_X7_in
theorem dX7_level_0 : decode cX7_level 0 = .ok (.iload_n 1, 1) := by decide +kernel
theorem dX7_level_1 : decode cX7_level 1 = .ok (.iconst 0, 1) := by decide +kernel
theorem dX7_level_2 : decode cX7_level 2 = .ok (.aload_n 0, 1) := by decide +kernel
theorem dX7_level_3 : decode cX7_level 3 = .ok (.getfield 162, 3) := by decide +kernel
theorem dX7_level_6 : decode cX7_level 6 = .ok (.iconst 1, 1) := by decide +kernel
theorem dX7_level_7 : decode cX7_level 7 = .ok (.isub, 1) := by decide +kernel
theorem dX7_level_8 : decode cX7_level 8 = .ok (.invokestatic 112, 3) := by decide +kernel
theorem dX7_level_11 : decode cX7_level 11 = .ok (.ifCond .eq 18, 3) := by decide +kernel
theorem dX7_level_14 : decode cX7_level 14 = .ok (.iload_n 2, 1) := by decide +kernel
theorem dX7_level_15 : decode cX7_level 15 = .ok (.iconst 0, 1) := by decide +kernel
theorem dX7_level_16 : decode cX7_level 16 = .ok (.sipush 999, 3) := by decide +kernel
theorem dX7_level_19 : decode cX7_level 19 = .ok (.invokestatic 112, 3) := by decide +kernel
theorem dX7_level_22 : decode cX7_level 22 = .ok (.ifCond .eq 7, 3) := by decide +kernel
theorem dX7_level_25 : decode cX7_level 25 = .ok (.iload_n 3, 1) := by decide +kernel
theorem dX7_level_26 : decode cX7_level 26 = .ok (.ifCond .ge 5, 3) := by decide +kernel
theorem dX7_level_29 : decode cX7_level 29 = .ok (.iconst 0, 1) := by decide +kernel
theorem dX7_level_30 : decode cX7_level 30 = .ok (.ireturn, 1) := by decide +kernel
theorem dX7_level_31 : decode cX7_level 31 = .ok (.iload_n 3, 1) := by decide +kernel
theorem dX7_level_32 : decode cX7_level 32 = .ok (.istore 4, 2) := by decide +kernel
theorem dX7_level_34 : decode cX7_level 34 = .ok (.iconst 0, 1) := by decide +kernel
theorem dX7_level_35 : decode cX7_level 35 = .ok (.istore 5, 2) := by decide +kernel
theorem dX7_level_37 : decode cX7_level 37 = .ok (.iconst 0, 1) := by decide +kernel
theorem dX7_level_38 : decode cX7_level 38 = .ok (.istore 6, 2) := by decide +kernel
theorem dX7_level_40 : decode cX7_level 40 = .ok (.iload 6, 2) := by decide +kernel
theorem dX7_level_42 : decode cX7_level 42 = .ok (.aload_n 0, 1) := by decide +kernel
theorem dX7_level_43 : decode cX7_level 43 = .ok (.getfield 162, 3) := by decide +kernel
theorem dX7_level_46 : decode cX7_level 46 = .ok (.if_icmp .ge 26, 3) := by decide +kernel
theorem dX7_level_49 : decode cX7_level 49 = .ok (.iload 5, 2) := by decide +kernel
theorem dX7_level_51 : decode cX7_level 51 = .ok (.iload 4, 2) := by decide +kernel
theorem dX7_level_53 : decode cX7_level 53 = .ok (.bipush 10, 2) := by decide +kernel
theorem dX7_level_55 : decode cX7_level 55 = .ok (.irem, 1) := by decide +kernel
theorem dX7_level_56 : decode cX7_level 56 = .ok (.iadd, 1) := by decide +kernel
theorem dX7_level_57 : decode cX7_level 57 = .ok (.istore 5, 2) := by decide +kernel
theorem dX7_level_59 : decode cX7_level 59 = .ok (.iload 4, 2) := by decide +kernel
theorem dX7_level_61 : decode cX7_level 61 = .ok (.bipush 10, 2) := by decide +kernel
theorem dX7_level_63 : decode cX7_level 63 = .ok (.idiv, 1) := by decide +kernel
theorem dX7_level_64 : decode cX7_level 64 = .ok (.istore 4, 2) := by decide +kernel
theorem dX7_level_66 : decode cX7_level 66 = .ok (.iinc 6 1, 3) := by decide +kernel
theorem dX7_level_69 : decode cX7_level 69 = .ok (.goto (-29), 3) := by decide +kernel
theorem dX7_level_72 : decode cX7_level 72 = .ok (.iload 4, 2) := by decide +kernel
theorem dX7_level_74 : decode cX7_level 74 = .ok (.ifCond .gt 10, 3) := by decide +kernel
theorem dX7_level_77 : decode cX7_level 77 = .ok (.iload 5, 2) := by decide +kernel
theorem dX7_level_79 : decode cX7_level 79 = .ok (.bipush 10, 2) := by decide +kernel
theorem dX7_level_81 : decode cX7_level 81 = .ok (.if_icmp .le 5, 3) := by decide +kernel
theorem dX7_level_84 : decode cX7_level 84 = .ok (.iconst 0, 1) := by decide +kernel
theorem dX7_level_85 : decode cX7_level 85 = .ok (.ireturn, 1) := by decide +kernel
theorem dX7_level_86 : decode cX7_level 86 = .ok (.iload_n 3, 1) := by decide +kernel
theorem dX7_level_87 : decode cX7_level 87 = .ok (.istore 4, 2) := by decide +kernel
theorem dX7_level_89 : decode cX7_level 89 = .ok (.iconst 0, 1) := by decide +kernel
theorem dX7_level_90 : decode cX7_level 90 = .ok (.istore 6, 2) := by decide +kernel
theorem dX7_level_92 : decode cX7_level 92 = .ok (.iload 6, 2) := by decide +kernel
theorem dX7_level_94 : decode cX7_level 94 = .ok (.aload_n 0, 1) := by decide +kernel
theorem dX7_level_95 : decode cX7_level 95 = .ok (.getfield 162, 3) := by decide +kernel
theorem dX7_level_98 : decode cX7_level 98 = .ok (.if_icmp .ge 48, 3) := by decide +kernel
theorem dX7_level_101 : decode cX7_level 101 = .ok (.aload_n 0, 1) := by decide +kernel
theorem dX7_level_102 : decode cX7_level 102 = .ok (.getfield 93, 3) := by decide +kernel
theorem dX7_level_105 : decode cX7_level 105 = .ok (.bipush 6, 2) := by decide +kernel
theorem dX7_level_107 : decode cX7_level 107 = .ok (.iload_n 1, 1) := by decide +kernel
theorem dX7_level_108 : decode cX7_level 108 = .ok (.imul, 1) := by decide +kernel
theorem dX7_level_109 : decode cX7_level 109 = .ok (.iload 6, 2) := by decide +kernel
theorem dX7_level_111 : decode cX7_level 111 = .ok (.iadd, 1) := by decide +kernel
theorem dX7_level_112 : decode cX7_level 112 = .ok (.iload 4, 2) := by decide +kernel
theorem dX7_level_114 : decode cX7_level 114 = .ok (.bipush 10, 2) := by decide +kernel
theorem dX7_level_116 : decode cX7_level 116 = .ok (.irem, 1) := by decide +kernel
theorem dX7_level_117 : decode cX7_level 117 = .ok (.iload 6, 2) := by decide +kernel
theorem dX7_level_119 : decode cX7_level 119 = .ok (.ifCond .ne 11, 3) := by decide +kernel
theorem dX7_level_122 : decode cX7_level 122 = .ok (.bipush 10, 2) := by decide +kernel
theorem dX7_level_124 : decode cX7_level 124 = .ok (.iload 5, 2) := by decide +kernel
theorem dX7_level_126 : decode cX7_level 126 = .ok (.isub, 1) := by decide +kernel
theorem dX7_level_127 : decode cX7_level 127 = .ok (.goto 4, 3) := by decide +kernel
theorem dX7_level_130 : decode cX7_level 130 = .ok (.iconst 0, 1) := by decide +kernel
theorem dX7_level_131 : decode cX7_level 131 = .ok (.iadd, 1) := by decide +kernel
theorem dX7_level_132 : decode cX7_level 132 = .ok (.iastore, 1) := by decide +kernel
theorem dX7_level_133 : decode cX7_level 133 = .ok (.iload 4, 2) := by decide +kernel
theorem dX7_level_135 : decode cX7_level 135 = .ok (.bipush 10, 2) := by decide +kernel
theorem dX7_level_137 : decode cX7_level 137 = .ok (.idiv, 1) := by decide +kernel
theorem dX7_level_138 : decode cX7_level 138 = .ok (.istore 4, 2) := by decide +kernel
theorem dX7_level_140 : decode cX7_level 140 = .ok (.iinc 6 1, 3) := by decide +kernel
theorem dX7_level_143 : decode cX7_level 143 = .ok (.goto (-51), 3) := by decide +kernel
theorem dX7_level_146 : decode cX7_level 146 = .ok (.aload_n 0, 1) := by decide +kernel
theorem dX7_level_147 : decode cX7_level 147 = .ok (.getfield 90, 3) := by decide +kernel
theorem dX7_level_150 : decode cX7_level 150 = .ok (.iload_n 1, 1) := by decide +kernel
theorem dX7_level_151 : decode cX7_level 151 = .ok (.iload_n 2, 1) := by decide +kernel
theorem dX7_level_152 : decode cX7_level 152 = .ok (.iastore, 1) := by decide +kernel
end
section
theorem dX7_level_153 : decode cX7_level 153 = .ok (.iconst 1, 1) := by decide +kernel
theorem dX7_level_154 : decode cX7_level 154 = .ok (.ireturn, 1) := by decide +kernel
set_option maxRecDepth 20000 in
theorem ggX7_isState_X7_in : GoodIn wsX7_isState wsX7_in := goodIn_r _ [5] (by decide +kernel) (by decide +kernel)
set_option maxRecDepth 20000 in
theorem gX7_isState_X7_in : GoodIn wsX7_isState (va_wsS RX7 112 yX7_in wsX7_in) := goodIn_app (goodIn_of _ (by decide +kernel)) ggX7_isState_X7_in
theorem dX7_isState_0 : decode cX7_isState 0 = .ok (.iload_n 1, 1) := by decide +kernel
theorem dX7_isState_1 : decode cX7_isState 1 = .ok (.iconst 0, 1) := by decide +kernel
theorem dX7_isState_2 : decode cX7_isState 2 = .ok (.bipush 12, 2) := by decide +kernel
theorem dX7_isState_4 : decode cX7_isState 4 = .ok (.invokestatic 112, 3) := by decide +kernel
theorem dX7_isState_7 : decode cX7_isState 7 = .ok (.ifCond .eq 30, 3) := by decide +kernel
theorem dX7_isState_10 : decode cX7_isState 10 = .ok (.iload_n 2, 1) := by decide +kernel
theorem dX7_isState_11 : decode cX7_isState 11 = .ok (.iconst 0, 1) := by decide +kernel
theorem dX7_isState_12 : decode cX7_isState 12 = .ok (.iload_n 1, 1) := by decide +kernel
theorem dX7_isState_13 : decode cX7_isState 13 = .ok (.invokestatic 112, 3) := by decide +kernel
theorem dX7_isState_16 : decode cX7_isState 16 = .ok (.ifCond .eq 21, 3) := by decide +kernel
theorem dX7_isState_19 : decode cX7_isState 19 = .ok (.iload_n 3, 1) := by decide +kernel
theorem dX7_isState_20 : decode cX7_isState 20 = .ok (.iconst 0, 1) := by decide +kernel
theorem dX7_isState_21 : decode cX7_isState 21 = .ok (.aload_n 0, 1) := by decide +kernel
theorem dX7_isState_22 : decode cX7_isState 22 = .ok (.getfield 162, 3) := by decide +kernel
theorem dX7_isState_25 : decode cX7_isState 25 = .ok (.iconst 1, 1) := by decide +kernel
theorem dX7_isState_26 : decode cX7_isState 26 = .ok (.isub, 1) := by decide +kernel
theorem dX7_isState_27 : decode cX7_isState 27 = .ok (.invokestatic 112, 3) := by decide +kernel
theorem dX7_isState_30 : decode cX7_isState 30 = .ok (.ifCond .eq 7, 3) := by decide +kernel
theorem dX7_isState_33 : decode cX7_isState 33 = .ok (.iconst 1, 1) := by decide +kernel
theorem dX7_isState_34 : decode cX7_isState 34 = .ok (.goto 4, 3) := by decide +kernel
theorem dX7_isState_37 : decode cX7_isState 37 = .ok (.iconst 0, 1) := by decide +kernel
theorem dX7_isState_38 : decode cX7_isState 38 = .ok (.ireturn, 1) := by decide +kernel
theorem dX7_at_0 : decode cX7_at 0 = .ok (.bipush 6, 2) := by decide +kernel
theorem dX7_at_2 : decode cX7_at 2 = .ok (.bipush 13, 2) := by decide +kernel
theorem dX7_at_4 : decode cX7_at 4 = .ok (.iload_n 0, 1) := by decide +kernel
theorem dX7_at_5 : decode cX7_at 5 = .ok (.imul, 1) := by decide +kernel
theorem dX7_at_6 : decode cX7_at 6 = .ok (.iload_n 1, 1) := by decide +kernel
theorem dX7_at_7 : decode cX7_at 7 = .ok (.iadd, 1) := by decide +kernel
theorem dX7_at_8 : decode cX7_at 8 = .ok (.imul, 1) := by decide +kernel
theorem dX7_at_9 : decode cX7_at 9 = .ok (.iload_n 2, 1) := by decide +kernel
theorem dX7_at_10 : decode cX7_at 10 = .ok (.iadd, 1) := by decide +kernel
theorem dX7_at_11 : decode cX7_at 11 = .ok (.ireturn, 1) := by decide +kernel
set_option maxRecDepth 20000 in
theorem ggX7_next_X7_at : GoodIn wsX7_next wsX7_at := goodIn_r _ [7] (by decide +kernel) (by decide +kernel)
set_option maxRecDepth 20000 in
theorem gX7_next_X7_at : GoodIn wsX7_next (va_wsS RX7 165 yX7_at wsX7_at) := goodIn_app (goodIn_of _ (by decide +kernel)) ggX7_next_X7_at
theorem dX7_next_0 : decode cX7_next 0 = .ok (.lconst 0, 1) := by decide +kernel
theorem dX7_next_1 : decode cX7_next 1 = .ok (.lstore 4, 2) := by decide +kernel
theorem dX7_next_3 : decode cX7_next 3 = .ok (.iconst 0, 1) := by decide +kernel
theorem dX7_next_4 : decode cX7_next 4 = .ok (.istore 6, 2) := by decide +kernel
theorem dX7_next_6 : decode cX7_next 6 = .ok (.iload 6, 2) := by decide +kernel
theorem dX7_next_8 : decode cX7_next 8 = .ok (.aload_n 0, 1) := by decide +kernel
theorem dX7_next_9 : decode cX7_next 9 = .ok (.getfield 162, 3) := by decide +kernel
theorem dX7_next_12 : decode cX7_next 12 = .ok (.if_icmp .ge 42, 3) := by decide +kernel
theorem dX7_next_15 : decode cX7_next 15 = .ok (.lload 4, 2) := by decide +kernel
theorem dX7_next_17 : decode cX7_next 17 = .ok (.aload_n 0, 1) := by decide +kernel
theorem dX7_next_18 : decode cX7_next 18 = .ok (.getfield 93, 3) := by decide +kernel
theorem dX7_next_21 : decode cX7_next 21 = .ok (.bipush 6, 2) := by decide +kernel
theorem dX7_next_23 : decode cX7_next 23 = .ok (.iload_n 3, 1) := by decide +kernel
theorem dX7_next_24 : decode cX7_next 24 = .ok (.imul, 1) := by decide +kernel
theorem dX7_next_25 : decode cX7_next 25 = .ok (.iload 6, 2) := by decide +kernel
theorem dX7_next_27 : decode cX7_next 27 = .ok (.iadd, 1) := by decide +kernel
theorem dX7_next_28 : decode cX7_next 28 = .ok (.iaload, 1) := by decide +kernel
theorem dX7_next_29 : decode cX7_next 29 = .ok (.i2l, 1) := by decide +kernel
theorem dX7_next_30 : decode cX7_next 30 = .ok (.aload_n 0, 1) := by decide +kernel
theorem dX7_next_31 : decode cX7_next 31 = .ok (.getfield 96, 3) := by decide +kernel
theorem dX7_next_34 : decode cX7_next 34 = .ok (.iload_n 1, 1) := by decide +kernel
theorem dX7_next_35 : decode cX7_next 35 = .ok (.iconst 1, 1) := by decide +kernel
theorem dX7_next_36 : decode cX7_next 36 = .ok (.isub, 1) := by decide +kernel
theorem dX7_next_37 : decode cX7_next 37 = .ok (.iload_n 2, 1) := by decide +kernel
theorem dX7_next_38 : decode cX7_next 38 = .ok (.iload 6, 2) := by decide +kernel
theorem dX7_next_40 : decode cX7_next 40 = .ok (.invokestatic 165, 3) := by decide +kernel
theorem dX7_next_43 : decode cX7_next 43 = .ok (.laload, 1) := by decide +kernel
theorem dX7_next_44 : decode cX7_next 44 = .ok (.lmul, 1) := by decide +kernel
theorem dX7_next_45 : decode cX7_next 45 = .ok (.ladd, 1) := by decide +kernel
theorem dX7_next_46 : decode cX7_next 46 = .ok (.lstore 4, 2) := by decide +kernel
theorem dX7_next_48 : decode cX7_next 48 = .ok (.iinc 6 1, 3) := by decide +kernel
theorem dX7_next_51 : decode cX7_next 51 = .ok (.goto (-45), 3) := by decide +kernel
theorem dX7_next_54 : decode cX7_next 54 = .ok (.lload 4, 2) := by decide +kernel
theorem dX7_next_56 : decode cX7_next 56 = .ok (.lreturn, 1) := by decide +kernel
set_option maxRecDepth 20000 in
theorem ggX7_worstNext_X7_at : GoodIn wsX7_worstNext wsX7_at := goodIn_r _ [7] (by decide +kernel) (by decide +kernel)
set_option maxRecDepth 20000 in
theorem gX7_worstNext_X7_at : GoodIn wsX7_worstNext (va_wsS RX7 165 yX7_at wsX7_at) := goodIn_app (goodIn_of _ (by decide +kernel)) ggX7_worstNext_X7_at
theorem dX7_worstNext_0 : decode cX7_worstNext 0 = .ok (.iconst 0, 1) := by decide +kernel
theorem dX7_worstNext_1 : decode cX7_worstNext 1 = .ok (.istore 4, 2) := by decide +kernel
theorem dX7_worstNext_3 : decode cX7_worstNext 3 = .ok (.iconst 0, 1) := by decide +kernel
theorem dX7_worstNext_4 : decode cX7_worstNext 4 = .ok (.istore 5, 2) := by decide +kernel
theorem dX7_worstNext_6 : decode cX7_worstNext 6 = .ok (.iload 5, 2) := by decide +kernel
theorem dX7_worstNext_8 : decode cX7_worstNext 8 = .ok (.aload_n 0, 1) := by decide +kernel
theorem dX7_worstNext_9 : decode cX7_worstNext 9 = .ok (.getfield 162, 3) := by decide +kernel
theorem dX7_worstNext_12 : decode cX7_worstNext 12 = .ok (.if_icmp .ge 59, 3) := by decide +kernel
theorem dX7_worstNext_15 : decode cX7_worstNext 15 = .ok (.aload_n 0, 1) := by decide +kernel
theorem dX7_worstNext_16 : decode cX7_worstNext 16 = .ok (.getfield 93, 3) := by decide +kernel
theorem dX7_worstNext_19 : decode cX7_worstNext 19 = .ok (.bipush 6, 2) := by decide +kernel
theorem dX7_worstNext_21 : decode cX7_worstNext 21 = .ok (.iload_n 3, 1) := by decide +kernel
theorem dX7_worstNext_22 : decode cX7_worstNext 22 = .ok (.imul, 1) := by decide +kernel
theorem dX7_worstNext_23 : decode cX7_worstNext 23 = .ok (.iload 5, 2) := by decide +kernel
theorem dX7_worstNext_25 : decode cX7_worstNext 25 = .ok (.iadd, 1) := by decide +kernel
theorem dX7_worstNext_26 : decode cX7_worstNext 26 = .ok (.iaload, 1) := by decide +kernel
theorem dX7_worstNext_27 : decode cX7_worstNext 27 = .ok (.ifCond .le 38, 3) := by decide +kernel
theorem dX7_worstNext_30 : decode cX7_worstNext 30 = .ok (.aload_n 0, 1) := by decide +kernel
theorem dX7_worstNext_31 : decode cX7_worstNext 31 = .ok (.getfield 103, 3) := by decide +kernel
theorem dX7_worstNext_34 : decode cX7_worstNext 34 = .ok (.iload_n 1, 1) := by decide +kernel
theorem dX7_worstNext_35 : decode cX7_worstNext 35 = .ok (.iconst 1, 1) := by decide +kernel
theorem dX7_worstNext_36 : decode cX7_worstNext 36 = .ok (.isub, 1) := by decide +kernel
theorem dX7_worstNext_37 : decode cX7_worstNext 37 = .ok (.iload_n 2, 1) := by decide +kernel
theorem dX7_worstNext_38 : decode cX7_worstNext 38 = .ok (.iload 5, 2) := by decide +kernel
theorem dX7_worstNext_40 : decode cX7_worstNext 40 = .ok (.invokestatic 165, 3) := by decide +kernel
theorem dX7_worstNext_43 : decode cX7_worstNext 43 = .ok (.iaload, 1) := by decide +kernel
theorem dX7_worstNext_44 : decode cX7_worstNext 44 = .ok (.iload 4, 2) := by decide +kernel
theorem dX7_worstNext_46 : decode cX7_worstNext 46 = .ok (.if_icmp .le 19, 3) := by decide +kernel
theorem dX7_worstNext_49 : decode cX7_worstNext 49 = .ok (.aload_n 0, 1) := by decide +kernel
theorem dX7_worstNext_50 : decode cX7_worstNext 50 = .ok (.getfield 103, 3) := by decide +kernel
theorem dX7_worstNext_53 : decode cX7_worstNext 53 = .ok (.iload_n 1, 1) := by decide +kernel
theorem dX7_worstNext_54 : decode cX7_worstNext 54 = .ok (.iconst 1, 1) := by decide +kernel
theorem dX7_worstNext_55 : decode cX7_worstNext 55 = .ok (.isub, 1) := by decide +kernel
theorem dX7_worstNext_56 : decode cX7_worstNext 56 = .ok (.iload_n 2, 1) := by decide +kernel
theorem dX7_worstNext_57 : decode cX7_worstNext 57 = .ok (.iload 5, 2) := by decide +kernel
theorem dX7_worstNext_59 : decode cX7_worstNext 59 = .ok (.invokestatic 165, 3) := by decide +kernel
theorem dX7_worstNext_62 : decode cX7_worstNext 62 = .ok (.iaload, 1) := by decide +kernel
theorem dX7_worstNext_63 : decode cX7_worstNext 63 = .ok (.istore 4, 2) := by decide +kernel
theorem dX7_worstNext_65 : decode cX7_worstNext 65 = .ok (.iinc 5 1, 3) := by decide +kernel
theorem dX7_worstNext_68 : decode cX7_worstNext 68 = .ok (.goto (-62), 3) := by decide +kernel
theorem dX7_worstNext_71 : decode cX7_worstNext 71 = .ok (.iload 4, 2) := by decide +kernel
theorem dX7_worstNext_73 : decode cX7_worstNext 73 = .ok (.ireturn, 1) := by decide +kernel
set_option maxRecDepth 20000 in
theorem ggX7_makes_X7_power : GoodIn wsX7_makes wsX7_power := goodIn_r _ [5] (by decide +kernel) (by decide +kernel)
set_option maxRecDepth 20000 in
theorem gX7_makes_X7_power : GoodIn wsX7_makes (va_wsS RX7 145 yX7_power wsX7_power) := goodIn_app (goodIn_of _ (by decide +kernel)) ggX7_makes_X7_power
set_option maxRecDepth 20000 in
theorem ggX7_makes_X7_state : GoodIn wsX7_makes wsX7_state := goodIn_r _ [9, 10, 11, 12, 13, 14, 15, 16, 4, 17, 18, 19, 20, 21, 1, 22, 23, 24, 25, 26, 27, 28, 29, 30, 31, 32, 33, 34, 35, 36, 37, 38, 39, 40, 41, 42, 43, 44, 45, 46, 47, 48, 49, 50, 51, 52, 53, 54, 55, 56, 57, 58, 59, 60, 61, 62, 63, 64, 65] (by decide +kernel) (by decide +kernel)
set_option maxRecDepth 20000 in
theorem gX7_makes_X7_state : GoodIn wsX7_makes (wsV RX7 169 RX7 yX7_state wsX7_state) := goodIn_app (goodIn_of _ (by decide +kernel)) ggX7_makes_X7_state
theorem dX7_makes_0 : decode cX7_makes 0 = .ok (.iconst 0, 1) := by decide +kernel
theorem dX7_makes_1 : decode cX7_makes 1 = .ok (.istore_n 3, 1) := by decide +kernel
theorem dX7_makes_2 : decode cX7_makes 2 = .ok (.iload_n 3, 1) := by decide +kernel
theorem dX7_makes_3 : decode cX7_makes 3 = .ok (.iload_n 1, 1) := by decide +kernel
theorem dX7_makes_4 : decode cX7_makes 4 = .ok (.if_icmp .gt 62, 3) := by decide +kernel
theorem dX7_makes_7 : decode cX7_makes 7 = .ok (.bipush 10, 2) := by decide +kernel
theorem dX7_makes_9 : decode cX7_makes 9 = .ok (.iload_n 3, 1) := by decide +kernel
theorem dX7_makes_10 : decode cX7_makes 10 = .ok (.invokestatic 145, 3) := by decide +kernel
theorem dX7_makes_13 : decode cX7_makes 13 = .ok (.lstore 4, 2) := by decide +kernel
theorem dX7_makes_15 : decode cX7_makes 15 = .ok (.iconst 0, 1) := by decide +kernel
theorem dX7_makes_16 : decode cX7_makes 16 = .ok (.istore 6, 2) := by decide +kernel
theorem dX7_makes_18 : decode cX7_makes 18 = .ok (.iload 6, 2) := by decide +kernel
theorem dX7_makes_20 : decode cX7_makes 20 = .ok (.iload_n 3, 1) := by decide +kernel
theorem dX7_makes_21 : decode cX7_makes 21 = .ok (.if_icmp .gt 39, 3) := by decide +kernel
theorem dX7_makes_24 : decode cX7_makes 24 = .ok (.iconst 0, 1) := by decide +kernel
theorem dX7_makes_25 : decode cX7_makes 25 = .ok (.istore 7, 2) := by decide +kernel
theorem dX7_makes_27 : decode cX7_makes 27 = .ok (.iload 7, 2) := by decide +kernel
theorem dX7_makes_29 : decode cX7_makes 29 = .ok (.aload_n 0, 1) := by decide +kernel
theorem dX7_makes_30 : decode cX7_makes 30 = .ok (.getfield 162, 3) := by decide +kernel
theorem dX7_makes_33 : decode cX7_makes 33 = .ok (.if_icmp .ge 21, 3) := by decide +kernel
theorem dX7_makes_36 : decode cX7_makes 36 = .ok (.aload_n 0, 1) := by decide +kernel
theorem dX7_makes_37 : decode cX7_makes 37 = .ok (.iload_n 3, 1) := by decide +kernel
theorem dX7_makes_38 : decode cX7_makes 38 = .ok (.iload 6, 2) := by decide +kernel
theorem dX7_makes_40 : decode cX7_makes 40 = .ok (.iload 7, 2) := by decide +kernel
theorem dX7_makes_42 : decode cX7_makes 42 = .ok (.lload 4, 2) := by decide +kernel
theorem dX7_makes_44 : decode cX7_makes 44 = .ok (.iload_n 2, 1) := by decide +kernel
theorem dX7_makes_45 : decode cX7_makes 45 = .ok (.invokevirtual 169, 3) := by decide +kernel
theorem dX7_makes_48 : decode cX7_makes 48 = .ok (.iinc 7 1, 3) := by decide +kernel
theorem dX7_makes_51 : decode cX7_makes 51 = .ok (.goto (-24), 3) := by decide +kernel
theorem dX7_makes_54 : decode cX7_makes 54 = .ok (.iinc 6 1, 3) := by decide +kernel
theorem dX7_makes_57 : decode cX7_makes 57 = .ok (.goto (-39), 3) := by decide +kernel
theorem dX7_makes_60 : decode cX7_makes 60 = .ok (.iinc 3 1, 3) := by decide +kernel
theorem dX7_makes_63 : decode cX7_makes 63 = .ok (.goto (-61), 3) := by decide +kernel
theorem dX7_makes_66 : decode cX7_makes 66 = .ok (.return_, 1) := by decide +kernel
set_option maxRecDepth 20000 in
theorem ggX7_state_X7_at : GoodIn wsX7_state wsX7_at := goodIn_r _ [9] (by decide +kernel) (by decide +kernel)
set_option maxRecDepth 20000 in
theorem gX7_state_X7_at : GoodIn wsX7_state (va_wsS RX7 165 yX7_at wsX7_at) := goodIn_app (goodIn_of _ (by decide +kernel)) ggX7_state_X7_at
set_option maxRecDepth 20000 in
theorem ggX7_state_X7_next : GoodIn wsX7_state wsX7_next := goodIn_r _ [13, 14, 15, 1, 6, 7, 8, 9, 24, 25, 26, 27, 28, 29, 30, 31, 32, 33, 34, 35, 36, 37, 38, 39, 40, 41, 42, 43, 44, 45, 46, 47, 48, 49, 50, 51, 52, 53, 54, 55, 56, 57, 58] (by decide +kernel) (by decide +kernel)
set_option maxRecDepth 20000 in
theorem gX7_state_X7_next : GoodIn wsX7_state (wsV RX7 173 RX7 yX7_next wsX7_next) := goodIn_app (goodIn_of _ (by decide +kernel)) ggX7_state_X7_next
set_option maxRecDepth 20000 in
theorem ggX7_state_X7_best : GoodIn wsX7_state wsX7_best := goodIn_r _ [19, 4, 5, 10, 11, 12, 8, 13, 14, 15, 1, 6, 7, 9, 24, 25, 26, 27, 28, 29, 30, 31, 32, 33, 34, 35, 36, 37, 38, 39, 40, 41, 42, 43, 44, 45, 46, 47, 48, 49, 50, 51, 52, 53, 54, 55, 56, 57, 58] (by decide +kernel) (by decide +kernel)
set_option maxRecDepth 20000 in
theorem gX7_state_X7_best : GoodIn wsX7_state (wsV RX7 176 RX7 yX7_best wsX7_best) := goodIn_app (goodIn_of _ (by decide +kernel)) ggX7_state_X7_best
set_option maxRecDepth 20000 in
theorem ggX7_state_X7_worstNext : GoodIn wsX7_state wsX7_worstNext := goodIn_r _ [23, 14, 15, 3, 6, 7, 8, 9, 24, 25, 26, 27, 28, 29, 30, 31, 32, 33, 34, 35, 36, 37, 38, 39, 40, 41, 42, 43, 44, 45, 46, 47, 48, 49, 50, 51, 52, 53, 54, 55, 56, 57, 58] (by decide +kernel) (by decide +kernel)
set_option maxRecDepth 20000 in
theorem gX7_state_X7_worstNext : GoodIn wsX7_state (wsV RX7 180 RX7 yX7_worstNext wsX7_worstNext) := goodIn_app (goodIn_of _ (by decide +kernel)) ggX7_state_X7_worstNext
theorem dX7_state_0 : decode cX7_state 0 = .ok (.iload_n 1, 1) := by decide +kernel
theorem dX7_state_1 : decode cX7_state 1 = .ok (.iload_n 2, 1) := by decide +kernel
theorem dX7_state_2 : decode cX7_state 2 = .ok (.iload_n 3, 1) := by decide +kernel
theorem dX7_state_3 : decode cX7_state 3 = .ok (.invokestatic 165, 3) := by decide +kernel
theorem dX7_state_6 : decode cX7_state 6 = .ok (.istore 7, 2) := by decide +kernel
theorem dX7_state_8 : decode cX7_state 8 = .ok (.aload_n 0, 1) := by decide +kernel
theorem dX7_state_9 : decode cX7_state 9 = .ok (.getfield 96, 3) := by decide +kernel
theorem dX7_state_12 : decode cX7_state 12 = .ok (.iload 7, 2) := by decide +kernel
theorem dX7_state_14 : decode cX7_state 14 = .ok (.lconst 0, 1) := by decide +kernel
theorem dX7_state_15 : decode cX7_state 15 = .ok (.lastore, 1) := by decide +kernel
theorem dX7_state_16 : decode cX7_state 16 = .ok (.aload_n 0, 1) := by decide +kernel
theorem dX7_state_17 : decode cX7_state 17 = .ok (.getfield 100, 3) := by decide +kernel
theorem dX7_state_20 : decode cX7_state 20 = .ok (.iload 7, 2) := by decide +kernel
theorem dX7_state_22 : decode cX7_state 22 = .ok (.iconst 0, 1) := by decide +kernel
theorem dX7_state_23 : decode cX7_state 23 = .ok (.iastore, 1) := by decide +kernel
theorem dX7_state_24 : decode cX7_state 24 = .ok (.aload_n 0, 1) := by decide +kernel
theorem dX7_state_25 : decode cX7_state 25 = .ok (.getfield 103, 3) := by decide +kernel
theorem dX7_state_28 : decode cX7_state 28 = .ok (.iload 7, 2) := by decide +kernel
theorem dX7_state_30 : decode cX7_state 30 = .ok (.iconst 0, 1) := by decide +kernel
theorem dX7_state_31 : decode cX7_state 31 = .ok (.iastore, 1) := by decide +kernel
theorem dX7_state_32 : decode cX7_state 32 = .ok (.iload_n 2, 1) := by decide +kernel
theorem dX7_state_33 : decode cX7_state 33 = .ok (.ifCond .ne 4, 3) := by decide +kernel
theorem dX7_state_36 : decode cX7_state 36 = .ok (.return_, 1) := by decide +kernel
theorem dX7_state_37 : decode cX7_state 37 = .ok (.aload_n 0, 1) := by decide +kernel
theorem dX7_state_38 : decode cX7_state 38 = .ok (.getfield 90, 3) := by decide +kernel
theorem dX7_state_41 : decode cX7_state 41 = .ok (.iload_n 3, 1) := by decide +kernel
theorem dX7_state_42 : decode cX7_state 42 = .ok (.iaload, 1) := by decide +kernel
theorem dX7_state_43 : decode cX7_state 43 = .ok (.istore 8, 2) := by decide +kernel
theorem dX7_state_45 : decode cX7_state 45 = .ok (.aload_n 0, 1) := by decide +kernel
theorem dX7_state_46 : decode cX7_state 46 = .ok (.iload_n 1, 1) := by decide +kernel
theorem dX7_state_47 : decode cX7_state 47 = .ok (.iload_n 2, 1) := by decide +kernel
theorem dX7_state_48 : decode cX7_state 48 = .ok (.iconst 1, 1) := by decide +kernel
theorem dX7_state_49 : decode cX7_state 49 = .ok (.isub, 1) := by decide +kernel
theorem dX7_state_50 : decode cX7_state 50 = .ok (.iload_n 3, 1) := by decide +kernel
theorem dX7_state_51 : decode cX7_state 51 = .ok (.invokevirtual 173, 3) := by decide +kernel
theorem dX7_state_54 : decode cX7_state 54 = .ok (.lstore 9, 2) := by decide +kernel
theorem dX7_state_56 : decode cX7_state 56 = .ok (.iload 6, 2) := by decide +kernel
theorem dX7_state_58 : decode cX7_state 58 = .ok (.iconst (-1), 1) := by decide +kernel
theorem dX7_state_59 : decode cX7_state 59 = .ok (.if_icmp .ne 17, 3) := by decide +kernel
theorem dX7_state_62 : decode cX7_state 62 = .ok (.aload_n 0, 1) := by decide +kernel
theorem dX7_state_63 : decode cX7_state 63 = .ok (.iload_n 1, 1) := by decide +kernel
theorem dX7_state_64 : decode cX7_state 64 = .ok (.iload_n 2, 1) := by decide +kernel
theorem dX7_state_65 : decode cX7_state 65 = .ok (.iload_n 3, 1) := by decide +kernel
theorem dX7_state_66 : decode cX7_state 66 = .ok (.lload 4, 2) := by decide +kernel
theorem dX7_state_68 : decode cX7_state 68 = .ok (.lload 9, 2) := by decide +kernel
theorem dX7_state_70 : decode cX7_state 70 = .ok (.invokevirtual 176, 3) := by decide +kernel
theorem dX7_state_73 : decode cX7_state 73 = .ok (.goto 37, 3) := by decide +kernel
theorem dX7_state_76 : decode cX7_state 76 = .ok (.iload 8, 2) := by decide +kernel
theorem dX7_state_78 : decode cX7_state 78 = .ok (.iload 6, 2) := by decide +kernel
theorem dX7_state_80 : decode cX7_state 80 = .ok (.if_icmp .gt 7, 3) := by decide +kernel
theorem dX7_state_83 : decode cX7_state 83 = .ok (.iconst 1, 1) := by decide +kernel
theorem dX7_state_84 : decode cX7_state 84 = .ok (.goto 26, 3) := by decide +kernel
theorem dX7_state_87 : decode cX7_state 87 = .ok (.iload_n 2, 1) := by decide +kernel
theorem dX7_state_88 : decode cX7_state 88 = .ok (.iload_n 1, 1) := by decide +kernel
theorem dX7_state_89 : decode cX7_state 89 = .ok (.if_icmp .ge 7, 3) := by decide +kernel
theorem dX7_state_92 : decode cX7_state 92 = .ok (.iconst 0, 1) := by decide +kernel
theorem dX7_state_93 : decode cX7_state 93 = .ok (.goto 17, 3) := by decide +kernel
theorem dX7_state_96 : decode cX7_state 96 = .ok (.iload 8, 2) := by decide +kernel
theorem dX7_state_98 : decode cX7_state 98 = .ok (.aload_n 0, 1) := by decide +kernel
theorem dX7_state_99 : decode cX7_state 99 = .ok (.getfield 7, 3) := by decide +kernel
theorem dX7_state_102 : decode cX7_state 102 = .ok (.if_icmp .gt 7, 3) := by decide +kernel
theorem dX7_state_105 : decode cX7_state 105 = .ok (.iconst 1, 1) := by decide +kernel
theorem dX7_state_106 : decode cX7_state 106 = .ok (.goto 4, 3) := by decide +kernel
theorem dX7_state_109 : decode cX7_state 109 = .ok (.iconst 2, 1) := by decide +kernel
theorem dX7_state_110 : decode cX7_state 110 = .ok (.istore 11, 2) := by decide +kernel
theorem dX7_state_112 : decode cX7_state 112 = .ok (.aload_n 0, 1) := by decide +kernel
theorem dX7_state_113 : decode cX7_state 113 = .ok (.getfield 100, 3) := by decide +kernel
theorem dX7_state_116 : decode cX7_state 116 = .ok (.iload 7, 2) := by decide +kernel
theorem dX7_state_118 : decode cX7_state 118 = .ok (.iload 11, 2) := by decide +kernel
theorem dX7_state_120 : decode cX7_state 120 = .ok (.iastore, 1) := by decide +kernel
theorem dX7_state_121 : decode cX7_state 121 = .ok (.iload 11, 2) := by decide +kernel
theorem dX7_state_123 : decode cX7_state 123 = .ok (.ifCond .ne 7, 3) := by decide +kernel
theorem dX7_state_126 : decode cX7_state 126 = .ok (.iconst 0, 1) := by decide +kernel
theorem dX7_state_127 : decode cX7_state 127 = .ok (.goto 18, 3) := by decide +kernel
theorem dX7_state_130 : decode cX7_state 130 = .ok (.iload 11, 2) := by decide +kernel
theorem dX7_state_132 : decode cX7_state 132 = .ok (.iconst 1, 1) := by decide +kernel
theorem dX7_state_133 : decode cX7_state 133 = .ok (.if_icmp .ne 8, 3) := by decide +kernel
theorem dX7_state_136 : decode cX7_state 136 = .ok (.iload 8, 2) := by decide +kernel
theorem dX7_state_138 : decode cX7_state 138 = .ok (.goto 7, 3) := by decide +kernel
theorem dX7_state_141 : decode cX7_state 141 = .ok (.aload_n 0, 1) := by decide +kernel
theorem dX7_state_142 : decode cX7_state 142 = .ok (.getfield 7, 3) := by decide +kernel
theorem dX7_state_145 : decode cX7_state 145 = .ok (.istore 12, 2) := by decide +kernel
theorem dX7_state_147 : decode cX7_state 147 = .ok (.aload_n 0, 1) := by decide +kernel
theorem dX7_state_148 : decode cX7_state 148 = .ok (.getfield 96, 3) := by decide +kernel
theorem dX7_state_151 : decode cX7_state 151 = .ok (.iload 7, 2) := by decide +kernel
theorem dX7_state_153 : decode cX7_state 153 = .ok (.iload 11, 2) := by decide +kernel
theorem dX7_state_155 : decode cX7_state 155 = .ok (.ifCond .ne 13, 3) := by decide +kernel
theorem dX7_state_158 : decode cX7_state 158 = .ok (.aload_n 0, 1) := by decide +kernel
theorem dX7_state_159 : decode cX7_state 159 = .ok (.iload_n 1, 1) := by decide +kernel
theorem dX7_state_160 : decode cX7_state 160 = .ok (.iload_n 2, 1) := by decide +kernel
theorem dX7_state_161 : decode cX7_state 161 = .ok (.iload_n 3, 1) := by decide +kernel
theorem dX7_state_162 : decode cX7_state 162 = .ok (.invokevirtual 173, 3) := by decide +kernel
theorem dX7_state_165 : decode cX7_state 165 = .ok (.goto 12, 3) := by decide +kernel
theorem dX7_state_168 : decode cX7_state 168 = .ok (.iload 12, 2) := by decide +kernel
theorem dX7_state_170 : decode cX7_state 170 = .ok (.i2l, 1) := by decide +kernel
theorem dX7_state_171 : decode cX7_state 171 = .ok (.lload 4, 2) := by decide +kernel
theorem dX7_state_173 : decode cX7_state 173 = .ok (.lmul, 1) := by decide +kernel
theorem dX7_state_174 : decode cX7_state 174 = .ok (.lload 9, 2) := by decide +kernel
theorem dX7_state_176 : decode cX7_state 176 = .ok (.ladd, 1) := by decide +kernel
theorem dX7_state_177 : decode cX7_state 177 = .ok (.lastore, 1) := by decide +kernel
theorem dX7_state_178 : decode cX7_state 178 = .ok (.aload_n 0, 1) := by decide +kernel
theorem dX7_state_179 : decode cX7_state 179 = .ok (.getfield 103, 3) := by decide +kernel
theorem dX7_state_182 : decode cX7_state 182 = .ok (.iload 7, 2) := by decide +kernel
theorem dX7_state_184 : decode cX7_state 184 = .ok (.iload 12, 2) := by decide +kernel
theorem dX7_state_186 : decode cX7_state 186 = .ok (.aload_n 0, 1) := by decide +kernel
theorem dX7_state_187 : decode cX7_state 187 = .ok (.iload_n 1, 1) := by decide +kernel
theorem dX7_state_188 : decode cX7_state 188 = .ok (.iload 11, 2) := by decide +kernel
theorem dX7_state_190 : decode cX7_state 190 = .ok (.ifCond .ne 7, 3) := by decide +kernel
theorem dX7_state_193 : decode cX7_state 193 = .ok (.iload_n 2, 1) := by decide +kernel
theorem dX7_state_194 : decode cX7_state 194 = .ok (.goto 6, 3) := by decide +kernel
theorem dX7_state_197 : decode cX7_state 197 = .ok (.iload_n 2, 1) := by decide +kernel
theorem dX7_state_198 : decode cX7_state 198 = .ok (.iconst 1, 1) := by decide +kernel
theorem dX7_state_199 : decode cX7_state 199 = .ok (.isub, 1) := by decide +kernel
theorem dX7_state_200 : decode cX7_state 200 = .ok (.iload_n 3, 1) := by decide +kernel
theorem dX7_state_201 : decode cX7_state 201 = .ok (.invokevirtual 180, 3) := by decide +kernel
theorem dX7_state_204 : decode cX7_state 204 = .ok (.iadd, 1) := by decide +kernel
theorem dX7_state_205 : decode cX7_state 205 = .ok (.iastore, 1) := by decide +kernel
theorem dX7_state_206 : decode cX7_state 206 = .ok (.return_, 1) := by decide +kernel
set_option maxRecDepth 20000 in
theorem ggX7_best_X7_next : GoodIn wsX7_best wsX7_next := goodIn_r _ [7, 8, 9, 10, 11, 12, 6, 13, 14, 15, 16, 17, 18, 19, 20, 21, 22, 23, 24, 25, 26, 27, 28, 29, 30, 31, 32, 33, 34, 35, 36, 37, 38, 39, 40, 41, 42, 43, 44, 45, 46, 47, 48] (by decide +kernel) (by decide +kernel)
set_option maxRecDepth 20000 in
theorem gX7_best_X7_next : GoodIn wsX7_best (wsV RX7 173 RX7 yX7_next wsX7_next) := goodIn_app (goodIn_of _ (by decide +kernel)) ggX7_best_X7_next
theorem dX7_best_0 : decode cX7_best 0 = .ok (.aload_n 0, 1) := by decide +kernel
theorem dX7_best_1 : decode cX7_best 1 = .ok (.getfield 90, 3) := by decide +kernel
theorem dX7_best_4 : decode cX7_best 4 = .ok (.iload_n 3, 1) := by decide +kernel
theorem dX7_best_5 : decode cX7_best 5 = .ok (.iaload, 1) := by decide +kernel
theorem dX7_best_6 : decode cX7_best 6 = .ok (.i2l, 1) := by decide +kernel
theorem dX7_best_7 : decode cX7_best 7 = .ok (.lload 4, 2) := by decide +kernel
theorem dX7_best_9 : decode cX7_best 9 = .ok (.lmul, 1) := by decide +kernel
theorem dX7_best_10 : decode cX7_best 10 = .ok (.lload 6, 2) := by decide +kernel
theorem dX7_best_12 : decode cX7_best 12 = .ok (.ladd, 1) := by decide +kernel
theorem dX7_best_13 : decode cX7_best 13 = .ok (.lstore 8, 2) := by decide +kernel
theorem dX7_best_15 : decode cX7_best 15 = .ok (.aload_n 0, 1) := by decide +kernel
theorem dX7_best_16 : decode cX7_best 16 = .ok (.getfield 7, 3) := by decide +kernel
theorem dX7_best_19 : decode cX7_best 19 = .ok (.i2l, 1) := by decide +kernel
theorem dX7_best_20 : decode cX7_best 20 = .ok (.lload 4, 2) := by decide +kernel
theorem dX7_best_22 : decode cX7_best 22 = .ok (.lmul, 1) := by decide +kernel
theorem dX7_best_23 : decode cX7_best 23 = .ok (.lload 6, 2) := by decide +kernel
theorem dX7_best_25 : decode cX7_best 25 = .ok (.ladd, 1) := by decide +kernel
theorem dX7_best_26 : decode cX7_best 26 = .ok (.lstore 10, 2) := by decide +kernel
theorem dX7_best_28 : decode cX7_best 28 = .ok (.iload_n 2, 1) := by decide +kernel
theorem dX7_best_29 : decode cX7_best 29 = .ok (.iload_n 1, 1) := by decide +kernel
theorem dX7_best_30 : decode cX7_best 30 = .ok (.if_icmp .ge 31, 3) := by decide +kernel
theorem dX7_best_33 : decode cX7_best 33 = .ok (.aload_n 0, 1) := by decide +kernel
theorem dX7_best_34 : decode cX7_best 34 = .ok (.iload_n 1, 1) := by decide +kernel
theorem dX7_best_35 : decode cX7_best 35 = .ok (.iload_n 2, 1) := by decide +kernel
theorem dX7_best_36 : decode cX7_best 36 = .ok (.iload_n 3, 1) := by decide +kernel
theorem dX7_best_37 : decode cX7_best 37 = .ok (.invokevirtual 173, 3) := by decide +kernel
theorem dX7_best_40 : decode cX7_best 40 = .ok (.lload 8, 2) := by decide +kernel
theorem dX7_best_42 : decode cX7_best 42 = .ok (.lcmp, 1) := by decide +kernel
theorem dX7_best_43 : decode cX7_best 43 = .ok (.ifCond .gt 18, 3) := by decide +kernel
theorem dX7_best_46 : decode cX7_best 46 = .ok (.aload_n 0, 1) := by decide +kernel
theorem dX7_best_47 : decode cX7_best 47 = .ok (.iload_n 1, 1) := by decide +kernel
theorem dX7_best_48 : decode cX7_best 48 = .ok (.iload_n 2, 1) := by decide +kernel
theorem dX7_best_49 : decode cX7_best 49 = .ok (.iload_n 3, 1) := by decide +kernel
theorem dX7_best_50 : decode cX7_best 50 = .ok (.invokevirtual 173, 3) := by decide +kernel
theorem dX7_best_53 : decode cX7_best 53 = .ok (.lload 10, 2) := by decide +kernel
theorem dX7_best_55 : decode cX7_best 55 = .ok (.lcmp, 1) := by decide +kernel
theorem dX7_best_56 : decode cX7_best 56 = .ok (.ifCond .gt 5, 3) := by decide +kernel
theorem dX7_best_59 : decode cX7_best 59 = .ok (.iconst 0, 1) := by decide +kernel
theorem dX7_best_60 : decode cX7_best 60 = .ok (.ireturn, 1) := by decide +kernel
theorem dX7_best_61 : decode cX7_best 61 = .ok (.lload 8, 2) := by decide +kernel
theorem dX7_best_63 : decode cX7_best 63 = .ok (.lload 10, 2) := by decide +kernel
theorem dX7_best_65 : decode cX7_best 65 = .ok (.lcmp, 1) := by decide +kernel
theorem dX7_best_66 : decode cX7_best 66 = .ok (.ifCond .gt 7, 3) := by decide +kernel
theorem dX7_best_69 : decode cX7_best 69 = .ok (.iconst 1, 1) := by decide +kernel
theorem dX7_best_70 : decode cX7_best 70 = .ok (.goto 4, 3) := by decide +kernel
theorem dX7_best_73 : decode cX7_best 73 = .ok (.iconst 2, 1) := by decide +kernel
theorem dX7_best_74 : decode cX7_best 74 = .ok (.ireturn, 1) := by decide +kernel
set_option maxRecDepth 20000 in
theorem ggX7_table_X7_isState : GoodIn wsX7_table wsX7_isState := goodIn_r _ [7, 8, 9, 10, 6, 11, 43, 44, 45, 46, 47, 48, 49, 50, 51, 52, 53, 54, 55, 56, 57, 58, 59, 60, 61, 62, 63, 64, 65, 66, 67, 68, 69, 70, 71, 72, 73, 74, 75, 76, 77] (by decide +kernel) (by decide +kernel)
set_option maxRecDepth 20000 in
theorem gX7_table_X7_isState : GoodIn wsX7_table (wsV RX7 183 RX7 yX7_isState wsX7_isState) := goodIn_app (goodIn_of _ (by decide +kernel)) ggX7_table_X7_isState
set_option maxRecDepth 20000 in
theorem ggX7_table_X7_makes : GoodIn wsX7_table wsX7_makes := goodIn_r _ [15, 8, 16, 17, 6, 18, 19, 20, 21, 22, 2, 23, 24, 25, 26, 27, 28, 29, 30, 31, 32, 33, 34, 35, 36, 37, 38, 39, 40, 41, 42, 43, 44, 45, 46, 47, 48, 49, 50, 51, 52, 53, 54, 55, 56, 57, 58, 59, 60, 61, 62, 63, 64, 65, 66, 67, 68, 69, 70, 71, 72, 73, 74, 75, 76, 77] (by decide +kernel) (by decide +kernel)
set_option maxRecDepth 20000 in
theorem gX7_table_X7_makes : GoodIn wsX7_table (wsV RX7 186 RX7 yX7_makes wsX7_makes) := goodIn_app (goodIn_of _ (by decide +kernel)) ggX7_table_X7_makes
set_option maxRecDepth 20000 in
theorem ggX7_table_X7_at : GoodIn wsX7_table wsX7_at := goodIn_r _ [29] (by decide +kernel) (by decide +kernel)
set_option maxRecDepth 20000 in
theorem gX7_table_X7_at : GoodIn wsX7_table (va_wsS RX7 165 yX7_at wsX7_at) := goodIn_app (goodIn_of _ (by decide +kernel)) ggX7_table_X7_at
theorem dX7_table_0 : decode cX7_table 0 = .ok (.aload_n 0, 1) := by decide +kernel
theorem dX7_table_1 : decode cX7_table 1 = .ok (.iload_n 1, 1) := by decide +kernel
theorem dX7_table_2 : decode cX7_table 2 = .ok (.iload_n 2, 1) := by decide +kernel
theorem dX7_table_3 : decode cX7_table 3 = .ok (.iload_n 3, 1) := by decide +kernel
theorem dX7_table_4 : decode cX7_table 4 = .ok (.invokevirtual 183, 3) := by decide +kernel
theorem dX7_table_7 : decode cX7_table 7 = .ok (.ifCond .ne 7, 3) := by decide +kernel
theorem dX7_table_10 : decode cX7_table 10 = .ok (.ldc2_w 160, 3) := by decide +kernel
theorem dX7_table_13 : decode cX7_table 13 = .ok (.lreturn, 1) := by decide +kernel
theorem dX7_table_14 : decode cX7_table 14 = .ok (.aload_n 0, 1) := by decide +kernel
theorem dX7_table_15 : decode cX7_table 15 = .ok (.iload_n 1, 1) := by decide +kernel
theorem dX7_table_16 : decode cX7_table 16 = .ok (.iconst (-1), 1) := by decide +kernel
theorem dX7_table_17 : decode cX7_table 17 = .ok (.invokevirtual 186, 3) := by decide +kernel
theorem dX7_table_20 : decode cX7_table 20 = .ok (.aload_n 0, 1) := by decide +kernel
theorem dX7_table_21 : decode cX7_table 21 = .ok (.getfield 96, 3) := by decide +kernel
theorem dX7_table_24 : decode cX7_table 24 = .ok (.iload_n 1, 1) := by decide +kernel
theorem dX7_table_25 : decode cX7_table 25 = .ok (.iload_n 2, 1) := by decide +kernel
theorem dX7_table_26 : decode cX7_table 26 = .ok (.iload_n 3, 1) := by decide +kernel
theorem dX7_table_27 : decode cX7_table 27 = .ok (.invokestatic 165, 3) := by decide +kernel
theorem dX7_table_30 : decode cX7_table 30 = .ok (.laload, 1) := by decide +kernel
theorem dX7_table_31 : decode cX7_table 31 = .ok (.lreturn, 1) := by decide +kernel
set_option maxRecDepth 20000 in
theorem ggX7_rule_X7_isState : GoodIn wsX7_rule wsX7_isState := goodIn_r _ [6, 7, 8, 9, 5, 10, 42, 43, 44, 45, 46, 47, 48, 49, 50, 51, 52, 53, 54, 55, 56, 57, 58, 59, 60, 61, 62, 63, 64, 65, 66, 67, 68, 69, 70, 71, 72, 73, 74, 75, 76] (by decide +kernel) (by decide +kernel)
set_option maxRecDepth 20000 in
theorem gX7_rule_X7_isState : GoodIn wsX7_rule (wsV RX7 183 RX7 yX7_isState wsX7_isState) := goodIn_app (goodIn_of _ (by decide +kernel)) ggX7_rule_X7_isState
set_option maxRecDepth 20000 in
theorem ggX7_rule_X7_makes : GoodIn wsX7_rule wsX7_makes := goodIn_r _ [14, 7, 15, 16, 5, 17, 18, 19, 20, 21, 22, 1, 23, 24, 25, 26, 27, 28, 29, 30, 31, 32, 33, 34, 35, 36, 37, 38, 39, 40, 41, 42, 43, 44, 45, 46, 47, 48, 49, 50, 51, 52, 53, 54, 55, 56, 57, 58, 59, 60, 61, 62, 63, 64, 65, 66, 67, 68, 69, 70, 71, 72, 73, 74, 75, 76] (by decide +kernel) (by decide +kernel)
set_option maxRecDepth 20000 in
theorem gX7_rule_X7_makes : GoodIn wsX7_rule (wsV RX7 186 RX7 yX7_makes wsX7_makes) := goodIn_app (goodIn_of _ (by decide +kernel)) ggX7_rule_X7_makes
set_option maxRecDepth 20000 in
theorem ggX7_rule_X7_at : GoodIn wsX7_rule wsX7_at := goodIn_r _ [28] (by decide +kernel) (by decide +kernel)
set_option maxRecDepth 20000 in
theorem gX7_rule_X7_at : GoodIn wsX7_rule (va_wsS RX7 165 yX7_at wsX7_at) := goodIn_app (goodIn_of _ (by decide +kernel)) ggX7_rule_X7_at
theorem dX7_rule_0 : decode cX7_rule 0 = .ok (.aload_n 0, 1) := by decide +kernel
theorem dX7_rule_1 : decode cX7_rule 1 = .ok (.iload_n 1, 1) := by decide +kernel
theorem dX7_rule_2 : decode cX7_rule 2 = .ok (.iload_n 2, 1) := by decide +kernel
theorem dX7_rule_3 : decode cX7_rule 3 = .ok (.iload_n 3, 1) := by decide +kernel
theorem dX7_rule_4 : decode cX7_rule 4 = .ok (.invokevirtual 183, 3) := by decide +kernel
theorem dX7_rule_7 : decode cX7_rule 7 = .ok (.ifCond .ne 5, 3) := by decide +kernel
theorem dX7_rule_10 : decode cX7_rule 10 = .ok (.iconst (-1), 1) := by decide +kernel
theorem dX7_rule_11 : decode cX7_rule 11 = .ok (.ireturn, 1) := by decide +kernel
theorem dX7_rule_12 : decode cX7_rule 12 = .ok (.aload_n 0, 1) := by decide +kernel
theorem dX7_rule_13 : decode cX7_rule 13 = .ok (.iload_n 1, 1) := by decide +kernel
theorem dX7_rule_14 : decode cX7_rule 14 = .ok (.iconst (-1), 1) := by decide +kernel
theorem dX7_rule_15 : decode cX7_rule 15 = .ok (.invokevirtual 186, 3) := by decide +kernel
theorem dX7_rule_18 : decode cX7_rule 18 = .ok (.aload_n 0, 1) := by decide +kernel
theorem dX7_rule_19 : decode cX7_rule 19 = .ok (.getfield 100, 3) := by decide +kernel
theorem dX7_rule_22 : decode cX7_rule 22 = .ok (.iload_n 1, 1) := by decide +kernel
theorem dX7_rule_23 : decode cX7_rule 23 = .ok (.iload_n 2, 1) := by decide +kernel
theorem dX7_rule_24 : decode cX7_rule 24 = .ok (.iload_n 3, 1) := by decide +kernel
theorem dX7_rule_25 : decode cX7_rule 25 = .ok (.invokestatic 165, 3) := by decide +kernel
theorem dX7_rule_28 : decode cX7_rule 28 = .ok (.iaload, 1) := by decide +kernel
theorem dX7_rule_29 : decode cX7_rule 29 = .ok (.ireturn, 1) := by decide +kernel
set_option maxRecDepth 20000 in
theorem ggX7_worst_X7_isState : GoodIn wsX7_worst wsX7_isState := goodIn_r _ [6, 7, 8, 9, 5, 10, 42, 43, 44, 45, 46, 47, 48, 49, 50, 51, 52, 53, 54, 55, 56, 57, 58, 59, 60, 61, 62, 63, 64, 65, 66, 67, 68, 69, 70, 71, 72, 73, 74, 75, 76] (by decide +kernel) (by decide +kernel)
set_option maxRecDepth 20000 in
theorem gX7_worst_X7_isState : GoodIn wsX7_worst (wsV RX7 183 RX7 yX7_isState wsX7_isState) := goodIn_app (goodIn_of _ (by decide +kernel)) ggX7_worst_X7_isState
set_option maxRecDepth 20000 in
theorem ggX7_worst_X7_makes : GoodIn wsX7_worst wsX7_makes := goodIn_r _ [14, 7, 15, 16, 5, 17, 18, 19, 20, 21, 22, 23, 1, 24, 25, 26, 27, 28, 29, 30, 31, 32, 33, 34, 35, 36, 37, 38, 39, 40, 41, 42, 43, 44, 45, 46, 47, 48, 49, 50, 51, 52, 53, 54, 55, 56, 57, 58, 59, 60, 61, 62, 63, 64, 65, 66, 67, 68, 69, 70, 71, 72, 73, 74, 75, 76] (by decide +kernel) (by decide +kernel)
set_option maxRecDepth 20000 in
theorem gX7_worst_X7_makes : GoodIn wsX7_worst (wsV RX7 186 RX7 yX7_makes wsX7_makes) := goodIn_app (goodIn_of _ (by decide +kernel)) ggX7_worst_X7_makes
set_option maxRecDepth 20000 in
theorem ggX7_worst_X7_at : GoodIn wsX7_worst wsX7_at := goodIn_r _ [28] (by decide +kernel) (by decide +kernel)
set_option maxRecDepth 20000 in
theorem gX7_worst_X7_at : GoodIn wsX7_worst (va_wsS RX7 165 yX7_at wsX7_at) := goodIn_app (goodIn_of _ (by decide +kernel)) ggX7_worst_X7_at
theorem dX7_worst_0 : decode cX7_worst 0 = .ok (.aload_n 0, 1) := by decide +kernel
theorem dX7_worst_1 : decode cX7_worst 1 = .ok (.iload_n 1, 1) := by decide +kernel
theorem dX7_worst_2 : decode cX7_worst 2 = .ok (.iload_n 2, 1) := by decide +kernel
theorem dX7_worst_3 : decode cX7_worst 3 = .ok (.iload_n 3, 1) := by decide +kernel
theorem dX7_worst_4 : decode cX7_worst 4 = .ok (.invokevirtual 183, 3) := by decide +kernel
theorem dX7_worst_7 : decode cX7_worst 7 = .ok (.ifCond .ne 5, 3) := by decide +kernel
theorem dX7_worst_10 : decode cX7_worst 10 = .ok (.iconst (-1), 1) := by decide +kernel
theorem dX7_worst_11 : decode cX7_worst 11 = .ok (.ireturn, 1) := by decide +kernel
theorem dX7_worst_12 : decode cX7_worst 12 = .ok (.aload_n 0, 1) := by decide +kernel
theorem dX7_worst_13 : decode cX7_worst 13 = .ok (.iload_n 1, 1) := by decide +kernel
theorem dX7_worst_14 : decode cX7_worst 14 = .ok (.iconst (-1), 1) := by decide +kernel
theorem dX7_worst_15 : decode cX7_worst 15 = .ok (.invokevirtual 186, 3) := by decide +kernel
theorem dX7_worst_18 : decode cX7_worst 18 = .ok (.aload_n 0, 1) := by decide +kernel
theorem dX7_worst_19 : decode cX7_worst 19 = .ok (.getfield 103, 3) := by decide +kernel
theorem dX7_worst_22 : decode cX7_worst 22 = .ok (.iload_n 1, 1) := by decide +kernel
theorem dX7_worst_23 : decode cX7_worst 23 = .ok (.iload_n 2, 1) := by decide +kernel
theorem dX7_worst_24 : decode cX7_worst 24 = .ok (.iload_n 3, 1) := by decide +kernel
theorem dX7_worst_25 : decode cX7_worst 25 = .ok (.invokestatic 165, 3) := by decide +kernel
theorem dX7_worst_28 : decode cX7_worst 28 = .ok (.iaload, 1) := by decide +kernel
theorem dX7_worst_29 : decode cX7_worst 29 = .ok (.ireturn, 1) := by decide +kernel
set_option maxRecDepth 20000 in
theorem ggX7_capped_X7_isState : GoodIn wsX7_capped wsX7_isState := goodIn_r _ [7, 8, 9, 10, 6, 11, 43, 44, 45, 46, 47, 48, 49, 50, 51, 52, 53, 54, 55, 56, 57, 58, 59, 60, 61, 62, 63, 64, 65, 66, 67, 68, 69, 70, 71, 72, 73, 74, 75, 76, 77] (by decide +kernel) (by decide +kernel)
set_option maxRecDepth 20000 in
theorem gX7_capped_X7_isState : GoodIn wsX7_capped (wsV RX7 183 RX7 yX7_isState wsX7_isState) := goodIn_app (goodIn_of _ (by decide +kernel)) ggX7_capped_X7_isState
set_option maxRecDepth 20000 in
theorem ggX7_capped_X7_in : GoodIn wsX7_capped wsX7_in := goodIn_r _ [11] (by decide +kernel) (by decide +kernel)
set_option maxRecDepth 20000 in
theorem gX7_capped_X7_in : GoodIn wsX7_capped (va_wsS RX7 112 yX7_in wsX7_in) := goodIn_app (goodIn_of _ (by decide +kernel)) ggX7_capped_X7_in
set_option maxRecDepth 20000 in
theorem ggX7_capped_X7_makes : GoodIn wsX7_capped wsX7_makes := goodIn_r _ [15, 8, 16, 17, 6, 18, 19, 20, 21, 22, 2, 23, 24, 25, 26, 27, 28, 29, 30, 31, 32, 33, 34, 35, 36, 37, 38, 39, 40, 41, 42, 43, 44, 45, 46, 47, 48, 49, 50, 51, 52, 53, 54, 55, 56, 57, 58, 59, 60, 61, 62, 63, 64, 65, 66, 67, 68, 69, 70, 71, 72, 73, 74, 75, 76, 77] (by decide +kernel) (by decide +kernel)
set_option maxRecDepth 20000 in
theorem gX7_capped_X7_makes : GoodIn wsX7_capped (wsV RX7 186 RX7 yX7_makes wsX7_makes) := goodIn_app (goodIn_of _ (by decide +kernel)) ggX7_capped_X7_makes
set_option maxRecDepth 20000 in
theorem ggX7_capped_X7_at : GoodIn wsX7_capped wsX7_at := goodIn_r _ [29] (by decide +kernel) (by decide +kernel)
set_option maxRecDepth 20000 in
theorem gX7_capped_X7_at : GoodIn wsX7_capped (va_wsS RX7 165 yX7_at wsX7_at) := goodIn_app (goodIn_of _ (by decide +kernel)) ggX7_capped_X7_at
theorem dX7_capped_0 : decode cX7_capped 0 = .ok (.aload_n 0, 1) := by decide +kernel
theorem dX7_capped_1 : decode cX7_capped 1 = .ok (.iload_n 1, 1) := by decide +kernel
theorem dX7_capped_2 : decode cX7_capped 2 = .ok (.iload_n 2, 1) := by decide +kernel
theorem dX7_capped_3 : decode cX7_capped 3 = .ok (.iload_n 3, 1) := by decide +kernel
theorem dX7_capped_4 : decode cX7_capped 4 = .ok (.invokevirtual 183, 3) := by decide +kernel
theorem dX7_capped_7 : decode cX7_capped 7 = .ok (.ifCond .eq 15, 3) := by decide +kernel
theorem dX7_capped_10 : decode cX7_capped 10 = .ok (.iload 4, 2) := by decide +kernel
theorem dX7_capped_12 : decode cX7_capped 12 = .ok (.iconst 0, 1) := by decide +kernel
theorem dX7_capped_13 : decode cX7_capped 13 = .ok (.sipush 999, 3) := by decide +kernel
theorem dX7_capped_16 : decode cX7_capped 16 = .ok (.invokestatic 112, 3) := by decide +kernel
theorem dX7_capped_19 : decode cX7_capped 19 = .ok (.ifCond .ne 7, 3) := by decide +kernel
theorem dX7_capped_22 : decode cX7_capped 22 = .ok (.ldc2_w 160, 3) := by decide +kernel
theorem dX7_capped_25 : decode cX7_capped 25 = .ok (.lreturn, 1) := by decide +kernel
theorem dX7_capped_26 : decode cX7_capped 26 = .ok (.aload_n 0, 1) := by decide +kernel
theorem dX7_capped_27 : decode cX7_capped 27 = .ok (.iload_n 1, 1) := by decide +kernel
theorem dX7_capped_28 : decode cX7_capped 28 = .ok (.iload 4, 2) := by decide +kernel
theorem dX7_capped_30 : decode cX7_capped 30 = .ok (.invokevirtual 186, 3) := by decide +kernel
theorem dX7_capped_33 : decode cX7_capped 33 = .ok (.aload_n 0, 1) := by decide +kernel
theorem dX7_capped_34 : decode cX7_capped 34 = .ok (.getfield 96, 3) := by decide +kernel
theorem dX7_capped_37 : decode cX7_capped 37 = .ok (.iload_n 1, 1) := by decide +kernel
theorem dX7_capped_38 : decode cX7_capped 38 = .ok (.iload_n 2, 1) := by decide +kernel
theorem dX7_capped_39 : decode cX7_capped 39 = .ok (.iload_n 3, 1) := by decide +kernel
theorem dX7_capped_40 : decode cX7_capped 40 = .ok (.invokestatic 165, 3) := by decide +kernel
theorem dX7_capped_43 : decode cX7_capped 43 = .ok (.laload, 1) := by decide +kernel
theorem dX7_capped_44 : decode cX7_capped 44 = .ok (.lreturn, 1) := by decide +kernel
theorem dX7_priceAt_0 : decode cX7_priceAt 0 = .ok (.iload_n 1, 1) := by decide +kernel
theorem dX7_priceAt_1 : decode cX7_priceAt 1 = .ok (.iconst 3, 1) := by decide +kernel
theorem dX7_priceAt_2 : decode cX7_priceAt 2 = .ok (.if_icmp .ne 10, 3) := by decide +kernel
theorem dX7_priceAt_5 : decode cX7_priceAt 5 = .ok (.aload_n 0, 1) := by decide +kernel
theorem dX7_priceAt_6 : decode cX7_priceAt 6 = .ok (.getfield 7, 3) := by decide +kernel
theorem dX7_priceAt_9 : decode cX7_priceAt 9 = .ok (.goto 15, 3) := by decide +kernel
theorem dX7_priceAt_12 : decode cX7_priceAt 12 = .ok (.aload_n 0, 1) := by decide +kernel
theorem dX7_priceAt_13 : decode cX7_priceAt 13 = .ok (.getfield 13, 3) := by decide +kernel
theorem dX7_priceAt_16 : decode cX7_priceAt 16 = .ok (.sipush 200, 3) := by decide +kernel
theorem dX7_priceAt_19 : decode cX7_priceAt 19 = .ok (.iload_n 1, 1) := by decide +kernel
theorem dX7_priceAt_20 : decode cX7_priceAt 20 = .ok (.imul, 1) := by decide +kernel
theorem dX7_priceAt_21 : decode cX7_priceAt 21 = .ok (.iload_n 2, 1) := by decide +kernel
theorem dX7_priceAt_22 : decode cX7_priceAt 22 = .ok (.iadd, 1) := by decide +kernel
theorem dX7_priceAt_23 : decode cX7_priceAt 23 = .ok (.iaload, 1) := by decide +kernel
theorem dX7_priceAt_24 : decode cX7_priceAt 24 = .ok (.ireturn, 1) := by decide +kernel
set_option maxRecDepth 20000 in
theorem ggX7_cheapest_X7_priceAt : GoodIn wsX7_cheapest wsX7_priceAt := goodIn_r _ [10, 11, 12, 13, 14, 15, 16, 17, 18, 19, 20, 21, 22, 23, 24, 25, 26, 27, 28, 29, 30, 31, 32, 33, 34, 35, 36, 37, 38, 39, 40, 41, 42, 43, 44, 45, 46, 47] (by decide +kernel) (by decide +kernel)
set_option maxRecDepth 20000 in
theorem gX7_cheapest_X7_priceAt : GoodIn wsX7_cheapest (wsV RX7 189 RX7 yX7_priceAt wsX7_priceAt) := goodIn_app (goodIn_of _ (by decide +kernel)) ggX7_cheapest_X7_priceAt
theorem dX7_cheapest_0 : decode cX7_cheapest 0 = .ok (.aload_n 0, 1) := by decide +kernel
theorem dX7_cheapest_1 : decode cX7_cheapest 1 = .ok (.getfield 106, 3) := by decide +kernel
theorem dX7_cheapest_4 : decode cX7_cheapest 4 = .ok (.bipush 31, 2) := by decide +kernel
theorem dX7_cheapest_6 : decode cX7_cheapest 6 = .ok (.iload_n 2, 1) := by decide +kernel
theorem dX7_cheapest_7 : decode cX7_cheapest 7 = .ok (.iconst 1, 1) := by decide +kernel
theorem dX7_cheapest_8 : decode cX7_cheapest 8 = .ok (.iadd, 1) := by decide +kernel
theorem dX7_cheapest_9 : decode cX7_cheapest 9 = .ok (.imul, 1) := by decide +kernel
theorem dX7_cheapest_10 : decode cX7_cheapest 10 = .ok (.iload_n 3, 1) := by decide +kernel
theorem dX7_cheapest_11 : decode cX7_cheapest 11 = .ok (.iadd, 1) := by decide +kernel
theorem dX7_cheapest_12 : decode cX7_cheapest 12 = .ok (.iaload, 1) := by decide +kernel
theorem dX7_cheapest_13 : decode cX7_cheapest 13 = .ok (.istore 4, 2) := by decide +kernel
theorem dX7_cheapest_15 : decode cX7_cheapest 15 = .ok (.iconst 0, 1) := by decide +kernel
theorem dX7_cheapest_16 : decode cX7_cheapest 16 = .ok (.istore 5, 2) := by decide +kernel
theorem dX7_cheapest_18 : decode cX7_cheapest 18 = .ok (.iload 5, 2) := by decide +kernel
theorem dX7_cheapest_20 : decode cX7_cheapest 20 = .ok (.iconst 3, 1) := by decide +kernel
theorem dX7_cheapest_21 : decode cX7_cheapest 21 = .ok (.if_icmp .gt 255, 3) := by decide +kernel
theorem dX7_cheapest_24 : decode cX7_cheapest 24 = .ok (.iconst 0, 1) := by decide +kernel
theorem dX7_cheapest_25 : decode cX7_cheapest 25 = .ok (.istore 6, 2) := by decide +kernel
theorem dX7_cheapest_27 : decode cX7_cheapest 27 = .ok (.iload_n 3, 1) := by decide +kernel
theorem dX7_cheapest_28 : decode cX7_cheapest 28 = .ok (.ifCond .le 12, 3) := by decide +kernel
theorem dX7_cheapest_31 : decode cX7_cheapest 31 = .ok (.aload_n 0, 1) := by decide +kernel
theorem dX7_cheapest_32 : decode cX7_cheapest 32 = .ok (.getfield 35, 3) := by decide +kernel
theorem dX7_cheapest_35 : decode cX7_cheapest 35 = .ok (.iload_n 1, 1) := by decide +kernel
theorem dX7_cheapest_36 : decode cX7_cheapest 36 = .ok (.iaload, 1) := by decide +kernel
theorem dX7_cheapest_37 : decode cX7_cheapest 37 = .ok (.goto 4, 3) := by decide +kernel
theorem dX7_cheapest_40 : decode cX7_cheapest 40 = .ok (.iconst 0, 1) := by decide +kernel
theorem dX7_cheapest_41 : decode cX7_cheapest 41 = .ok (.istore 7, 2) := by decide +kernel
theorem dX7_cheapest_43 : decode cX7_cheapest 43 = .ok (.iconst 1, 1) := by decide +kernel
theorem dX7_cheapest_44 : decode cX7_cheapest 44 = .ok (.istore 8, 2) := by decide +kernel
theorem dX7_cheapest_46 : decode cX7_cheapest 46 = .ok (.iload_n 2, 1) := by decide +kernel
theorem dX7_cheapest_47 : decode cX7_cheapest 47 = .ok (.iload 8, 2) := by decide +kernel
theorem dX7_cheapest_49 : decode cX7_cheapest 49 = .ok (.iadd, 1) := by decide +kernel
theorem dX7_cheapest_50 : decode cX7_cheapest 50 = .ok (.aload_n 0, 1) := by decide +kernel
theorem dX7_cheapest_51 : decode cX7_cheapest 51 = .ok (.getfield 20, 3) := by decide +kernel
theorem dX7_cheapest_54 : decode cX7_cheapest 54 = .ok (.iload_n 1, 1) := by decide +kernel
theorem dX7_cheapest_55 : decode cX7_cheapest 55 = .ok (.iaload, 1) := by decide +kernel
theorem dX7_cheapest_56 : decode cX7_cheapest 56 = .ok (.if_icmp .gt 214, 3) := by decide +kernel
theorem dX7_cheapest_59 : decode cX7_cheapest 59 = .ok (.aload_n 0, 1) := by decide +kernel
theorem dX7_cheapest_60 : decode cX7_cheapest 60 = .ok (.iload 5, 2) := by decide +kernel
theorem dX7_cheapest_62 : decode cX7_cheapest 62 = .ok (.iload_n 2, 1) := by decide +kernel
theorem dX7_cheapest_63 : decode cX7_cheapest 63 = .ok (.iload 8, 2) := by decide +kernel
theorem dX7_cheapest_65 : decode cX7_cheapest 65 = .ok (.iadd, 1) := by decide +kernel
theorem dX7_cheapest_66 : decode cX7_cheapest 66 = .ok (.iconst 1, 1) := by decide +kernel
theorem dX7_cheapest_67 : decode cX7_cheapest 67 = .ok (.isub, 1) := by decide +kernel
theorem dX7_cheapest_68 : decode cX7_cheapest 68 = .ok (.invokevirtual 189, 3) := by decide +kernel
theorem dX7_cheapest_71 : decode cX7_cheapest 71 = .ok (.iconst (-1), 1) := by decide +kernel
theorem dX7_cheapest_72 : decode cX7_cheapest 72 = .ok (.if_icmp .eq 198, 3) := by decide +kernel
theorem dX7_cheapest_75 : decode cX7_cheapest 75 = .ok (.iload 6, 2) := by decide +kernel
theorem dX7_cheapest_77 : decode cX7_cheapest 77 = .ok (.aload_n 0, 1) := by decide +kernel
theorem dX7_cheapest_78 : decode cX7_cheapest 78 = .ok (.iload 5, 2) := by decide +kernel
theorem dX7_cheapest_80 : decode cX7_cheapest 80 = .ok (.iload_n 2, 1) := by decide +kernel
theorem dX7_cheapest_81 : decode cX7_cheapest 81 = .ok (.iload 8, 2) := by decide +kernel
theorem dX7_cheapest_83 : decode cX7_cheapest 83 = .ok (.iadd, 1) := by decide +kernel
theorem dX7_cheapest_84 : decode cX7_cheapest 84 = .ok (.iconst 1, 1) := by decide +kernel
theorem dX7_cheapest_85 : decode cX7_cheapest 85 = .ok (.isub, 1) := by decide +kernel
theorem dX7_cheapest_86 : decode cX7_cheapest 86 = .ok (.invokevirtual 189, 3) := by decide +kernel
theorem dX7_cheapest_89 : decode cX7_cheapest 89 = .ok (.iadd, 1) := by decide +kernel
theorem dX7_cheapest_90 : decode cX7_cheapest 90 = .ok (.istore 6, 2) := by decide +kernel
theorem dX7_cheapest_92 : decode cX7_cheapest 92 = .ok (.iload 6, 2) := by decide +kernel
theorem dX7_cheapest_94 : decode cX7_cheapest 94 = .ok (.iload 4, 2) := by decide +kernel
theorem dX7_cheapest_96 : decode cX7_cheapest 96 = .ok (.if_icmp .lt 6, 3) := by decide +kernel
theorem dX7_cheapest_99 : decode cX7_cheapest 99 = .ok (.goto 171, 3) := by decide +kernel
theorem dX7_cheapest_102 : decode cX7_cheapest 102 = .ok (.iload 8, 2) := by decide +kernel
theorem dX7_cheapest_104 : decode cX7_cheapest 104 = .ok (.iload 7, 2) := by decide +kernel
theorem dX7_cheapest_106 : decode cX7_cheapest 106 = .ok (.isub, 1) := by decide +kernel
theorem dX7_cheapest_107 : decode cX7_cheapest 107 = .ok (.aload_n 0, 1) := by decide +kernel
theorem dX7_cheapest_108 : decode cX7_cheapest 108 = .ok (.getfield 17, 3) := by decide +kernel
theorem dX7_cheapest_111 : decode cX7_cheapest 111 = .ok (.iload_n 1, 1) := by decide +kernel
theorem dX7_cheapest_112 : decode cX7_cheapest 112 = .ok (.iaload, 1) := by decide +kernel
theorem dX7_cheapest_113 : decode cX7_cheapest 113 = .ok (.iload_n 3, 1) := by decide +kernel
theorem dX7_cheapest_114 : decode cX7_cheapest 114 = .ok (.isub, 1) := by decide +kernel
theorem dX7_cheapest_115 : decode cX7_cheapest 115 = .ok (.if_icmp .ge 14, 3) := by decide +kernel
theorem dX7_cheapest_118 : decode cX7_cheapest 118 = .ok (.iload 8, 2) := by decide +kernel
theorem dX7_cheapest_120 : decode cX7_cheapest 120 = .ok (.aload_n 0, 1) := by decide +kernel
theorem dX7_cheapest_121 : decode cX7_cheapest 121 = .ok (.getfield 17, 3) := by decide +kernel
theorem dX7_cheapest_124 : decode cX7_cheapest 124 = .ok (.iload_n 1, 1) := by decide +kernel
theorem dX7_cheapest_125 : decode cX7_cheapest 125 = .ok (.iaload, 1) := by decide +kernel
theorem dX7_cheapest_126 : decode cX7_cheapest 126 = .ok (.if_icmp .lt 10, 3) := by decide +kernel
theorem dX7_cheapest_129 : decode cX7_cheapest 129 = .ok (.iload 6, 2) := by decide +kernel
theorem dX7_cheapest_131 : decode cX7_cheapest 131 = .ok (.istore 4, 2) := by decide +kernel
theorem dX7_cheapest_133 : decode cX7_cheapest 133 = .ok (.goto 137, 3) := by decide +kernel
theorem dX7_cheapest_136 : decode cX7_cheapest 136 = .ok (.iload_n 3, 1) := by decide +kernel
theorem dX7_cheapest_137 : decode cX7_cheapest 137 = .ok (.iload 8, 2) := by decide +kernel
theorem dX7_cheapest_139 : decode cX7_cheapest 139 = .ok (.iload 7, 2) := by decide +kernel
theorem dX7_cheapest_141 : decode cX7_cheapest 141 = .ok (.isub, 1) := by decide +kernel
theorem dX7_cheapest_142 : decode cX7_cheapest 142 = .ok (.aload_n 0, 1) := by decide +kernel
theorem dX7_cheapest_143 : decode cX7_cheapest 143 = .ok (.getfield 32, 3) := by decide +kernel
theorem dX7_cheapest_146 : decode cX7_cheapest 146 = .ok (.iload_n 1, 1) := by decide +kernel
theorem dX7_cheapest_147 : decode cX7_cheapest 147 = .ok (.iaload, 1) := by decide +kernel
theorem dX7_cheapest_148 : decode cX7_cheapest 148 = .ok (.isub, 1) := by decide +kernel
theorem dX7_cheapest_149 : decode cX7_cheapest 149 = .ok (.ifCond .le 18, 3) := by decide +kernel
theorem dX7_cheapest_152 : decode cX7_cheapest 152 = .ok (.iload 8, 2) := by decide +kernel
theorem dX7_cheapest_154 : decode cX7_cheapest 154 = .ok (.iload 7, 2) := by decide +kernel
theorem dX7_cheapest_156 : decode cX7_cheapest 156 = .ok (.isub, 1) := by decide +kernel
theorem dX7_cheapest_157 : decode cX7_cheapest 157 = .ok (.aload_n 0, 1) := by decide +kernel
theorem dX7_cheapest_158 : decode cX7_cheapest 158 = .ok (.getfield 32, 3) := by decide +kernel
theorem dX7_cheapest_161 : decode cX7_cheapest 161 = .ok (.iload_n 1, 1) := by decide +kernel
theorem dX7_cheapest_162 : decode cX7_cheapest 162 = .ok (.iaload, 1) := by decide +kernel
theorem dX7_cheapest_163 : decode cX7_cheapest 163 = .ok (.isub, 1) := by decide +kernel
theorem dX7_cheapest_164 : decode cX7_cheapest 164 = .ok (.goto 4, 3) := by decide +kernel
theorem dX7_cheapest_167 : decode cX7_cheapest 167 = .ok (.iconst 0, 1) := by decide +kernel
theorem dX7_cheapest_168 : decode cX7_cheapest 168 = .ok (.iadd, 1) := by decide +kernel
theorem dX7_cheapest_169 : decode cX7_cheapest 169 = .ok (.istore 9, 2) := by decide +kernel
theorem dX7_cheapest_171 : decode cX7_cheapest 171 = .ok (.iload 8, 2) := by decide +kernel
theorem dX7_cheapest_173 : decode cX7_cheapest 173 = .ok (.aload_n 0, 1) := by decide +kernel
theorem dX7_cheapest_174 : decode cX7_cheapest 174 = .ok (.getfield 32, 3) := by decide +kernel
theorem dX7_cheapest_177 : decode cX7_cheapest 177 = .ok (.iload_n 1, 1) := by decide +kernel
theorem dX7_cheapest_178 : decode cX7_cheapest 178 = .ok (.iaload, 1) := by decide +kernel
theorem dX7_cheapest_179 : decode cX7_cheapest 179 = .ok (.isub, 1) := by decide +kernel
theorem dX7_cheapest_180 : decode cX7_cheapest 180 = .ok (.istore 10, 2) := by decide +kernel
theorem dX7_cheapest_182 : decode cX7_cheapest 182 = .ok (.iload 9, 2) := by decide +kernel
theorem dX7_cheapest_184 : decode cX7_cheapest 184 = .ok (.iload 10, 2) := by decide +kernel
theorem dX7_cheapest_186 : decode cX7_cheapest 186 = .ok (.if_icmp .le 8, 3) := by decide +kernel
theorem dX7_cheapest_189 : decode cX7_cheapest 189 = .ok (.iload 9, 2) := by decide +kernel
theorem dX7_cheapest_191 : decode cX7_cheapest 191 = .ok (.goto 5, 3) := by decide +kernel
theorem dX7_cheapest_194 : decode cX7_cheapest 194 = .ok (.iload 10, 2) := by decide +kernel
theorem dX7_cheapest_196 : decode cX7_cheapest 196 = .ok (.istore 11, 2) := by decide +kernel
theorem dX7_cheapest_198 : decode cX7_cheapest 198 = .ok (.iload 11, 2) := by decide +kernel
theorem dX7_cheapest_200 : decode cX7_cheapest 200 = .ok (.aload_n 0, 1) := by decide +kernel
theorem dX7_cheapest_201 : decode cX7_cheapest 201 = .ok (.getfield 17, 3) := by decide +kernel
theorem dX7_cheapest_204 : decode cX7_cheapest 204 = .ok (.iload_n 1, 1) := by decide +kernel
theorem dX7_cheapest_205 : decode cX7_cheapest 205 = .ok (.iaload, 1) := by decide +kernel
theorem dX7_cheapest_206 : decode cX7_cheapest 206 = .ok (.if_icmp .le 11, 3) := by decide +kernel
theorem dX7_cheapest_209 : decode cX7_cheapest 209 = .ok (.aload_n 0, 1) := by decide +kernel
theorem dX7_cheapest_210 : decode cX7_cheapest 210 = .ok (.getfield 17, 3) := by decide +kernel
theorem dX7_cheapest_213 : decode cX7_cheapest 213 = .ok (.iload_n 1, 1) := by decide +kernel
theorem dX7_cheapest_214 : decode cX7_cheapest 214 = .ok (.iaload, 1) := by decide +kernel
theorem dX7_cheapest_215 : decode cX7_cheapest 215 = .ok (.istore 11, 2) := by decide +kernel
theorem dX7_cheapest_217 : decode cX7_cheapest 217 = .ok (.iload 11, 2) := by decide +kernel
theorem dX7_cheapest_219 : decode cX7_cheapest 219 = .ok (.aload_n 0, 1) := by decide +kernel
theorem dX7_cheapest_220 : decode cX7_cheapest 220 = .ok (.getfield 17, 3) := by decide +kernel
theorem dX7_cheapest_223 : decode cX7_cheapest 223 = .ok (.iload_n 1, 1) := by decide +kernel
theorem dX7_cheapest_224 : decode cX7_cheapest 224 = .ok (.iaload, 1) := by decide +kernel
theorem dX7_cheapest_225 : decode cX7_cheapest 225 = .ok (.if_icmp .lt 8, 3) := by decide +kernel
theorem dX7_cheapest_228 : decode cX7_cheapest 228 = .ok (.iload 6, 2) := by decide +kernel
theorem dX7_cheapest_230 : decode cX7_cheapest 230 = .ok (.goto 21, 3) := by decide +kernel
theorem dX7_cheapest_233 : decode cX7_cheapest 233 = .ok (.iload 6, 2) := by decide +kernel
theorem dX7_cheapest_235 : decode cX7_cheapest 235 = .ok (.aload_n 0, 1) := by decide +kernel
theorem dX7_cheapest_236 : decode cX7_cheapest 236 = .ok (.getfield 106, 3) := by decide +kernel
theorem dX7_cheapest_239 : decode cX7_cheapest 239 = .ok (.bipush 31, 2) := by decide +kernel
theorem dX7_cheapest_241 : decode cX7_cheapest 241 = .ok (.iload_n 2, 1) := by decide +kernel
theorem dX7_cheapest_242 : decode cX7_cheapest 242 = .ok (.iload 8, 2) := by decide +kernel
theorem dX7_cheapest_244 : decode cX7_cheapest 244 = .ok (.iadd, 1) := by decide +kernel
theorem dX7_cheapest_245 : decode cX7_cheapest 245 = .ok (.imul, 1) := by decide +kernel
theorem dX7_cheapest_246 : decode cX7_cheapest 246 = .ok (.iload 11, 2) := by decide +kernel
theorem dX7_cheapest_248 : decode cX7_cheapest 248 = .ok (.iadd, 1) := by decide +kernel
theorem dX7_cheapest_249 : decode cX7_cheapest 249 = .ok (.iaload, 1) := by decide +kernel
theorem dX7_cheapest_250 : decode cX7_cheapest 250 = .ok (.iadd, 1) := by decide +kernel
theorem dX7_cheapest_251 : decode cX7_cheapest 251 = .ok (.istore 12, 2) := by decide +kernel
theorem dX7_cheapest_253 : decode cX7_cheapest 253 = .ok (.iload 12, 2) := by decide +kernel
theorem dX7_cheapest_255 : decode cX7_cheapest 255 = .ok (.iload 4, 2) := by decide +kernel
theorem dX7_cheapest_257 : decode cX7_cheapest 257 = .ok (.if_icmp .ge 7, 3) := by decide +kernel
theorem dX7_cheapest_260 : decode cX7_cheapest 260 = .ok (.iload 12, 2) := by decide +kernel
theorem dX7_cheapest_262 : decode cX7_cheapest 262 = .ok (.istore 4, 2) := by decide +kernel
theorem dX7_cheapest_264 : decode cX7_cheapest 264 = .ok (.iinc 8 1, 3) := by decide +kernel
theorem dX7_cheapest_267 : decode cX7_cheapest 267 = .ok (.goto (-221), 3) := by decide +kernel
theorem dX7_cheapest_270 : decode cX7_cheapest 270 = .ok (.iinc 5 1, 3) := by decide +kernel
theorem dX7_cheapest_273 : decode cX7_cheapest 273 = .ok (.goto (-255), 3) := by decide +kernel
theorem dX7_cheapest_276 : decode cX7_cheapest 276 = .ok (.iload 4, 2) := by decide +kernel
theorem dX7_cheapest_278 : decode cX7_cheapest 278 = .ok (.ireturn, 1) := by decide +kernel
set_option maxRecDepth 20000 in
theorem ggX7_oracle_X7_isJob : GoodIn wsX7_oracle wsX7_isJob := goodIn_r _ [10, 11, 12, 13, 9, 14, 27, 28, 29, 30, 31, 32, 33, 34, 35, 36, 37, 38, 39, 40, 41, 42, 43, 44, 45, 46, 47, 48, 49, 50, 51, 52, 53, 54, 55, 56, 57, 58, 59, 60, 61] (by decide +kernel) (by decide +kernel)
set_option maxRecDepth 20000 in
theorem gX7_oracle_X7_isJob : GoodIn wsX7_oracle (wsV RX7 141 RX7 yX7_isJob wsX7_isJob) := goodIn_app (goodIn_of _ (by decide +kernel)) ggX7_oracle_X7_isJob
set_option maxRecDepth 20000 in
theorem ggX7_oracle_X7_cheapest : GoodIn wsX7_oracle wsX7_cheapest := goodIn_r _ [18, 1, 19, 2, 5, 20, 21, 22, 23, 9, 24, 25, 26, 27, 28, 29, 30, 31, 32, 33, 34, 35, 36, 37, 38, 39, 40, 41, 42, 43, 44, 45, 46, 47, 48, 49, 50, 51, 52, 53, 54, 55, 56, 57, 58, 59, 60, 61] (by decide +kernel) (by decide +kernel)
set_option maxRecDepth 20000 in
theorem gX7_oracle_X7_cheapest : GoodIn wsX7_oracle (wsV RX7 194 RX7 yX7_cheapest wsX7_cheapest) := goodIn_app (goodIn_of _ (by decide +kernel)) ggX7_oracle_X7_cheapest
theorem dX7_oracle_0 : decode cX7_oracle 0 = .ok (.aload_n 0, 1) := by decide +kernel
theorem dX7_oracle_1 : decode cX7_oracle 1 = .ok (.iload_n 1, 1) := by decide +kernel
theorem dX7_oracle_2 : decode cX7_oracle 2 = .ok (.invokevirtual 141, 3) := by decide +kernel
theorem dX7_oracle_5 : decode cX7_oracle 5 = .ok (.ifCond .ne 5, 3) := by decide +kernel
theorem dX7_oracle_8 : decode cX7_oracle 8 = .ok (.iconst (-1), 1) := by decide +kernel
theorem dX7_oracle_9 : decode cX7_oracle 9 = .ok (.ireturn, 1) := by decide +kernel
theorem dX7_oracle_10 : decode cX7_oracle 10 = .ok (.iconst 0, 1) := by decide +kernel
theorem dX7_oracle_11 : decode cX7_oracle 11 = .ok (.istore_n 2, 1) := by decide +kernel
theorem dX7_oracle_12 : decode cX7_oracle 12 = .ok (.iload_n 2, 1) := by decide +kernel
theorem dX7_oracle_13 : decode cX7_oracle 13 = .ok (.bipush 31, 2) := by decide +kernel
theorem dX7_oracle_15 : decode cX7_oracle 15 = .ok (.if_icmp .ge 27, 3) := by decide +kernel
theorem dX7_oracle_18 : decode cX7_oracle 18 = .ok (.aload_n 0, 1) := by decide +kernel
theorem dX7_oracle_19 : decode cX7_oracle 19 = .ok (.getfield 106, 3) := by decide +kernel
theorem dX7_oracle_22 : decode cX7_oracle 22 = .ok (.bipush 31, 2) := by decide +kernel
theorem dX7_oracle_24 : decode cX7_oracle 24 = .ok (.aload_n 0, 1) := by decide +kernel
theorem dX7_oracle_25 : decode cX7_oracle 25 = .ok (.getfield 20, 3) := by decide +kernel
theorem dX7_oracle_28 : decode cX7_oracle 28 = .ok (.iload_n 1, 1) := by decide +kernel
theorem dX7_oracle_29 : decode cX7_oracle 29 = .ok (.iaload, 1) := by decide +kernel
theorem dX7_oracle_30 : decode cX7_oracle 30 = .ok (.imul, 1) := by decide +kernel
theorem dX7_oracle_31 : decode cX7_oracle 31 = .ok (.iload_n 2, 1) := by decide +kernel
theorem dX7_oracle_32 : decode cX7_oracle 32 = .ok (.iadd, 1) := by decide +kernel
theorem dX7_oracle_33 : decode cX7_oracle 33 = .ok (.ldc 193, 2) := by decide +kernel
theorem dX7_oracle_35 : decode cX7_oracle 35 = .ok (.iastore, 1) := by decide +kernel
theorem dX7_oracle_36 : decode cX7_oracle 36 = .ok (.iinc 2 1, 3) := by decide +kernel
theorem dX7_oracle_39 : decode cX7_oracle 39 = .ok (.goto (-27), 3) := by decide +kernel
theorem dX7_oracle_42 : decode cX7_oracle 42 = .ok (.aload_n 0, 1) := by decide +kernel
theorem dX7_oracle_43 : decode cX7_oracle 43 = .ok (.getfield 20, 3) := by decide +kernel
theorem dX7_oracle_46 : decode cX7_oracle 46 = .ok (.iload_n 1, 1) := by decide +kernel
theorem dX7_oracle_47 : decode cX7_oracle 47 = .ok (.iaload, 1) := by decide +kernel
theorem dX7_oracle_48 : decode cX7_oracle 48 = .ok (.iconst 1, 1) := by decide +kernel
theorem dX7_oracle_49 : decode cX7_oracle 49 = .ok (.isub, 1) := by decide +kernel
theorem dX7_oracle_50 : decode cX7_oracle 50 = .ok (.istore_n 2, 1) := by decide +kernel
theorem dX7_oracle_51 : decode cX7_oracle 51 = .ok (.iload_n 2, 1) := by decide +kernel
theorem dX7_oracle_52 : decode cX7_oracle 52 = .ok (.aload_n 0, 1) := by decide +kernel
theorem dX7_oracle_53 : decode cX7_oracle 53 = .ok (.getfield 38, 3) := by decide +kernel
theorem dX7_oracle_56 : decode cX7_oracle 56 = .ok (.iload_n 1, 1) := by decide +kernel
theorem dX7_oracle_57 : decode cX7_oracle 57 = .ok (.iaload, 1) := by decide +kernel
theorem dX7_oracle_58 : decode cX7_oracle 58 = .ok (.if_icmp .lt 45, 3) := by decide +kernel
theorem dX7_oracle_61 : decode cX7_oracle 61 = .ok (.iconst 0, 1) := by decide +kernel
theorem dX7_oracle_62 : decode cX7_oracle 62 = .ok (.istore_n 3, 1) := by decide +kernel
theorem dX7_oracle_63 : decode cX7_oracle 63 = .ok (.iload_n 3, 1) := by decide +kernel
theorem dX7_oracle_64 : decode cX7_oracle 64 = .ok (.aload_n 0, 1) := by decide +kernel
theorem dX7_oracle_65 : decode cX7_oracle 65 = .ok (.getfield 17, 3) := by decide +kernel
theorem dX7_oracle_68 : decode cX7_oracle 68 = .ok (.iload_n 1, 1) := by decide +kernel
theorem dX7_oracle_69 : decode cX7_oracle 69 = .ok (.iaload, 1) := by decide +kernel
theorem dX7_oracle_70 : decode cX7_oracle 70 = .ok (.if_icmp .ge 27, 3) := by decide +kernel
theorem dX7_oracle_73 : decode cX7_oracle 73 = .ok (.aload_n 0, 1) := by decide +kernel
theorem dX7_oracle_74 : decode cX7_oracle 74 = .ok (.getfield 106, 3) := by decide +kernel
theorem dX7_oracle_77 : decode cX7_oracle 77 = .ok (.bipush 31, 2) := by decide +kernel
theorem dX7_oracle_79 : decode cX7_oracle 79 = .ok (.iload_n 2, 1) := by decide +kernel
theorem dX7_oracle_80 : decode cX7_oracle 80 = .ok (.imul, 1) := by decide +kernel
theorem dX7_oracle_81 : decode cX7_oracle 81 = .ok (.iload_n 3, 1) := by decide +kernel
theorem dX7_oracle_82 : decode cX7_oracle 82 = .ok (.iadd, 1) := by decide +kernel
theorem dX7_oracle_83 : decode cX7_oracle 83 = .ok (.aload_n 0, 1) := by decide +kernel
theorem dX7_oracle_84 : decode cX7_oracle 84 = .ok (.iload_n 1, 1) := by decide +kernel
theorem dX7_oracle_85 : decode cX7_oracle 85 = .ok (.iload_n 2, 1) := by decide +kernel
theorem dX7_oracle_86 : decode cX7_oracle 86 = .ok (.iload_n 3, 1) := by decide +kernel
theorem dX7_oracle_87 : decode cX7_oracle 87 = .ok (.invokevirtual 194, 3) := by decide +kernel
theorem dX7_oracle_90 : decode cX7_oracle 90 = .ok (.iastore, 1) := by decide +kernel
theorem dX7_oracle_91 : decode cX7_oracle 91 = .ok (.iinc 3 1, 3) := by decide +kernel
theorem dX7_oracle_94 : decode cX7_oracle 94 = .ok (.goto (-31), 3) := by decide +kernel
theorem dX7_oracle_97 : decode cX7_oracle 97 = .ok (.iinc 2 (-1), 3) := by decide +kernel
theorem dX7_oracle_100 : decode cX7_oracle 100 = .ok (.goto (-49), 3) := by decide +kernel
theorem dX7_oracle_103 : decode cX7_oracle 103 = .ok (.aload_n 0, 1) := by decide +kernel
theorem dX7_oracle_104 : decode cX7_oracle 104 = .ok (.getfield 106, 3) := by decide +kernel
theorem dX7_oracle_107 : decode cX7_oracle 107 = .ok (.bipush 31, 2) := by decide +kernel
theorem dX7_oracle_109 : decode cX7_oracle 109 = .ok (.aload_n 0, 1) := by decide +kernel
theorem dX7_oracle_110 : decode cX7_oracle 110 = .ok (.getfield 38, 3) := by decide +kernel
theorem dX7_oracle_113 : decode cX7_oracle 113 = .ok (.iload_n 1, 1) := by decide +kernel
theorem dX7_oracle_114 : decode cX7_oracle 114 = .ok (.iaload, 1) := by decide +kernel
theorem dX7_oracle_115 : decode cX7_oracle 115 = .ok (.imul, 1) := by decide +kernel
theorem dX7_oracle_116 : decode cX7_oracle 116 = .ok (.iaload, 1) := by decide +kernel
theorem dX7_oracle_117 : decode cX7_oracle 117 = .ok (.ireturn, 1) := by decide +kernel
theorem dX7_count_0 : decode cX7_count 0 = .ok (.iconst 0, 1) := by decide +kernel
theorem dX7_count_1 : decode cX7_count 1 = .ok (.istore_n 2, 1) := by decide +kernel
theorem dX7_count_2 : decode cX7_count 2 = .ok (.iload_n 1, 1) := by decide +kernel
theorem dX7_count_3 : decode cX7_count 3 = .ok (.tableswitch 120 0 5 #[37, 42, 47, 83, 110, 115], 37) := by decide +kernel
theorem dX7_count_40 : decode cX7_count 40 = .ok (.aload_n 0, 1) := by decide +kernel
theorem dX7_count_41 : decode cX7_count 41 = .ok (.getfield 116, 3) := by decide +kernel
theorem dX7_count_44 : decode cX7_count 44 = .ok (.ireturn, 1) := by decide +kernel
theorem dX7_count_45 : decode cX7_count 45 = .ok (.aload_n 0, 1) := by decide +kernel
theorem dX7_count_46 : decode cX7_count 46 = .ok (.getfield 109, 3) := by decide +kernel
theorem dX7_count_49 : decode cX7_count 49 = .ok (.ireturn, 1) := by decide +kernel
theorem dX7_count_50 : decode cX7_count 50 = .ok (.iconst 0, 1) := by decide +kernel
theorem dX7_count_51 : decode cX7_count 51 = .ok (.istore_n 3, 1) := by decide +kernel
theorem dX7_count_52 : decode cX7_count 52 = .ok (.iload_n 3, 1) := by decide +kernel
theorem dX7_count_53 : decode cX7_count 53 = .ok (.aload_n 0, 1) := by decide +kernel
theorem dX7_count_54 : decode cX7_count 54 = .ok (.getfield 109, 3) := by decide +kernel
theorem dX7_count_57 : decode cX7_count 57 = .ok (.if_icmp .ge 27, 3) := by decide +kernel
theorem dX7_count_60 : decode cX7_count 60 = .ok (.iload_n 2, 1) := by decide +kernel
theorem dX7_count_61 : decode cX7_count 61 = .ok (.aload_n 0, 1) := by decide +kernel
theorem dX7_count_62 : decode cX7_count 62 = .ok (.getfield 71, 3) := by decide +kernel
theorem dX7_count_65 : decode cX7_count 65 = .ok (.iload_n 3, 1) := by decide +kernel
theorem dX7_count_66 : decode cX7_count 66 = .ok (.iaload, 1) := by decide +kernel
theorem dX7_count_67 : decode cX7_count 67 = .ok (.iconst (-1), 1) := by decide +kernel
theorem dX7_count_68 : decode cX7_count 68 = .ok (.if_icmp .eq 7, 3) := by decide +kernel
theorem dX7_count_71 : decode cX7_count 71 = .ok (.iconst 1, 1) := by decide +kernel
theorem dX7_count_72 : decode cX7_count 72 = .ok (.goto 4, 3) := by decide +kernel
theorem dX7_count_75 : decode cX7_count 75 = .ok (.iconst 0, 1) := by decide +kernel
theorem dX7_count_76 : decode cX7_count 76 = .ok (.iadd, 1) := by decide +kernel
theorem dX7_count_77 : decode cX7_count 77 = .ok (.istore_n 2, 1) := by decide +kernel
theorem dX7_count_78 : decode cX7_count 78 = .ok (.iinc 3 1, 3) := by decide +kernel
theorem dX7_count_81 : decode cX7_count 81 = .ok (.goto (-29), 3) := by decide +kernel
theorem dX7_count_84 : decode cX7_count 84 = .ok (.iload_n 2, 1) := by decide +kernel
theorem dX7_count_85 : decode cX7_count 85 = .ok (.ireturn, 1) := by decide +kernel
theorem dX7_count_86 : decode cX7_count 86 = .ok (.iconst 0, 1) := by decide +kernel
theorem dX7_count_87 : decode cX7_count 87 = .ok (.istore_n 3, 1) := by decide +kernel
theorem dX7_count_88 : decode cX7_count 88 = .ok (.iload_n 3, 1) := by decide +kernel
theorem dX7_count_89 : decode cX7_count 89 = .ok (.aload_n 0, 1) := by decide +kernel
theorem dX7_count_90 : decode cX7_count 90 = .ok (.getfield 109, 3) := by decide +kernel
theorem dX7_count_93 : decode cX7_count 93 = .ok (.if_icmp .ge 18, 3) := by decide +kernel
theorem dX7_count_96 : decode cX7_count 96 = .ok (.iload_n 2, 1) := by decide +kernel
theorem dX7_count_97 : decode cX7_count 97 = .ok (.aload_n 0, 1) := by decide +kernel
theorem dX7_count_98 : decode cX7_count 98 = .ok (.getfield 62, 3) := by decide +kernel
theorem dX7_count_101 : decode cX7_count 101 = .ok (.iload_n 3, 1) := by decide +kernel
theorem dX7_count_102 : decode cX7_count 102 = .ok (.iaload, 1) := by decide +kernel
theorem dX7_count_103 : decode cX7_count 103 = .ok (.iadd, 1) := by decide +kernel
theorem dX7_count_104 : decode cX7_count 104 = .ok (.istore_n 2, 1) := by decide +kernel
theorem dX7_count_105 : decode cX7_count 105 = .ok (.iinc 3 1, 3) := by decide +kernel
theorem dX7_count_108 : decode cX7_count 108 = .ok (.goto (-20), 3) := by decide +kernel
theorem dX7_count_111 : decode cX7_count 111 = .ok (.iload_n 2, 1) := by decide +kernel
theorem dX7_count_112 : decode cX7_count 112 = .ok (.ireturn, 1) := by decide +kernel
theorem dX7_count_113 : decode cX7_count 113 = .ok (.aload_n 0, 1) := by decide +kernel
theorem dX7_count_114 : decode cX7_count 114 = .ok (.getfield 162, 3) := by decide +kernel
theorem dX7_count_117 : decode cX7_count 117 = .ok (.ireturn, 1) := by decide +kernel
theorem dX7_count_118 : decode cX7_count 118 = .ok (.aload_n 0, 1) := by decide +kernel
theorem dX7_count_119 : decode cX7_count 119 = .ok (.getfield 7, 3) := by decide +kernel
theorem dX7_count_122 : decode cX7_count 122 = .ok (.ireturn, 1) := by decide +kernel
theorem dX7_count_123 : decode cX7_count 123 = .ok (.iconst (-1), 1) := by decide +kernel
theorem dX7_count_124 : decode cX7_count 124 = .ok (.ireturn, 1) := by decide +kernel
theorem dJ9_max_7cf53_0 : decode cJ9_max_7cf53 0 = .ok (.iload_n 0, 1) := by decide +kernel
theorem dJ9_max_7cf53_1 : decode cJ9_max_7cf53 1 = .ok (.iload_n 1, 1) := by decide +kernel
theorem dJ9_max_7cf53_2 : decode cJ9_max_7cf53 2 = .ok (.if_icmp .lt 7, 3) := by decide +kernel
theorem dJ9_max_7cf53_5 : decode cJ9_max_7cf53 5 = .ok (.iload_n 0, 1) := by decide +kernel
theorem dJ9_max_7cf53_6 : decode cJ9_max_7cf53 6 = .ok (.goto 4, 3) := by decide +kernel
theorem dJ9_max_7cf53_9 : decode cJ9_max_7cf53 9 = .ok (.iload_n 1, 1) := by decide +kernel
theorem dJ9_max_7cf53_10 : decode cJ9_max_7cf53 10 = .ok (.ireturn, 1) := by decide +kernel
theorem dJ9_min_7cf53_0 : decode cJ9_min_7cf53 0 = .ok (.iload_n 0, 1) := by decide +kernel
theorem dJ9_min_7cf53_1 : decode cJ9_min_7cf53 1 = .ok (.iload_n 1, 1) := by decide +kernel
theorem dJ9_min_7cf53_2 : decode cJ9_min_7cf53 2 = .ok (.if_icmp .gt 7, 3) := by decide +kernel
theorem dJ9_min_7cf53_5 : decode cJ9_min_7cf53 5 = .ok (.iload_n 0, 1) := by decide +kernel
theorem dJ9_min_7cf53_6 : decode cJ9_min_7cf53 6 = .ok (.goto 4, 3) := by decide +kernel
theorem dJ9_min_7cf53_9 : decode cJ9_min_7cf53 9 = .ok (.iload_n 1, 1) := by decide +kernel
theorem dJ9_min_7cf53_10 : decode cJ9_min_7cf53 10 = .ok (.ireturn, 1) := by decide +kernel
theorem dJ7_fill_53178_0 : decode cJ7_fill_53178 0 = .ok (.iconst 0, 1) := by decide +kernel
theorem dJ7_fill_53178_1 : decode cJ7_fill_53178 1 = .ok (.istore_n 2, 1) := by decide +kernel
theorem dJ7_fill_53178_2 : decode cJ7_fill_53178 2 = .ok (.aload_n 0, 1) := by decide +kernel
theorem dJ7_fill_53178_3 : decode cJ7_fill_53178 3 = .ok (.arraylength, 1) := by decide +kernel
theorem dJ7_fill_53178_4 : decode cJ7_fill_53178 4 = .ok (.istore_n 3, 1) := by decide +kernel
theorem dJ7_fill_53178_5 : decode cJ7_fill_53178 5 = .ok (.iload_n 2, 1) := by decide +kernel
theorem dJ7_fill_53178_6 : decode cJ7_fill_53178 6 = .ok (.iload_n 3, 1) := by decide +kernel
theorem dJ7_fill_53178_7 : decode cJ7_fill_53178 7 = .ok (.if_icmp .ge 13, 3) := by decide +kernel
theorem dJ7_fill_53178_10 : decode cJ7_fill_53178 10 = .ok (.aload_n 0, 1) := by decide +kernel
theorem dJ7_fill_53178_11 : decode cJ7_fill_53178 11 = .ok (.iload_n 2, 1) := by decide +kernel
theorem dJ7_fill_53178_12 : decode cJ7_fill_53178 12 = .ok (.iload_n 1, 1) := by decide +kernel
theorem dJ7_fill_53178_13 : decode cJ7_fill_53178 13 = .ok (.iastore, 1) := by decide +kernel
theorem dJ7_fill_53178_14 : decode cJ7_fill_53178 14 = .ok (.iinc 2 1, 3) := by decide +kernel
theorem dJ7_fill_53178_17 : decode cJ7_fill_53178 17 = .ok (.goto (-12), 3) := by decide +kernel
theorem dJ7_fill_53178_20 : decode cJ7_fill_53178 20 = .ok (.return_, 1) := by decide +kernel
set_option maxRecDepth 20000 in
theorem ggL_law_X6_init : GoodIn wsL_law wsX6_init := goodIn_r _ [8, 9, 10, 11, 12, 13, 14, 15, 16, 17, 18, 19, 20, 21, 22, 23, 24, 25, 26, 27, 28, 29, 30, 31, 32, 33, 34, 35, 36, 37, 38, 39, 40, 41, 42, 43, 44, 45, 46, 47, 48, 49, 50, 51, 52, 53, 54, 637, 638, 596, 597, 598, 599, 600, 601, 639, 640, 641, 642, 643, 644, 645, 646, 647, 648, 649] (by decide +kernel) (by decide +kernel)
set_option maxRecDepth 20000 in
theorem gL_law_X6_init : GoodIn wsL_law (wsX6_init) := ggL_law_X6_init
set_option maxRecDepth 20000 in
theorem ggL_law_X7_init : GoodIn wsL_law wsX7_init := goodIn_r _ [57, 58, 10, 11, 59, 30, 60, 61, 62, 63, 64, 65, 66, 67, 68, 69, 70, 71, 72, 73, 74, 75, 76, 77, 78, 79, 80, 81, 82, 83, 84, 85, 86, 87, 44, 88, 89, 90, 91, 602, 603, 604, 605, 606, 607, 608, 609, 610, 611, 612, 613, 614, 615, 616, 617, 618, 619, 620, 621, 622, 623, 624, 625, 626, 627, 628, 629, 630, 631, 632, 633, 634, 635, 636] (by decide +kernel) (by decide +kernel)
set_option maxRecDepth 20000 in
theorem gL_law_X7_init : GoodIn wsL_law (wsX7_init) := ggL_law_X7_init
set_option maxRecDepth 20000 in
theorem ggL_law_X6_price : GoodIn wsL_law wsX6_price := goodIn_r _ [95, 96, 15, 97, 98, 2, 99, 100, 101, 102, 14, 103, 31, 104, 105, 106, 596, 597, 598, 599, 600, 601, 637, 638] (by decide +kernel) (by decide +kernel)
set_option maxRecDepth 20000 in
theorem gL_law_X6_price : GoodIn wsL_law (wsV RL 13 RX6 yX6_price wsX6_price) := goodIn_app (goodIn_of _ (by decide +kernel)) ggL_law_X6_price
set_option maxRecDepth 20000 in
theorem ggL_law_X7_price : GoodIn wsL_law wsX7_price := goodIn_r _ [110, 111, 60, 112, 113, 5, 114, 602, 603, 604, 605, 606, 607, 608, 609, 610, 611, 612, 613, 614, 615, 616, 617, 618, 619, 620, 621, 622, 623, 624, 625, 626, 627, 628, 629, 630, 631, 632, 633, 634, 635, 636] (by decide +kernel) (by decide +kernel)
set_option maxRecDepth 20000 in
theorem gL_law_X7_price : GoodIn wsL_law (wsV RL 17 RX7 yX7_price wsX7_price) := goodIn_app (goodIn_of _ (by decide +kernel)) ggL_law_X7_price
set_option maxRecDepth 20000 in
theorem ggL_law_X6_full : GoodIn wsL_law wsX6_full := goodIn_r _ [118, 96, 119, 15, 120, 21, 97, 98, 2, 99, 121, 122, 123, 20, 124, 125, 596, 597, 598, 599, 600, 601, 637, 638, 639, 640, 641, 642, 643, 644, 645, 646, 647] (by decide +kernel) (by decide +kernel)
set_option maxRecDepth 20000 in
theorem gL_law_X6_full : GoodIn wsL_law (wsV RL 18 RX6 yX6_full wsX6_full) := goodIn_app (goodIn_of _ (by decide +kernel)) ggL_law_X6_full
set_option maxRecDepth 20000 in
theorem ggL_law_X7_full : GoodIn wsL_law wsX7_full := goodIn_r _ [129, 111, 130, 59, 112, 113, 5, 114, 602, 603, 604, 605, 606, 607, 608, 609, 610, 611, 612, 613, 614, 615, 616, 617, 618, 619, 620, 621, 622, 623, 624, 625, 626, 627, 628, 629, 630, 631, 632, 633, 634, 635, 636] (by decide +kernel) (by decide +kernel)
set_option maxRecDepth 20000 in
theorem gL_law_X7_full : GoodIn wsL_law (wsV RL 22 RX7 yX7_full wsX7_full) := goodIn_app (goodIn_of _ (by decide +kernel)) ggL_law_X7_full
set_option maxRecDepth 20000 in
theorem ggL_law_X6_job : GoodIn wsL_law wsX6_job := goodIn_r _ [134, 119, 17, 135, 136, 137, 96, 16, 138, 139, 97, 98, 2, 99, 140, 141, 142, 143, 10, 11, 144, 145, 146, 147, 148, 149, 150, 151, 152, 153, 154, 155, 156, 157, 158, 159, 160, 161, 162, 163, 596, 597, 598, 599, 600, 601, 650, 651, 652, 653, 654, 655, 656, 657, 658, 659, 660, 661, 662, 663, 664, 665, 666, 667, 668, 669, 670, 671, 672, 673] (by decide +kernel) (by decide +kernel)
set_option maxRecDepth 20000 in
theorem gL_law_X6_job : GoodIn wsL_law (wsV RL 23 RX6 yX6_job wsX6_job) := goodIn_app (goodIn_of _ (by decide +kernel)) ggL_law_X6_job
set_option maxRecDepth 20000 in
theorem ggL_law_X7_job : GoodIn wsL_law wsX7_job := goodIn_r _ [167, 168, 111, 130, 61, 62, 63, 66, 67, 64, 65, 68, 79, 112, 113, 5, 114, 602, 603, 604, 605, 606, 607, 608, 609, 610, 611, 612, 613, 614, 615, 616, 617, 618, 619, 620, 621, 622, 623, 624, 625, 626, 627, 628, 629, 630, 631, 632, 633, 634, 635, 636] (by decide +kernel) (by decide +kernel)
set_option maxRecDepth 20000 in
theorem gL_law_X7_job : GoodIn wsL_law (wsV RL 27 RX7 yX7_job wsX7_job) := goodIn_app (goodIn_of _ (by decide +kernel)) ggL_law_X7_job
set_option maxRecDepth 20000 in
theorem ggL_law_X6_go : GoodIn wsL_law wsX6_go := goodIn_r _ [172, 96, 173, 174, 175, 176, 97, 98, 2, 99, 177, 178, 179, 180, 119, 15, 181, 182, 183, 184, 17, 185, 186, 187, 139, 188, 189, 161, 190, 191, 192, 193, 194, 195, 163, 162, 196, 197, 198, 199, 200, 201, 202, 203, 204, 205, 206, 207, 14, 208, 32, 31, 104, 105, 106, 209, 210, 211, 212, 213, 214, 215, 216, 217, 218, 219, 220, 221, 222, 223, 224, 225, 226, 227, 228, 229, 230, 231, 232, 233, 234, 235, 236, 237, 238, 239, 240, 241, 242, 243, 244, 245, 246, 247, 248, 249, 250, 251, 252, 253, 254, 255, 256, 257, 596, 597, 598, 599, 600, 601, 658, 659, 660, 661, 662, 663, 664, 665, 666, 667, 668, 669, 670, 671, 672, 673, 650, 651, 652, 653, 654, 655, 656, 657, 637, 638] (by decide +kernel) (by decide +kernel)
set_option maxRecDepth 20000 in
theorem gL_law_X6_go : GoodIn wsL_law (wsV RL 28 RX6 yX6_go wsX6_go) := goodIn_app (goodIn_of _ (by decide +kernel)) ggL_law_X6_go
set_option maxRecDepth 20000 in
theorem ggL_law_X7_go : GoodIn wsL_law wsX7_go := goodIn_r _ [261, 111, 130, 79, 112, 113, 5, 114, 262, 263, 264, 265, 85, 62, 60, 63, 64, 78, 80, 75, 69, 61, 266, 267, 268, 269, 67, 270, 271, 272, 273, 81, 71, 76, 59, 77, 73, 72, 274, 275, 276, 277, 70, 82, 83, 278, 279, 280, 281, 74, 65, 66, 282, 283, 284, 285, 602, 603, 604, 605, 606, 607, 608, 609, 610, 611, 612, 613, 614, 615, 616, 617, 618, 619, 620, 621, 622, 623, 624, 625, 626, 627, 628, 629, 630, 631, 632, 633, 634, 635, 636] (by decide +kernel) (by decide +kernel)
set_option maxRecDepth 20000 in
theorem gL_law_X7_go : GoodIn wsL_law (wsV RL 32 RX7 yX7_go wsX7_go) := goodIn_app (goodIn_of _ (by decide +kernel)) ggL_law_X7_go
set_option maxRecDepth 20000 in
theorem ggL_law_X6_told : GoodIn wsL_law wsX6_told := goodIn_r _ [289, 181, 182, 183, 2, 184, 17, 97, 98, 99, 290, 291, 292, 139, 293, 194, 226, 221, 216, 232, 247, 238, 213, 214, 162, 163, 237, 200, 201, 202, 203, 161, 204, 195, 596, 597, 598, 599, 600, 601, 658, 659, 660, 661, 662, 663, 664, 665, 666, 667, 668, 669, 670, 671, 672, 673, 650, 651, 652, 653, 654, 655, 656, 657] (by decide +kernel) (by decide +kernel)
set_option maxRecDepth 20000 in
theorem gL_law_X6_told : GoodIn wsL_law (wsV RL 33 RX6 yX6_told wsX6_told) := goodIn_app (goodIn_of _ (by decide +kernel)) ggL_law_X6_told
set_option maxRecDepth 20000 in
theorem ggL_law_X7_told : GoodIn wsL_law wsX7_told := goodIn_r _ [297, 69, 70, 71, 72, 73, 74, 75, 76, 77, 78, 79, 80, 298, 299, 300, 5, 301, 130, 112, 113, 114, 266, 267, 268, 269, 67, 61, 602, 603, 604, 605, 606, 607, 608, 609, 610, 611, 612, 613, 614, 615, 616, 617, 618, 619, 620, 621, 622, 623, 624, 625, 626, 627, 628, 629, 630, 631, 632, 633, 634, 635, 636] (by decide +kernel) (by decide +kernel)
set_option maxRecDepth 20000 in
theorem gL_law_X7_told : GoodIn wsL_law (wsV RL 37 RX7 yX7_told wsX7_told) := goodIn_app (goodIn_of _ (by decide +kernel)) ggL_law_X7_told
set_option maxRecDepth 20000 in
theorem ggL_law_X6_span : GoodIn wsL_law wsX6_span := goodIn_r _ [305, 306, 307, 308, 309, 98, 2, 99, 310, 311, 312, 313, 314, 315, 316, 174, 175, 176, 317, 318, 319] (by decide +kernel) (by decide +kernel)
set_option maxRecDepth 20000 in
theorem gL_law_X6_span : GoodIn wsL_law (wsV RL 38 RX6 yX6_span wsX6_span) := goodIn_app (goodIn_of _ (by decide +kernel)) ggL_law_X6_span
set_option maxRecDepth 20000 in
theorem ggL_law_X7_span : GoodIn wsL_law wsX7_span := goodIn_r _ [323, 324, 325, 5, 326, 112, 113, 114, 327, 328, 329, 330, 331, 332, 333, 334, 335] (by decide +kernel) (by decide +kernel)
set_option maxRecDepth 20000 in
theorem gL_law_X7_span : GoodIn wsL_law (wsV RL 41 RX7 yX7_span wsX7_span) := goodIn_app (goodIn_of _ (by decide +kernel)) ggL_law_X7_span
set_option maxRecDepth 20000 in
theorem ggL_law_X6_mean : GoodIn wsL_law wsX6_mean := goodIn_r _ [339, 340, 306, 307, 308, 309, 98, 2, 99, 97, 341, 318, 319, 342, 314, 315, 316, 174, 175, 176, 317, 343, 344, 345] (by decide +kernel) (by decide +kernel)
set_option maxRecDepth 20000 in
theorem gL_law_X6_mean : GoodIn wsL_law (wsV RL 42 RX6 yX6_mean wsX6_mean) := goodIn_app (goodIn_of _ (by decide +kernel)) ggL_law_X6_mean
set_option maxRecDepth 20000 in
theorem ggL_law_X7_mean : GoodIn wsL_law wsX7_mean := goodIn_r _ [349, 350, 324, 325, 5, 326, 112, 113, 114, 327, 328, 329, 330, 331, 332, 333, 334, 335] (by decide +kernel) (by decide +kernel)
set_option maxRecDepth 20000 in
theorem gL_law_X7_mean : GoodIn wsL_law (wsV RL 46 RX7 yX7_mean wsX7_mean) := goodIn_app (goodIn_of _ (by decide +kernel)) ggL_law_X7_mean
set_option maxRecDepth 20000 in
theorem ggL_law_X6_levels : GoodIn wsL_law wsX6_levels := goodIn_r _ [354, 21, 97, 98, 2, 99, 355, 356, 357, 20, 358, 359, 360, 361, 362, 363, 42, 43, 125, 596, 597, 598, 599, 600, 601, 639, 640, 641, 642, 643, 644, 645, 646, 647] (by decide +kernel) (by decide +kernel)
set_option maxRecDepth 20000 in
theorem gL_law_X6_levels : GoodIn wsL_law (wsV RL 47 RX6 yX6_levels wsX6_levels) := goodIn_app (goodIn_of _ (by decide +kernel)) ggL_law_X6_levels
set_option maxRecDepth 20000 in
theorem ggL_law_X7_levels : GoodIn wsL_law wsX7_levels := goodIn_r _ [367, 368, 87, 86, 112, 113, 5, 114, 602, 603, 604, 605, 606, 607, 608, 609, 610, 611, 612, 613, 614, 615, 616, 617, 618, 619, 620, 621, 622, 623, 624, 625, 626, 627, 628, 629, 630, 631, 632, 633, 634, 635, 636] (by decide +kernel) (by decide +kernel)
set_option maxRecDepth 20000 in
theorem gL_law_X7_levels : GoodIn wsL_law (wsV RL 50 RX7 yX7_levels wsX7_levels) := goodIn_app (goodIn_of _ (by decide +kernel)) ggL_law_X7_levels
set_option maxRecDepth 20000 in
theorem ggL_law_X6_level : GoodIn wsL_law wsX6_level := goodIn_r _ [372, 21, 373, 374, 375, 20, 376, 359, 98, 2, 99, 97, 377, 378, 379, 380, 381, 361, 362, 363, 42, 43, 125, 596, 597, 598, 599, 600, 601, 639, 640, 641, 642, 643, 644, 645, 646, 647] (by decide +kernel) (by decide +kernel)
set_option maxRecDepth 20000 in
theorem gL_law_X6_level : GoodIn wsL_law (wsV RL 51 RX6 yX6_level wsX6_level) := goodIn_app (goodIn_of _ (by decide +kernel)) ggL_law_X6_level
set_option maxRecDepth 20000 in
theorem ggL_law_X7_level : GoodIn wsL_law wsX7_level := goodIn_r _ [385, 368, 87, 86, 112, 113, 5, 114, 602, 603, 604, 605, 606, 607, 608, 609, 610, 611, 612, 613, 614, 615, 616, 617, 618, 619, 620, 621, 622, 623, 624, 625, 626, 627, 628, 629, 630, 631, 632, 633, 634, 635, 636] (by decide +kernel) (by decide +kernel)
set_option maxRecDepth 20000 in
theorem gL_law_X7_level : GoodIn wsL_law (wsV RL 55 RX7 yX7_level wsX7_level) := goodIn_app (goodIn_of _ (by decide +kernel)) ggL_law_X7_level
set_option maxRecDepth 20000 in
theorem ggL_law_X6_table : GoodIn wsL_law wsX6_table := goodIn_r _ [389, 21, 340, 390, 391, 392, 20, 393, 98, 2, 99, 394, 374, 375, 376, 359, 395, 396, 397, 398, 45, 399, 400, 401, 402, 125, 403, 404, 405, 406, 46, 41, 407, 408, 409, 410, 411, 318, 308, 319, 412, 413, 414, 415, 416, 417, 418, 419, 43, 420, 421, 422, 423, 424, 425, 426, 42, 427, 428, 429, 430, 47, 431, 432, 433, 434, 435, 436, 175, 437, 438, 439, 440, 596, 597, 598, 599, 600, 601, 639, 640, 641, 642, 643, 644, 645, 646, 647, 637, 638] (by decide +kernel) (by decide +kernel)
set_option maxRecDepth 20000 in
theorem gL_law_X6_table : GoodIn wsL_law (wsV RL 56 RX6 yX6_table wsX6_table) := goodIn_app (goodIn_of _ (by decide +kernel)) ggL_law_X6_table
set_option maxRecDepth 20000 in
theorem ggL_law_X7_table : GoodIn wsL_law wsX7_table := goodIn_r _ [444, 350, 88, 445, 446, 447, 5, 448, 368, 112, 113, 114, 449, 450, 451, 452, 333, 334, 335, 453, 454, 455, 456, 89, 90, 86, 59, 457, 458, 459, 460, 461, 462, 463, 87, 464, 465, 466, 467, 468, 469, 470, 471, 602, 603, 604, 605, 606, 607, 608, 609, 610, 611, 612, 613, 614, 615, 616, 617, 618, 619, 620, 621, 622, 623, 624, 625, 626, 627, 628, 629, 630, 631, 632, 633, 634, 635, 636] (by decide +kernel) (by decide +kernel)
set_option maxRecDepth 20000 in
theorem gL_law_X7_table : GoodIn wsL_law (wsV RL 60 RX7 yX7_table wsX7_table) := goodIn_app (goodIn_of _ (by decide +kernel)) ggL_law_X7_table
set_option maxRecDepth 20000 in
theorem ggL_law_X6_rule : GoodIn wsL_law wsX6_rule := goodIn_r _ [475, 21, 390, 391, 392, 20, 393, 98, 2, 99, 394, 374, 375, 376, 359, 476, 477, 478, 479, 46, 399, 400, 401, 402, 125, 403, 404, 405, 406, 45, 41, 407, 408, 409, 410, 411, 318, 308, 319, 412, 413, 414, 415, 416, 417, 418, 419, 43, 420, 421, 422, 423, 424, 425, 426, 42, 427, 428, 429, 430, 47, 431, 432, 433, 434, 435, 436, 175, 437, 438, 439, 440, 596, 597, 598, 599, 600, 601, 639, 640, 641, 642, 643, 644, 645, 646, 647, 637, 638] (by decide +kernel) (by decide +kernel)
set_option maxRecDepth 20000 in
theorem gL_law_X6_rule : GoodIn wsL_law (wsV RL 61 RX6 yX6_rule wsX6_rule) := goodIn_app (goodIn_of _ (by decide +kernel)) ggL_law_X6_rule
set_option maxRecDepth 20000 in
theorem ggL_law_X7_rule : GoodIn wsL_law wsX7_rule := goodIn_r _ [483, 89, 445, 446, 447, 5, 448, 368, 112, 113, 114, 449, 450, 451, 452, 333, 334, 335, 453, 454, 455, 456, 88, 90, 86, 59, 457, 458, 459, 460, 461, 462, 463, 87, 464, 465, 466, 467, 468, 469, 470, 471, 602, 603, 604, 605, 606, 607, 608, 609, 610, 611, 612, 613, 614, 615, 616, 617, 618, 619, 620, 621, 622, 623, 624, 625, 626, 627, 628, 629, 630, 631, 632, 633, 634, 635, 636] (by decide +kernel) (by decide +kernel)
set_option maxRecDepth 20000 in
theorem gL_law_X7_rule : GoodIn wsL_law (wsV RL 64 RX7 yX7_rule wsX7_rule) := goodIn_app (goodIn_of _ (by decide +kernel)) ggL_law_X7_rule
set_option maxRecDepth 20000 in
theorem ggL_law_X6_worst : GoodIn wsL_law wsX6_worst := goodIn_r _ [487, 21, 390, 391, 392, 20, 393, 98, 2, 99, 394, 374, 375, 376, 359, 488, 489, 490, 491, 47, 399, 400, 401, 402, 125, 403, 404, 405, 406, 45, 46, 41, 407, 408, 409, 410, 411, 318, 308, 319, 412, 413, 414, 415, 416, 417, 418, 419, 43, 420, 421, 422, 423, 424, 425, 426, 42, 427, 428, 429, 430, 431, 432, 433, 434, 435, 436, 175, 437, 438, 439, 440, 596, 597, 598, 599, 600, 601, 639, 640, 641, 642, 643, 644, 645, 646, 647, 637, 638] (by decide +kernel) (by decide +kernel)
set_option maxRecDepth 20000 in
theorem gL_law_X6_worst : GoodIn wsL_law (wsV RL 65 RX6 yX6_worst wsX6_worst) := goodIn_app (goodIn_of _ (by decide +kernel)) ggL_law_X6_worst
set_option maxRecDepth 20000 in
theorem ggL_law_X7_worst : GoodIn wsL_law wsX7_worst := goodIn_r _ [495, 90, 445, 446, 447, 5, 448, 368, 112, 113, 114, 449, 450, 451, 452, 333, 334, 335, 453, 454, 455, 456, 88, 89, 86, 59, 457, 458, 459, 460, 461, 462, 463, 87, 464, 465, 466, 467, 468, 469, 470, 471, 602, 603, 604, 605, 606, 607, 608, 609, 610, 611, 612, 613, 614, 615, 616, 617, 618, 619, 620, 621, 622, 623, 624, 625, 626, 627, 628, 629, 630, 631, 632, 633, 634, 635, 636] (by decide +kernel) (by decide +kernel)
set_option maxRecDepth 20000 in
theorem gL_law_X7_worst : GoodIn wsL_law (wsV RL 68 RX7 yX7_worst wsX7_worst) := goodIn_app (goodIn_of _ (by decide +kernel)) ggL_law_X7_worst
set_option maxRecDepth 20000 in
theorem ggL_law_X6_capped : GoodIn wsL_law wsX6_capped := goodIn_r _ [499, 21, 340, 390, 391, 392, 20, 393, 98, 2, 99, 394, 374, 375, 376, 359, 97, 500, 501, 502, 503, 504, 174, 175, 176, 48, 505, 506, 507, 508, 41, 407, 408, 409, 410, 423, 424, 425, 426, 42, 412, 413, 414, 415, 416, 417, 418, 419, 43, 420, 421, 422, 411, 318, 308, 319, 596, 597, 598, 599, 600, 601, 639, 640, 641, 642, 643, 644, 645, 646, 647, 637, 638] (by decide +kernel) (by decide +kernel)
set_option maxRecDepth 20000 in
theorem gL_law_X6_capped : GoodIn wsL_law (wsV RL 69 RX6 yX6_capped wsX6_capped) := goodIn_app (goodIn_of _ (by decide +kernel)) ggL_law_X6_capped
set_option maxRecDepth 20000 in
theorem ggL_law_X7_capped : GoodIn wsL_law wsX7_capped := goodIn_r _ [512, 350, 88, 445, 446, 447, 5, 448, 368, 112, 113, 114, 449, 450, 451, 452, 333, 334, 335, 453, 454, 455, 456, 89, 90, 86, 59, 457, 458, 459, 460, 461, 462, 463, 87, 464, 465, 466, 467, 468, 469, 470, 471, 602, 603, 604, 605, 606, 607, 608, 609, 610, 611, 612, 613, 614, 615, 616, 617, 618, 619, 620, 621, 622, 623, 624, 625, 626, 627, 628, 629, 630, 631, 632, 633, 634, 635, 636] (by decide +kernel) (by decide +kernel)
set_option maxRecDepth 20000 in
theorem gL_law_X7_capped : GoodIn wsL_law (wsV RL 73 RX7 yX7_capped wsX7_capped) := goodIn_app (goodIn_of _ (by decide +kernel)) ggL_law_X7_capped
set_option maxRecDepth 20000 in
theorem ggL_law_X6_oracle : GoodIn wsL_law wsX6_oracle := goodIn_r _ [516, 25, 517, 181, 182, 183, 2, 184, 17, 97, 98, 99, 518, 519, 520, 24, 521, 522, 523, 524, 525, 526, 527, 528, 529, 530, 531, 532, 533, 534, 174, 175, 176, 535, 536, 537, 538, 53, 539, 540, 206, 207, 14, 208, 32, 31, 104, 105, 106, 541, 542, 543, 544, 545, 546, 547, 548, 549, 550, 551, 54, 552, 553, 554, 555, 556, 557, 558, 559, 560, 561, 562, 563, 596, 597, 598, 599, 600, 601, 658, 659, 660, 661, 662, 663, 664, 665, 666, 667, 668, 669, 670, 671, 672, 673, 650, 651, 652, 653, 654, 655, 656, 657, 648, 649, 637, 638] (by decide +kernel) (by decide +kernel)
set_option maxRecDepth 20000 in
theorem gL_law_X6_oracle : GoodIn wsL_law (wsV RL 74 RX6 yX6_oracle wsX6_oracle) := goodIn_app (goodIn_of _ (by decide +kernel)) ggL_law_X6_oracle
set_option maxRecDepth 20000 in
theorem ggL_law_X7_oracle : GoodIn wsL_law wsX7_oracle := goodIn_r _ [567, 91, 62, 568, 68, 61, 298, 299, 300, 5, 301, 130, 112, 113, 114, 569, 570, 571, 572, 67, 66, 573, 574, 575, 576, 59, 60, 602, 603, 604, 605, 606, 607, 608, 609, 610, 611, 612, 613, 614, 615, 616, 617, 618, 619, 620, 621, 622, 623, 624, 625, 626, 627, 628, 629, 630, 631, 632, 633, 634, 635, 636] (by decide +kernel) (by decide +kernel)
set_option maxRecDepth 20000 in
theorem gL_law_X7_oracle : GoodIn wsL_law (wsV RL 77 RX7 yX7_oracle wsX7_oracle) := goodIn_app (goodIn_of _ (by decide +kernel)) ggL_law_X7_oracle
set_option maxRecDepth 20000 in
theorem ggL_law_X6_count : GoodIn wsL_law wsX6_count := goodIn_r _ [580, 96, 119, 21, 581, 15, 120, 582, 583, 584, 2, 585, 181, 182, 183, 184, 17, 97, 98, 99, 586, 197, 198, 139, 199, 163, 587, 588, 589, 590, 591, 596, 597, 598, 599, 600, 601, 639, 640, 641, 642, 643, 644, 645, 646, 647, 637, 638, 658, 659, 660, 661, 662, 663, 664, 665, 666, 667, 668, 669, 670, 671, 672, 673] (by decide +kernel) (by decide +kernel)
set_option maxRecDepth 20000 in
theorem gL_law_X6_count : GoodIn wsL_law (wsV RL 78 RX6 yX6_count wsX6_count) := goodIn_app (goodIn_of _ (by decide +kernel)) ggL_law_X6_count
set_option maxRecDepth 20000 in
theorem ggL_law_X7_count : GoodIn wsL_law wsX7_count := goodIn_r _ [595, 111, 130, 79, 76, 368, 59, 602, 603, 604, 605, 606, 607, 608, 609, 610, 611, 612, 613, 614, 615, 616, 617, 618, 619, 620, 621, 622, 623, 624, 625, 626, 627, 628, 629, 630, 631, 632, 633, 634, 635, 636] (by decide +kernel) (by decide +kernel)
set_option maxRecDepth 20000 in
theorem gL_law_X7_count : GoodIn wsL_law (wsV RL 81 RX7 yX7_count wsX7_count) := goodIn_app (goodIn_of _ (by decide +kernel)) ggL_law_X7_count
theorem dL_law_0 : decode cL_law 0 = .ok (.new 7, 3) := by decide +kernel
theorem dL_law_3 : decode cL_law 3 = .ok (.dup, 1) := by decide +kernel
theorem dL_law_4 : decode cL_law 4 = .ok (.invokespecial 9, 3) := by decide +kernel
theorem dL_law_7 : decode cL_law 7 = .ok (.astore_n 1, 1) := by decide +kernel
theorem dL_law_8 : decode cL_law 8 = .ok (.new 10, 3) := by decide +kernel
theorem dL_law_11 : decode cL_law 11 = .ok (.dup, 1) := by decide +kernel
theorem dL_law_12 : decode cL_law 12 = .ok (.invokespecial 12, 3) := by decide +kernel
theorem dL_law_15 : decode cL_law 15 = .ok (.astore_n 2, 1) := by decide +kernel
theorem dL_law_16 : decode cL_law 16 = .ok (.iconst 0, 1) := by decide +kernel
theorem dL_law_17 : decode cL_law 17 = .ok (.istore_n 3, 1) := by decide +kernel
theorem dL_law_18 : decode cL_law 18 = .ok (.iload_n 3, 1) := by decide +kernel
theorem dL_law_19 : decode cL_law 19 = .ok (.aload_n 0, 1) := by decide +kernel
theorem dL_law_20 : decode cL_law 20 = .ok (.arraylength, 1) := by decide +kernel
theorem dL_law_21 : decode cL_law 21 = .ok (.bipush 6, 2) := by decide +kernel
theorem dL_law_23 : decode cL_law 23 = .ok (.isub, 1) := by decide +kernel
theorem dL_law_24 : decode cL_law 24 = .ok (.if_icmp .gt 668, 3) := by decide +kernel
theorem dL_law_27 : decode cL_law 27 = .ok (.aload_n 0, 1) := by decide +kernel
theorem dL_law_28 : decode cL_law 28 = .ok (.iload_n 3, 1) := by decide +kernel
theorem dL_law_29 : decode cL_law 29 = .ok (.iaload, 1) := by decide +kernel
theorem dL_law_30 : decode cL_law 30 = .ok (.bipush 15, 2) := by decide +kernel
theorem dL_law_32 : decode cL_law 32 = .ok (.iand, 1) := by decide +kernel
theorem dL_law_33 : decode cL_law 33 = .ok (.tableswitch 653 0 14 #[75, 128, 151, 194, 217, 250, 293, 357, 380, 423, 467, 510, 553, 607, 630], 75) := by decide +kernel
theorem dL_law_108 : decode cL_law 108 = .ok (.aload_n 1, 1) := by decide +kernel
theorem dL_law_109 : decode cL_law 109 = .ok (.aload_n 0, 1) := by decide +kernel
theorem dL_law_110 : decode cL_law 110 = .ok (.iload_n 3, 1) := by decide +kernel
theorem dL_law_111 : decode cL_law 111 = .ok (.iconst 1, 1) := by decide +kernel
theorem dL_law_112 : decode cL_law 112 = .ok (.iadd, 1) := by decide +kernel
theorem dL_law_113 : decode cL_law 113 = .ok (.iaload, 1) := by decide +kernel
theorem dL_law_114 : decode cL_law 114 = .ok (.aload_n 0, 1) := by decide +kernel
theorem dL_law_115 : decode cL_law 115 = .ok (.iload_n 3, 1) := by decide +kernel
theorem dL_law_116 : decode cL_law 116 = .ok (.iconst 2, 1) := by decide +kernel
theorem dL_law_117 : decode cL_law 117 = .ok (.iadd, 1) := by decide +kernel
theorem dL_law_118 : decode cL_law 118 = .ok (.iaload, 1) := by decide +kernel
theorem dL_law_119 : decode cL_law 119 = .ok (.aload_n 0, 1) := by decide +kernel
theorem dL_law_120 : decode cL_law 120 = .ok (.iload_n 3, 1) := by decide +kernel
theorem dL_law_121 : decode cL_law 121 = .ok (.iconst 3, 1) := by decide +kernel
theorem dL_law_122 : decode cL_law 122 = .ok (.iadd, 1) := by decide +kernel
theorem dL_law_123 : decode cL_law 123 = .ok (.iaload, 1) := by decide +kernel
theorem dL_law_124 : decode cL_law 124 = .ok (.aload_n 0, 1) := by decide +kernel
theorem dL_law_125 : decode cL_law 125 = .ok (.iload_n 3, 1) := by decide +kernel
end
section
theorem dL_law_126 : decode cL_law 126 = .ok (.iconst 4, 1) := by decide +kernel
theorem dL_law_127 : decode cL_law 127 = .ok (.iadd, 1) := by decide +kernel
theorem dL_law_128 : decode cL_law 128 = .ok (.iaload, 1) := by decide +kernel
theorem dL_law_129 : decode cL_law 129 = .ok (.invokevirtual 13, 3) := by decide +kernel
theorem dL_law_132 : decode cL_law 132 = .ok (.aload_n 2, 1) := by decide +kernel
theorem dL_law_133 : decode cL_law 133 = .ok (.aload_n 0, 1) := by decide +kernel
theorem dL_law_134 : decode cL_law 134 = .ok (.iload_n 3, 1) := by decide +kernel
theorem dL_law_135 : decode cL_law 135 = .ok (.iconst 1, 1) := by decide +kernel
theorem dL_law_136 : decode cL_law 136 = .ok (.iadd, 1) := by decide +kernel
theorem dL_law_137 : decode cL_law 137 = .ok (.iaload, 1) := by decide +kernel
theorem dL_law_138 : decode cL_law 138 = .ok (.aload_n 0, 1) := by decide +kernel
theorem dL_law_139 : decode cL_law 139 = .ok (.iload_n 3, 1) := by decide +kernel
theorem dL_law_140 : decode cL_law 140 = .ok (.iconst 2, 1) := by decide +kernel
theorem dL_law_141 : decode cL_law 141 = .ok (.iadd, 1) := by decide +kernel
theorem dL_law_142 : decode cL_law 142 = .ok (.iaload, 1) := by decide +kernel
theorem dL_law_143 : decode cL_law 143 = .ok (.aload_n 0, 1) := by decide +kernel
theorem dL_law_144 : decode cL_law 144 = .ok (.iload_n 3, 1) := by decide +kernel
theorem dL_law_145 : decode cL_law 145 = .ok (.iconst 3, 1) := by decide +kernel
theorem dL_law_146 : decode cL_law 146 = .ok (.iadd, 1) := by decide +kernel
theorem dL_law_147 : decode cL_law 147 = .ok (.iaload, 1) := by decide +kernel
theorem dL_law_148 : decode cL_law 148 = .ok (.aload_n 0, 1) := by decide +kernel
theorem dL_law_149 : decode cL_law 149 = .ok (.iload_n 3, 1) := by decide +kernel
theorem dL_law_150 : decode cL_law 150 = .ok (.iconst 4, 1) := by decide +kernel
theorem dL_law_151 : decode cL_law 151 = .ok (.iadd, 1) := by decide +kernel
theorem dL_law_152 : decode cL_law 152 = .ok (.iaload, 1) := by decide +kernel
theorem dL_law_153 : decode cL_law 153 = .ok (.invokevirtual 17, 3) := by decide +kernel
theorem dL_law_156 : decode cL_law 156 = .ok (.if_icmp .eq 530, 3) := by decide +kernel
theorem dL_law_159 : decode cL_law 159 = .ok (.iconst 0, 1) := by decide +kernel
theorem dL_law_160 : decode cL_law 160 = .ok (.ireturn, 1) := by decide +kernel
theorem dL_law_161 : decode cL_law 161 = .ok (.aload_n 1, 1) := by decide +kernel
theorem dL_law_162 : decode cL_law 162 = .ok (.aload_n 0, 1) := by decide +kernel
theorem dL_law_163 : decode cL_law 163 = .ok (.iload_n 3, 1) := by decide +kernel
theorem dL_law_164 : decode cL_law 164 = .ok (.iconst 1, 1) := by decide +kernel
theorem dL_law_165 : decode cL_law 165 = .ok (.iadd, 1) := by decide +kernel
theorem dL_law_166 : decode cL_law 166 = .ok (.iaload, 1) := by decide +kernel
theorem dL_law_167 : decode cL_law 167 = .ok (.invokevirtual 18, 3) := by decide +kernel
theorem dL_law_170 : decode cL_law 170 = .ok (.aload_n 2, 1) := by decide +kernel
theorem dL_law_171 : decode cL_law 171 = .ok (.aload_n 0, 1) := by decide +kernel
theorem dL_law_172 : decode cL_law 172 = .ok (.iload_n 3, 1) := by decide +kernel
theorem dL_law_173 : decode cL_law 173 = .ok (.iconst 1, 1) := by decide +kernel
theorem dL_law_174 : decode cL_law 174 = .ok (.iadd, 1) := by decide +kernel
theorem dL_law_175 : decode cL_law 175 = .ok (.iaload, 1) := by decide +kernel
theorem dL_law_176 : decode cL_law 176 = .ok (.invokevirtual 22, 3) := by decide +kernel
theorem dL_law_179 : decode cL_law 179 = .ok (.if_icmp .eq 507, 3) := by decide +kernel
theorem dL_law_182 : decode cL_law 182 = .ok (.iconst 0, 1) := by decide +kernel
theorem dL_law_183 : decode cL_law 183 = .ok (.ireturn, 1) := by decide +kernel
theorem dL_law_184 : decode cL_law 184 = .ok (.aload_n 1, 1) := by decide +kernel
theorem dL_law_185 : decode cL_law 185 = .ok (.aload_n 0, 1) := by decide +kernel
theorem dL_law_186 : decode cL_law 186 = .ok (.iload_n 3, 1) := by decide +kernel
theorem dL_law_187 : decode cL_law 187 = .ok (.iconst 1, 1) := by decide +kernel
theorem dL_law_188 : decode cL_law 188 = .ok (.iadd, 1) := by decide +kernel
theorem dL_law_189 : decode cL_law 189 = .ok (.iaload, 1) := by decide +kernel
theorem dL_law_190 : decode cL_law 190 = .ok (.aload_n 0, 1) := by decide +kernel
theorem dL_law_191 : decode cL_law 191 = .ok (.iload_n 3, 1) := by decide +kernel
theorem dL_law_192 : decode cL_law 192 = .ok (.iconst 2, 1) := by decide +kernel
theorem dL_law_193 : decode cL_law 193 = .ok (.iadd, 1) := by decide +kernel
theorem dL_law_194 : decode cL_law 194 = .ok (.iaload, 1) := by decide +kernel
theorem dL_law_195 : decode cL_law 195 = .ok (.aload_n 0, 1) := by decide +kernel
theorem dL_law_196 : decode cL_law 196 = .ok (.iload_n 3, 1) := by decide +kernel
theorem dL_law_197 : decode cL_law 197 = .ok (.iconst 3, 1) := by decide +kernel
theorem dL_law_198 : decode cL_law 198 = .ok (.iadd, 1) := by decide +kernel
theorem dL_law_199 : decode cL_law 199 = .ok (.iaload, 1) := by decide +kernel
theorem dL_law_200 : decode cL_law 200 = .ok (.invokevirtual 23, 3) := by decide +kernel
theorem dL_law_203 : decode cL_law 203 = .ok (.aload_n 2, 1) := by decide +kernel
theorem dL_law_204 : decode cL_law 204 = .ok (.aload_n 0, 1) := by decide +kernel
theorem dL_law_205 : decode cL_law 205 = .ok (.iload_n 3, 1) := by decide +kernel
theorem dL_law_206 : decode cL_law 206 = .ok (.iconst 1, 1) := by decide +kernel
theorem dL_law_207 : decode cL_law 207 = .ok (.iadd, 1) := by decide +kernel
theorem dL_law_208 : decode cL_law 208 = .ok (.iaload, 1) := by decide +kernel
theorem dL_law_209 : decode cL_law 209 = .ok (.aload_n 0, 1) := by decide +kernel
theorem dL_law_210 : decode cL_law 210 = .ok (.iload_n 3, 1) := by decide +kernel
theorem dL_law_211 : decode cL_law 211 = .ok (.iconst 2, 1) := by decide +kernel
theorem dL_law_212 : decode cL_law 212 = .ok (.iadd, 1) := by decide +kernel
theorem dL_law_213 : decode cL_law 213 = .ok (.iaload, 1) := by decide +kernel
theorem dL_law_214 : decode cL_law 214 = .ok (.aload_n 0, 1) := by decide +kernel
theorem dL_law_215 : decode cL_law 215 = .ok (.iload_n 3, 1) := by decide +kernel
theorem dL_law_216 : decode cL_law 216 = .ok (.iconst 3, 1) := by decide +kernel
theorem dL_law_217 : decode cL_law 217 = .ok (.iadd, 1) := by decide +kernel
theorem dL_law_218 : decode cL_law 218 = .ok (.iaload, 1) := by decide +kernel
theorem dL_law_219 : decode cL_law 219 = .ok (.invokevirtual 27, 3) := by decide +kernel
theorem dL_law_222 : decode cL_law 222 = .ok (.if_icmp .eq 464, 3) := by decide +kernel
theorem dL_law_225 : decode cL_law 225 = .ok (.iconst 0, 1) := by decide +kernel
theorem dL_law_226 : decode cL_law 226 = .ok (.ireturn, 1) := by decide +kernel
theorem dL_law_227 : decode cL_law 227 = .ok (.aload_n 1, 1) := by decide +kernel
theorem dL_law_228 : decode cL_law 228 = .ok (.aload_n 0, 1) := by decide +kernel
theorem dL_law_229 : decode cL_law 229 = .ok (.iload_n 3, 1) := by decide +kernel
theorem dL_law_230 : decode cL_law 230 = .ok (.iconst 1, 1) := by decide +kernel
theorem dL_law_231 : decode cL_law 231 = .ok (.iadd, 1) := by decide +kernel
theorem dL_law_232 : decode cL_law 232 = .ok (.iaload, 1) := by decide +kernel
theorem dL_law_233 : decode cL_law 233 = .ok (.invokevirtual 28, 3) := by decide +kernel
theorem dL_law_236 : decode cL_law 236 = .ok (.aload_n 2, 1) := by decide +kernel
theorem dL_law_237 : decode cL_law 237 = .ok (.aload_n 0, 1) := by decide +kernel
theorem dL_law_238 : decode cL_law 238 = .ok (.iload_n 3, 1) := by decide +kernel
theorem dL_law_239 : decode cL_law 239 = .ok (.iconst 1, 1) := by decide +kernel
theorem dL_law_240 : decode cL_law 240 = .ok (.iadd, 1) := by decide +kernel
theorem dL_law_241 : decode cL_law 241 = .ok (.iaload, 1) := by decide +kernel
theorem dL_law_242 : decode cL_law 242 = .ok (.invokevirtual 32, 3) := by decide +kernel
theorem dL_law_245 : decode cL_law 245 = .ok (.if_icmp .eq 441, 3) := by decide +kernel
theorem dL_law_248 : decode cL_law 248 = .ok (.iconst 0, 1) := by decide +kernel
theorem dL_law_249 : decode cL_law 249 = .ok (.ireturn, 1) := by decide +kernel
theorem dL_law_250 : decode cL_law 250 = .ok (.aload_n 1, 1) := by decide +kernel
theorem dL_law_251 : decode cL_law 251 = .ok (.aload_n 0, 1) := by decide +kernel
theorem dL_law_252 : decode cL_law 252 = .ok (.iload_n 3, 1) := by decide +kernel
theorem dL_law_253 : decode cL_law 253 = .ok (.iconst 1, 1) := by decide +kernel
theorem dL_law_254 : decode cL_law 254 = .ok (.iadd, 1) := by decide +kernel
theorem dL_law_255 : decode cL_law 255 = .ok (.iaload, 1) := by decide +kernel
theorem dL_law_256 : decode cL_law 256 = .ok (.aload_n 0, 1) := by decide +kernel
theorem dL_law_257 : decode cL_law 257 = .ok (.iload_n 3, 1) := by decide +kernel
theorem dL_law_258 : decode cL_law 258 = .ok (.iconst 2, 1) := by decide +kernel
theorem dL_law_259 : decode cL_law 259 = .ok (.iadd, 1) := by decide +kernel
theorem dL_law_260 : decode cL_law 260 = .ok (.iaload, 1) := by decide +kernel
theorem dL_law_261 : decode cL_law 261 = .ok (.invokevirtual 33, 3) := by decide +kernel
theorem dL_law_264 : decode cL_law 264 = .ok (.aload_n 2, 1) := by decide +kernel
theorem dL_law_265 : decode cL_law 265 = .ok (.aload_n 0, 1) := by decide +kernel
theorem dL_law_266 : decode cL_law 266 = .ok (.iload_n 3, 1) := by decide +kernel
theorem dL_law_267 : decode cL_law 267 = .ok (.iconst 1, 1) := by decide +kernel
theorem dL_law_268 : decode cL_law 268 = .ok (.iadd, 1) := by decide +kernel
theorem dL_law_269 : decode cL_law 269 = .ok (.iaload, 1) := by decide +kernel
theorem dL_law_270 : decode cL_law 270 = .ok (.aload_n 0, 1) := by decide +kernel
theorem dL_law_271 : decode cL_law 271 = .ok (.iload_n 3, 1) := by decide +kernel
theorem dL_law_272 : decode cL_law 272 = .ok (.iconst 2, 1) := by decide +kernel
theorem dL_law_273 : decode cL_law 273 = .ok (.iadd, 1) := by decide +kernel
theorem dL_law_274 : decode cL_law 274 = .ok (.iaload, 1) := by decide +kernel
theorem dL_law_275 : decode cL_law 275 = .ok (.invokevirtual 37, 3) := by decide +kernel
theorem dL_law_278 : decode cL_law 278 = .ok (.if_icmp .eq 408, 3) := by decide +kernel
theorem dL_law_281 : decode cL_law 281 = .ok (.iconst 0, 1) := by decide +kernel
theorem dL_law_282 : decode cL_law 282 = .ok (.ireturn, 1) := by decide +kernel
theorem dL_law_283 : decode cL_law 283 = .ok (.aload_n 1, 1) := by decide +kernel
theorem dL_law_284 : decode cL_law 284 = .ok (.aload_n 0, 1) := by decide +kernel
theorem dL_law_285 : decode cL_law 285 = .ok (.iload_n 3, 1) := by decide +kernel
theorem dL_law_286 : decode cL_law 286 = .ok (.iconst 1, 1) := by decide +kernel
theorem dL_law_287 : decode cL_law 287 = .ok (.iadd, 1) := by decide +kernel
theorem dL_law_288 : decode cL_law 288 = .ok (.iaload, 1) := by decide +kernel
theorem dL_law_289 : decode cL_law 289 = .ok (.aload_n 0, 1) := by decide +kernel
theorem dL_law_290 : decode cL_law 290 = .ok (.iload_n 3, 1) := by decide +kernel
theorem dL_law_291 : decode cL_law 291 = .ok (.iconst 2, 1) := by decide +kernel
theorem dL_law_292 : decode cL_law 292 = .ok (.iadd, 1) := by decide +kernel
theorem dL_law_293 : decode cL_law 293 = .ok (.iaload, 1) := by decide +kernel
theorem dL_law_294 : decode cL_law 294 = .ok (.aload_n 0, 1) := by decide +kernel
theorem dL_law_295 : decode cL_law 295 = .ok (.iload_n 3, 1) := by decide +kernel
theorem dL_law_296 : decode cL_law 296 = .ok (.iconst 3, 1) := by decide +kernel
theorem dL_law_297 : decode cL_law 297 = .ok (.iadd, 1) := by decide +kernel
theorem dL_law_298 : decode cL_law 298 = .ok (.iaload, 1) := by decide +kernel
theorem dL_law_299 : decode cL_law 299 = .ok (.invokevirtual 38, 3) := by decide +kernel
theorem dL_law_302 : decode cL_law 302 = .ok (.aload_n 2, 1) := by decide +kernel
theorem dL_law_303 : decode cL_law 303 = .ok (.aload_n 0, 1) := by decide +kernel
theorem dL_law_304 : decode cL_law 304 = .ok (.iload_n 3, 1) := by decide +kernel
theorem dL_law_305 : decode cL_law 305 = .ok (.iconst 1, 1) := by decide +kernel
theorem dL_law_306 : decode cL_law 306 = .ok (.iadd, 1) := by decide +kernel
theorem dL_law_307 : decode cL_law 307 = .ok (.iaload, 1) := by decide +kernel
theorem dL_law_308 : decode cL_law 308 = .ok (.aload_n 0, 1) := by decide +kernel
theorem dL_law_309 : decode cL_law 309 = .ok (.iload_n 3, 1) := by decide +kernel
theorem dL_law_310 : decode cL_law 310 = .ok (.iconst 2, 1) := by decide +kernel
theorem dL_law_311 : decode cL_law 311 = .ok (.iadd, 1) := by decide +kernel
theorem dL_law_312 : decode cL_law 312 = .ok (.iaload, 1) := by decide +kernel
theorem dL_law_313 : decode cL_law 313 = .ok (.aload_n 0, 1) := by decide +kernel
theorem dL_law_314 : decode cL_law 314 = .ok (.iload_n 3, 1) := by decide +kernel
theorem dL_law_315 : decode cL_law 315 = .ok (.iconst 3, 1) := by decide +kernel
theorem dL_law_316 : decode cL_law 316 = .ok (.iadd, 1) := by decide +kernel
theorem dL_law_317 : decode cL_law 317 = .ok (.iaload, 1) := by decide +kernel
theorem dL_law_318 : decode cL_law 318 = .ok (.invokevirtual 41, 3) := by decide +kernel
theorem dL_law_321 : decode cL_law 321 = .ok (.if_icmp .eq 365, 3) := by decide +kernel
theorem dL_law_324 : decode cL_law 324 = .ok (.iconst 0, 1) := by decide +kernel
theorem dL_law_325 : decode cL_law 325 = .ok (.ireturn, 1) := by decide +kernel
theorem dL_law_326 : decode cL_law 326 = .ok (.aload_n 1, 1) := by decide +kernel
theorem dL_law_327 : decode cL_law 327 = .ok (.aload_n 0, 1) := by decide +kernel
theorem dL_law_328 : decode cL_law 328 = .ok (.iload_n 3, 1) := by decide +kernel
theorem dL_law_329 : decode cL_law 329 = .ok (.iconst 1, 1) := by decide +kernel
theorem dL_law_330 : decode cL_law 330 = .ok (.iadd, 1) := by decide +kernel
theorem dL_law_331 : decode cL_law 331 = .ok (.iaload, 1) := by decide +kernel
theorem dL_law_332 : decode cL_law 332 = .ok (.aload_n 0, 1) := by decide +kernel
theorem dL_law_333 : decode cL_law 333 = .ok (.iload_n 3, 1) := by decide +kernel
theorem dL_law_334 : decode cL_law 334 = .ok (.iconst 2, 1) := by decide +kernel
theorem dL_law_335 : decode cL_law 335 = .ok (.iadd, 1) := by decide +kernel
theorem dL_law_336 : decode cL_law 336 = .ok (.iaload, 1) := by decide +kernel
theorem dL_law_337 : decode cL_law 337 = .ok (.aload_n 0, 1) := by decide +kernel
theorem dL_law_338 : decode cL_law 338 = .ok (.iload_n 3, 1) := by decide +kernel
theorem dL_law_339 : decode cL_law 339 = .ok (.iconst 3, 1) := by decide +kernel
theorem dL_law_340 : decode cL_law 340 = .ok (.iadd, 1) := by decide +kernel
theorem dL_law_341 : decode cL_law 341 = .ok (.iaload, 1) := by decide +kernel
theorem dL_law_342 : decode cL_law 342 = .ok (.aload_n 0, 1) := by decide +kernel
theorem dL_law_343 : decode cL_law 343 = .ok (.iload_n 3, 1) := by decide +kernel
theorem dL_law_344 : decode cL_law 344 = .ok (.iconst 4, 1) := by decide +kernel
theorem dL_law_345 : decode cL_law 345 = .ok (.iadd, 1) := by decide +kernel
theorem dL_law_346 : decode cL_law 346 = .ok (.iaload, 1) := by decide +kernel
theorem dL_law_347 : decode cL_law 347 = .ok (.aload_n 0, 1) := by decide +kernel
theorem dL_law_348 : decode cL_law 348 = .ok (.iload_n 3, 1) := by decide +kernel
theorem dL_law_349 : decode cL_law 349 = .ok (.iconst 5, 1) := by decide +kernel
theorem dL_law_350 : decode cL_law 350 = .ok (.iadd, 1) := by decide +kernel
theorem dL_law_351 : decode cL_law 351 = .ok (.iaload, 1) := by decide +kernel
theorem dL_law_352 : decode cL_law 352 = .ok (.invokevirtual 42, 3) := by decide +kernel
theorem dL_law_355 : decode cL_law 355 = .ok (.aload_n 2, 1) := by decide +kernel
theorem dL_law_356 : decode cL_law 356 = .ok (.aload_n 0, 1) := by decide +kernel
theorem dL_law_357 : decode cL_law 357 = .ok (.iload_n 3, 1) := by decide +kernel
theorem dL_law_358 : decode cL_law 358 = .ok (.iconst 1, 1) := by decide +kernel
theorem dL_law_359 : decode cL_law 359 = .ok (.iadd, 1) := by decide +kernel
theorem dL_law_360 : decode cL_law 360 = .ok (.iaload, 1) := by decide +kernel
theorem dL_law_361 : decode cL_law 361 = .ok (.aload_n 0, 1) := by decide +kernel
theorem dL_law_362 : decode cL_law 362 = .ok (.iload_n 3, 1) := by decide +kernel
theorem dL_law_363 : decode cL_law 363 = .ok (.iconst 2, 1) := by decide +kernel
theorem dL_law_364 : decode cL_law 364 = .ok (.iadd, 1) := by decide +kernel
theorem dL_law_365 : decode cL_law 365 = .ok (.iaload, 1) := by decide +kernel
theorem dL_law_366 : decode cL_law 366 = .ok (.aload_n 0, 1) := by decide +kernel
theorem dL_law_367 : decode cL_law 367 = .ok (.iload_n 3, 1) := by decide +kernel
theorem dL_law_368 : decode cL_law 368 = .ok (.iconst 3, 1) := by decide +kernel
theorem dL_law_369 : decode cL_law 369 = .ok (.iadd, 1) := by decide +kernel
theorem dL_law_370 : decode cL_law 370 = .ok (.iaload, 1) := by decide +kernel
theorem dL_law_371 : decode cL_law 371 = .ok (.aload_n 0, 1) := by decide +kernel
theorem dL_law_372 : decode cL_law 372 = .ok (.iload_n 3, 1) := by decide +kernel
theorem dL_law_373 : decode cL_law 373 = .ok (.iconst 4, 1) := by decide +kernel
theorem dL_law_374 : decode cL_law 374 = .ok (.iadd, 1) := by decide +kernel
theorem dL_law_375 : decode cL_law 375 = .ok (.iaload, 1) := by decide +kernel
theorem dL_law_376 : decode cL_law 376 = .ok (.aload_n 0, 1) := by decide +kernel
theorem dL_law_377 : decode cL_law 377 = .ok (.iload_n 3, 1) := by decide +kernel
theorem dL_law_378 : decode cL_law 378 = .ok (.iconst 5, 1) := by decide +kernel
theorem dL_law_379 : decode cL_law 379 = .ok (.iadd, 1) := by decide +kernel
theorem dL_law_380 : decode cL_law 380 = .ok (.iaload, 1) := by decide +kernel
theorem dL_law_381 : decode cL_law 381 = .ok (.invokevirtual 46, 3) := by decide +kernel
theorem dL_law_384 : decode cL_law 384 = .ok (.lcmp, 1) := by decide +kernel
theorem dL_law_385 : decode cL_law 385 = .ok (.ifCond .eq 301, 3) := by decide +kernel
theorem dL_law_388 : decode cL_law 388 = .ok (.iconst 0, 1) := by decide +kernel
theorem dL_law_389 : decode cL_law 389 = .ok (.ireturn, 1) := by decide +kernel
theorem dL_law_390 : decode cL_law 390 = .ok (.aload_n 1, 1) := by decide +kernel
theorem dL_law_391 : decode cL_law 391 = .ok (.aload_n 0, 1) := by decide +kernel
theorem dL_law_392 : decode cL_law 392 = .ok (.iload_n 3, 1) := by decide +kernel
theorem dL_law_393 : decode cL_law 393 = .ok (.iconst 1, 1) := by decide +kernel
theorem dL_law_394 : decode cL_law 394 = .ok (.iadd, 1) := by decide +kernel
theorem dL_law_395 : decode cL_law 395 = .ok (.iaload, 1) := by decide +kernel
theorem dL_law_396 : decode cL_law 396 = .ok (.invokevirtual 47, 3) := by decide +kernel
theorem dL_law_399 : decode cL_law 399 = .ok (.aload_n 2, 1) := by decide +kernel
theorem dL_law_400 : decode cL_law 400 = .ok (.aload_n 0, 1) := by decide +kernel
theorem dL_law_401 : decode cL_law 401 = .ok (.iload_n 3, 1) := by decide +kernel
theorem dL_law_402 : decode cL_law 402 = .ok (.iconst 1, 1) := by decide +kernel
theorem dL_law_403 : decode cL_law 403 = .ok (.iadd, 1) := by decide +kernel
theorem dL_law_404 : decode cL_law 404 = .ok (.iaload, 1) := by decide +kernel
theorem dL_law_405 : decode cL_law 405 = .ok (.invokevirtual 50, 3) := by decide +kernel
theorem dL_law_408 : decode cL_law 408 = .ok (.if_icmp .eq 278, 3) := by decide +kernel
theorem dL_law_411 : decode cL_law 411 = .ok (.iconst 0, 1) := by decide +kernel
theorem dL_law_412 : decode cL_law 412 = .ok (.ireturn, 1) := by decide +kernel
theorem dL_law_413 : decode cL_law 413 = .ok (.aload_n 1, 1) := by decide +kernel
theorem dL_law_414 : decode cL_law 414 = .ok (.aload_n 0, 1) := by decide +kernel
theorem dL_law_415 : decode cL_law 415 = .ok (.iload_n 3, 1) := by decide +kernel
theorem dL_law_416 : decode cL_law 416 = .ok (.iconst 1, 1) := by decide +kernel
theorem dL_law_417 : decode cL_law 417 = .ok (.iadd, 1) := by decide +kernel
theorem dL_law_418 : decode cL_law 418 = .ok (.iaload, 1) := by decide +kernel
theorem dL_law_419 : decode cL_law 419 = .ok (.aload_n 0, 1) := by decide +kernel
theorem dL_law_420 : decode cL_law 420 = .ok (.iload_n 3, 1) := by decide +kernel
theorem dL_law_421 : decode cL_law 421 = .ok (.iconst 2, 1) := by decide +kernel
theorem dL_law_422 : decode cL_law 422 = .ok (.iadd, 1) := by decide +kernel
theorem dL_law_423 : decode cL_law 423 = .ok (.iaload, 1) := by decide +kernel
theorem dL_law_424 : decode cL_law 424 = .ok (.aload_n 0, 1) := by decide +kernel
theorem dL_law_425 : decode cL_law 425 = .ok (.iload_n 3, 1) := by decide +kernel
theorem dL_law_426 : decode cL_law 426 = .ok (.iconst 3, 1) := by decide +kernel
theorem dL_law_427 : decode cL_law 427 = .ok (.iadd, 1) := by decide +kernel
theorem dL_law_428 : decode cL_law 428 = .ok (.iaload, 1) := by decide +kernel
theorem dL_law_429 : decode cL_law 429 = .ok (.invokevirtual 51, 3) := by decide +kernel
theorem dL_law_432 : decode cL_law 432 = .ok (.aload_n 2, 1) := by decide +kernel
theorem dL_law_433 : decode cL_law 433 = .ok (.aload_n 0, 1) := by decide +kernel
theorem dL_law_434 : decode cL_law 434 = .ok (.iload_n 3, 1) := by decide +kernel
theorem dL_law_435 : decode cL_law 435 = .ok (.iconst 1, 1) := by decide +kernel
theorem dL_law_436 : decode cL_law 436 = .ok (.iadd, 1) := by decide +kernel
theorem dL_law_437 : decode cL_law 437 = .ok (.iaload, 1) := by decide +kernel
theorem dL_law_438 : decode cL_law 438 = .ok (.aload_n 0, 1) := by decide +kernel
theorem dL_law_439 : decode cL_law 439 = .ok (.iload_n 3, 1) := by decide +kernel
theorem dL_law_440 : decode cL_law 440 = .ok (.iconst 2, 1) := by decide +kernel
theorem dL_law_441 : decode cL_law 441 = .ok (.iadd, 1) := by decide +kernel
theorem dL_law_442 : decode cL_law 442 = .ok (.iaload, 1) := by decide +kernel
theorem dL_law_443 : decode cL_law 443 = .ok (.aload_n 0, 1) := by decide +kernel
theorem dL_law_444 : decode cL_law 444 = .ok (.iload_n 3, 1) := by decide +kernel
theorem dL_law_445 : decode cL_law 445 = .ok (.iconst 3, 1) := by decide +kernel
theorem dL_law_446 : decode cL_law 446 = .ok (.iadd, 1) := by decide +kernel
theorem dL_law_447 : decode cL_law 447 = .ok (.iaload, 1) := by decide +kernel
theorem dL_law_448 : decode cL_law 448 = .ok (.invokevirtual 55, 3) := by decide +kernel
theorem dL_law_451 : decode cL_law 451 = .ok (.if_icmp .eq 235, 3) := by decide +kernel
theorem dL_law_454 : decode cL_law 454 = .ok (.iconst 0, 1) := by decide +kernel
theorem dL_law_455 : decode cL_law 455 = .ok (.ireturn, 1) := by decide +kernel
theorem dL_law_456 : decode cL_law 456 = .ok (.aload_n 1, 1) := by decide +kernel
theorem dL_law_457 : decode cL_law 457 = .ok (.aload_n 0, 1) := by decide +kernel
theorem dL_law_458 : decode cL_law 458 = .ok (.iload_n 3, 1) := by decide +kernel
theorem dL_law_459 : decode cL_law 459 = .ok (.iconst 1, 1) := by decide +kernel
theorem dL_law_460 : decode cL_law 460 = .ok (.iadd, 1) := by decide +kernel
theorem dL_law_461 : decode cL_law 461 = .ok (.iaload, 1) := by decide +kernel
theorem dL_law_462 : decode cL_law 462 = .ok (.aload_n 0, 1) := by decide +kernel
theorem dL_law_463 : decode cL_law 463 = .ok (.iload_n 3, 1) := by decide +kernel
theorem dL_law_464 : decode cL_law 464 = .ok (.iconst 2, 1) := by decide +kernel
theorem dL_law_465 : decode cL_law 465 = .ok (.iadd, 1) := by decide +kernel
theorem dL_law_466 : decode cL_law 466 = .ok (.iaload, 1) := by decide +kernel
theorem dL_law_467 : decode cL_law 467 = .ok (.aload_n 0, 1) := by decide +kernel
theorem dL_law_468 : decode cL_law 468 = .ok (.iload_n 3, 1) := by decide +kernel
theorem dL_law_469 : decode cL_law 469 = .ok (.iconst 3, 1) := by decide +kernel
theorem dL_law_470 : decode cL_law 470 = .ok (.iadd, 1) := by decide +kernel
theorem dL_law_471 : decode cL_law 471 = .ok (.iaload, 1) := by decide +kernel
theorem dL_law_472 : decode cL_law 472 = .ok (.invokevirtual 56, 3) := by decide +kernel
theorem dL_law_475 : decode cL_law 475 = .ok (.aload_n 2, 1) := by decide +kernel
theorem dL_law_476 : decode cL_law 476 = .ok (.aload_n 0, 1) := by decide +kernel
theorem dL_law_477 : decode cL_law 477 = .ok (.iload_n 3, 1) := by decide +kernel
theorem dL_law_478 : decode cL_law 478 = .ok (.iconst 1, 1) := by decide +kernel
theorem dL_law_479 : decode cL_law 479 = .ok (.iadd, 1) := by decide +kernel
theorem dL_law_480 : decode cL_law 480 = .ok (.iaload, 1) := by decide +kernel
theorem dL_law_481 : decode cL_law 481 = .ok (.aload_n 0, 1) := by decide +kernel
theorem dL_law_482 : decode cL_law 482 = .ok (.iload_n 3, 1) := by decide +kernel
theorem dL_law_483 : decode cL_law 483 = .ok (.iconst 2, 1) := by decide +kernel
theorem dL_law_484 : decode cL_law 484 = .ok (.iadd, 1) := by decide +kernel
theorem dL_law_485 : decode cL_law 485 = .ok (.iaload, 1) := by decide +kernel
theorem dL_law_486 : decode cL_law 486 = .ok (.aload_n 0, 1) := by decide +kernel
theorem dL_law_487 : decode cL_law 487 = .ok (.iload_n 3, 1) := by decide +kernel
theorem dL_law_488 : decode cL_law 488 = .ok (.iconst 3, 1) := by decide +kernel
theorem dL_law_489 : decode cL_law 489 = .ok (.iadd, 1) := by decide +kernel
theorem dL_law_490 : decode cL_law 490 = .ok (.iaload, 1) := by decide +kernel
theorem dL_law_491 : decode cL_law 491 = .ok (.invokevirtual 60, 3) := by decide +kernel
theorem dL_law_494 : decode cL_law 494 = .ok (.lcmp, 1) := by decide +kernel
theorem dL_law_495 : decode cL_law 495 = .ok (.ifCond .eq 191, 3) := by decide +kernel
theorem dL_law_498 : decode cL_law 498 = .ok (.iconst 0, 1) := by decide +kernel
theorem dL_law_499 : decode cL_law 499 = .ok (.ireturn, 1) := by decide +kernel
theorem dL_law_500 : decode cL_law 500 = .ok (.aload_n 1, 1) := by decide +kernel
theorem dL_law_501 : decode cL_law 501 = .ok (.aload_n 0, 1) := by decide +kernel
theorem dL_law_502 : decode cL_law 502 = .ok (.iload_n 3, 1) := by decide +kernel
theorem dL_law_503 : decode cL_law 503 = .ok (.iconst 1, 1) := by decide +kernel
theorem dL_law_504 : decode cL_law 504 = .ok (.iadd, 1) := by decide +kernel
theorem dL_law_505 : decode cL_law 505 = .ok (.iaload, 1) := by decide +kernel
theorem dL_law_506 : decode cL_law 506 = .ok (.aload_n 0, 1) := by decide +kernel
theorem dL_law_507 : decode cL_law 507 = .ok (.iload_n 3, 1) := by decide +kernel
theorem dL_law_508 : decode cL_law 508 = .ok (.iconst 2, 1) := by decide +kernel
theorem dL_law_509 : decode cL_law 509 = .ok (.iadd, 1) := by decide +kernel
theorem dL_law_510 : decode cL_law 510 = .ok (.iaload, 1) := by decide +kernel
theorem dL_law_511 : decode cL_law 511 = .ok (.aload_n 0, 1) := by decide +kernel
theorem dL_law_512 : decode cL_law 512 = .ok (.iload_n 3, 1) := by decide +kernel
theorem dL_law_513 : decode cL_law 513 = .ok (.iconst 3, 1) := by decide +kernel
theorem dL_law_514 : decode cL_law 514 = .ok (.iadd, 1) := by decide +kernel
theorem dL_law_515 : decode cL_law 515 = .ok (.iaload, 1) := by decide +kernel
theorem dL_law_516 : decode cL_law 516 = .ok (.invokevirtual 61, 3) := by decide +kernel
theorem dL_law_519 : decode cL_law 519 = .ok (.aload_n 2, 1) := by decide +kernel
theorem dL_law_520 : decode cL_law 520 = .ok (.aload_n 0, 1) := by decide +kernel
theorem dL_law_521 : decode cL_law 521 = .ok (.iload_n 3, 1) := by decide +kernel
theorem dL_law_522 : decode cL_law 522 = .ok (.iconst 1, 1) := by decide +kernel
theorem dL_law_523 : decode cL_law 523 = .ok (.iadd, 1) := by decide +kernel
theorem dL_law_524 : decode cL_law 524 = .ok (.iaload, 1) := by decide +kernel
theorem dL_law_525 : decode cL_law 525 = .ok (.aload_n 0, 1) := by decide +kernel
theorem dL_law_526 : decode cL_law 526 = .ok (.iload_n 3, 1) := by decide +kernel
theorem dL_law_527 : decode cL_law 527 = .ok (.iconst 2, 1) := by decide +kernel
theorem dL_law_528 : decode cL_law 528 = .ok (.iadd, 1) := by decide +kernel
theorem dL_law_529 : decode cL_law 529 = .ok (.iaload, 1) := by decide +kernel
theorem dL_law_530 : decode cL_law 530 = .ok (.aload_n 0, 1) := by decide +kernel
theorem dL_law_531 : decode cL_law 531 = .ok (.iload_n 3, 1) := by decide +kernel
theorem dL_law_532 : decode cL_law 532 = .ok (.iconst 3, 1) := by decide +kernel
theorem dL_law_533 : decode cL_law 533 = .ok (.iadd, 1) := by decide +kernel
theorem dL_law_534 : decode cL_law 534 = .ok (.iaload, 1) := by decide +kernel
theorem dL_law_535 : decode cL_law 535 = .ok (.invokevirtual 64, 3) := by decide +kernel
theorem dL_law_538 : decode cL_law 538 = .ok (.if_icmp .eq 148, 3) := by decide +kernel
theorem dL_law_541 : decode cL_law 541 = .ok (.iconst 0, 1) := by decide +kernel
theorem dL_law_542 : decode cL_law 542 = .ok (.ireturn, 1) := by decide +kernel
theorem dL_law_543 : decode cL_law 543 = .ok (.aload_n 1, 1) := by decide +kernel
theorem dL_law_544 : decode cL_law 544 = .ok (.aload_n 0, 1) := by decide +kernel
theorem dL_law_545 : decode cL_law 545 = .ok (.iload_n 3, 1) := by decide +kernel
theorem dL_law_546 : decode cL_law 546 = .ok (.iconst 1, 1) := by decide +kernel
theorem dL_law_547 : decode cL_law 547 = .ok (.iadd, 1) := by decide +kernel
theorem dL_law_548 : decode cL_law 548 = .ok (.iaload, 1) := by decide +kernel
theorem dL_law_549 : decode cL_law 549 = .ok (.aload_n 0, 1) := by decide +kernel
theorem dL_law_550 : decode cL_law 550 = .ok (.iload_n 3, 1) := by decide +kernel
theorem dL_law_551 : decode cL_law 551 = .ok (.iconst 2, 1) := by decide +kernel
theorem dL_law_552 : decode cL_law 552 = .ok (.iadd, 1) := by decide +kernel
theorem dL_law_553 : decode cL_law 553 = .ok (.iaload, 1) := by decide +kernel
theorem dL_law_554 : decode cL_law 554 = .ok (.aload_n 0, 1) := by decide +kernel
theorem dL_law_555 : decode cL_law 555 = .ok (.iload_n 3, 1) := by decide +kernel
theorem dL_law_556 : decode cL_law 556 = .ok (.iconst 3, 1) := by decide +kernel
theorem dL_law_557 : decode cL_law 557 = .ok (.iadd, 1) := by decide +kernel
theorem dL_law_558 : decode cL_law 558 = .ok (.iaload, 1) := by decide +kernel
theorem dL_law_559 : decode cL_law 559 = .ok (.invokevirtual 65, 3) := by decide +kernel
theorem dL_law_562 : decode cL_law 562 = .ok (.aload_n 2, 1) := by decide +kernel
theorem dL_law_563 : decode cL_law 563 = .ok (.aload_n 0, 1) := by decide +kernel
theorem dL_law_564 : decode cL_law 564 = .ok (.iload_n 3, 1) := by decide +kernel
theorem dL_law_565 : decode cL_law 565 = .ok (.iconst 1, 1) := by decide +kernel
theorem dL_law_566 : decode cL_law 566 = .ok (.iadd, 1) := by decide +kernel
theorem dL_law_567 : decode cL_law 567 = .ok (.iaload, 1) := by decide +kernel
theorem dL_law_568 : decode cL_law 568 = .ok (.aload_n 0, 1) := by decide +kernel
theorem dL_law_569 : decode cL_law 569 = .ok (.iload_n 3, 1) := by decide +kernel
theorem dL_law_570 : decode cL_law 570 = .ok (.iconst 2, 1) := by decide +kernel
theorem dL_law_571 : decode cL_law 571 = .ok (.iadd, 1) := by decide +kernel
theorem dL_law_572 : decode cL_law 572 = .ok (.iaload, 1) := by decide +kernel
theorem dL_law_573 : decode cL_law 573 = .ok (.aload_n 0, 1) := by decide +kernel
theorem dL_law_574 : decode cL_law 574 = .ok (.iload_n 3, 1) := by decide +kernel
theorem dL_law_575 : decode cL_law 575 = .ok (.iconst 3, 1) := by decide +kernel
theorem dL_law_576 : decode cL_law 576 = .ok (.iadd, 1) := by decide +kernel
theorem dL_law_577 : decode cL_law 577 = .ok (.iaload, 1) := by decide +kernel
theorem dL_law_578 : decode cL_law 578 = .ok (.invokevirtual 68, 3) := by decide +kernel
theorem dL_law_581 : decode cL_law 581 = .ok (.if_icmp .eq 105, 3) := by decide +kernel
theorem dL_law_584 : decode cL_law 584 = .ok (.iconst 0, 1) := by decide +kernel
theorem dL_law_585 : decode cL_law 585 = .ok (.ireturn, 1) := by decide +kernel
theorem dL_law_586 : decode cL_law 586 = .ok (.aload_n 1, 1) := by decide +kernel
theorem dL_law_587 : decode cL_law 587 = .ok (.aload_n 0, 1) := by decide +kernel
theorem dL_law_588 : decode cL_law 588 = .ok (.iload_n 3, 1) := by decide +kernel
theorem dL_law_589 : decode cL_law 589 = .ok (.iconst 1, 1) := by decide +kernel
theorem dL_law_590 : decode cL_law 590 = .ok (.iadd, 1) := by decide +kernel
theorem dL_law_591 : decode cL_law 591 = .ok (.iaload, 1) := by decide +kernel
theorem dL_law_592 : decode cL_law 592 = .ok (.aload_n 0, 1) := by decide +kernel
theorem dL_law_593 : decode cL_law 593 = .ok (.iload_n 3, 1) := by decide +kernel
theorem dL_law_594 : decode cL_law 594 = .ok (.iconst 2, 1) := by decide +kernel
theorem dL_law_595 : decode cL_law 595 = .ok (.iadd, 1) := by decide +kernel
theorem dL_law_596 : decode cL_law 596 = .ok (.iaload, 1) := by decide +kernel
theorem dL_law_597 : decode cL_law 597 = .ok (.aload_n 0, 1) := by decide +kernel
theorem dL_law_598 : decode cL_law 598 = .ok (.iload_n 3, 1) := by decide +kernel
theorem dL_law_599 : decode cL_law 599 = .ok (.iconst 3, 1) := by decide +kernel
theorem dL_law_600 : decode cL_law 600 = .ok (.iadd, 1) := by decide +kernel
theorem dL_law_601 : decode cL_law 601 = .ok (.iaload, 1) := by decide +kernel
theorem dL_law_602 : decode cL_law 602 = .ok (.aload_n 0, 1) := by decide +kernel
theorem dL_law_603 : decode cL_law 603 = .ok (.iload_n 3, 1) := by decide +kernel
theorem dL_law_604 : decode cL_law 604 = .ok (.iconst 4, 1) := by decide +kernel
theorem dL_law_605 : decode cL_law 605 = .ok (.iadd, 1) := by decide +kernel
theorem dL_law_606 : decode cL_law 606 = .ok (.iaload, 1) := by decide +kernel
theorem dL_law_607 : decode cL_law 607 = .ok (.invokevirtual 69, 3) := by decide +kernel
theorem dL_law_610 : decode cL_law 610 = .ok (.aload_n 2, 1) := by decide +kernel
theorem dL_law_611 : decode cL_law 611 = .ok (.aload_n 0, 1) := by decide +kernel
theorem dL_law_612 : decode cL_law 612 = .ok (.iload_n 3, 1) := by decide +kernel
theorem dL_law_613 : decode cL_law 613 = .ok (.iconst 1, 1) := by decide +kernel
theorem dL_law_614 : decode cL_law 614 = .ok (.iadd, 1) := by decide +kernel
theorem dL_law_615 : decode cL_law 615 = .ok (.iaload, 1) := by decide +kernel
theorem dL_law_616 : decode cL_law 616 = .ok (.aload_n 0, 1) := by decide +kernel
theorem dL_law_617 : decode cL_law 617 = .ok (.iload_n 3, 1) := by decide +kernel
theorem dL_law_618 : decode cL_law 618 = .ok (.iconst 2, 1) := by decide +kernel
theorem dL_law_619 : decode cL_law 619 = .ok (.iadd, 1) := by decide +kernel
theorem dL_law_620 : decode cL_law 620 = .ok (.iaload, 1) := by decide +kernel
theorem dL_law_621 : decode cL_law 621 = .ok (.aload_n 0, 1) := by decide +kernel
theorem dL_law_622 : decode cL_law 622 = .ok (.iload_n 3, 1) := by decide +kernel
theorem dL_law_623 : decode cL_law 623 = .ok (.iconst 3, 1) := by decide +kernel
theorem dL_law_624 : decode cL_law 624 = .ok (.iadd, 1) := by decide +kernel
theorem dL_law_625 : decode cL_law 625 = .ok (.iaload, 1) := by decide +kernel
theorem dL_law_626 : decode cL_law 626 = .ok (.aload_n 0, 1) := by decide +kernel
theorem dL_law_627 : decode cL_law 627 = .ok (.iload_n 3, 1) := by decide +kernel
theorem dL_law_628 : decode cL_law 628 = .ok (.iconst 4, 1) := by decide +kernel
theorem dL_law_629 : decode cL_law 629 = .ok (.iadd, 1) := by decide +kernel
theorem dL_law_630 : decode cL_law 630 = .ok (.iaload, 1) := by decide +kernel
theorem dL_law_631 : decode cL_law 631 = .ok (.invokevirtual 73, 3) := by decide +kernel
theorem dL_law_634 : decode cL_law 634 = .ok (.lcmp, 1) := by decide +kernel
theorem dL_law_635 : decode cL_law 635 = .ok (.ifCond .eq 51, 3) := by decide +kernel
theorem dL_law_638 : decode cL_law 638 = .ok (.iconst 0, 1) := by decide +kernel
theorem dL_law_639 : decode cL_law 639 = .ok (.ireturn, 1) := by decide +kernel
theorem dL_law_640 : decode cL_law 640 = .ok (.aload_n 1, 1) := by decide +kernel
theorem dL_law_641 : decode cL_law 641 = .ok (.aload_n 0, 1) := by decide +kernel
theorem dL_law_642 : decode cL_law 642 = .ok (.iload_n 3, 1) := by decide +kernel
theorem dL_law_643 : decode cL_law 643 = .ok (.iconst 1, 1) := by decide +kernel
theorem dL_law_644 : decode cL_law 644 = .ok (.iadd, 1) := by decide +kernel
theorem dL_law_645 : decode cL_law 645 = .ok (.iaload, 1) := by decide +kernel
theorem dL_law_646 : decode cL_law 646 = .ok (.invokevirtual 74, 3) := by decide +kernel
theorem dL_law_649 : decode cL_law 649 = .ok (.aload_n 2, 1) := by decide +kernel
theorem dL_law_650 : decode cL_law 650 = .ok (.aload_n 0, 1) := by decide +kernel
theorem dL_law_651 : decode cL_law 651 = .ok (.iload_n 3, 1) := by decide +kernel
theorem dL_law_652 : decode cL_law 652 = .ok (.iconst 1, 1) := by decide +kernel
theorem dL_law_653 : decode cL_law 653 = .ok (.iadd, 1) := by decide +kernel
theorem dL_law_654 : decode cL_law 654 = .ok (.iaload, 1) := by decide +kernel
theorem dL_law_655 : decode cL_law 655 = .ok (.invokevirtual 77, 3) := by decide +kernel
theorem dL_law_658 : decode cL_law 658 = .ok (.if_icmp .eq 28, 3) := by decide +kernel
theorem dL_law_661 : decode cL_law 661 = .ok (.iconst 0, 1) := by decide +kernel
theorem dL_law_662 : decode cL_law 662 = .ok (.ireturn, 1) := by decide +kernel
theorem dL_law_663 : decode cL_law 663 = .ok (.aload_n 1, 1) := by decide +kernel
theorem dL_law_664 : decode cL_law 664 = .ok (.aload_n 0, 1) := by decide +kernel
theorem dL_law_665 : decode cL_law 665 = .ok (.iload_n 3, 1) := by decide +kernel
theorem dL_law_666 : decode cL_law 666 = .ok (.iconst 1, 1) := by decide +kernel
theorem dL_law_667 : decode cL_law 667 = .ok (.iadd, 1) := by decide +kernel
theorem dL_law_668 : decode cL_law 668 = .ok (.iaload, 1) := by decide +kernel
theorem dL_law_669 : decode cL_law 669 = .ok (.invokevirtual 78, 3) := by decide +kernel
theorem dL_law_672 : decode cL_law 672 = .ok (.aload_n 2, 1) := by decide +kernel
theorem dL_law_673 : decode cL_law 673 = .ok (.aload_n 0, 1) := by decide +kernel
theorem dL_law_674 : decode cL_law 674 = .ok (.iload_n 3, 1) := by decide +kernel
theorem dL_law_675 : decode cL_law 675 = .ok (.iconst 1, 1) := by decide +kernel
theorem dL_law_676 : decode cL_law 676 = .ok (.iadd, 1) := by decide +kernel
theorem dL_law_677 : decode cL_law 677 = .ok (.iaload, 1) := by decide +kernel
theorem dL_law_678 : decode cL_law 678 = .ok (.invokevirtual 81, 3) := by decide +kernel
theorem dL_law_681 : decode cL_law 681 = .ok (.if_icmp .eq 5, 3) := by decide +kernel
theorem dL_law_684 : decode cL_law 684 = .ok (.iconst 0, 1) := by decide +kernel
theorem dL_law_685 : decode cL_law 685 = .ok (.ireturn, 1) := by decide +kernel
theorem dL_law_686 : decode cL_law 686 = .ok (.iinc 3 6, 3) := by decide +kernel
theorem dL_law_689 : decode cL_law 689 = .ok (.goto (-671), 3) := by decide +kernel
theorem dL_law_692 : decode cL_law 692 = .ok (.iconst 1, 1) := by decide +kernel
theorem dL_law_693 : decode cL_law 693 = .ok (.ireturn, 1) := by decide +kernel
abbrev vwCl : List vw_C := [(RX0, TX0, 2), (RX1, TX1, 16), (RX3, TX3, 9), (RX4, TX4, 2), (RX5, TX5, 8), (RX6, TX6, 6), (RX7, TX7, 35)]
end
section
/-! BASE: what every contract here says of the tables, and the rows of a call in this claim's own forms. -/
def tyL (cI cL cZ cO : ClassId) : List (ClassId × FieldType) := [(cI, .int), (cL, .long), (cZ, .boolean), (cO, .object RX1)]
/-- the private 'within' of CheapHours, called by its nest mates; arrays of jobs -/
def Nws (U : State) : Prop := va_Nw (.methodLinkNest RX4 29 yX6_within RX6) U ∧ va_Nw (.methodLinkNest RX5 37 yX6_within RX6) U ∧ va_Nw (.methodLinkNest RX2 7 yX6_within RX6) U ∧ va_Nw (.methodLinkNest RX3 47 yX6_within RX6) U ∧ va_Nw (.methodLinkNest RX0 78 yX6_within RX6) U ∧ va_AO RX1 U
def Okk (D : va_G) (cI cL cZ cO : ClassId) (U : State) : Prop := va_K D vwCl (tyL cI cL cZ cO) U ∧ Nws U
theorem Okk.warm {D : va_G} {cI cL cZ cO : ClassId} {s U : State} (h : Okk D cI cL cZ cO s) (hW : s.WarmedH U.vm) : Okk D cI cL cZ cO U :=
  ⟨va_K.moved hW.alike h.1, va_Nw.warmM hW h.2.1, va_Nw.warmM hW h.2.2.1, va_Nw.warmM hW h.2.2.2.1, va_Nw.warmM hW h.2.2.2.2.1, va_Nw.warmM hW h.2.2.2.2.2.1, va_AO.moved hW.alike h.2.2.2.2.2.2⟩
theorem Okk.call {D : va_G} {cI cL cZ cO : ClassId} {U : State} (h : Okk D cI cL cZ cO U) (g : JFrame) (mk : MethodId) (a : Array Value) : Okk D cI cL cZ cO (U.calling g mk a) :=
  ⟨va_K.moved (u := U) (U := U.calling g mk a) (Vm.Alike.refl U.vm) h.1, va_Nw.same (u := U) rfl rfl h.2.1, va_Nw.same (u := U) rfl rfl h.2.2.1, va_Nw.same (u := U) rfl rfl h.2.2.2.1, va_Nw.same (u := U) rfl rfl h.2.2.2.2.1, va_Nw.same (u := U) rfl rfl h.2.2.2.2.2.1, va_AO.moved (u := U) (U := U.calling g mk a) (Vm.Alike.refl U.vm) h.2.2.2.2.2.2⟩
/-- the start of a method that only reads; of one that writes -/
def Ro (D : va_G) (cI cL cZ cO : ClassId) (w : va_W) (U : State) : Prop := va_P D vwCl w U.heap ∧ Okk D cI cL cZ cO U
def Rw (D : va_G) (cI cL cZ cO : ClassId) (w : va_W) (sz : Nat) (U : State) : Prop := U.heap.size = sz ∧ va_P D vwCl w U.heap ∧ Okk D cI cL cZ cO U ∧ va_D (fun _ => True) w
/-- the world behind a method that writes -/
def Wo (D : va_G) (A : Nat → Prop) (w : va_W) (t : State) : Prop := va_P D vwCl w t.heap ∧ va_D A w
theorem Ro.blind {D : va_G} {cI cL cZ cO : ClassId} {w : va_W} {av : List Value} : FrameBlind (va_Pc av (Ro D cI cL cZ cO w)) := fun _ _ g mk h => ⟨h.1, h.2.1, h.2.2.call g mk _⟩
theorem Rw.blind {D : va_G} {cI cL cZ cO : ClassId} {w : va_W} {sz : Nat} {av : List Value} : FrameBlind (va_Pc av (Rw D cI cL cZ cO w sz)) := fun _ _ g mk h => ⟨h.1, h.2.1, h.2.2.1, h.2.2.2.1.call g mk _, h.2.2.2.2⟩
section BaseCalls
variable {p : Program} {l : Launch} {e : Env} {R : Room} {s : State} {m : MethodId} {args : Array Value} {below : List Frame} {meth : Method} {c : Code} {H : Heap} {locs : List Loc} {cells slots : Nat} {Q : State → Prop}
variable {pc : Nat} {ls : Array Slot} {rest st0 As : List Value} {A0 : Nat → Prop} {H0 : Heap} {mc ms : Nat}
variable {y : MethodName} {bytes cc : ByteArray} {maxL nL n index : Nat} {ret : Option FieldType} {wy : List Cond} {rm : Room} {Ts : List Cond} {own C host : String} {b : Addr} {D : va_G} {cI cL cZ cO : ClassId} {w : va_W}
abbrev Recv (s : State) (H : Heap) (C : String) (b : Addr) : Prop := ∃ cellB : Cell, H[b]? = some cellB ∧ cellB.vm.isStatics = false ∧ s.vm.findClass C = some cellB.cls
theorem roVi {post : Int32 → Prop} (S : CallFix p m c cc nL s args Ts own) (hM : Met l y wy rm (va_Pc (.ref b :: As) (Ro D cI cL cZ cO w)) (vp_Si post) 0 0 (fun _ => False)) (cw : CallW R s args own C index y bytes maxL ret wy rm 0 0 n) (hO : Okk D cI cL cZ cO s) (hP : va_P D vwCl w H) (hv : Recv s H C b) (hn : As.length = n) (hsize : ls.size = nL) (hst : st0 = As.reverse ++ .ref b :: rest) (hW : (rest.map fun v => v.category).sum ≤ 8) (hdg : decode cc pc = .ok (.invokevirtual index, 3)) (hcl : cells ≤ R.cells ∧ slots ≤ R.slots)
    (kk : ∀ r : Int32, post r → W p l e R s m args below meth c H locs cells slots Q (F0 m (pc + 3) ls (.int r :: rest))) : W p l e R s m args below meth c H locs cells slots Q (F0 m pc ls st0) :=
  vp_callSi (W.runV (g := F0 m pc ls st0) S hM cw ⟨Ro.blind, hv, fun U hU hW => ⟨rfl, by rw [hU]; exact hP, hO.warm hW⟩⟩ rfl hn hsize hst (lv_room hW) hdg hcl) kk
theorem roVl {post : Int64 → Prop} (S : CallFix p m c cc nL s args Ts own) (hM : Met l y wy rm (va_Pc (.ref b :: As) (Ro D cI cL cZ cO w)) (vp_Sl post) 0 0 (fun _ => False)) (cw : CallW R s args own C index y bytes maxL ret wy rm 0 0 n) (hO : Okk D cI cL cZ cO s) (hP : va_P D vwCl w H) (hv : Recv s H C b) (hn : As.length = n) (hsize : ls.size = nL) (hst : st0 = As.reverse ++ .ref b :: rest) (hW : (rest.map fun v => v.category).sum ≤ 8) (hdg : decode cc pc = .ok (.invokevirtual index, 3)) (hcl : cells ≤ R.cells ∧ slots ≤ R.slots)
    (kk : ∀ r : Int64, post r → W p l e R s m args below meth c H locs cells slots Q (F0 m (pc + 3) ls (.long r :: rest))) : W p l e R s m args below meth c H locs cells slots Q (F0 m pc ls st0) :=
  vp_callSl (W.runV (g := F0 m pc ls st0) S hM cw ⟨Ro.blind, hv, fun U hU hW => ⟨rfl, by rw [hU]; exact hP, hO.warm hW⟩⟩ rfl hn hsize hst (lv_room hW) hdg hcl) kk
theorem roVq {post : Option Nat → Prop} (S : CallFix p m c cc nL s args Ts own) (hM : Met l y wy rm (va_Pc (.ref b :: As) (Ro D cI cL cZ cO w)) (va_Sq post) 0 0 (fun _ => False)) (cw : CallW R s args own C index y bytes maxL ret wy rm 0 0 n) (hO : Okk D cI cL cZ cO s) (hP : va_P D vwCl w H) (hv : Recv s H C b) (hn : As.length = n) (hsize : ls.size = nL) (hst : st0 = As.reverse ++ .ref b :: rest) (hW : (rest.map fun v => v.category).sum ≤ 8) (hdg : decode cc pc = .ok (.invokevirtual index, 3)) (hcl : cells ≤ R.cells ∧ slots ≤ R.slots)
    (kk : ∀ r : Option Nat, post r → W p l e R s m args below meth c H locs cells slots Q (F0 m (pc + 3) ls (va_rf r :: rest))) : W p l e R s m args below meth c H locs cells slots Q (F0 m pc ls st0) :=
  va_csq (W.runV (g := F0 m pc ls st0) S hM cw ⟨Ro.blind, hv, fun U hU hW => ⟨rfl, by rw [hU]; exact hP, hO.warm hW⟩⟩ rfl hn hsize hst (lv_room hW) hdg hcl) kk
theorem roSi {post : Int32 → Prop} (S : CallFix p m c cc nL s args Ts own) (hM : Met l y wy rm (va_Pc As (Ro D cI cL cZ cO w)) (vp_Si post) 0 0 (fun _ => False)) (cw : CallB R s args own index y bytes maxL ret wy rm 0 0 n ∧ (Cond.static y).before args s = true) (hO : Okk D cI cL cZ cO s) (hP : va_P D vwCl w H) (hn : As.length = n) (hsize : ls.size = nL) (hst : st0 = As.reverse ++ rest) (hW : (rest.map fun v => v.category).sum ≤ 8) (hdg : decode cc pc = .ok (.invokestatic index, 3)) (hcl : cells ≤ R.cells ∧ slots ≤ R.slots)
    (kk : ∀ r : Int32, post r → W p l e R s m args below meth c H locs cells slots Q (F0 m (pc + 3) ls (.int r :: rest))) : W p l e R s m args below meth c H locs cells slots Q (F0 m pc ls st0) :=
  vp_callSi (W.runS (g := F0 m pc ls st0) S hM cw ⟨Ro.blind, fun U hU hW => ⟨rfl, by rw [hU]; exact hP, hO.warm hW⟩⟩ rfl hn hsize hst (lv_room hW) hdg hcl) kk
theorem roSl {post : Int64 → Prop} (S : CallFix p m c cc nL s args Ts own) (hM : Met l y wy rm (va_Pc As (Ro D cI cL cZ cO w)) (vp_Sl post) 0 0 (fun _ => False)) (cw : CallB R s args own index y bytes maxL ret wy rm 0 0 n ∧ (Cond.static y).before args s = true) (hO : Okk D cI cL cZ cO s) (hP : va_P D vwCl w H) (hn : As.length = n) (hsize : ls.size = nL) (hst : st0 = As.reverse ++ rest) (hW : (rest.map fun v => v.category).sum ≤ 8) (hdg : decode cc pc = .ok (.invokestatic index, 3)) (hcl : cells ≤ R.cells ∧ slots ≤ R.slots)
    (kk : ∀ r : Int64, post r → W p l e R s m args below meth c H locs cells slots Q (F0 m (pc + 3) ls (.long r :: rest))) : W p l e R s m args below meth c H locs cells slots Q (F0 m pc ls st0) :=
  vp_callSl (W.runS (g := F0 m pc ls st0) S hM cw ⟨Ro.blind, fun U hU hW => ⟨rfl, by rw [hU]; exact hP, hO.warm hW⟩⟩ rfl hn hsize hst (lv_room hW) hdg hcl) kk
theorem roNi {post : Int32 → Prop} (S : CallFix p m c cc nL s args Ts own) (hM : Met l y wy rm (va_Pc As (Ro D cI cL cZ cO w)) (vp_Si post) 0 0 (fun _ => False)) (cw : va_CN R s args own index y host bytes maxL ret wy rm 0 0 n ∧ (Cond.static y).before args s = true ∧ True) (hO : Okk D cI cL cZ cO s) (hP : va_P D vwCl w H) (hn : As.length = n) (hsize : ls.size = nL) (hst : st0 = As.reverse ++ rest) (hW : (rest.map fun v => v.category).sum ≤ 8) (hdg : decode cc pc = .ok (.invokestatic index, 3)) (hcl : cells ≤ R.cells ∧ slots ≤ R.slots)
    (kk : ∀ r : Int32, post r → W p l e R s m args below meth c H locs cells slots Q (F0 m (pc + 3) ls (.int r :: rest))) : W p l e R s m args below meth c H locs cells slots Q (F0 m pc ls st0) :=
  vp_callSi (va_runSN (g := F0 m pc ls st0) S hM cw ⟨Ro.blind, fun U hU hW => ⟨rfl, by rw [hU]; exact hP, hO.warm hW⟩⟩ rfl hn hsize hst (lv_room hW) hdg hcl).run kk
theorem freeAll {ws : va_W} {locs : List Loc} (hD : va_D A0 ws) (hS : va_S A0 H0 H locs) (hA : ∀ q, H0.size ≤ q → A0 q) : ∀ q, va_A ws H.size q → A0 q := by
  intro q h
  rcases h with ⟨k, e, h⟩ | h
  · exact hD.2 k _ h
  · exact hA q (Nat.le_trans hS.1 h)
theorem rwVi {S1 : Type} {post : Int32 → S1 → Prop} {Wf : S1 → va_W} (S : CallFix p m c cc nL s args Ts own) (hM : Met l y wy rm (va_Pc (.ref b :: As) (Rw D cI cL cZ cO w H.size)) (va_Qi post (fun u => Wo D (va_A w H.size) (Wf u)) (va_A w H.size)) mc ms (va_A w H.size)) (cw : CallW R s args own C index y bytes maxL ret wy rm mc ms n) (hO : Okk D cI cL cZ cO s) (hP : va_P D vwCl w H) (hD : va_D A0 w) (hS : va_S A0 H0 H locs) (hA : ∀ q, H0.size ≤ q → A0 q) (hv : Recv s H C b) (hn : As.length = n) (hsize : ls.size = nL) (hst : st0 = As.reverse ++ .ref b :: rest) (hW : (rest.map fun v => v.category).sum ≤ 8) (hdg : decode cc pc = .ok (.invokevirtual index, 3)) (hcl : cells + mc ≤ R.cells ∧ slots + ms ≤ R.slots)
    (kk : ∀ (r : Int32) (u : S1) (H1 : Heap) (locs1 : List Loc), post r u → va_P D vwCl (Wf u) H1 → va_D A0 (Wf u) → va_S A0 H0 H1 locs1 → W p l e R s m args below meth c H1 locs1 (cells + mc) (slots + ms) Q (F0 m (pc + 3) ls (.int r :: rest))) : W p l e R s m args below meth c H locs cells slots Q (F0 m pc ls st0) :=
  va_calli (va_runV (g := F0 m pc ls st0) S hM cw ⟨Rw.blind, hv, fun U hU hW => ⟨rfl, by rw [hU], by rw [hU]; exact hP, hO.warm hW, hD.weaken (fun _ _ _ _ => trivial)⟩⟩ rfl hn hsize hst (lv_room hW) hdg hcl) hS (fun q _ h => freeAll hD hS hA q h) (freeAll hD hS hA) (fun r u t H1 locs1 ht _ hw hB _ _ hS1 => kk r u H1 locs1 hw (ht ▸ hB.1) (hB.2.weaken (fun _ q _ h => freeAll hD hS hA q.1 h)) hS1)
theorem rwVl {S1 : Type} {post : Int64 → S1 → Prop} {Wf : S1 → va_W} (S : CallFix p m c cc nL s args Ts own) (hM : Met l y wy rm (va_Pc (.ref b :: As) (Rw D cI cL cZ cO w H.size)) (va_Ql post (fun u => Wo D (va_A w H.size) (Wf u)) (va_A w H.size)) mc ms (va_A w H.size)) (cw : CallW R s args own C index y bytes maxL ret wy rm mc ms n) (hO : Okk D cI cL cZ cO s) (hP : va_P D vwCl w H) (hD : va_D A0 w) (hS : va_S A0 H0 H locs) (hA : ∀ q, H0.size ≤ q → A0 q) (hv : Recv s H C b) (hn : As.length = n) (hsize : ls.size = nL) (hst : st0 = As.reverse ++ .ref b :: rest) (hW : (rest.map fun v => v.category).sum ≤ 8) (hdg : decode cc pc = .ok (.invokevirtual index, 3)) (hcl : cells + mc ≤ R.cells ∧ slots + ms ≤ R.slots)
    (kk : ∀ (r : Int64) (u : S1) (H1 : Heap) (locs1 : List Loc), post r u → va_P D vwCl (Wf u) H1 → va_D A0 (Wf u) → va_S A0 H0 H1 locs1 → W p l e R s m args below meth c H1 locs1 (cells + mc) (slots + ms) Q (F0 m (pc + 3) ls (.long r :: rest))) : W p l e R s m args below meth c H locs cells slots Q (F0 m pc ls st0) :=
  va_calll (va_runV (g := F0 m pc ls st0) S hM cw ⟨Rw.blind, hv, fun U hU hW => ⟨rfl, by rw [hU], by rw [hU]; exact hP, hO.warm hW, hD.weaken (fun _ _ _ _ => trivial)⟩⟩ rfl hn hsize hst (lv_room hW) hdg hcl) hS (fun q _ h => freeAll hD hS hA q h) (freeAll hD hS hA) (fun r u t H1 locs1 ht _ hw hB _ _ hS1 => kk r u H1 locs1 hw (ht ▸ hB.1) (hB.2.weaken (fun _ q _ h => freeAll hD hS hA q.1 h)) hS1)
theorem rwVv {S1 : Type} {post : S1 → Prop} {Wf : S1 → va_W} (S : CallFix p m c cc nL s args Ts own) (hM : Met l y wy rm (va_Pc (.ref b :: As) (Rw D cI cL cZ cO w H.size)) (va_Qv post (fun u => Wo D (va_A w H.size) (Wf u)) (va_A w H.size)) mc ms (va_A w H.size)) (cw : CallW R s args own C index y bytes maxL ret wy rm mc ms n) (hO : Okk D cI cL cZ cO s) (hP : va_P D vwCl w H) (hD : va_D A0 w) (hS : va_S A0 H0 H locs) (hA : ∀ q, H0.size ≤ q → A0 q) (hv : Recv s H C b) (hn : As.length = n) (hsize : ls.size = nL) (hst : st0 = As.reverse ++ .ref b :: rest) (hW : (rest.map fun v => v.category).sum ≤ 8) (hdg : decode cc pc = .ok (.invokevirtual index, 3)) (hcl : cells + mc ≤ R.cells ∧ slots + ms ≤ R.slots)
    (kk : ∀ (u : S1) (H1 : Heap) (locs1 : List Loc), post u → va_P D vwCl (Wf u) H1 → va_D A0 (Wf u) → va_S A0 H0 H1 locs1 → W p l e R s m args below meth c H1 locs1 (cells + mc) (slots + ms) Q (F0 m (pc + 3) ls rest)) : W p l e R s m args below meth c H locs cells slots Q (F0 m pc ls st0) :=
  va_callv (va_runV (g := F0 m pc ls st0) S hM cw ⟨Rw.blind, hv, fun U hU hW => ⟨rfl, by rw [hU], by rw [hU]; exact hP, hO.warm hW, hD.weaken (fun _ _ _ _ => trivial)⟩⟩ rfl hn hsize hst (lv_room hW) hdg hcl) hS (fun q _ h => freeAll hD hS hA q h) (freeAll hD hS hA) (fun u t H1 locs1 ht _ hw hB _ _ hS1 => kk u H1 locs1 hw (ht ▸ hB.1) (hB.2.weaken (fun _ q _ h => freeAll hD hS hA q.1 h)) hS1)
end BaseCalls
/-- a range check's answer -/
def wi (a b c : Int32) : Int32 := if b ≤ a ∧ a ≤ c then 1 else 0
theorem wi_t {a b c : Int32} (h : ¬ wi a b c = 0) : b ≤ a ∧ a ≤ c := by
  unfold wi at h
  by_cases q : b ≤ a ∧ a ≤ c
  · exact q
  · rw [if_neg q] at h; exact absurd rfl h
theorem wi_f {a b c : Int32} (h : wi a b c = 0) : ¬ (b ≤ a ∧ a ≤ c) := by
  intro q
  rw [wi, if_pos q] at h
  exact absurd h (by decide)
theorem wi_nar (a b c : Int32) : narrow .boolean (.int (wi a b c)) = .int (wi a b c) := by
  unfold wi
  split <;> rfl
theorem wi_1 {a b c : Int32} (h : b ≤ a) (h2 : a ≤ c) : wi a b c = 1 := if_pos ⟨h, h2⟩
theorem wi_0 {a b c : Int32} (h : ¬ (b ≤ a ∧ a ≤ c)) : wi a b c = 0 := if_neg h
theorem i32_nlt {a b : Int32} : ¬ a < b ↔ b ≤ a := by rw [Int32.lt_iff_toInt_lt, Int32.le_iff_toInt_le]; omega
theorem i32_nle {a b : Int32} : ¬ a ≤ b ↔ b < a := by rw [Int32.lt_iff_toInt_lt, Int32.le_iff_toInt_le]; omega
end
section
/-! ROWS OVER NAT: the same instructions where the numbers are known naturals. -/
theorem n_dec {x : Nat} (h : 1 ≤ x) : nI x + Int32.ofInt (-1) = nI (x - 1) := by
  obtain ⟨y, rfl⟩ : ∃ y, x = y + 1 := ⟨x - 1, by omega⟩
  exact pk_m1 y
theorem n_min {x y : Nat} (hx : x < 2 ^ 31) (hy : y < 2 ^ 31) : (if nI y < nI x then nI y else nI x) = nI (min x y) := by
  by_cases h : y < x
  · rw [if_pos ((nI_ltI hy hx).mpr h), Nat.min_eq_right (Nat.le_of_lt h)]
  · rw [if_neg (fun q => h ((nI_ltI hy hx).mp q)), Nat.min_eq_left (Nat.not_lt.mp h)]
theorem n_max {x y : Nat} (hx : x < 2 ^ 31) (hy : y < 2 ^ 31) : (if nI x < nI y then nI y else nI x) = nI (max x y) := by
  by_cases h : x < y
  · rw [if_pos ((nI_ltI hx hy).mpr h), Nat.max_eq_right (Nat.le_of_lt h)]
  · rw [if_neg (fun q => h ((nI_ltI hx hy).mp q)), Nat.max_eq_left (Nat.not_lt.mp h)]
section NatRows
variable {p : Program} {l : Launch} {e : Env} {R : Room} {s : State} {m : MethodId} {args : Array Value} {below : List Frame} {meth : Method} {c : Code} {H : Heap} {locs : List Loc} {cells slots : Nat} {Q : State → Prop}
variable {cc : ByteArray} {pc : Nat} {ls : Array Slot} {rest : List Value} {D : va_G} {cl : List vw_C} {A : Nat → Prop} {a : Nat} {tys : List (ClassId × FieldType)} {ws : va_W} {H0 : Heap}
theorem lv_seti {x v : Int32} (h : x = v) (k : W p l e R s m args below meth c H locs cells slots Q (F0 m pc ls (.int v :: rest))) : W p l e R s m args below meth c H locs cells slots Q (F0 m pc ls (.int x :: rest)) := h ▸ k
theorem lv_setl {x v : Int64} (h : x = v) (k : W p l e R s m args below meth c H locs cells slots Q (F0 m pc ls (.long v :: rest))) : W p l e R s m args below meth c H locs cells slots Q (F0 m pc ls (.long x :: rest)) := h ▸ k
theorem n_iadd {x y : Nat} (hx : p.tables.exec = Jvm.exec) (hb : c.code = cc) (hdg : decode cc pc = .ok (.iadd, 1)) (k : W p l e R s m args below meth c H locs cells slots Q (F0 m (pc + 1) ls (.int (nI (x + y)) :: rest))) : W p l e R s m args below meth c H locs cells slots Q (F0 m pc ls (.int (nI y) :: .int (nI x) :: rest)) :=
  lv_iadd hx hb hdg (by rw [nI_add]; exact k)
theorem n_imul {x y : Nat} (hx : p.tables.exec = Jvm.exec) (hb : c.code = cc) (hdg : decode cc pc = .ok (.imul, 1)) (k : W p l e R s m args below meth c H locs cells slots Q (F0 m (pc + 1) ls (.int (nI (x * y)) :: rest))) : W p l e R s m args below meth c H locs cells slots Q (F0 m pc ls (.int (nI y) :: .int (nI x) :: rest)) :=
  lv_imul hx hb hdg (by rw [pk_mul]; exact k)
theorem n_isub {x y : Nat} (hx : p.tables.exec = Jvm.exec) (hb : c.code = cc) (hdg : decode cc pc = .ok (.isub, 1)) (h : y ≤ x) (k : W p l e R s m args below meth c H locs cells slots Q (F0 m (pc + 1) ls (.int (nI (x - y)) :: rest))) : W p l e R s m args below meth c H locs cells slots Q (F0 m pc ls (.int (nI y) :: .int (nI x) :: rest)) :=
  lv_isub hx hb hdg (by rw [pk_sub h]; exact k)
theorem n_idiv {x y : Nat} (hx : p.tables.exec = Jvm.exec) (hb : c.code = cc) (hdg : decode cc pc = .ok (.idiv, 1)) (h1 : x < 2 ^ 31) (h0 : 0 < y) (h2 : y < 2 ^ 31) (k : W p l e R s m args below meth c H locs cells slots Q (F0 m (pc + 1) ls (.int (nI (x / y)) :: rest))) : W p l e R s m args below meth c H locs cells slots Q (F0 m pc ls (.int (nI y) :: .int (nI x) :: rest)) :=
  lv_idiv hx hb hdg (nI_ne0 h0 h2) (by rw [pk_div h1 h0 h2]; exact k)
theorem n_irem {x y : Nat} (hx : p.tables.exec = Jvm.exec) (hb : c.code = cc) (hdg : decode cc pc = .ok (.irem, 1)) (h1 : x < 2 ^ 31) (h0 : 0 < y) (h2 : y < 2 ^ 31) (k : W p l e R s m args below meth c H locs cells slots Q (F0 m (pc + 1) ls (.int (nI (x % y)) :: rest))) : W p l e R s m args below meth c H locs cells slots Q (F0 m pc ls (.int (nI y) :: .int (nI x) :: rest)) :=
  lv_irem hx hb hdg (nI_ne0 h0 h2) (by rw [pk_rem h1 h0 h2]; exact k)
theorem n_icmp_lt {x y : Nat} {off : Int} {tgt : Nat} (hx : p.tables.exec = Jvm.exec) (hb : c.code = cc) (hdg : decode cc pc = .ok (.if_icmp .lt off, 3)) (ht : (pc : Int) + off = (tgt : Int)) (h1 : x < 2 ^ 31) (h2 : y < 2 ^ 31) (kt : x < y → W p l e R s m args below meth c H locs cells slots Q (F0 m tgt ls rest)) (kf : y ≤ x → W p l e R s m args below meth c H locs cells slots Q (F0 m (pc + 3) ls rest)) : W p l e R s m args below meth c H locs cells slots Q (F0 m pc ls (.int (nI y) :: .int (nI x) :: rest)) :=
  lv_icmp_lt hx hb hdg ht (fun q => kt ((nI_ltI h1 h2).mp q)) (fun q => kf (Nat.not_lt.mp fun z => q ((nI_ltI h1 h2).mpr z)))
theorem n_icmp_ge {x y : Nat} {off : Int} {tgt : Nat} (hx : p.tables.exec = Jvm.exec) (hb : c.code = cc) (hdg : decode cc pc = .ok (.if_icmp .ge off, 3)) (ht : (pc : Int) + off = (tgt : Int)) (h1 : x < 2 ^ 31) (h2 : y < 2 ^ 31) (kt : y ≤ x → W p l e R s m args below meth c H locs cells slots Q (F0 m tgt ls rest)) (kf : x < y → W p l e R s m args below meth c H locs cells slots Q (F0 m (pc + 3) ls rest)) : W p l e R s m args below meth c H locs cells slots Q (F0 m pc ls (.int (nI y) :: .int (nI x) :: rest)) :=
  lv_icmp_ge hx hb hdg ht (fun q => kt ((nI_leI h2 h1).mp q)) (fun q => kf (Nat.not_le.mp fun z => q ((nI_leI h2 h1).mpr z)))
theorem n_icmp_gt {x y : Nat} {off : Int} {tgt : Nat} (hx : p.tables.exec = Jvm.exec) (hb : c.code = cc) (hdg : decode cc pc = .ok (.if_icmp .gt off, 3)) (ht : (pc : Int) + off = (tgt : Int)) (h1 : x < 2 ^ 31) (h2 : y < 2 ^ 31) (kt : y < x → W p l e R s m args below meth c H locs cells slots Q (F0 m tgt ls rest)) (kf : x ≤ y → W p l e R s m args below meth c H locs cells slots Q (F0 m (pc + 3) ls rest)) : W p l e R s m args below meth c H locs cells slots Q (F0 m pc ls (.int (nI y) :: .int (nI x) :: rest)) :=
  lv_icmp_gt hx hb hdg ht (fun q => kt ((nI_ltI h2 h1).mp q)) (fun q => kf (Nat.not_lt.mp fun z => q ((nI_ltI h2 h1).mpr z)))
theorem n_icmp_le {x y : Nat} {off : Int} {tgt : Nat} (hx : p.tables.exec = Jvm.exec) (hb : c.code = cc) (hdg : decode cc pc = .ok (.if_icmp .le off, 3)) (ht : (pc : Int) + off = (tgt : Int)) (h1 : x < 2 ^ 31) (h2 : y < 2 ^ 31) (kt : x ≤ y → W p l e R s m args below meth c H locs cells slots Q (F0 m tgt ls rest)) (kf : y < x → W p l e R s m args below meth c H locs cells slots Q (F0 m (pc + 3) ls rest)) : W p l e R s m args below meth c H locs cells slots Q (F0 m pc ls (.int (nI y) :: .int (nI x) :: rest)) :=
  lv_icmp_le hx hb hdg ht (fun q => kt ((nI_leI h1 h2).mp q)) (fun q => kf (Nat.not_le.mp fun z => q ((nI_leI h1 h2).mpr z)))
theorem n_icmp_eq {x y : Nat} {off : Int} {tgt : Nat} (hx : p.tables.exec = Jvm.exec) (hb : c.code = cc) (hdg : decode cc pc = .ok (.if_icmp .eq off, 3)) (ht : (pc : Int) + off = (tgt : Int)) (h1 : x < 2 ^ 31) (h2 : y < 2 ^ 31) (kt : x = y → W p l e R s m args below meth c H locs cells slots Q (F0 m tgt ls rest)) (kf : ¬ x = y → W p l e R s m args below meth c H locs cells slots Q (F0 m (pc + 3) ls rest)) : W p l e R s m args below meth c H locs cells slots Q (F0 m pc ls (.int (nI y) :: .int (nI x) :: rest)) :=
  lv_icmp_eq hx hb hdg ht (fun q => kt ((nI_eq h1 h2).mp q)) (fun q => kf (fun z => q ((nI_eq h1 h2).mpr z)))
theorem n_icmp_ne {x y : Nat} {off : Int} {tgt : Nat} (hx : p.tables.exec = Jvm.exec) (hb : c.code = cc) (hdg : decode cc pc = .ok (.if_icmp .ne off, 3)) (ht : (pc : Int) + off = (tgt : Int)) (h1 : x < 2 ^ 31) (h2 : y < 2 ^ 31) (kt : ¬ x = y → W p l e R s m args below meth c H locs cells slots Q (F0 m tgt ls rest)) (kf : x = y → W p l e R s m args below meth c H locs cells slots Q (F0 m (pc + 3) ls rest)) : W p l e R s m args below meth c H locs cells slots Q (F0 m pc ls (.int (nI y) :: .int (nI x) :: rest)) :=
  lv_icmp_ne hx hb hdg ht (fun q => kt (fun z => q ((nI_eq h1 h2).mpr z))) (fun q => kf ((nI_eq h1 h2).mp q))
theorem n_if_eq {x : Nat} {off : Int} {tgt : Nat} (hx : p.tables.exec = Jvm.exec) (hb : c.code = cc) (hdg : decode cc pc = .ok (.ifCond .eq off, 3)) (ht : (pc : Int) + off = (tgt : Int)) (h1 : x < 2 ^ 31) (kt : x = 0 → W p l e R s m args below meth c H locs cells slots Q (F0 m tgt ls rest)) (kf : 0 < x → W p l e R s m args below meth c H locs cells slots Q (F0 m (pc + 3) ls rest)) : W p l e R s m args below meth c H locs cells slots Q (F0 m pc ls (.int (nI x) :: rest)) :=
  lv_if_eq hx hb hdg ht (fun q => kt ((nI_eq h1 (by decide)).mp (q.trans nI_0.symm))) (fun q => kf (Nat.pos_of_ne_zero (fun z => q (by rw [z]; exact nI_0))))
theorem n_if_ne {x : Nat} {off : Int} {tgt : Nat} (hx : p.tables.exec = Jvm.exec) (hb : c.code = cc) (hdg : decode cc pc = .ok (.ifCond .ne off, 3)) (ht : (pc : Int) + off = (tgt : Int)) (h1 : x < 2 ^ 31) (kt : 0 < x → W p l e R s m args below meth c H locs cells slots Q (F0 m tgt ls rest)) (kf : x = 0 → W p l e R s m args below meth c H locs cells slots Q (F0 m (pc + 3) ls rest)) : W p l e R s m args below meth c H locs cells slots Q (F0 m pc ls (.int (nI x) :: rest)) :=
  lv_if_ne hx hb hdg ht (fun q => kt (Nat.pos_of_ne_zero (fun z => q (by rw [z]; exact nI_0)))) (fun q => kf ((nI_eq h1 (by decide)).mp (q.trans nI_0.symm)))
theorem n_if_le {x : Nat} {off : Int} {tgt : Nat} (hx : p.tables.exec = Jvm.exec) (hb : c.code = cc) (hdg : decode cc pc = .ok (.ifCond .le off, 3)) (ht : (pc : Int) + off = (tgt : Int)) (h1 : x < 2 ^ 31) (kt : x = 0 → W p l e R s m args below meth c H locs cells slots Q (F0 m tgt ls rest)) (kf : 0 < x → W p l e R s m args below meth c H locs cells slots Q (F0 m (pc + 3) ls rest)) : W p l e R s m args below meth c H locs cells slots Q (F0 m pc ls (.int (nI x) :: rest)) :=
  lv_if_le hx hb hdg ht (fun q => kt (by have := (nI_leI h1 (b := 0) (by decide)).mp q; omega)) (fun q => kf (Nat.pos_of_ne_zero (fun z => q (by rw [z]; decide))))
theorem n_if_gt {x : Nat} {off : Int} {tgt : Nat} (hx : p.tables.exec = Jvm.exec) (hb : c.code = cc) (hdg : decode cc pc = .ok (.ifCond .gt off, 3)) (ht : (pc : Int) + off = (tgt : Int)) (h1 : x < 2 ^ 31) (kt : 0 < x → W p l e R s m args below meth c H locs cells slots Q (F0 m tgt ls rest)) (kf : x = 0 → W p l e R s m args below meth c H locs cells slots Q (F0 m (pc + 3) ls rest)) : W p l e R s m args below meth c H locs cells slots Q (F0 m pc ls (.int (nI x) :: rest)) :=
  lv_if_gt hx hb hdg ht (fun q => kt ((nI_ltI (a := 0) (by decide) h1).mp q)) (fun q => kf (Nat.eq_zero_of_not_pos (fun z => q ((nI_ltI (a := 0) (by decide) h1).mpr z))))
theorem n_iald {x : Nat} (hx : p.tables.exec = Jvm.exec) (hb : c.code = cc) (hK : va_K D cl tys s) (hP : va_P D cl ws H) (q0 t0 : Nat) {cA : ClassId} {n : Nat} {f : Nat → Int32} (ha : ws[q0]? = some (a, .inl (cA, n, .inl f))) (ht : tys[t0]? = some (cA, .int)) (hin : x < n) (hn : n < 2 ^ 31) (hdg : decode cc pc = .ok (.iaload, 1)) (kk : W p l e R s m args below meth c H locs cells slots Q (F0 m (pc + 1) ls (.int (f x) :: rest))) : W p l e R s m args below meth c H locs cells slots Q (F0 m pc ls (.int (nI x) :: .ref a :: rest)) :=
  va_iald hx hb hK hP q0 t0 ha ht (vp_in_nI hin hn) hdg (by rw [nI_clamp (Nat.lt_trans hin hn)]; exact kk)
theorem n_lald {x : Nat} (hx : p.tables.exec = Jvm.exec) (hb : c.code = cc) (hK : va_K D cl tys s) (hP : va_P D cl ws H) (q0 t0 : Nat) {cA : ClassId} {n : Nat} {f : Nat → Int64} (ha : ws[q0]? = some (a, .inl (cA, n, .inr (.inl f)))) (ht : tys[t0]? = some (cA, .long)) (hin : x < n) (hn : n < 2 ^ 31) (hdg : decode cc pc = .ok (.laload, 1)) (kk : W p l e R s m args below meth c H locs cells slots Q (F0 m (pc + 1) ls (.long (f x) :: rest))) : W p l e R s m args below meth c H locs cells slots Q (F0 m pc ls (.int (nI x) :: .ref a :: rest)) :=
  va_lald hx hb hK hP q0 t0 ha ht (vp_in_nI hin hn) hdg (by rw [nI_clamp (Nat.lt_trans hin hn)]; exact kk)
theorem n_zald {x : Nat} (hx : p.tables.exec = Jvm.exec) (hb : c.code = cc) (hK : va_K D cl tys s) (hP : va_P D cl ws H) (q0 t0 : Nat) {cA : ClassId} {n : Nat} {f : Nat → Int32} (ha : ws[q0]? = some (a, .inl (cA, n, .inl f))) (ht : tys[t0]? = some (cA, .boolean)) (hin : x < n) (hn : n < 2 ^ 31) (hdg : decode cc pc = .ok (.baload, 1)) (kk : W p l e R s m args below meth c H locs cells slots Q (F0 m (pc + 1) ls (.int (f x) :: rest))) : W p l e R s m args below meth c H locs cells slots Q (F0 m pc ls (.int (nI x) :: .ref a :: rest)) :=
  va_zald hx hb hK hP q0 t0 ha ht (vp_in_nI hin hn) hdg (by rw [nI_clamp (Nat.lt_trans hin hn)]; exact kk)
theorem n_aldq {x : Nat} (hx : p.tables.exec = Jvm.exec) (hb : c.code = cc) (hK : va_K D cl tys s) (hP : va_P D cl ws H) (q0 t0 : Nat) {cA : ClassId} {C : String} {n : Nat} {f : Nat → Option Nat} (ha : ws[q0]? = some (a, .inl (cA, n, .inr (.inr (.inr (.inr f)))))) (ht : tys[t0]? = some (cA, .object C)) (hin : x < n) (hn : n < 2 ^ 31) (hdg : decode cc pc = .ok (.aaload, 1)) (kk : W p l e R s m args below meth c H locs cells slots Q (F0 m (pc + 1) ls (va_rf (f x) :: rest))) : W p l e R s m args below meth c H locs cells slots Q (F0 m pc ls (.int (nI x) :: .ref a :: rest)) :=
  va_aldq hx hb hK hP q0 t0 ha ht (vp_in_nI hin hn) hdg (by rw [nI_clamp (Nat.lt_trans hin hn)]; exact kk)
theorem n_iast {x : Nat} {v : Int32} (hx : p.tables.exec = Jvm.exec) (hb : c.code = cc) (hK : va_K D cl tys s) (hP : va_P D cl ws H) (hD : va_D A ws) (hS : va_S A H0 H locs) (q0 t0 : Nat) {cA : ClassId} {n : Nat} {f : Nat → Int32} (ha : ws[q0]? = some (a, .inl (cA, n, .inl f))) (ht : tys[t0]? = some (cA, .int)) (hin : x < n) (hn : n < 2 ^ 31) (hdg : decode cc pc = .ok (.iastore, 1)) (kk : ∀ (H1 : Heap) (locs1 : List Loc), va_P D cl (ws.set q0 (a, .inl (cA, n, .inl (upd f x v)))) H1 → va_D A (ws.set q0 (a, .inl (cA, n, .inl (upd f x v)))) → va_S A H0 H1 locs1 → W p l e R s m args below meth c H1 locs1 cells slots Q (F0 m (pc + 1) ls rest)) : W p l e R s m args below meth c H locs cells slots Q (F0 m pc ls (.int v :: .int (nI x) :: .ref a :: rest)) :=
  va_iast hx hb hK hP hD hS q0 t0 ha ht (vp_in_nI hin hn) hdg (by rw [nI_clamp (Nat.lt_trans hin hn)]; exact kk)
theorem n_last {x : Nat} {v : Int64} (hx : p.tables.exec = Jvm.exec) (hb : c.code = cc) (hK : va_K D cl tys s) (hP : va_P D cl ws H) (hD : va_D A ws) (hS : va_S A H0 H locs) (q0 t0 : Nat) {cA : ClassId} {n : Nat} {f : Nat → Int64} (ha : ws[q0]? = some (a, .inl (cA, n, .inr (.inl f)))) (ht : tys[t0]? = some (cA, .long)) (hin : x < n) (hn : n < 2 ^ 31) (hdg : decode cc pc = .ok (.lastore, 1)) (kk : ∀ (H1 : Heap) (locs1 : List Loc), va_P D cl (ws.set q0 (a, .inl (cA, n, .inr (.inl (vp_updL f x v))))) H1 → va_D A (ws.set q0 (a, .inl (cA, n, .inr (.inl (vp_updL f x v))))) → va_S A H0 H1 locs1 → W p l e R s m args below meth c H1 locs1 cells slots Q (F0 m (pc + 1) ls rest)) : W p l e R s m args below meth c H locs cells slots Q (F0 m pc ls (.long v :: .int (nI x) :: .ref a :: rest)) :=
  va_last hx hb hK hP hD hS q0 t0 ha ht (vp_in_nI hin hn) hdg (by rw [nI_clamp (Nat.lt_trans hin hn)]; exact kk)
end NatRows
theorem lgc_lt {x y : Int64} : lg_cmp x y < 0 ↔ x < y := by
  unfold lg_cmp
  by_cases h1 : x > y
  · rw [if_pos h1]
    constructor
    · intro h; exact absurd h (by decide)
    · intro h; rw [gt_iff_lt, Int64.lt_iff_toInt_lt] at h1; rw [Int64.lt_iff_toInt_lt] at h; omega
  · rw [if_neg h1]
    by_cases h2 : x = y
    · rw [if_pos h2]
      constructor
      · intro h; exact absurd h (by decide)
      · intro h; subst h2; rw [Int64.lt_iff_toInt_lt] at h; omega
    · rw [if_neg h2]
      constructor
      · intro _
        rw [gt_iff_lt, Int64.lt_iff_toInt_lt] at h1
        rw [Int64.lt_iff_toInt_lt]
        have : ¬ x.toInt = y.toInt := fun q => h2 (Int64.toInt_inj.mp q)
        omega
      · intro _; decide
theorem lgc_gt {x y : Int64} : 0 < lg_cmp x y ↔ y < x := by
  unfold lg_cmp
  by_cases h1 : x > y
  · rw [if_pos h1]; exact ⟨fun _ => h1, fun _ => by decide⟩
  · rw [if_neg h1]
    refine ⟨fun h => ?_, fun h => absurd h h1⟩
    by_cases h2 : x = y
    · rw [if_pos h2] at h; exact absurd h (by decide)
    · rw [if_neg h2] at h; exact absurd h (by decide)
theorem lgc_eq {x y : Int64} : lg_cmp x y = 0 ↔ x = y := by
  unfold lg_cmp
  by_cases h1 : x > y
  · rw [if_pos h1]
    refine ⟨fun h => absurd h (by decide), fun h => ?_⟩
    subst h; rw [gt_iff_lt, Int64.lt_iff_toInt_lt] at h1; omega
  · rw [if_neg h1]
    by_cases h2 : x = y
    · rw [if_pos h2]; exact ⟨fun _ => h2, fun _ => rfl⟩
    · rw [if_neg h2]; exact ⟨fun h => absurd h (by decide), fun h => absurd h h2⟩
theorem i64_nlt {a b : Int64} : ¬ a < b ↔ b ≤ a := by rw [Int64.lt_iff_toInt_lt, Int64.le_iff_toInt_le]; omega
theorem i64_nle {a b : Int64} : ¬ a ≤ b ↔ b < a := by rw [Int64.lt_iff_toInt_lt, Int64.le_iff_toInt_le]; omega
theorem lgc_le {x y : Int64} : lg_cmp x y ≤ 0 ↔ x ≤ y := by rw [← i64_nlt, ← lgc_gt, i32_nlt]
theorem lgc_ge {x y : Int64} : 0 ≤ lg_cmp x y ↔ y ≤ x := by rw [← i64_nlt, ← lgc_lt, i32_nlt]
theorem sw_ne {x k : Int32} {a : Int} (h : ¬ x = k) (hk : k.toInt = a) : ¬ x.toInt = a := fun q => h (Int32.toInt_inj.mp (by rw [hk]; exact q))
theorem sw_out13_0 {x : Int32} (h0 : ¬ x = 0) (h1 : ¬ x = 1) (h2 : ¬ x = 2) (h3 : ¬ x = 3) (h4 : ¬ x = 4) (h5 : ¬ x = 5) (h6 : ¬ x = 6) (h7 : ¬ x = 7) (h8 : ¬ x = 8) (h9 : ¬ x = 9) (h10 : ¬ x = 10) (h11 : ¬ x = 11) (h12 : ¬ x = 12) : x.toInt < 0 ∨ 12 < x.toInt := by
  have a0 := sw_ne (a := 0) h0 (by decide)
  have a1 := sw_ne (a := 1) h1 (by decide)
  have a2 := sw_ne (a := 2) h2 (by decide)
  have a3 := sw_ne (a := 3) h3 (by decide)
  have a4 := sw_ne (a := 4) h4 (by decide)
  have a5 := sw_ne (a := 5) h5 (by decide)
  have a6 := sw_ne (a := 6) h6 (by decide)
  have a7 := sw_ne (a := 7) h7 (by decide)
  have a8 := sw_ne (a := 8) h8 (by decide)
  have a9 := sw_ne (a := 9) h9 (by decide)
  have a10 := sw_ne (a := 10) h10 (by decide)
  have a11 := sw_ne (a := 11) h11 (by decide)
  have a12 := sw_ne (a := 12) h12 (by decide)
  omega
theorem sw_out6_0 {x : Int32} (h0 : ¬ x = 0) (h1 : ¬ x = 1) (h2 : ¬ x = 2) (h3 : ¬ x = 3) (h4 : ¬ x = 4) (h5 : ¬ x = 5) : x.toInt < 0 ∨ 5 < x.toInt := by
  have a0 := sw_ne (a := 0) h0 (by decide)
  have a1 := sw_ne (a := 1) h1 (by decide)
  have a2 := sw_ne (a := 2) h2 (by decide)
  have a3 := sw_ne (a := 3) h3 (by decide)
  have a4 := sw_ne (a := 4) h4 (by decide)
  have a5 := sw_ne (a := 5) h5 (by decide)
  omega
end
section
/-! LOSSES: tries, spans, means: the pure words, and the contracts of both sides' methods. -/
def ilh (x y : Int32) : Int32 := if wi x 0 2 = 0 then 0 else if wi y 0 199 = 0 then 0 else 1
def tryOk (x y z : Int32) : Int32 := if wi x 1 10 = 0 then 0 else if wi y 0 2 = 0 then 0 else if wi z 2 10 = 0 then 0 else 1
def pw (b : Int32) : Nat → Int64
  | 0 => 1
  | n + 1 => pw b n * b.toInt64
/-- q times (q to the n, less q - 1 to the n), on the line 'al' -/
def tr1 (q n al : Nat) : Int64 := (nI q).toInt64 * (pw (nI q) n - pw (nI (q - 1)) n) * pw (nI (q - 1)) (al - n)
def abF (sv q sp li : Nat) : Nat → Nat → Int64 → Int64
  | 0, _, v => v
  | n + 1, lf, v => if lf = 0 then v else abF sv q sp li n (lf - sp) (v + tr1 q (min sp lf + sv) li)
theorem abF_s {sv q sp li n lf : Nat} {v : Int64} (h : 0 < lf) : abF sv q sp li (n + 1) lf v = abF sv q sp li n (lf - sp) (v + tr1 q (min sp lf + sv) li) := if_neg (by omega)
theorem abF_0 {sv q sp li n lf : Nat} {v : Int64} (h : n = 0 ∨ lf = 0) : abF sv q sp li n lf v = v := by
  cases n with
  | zero => rfl
  | succ n => exact if_pos (by omega)
theorem abF_cut {sp lf : Nat} : lf - min sp lf = lf - sp := by omega
theorem abF_sum {q n al : Nat} : (nI q).toInt64 * (pw (nI q) n - pw (nI (q - 1)) n) * pw (nI (q - 1)) (al - n) = tr1 q n al := rfl
def bsp (f : Nat → Int64) : Nat → Nat → Nat → Nat
  | 0, _, b => b
  | n + 1, k, b => bsp f n (k + 1) (if f b ≤ f k then b else k)
def gV : Nat → Int64 → Int64 → Int64 × Int64
  | 0, a, b => (a, b)
  | n + 1, a, b => if b = 0 then (a, b) else gV n b (a - a / b * b)
theorem gV_s {n : Nat} {a b : Int64} (h : ¬ b = 0) : gV (n + 1) a b = gV n b (a - a / b * b) := if_neg h
theorem gV_z {n : Nat} {a b : Int64} (h : b = 0) : gV n a b = (a, b) := by
  cases n with
  | zero => rfl
  | succ n => exact if_pos h
def spanF (sv q w : Nat) : Nat → Int64 := fun k => abF sv q k (w + sv) w w 0
def spanV (x y z : Int32) : Int32 := if tryOk x y z = 0 then -1 else nI (bsp (spanF y.toNatClampNeg z.toNatClampNeg x.toNatClampNeg) (x.toNatClampNeg - 1) 2 1)
def mnC (w sv q sp : Nat) (wt : Int32) : Int64 := if 0 < (gV 200 (abF sv q sp (sp + sv) w w 0) (pw (nI (q - 1)) (sp + sv))).1 then (if wt = 0 then abF sv q sp (sp + sv) w w 0 else pw (nI (q - 1)) (sp + sv)) / (gV 200 (abF sv q sp (sp + sv) w w 0) (pw (nI (q - 1)) (sp + sv))).1 else -1
def mnM (w sv q sp : Nat) (wt : Int32) : Int64 := (if wt = 0 then abF sv q sp (w + sv) w w 0 else pw (nI (q - 1)) (w + sv)) / (gV 200 (abF sv q sp (w + sv) w w 0) (pw (nI (q - 1)) (w + sv))).1
def meanW (f : Nat → Nat → Nat → Nat → Int32 → Int64) (x y z sp wt : Int32) : Int64 := if tryOk x y z = 0 then -1 else if wi sp 1 x = 0 then -1 else if wi wt 0 1 = 0 then -1 else f x.toNatClampNeg y.toNatClampNeg z.toNatClampNeg sp.toNatClampNeg wt
theorem wi_nat {x : Int32} {a b : Nat} (ha : a < 2 ^ 31) (hb : b < 2 ^ 31) (h : ¬ wi x (nI a) (nI b) = 0) : ∃ n, a ≤ n ∧ n ≤ b ∧ x = nI n := by
  obtain ⟨h1, h2⟩ := wi_t h
  have h3 := Int32.le_iff_toInt_le.mp h1
  have h4 := Int32.le_iff_toInt_le.mp h2
  rw [nI_toInt ha] at h3
  rw [nI_toInt hb] at h4
  obtain ⟨n, hn, rfl⟩ := nI_of (x := x) (by rw [Int32.lt_iff_toInt_lt]; show ¬ _ < 0; omega)
  rw [nI_toInt hn] at h3 h4
  exact ⟨n, by omega, by omega, rfl⟩
theorem tryOk_nat {x y z : Int32} (h : ¬ tryOk x y z = 0) : ∃ w sv q : Nat, (1 ≤ w ∧ w ≤ 10) ∧ sv ≤ 2 ∧ (2 ≤ q ∧ q ≤ 10) ∧ x = nI w ∧ y = nI sv ∧ z = nI q := by
  unfold tryOk at h
  by_cases h1 : wi x 1 10 = 0
  · rw [if_pos h1] at h; exact absurd rfl h
  rw [if_neg h1] at h
  by_cases h2 : wi y 0 2 = 0
  · rw [if_pos h2] at h; exact absurd rfl h
  rw [if_neg h2] at h
  by_cases h3 : wi z 2 10 = 0
  · rw [if_pos h3] at h; exact absurd rfl h
  obtain ⟨w, a1, a2, rfl⟩ := wi_nat (a := 1) (b := 10) (by decide) (by decide) h1
  obtain ⟨sv, b1, b2, rfl⟩ := wi_nat (a := 0) (b := 2) (by decide) (by decide) h2
  obtain ⟨q, c1, c2, rfl⟩ := wi_nat (a := 2) (b := 10) (by decide) (by decide) h3
  exact ⟨w, sv, q, ⟨a1, a2⟩, b2, ⟨c1, c2⟩, rfl, rfl, rfl⟩
theorem nI_cl {n : Nat} (h : n ≤ 1000) : (nI n).toNatClampNeg = n := nI_clamp (by omega)
theorem bsp_t {f : Nat → Int64} {n k b : Nat} (h : f b ≤ f k) : bsp f (n + 1) k b = bsp f n (k + 1) b := by rw [bsp, if_pos h]
theorem bsp_f {f : Nat → Int64} {n k b : Nat} (h : ¬ f b ≤ f k) : bsp f (n + 1) k b = bsp f n (k + 1) k := by rw [bsp, if_neg h]
def mnG (w sv q sp : Nat) : Int64 × Int64 := gV 200 (abF sv q sp (w + sv) w w 0) (pw (nI (q - 1)) (w + sv))
def mnChk (w sv q sp : Nat) : Bool := decide ((mnG w sv q sp).2 = 0) && !decide ((mnG w sv q sp).1 = 0) && decide (mnC w sv q sp 0 = mnM w sv q sp 0) && decide (mnC w sv q sp 1 = mnM w sv q sp 1)
set_option maxRecDepth 100000 in
theorem mn_chk : ((List.range 11).all fun w => (List.range 3).all fun sv => (List.range 11).all fun q => (List.range 11).all fun sp => !(decide (1 ≤ w) && decide (2 ≤ q) && decide (1 ≤ sp) && decide (sp ≤ w)) || mnChk w sv q sp) = true := by decide +kernel
theorem mn_all (w : Nat) (h1 : w < 11) (sv : Nat) (h2 : sv < 3) (q : Nat) (h3 : q < 11) (sp : Nat) (h4 : sp < 11) (h : 1 ≤ w ∧ 2 ≤ q ∧ 1 ≤ sp ∧ sp ≤ w) : ((gV 200 (abF sv q sp (w + sv) w w 0) (pw (nI (q - 1)) (w + sv))).2 = 0 ∧ ¬ (gV 200 (abF sv q sp (w + sv) w w 0) (pw (nI (q - 1)) (w + sv))).1 = 0) ∧ mnC w sv q sp 0 = mnM w sv q sp 0 ∧ mnC w sv q sp 1 = mnM w sv q sp 1 := by
  have a1 := List.all_eq_true.mp mn_chk w (List.mem_range.mpr h1)
  have a2 := List.all_eq_true.mp a1 sv (List.mem_range.mpr h2)
  have a3 := List.all_eq_true.mp a2 q (List.mem_range.mpr h3)
  have a4 := List.all_eq_true.mp a3 sp (List.mem_range.mpr h4)
  obtain ⟨b1, b2, b3, b4⟩ := h
  simp only [b1, b2, b3, b4, decide_true, Bool.and_true, Bool.not_true, Bool.false_or, mnChk, Bool.and_eq_true, decide_eq_true_eq, Bool.not_eq_true', decide_eq_false_iff_not] at a4
  exact ⟨⟨a4.1.1.1, a4.1.1.2⟩, a4.1.2, a4.2⟩
theorem i64_ne {a : Int64} (h : 0 < a) (h2 : a = 0) : False := by subst h2; exact absurd h (by decide)
theorem meanW_eq (x y z sp wt : Int32) : meanW mnC x y z sp wt = meanW mnM x y z sp wt := by
  unfold meanW
  by_cases h1 : tryOk x y z = 0
  · rw [if_pos h1, if_pos h1]
  rw [if_neg h1, if_neg h1]
  by_cases h2 : wi sp 1 x = 0
  · rw [if_pos h2, if_pos h2]
  rw [if_neg h2, if_neg h2]
  by_cases h3 : wi wt 0 1 = 0
  · rw [if_pos h3, if_pos h3]
  rw [if_neg h3, if_neg h3]
  obtain ⟨w, sv, q, hw, hsv, hq, rfl, rfl, rfl⟩ := tryOk_nat h1
  obtain ⟨n, a1, a2, rfl⟩ := wi_nat (a := 1) (b := w) (by decide) (by omega) h2
  obtain ⟨t, b1, b2, rfl⟩ := wi_nat (a := 0) (b := 1) (by decide) (by decide) h3
  rw [nI_cl (by omega), nI_cl (by omega), nI_cl (by omega), nI_cl (by omega)]
  obtain ⟨-, e0, e1⟩ := mn_all w (by omega) sv (by omega) q (by omega) n (by omega) ⟨hw.1, hq.1, a1, a2⟩
  rcases (show t = 0 ∨ t = 1 by omega) with rfl | rfl
  · exact e0
  · exact e1
set_option maxHeartbeats 4000000 in
set_option maxRecDepth 100000 in
theorem c_X6_within (l : Launch) (D : va_G) (cI cL cZ cO : ClassId) (x y z : Int32) : Met l yX6_within wsX6_within ({ frames := 0, cells := 0, slots := 0, locals := 0 } : Room) (va_Pc [.int x, .int y, .int z] (Ro D cI cL cZ cO ([]))) (vp_Si (fun r => r = wi x y z)) 0 0 (fun _ => False) := by
  refine Met.ofW (cc := cX6_within) (maxL := 3) (ret := (some .boolean)) (by decide) rfl ?_
  intro p e s m args below meth c s₁ B hml hv
  obtain ⟨rfl, hP, hO⟩ := hv
  have hx := B.exec
  have hb := B.bytes
  have hr := B.returns
  have hts := atoms_spec (ws := wsX6_within) B.pre
  have hown : s.vm.findClass RX6 = some m.cls := findClass_of_methodNamed B.named
  have hlocks := B.notSynchronized
  have hK := hO.1
  have hl := lv_entry ([.int x, .int y, .int z]) (n := 3) (Nat.le_of_ble_eq_true rfl)
  rw [lg_entry_eq]
  generalize (lg_sl ([.int x, .int y, .int z]) ++ List.replicate (3 - (lg_sl ([.int x, .int y, .int z])).length) Slot.unset).toArray = ls at hl ⊢
  have hl : lv_has ls 3 [(0, .int x), (1, .int y), (2, .int z)] := hl
  generalize hQQ : MQ below _ _ s _ _ _ = QQ
  refine lv_iload_n hx hb dX6_within_0 rfl (lv_at hl 0 rfl) ?_
  refine lv_iload_n hx hb dX6_within_1 rfl (lv_at hl 1 rfl) ?_
  refine lv_icmp_lt (tgt := 14) hx hb dX6_within_2 (by decide) (fun c_2 => ?_) (fun c_2 => ?_)
  · skip
    refine lv_iconst (v := 0) hx hb dX6_within_14 (by decide) ?_
    rw [← hQQ]
    exact W.zret (v := 0) hx hb hr rfl (fun t9 ht9 hW9 => ⟨_, rfl, (wi_0 (fun q => i32_nlt.mpr q.1 c_2)).symm, ht9⟩) (fun q h => by cases h) dX6_within_15
  · skip
    refine lv_iload_n hx hb dX6_within_5 rfl (lv_at hl 0 rfl) ?_
    refine lv_iload_n hx hb dX6_within_6 rfl (lv_at hl 2 rfl) ?_
    refine lv_icmp_gt (tgt := 14) hx hb dX6_within_7 (by decide) (fun c_7 => ?_) (fun c_7 => ?_)
    · skip
      refine lv_iconst (v := 0) hx hb dX6_within_14 (by decide) ?_
      rw [← hQQ]
      exact W.zret (v := 0) hx hb hr rfl (fun t9 ht9 hW9 => ⟨_, rfl, (wi_0 (fun q => i32_nlt.mpr q.2 c_7)).symm, ht9⟩) (fun q h => by cases h) dX6_within_15
    · skip
      refine lv_iconst (v := 1) hx hb dX6_within_10 (by decide) ?_
      refine lv_goto (tgt := 15) hx hb dX6_within_11 (by decide) ?_
      rw [← hQQ]
      exact W.zret (v := 1) hx hb hr rfl (fun t9 ht9 hW9 => ⟨_, rfl, (wi_1 (i32_nlt.mp c_2) (i32_nlt.mp c_7)).symm, ht9⟩) (fun q h => by cases h) dX6_within_15
set_option maxHeartbeats 4000000 in
set_option maxRecDepth 100000 in
theorem c_X7_in (l : Launch) (D : va_G) (cI cL cZ cO : ClassId) (x y z : Int32) : Met l yX7_in wsX7_in ({ frames := 0, cells := 0, slots := 0, locals := 0 } : Room) (va_Pc [.int x, .int y, .int z] (Ro D cI cL cZ cO ([]))) (vp_Si (fun r => r = wi x y z)) 0 0 (fun _ => False) := by
  refine Met.ofW (cc := cX7_in) (maxL := 3) (ret := (some .boolean)) (by decide) rfl ?_
  intro p e s m args below meth c s₁ B hml hv
  obtain ⟨rfl, hP, hO⟩ := hv
  have hx := B.exec
  have hb := B.bytes
  have hr := B.returns
  have hts := atoms_spec (ws := wsX7_in) B.pre
  have hown : s.vm.findClass RX7 = some m.cls := findClass_of_methodNamed B.named
  have hlocks := B.notSynchronized
  have hK := hO.1
  have hl := lv_entry ([.int x, .int y, .int z]) (n := 3) (Nat.le_of_ble_eq_true rfl)
  rw [lg_entry_eq]
  generalize (lg_sl ([.int x, .int y, .int z]) ++ List.replicate (3 - (lg_sl ([.int x, .int y, .int z])).length) Slot.unset).toArray = ls at hl ⊢
  have hl : lv_has ls 3 [(0, .int x), (1, .int y), (2, .int z)] := hl
  generalize hQQ : MQ below _ _ s _ _ _ = QQ
  refine lv_iload_n hx hb dX7_in_0 rfl (lv_at hl 0 rfl) ?_
  refine lv_iload_n hx hb dX7_in_1 rfl (lv_at hl 1 rfl) ?_
  refine lv_icmp_lt (tgt := 14) hx hb dX7_in_2 (by decide) (fun c_2 => ?_) (fun c_2 => ?_)
  · skip
    refine lv_iconst (v := 0) hx hb dX7_in_14 (by decide) ?_
    rw [← hQQ]
    exact W.zret (v := 0) hx hb hr rfl (fun t9 ht9 hW9 => ⟨_, rfl, (wi_0 (fun q => i32_nlt.mpr q.1 c_2)).symm, ht9⟩) (fun q h => by cases h) dX7_in_15
  · skip
    refine lv_iload_n hx hb dX7_in_5 rfl (lv_at hl 0 rfl) ?_
    refine lv_iload_n hx hb dX7_in_6 rfl (lv_at hl 2 rfl) ?_
    refine lv_icmp_gt (tgt := 14) hx hb dX7_in_7 (by decide) (fun c_7 => ?_) (fun c_7 => ?_)
    · skip
      refine lv_iconst (v := 0) hx hb dX7_in_14 (by decide) ?_
      rw [← hQQ]
      exact W.zret (v := 0) hx hb hr rfl (fun t9 ht9 hW9 => ⟨_, rfl, (wi_0 (fun q => i32_nlt.mpr q.2 c_7)).symm, ht9⟩) (fun q h => by cases h) dX7_in_15
    · skip
      refine lv_iconst (v := 1) hx hb dX7_in_10 (by decide) ?_
      refine lv_goto (tgt := 15) hx hb dX7_in_11 (by decide) ?_
      rw [← hQQ]
      exact W.zret (v := 1) hx hb hr rfl (fun t9 ht9 hW9 => ⟨_, rfl, (wi_1 (i32_nlt.mp c_2) (i32_nlt.mp c_7)).symm, ht9⟩) (fun q h => by cases h) dX7_in_15
set_option maxHeartbeats 4000000 in
set_option maxRecDepth 100000 in
theorem c_X4_isLetHour (l : Launch) (D : va_G) (cI cL cZ cO : ClassId) (x y : Int32) : Met l yX4_isLetHour wsX4_isLetHour ({ frames := 1, cells := 0, slots := 0, locals := 22 } : Room) (va_Pc [.int x, .int y] (Ro D cI cL cZ cO ([]))) (vp_Si (fun r => r = ilh x y)) 0 0 (fun _ => False) := by
  refine Met.ofW (cc := cX4_isLetHour) (maxL := 2) (ret := (some .boolean)) (by decide) rfl ?_
  intro p e s m args below meth c s₁ B hml hv
  obtain ⟨rfl, hP, hO⟩ := hv
  have hx := B.exec
  have hb := B.bytes
  have hr := B.returns
  have hts := atoms_spec (ws := wsX4_isLetHour) B.pre
  have hown : s.vm.findClass RX4 = some m.cls := findClass_of_methodNamed B.named
  have hlocks := B.notSynchronized
  have hK := hO.1
  have hl := lv_entry ([.int x, .int y]) (n := 2) (Nat.le_of_ble_eq_true rfl)
  rw [lg_entry_eq]
  generalize (lg_sl ([.int x, .int y]) ++ List.replicate (2 - (lg_sl ([.int x, .int y])).length) Slot.unset).toArray = ls at hl ⊢
  have hl : lv_has ls 2 [(0, .int x), (1, .int y)] := hl
  generalize hQQ : MQ below _ _ s _ _ _ = QQ
  refine lv_iload_n hx hb dX4_isLetHour_0 rfl (lv_at hl 0 rfl) ?_
  refine lv_iconst (v := 0) hx hb dX4_isLetHour_1 (by decide) ?_
  refine lv_iconst (v := 2) hx hb dX4_isLetHour_2 (by decide) ?_
  refine roNi (As := [.int x, .int 0, .int 2]) (rest := []) ⟨hx, hb, hml, hown, hts⟩ (c_X6_within l D cI cL cZ cO x 0 2 ) ⟨va_cnB 3 hts gX4_isLetHour_X6_within_n29 rfl rfl rfl hO.2.1 (hts (.initialized RX6) (List.mem_of_getElem? (i := 2) rfl)) (by decide +kernel) ⟨Nat.le_of_ble_eq_true rfl, Nat.le_of_ble_eq_true rfl⟩, (hts (.static yX6_within) (List.mem_of_getElem? (i := 1) rfl)), trivial⟩ hO (fun k q h => by simp at h) rfl hl.1 rfl (Nat.le_of_ble_eq_true rfl) dX4_isLetHour_3 ⟨Nat.le_of_ble_eq_true rfl, Nat.le_of_ble_eq_true rfl⟩ (fun r_3 e_3 => ?_)
  obtain rfl : r_3 = wi x 0 2 := e_3
  refine lv_if_eq (tgt := 24) hx hb dX4_isLetHour_6 (by decide) (fun c_6 => ?_) (fun c_6 => ?_)
  · skip
    refine lv_iconst (v := 0) hx hb dX4_isLetHour_24 (by decide) ?_
    rw [← hQQ]
    exact W.zret (v := 0) hx hb hr rfl (fun t9 ht9 hW9 => ⟨_, rfl, by simp only [ilh, if_pos c_6], ht9⟩) (fun q h => by cases h) dX4_isLetHour_25
  · skip
    refine lv_iload_n hx hb dX4_isLetHour_9 rfl (lv_at hl 1 rfl) ?_
    refine lv_iconst (v := 0) hx hb dX4_isLetHour_10 (by decide) ?_
    refine lv_sipush (v := 199) hx hb dX4_isLetHour_11 (by decide) ?_
    refine roNi (As := [.int y, .int 0, .int 199]) (rest := []) ⟨hx, hb, hml, hown, hts⟩ (c_X6_within l D cI cL cZ cO y 0 199 ) ⟨va_cnB 3 hts gX4_isLetHour_X6_within_n29 rfl rfl rfl hO.2.1 (hts (.initialized RX6) (List.mem_of_getElem? (i := 2) rfl)) (by decide +kernel) ⟨Nat.le_of_ble_eq_true rfl, Nat.le_of_ble_eq_true rfl⟩, (hts (.static yX6_within) (List.mem_of_getElem? (i := 1) rfl)), trivial⟩ hO (fun k q h => by simp at h) rfl hl.1 rfl (Nat.le_of_ble_eq_true rfl) dX4_isLetHour_14 ⟨Nat.le_of_ble_eq_true rfl, Nat.le_of_ble_eq_true rfl⟩ (fun r_14 e_14 => ?_)
    obtain rfl : r_14 = wi y 0 199 := e_14
    refine lv_if_eq (tgt := 24) hx hb dX4_isLetHour_17 (by decide) (fun c_17 => ?_) (fun c_17 => ?_)
    · skip
      refine lv_iconst (v := 0) hx hb dX4_isLetHour_24 (by decide) ?_
      rw [← hQQ]
      exact W.zret (v := 0) hx hb hr rfl (fun t9 ht9 hW9 => ⟨_, rfl, by simp only [ilh, if_neg c_6, if_pos c_17], ht9⟩) (fun q h => by cases h) dX4_isLetHour_25
    · skip
      refine lv_iconst (v := 1) hx hb dX4_isLetHour_20 (by decide) ?_
      refine lv_goto (tgt := 25) hx hb dX4_isLetHour_21 (by decide) ?_
      rw [← hQQ]
      exact W.zret (v := 1) hx hb hr rfl (fun t9 ht9 hW9 => ⟨_, rfl, by simp only [ilh, if_neg c_6, if_neg c_17], ht9⟩) (fun q h => by cases h) dX4_isLetHour_25
set_option maxHeartbeats 4000000 in
set_option maxRecDepth 100000 in
theorem c_X2_canBe (l : Launch) (D : va_G) (cI cL cZ cO : ClassId) (x y z : Int32) : Met l yX2_canBe wsX2_canBe ({ frames := 1, cells := 0, slots := 0, locals := 22 } : Room) (va_Pc [.int x, .int y, .int z] (Ro D cI cL cZ cO ([]))) (vp_Si (fun r => r = tryOk x y z)) 0 0 (fun _ => False) := by
  refine Met.ofW (cc := cX2_canBe) (maxL := 3) (ret := (some .boolean)) (by decide) rfl ?_
  intro p e s m args below meth c s₁ B hml hv
  obtain ⟨rfl, hP, hO⟩ := hv
  have hx := B.exec
  have hb := B.bytes
  have hr := B.returns
  have hts := atoms_spec (ws := wsX2_canBe) B.pre
  have hown : s.vm.findClass RX2 = some m.cls := findClass_of_methodNamed B.named
  have hlocks := B.notSynchronized
  have hK := hO.1
  have hl := lv_entry ([.int x, .int y, .int z]) (n := 3) (Nat.le_of_ble_eq_true rfl)
  rw [lg_entry_eq]
  generalize (lg_sl ([.int x, .int y, .int z]) ++ List.replicate (3 - (lg_sl ([.int x, .int y, .int z])).length) Slot.unset).toArray = ls at hl ⊢
  have hl : lv_has ls 3 [(0, .int x), (1, .int y), (2, .int z)] := hl
  generalize hQQ : MQ below _ _ s _ _ _ = QQ
  refine lv_iload_n hx hb dX2_canBe_0 rfl (lv_at hl 0 rfl) ?_
  refine lv_iconst (v := 1) hx hb dX2_canBe_1 (by decide) ?_
  refine lv_bipush (v := 10) hx hb dX2_canBe_2 (by decide) ?_
  refine roNi (As := [.int x, .int 1, .int 10]) (rest := []) ⟨hx, hb, hml, hown, hts⟩ (c_X6_within l D cI cL cZ cO x 1 10 ) ⟨va_cnB 3 hts gX2_canBe_X6_within_n7 rfl rfl rfl hO.2.2.2.1 (hts (.initialized RX6) (List.mem_of_getElem? (i := 2) rfl)) (by decide +kernel) ⟨Nat.le_of_ble_eq_true rfl, Nat.le_of_ble_eq_true rfl⟩, (hts (.static yX6_within) (List.mem_of_getElem? (i := 1) rfl)), trivial⟩ hO (fun k q h => by simp at h) rfl hl.1 rfl (Nat.le_of_ble_eq_true rfl) dX2_canBe_4 ⟨Nat.le_of_ble_eq_true rfl, Nat.le_of_ble_eq_true rfl⟩ (fun r_4 e_4 => ?_)
  obtain rfl : r_4 = wi x 1 10 := e_4
  refine lv_if_eq (tgt := 33) hx hb dX2_canBe_7 (by decide) (fun c_7 => ?_) (fun c_7 => ?_)
  · skip
    refine lv_iconst (v := 0) hx hb dX2_canBe_33 (by decide) ?_
    rw [← hQQ]
    exact W.zret (v := 0) hx hb hr rfl (fun t9 ht9 hW9 => ⟨_, rfl, by simp only [tryOk, if_pos c_7], ht9⟩) (fun q h => by cases h) dX2_canBe_34
  · skip
    refine lv_iload_n hx hb dX2_canBe_10 rfl (lv_at hl 1 rfl) ?_
    refine lv_iconst (v := 0) hx hb dX2_canBe_11 (by decide) ?_
    refine lv_iconst (v := 2) hx hb dX2_canBe_12 (by decide) ?_
    refine roNi (As := [.int y, .int 0, .int 2]) (rest := []) ⟨hx, hb, hml, hown, hts⟩ (c_X6_within l D cI cL cZ cO y 0 2 ) ⟨va_cnB 3 hts gX2_canBe_X6_within_n7 rfl rfl rfl hO.2.2.2.1 (hts (.initialized RX6) (List.mem_of_getElem? (i := 2) rfl)) (by decide +kernel) ⟨Nat.le_of_ble_eq_true rfl, Nat.le_of_ble_eq_true rfl⟩, (hts (.static yX6_within) (List.mem_of_getElem? (i := 1) rfl)), trivial⟩ hO (fun k q h => by simp at h) rfl hl.1 rfl (Nat.le_of_ble_eq_true rfl) dX2_canBe_13 ⟨Nat.le_of_ble_eq_true rfl, Nat.le_of_ble_eq_true rfl⟩ (fun r_13 e_13 => ?_)
    obtain rfl : r_13 = wi y 0 2 := e_13
    refine lv_if_eq (tgt := 33) hx hb dX2_canBe_16 (by decide) (fun c_16 => ?_) (fun c_16 => ?_)
    · skip
      refine lv_iconst (v := 0) hx hb dX2_canBe_33 (by decide) ?_
      rw [← hQQ]
      exact W.zret (v := 0) hx hb hr rfl (fun t9 ht9 hW9 => ⟨_, rfl, by simp only [tryOk, if_neg c_7, if_pos c_16], ht9⟩) (fun q h => by cases h) dX2_canBe_34
    · skip
      refine lv_iload_n hx hb dX2_canBe_19 rfl (lv_at hl 2 rfl) ?_
      refine lv_iconst (v := 2) hx hb dX2_canBe_20 (by decide) ?_
      refine lv_bipush (v := 10) hx hb dX2_canBe_21 (by decide) ?_
      refine roNi (As := [.int z, .int 2, .int 10]) (rest := []) ⟨hx, hb, hml, hown, hts⟩ (c_X6_within l D cI cL cZ cO z 2 10 ) ⟨va_cnB 3 hts gX2_canBe_X6_within_n7 rfl rfl rfl hO.2.2.2.1 (hts (.initialized RX6) (List.mem_of_getElem? (i := 2) rfl)) (by decide +kernel) ⟨Nat.le_of_ble_eq_true rfl, Nat.le_of_ble_eq_true rfl⟩, (hts (.static yX6_within) (List.mem_of_getElem? (i := 1) rfl)), trivial⟩ hO (fun k q h => by simp at h) rfl hl.1 rfl (Nat.le_of_ble_eq_true rfl) dX2_canBe_23 ⟨Nat.le_of_ble_eq_true rfl, Nat.le_of_ble_eq_true rfl⟩ (fun r_23 e_23 => ?_)
      obtain rfl : r_23 = wi z 2 10 := e_23
      refine lv_if_eq (tgt := 33) hx hb dX2_canBe_26 (by decide) (fun c_26 => ?_) (fun c_26 => ?_)
      · skip
        refine lv_iconst (v := 0) hx hb dX2_canBe_33 (by decide) ?_
        rw [← hQQ]
        exact W.zret (v := 0) hx hb hr rfl (fun t9 ht9 hW9 => ⟨_, rfl, by simp only [tryOk, if_neg c_7, if_neg c_16, if_pos c_26], ht9⟩) (fun q h => by cases h) dX2_canBe_34
      · skip
        refine lv_iconst (v := 1) hx hb dX2_canBe_29 (by decide) ?_
        refine lv_goto (tgt := 34) hx hb dX2_canBe_30 (by decide) ?_
        rw [← hQQ]
        exact W.zret (v := 1) hx hb hr rfl (fun t9 ht9 hW9 => ⟨_, rfl, by simp only [tryOk, if_neg c_7, if_neg c_16, if_neg c_26], ht9⟩) (fun q h => by cases h) dX2_canBe_34
set_option maxHeartbeats 4000000 in
set_option maxRecDepth 100000 in
theorem c_X7_isTry (l : Launch) (D : va_G) (cI cL cZ cO : ClassId) (x y z : Int32) : Met l yX7_isTry wsX7_isTry ({ frames := 1, cells := 0, slots := 0, locals := 22 } : Room) (va_Pc [.int x, .int y, .int z] (Ro D cI cL cZ cO ([]))) (vp_Si (fun r => r = tryOk x y z)) 0 0 (fun _ => False) := by
  refine Met.ofW (cc := cX7_isTry) (maxL := 3) (ret := (some .boolean)) (by decide) rfl ?_
  intro p e s m args below meth c s₁ B hml hv
  obtain ⟨rfl, hP, hO⟩ := hv
  have hx := B.exec
  have hb := B.bytes
  have hr := B.returns
  have hts := atoms_spec (ws := wsX7_isTry) B.pre
  have hown : s.vm.findClass RX7 = some m.cls := findClass_of_methodNamed B.named
  have hlocks := B.notSynchronized
  have hK := hO.1
  have hl := lv_entry ([.int x, .int y, .int z]) (n := 3) (Nat.le_of_ble_eq_true rfl)
  rw [lg_entry_eq]
  generalize (lg_sl ([.int x, .int y, .int z]) ++ List.replicate (3 - (lg_sl ([.int x, .int y, .int z])).length) Slot.unset).toArray = ls at hl ⊢
  have hl : lv_has ls 3 [(0, .int x), (1, .int y), (2, .int z)] := hl
  generalize hQQ : MQ below _ _ s _ _ _ = QQ
  refine lv_iload_n hx hb dX7_isTry_0 rfl (lv_at hl 0 rfl) ?_
  refine lv_iconst (v := 1) hx hb dX7_isTry_1 (by decide) ?_
  refine lv_bipush (v := 10) hx hb dX7_isTry_2 (by decide) ?_
  refine roSi (As := [.int x, .int 1, .int 10]) (rest := []) ⟨hx, hb, hml, hown, hts⟩ (c_X7_in l D cI cL cZ cO x 1 10 ) (va_cwS 3 hts gX7_isTry_X7_in rfl rfl rfl (by decide +kernel) ⟨Nat.le_of_ble_eq_true rfl, Nat.le_of_ble_eq_true rfl⟩) hO (fun k q h => by simp at h) rfl hl.1 rfl (Nat.le_of_ble_eq_true rfl) dX7_isTry_4 ⟨Nat.le_of_ble_eq_true rfl, Nat.le_of_ble_eq_true rfl⟩ (fun r_4 e_4 => ?_)
  obtain rfl : r_4 = wi x 1 10 := e_4
  refine lv_if_eq (tgt := 33) hx hb dX7_isTry_7 (by decide) (fun c_7 => ?_) (fun c_7 => ?_)
  · skip
    refine lv_iconst (v := 0) hx hb dX7_isTry_33 (by decide) ?_
    rw [← hQQ]
    exact W.zret (v := 0) hx hb hr rfl (fun t9 ht9 hW9 => ⟨_, rfl, by simp only [tryOk, if_pos c_7], ht9⟩) (fun q h => by cases h) dX7_isTry_34
  · skip
    refine lv_iload_n hx hb dX7_isTry_10 rfl (lv_at hl 1 rfl) ?_
    refine lv_iconst (v := 0) hx hb dX7_isTry_11 (by decide) ?_
    refine lv_iconst (v := 2) hx hb dX7_isTry_12 (by decide) ?_
    refine roSi (As := [.int y, .int 0, .int 2]) (rest := []) ⟨hx, hb, hml, hown, hts⟩ (c_X7_in l D cI cL cZ cO y 0 2 ) (va_cwS 3 hts gX7_isTry_X7_in rfl rfl rfl (by decide +kernel) ⟨Nat.le_of_ble_eq_true rfl, Nat.le_of_ble_eq_true rfl⟩) hO (fun k q h => by simp at h) rfl hl.1 rfl (Nat.le_of_ble_eq_true rfl) dX7_isTry_13 ⟨Nat.le_of_ble_eq_true rfl, Nat.le_of_ble_eq_true rfl⟩ (fun r_13 e_13 => ?_)
    obtain rfl : r_13 = wi y 0 2 := e_13
    refine lv_if_eq (tgt := 33) hx hb dX7_isTry_16 (by decide) (fun c_16 => ?_) (fun c_16 => ?_)
    · skip
      refine lv_iconst (v := 0) hx hb dX7_isTry_33 (by decide) ?_
      rw [← hQQ]
      exact W.zret (v := 0) hx hb hr rfl (fun t9 ht9 hW9 => ⟨_, rfl, by simp only [tryOk, if_neg c_7, if_pos c_16], ht9⟩) (fun q h => by cases h) dX7_isTry_34
    · skip
      refine lv_iload_n hx hb dX7_isTry_19 rfl (lv_at hl 2 rfl) ?_
      refine lv_iconst (v := 2) hx hb dX7_isTry_20 (by decide) ?_
      refine lv_bipush (v := 10) hx hb dX7_isTry_21 (by decide) ?_
      refine roSi (As := [.int z, .int 2, .int 10]) (rest := []) ⟨hx, hb, hml, hown, hts⟩ (c_X7_in l D cI cL cZ cO z 2 10 ) (va_cwS 3 hts gX7_isTry_X7_in rfl rfl rfl (by decide +kernel) ⟨Nat.le_of_ble_eq_true rfl, Nat.le_of_ble_eq_true rfl⟩) hO (fun k q h => by simp at h) rfl hl.1 rfl (Nat.le_of_ble_eq_true rfl) dX7_isTry_23 ⟨Nat.le_of_ble_eq_true rfl, Nat.le_of_ble_eq_true rfl⟩ (fun r_23 e_23 => ?_)
      obtain rfl : r_23 = wi z 2 10 := e_23
      refine lv_if_eq (tgt := 33) hx hb dX7_isTry_26 (by decide) (fun c_26 => ?_) (fun c_26 => ?_)
      · skip
        refine lv_iconst (v := 0) hx hb dX7_isTry_33 (by decide) ?_
        rw [← hQQ]
        exact W.zret (v := 0) hx hb hr rfl (fun t9 ht9 hW9 => ⟨_, rfl, by simp only [tryOk, if_neg c_7, if_neg c_16, if_pos c_26], ht9⟩) (fun q h => by cases h) dX7_isTry_34
      · skip
        refine lv_iconst (v := 1) hx hb dX7_isTry_29 (by decide) ?_
        refine lv_goto (tgt := 34) hx hb dX7_isTry_30 (by decide) ?_
        rw [← hQQ]
        exact W.zret (v := 1) hx hb hr rfl (fun t9 ht9 hW9 => ⟨_, rfl, by simp only [tryOk, if_neg c_7, if_neg c_16, if_neg c_26], ht9⟩) (fun q h => by cases h) dX7_isTry_34
set_option maxHeartbeats 4000000 in
set_option maxRecDepth 100000 in
theorem c_X2_power (l : Launch) (D : va_G) (cI cL cZ cO : ClassId) (b : Int32) (t : Nat) (ht : t < 2 ^ 31) : Met l yX2_power wsX2_power ({ frames := 0, cells := 0, slots := 0, locals := 0 } : Room) (va_Pc [.int b, .int (nI t)] (Ro D cI cL cZ cO ([]))) (vp_Sl (fun r => r = pw b t)) 0 0 (fun _ => False) := by
  refine Met.ofW (cc := cX2_power) (maxL := 5) (ret := (some .long)) (by decide) rfl ?_
  intro p e s m args below meth c s₁ B hml hv
  obtain ⟨rfl, hP, hO⟩ := hv
  have hx := B.exec
  have hb := B.bytes
  have hr := B.returns
  have hts := atoms_spec (ws := wsX2_power) B.pre
  have hown : s.vm.findClass RX2 = some m.cls := findClass_of_methodNamed B.named
  have hlocks := B.notSynchronized
  have hK := hO.1
  have hl := lv_entry ([.int b, .int (nI t)]) (n := 5) (Nat.le_of_ble_eq_true rfl)
  rw [lg_entry_eq]
  generalize (lg_sl ([.int b, .int (nI t)]) ++ List.replicate (5 - (lg_sl ([.int b, .int (nI t)])).length) Slot.unset).toArray = ls at hl ⊢
  have hl : lv_has ls 5 [(0, .int b), (1, .int (nI t))] := hl
  generalize hQQ : MQ below _ _ s _ _ _ = QQ
  refine lv_lconst (v := 1) hx hb dX2_power_0 (by decide) ?_
  refine lv_lstore_n (lv' := [(2, .long 1), (0, .int b), (1, .int (nI t))]) hx hb dX2_power_1 rfl hl (by decide) rfl (fun ls hl => ?_)
  refine lv_iconst (v := 0) hx hb dX2_power_2 (by decide) ?_
  refine lv_istore (lv' := [(4, .int 0), (2, .long 1), (0, .int b), (1, .int (nI t))]) hx hb dX2_power_3 hl (by decide) rfl (fun ls hl => ?_)
  have L5 : ∀ (n0 : Nat) (k : Nat) (v : Int64) (ls : Array Slot), t - k < n0 → (k ≤ t) → (v = pw b k) → lv_has ls 5 [(4, .int (nI k)), (2, .long v), (0, .int b), (1, .int (nI t))] → W p l e (headSpec wsX2_power ({ frames := 0, cells := 0, slots := 0, locals := 0 } : Room)).room s m ([.int b, .int (nI t)] : List Value).toArray below meth c s.heap [] 0 0 QQ (F0 m 5 ls []) := by
    intro n0
    induction n0 with
    | zero =>
      intro k v ls hmu
      exact absurd hmu (Nat.not_lt_zero _)
    | succ n0 ih5 =>
      intro k v ls hmu hk hv hl
      refine lv_iload hx hb dX2_power_5 (lv_at hl 0 rfl) ?_
      refine lv_iload_n hx hb dX2_power_7 rfl (lv_at hl 3 rfl) ?_
      refine n_icmp_ge (x := k) (y := t) (tgt := 22) hx hb dX2_power_8 (by decide) (by omega) (by omega) (fun c_8 => ?_) (fun c_8 => ?_)
      · skip
        refine lv_lload_n hx hb dX2_power_22 rfl (lv_at hl 1 rfl) ?_
        rw [← hQQ]
        exact W.lret (v := v) hx hb hr (fun t9 ht9 hW9 => ⟨_, rfl, by rw [hv, show k = t by omega], ht9⟩) (fun q h => by cases h) dX2_power_23
      · skip
        refine lv_lload_n hx hb dX2_power_11 rfl (lv_at hl 1 rfl) ?_
        refine lv_iload_n hx hb dX2_power_12 rfl (lv_at hl 2 rfl) ?_
        refine lv_i2l (v := b.toInt64) hx hb dX2_power_13 rfl ?_
        refine lv_lmul hx hb dX2_power_14 ?_
        refine lv_lstore_n (lv' := [(2, .long (v * b.toInt64)), (4, .int (nI k)), (0, .int b), (1, .int (nI t))]) hx hb dX2_power_15 rfl hl (by decide) rfl (fun ls hl => ?_)
        refine lv_iinc (v := (nI (k + 1))) (lv' := [(4, .int (nI (k + 1))), (2, .long (v * b.toInt64)), (0, .int b), (1, .int (nI t))]) hx hb dX2_power_16 hl (k := 1) rfl (nI_add k 1) (by decide) rfl (fun ls hl => ?_)
        refine lv_goto (tgt := 5) hx hb dX2_power_19 (by decide) ?_
        exact ih5 (k + 1) (v * b.toInt64) _ (by omega) (by omega) (by rw [hv]; rfl) (lv_sub hl [0, 1, 2, 3] rfl)
  exact L5 _ 0 1 _ (Nat.lt_succ_self _) (Nat.zero_le _) rfl (lv_sub hl [0, 1, 2, 3] rfl)
set_option maxHeartbeats 4000000 in
set_option maxRecDepth 100000 in
theorem c_X7_power (l : Launch) (D : va_G) (cI cL cZ cO : ClassId) (b : Int32) (t : Nat) (ht : t < 2 ^ 31) : Met l yX7_power wsX7_power ({ frames := 0, cells := 0, slots := 0, locals := 0 } : Room) (va_Pc [.int b, .int (nI t)] (Ro D cI cL cZ cO ([]))) (vp_Sl (fun r => r = pw b t)) 0 0 (fun _ => False) := by
  refine Met.ofW (cc := cX7_power) (maxL := 5) (ret := (some .long)) (by decide) rfl ?_
  intro p e s m args below meth c s₁ B hml hv
  obtain ⟨rfl, hP, hO⟩ := hv
  have hx := B.exec
  have hb := B.bytes
  have hr := B.returns
  have hts := atoms_spec (ws := wsX7_power) B.pre
  have hown : s.vm.findClass RX7 = some m.cls := findClass_of_methodNamed B.named
  have hlocks := B.notSynchronized
  have hK := hO.1
  have hl := lv_entry ([.int b, .int (nI t)]) (n := 5) (Nat.le_of_ble_eq_true rfl)
  rw [lg_entry_eq]
  generalize (lg_sl ([.int b, .int (nI t)]) ++ List.replicate (5 - (lg_sl ([.int b, .int (nI t)])).length) Slot.unset).toArray = ls at hl ⊢
  have hl : lv_has ls 5 [(0, .int b), (1, .int (nI t))] := hl
  generalize hQQ : MQ below _ _ s _ _ _ = QQ
  refine lv_lconst (v := 1) hx hb dX7_power_0 (by decide) ?_
  refine lv_lstore_n (lv' := [(2, .long 1), (0, .int b), (1, .int (nI t))]) hx hb dX7_power_1 rfl hl (by decide) rfl (fun ls hl => ?_)
  refine lv_iconst (v := 0) hx hb dX7_power_2 (by decide) ?_
  refine lv_istore (lv' := [(4, .int 0), (2, .long 1), (0, .int b), (1, .int (nI t))]) hx hb dX7_power_3 hl (by decide) rfl (fun ls hl => ?_)
  have L5 : ∀ (n0 : Nat) (k : Nat) (v : Int64) (ls : Array Slot), t - k < n0 → (k ≤ t) → (v = pw b k) → lv_has ls 5 [(4, .int (nI k)), (2, .long v), (0, .int b), (1, .int (nI t))] → W p l e (headSpec wsX7_power ({ frames := 0, cells := 0, slots := 0, locals := 0 } : Room)).room s m ([.int b, .int (nI t)] : List Value).toArray below meth c s.heap [] 0 0 QQ (F0 m 5 ls []) := by
    intro n0
    induction n0 with
    | zero =>
      intro k v ls hmu
      exact absurd hmu (Nat.not_lt_zero _)
    | succ n0 ih5 =>
      intro k v ls hmu hk hv hl
      refine lv_iload hx hb dX7_power_5 (lv_at hl 0 rfl) ?_
      refine lv_iload_n hx hb dX7_power_7 rfl (lv_at hl 3 rfl) ?_
      refine n_icmp_ge (x := k) (y := t) (tgt := 22) hx hb dX7_power_8 (by decide) (by omega) (by omega) (fun c_8 => ?_) (fun c_8 => ?_)
      · skip
        refine lv_lload_n hx hb dX7_power_22 rfl (lv_at hl 1 rfl) ?_
        rw [← hQQ]
        exact W.lret (v := v) hx hb hr (fun t9 ht9 hW9 => ⟨_, rfl, by rw [hv, show k = t by omega], ht9⟩) (fun q h => by cases h) dX7_power_23
      · skip
        refine lv_lload_n hx hb dX7_power_11 rfl (lv_at hl 1 rfl) ?_
        refine lv_iload_n hx hb dX7_power_12 rfl (lv_at hl 2 rfl) ?_
        refine lv_i2l (v := b.toInt64) hx hb dX7_power_13 rfl ?_
        refine lv_lmul hx hb dX7_power_14 ?_
        refine lv_lstore_n (lv' := [(2, .long (v * b.toInt64)), (4, .int (nI k)), (0, .int b), (1, .int (nI t))]) hx hb dX7_power_15 rfl hl (by decide) rfl (fun ls hl => ?_)
        refine lv_iinc (v := (nI (k + 1))) (lv' := [(4, .int (nI (k + 1))), (2, .long (v * b.toInt64)), (0, .int b), (1, .int (nI t))]) hx hb dX7_power_16 hl (k := 1) rfl (nI_add k 1) (by decide) rfl (fun ls hl => ?_)
        refine lv_goto (tgt := 5) hx hb dX7_power_19 (by decide) ?_
        exact ih5 (k + 1) (v * b.toInt64) _ (by omega) (by omega) (by rw [hv]; rfl) (lv_sub hl [0, 1, 2, 3] rfl)
  exact L5 _ 0 1 _ (Nat.lt_succ_self _) (Nat.zero_le _) rfl (lv_sub hl [0, 1, 2, 3] rfl)
set_option maxHeartbeats 4000000 in
set_option maxRecDepth 100000 in
theorem c_X2_above (l : Launch) (D : va_G) (cI cL cZ cO : ClassId) (w sv q sp li : Nat) (hw : w ≤ 10) (hsv : sv ≤ 2) (hq : 2 ≤ q ∧ q ≤ 10) (hsp : sp + sv ≤ li) (hli : li < 1000) : Met l yX2_above wsX2_above ({ frames := 1, cells := 0, slots := 0, locals := 24 } : Room) (va_Pc [.int (nI w), .int (nI sv), .int (nI q), .int (nI sp), .int (nI li)] (Ro D cI cL cZ cO ([]))) (vp_Sl (fun r => r = abF sv q sp li w w 0)) 0 0 (fun _ => False) := by
  refine Met.ofW (cc := cX2_above) (maxL := 13) (ret := (some .long)) (by decide) rfl ?_
  intro p e s m args below meth c s₁ B hml hv
  obtain ⟨rfl, hP, hO⟩ := hv
  have hx := B.exec
  have hb := B.bytes
  have hr := B.returns
  have hts := atoms_spec (ws := wsX2_above) B.pre
  have hown : s.vm.findClass RX2 = some m.cls := findClass_of_methodNamed B.named
  have hlocks := B.notSynchronized
  have hK := hO.1
  have hl := lv_entry ([.int (nI w), .int (nI sv), .int (nI q), .int (nI sp), .int (nI li)]) (n := 13) (Nat.le_of_ble_eq_true rfl)
  rw [lg_entry_eq]
  generalize (lg_sl ([.int (nI w), .int (nI sv), .int (nI q), .int (nI sp), .int (nI li)]) ++ List.replicate (13 - (lg_sl ([.int (nI w), .int (nI sv), .int (nI q), .int (nI sp), .int (nI li)])).length) Slot.unset).toArray = ls at hl ⊢
  have hl : lv_has ls 13 [(0, .int (nI w)), (1, .int (nI sv)), (2, .int (nI q)), (3, .int (nI sp)), (4, .int (nI li))] := hl
  generalize hQQ : MQ below _ _ s _ _ _ = QQ
  refine lv_lconst (v := 0) hx hb dX2_above_0 (by decide) ?_
  refine lv_lstore (lv' := [(5, .long 0), (0, .int (nI w)), (1, .int (nI sv)), (2, .int (nI q)), (3, .int (nI sp)), (4, .int (nI li))]) hx hb dX2_above_1 hl (by decide) rfl (fun ls hl => ?_)
  refine lv_iload_n hx hb dX2_above_3 rfl (lv_at hl 1 rfl) ?_
  refine lv_istore (lv' := [(7, .int (nI w)), (5, .long 0), (0, .int (nI w)), (1, .int (nI sv)), (2, .int (nI q)), (3, .int (nI sp)), (4, .int (nI li))]) hx hb dX2_above_4 hl (by decide) rfl (fun ls hl => ?_)
  refine lv_iconst (v := 0) hx hb dX2_above_6 (by decide) ?_
  refine lv_istore (lv' := [(8, .int 0), (7, .int (nI w)), (5, .long 0), (0, .int (nI w)), (1, .int (nI sv)), (2, .int (nI q)), (3, .int (nI sp)), (4, .int (nI li))]) hx hb dX2_above_7 hl (by decide) rfl (fun ls hl => ?_)
  have L9 : ∀ (n0 : Nat) (k : Nat) (lf : Nat) (v : Int64) (ls : Array Slot), w - k < n0 → (k ≤ w) → (lf ≤ w) → (abF sv q sp li (w - k) lf v = abF sv q sp li w w 0) → lv_has ls 13 [(8, .int (nI k)), (7, .int (nI lf)), (5, .long v), (0, .int (nI w)), (1, .int (nI sv)), (2, .int (nI q)), (3, .int (nI sp)), (4, .int (nI li))] → W p l e (headSpec wsX2_above ({ frames := 1, cells := 0, slots := 0, locals := 24 } : Room)).room s m ([.int (nI w), .int (nI sv), .int (nI q), .int (nI sp), .int (nI li)] : List Value).toArray below meth c s.heap [] 0 0 QQ (F0 m 9 ls []) := by
    intro n0
    induction n0 with
    | zero =>
      intro k lf v ls hmu
      exact absurd hmu (Nat.not_lt_zero _)
    | succ n0 ih9 =>
      intro k lf v ls hmu hk hlf hv hl
      refine lv_iload hx hb dX2_above_9 (lv_at hl 0 rfl) ?_
      refine lv_iload_n hx hb dX2_above_11 rfl (lv_at hl 3 rfl) ?_
      refine n_icmp_ge (x := k) (y := w) (tgt := 86) hx hb dX2_above_12 (by decide) (by omega) (by omega) (fun c_12 => ?_) (fun c_12 => ?_)
      · skip
        refine lv_lload hx hb dX2_above_86 (lv_at hl 2 rfl) ?_
        rw [← hQQ]
        exact W.lret (v := v) hx hb hr (fun t9 ht9 hW9 => ⟨_, rfl, (by rw [← hv, abF_0 (by omega)]), ht9⟩) (fun q h => by cases h) dX2_above_88
      · skip
        refine lv_iload hx hb dX2_above_15 (lv_at hl 1 rfl) ?_
        refine n_if_le (x := lf) (tgt := 86) hx hb dX2_above_17 (by decide) (by omega) (fun c_17 => ?_) (fun c_17 => ?_)
        · skip
          refine lv_lload hx hb dX2_above_86 (lv_at hl 2 rfl) ?_
          rw [← hQQ]
          exact W.lret (v := v) hx hb hr (fun t9 ht9 hW9 => ⟨_, rfl, (by rw [← hv, abF_0 (by omega)]), ht9⟩) (fun q h => by cases h) dX2_above_88
        · skip
          refine lv_iload_n hx hb dX2_above_20 rfl (lv_at hl 6 rfl) ?_
          refine lv_iload hx hb dX2_above_21 (lv_at hl 1 rfl) ?_
          refine va_mmin hx hb (hml.trans hl.1.symm) hown (hts (.methodLink RX2 19 Lib.Math.min.name) (List.mem_of_getElem? (i := 1) rfl)) (hts (.static Lib.Math.min.name) (List.mem_of_getElem? (i := 2) rfl)) (hts (.initialized "java/lang/Math") (List.mem_of_getElem? (i := 3) rfl)) (hts (.code Lib.Math.min.name Lib.Math.min.code 2 (some .int)) (List.mem_of_getElem? (i := 4) rfl)) (Nat.le_of_ble_eq_true rfl) (Nat.le_of_ble_eq_true rfl) (Nat.le_of_ble_eq_true rfl) (Nat.le_of_ble_eq_true rfl) (x := (nI sp)) (y := (nI lf)) dX2_above_23 ?_
          refine lv_seti (v := nI (min sp lf)) (n_min (by omega) (by omega)) ?_
          refine lv_istore (lv' := [(9, .int (nI (min sp lf))), (8, .int (nI k)), (7, .int (nI lf)), (5, .long v), (0, .int (nI w)), (1, .int (nI sv)), (2, .int (nI q)), (3, .int (nI sp)), (4, .int (nI li))]) hx hb dX2_above_26 hl (by decide) rfl (fun ls hl => ?_)
          refine lv_iload hx hb dX2_above_28 (lv_at hl 0 rfl) ?_
          refine lv_iload_n hx hb dX2_above_30 rfl (lv_at hl 5 rfl) ?_
          refine n_iadd (x := (min sp lf)) (y := sv) hx hb dX2_above_31 ?_
          refine lv_istore (lv' := [(10, .int (nI ((min sp lf) + sv))), (9, .int (nI (min sp lf))), (8, .int (nI k)), (7, .int (nI lf)), (5, .long v), (0, .int (nI w)), (1, .int (nI sv)), (2, .int (nI q)), (3, .int (nI sp)), (4, .int (nI li))]) hx hb dX2_above_32 hl (by decide) rfl (fun ls hl => ?_)
          refine lv_iload_n hx hb dX2_above_34 rfl (lv_at hl 7 rfl) ?_
          refine lv_iconst (v := 1) hx hb dX2_above_35 (by decide) ?_
          refine n_isub (x := q) (y := 1) hx hb dX2_above_36 (by omega) ?_
          refine lv_iload hx hb dX2_above_37 (lv_at hl 0 rfl) ?_
          refine roSl (As := [.int (nI (q - 1)), .int (nI ((min sp lf) + sv))]) (rest := []) ⟨hx, hb, hml, hown, hts⟩ (c_X2_power l D cI cL cZ cO (nI (q - 1)) ((min sp lf) + sv) (by omega)) (va_cwS 2 hts gX2_above_X2_power rfl rfl rfl (by decide +kernel) ⟨Nat.le_of_ble_eq_true rfl, Nat.le_of_ble_eq_true rfl⟩) hO (fun k q h => by simp at h) rfl hl.1 rfl (Nat.le_of_ble_eq_true rfl) dX2_above_39 ⟨Nat.le_of_ble_eq_true rfl, Nat.le_of_ble_eq_true rfl⟩ (fun r_39 e_39 => ?_)
          obtain rfl : r_39 = pw (nI (q - 1)) ((min sp lf) + sv) := e_39
          refine lv_lstore (lv' := [(11, .long (pw (nI (q - 1)) ((min sp lf) + sv))), (10, .int (nI ((min sp lf) + sv))), (9, .int (nI (min sp lf))), (8, .int (nI k)), (7, .int (nI lf)), (5, .long v), (0, .int (nI w)), (1, .int (nI sv)), (2, .int (nI q)), (3, .int (nI sp)), (4, .int (nI li))]) hx hb dX2_above_42 hl (by decide) rfl (fun ls hl => ?_)
          refine lv_lload hx hb dX2_above_44 (lv_at hl 5 rfl) ?_
          refine lv_iload_n hx hb dX2_above_46 rfl (lv_at hl 8 rfl) ?_
          refine lv_i2l (v := (nI q).toInt64) hx hb dX2_above_47 rfl ?_
          refine lv_iload_n hx hb dX2_above_48 rfl (lv_at hl 8 rfl) ?_
          refine lv_iload hx hb dX2_above_49 (lv_at hl 1 rfl) ?_
          refine roSl (As := [.int (nI q), .int (nI ((min sp lf) + sv))]) (rest := [.long ((nI q).toInt64), .long v]) ⟨hx, hb, hml, hown, hts⟩ (c_X2_power l D cI cL cZ cO (nI q) ((min sp lf) + sv) (by omega)) (va_cwS 2 hts gX2_above_X2_power rfl rfl rfl (by decide +kernel) ⟨Nat.le_of_ble_eq_true rfl, Nat.le_of_ble_eq_true rfl⟩) hO (fun k q h => by simp at h) rfl hl.1 rfl (Nat.le_of_ble_eq_true rfl) dX2_above_51 ⟨Nat.le_of_ble_eq_true rfl, Nat.le_of_ble_eq_true rfl⟩ (fun r_51 e_51 => ?_)
          obtain rfl : r_51 = pw (nI q) ((min sp lf) + sv) := e_51
          refine lv_lload hx hb dX2_above_54 (lv_at hl 0 rfl) ?_
          refine lv_lsub hx hb dX2_above_56 ?_
          refine lv_lmul hx hb dX2_above_57 ?_
          refine lv_iload_n hx hb dX2_above_58 rfl (lv_at hl 8 rfl) ?_
          refine lv_iconst (v := 1) hx hb dX2_above_59 (by decide) ?_
          refine n_isub (x := q) (y := 1) hx hb dX2_above_60 (by omega) ?_
          refine lv_iload hx hb dX2_above_61 (lv_at hl 10 rfl) ?_
          refine lv_iload hx hb dX2_above_63 (lv_at hl 1 rfl) ?_
          refine n_isub (x := li) (y := ((min sp lf) + sv)) hx hb dX2_above_65 (by omega) ?_
          refine roSl (As := [.int (nI (q - 1)), .int (nI (li - ((min sp lf) + sv)))]) (rest := [.long (((nI q).toInt64) * ((pw (nI q) ((min sp lf) + sv)) - (pw (nI (q - 1)) ((min sp lf) + sv)))), .long v]) ⟨hx, hb, hml, hown, hts⟩ (c_X2_power l D cI cL cZ cO (nI (q - 1)) (li - ((min sp lf) + sv)) (by omega)) (va_cwS 2 hts gX2_above_X2_power rfl rfl rfl (by decide +kernel) ⟨Nat.le_of_ble_eq_true rfl, Nat.le_of_ble_eq_true rfl⟩) hO (fun k q h => by simp at h) rfl hl.1 rfl (Nat.le_of_ble_eq_true rfl) dX2_above_66 ⟨Nat.le_of_ble_eq_true rfl, Nat.le_of_ble_eq_true rfl⟩ (fun r_66 e_66 => ?_)
          obtain rfl : r_66 = pw (nI (q - 1)) (li - ((min sp lf) + sv)) := e_66
          refine lv_lmul hx hb dX2_above_69 ?_
          refine lv_ladd hx hb dX2_above_70 ?_
          refine lv_lstore (lv' := [(5, .long (v + ((((nI q).toInt64) * ((pw (nI q) ((min sp lf) + sv)) - (pw (nI (q - 1)) ((min sp lf) + sv)))) * (pw (nI (q - 1)) (li - ((min sp lf) + sv)))))), (11, .long (pw (nI (q - 1)) ((min sp lf) + sv))), (10, .int (nI ((min sp lf) + sv))), (9, .int (nI (min sp lf))), (8, .int (nI k)), (7, .int (nI lf)), (0, .int (nI w)), (1, .int (nI sv)), (2, .int (nI q)), (3, .int (nI sp)), (4, .int (nI li))]) hx hb dX2_above_71 hl (by decide) rfl (fun ls hl => ?_)
          refine lv_iload hx hb dX2_above_73 (lv_at hl 5 rfl) ?_
          refine lv_iload hx hb dX2_above_75 (lv_at hl 3 rfl) ?_
          refine n_isub (x := lf) (y := (min sp lf)) hx hb dX2_above_77 (by omega) ?_
          refine lv_istore (lv' := [(7, .int (nI (lf - (min sp lf)))), (5, .long (v + ((((nI q).toInt64) * ((pw (nI q) ((min sp lf) + sv)) - (pw (nI (q - 1)) ((min sp lf) + sv)))) * (pw (nI (q - 1)) (li - ((min sp lf) + sv)))))), (11, .long (pw (nI (q - 1)) ((min sp lf) + sv))), (10, .int (nI ((min sp lf) + sv))), (9, .int (nI (min sp lf))), (8, .int (nI k)), (0, .int (nI w)), (1, .int (nI sv)), (2, .int (nI q)), (3, .int (nI sp)), (4, .int (nI li))]) hx hb dX2_above_78 hl (by decide) rfl (fun ls hl => ?_)
          refine lv_iinc (v := (nI (k + 1))) (lv' := [(8, .int (nI (k + 1))), (7, .int (nI (lf - (min sp lf)))), (5, .long (v + ((((nI q).toInt64) * ((pw (nI q) ((min sp lf) + sv)) - (pw (nI (q - 1)) ((min sp lf) + sv)))) * (pw (nI (q - 1)) (li - ((min sp lf) + sv)))))), (11, .long (pw (nI (q - 1)) ((min sp lf) + sv))), (10, .int (nI ((min sp lf) + sv))), (9, .int (nI (min sp lf))), (0, .int (nI w)), (1, .int (nI sv)), (2, .int (nI q)), (3, .int (nI sp)), (4, .int (nI li))]) hx hb dX2_above_80 hl (k := 5) rfl (nI_add k 1) (by decide) rfl (fun ls hl => ?_)
          refine lv_goto (tgt := 9) hx hb dX2_above_83 (by decide) ?_
          exact ih9 (k + 1) (lf - (min sp lf)) (v + ((((nI q).toInt64) * ((pw (nI q) ((min sp lf) + sv)) - (pw (nI (q - 1)) ((min sp lf) + sv)))) * (pw (nI (q - 1)) (li - ((min sp lf) + sv))))) _ (by omega) (by omega) (by omega) (by rw [← hv, show w - k = w - (k + 1) + 1 by omega, abF_s c_17, abF_cut, abF_sum]) (lv_sub hl [0, 1, 2, 6, 7, 8, 9, 10] rfl)
  exact L9 _ 0 w 0 _ (Nat.lt_succ_self _) (Nat.zero_le _) (Nat.le_refl _) rfl (lv_sub hl [0, 1, 2, 3, 4, 5, 6, 7] rfl)
set_option maxHeartbeats 4000000 in
set_option maxRecDepth 100000 in
theorem c_X7_tries (l : Launch) (D : va_G) (cI cL cZ cO : ClassId) (n q al : Nat) (hq : 1 ≤ q) (hn : n ≤ al) (hal : al < 1000) : Met l yX7_tries wsX7_tries ({ frames := 1, cells := 0, slots := 0, locals := 24 } : Room) (va_Pc [.int (nI n), .int (nI q), .int (nI al)] (Ro D cI cL cZ cO ([]))) (vp_Sl (fun r => r = tr1 q n al)) 0 0 (fun _ => False) := by
  refine Met.ofW (cc := cX7_tries) (maxL := 3) (ret := (some .long)) (by decide) rfl ?_
  intro p e s m args below meth c s₁ B hml hv
  obtain ⟨rfl, hP, hO⟩ := hv
  have hx := B.exec
  have hb := B.bytes
  have hr := B.returns
  have hts := atoms_spec (ws := wsX7_tries) B.pre
  have hown : s.vm.findClass RX7 = some m.cls := findClass_of_methodNamed B.named
  have hlocks := B.notSynchronized
  have hK := hO.1
  have hl := lv_entry ([.int (nI n), .int (nI q), .int (nI al)]) (n := 3) (Nat.le_of_ble_eq_true rfl)
  rw [lg_entry_eq]
  generalize (lg_sl ([.int (nI n), .int (nI q), .int (nI al)]) ++ List.replicate (3 - (lg_sl ([.int (nI n), .int (nI q), .int (nI al)])).length) Slot.unset).toArray = ls at hl ⊢
  have hl : lv_has ls 3 [(0, .int (nI n)), (1, .int (nI q)), (2, .int (nI al))] := hl
  generalize hQQ : MQ below _ _ s _ _ _ = QQ
  refine lv_iload_n hx hb dX7_tries_0 rfl (lv_at hl 1 rfl) ?_
  refine lv_i2l (v := (nI q).toInt64) hx hb dX7_tries_1 rfl ?_
  refine lv_iload_n hx hb dX7_tries_2 rfl (lv_at hl 1 rfl) ?_
  refine lv_iload_n hx hb dX7_tries_3 rfl (lv_at hl 0 rfl) ?_
  refine roSl (As := [.int (nI q), .int (nI n)]) (rest := [.long ((nI q).toInt64)]) ⟨hx, hb, hml, hown, hts⟩ (c_X7_power l D cI cL cZ cO (nI q) n (by omega)) (va_cwS 2 hts gX7_tries_X7_power rfl rfl rfl (by decide +kernel) ⟨Nat.le_of_ble_eq_true rfl, Nat.le_of_ble_eq_true rfl⟩) hO (fun k q h => by simp at h) rfl hl.1 rfl (Nat.le_of_ble_eq_true rfl) dX7_tries_4 ⟨Nat.le_of_ble_eq_true rfl, Nat.le_of_ble_eq_true rfl⟩ (fun r_4 e_4 => ?_)
  obtain rfl : r_4 = pw (nI q) n := e_4
  refine lv_iload_n hx hb dX7_tries_7 rfl (lv_at hl 1 rfl) ?_
  refine lv_iconst (v := 1) hx hb dX7_tries_8 (by decide) ?_
  refine n_isub (x := q) (y := 1) hx hb dX7_tries_9 (by omega) ?_
  refine lv_iload_n hx hb dX7_tries_10 rfl (lv_at hl 0 rfl) ?_
  refine roSl (As := [.int (nI (q - 1)), .int (nI n)]) (rest := [.long (pw (nI q) n), .long ((nI q).toInt64)]) ⟨hx, hb, hml, hown, hts⟩ (c_X7_power l D cI cL cZ cO (nI (q - 1)) n (by omega)) (va_cwS 2 hts gX7_tries_X7_power rfl rfl rfl (by decide +kernel) ⟨Nat.le_of_ble_eq_true rfl, Nat.le_of_ble_eq_true rfl⟩) hO (fun k q h => by simp at h) rfl hl.1 rfl (Nat.le_of_ble_eq_true rfl) dX7_tries_11 ⟨Nat.le_of_ble_eq_true rfl, Nat.le_of_ble_eq_true rfl⟩ (fun r_11 e_11 => ?_)
  obtain rfl : r_11 = pw (nI (q - 1)) n := e_11
  refine lv_lsub hx hb dX7_tries_14 ?_
  refine lv_lmul hx hb dX7_tries_15 ?_
  refine lv_iload_n hx hb dX7_tries_16 rfl (lv_at hl 1 rfl) ?_
  refine lv_iconst (v := 1) hx hb dX7_tries_17 (by decide) ?_
  refine n_isub (x := q) (y := 1) hx hb dX7_tries_18 (by omega) ?_
  refine lv_iload_n hx hb dX7_tries_19 rfl (lv_at hl 2 rfl) ?_
  refine lv_iload_n hx hb dX7_tries_20 rfl (lv_at hl 0 rfl) ?_
  refine n_isub (x := al) (y := n) hx hb dX7_tries_21 (by omega) ?_
  refine roSl (As := [.int (nI (q - 1)), .int (nI (al - n))]) (rest := [.long (((nI q).toInt64) * ((pw (nI q) n) - (pw (nI (q - 1)) n)))]) ⟨hx, hb, hml, hown, hts⟩ (c_X7_power l D cI cL cZ cO (nI (q - 1)) (al - n) (by omega)) (va_cwS 2 hts gX7_tries_X7_power rfl rfl rfl (by decide +kernel) ⟨Nat.le_of_ble_eq_true rfl, Nat.le_of_ble_eq_true rfl⟩) hO (fun k q h => by simp at h) rfl hl.1 rfl (Nat.le_of_ble_eq_true rfl) dX7_tries_22 ⟨Nat.le_of_ble_eq_true rfl, Nat.le_of_ble_eq_true rfl⟩ (fun r_22 e_22 => ?_)
  obtain rfl : r_22 = pw (nI (q - 1)) (al - n) := e_22
  refine lv_lmul hx hb dX7_tries_25 ?_
  rw [← hQQ]
  exact W.lret (v := ((((nI q).toInt64) * ((pw (nI q) n) - (pw (nI (q - 1)) n))) * (pw (nI (q - 1)) (al - n)))) hx hb hr (fun t9 ht9 hW9 => ⟨_, rfl, rfl, ht9⟩) (fun q h => by cases h) dX7_tries_26
set_option maxHeartbeats 4000000 in
set_option maxRecDepth 100000 in
theorem c_X7_pieces (l : Launch) (D : va_G) (cI cL cZ cO : ClassId) (w sv q sp : Nat) (hw : w ≤ 10) (hsv : sv ≤ 2) (hq : 2 ≤ q ∧ q ≤ 10) (hsp : 1 ≤ sp ∧ sp ≤ w) : Met l yX7_pieces wsX7_pieces ({ frames := 2, cells := 0, slots := 0, locals := 46 } : Room) (va_Pc [.int (nI w), .int (nI sv), .int (nI q), .int (nI sp)] (Ro D cI cL cZ cO ([]))) (vp_Sl (fun r => r = abF sv q sp (w + sv) w w 0)) 0 0 (fun _ => False) := by
  refine Met.ofW (cc := cX7_pieces) (maxL := 8) (ret := (some .long)) (by decide) rfl ?_
  intro p e s m args below meth c s₁ B hml hv
  obtain ⟨rfl, hP, hO⟩ := hv
  have hx := B.exec
  have hb := B.bytes
  have hr := B.returns
  have hts := atoms_spec (ws := wsX7_pieces) B.pre
  have hown : s.vm.findClass RX7 = some m.cls := findClass_of_methodNamed B.named
  have hlocks := B.notSynchronized
  have hK := hO.1
  have hl := lv_entry ([.int (nI w), .int (nI sv), .int (nI q), .int (nI sp)]) (n := 8) (Nat.le_of_ble_eq_true rfl)
  rw [lg_entry_eq]
  generalize (lg_sl ([.int (nI w), .int (nI sv), .int (nI q), .int (nI sp)]) ++ List.replicate (8 - (lg_sl ([.int (nI w), .int (nI sv), .int (nI q), .int (nI sp)])).length) Slot.unset).toArray = ls at hl ⊢
  have hl : lv_has ls 8 [(0, .int (nI w)), (1, .int (nI sv)), (2, .int (nI q)), (3, .int (nI sp))] := hl
  generalize hQQ : MQ below _ _ s _ _ _ = QQ
  refine lv_iload_n hx hb dX7_pieces_0 rfl (lv_at hl 0 rfl) ?_
  refine lv_iload_n hx hb dX7_pieces_1 rfl (lv_at hl 1 rfl) ?_
  refine n_iadd (x := w) (y := sv) hx hb dX7_pieces_2 ?_
  refine lv_istore (lv' := [(4, .int (nI (w + sv))), (0, .int (nI w)), (1, .int (nI sv)), (2, .int (nI q)), (3, .int (nI sp))]) hx hb dX7_pieces_3 hl (by decide) rfl (fun ls hl => ?_)
  refine lv_lconst (v := 0) hx hb dX7_pieces_5 (by decide) ?_
  refine lv_lstore (lv' := [(5, .long 0), (4, .int (nI (w + sv))), (0, .int (nI w)), (1, .int (nI sv)), (2, .int (nI q)), (3, .int (nI sp))]) hx hb dX7_pieces_6 hl (by decide) rfl (fun ls hl => ?_)
  refine lv_iload_n hx hb dX7_pieces_8 rfl (lv_at hl 2 rfl) ?_
  refine lv_istore (lv' := [(7, .int (nI w)), (5, .long 0), (4, .int (nI (w + sv))), (0, .int (nI w)), (1, .int (nI sv)), (2, .int (nI q)), (3, .int (nI sp))]) hx hb dX7_pieces_9 hl (by decide) rfl (fun ls hl => ?_)
  have L11 : ∀ (n0 : Nat) (x : Int32) (k : Nat) (v : Int64) (ls : Array Slot), k < n0 → (∃ lf : Nat, lf ≤ w ∧ lf ≤ k ∧ ((x = nI lf) ∨ (lf = 0 ∧ x ≤ 0)) ∧ abF sv q sp (w + sv) k lf v = abF sv q sp (w + sv) w w 0) → lv_has ls 8 [(7, .int x), (5, .long v), (4, .int (nI (w + sv))), (0, .int (nI w)), (1, .int (nI sv)), (2, .int (nI q)), (3, .int (nI sp))] → W p l e (headSpec wsX7_pieces ({ frames := 2, cells := 0, slots := 0, locals := 46 } : Room)).room s m ([.int (nI w), .int (nI sv), .int (nI q), .int (nI sp)] : List Value).toArray below meth c s.heap [] 0 0 QQ (F0 m 11 ls []) := by
    intro n0
    induction n0 with
    | zero =>
      intro x k v ls hmu
      exact absurd hmu (Nat.not_lt_zero _)
    | succ n0 ih11 =>
      intro x k v ls hmu hx7 hl
      refine lv_iload hx hb dX7_pieces_11 (lv_at hl 0 rfl) ?_
      refine lv_if_le (tgt := 50) hx hb dX7_pieces_13 (by decide) (fun c_13 => ?_) (fun c_13 => ?_)
      · skip
        refine lv_lload hx hb dX7_pieces_50 (lv_at hl 1 rfl) ?_
        rw [← hQQ]
        exact W.lret (v := v) hx hb hr (fun t9 ht9 hW9 => ⟨_, rfl, (by obtain ⟨lf, h1, h2, h3, h4⟩ := hx7; rw [← h4, abF_0]; right; rcases h3 with rfl | ⟨rfl, -⟩; (have := (nI_leI (a := lf) (b := 0) (by omega) (by decide)).mp c_13; omega); rfl), ht9⟩) (fun q h => by cases h) dX7_pieces_52
      · skip
        obtain ⟨lf, h1, h2, h3, h4⟩ := hx7
        have h5 : x = nI lf := by rcases h3 with h | ⟨-, h⟩; exact h; exact absurd h c_13
        subst h5
        have hlf : 0 < lf := Nat.pos_of_ne_zero (fun z => c_13 (by rw [z]; decide))
        refine lv_lload hx hb dX7_pieces_16 (lv_at hl 1 rfl) ?_
        refine lv_iload hx hb dX7_pieces_18 (lv_at hl 0 rfl) ?_
        refine lv_iload_n hx hb dX7_pieces_20 rfl (lv_at hl 6 rfl) ?_
        refine n_icmp_ge (x := lf) (y := sp) (tgt := 29) hx hb dX7_pieces_21 (by decide) (by omega) (by omega) (fun c_21 => ?_) (fun c_21 => ?_)
        · skip
          refine lv_iload_n hx hb dX7_pieces_29 rfl (lv_at hl 6 rfl) ?_
          refine lv_iload_n hx hb dX7_pieces_30 rfl (lv_at hl 4 rfl) ?_
          refine n_iadd (x := sp) (y := sv) hx hb dX7_pieces_31 ?_
          refine lv_iload_n hx hb dX7_pieces_32 rfl (lv_at hl 5 rfl) ?_
          refine lv_iload hx hb dX7_pieces_33 (lv_at hl 2 rfl) ?_
          refine roSl (As := [.int (nI (sp + sv)), .int (nI q), .int (nI (w + sv))]) (rest := [.long v]) ⟨hx, hb, hml, hown, hts⟩ (c_X7_tries l D cI cL cZ cO (sp + sv) q (w + sv) (by omega) (by omega) (by omega)) (va_cwS 3 hts gX7_pieces_X7_tries rfl rfl rfl (by decide +kernel) ⟨Nat.le_of_ble_eq_true rfl, Nat.le_of_ble_eq_true rfl⟩) hO (fun k q h => by simp at h) rfl hl.1 rfl (Nat.le_of_ble_eq_true rfl) dX7_pieces_35 ⟨Nat.le_of_ble_eq_true rfl, Nat.le_of_ble_eq_true rfl⟩ (fun r_35 e_35 => ?_)
          obtain rfl : r_35 = tr1 q (sp + sv) (w + sv) := e_35
          refine lv_ladd hx hb dX7_pieces_38 ?_
          refine lv_lstore (lv' := [(5, .long (v + (tr1 q (sp + sv) (w + sv)))), (7, .int (nI lf)), (4, .int (nI (w + sv))), (0, .int (nI w)), (1, .int (nI sv)), (2, .int (nI q)), (3, .int (nI sp))]) hx hb dX7_pieces_39 hl (by decide) rfl (fun ls hl => ?_)
          refine lv_iload hx hb dX7_pieces_41 (lv_at hl 1 rfl) ?_
          refine lv_iload_n hx hb dX7_pieces_43 rfl (lv_at hl 6 rfl) ?_
          refine lv_isub hx hb dX7_pieces_44 ?_
          refine lv_istore (lv' := [(7, .int ((nI lf) - (nI sp))), (5, .long (v + (tr1 q (sp + sv) (w + sv)))), (4, .int (nI (w + sv))), (0, .int (nI w)), (1, .int (nI sv)), (2, .int (nI q)), (3, .int (nI sp))]) hx hb dX7_pieces_45 hl (by decide) rfl (fun ls hl => ?_)
          refine lv_goto (tgt := 11) hx hb dX7_pieces_47 (by decide) ?_
          exact ih11 ((nI lf) - (nI sp)) (k - 1) (v + (tr1 q (sp + sv) (w + sv))) _ (by omega) ⟨lf - sp, by omega, by omega, (by rcases Nat.lt_or_ge lf sp with h | h; exact Or.inr ⟨by omega, Int32.le_iff_toInt_le.mpr (by rw [pk_sub_toInt (by omega) (by omega)]; show _ ≤ (0 : Int); omega)⟩; exact Or.inl (pk_sub h)), (by rw [← h4, show k = k - 1 + 1 by omega, abF_s hlf, Nat.add_sub_cancel, show min sp lf = sp by omega])⟩ (lv_sub hl [0, 1, 2, 3, 4, 5, 6] rfl)
        · skip
          refine lv_iload hx hb dX7_pieces_24 (lv_at hl 0 rfl) ?_
          refine lv_goto (tgt := 30) hx hb dX7_pieces_26 (by decide) ?_
          refine lv_iload_n hx hb dX7_pieces_30 rfl (lv_at hl 4 rfl) ?_
          refine n_iadd (x := lf) (y := sv) hx hb dX7_pieces_31 ?_
          refine lv_iload_n hx hb dX7_pieces_32 rfl (lv_at hl 5 rfl) ?_
          refine lv_iload hx hb dX7_pieces_33 (lv_at hl 2 rfl) ?_
          refine roSl (As := [.int (nI (lf + sv)), .int (nI q), .int (nI (w + sv))]) (rest := [.long v]) ⟨hx, hb, hml, hown, hts⟩ (c_X7_tries l D cI cL cZ cO (lf + sv) q (w + sv) (by omega) (by omega) (by omega)) (va_cwS 3 hts gX7_pieces_X7_tries rfl rfl rfl (by decide +kernel) ⟨Nat.le_of_ble_eq_true rfl, Nat.le_of_ble_eq_true rfl⟩) hO (fun k q h => by simp at h) rfl hl.1 rfl (Nat.le_of_ble_eq_true rfl) dX7_pieces_35 ⟨Nat.le_of_ble_eq_true rfl, Nat.le_of_ble_eq_true rfl⟩ (fun r_35 e_35 => ?_)
          obtain rfl : r_35 = tr1 q (lf + sv) (w + sv) := e_35
          refine lv_ladd hx hb dX7_pieces_38 ?_
          refine lv_lstore (lv' := [(5, .long (v + (tr1 q (lf + sv) (w + sv)))), (7, .int (nI lf)), (4, .int (nI (w + sv))), (0, .int (nI w)), (1, .int (nI sv)), (2, .int (nI q)), (3, .int (nI sp))]) hx hb dX7_pieces_39 hl (by decide) rfl (fun ls hl => ?_)
          refine lv_iload hx hb dX7_pieces_41 (lv_at hl 1 rfl) ?_
          refine lv_iload_n hx hb dX7_pieces_43 rfl (lv_at hl 6 rfl) ?_
          refine lv_isub hx hb dX7_pieces_44 ?_
          refine lv_istore (lv' := [(7, .int ((nI lf) - (nI sp))), (5, .long (v + (tr1 q (lf + sv) (w + sv)))), (4, .int (nI (w + sv))), (0, .int (nI w)), (1, .int (nI sv)), (2, .int (nI q)), (3, .int (nI sp))]) hx hb dX7_pieces_45 hl (by decide) rfl (fun ls hl => ?_)
          refine lv_goto (tgt := 11) hx hb dX7_pieces_47 (by decide) ?_
          exact ih11 ((nI lf) - (nI sp)) (k - 1) (v + (tr1 q (lf + sv) (w + sv))) _ (by omega) ⟨lf - sp, by omega, by omega, (by rcases Nat.lt_or_ge lf sp with h | h; exact Or.inr ⟨by omega, Int32.le_iff_toInt_le.mpr (by rw [pk_sub_toInt (by omega) (by omega)]; show _ ≤ (0 : Int); omega)⟩; exact Or.inl (pk_sub h)), (by rw [← h4, show k = k - 1 + 1 by omega, abF_s hlf, Nat.add_sub_cancel, show min sp lf = lf by omega])⟩ (lv_sub hl [0, 1, 2, 3, 4, 5, 6] rfl)
  exact L11 _ (nI w) w 0 _ (Nat.lt_succ_self _) ⟨w, Nat.le_refl _, Nat.le_refl _, Or.inl rfl, rfl⟩ (lv_sub hl [0, 1, 2, 3, 4, 5, 6] rfl)
set_option maxHeartbeats 4000000 in
set_option maxRecDepth 100000 in
theorem c_X2_bestSpan (l : Launch) (D : va_G) (cI cL cZ cO : ClassId) (w sv q : Nat) (hw : 1 ≤ w ∧ w ≤ 10) (hsv : sv ≤ 2) (hq : 2 ≤ q ∧ q ≤ 10) : Met l yX2_bestSpan wsX2_bestSpan ({ frames := 2, cells := 0, slots := 0, locals := 56 } : Room) (va_Pc [.int (nI w), .int (nI sv), .int (nI q)] (Ro D cI cL cZ cO ([]))) (vp_Si (fun r => r = nI (bsp (spanF sv q w) (w - 1) 2 1))) 0 0 (fun _ => False) := by
  refine Met.ofW (cc := cX2_bestSpan) (maxL := 9) (ret := (some .int)) (by decide) rfl ?_
  intro p e s m args below meth c s₁ B hml hv
  obtain ⟨rfl, hP, hO⟩ := hv
  have hx := B.exec
  have hb := B.bytes
  have hr := B.returns
  have hts := atoms_spec (ws := wsX2_bestSpan) B.pre
  have hown : s.vm.findClass RX2 = some m.cls := findClass_of_methodNamed B.named
  have hlocks := B.notSynchronized
  have hK := hO.1
  have hl := lv_entry ([.int (nI w), .int (nI sv), .int (nI q)]) (n := 9) (Nat.le_of_ble_eq_true rfl)
  rw [lg_entry_eq]
  generalize (lg_sl ([.int (nI w), .int (nI sv), .int (nI q)]) ++ List.replicate (9 - (lg_sl ([.int (nI w), .int (nI sv), .int (nI q)])).length) Slot.unset).toArray = ls at hl ⊢
  have hl : lv_has ls 9 [(0, .int (nI w)), (1, .int (nI sv)), (2, .int (nI q))] := hl
  generalize hQQ : MQ below _ _ s _ _ _ = QQ
  refine lv_iconst (v := 1) hx hb dX2_bestSpan_0 (by decide) ?_
  refine lv_istore_n (lv' := [(3, .int 1), (0, .int (nI w)), (1, .int (nI sv)), (2, .int (nI q))]) hx hb dX2_bestSpan_1 rfl hl (by decide) rfl (fun ls hl => ?_)
  refine lv_iload_n hx hb dX2_bestSpan_2 rfl (lv_at hl 1 rfl) ?_
  refine lv_iload_n hx hb dX2_bestSpan_3 rfl (lv_at hl 2 rfl) ?_
  refine lv_iload_n hx hb dX2_bestSpan_4 rfl (lv_at hl 3 rfl) ?_
  refine lv_iconst (v := 1) hx hb dX2_bestSpan_5 (by decide) ?_
  refine lv_iload_n hx hb dX2_bestSpan_6 rfl (lv_at hl 1 rfl) ?_
  refine lv_iload_n hx hb dX2_bestSpan_7 rfl (lv_at hl 2 rfl) ?_
  refine n_iadd (x := w) (y := sv) hx hb dX2_bestSpan_8 ?_
  refine roSl (As := [.int (nI w), .int (nI sv), .int (nI q), .int 1, .int (nI (w + sv))]) (rest := []) ⟨hx, hb, hml, hown, hts⟩ (c_X2_above l D cI cL cZ cO w sv q 1 (w + sv) (by omega) (by omega) (by omega) (by omega) (by omega)) (va_cwS 5 hts gX2_bestSpan_X2_above rfl rfl rfl (by decide +kernel) ⟨Nat.le_of_ble_eq_true rfl, Nat.le_of_ble_eq_true rfl⟩) hO (fun k q h => by simp at h) rfl hl.1 rfl (Nat.le_of_ble_eq_true rfl) dX2_bestSpan_9 ⟨Nat.le_of_ble_eq_true rfl, Nat.le_of_ble_eq_true rfl⟩ (fun r_9 e_9 => ?_)
  obtain rfl : r_9 = abF sv q 1 (w + sv) w w 0 := e_9
  refine lv_lstore (lv' := [(4, .long (abF sv q 1 (w + sv) w w 0)), (3, .int 1), (0, .int (nI w)), (1, .int (nI sv)), (2, .int (nI q))]) hx hb dX2_bestSpan_12 hl (by decide) rfl (fun ls hl => ?_)
  refine lv_iconst (v := 2) hx hb dX2_bestSpan_14 (by decide) ?_
  refine lv_istore (lv' := [(6, .int 2), (4, .long (abF sv q 1 (w + sv) w w 0)), (3, .int 1), (0, .int (nI w)), (1, .int (nI sv)), (2, .int (nI q))]) hx hb dX2_bestSpan_15 hl (by decide) rfl (fun ls hl => ?_)
  have L17 : ∀ (n0 : Nat) (b : Nat) (k : Nat) (v : Int64) (ls : Array Slot), w + 1 - k < n0 → (2 ≤ k ∧ k ≤ w + 1) → (1 ≤ b ∧ b ≤ w) → (v = spanF sv q w b) → (bsp (spanF sv q w) (w + 1 - k) k b = bsp (spanF sv q w) (w - 1) 2 1) → lv_has ls 9 [(3, .int (nI b)), (6, .int (nI k)), (4, .long v), (0, .int (nI w)), (1, .int (nI sv)), (2, .int (nI q))] → W p l e (headSpec wsX2_bestSpan ({ frames := 2, cells := 0, slots := 0, locals := 56 } : Room)).room s m ([.int (nI w), .int (nI sv), .int (nI q)] : List Value).toArray below meth c s.heap [] 0 0 QQ (F0 m 17 ls []) := by
    intro n0
    induction n0 with
    | zero =>
      intro b k v ls hmu
      exact absurd hmu (Nat.not_lt_zero _)
    | succ n0 ih17 =>
      intro b k v ls hmu hk hb9 hv he hl
      refine lv_iload hx hb dX2_bestSpan_17 (lv_at hl 1 rfl) ?_
      refine lv_iload_n hx hb dX2_bestSpan_19 rfl (lv_at hl 3 rfl) ?_
      refine n_icmp_gt (x := k) (y := w) (tgt := 57) hx hb dX2_bestSpan_20 (by decide) (by omega) (by omega) (fun c_20 => ?_) (fun c_20 => ?_)
      · skip
        refine lv_iload_n hx hb dX2_bestSpan_57 rfl (lv_at hl 0 rfl) ?_
        rw [← hQQ]
        exact W.iret (v := (nI b)) hx hb hr (fun t9 ht9 hW9 => ⟨_, rfl, (by rw [← he, show w + 1 - k = 0 by omega]; rfl), ht9⟩) (fun q h => by cases h) dX2_bestSpan_58
      · skip
        refine lv_iload_n hx hb dX2_bestSpan_23 rfl (lv_at hl 3 rfl) ?_
        refine lv_iload_n hx hb dX2_bestSpan_24 rfl (lv_at hl 4 rfl) ?_
        refine lv_iload_n hx hb dX2_bestSpan_25 rfl (lv_at hl 5 rfl) ?_
        refine lv_iload hx hb dX2_bestSpan_26 (lv_at hl 1 rfl) ?_
        refine lv_iload_n hx hb dX2_bestSpan_28 rfl (lv_at hl 3 rfl) ?_
        refine lv_iload_n hx hb dX2_bestSpan_29 rfl (lv_at hl 4 rfl) ?_
        refine n_iadd (x := w) (y := sv) hx hb dX2_bestSpan_30 ?_
        refine roSl (As := [.int (nI w), .int (nI sv), .int (nI q), .int (nI k), .int (nI (w + sv))]) (rest := []) ⟨hx, hb, hml, hown, hts⟩ (c_X2_above l D cI cL cZ cO w sv q k (w + sv) (by omega) (by omega) (by omega) (by omega) (by omega)) (va_cwS 5 hts gX2_bestSpan_X2_above rfl rfl rfl (by decide +kernel) ⟨Nat.le_of_ble_eq_true rfl, Nat.le_of_ble_eq_true rfl⟩) hO (fun k q h => by simp at h) rfl hl.1 rfl (Nat.le_of_ble_eq_true rfl) dX2_bestSpan_31 ⟨Nat.le_of_ble_eq_true rfl, Nat.le_of_ble_eq_true rfl⟩ (fun r_31 e_31 => ?_)
        obtain rfl : r_31 = abF sv q k (w + sv) w w 0 := e_31
        refine lv_lstore (lv' := [(7, .long (abF sv q k (w + sv) w w 0)), (3, .int (nI b)), (6, .int (nI k)), (4, .long v), (0, .int (nI w)), (1, .int (nI sv)), (2, .int (nI q))]) hx hb dX2_bestSpan_34 hl (by decide) rfl (fun ls hl => ?_)
        refine lv_lload hx hb dX2_bestSpan_36 (lv_at hl 0 rfl) ?_
        refine lv_lload hx hb dX2_bestSpan_38 (lv_at hl 3 rfl) ?_
        refine W.lcmp hx hb dX2_bestSpan_40 ?_
        refine lv_if_ge (tgt := 51) hx hb dX2_bestSpan_41 (by decide) (fun c_41 => ?_) (fun c_41 => ?_)
        · skip
          refine lv_iinc (v := (nI (k + 1))) (lv' := [(6, .int (nI (k + 1))), (7, .long (abF sv q k (w + sv) w w 0)), (3, .int (nI b)), (4, .long v), (0, .int (nI w)), (1, .int (nI sv)), (2, .int (nI q))]) hx hb dX2_bestSpan_51 hl (k := 2) rfl (nI_add k 1) (by decide) rfl (fun ls hl => ?_)
          refine lv_goto (tgt := 17) hx hb dX2_bestSpan_54 (by decide) ?_
          exact ih17 b (k + 1) v _ (by omega) (by omega) (by omega) hv (by rw [← he, show w + 1 - k = w + 1 - (k + 1) + 1 by omega, bsp_t (f := spanF sv q w) (hv ▸ lgc_ge.mp c_41)]) (lv_sub hl [2, 0, 3, 4, 5, 6] rfl)
        · skip
          refine lv_lload hx hb dX2_bestSpan_44 (lv_at hl 0 rfl) ?_
          refine lv_lstore (lv' := [(4, .long (abF sv q k (w + sv) w w 0)), (7, .long (abF sv q k (w + sv) w w 0)), (3, .int (nI b)), (6, .int (nI k)), (0, .int (nI w)), (1, .int (nI sv)), (2, .int (nI q))]) hx hb dX2_bestSpan_46 hl (by decide) rfl (fun ls hl => ?_)
          refine lv_iload hx hb dX2_bestSpan_48 (lv_at hl 3 rfl) ?_
          refine lv_istore_n (lv' := [(3, .int (nI k)), (4, .long (abF sv q k (w + sv) w w 0)), (7, .long (abF sv q k (w + sv) w w 0)), (6, .int (nI k)), (0, .int (nI w)), (1, .int (nI sv)), (2, .int (nI q))]) hx hb dX2_bestSpan_50 rfl hl (by decide) rfl (fun ls hl => ?_)
          refine lv_iinc (v := (nI (k + 1))) (lv' := [(6, .int (nI (k + 1))), (3, .int (nI k)), (4, .long (abF sv q k (w + sv) w w 0)), (7, .long (abF sv q k (w + sv) w w 0)), (0, .int (nI w)), (1, .int (nI sv)), (2, .int (nI q))]) hx hb dX2_bestSpan_51 hl (k := 3) rfl (nI_add k 1) (by decide) rfl (fun ls hl => ?_)
          refine lv_goto (tgt := 17) hx hb dX2_bestSpan_54 (by decide) ?_
          exact ih17 k (k + 1) (abF sv q k (w + sv) w w 0) _ (by omega) (by omega) (by omega) rfl (by rw [← he, show w + 1 - k = w + 1 - (k + 1) + 1 by omega, bsp_f (f := spanF sv q w) (fun q9 => c_41 (lgc_ge.mpr (hv ▸ q9)))]) (lv_sub hl [1, 0, 2, 4, 5, 6] rfl)
  exact L17 _ 1 2 (abF sv q 1 (w + sv) w w 0) _ (Nat.lt_succ_self _) (by omega) (by omega) rfl (by rw [show w + 1 - 2 = w - 1 by omega]) (lv_sub hl [2, 0, 1, 3, 4, 5] rfl)
set_option maxHeartbeats 4000000 in
set_option maxRecDepth 100000 in
theorem c_X7_span (l : Launch) (D : va_G) (cI cL cZ cO : ClassId) (a : Nat) (x y z : Int32) : Met l yX7_span wsX7_span ({ frames := 3, cells := 0, slots := 0, locals := 73 } : Room) (va_Pc [.ref a, .int x, .int y, .int z] (Ro D cI cL cZ cO ([]))) (vp_Si (fun r => r = spanV x y z)) 0 0 (fun _ => False) := by
  refine Met.ofW (cc := cX7_span) (maxL := 6) (ret := (some .int)) (by decide) rfl ?_
  intro p e s m args below meth c s₁ B hml hv
  obtain ⟨rfl, hP, hO⟩ := hv
  have hx := B.exec
  have hb := B.bytes
  have hr := B.returns
  have hts := atoms_spec (ws := wsX7_span) B.pre
  have hown : s.vm.findClass RX7 = some m.cls := findClass_of_methodNamed B.named
  have hlocks := B.notSynchronized
  have hK := hO.1
  have hl := lv_entry ([.ref a, .int x, .int y, .int z]) (n := 6) (Nat.le_of_ble_eq_true rfl)
  rw [lg_entry_eq]
  generalize (lg_sl ([.ref a, .int x, .int y, .int z]) ++ List.replicate (6 - (lg_sl ([.ref a, .int x, .int y, .int z])).length) Slot.unset).toArray = ls at hl ⊢
  have hl : lv_has ls 6 [(0, .ref a), (1, .int x), (2, .int y), (3, .int z)] := hl
  generalize hQQ : MQ below _ _ s _ _ _ = QQ
  refine lv_iload_n hx hb dX7_span_0 rfl (lv_at hl 1 rfl) ?_
  refine lv_iload_n hx hb dX7_span_1 rfl (lv_at hl 2 rfl) ?_
  refine lv_iload_n hx hb dX7_span_2 rfl (lv_at hl 3 rfl) ?_
  refine roSi (As := [.int x, .int y, .int z]) (rest := []) ⟨hx, hb, hml, hown, hts⟩ (c_X7_isTry l D cI cL cZ cO x y z ) (va_cwS 3 hts gX7_span_X7_isTry rfl rfl rfl (by decide +kernel) ⟨Nat.le_of_ble_eq_true rfl, Nat.le_of_ble_eq_true rfl⟩) hO (fun k q h => by simp at h) rfl hl.1 rfl (Nat.le_of_ble_eq_true rfl) dX7_span_3 ⟨Nat.le_of_ble_eq_true rfl, Nat.le_of_ble_eq_true rfl⟩ (fun r_3 e_3 => ?_)
  obtain rfl : r_3 = tryOk x y z := e_3
  refine lv_if_ne (tgt := 11) hx hb dX7_span_6 (by decide) (fun c_6 => ?_) (fun c_6 => ?_)
  · skip
    obtain ⟨w, sv, q, hw, hsv, hq, rfl, rfl, rfl⟩ := tryOk_nat c_6
    refine lv_iconst (v := 1) hx hb dX7_span_11 (by decide) ?_
    refine lv_istore (lv' := [(4, .int 1), (0, .ref a), (1, .int (nI w)), (2, .int (nI sv)), (3, .int (nI q))]) hx hb dX7_span_12 hl (by decide) rfl (fun ls hl => ?_)
    refine lv_iconst (v := 2) hx hb dX7_span_14 (by decide) ?_
    refine lv_istore (lv' := [(5, .int 2), (4, .int 1), (0, .ref a), (1, .int (nI w)), (2, .int (nI sv)), (3, .int (nI q))]) hx hb dX7_span_15 hl (by decide) rfl (fun ls hl => ?_)
    have L17 : ∀ (n0 : Nat) (b : Nat) (k : Nat) (ls : Array Slot), w + 1 - k < n0 → (2 ≤ k ∧ k ≤ w + 1) → (1 ≤ b ∧ b ≤ w) → (bsp (spanF sv q w) (w + 1 - k) k b = bsp (spanF sv q w) (w - 1) 2 1) → lv_has ls 6 [(4, .int (nI b)), (5, .int (nI k)), (0, .ref a), (1, .int (nI w)), (2, .int (nI sv)), (3, .int (nI q))] → W p l e (headSpec wsX7_span ({ frames := 3, cells := 0, slots := 0, locals := 73 } : Room)).room s m ([.ref a, .int (nI w), .int (nI sv), .int (nI q)] : List Value).toArray below meth c s.heap [] 0 0 QQ (F0 m 17 ls []) := by
      intro n0
      induction n0 with
      | zero =>
        intro b k ls hmu
        exact absurd hmu (Nat.not_lt_zero _)
      | succ n0 ih17 =>
        intro b k ls hmu hk hb9 he hl
        refine lv_iload hx hb dX7_span_17 (lv_at hl 1 rfl) ?_
        refine lv_iload_n hx hb dX7_span_19 rfl (lv_at hl 3 rfl) ?_
        refine n_icmp_gt (x := k) (y := w) (tgt := 53) hx hb dX7_span_20 (by decide) (by omega) (by omega) (fun c_20 => ?_) (fun c_20 => ?_)
        · skip
          refine lv_iload hx hb dX7_span_53 (lv_at hl 0 rfl) ?_
          rw [← hQQ]
          exact W.iret (v := (nI b)) hx hb hr (fun t9 ht9 hW9 => ⟨_, rfl, (by rw [spanV, if_neg c_6, nI_cl (by omega), nI_cl (by omega), nI_cl (by omega), ← he, show w + 1 - k = 0 by omega]; rfl), ht9⟩) (fun q h => by cases h) dX7_span_55
        · skip
          refine lv_iload_n hx hb dX7_span_23 rfl (lv_at hl 3 rfl) ?_
          refine lv_iload_n hx hb dX7_span_24 rfl (lv_at hl 4 rfl) ?_
          refine lv_iload_n hx hb dX7_span_25 rfl (lv_at hl 5 rfl) ?_
          refine lv_iload hx hb dX7_span_26 (lv_at hl 1 rfl) ?_
          refine roSl (As := [.int (nI w), .int (nI sv), .int (nI q), .int (nI k)]) (rest := []) ⟨hx, hb, hml, hown, hts⟩ (c_X7_pieces l D cI cL cZ cO w sv q k (by omega) (by omega) (by omega) (by omega)) (va_cwS 4 hts gX7_span_X7_pieces rfl rfl rfl (by decide +kernel) ⟨Nat.le_of_ble_eq_true rfl, Nat.le_of_ble_eq_true rfl⟩) hO (fun k q h => by simp at h) rfl hl.1 rfl (Nat.le_of_ble_eq_true rfl) dX7_span_28 ⟨Nat.le_of_ble_eq_true rfl, Nat.le_of_ble_eq_true rfl⟩ (fun r_28 e_28 => ?_)
          obtain rfl : r_28 = abF sv q k (w + sv) w w 0 := e_28
          refine lv_iload_n hx hb dX7_span_31 rfl (lv_at hl 3 rfl) ?_
          refine lv_iload_n hx hb dX7_span_32 rfl (lv_at hl 4 rfl) ?_
          refine lv_iload_n hx hb dX7_span_33 rfl (lv_at hl 5 rfl) ?_
          refine lv_iload hx hb dX7_span_34 (lv_at hl 0 rfl) ?_
          refine roSl (As := [.int (nI w), .int (nI sv), .int (nI q), .int (nI b)]) (rest := [.long (abF sv q k (w + sv) w w 0)]) ⟨hx, hb, hml, hown, hts⟩ (c_X7_pieces l D cI cL cZ cO w sv q b (by omega) (by omega) (by omega) (by omega)) (va_cwS 4 hts gX7_span_X7_pieces rfl rfl rfl (by decide +kernel) ⟨Nat.le_of_ble_eq_true rfl, Nat.le_of_ble_eq_true rfl⟩) hO (fun k q h => by simp at h) rfl hl.1 rfl (Nat.le_of_ble_eq_true rfl) dX7_span_36 ⟨Nat.le_of_ble_eq_true rfl, Nat.le_of_ble_eq_true rfl⟩ (fun r_36 e_36 => ?_)
          obtain rfl : r_36 = abF sv q b (w + sv) w w 0 := e_36
          refine W.lcmp hx hb dX7_span_39 ?_
          refine lv_if_ge (tgt := 47) hx hb dX7_span_40 (by decide) (fun c_40 => ?_) (fun c_40 => ?_)
          · skip
            refine lv_iinc (v := (nI (k + 1))) (lv' := [(5, .int (nI (k + 1))), (4, .int (nI b)), (0, .ref a), (1, .int (nI w)), (2, .int (nI sv)), (3, .int (nI q))]) hx hb dX7_span_47 hl (k := 1) rfl (nI_add k 1) (by decide) rfl (fun ls hl => ?_)
            refine lv_goto (tgt := 17) hx hb dX7_span_50 (by decide) ?_
            exact ih17 b (k + 1) _ (by omega) (by omega) (by omega) (by rw [← he, show w + 1 - k = w + 1 - (k + 1) + 1 by omega, bsp_t (f := spanF sv q w) (lgc_ge.mp c_40)]) (lv_sub hl [1, 0, 2, 3, 4, 5] rfl)
          · skip
            refine lv_iload hx hb dX7_span_43 (lv_at hl 1 rfl) ?_
            refine lv_istore (lv' := [(4, .int (nI k)), (5, .int (nI k)), (0, .ref a), (1, .int (nI w)), (2, .int (nI sv)), (3, .int (nI q))]) hx hb dX7_span_45 hl (by decide) rfl (fun ls hl => ?_)
            refine lv_iinc (v := (nI (k + 1))) (lv' := [(5, .int (nI (k + 1))), (4, .int (nI k)), (0, .ref a), (1, .int (nI w)), (2, .int (nI sv)), (3, .int (nI q))]) hx hb dX7_span_47 hl (k := 1) rfl (nI_add k 1) (by decide) rfl (fun ls hl => ?_)
            refine lv_goto (tgt := 17) hx hb dX7_span_50 (by decide) ?_
            exact ih17 k (k + 1) _ (by omega) (by omega) (by omega) (by rw [← he, show w + 1 - k = w + 1 - (k + 1) + 1 by omega, bsp_f (f := spanF sv q w) (fun q9 => c_40 (lgc_ge.mpr q9))]) (lv_sub hl [1, 0, 2, 3, 4, 5] rfl)
    exact L17 _ 1 2 _ (Nat.lt_succ_self _) (by omega) (by omega) (by rw [show w + 1 - 2 = w - 1 by omega]) (lv_sub hl [1, 0, 2, 3, 4, 5] rfl)
  · skip
    refine lv_iconst (v := (-1)) hx hb dX7_span_9 (by decide) ?_
    rw [← hQQ]
    exact W.iret (v := (-1)) hx hb hr (fun t9 ht9 hW9 => ⟨_, rfl, (if_pos c_6).symm, ht9⟩) (fun q h => by cases h) dX7_span_10
set_option maxHeartbeats 4000000 in
set_option maxRecDepth 100000 in
theorem c_X6_span (l : Launch) (D : va_G) (cI cL cZ cO : ClassId) (o : Nat) (x y z : Int32) : Met l yX6_span wsX6_span ({ frames := 3, cells := 0, slots := 0, locals := 84 } : Room) (va_Pc [.ref o, .int x, .int y, .int z] (Ro D cI cL cZ cO ([]))) (vp_Si (fun r => r = spanV x y z)) 0 0 (fun _ => False) := by
  refine Met.ofW (cc := cX6_span) (maxL := 4) (ret := (some .int)) (by decide) rfl ?_
  intro p e s m args below meth c s₁ B hml hv
  obtain ⟨rfl, hP, hO⟩ := hv
  have hx := B.exec
  have hb := B.bytes
  have hr := B.returns
  have hts := atoms_spec (ws := wsX6_span) B.pre
  have hown : s.vm.findClass RX6 = some m.cls := findClass_of_methodNamed B.named
  have hlocks := B.notSynchronized
  have hK := hO.1
  have hl := lv_entry ([.ref o, .int x, .int y, .int z]) (n := 4) (Nat.le_of_ble_eq_true rfl)
  rw [lg_entry_eq]
  generalize (lg_sl ([.ref o, .int x, .int y, .int z]) ++ List.replicate (4 - (lg_sl ([.ref o, .int x, .int y, .int z])).length) Slot.unset).toArray = ls at hl ⊢
  have hl : lv_has ls 4 [(0, .ref o), (1, .int x), (2, .int y), (3, .int z)] := hl
  generalize hQQ : MQ below _ _ s _ _ _ = QQ
  refine lv_iload_n hx hb dX6_span_0 rfl (lv_at hl 1 rfl) ?_
  refine lv_iload_n hx hb dX6_span_1 rfl (lv_at hl 2 rfl) ?_
  refine lv_iload_n hx hb dX6_span_2 rfl (lv_at hl 3 rfl) ?_
  refine roSi (As := [.int x, .int y, .int z]) (rest := []) ⟨hx, hb, hml, hown, hts⟩ (c_X2_canBe l D cI cL cZ cO x y z ) (va_cwS 3 hts gX6_span_X2_canBe rfl rfl rfl (by decide +kernel) ⟨Nat.le_of_ble_eq_true rfl, Nat.le_of_ble_eq_true rfl⟩) hO (fun k q h => by simp at h) rfl hl.1 rfl (Nat.le_of_ble_eq_true rfl) dX6_span_3 ⟨Nat.le_of_ble_eq_true rfl, Nat.le_of_ble_eq_true rfl⟩ (fun r_3 e_3 => ?_)
  obtain rfl : r_3 = tryOk x y z := e_3
  refine lv_if_eq (tgt := 18) hx hb dX6_span_6 (by decide) (fun c_6 => ?_) (fun c_6 => ?_)
  · skip
    refine lv_iconst (v := (-1)) hx hb dX6_span_18 (by decide) ?_
    rw [← hQQ]
    exact W.iret (v := (-1)) hx hb hr (fun t9 ht9 hW9 => ⟨_, rfl, (if_pos c_6).symm, ht9⟩) (fun q h => by cases h) dX6_span_19
  · skip
    obtain ⟨w, sv, q, hw, hsv, hq, rfl, rfl, rfl⟩ := tryOk_nat c_6
    refine lv_iload_n hx hb dX6_span_9 rfl (lv_at hl 1 rfl) ?_
    refine lv_iload_n hx hb dX6_span_10 rfl (lv_at hl 2 rfl) ?_
    refine lv_iload_n hx hb dX6_span_11 rfl (lv_at hl 3 rfl) ?_
    refine roSi (As := [.int (nI w), .int (nI sv), .int (nI q)]) (rest := []) ⟨hx, hb, hml, hown, hts⟩ (c_X2_bestSpan l D cI cL cZ cO w sv q (by omega) (by omega) (by omega)) (va_cwS 3 hts gX6_span_X2_bestSpan rfl rfl rfl (by decide +kernel) ⟨Nat.le_of_ble_eq_true rfl, Nat.le_of_ble_eq_true rfl⟩) hO (fun k q h => by simp at h) rfl hl.1 rfl (Nat.le_of_ble_eq_true rfl) dX6_span_12 ⟨Nat.le_of_ble_eq_true rfl, Nat.le_of_ble_eq_true rfl⟩ (fun r_12 e_12 => ?_)
    obtain rfl : r_12 = nI (bsp (spanF sv q w) (w - 1) 2 1) := e_12
    refine lv_goto (tgt := 19) hx hb dX6_span_15 (by decide) ?_
    rw [← hQQ]
    exact W.iret (v := (nI (bsp (spanF sv q w) (w - 1) 2 1))) hx hb hr (fun t9 ht9 hW9 => ⟨_, rfl, (by rw [spanV, if_neg c_6, nI_cl (by omega), nI_cl (by omega), nI_cl (by omega)]), ht9⟩) (fun q h => by cases h) dX6_span_19
set_option maxHeartbeats 4000000 in
set_option maxRecDepth 100000 in
theorem c_X2_commonDivisor (l : Launch) (D : va_G) (cI cL cZ cO : ClassId) (x y : Int64) : Met l yX2_commonDivisor wsX2_commonDivisor ({ frames := 0, cells := 0, slots := 0, locals := 0 } : Room) (va_Pc [.long x, .long y] (Ro D cI cL cZ cO ([]))) (vp_Sl (fun r => r = (gV 200 x y).1)) 0 0 (fun _ => False) := by
  refine Met.ofW (cc := cX2_commonDivisor) (maxL := 11) (ret := (some .long)) (by decide) rfl ?_
  intro p e s m args below meth c s₁ B hml hv
  obtain ⟨rfl, hP, hO⟩ := hv
  have hx := B.exec
  have hb := B.bytes
  have hr := B.returns
  have hts := atoms_spec (ws := wsX2_commonDivisor) B.pre
  have hown : s.vm.findClass RX2 = some m.cls := findClass_of_methodNamed B.named
  have hlocks := B.notSynchronized
  have hK := hO.1
  have hl := lv_entry ([.long x, .long y]) (n := 11) (Nat.le_of_ble_eq_true rfl)
  rw [lg_entry_eq]
  generalize (lg_sl ([.long x, .long y]) ++ List.replicate (11 - (lg_sl ([.long x, .long y])).length) Slot.unset).toArray = ls at hl ⊢
  have hl : lv_has ls 11 [(0, .long x), (2, .long y)] := hl
  generalize hQQ : MQ below _ _ s _ _ _ = QQ
  refine lv_lload_n hx hb dX2_commonDivisor_0 rfl (lv_at hl 0 rfl) ?_
  refine lv_lstore (lv' := [(4, .long x), (0, .long x), (2, .long y)]) hx hb dX2_commonDivisor_1 hl (by decide) rfl (fun ls hl => ?_)
  refine lv_lload_n hx hb dX2_commonDivisor_3 rfl (lv_at hl 2 rfl) ?_
  refine lv_lstore (lv' := [(6, .long y), (4, .long x), (0, .long x), (2, .long y)]) hx hb dX2_commonDivisor_4 hl (by decide) rfl (fun ls hl => ?_)
  refine lv_iconst (v := 0) hx hb dX2_commonDivisor_6 (by decide) ?_
  refine lv_istore (lv' := [(8, .int 0), (6, .long y), (4, .long x), (0, .long x), (2, .long y)]) hx hb dX2_commonDivisor_7 hl (by decide) rfl (fun ls hl => ?_)
  have L9 : ∀ (n0 : Nat) (k : Nat) (a : Int64) (b : Int64) (ls : Array Slot), 200 - k < n0 → (k ≤ 200) → (gV (200 - k) a b = gV 200 x y) → lv_has ls 11 [(8, .int (nI k)), (4, .long a), (6, .long b), (0, .long x), (2, .long y)] → W p l e (headSpec wsX2_commonDivisor ({ frames := 0, cells := 0, slots := 0, locals := 0 } : Room)).room s m ([.long x, .long y] : List Value).toArray below meth c s.heap [] 0 0 QQ (F0 m 9 ls []) := by
    intro n0
    induction n0 with
    | zero =>
      intro k a b ls hmu
      exact absurd hmu (Nat.not_lt_zero _)
    | succ n0 ih9 =>
      intro k a b ls hmu hk he hl
      refine lv_iload hx hb dX2_commonDivisor_9 (lv_at hl 0 rfl) ?_
      refine lv_sipush (v := 200) hx hb dX2_commonDivisor_11 (by decide) ?_
      refine n_icmp_ge (x := k) (y := 200) (tgt := 45) hx hb dX2_commonDivisor_14 (by decide) (by omega) (by omega) (fun c_14 => ?_) (fun c_14 => ?_)
      · skip
        refine lv_lload hx hb dX2_commonDivisor_45 (lv_at hl 1 rfl) ?_
        rw [← hQQ]
        exact W.lret (v := a) hx hb hr (fun t9 ht9 hW9 => ⟨_, rfl, (by rw [← he, show 200 - k = 0 by omega]; rfl), ht9⟩) (fun q h => by cases h) dX2_commonDivisor_47
      · skip
        refine lv_lload hx hb dX2_commonDivisor_17 (lv_at hl 2 rfl) ?_
        refine lv_lconst (v := 0) hx hb dX2_commonDivisor_19 (by decide) ?_
        refine W.lcmp hx hb dX2_commonDivisor_20 ?_
        refine lv_if_eq (tgt := 45) hx hb dX2_commonDivisor_21 (by decide) (fun c_21 => ?_) (fun c_21 => ?_)
        · skip
          refine lv_lload hx hb dX2_commonDivisor_45 (lv_at hl 1 rfl) ?_
          rw [← hQQ]
          exact W.lret (v := a) hx hb hr (fun t9 ht9 hW9 => ⟨_, rfl, (by rw [← he, gV_z (lgc_eq.mp c_21)]), ht9⟩) (fun q h => by cases h) dX2_commonDivisor_47
        · skip
          refine lv_lload hx hb dX2_commonDivisor_24 (lv_at hl 1 rfl) ?_
          refine lv_lload hx hb dX2_commonDivisor_26 (lv_at hl 2 rfl) ?_
          refine lv_lrem hx hb dX2_commonDivisor_28 (fun q9 => c_21 (lgc_eq.mpr q9)) ?_
          refine lv_lstore (lv' := [(9, .long (a - a / b * b)), (8, .int (nI k)), (4, .long a), (6, .long b), (0, .long x), (2, .long y)]) hx hb dX2_commonDivisor_29 hl (by decide) rfl (fun ls hl => ?_)
          refine lv_lload hx hb dX2_commonDivisor_31 (lv_at hl 3 rfl) ?_
          refine lv_lstore (lv' := [(4, .long b), (9, .long (a - a / b * b)), (8, .int (nI k)), (6, .long b), (0, .long x), (2, .long y)]) hx hb dX2_commonDivisor_33 hl (by decide) rfl (fun ls hl => ?_)
          refine lv_lload hx hb dX2_commonDivisor_35 (lv_at hl 1 rfl) ?_
          refine lv_lstore (lv' := [(6, .long (a - a / b * b)), (4, .long b), (9, .long (a - a / b * b)), (8, .int (nI k)), (0, .long x), (2, .long y)]) hx hb dX2_commonDivisor_37 hl (by decide) rfl (fun ls hl => ?_)
          refine lv_iinc (v := (nI (k + 1))) (lv' := [(8, .int (nI (k + 1))), (6, .long (a - a / b * b)), (4, .long b), (9, .long (a - a / b * b)), (0, .long x), (2, .long y)]) hx hb dX2_commonDivisor_39 hl (k := 3) rfl (nI_add k 1) (by decide) rfl (fun ls hl => ?_)
          refine lv_goto (tgt := 9) hx hb dX2_commonDivisor_42 (by decide) ?_
          exact ih9 (k + 1) b (a - a / b * b) _ (by omega) (by omega) (by rw [← he, show 200 - k = 200 - (k + 1) + 1 by omega, gV_s (fun q9 => c_21 (lgc_eq.mpr q9))]) (lv_sub hl [0, 2, 1, 4, 5] rfl)
  exact L9 _ 0 x y _ (Nat.lt_succ_self _) (by omega) rfl (lv_sub hl [0, 2, 1, 3, 4] rfl)
set_option maxHeartbeats 4000000 in
set_option maxRecDepth 100000 in
theorem c_X6_mean (l : Launch) (D : va_G) (cI cL cZ cO : ClassId) (o : Nat) (x y z spx wt : Int32) : Met l yX6_mean wsX6_mean ({ frames := 2, cells := 0, slots := 0, locals := 56 } : Room) (va_Pc [.ref o, .int x, .int y, .int z, .int spx, .int wt] (Ro D cI cL cZ cO ([]))) (vp_Sl (fun r => r = meanW mnC x y z spx wt)) 0 0 (fun _ => False) := by
  refine Met.ofW (cc := cX6_mean) (maxL := 12) (ret := (some .long)) (by decide) rfl ?_
  intro p e s m args below meth c s₁ B hml hv
  obtain ⟨rfl, hP, hO⟩ := hv
  have hx := B.exec
  have hb := B.bytes
  have hr := B.returns
  have hts := atoms_spec (ws := wsX6_mean) B.pre
  have hown : s.vm.findClass RX6 = some m.cls := findClass_of_methodNamed B.named
  have hlocks := B.notSynchronized
  have hK := hO.1
  have hl := lv_entry ([.ref o, .int x, .int y, .int z, .int spx, .int wt]) (n := 12) (Nat.le_of_ble_eq_true rfl)
  rw [lg_entry_eq]
  generalize (lg_sl ([.ref o, .int x, .int y, .int z, .int spx, .int wt]) ++ List.replicate (12 - (lg_sl ([.ref o, .int x, .int y, .int z, .int spx, .int wt])).length) Slot.unset).toArray = ls at hl ⊢
  have hl : lv_has ls 12 [(0, .ref o), (1, .int x), (2, .int y), (3, .int z), (4, .int spx), (5, .int wt)] := hl
  generalize hQQ : MQ below _ _ s _ _ _ = QQ
  refine lv_iload_n hx hb dX6_mean_0 rfl (lv_at hl 1 rfl) ?_
  refine lv_iload_n hx hb dX6_mean_1 rfl (lv_at hl 2 rfl) ?_
  refine lv_iload_n hx hb dX6_mean_2 rfl (lv_at hl 3 rfl) ?_
  refine roSi (As := [.int x, .int y, .int z]) (rest := []) ⟨hx, hb, hml, hown, hts⟩ (c_X2_canBe l D cI cL cZ cO x y z ) (va_cwS 3 hts gX6_mean_X2_canBe rfl rfl rfl (by decide +kernel) ⟨Nat.le_of_ble_eq_true rfl, Nat.le_of_ble_eq_true rfl⟩) hO (fun k q h => by simp at h) rfl hl.1 rfl (Nat.le_of_ble_eq_true rfl) dX6_mean_3 ⟨Nat.le_of_ble_eq_true rfl, Nat.le_of_ble_eq_true rfl⟩ (fun r_3 e_3 => ?_)
  obtain rfl : r_3 = tryOk x y z := e_3
  refine lv_if_eq (tgt := 29) hx hb dX6_mean_6 (by decide) (fun c_6 => ?_) (fun c_6 => ?_)
  · skip
    refine lv_ldc2 (v := (-1)) hx hb hown (hts (.constantLong RX6 96 (-1)) (List.mem_of_getElem? (i := 1) rfl)) dX6_mean_29 ?_
    rw [← hQQ]
    exact W.lret (v := (-1)) hx hb hr (fun t9 ht9 hW9 => ⟨_, rfl, by simp only [meanW, if_pos c_6], ht9⟩) (fun q h => by cases h) dX6_mean_32
  · skip
    refine lv_iload hx hb dX6_mean_9 (lv_at hl 4 rfl) ?_
    refine lv_iconst (v := 1) hx hb dX6_mean_11 (by decide) ?_
    refine lv_iload_n hx hb dX6_mean_12 rfl (lv_at hl 1 rfl) ?_
    refine roSi (As := [.int spx, .int 1, .int x]) (rest := []) ⟨hx, hb, hml, hown, hts⟩ (c_X6_within l D cI cL cZ cO spx 1 x ) (va_cwS 3 hts gX6_mean_X6_within rfl rfl rfl (by decide +kernel) ⟨Nat.le_of_ble_eq_true rfl, Nat.le_of_ble_eq_true rfl⟩) hO (fun k q h => by simp at h) rfl hl.1 rfl (Nat.le_of_ble_eq_true rfl) dX6_mean_13 ⟨Nat.le_of_ble_eq_true rfl, Nat.le_of_ble_eq_true rfl⟩ (fun r_13 e_13 => ?_)
    obtain rfl : r_13 = wi spx 1 x := e_13
    refine lv_if_eq (tgt := 29) hx hb dX6_mean_16 (by decide) (fun c_16 => ?_) (fun c_16 => ?_)
    · skip
      refine lv_ldc2 (v := (-1)) hx hb hown (hts (.constantLong RX6 96 (-1)) (List.mem_of_getElem? (i := 1) rfl)) dX6_mean_29 ?_
      rw [← hQQ]
      exact W.lret (v := (-1)) hx hb hr (fun t9 ht9 hW9 => ⟨_, rfl, by simp only [meanW, if_neg c_6, if_pos c_16], ht9⟩) (fun q h => by cases h) dX6_mean_32
    · skip
      refine lv_iload hx hb dX6_mean_19 (lv_at hl 5 rfl) ?_
      refine lv_iconst (v := 0) hx hb dX6_mean_21 (by decide) ?_
      refine lv_iconst (v := 1) hx hb dX6_mean_22 (by decide) ?_
      refine roSi (As := [.int wt, .int 0, .int 1]) (rest := []) ⟨hx, hb, hml, hown, hts⟩ (c_X6_within l D cI cL cZ cO wt 0 1 ) (va_cwS 3 hts gX6_mean_X6_within rfl rfl rfl (by decide +kernel) ⟨Nat.le_of_ble_eq_true rfl, Nat.le_of_ble_eq_true rfl⟩) hO (fun k q h => by simp at h) rfl hl.1 rfl (Nat.le_of_ble_eq_true rfl) dX6_mean_23 ⟨Nat.le_of_ble_eq_true rfl, Nat.le_of_ble_eq_true rfl⟩ (fun r_23 e_23 => ?_)
      obtain rfl : r_23 = wi wt 0 1 := e_23
      refine lv_if_ne (tgt := 33) hx hb dX6_mean_26 (by decide) (fun c_26 => ?_) (fun c_26 => ?_)
      · skip
        obtain ⟨w, sv, q, hw, hsv, hq, rfl, rfl, rfl⟩ := tryOk_nat c_6
        obtain ⟨sp, hs1, hs2, rfl⟩ := wi_nat (a := 1) (b := w) (by decide) (by omega) c_16
        refine lv_iload_n hx hb dX6_mean_33 rfl (lv_at hl 3 rfl) ?_
        refine lv_iconst (v := 1) hx hb dX6_mean_34 (by decide) ?_
        refine n_isub (x := q) (y := 1) hx hb dX6_mean_35 (by omega) ?_
        refine lv_iload hx hb dX6_mean_36 (lv_at hl 4 rfl) ?_
        refine lv_iload_n hx hb dX6_mean_38 rfl (lv_at hl 2 rfl) ?_
        refine n_iadd (x := sp) (y := sv) hx hb dX6_mean_39 ?_
        refine roSl (As := [.int (nI (q - 1)), .int (nI (sp + sv))]) (rest := []) ⟨hx, hb, hml, hown, hts⟩ (c_X2_power l D cI cL cZ cO (nI (q - 1)) (sp + sv) (by omega)) (va_cwS 2 hts gX6_mean_X2_power rfl rfl rfl (by decide +kernel) ⟨Nat.le_of_ble_eq_true rfl, Nat.le_of_ble_eq_true rfl⟩) hO (fun k q h => by simp at h) rfl hl.1 rfl (Nat.le_of_ble_eq_true rfl) dX6_mean_40 ⟨Nat.le_of_ble_eq_true rfl, Nat.le_of_ble_eq_true rfl⟩ (fun r_40 e_40 => ?_)
        obtain rfl : r_40 = pw (nI (q - 1)) (sp + sv) := e_40
        refine lv_lstore (lv' := [(6, .long (pw (nI (q - 1)) (sp + sv))), (0, .ref o), (1, .int (nI w)), (2, .int (nI sv)), (3, .int (nI q)), (4, .int (nI sp)), (5, .int wt)]) hx hb dX6_mean_43 hl (by decide) rfl (fun ls hl => ?_)
        refine lv_iload_n hx hb dX6_mean_45 rfl (lv_at hl 2 rfl) ?_
        refine lv_iload_n hx hb dX6_mean_46 rfl (lv_at hl 3 rfl) ?_
        refine lv_iload_n hx hb dX6_mean_47 rfl (lv_at hl 4 rfl) ?_
        refine lv_iload hx hb dX6_mean_48 (lv_at hl 5 rfl) ?_
        refine lv_iload hx hb dX6_mean_50 (lv_at hl 5 rfl) ?_
        refine lv_iload_n hx hb dX6_mean_52 rfl (lv_at hl 3 rfl) ?_
        refine n_iadd (x := sp) (y := sv) hx hb dX6_mean_53 ?_
        refine roSl (As := [.int (nI w), .int (nI sv), .int (nI q), .int (nI sp), .int (nI (sp + sv))]) (rest := []) ⟨hx, hb, hml, hown, hts⟩ (c_X2_above l D cI cL cZ cO w sv q sp (sp + sv) (by omega) (by omega) (by omega) (by omega) (by omega)) (va_cwS 5 hts gX6_mean_X2_above rfl rfl rfl (by decide +kernel) ⟨Nat.le_of_ble_eq_true rfl, Nat.le_of_ble_eq_true rfl⟩) hO (fun k q h => by simp at h) rfl hl.1 rfl (Nat.le_of_ble_eq_true rfl) dX6_mean_54 ⟨Nat.le_of_ble_eq_true rfl, Nat.le_of_ble_eq_true rfl⟩ (fun r_54 e_54 => ?_)
        obtain rfl : r_54 = abF sv q sp (sp + sv) w w 0 := e_54
        refine lv_lstore (lv' := [(8, .long (abF sv q sp (sp + sv) w w 0)), (6, .long (pw (nI (q - 1)) (sp + sv))), (0, .ref o), (1, .int (nI w)), (2, .int (nI sv)), (3, .int (nI q)), (4, .int (nI sp)), (5, .int wt)]) hx hb dX6_mean_57 hl (by decide) rfl (fun ls hl => ?_)
        refine lv_lload hx hb dX6_mean_59 (lv_at hl 0 rfl) ?_
        refine lv_lload hx hb dX6_mean_61 (lv_at hl 1 rfl) ?_
        refine roSl (As := [.long (abF sv q sp (sp + sv) w w 0), .long (pw (nI (q - 1)) (sp + sv))]) (rest := []) ⟨hx, hb, hml, hown, hts⟩ (c_X2_commonDivisor l D cI cL cZ cO (abF sv q sp (sp + sv) w w 0) (pw (nI (q - 1)) (sp + sv)) ) (va_cwS 2 hts gX6_mean_X2_commonDivisor rfl rfl rfl (by decide +kernel) ⟨Nat.le_of_ble_eq_true rfl, Nat.le_of_ble_eq_true rfl⟩) hO (fun k q h => by simp at h) rfl hl.1 rfl (Nat.le_of_ble_eq_true rfl) dX6_mean_63 ⟨Nat.le_of_ble_eq_true rfl, Nat.le_of_ble_eq_true rfl⟩ (fun r_63 e_63 => ?_)
        obtain rfl : r_63 = (gV 200 (abF sv q sp (sp + sv) w w 0) (pw (nI (q - 1)) (sp + sv))).1 := e_63
        refine lv_lstore (lv' := [(10, .long ((gV 200 (abF sv q sp (sp + sv) w w 0) (pw (nI (q - 1)) (sp + sv))).1)), (8, .long (abF sv q sp (sp + sv) w w 0)), (6, .long (pw (nI (q - 1)) (sp + sv))), (0, .ref o), (1, .int (nI w)), (2, .int (nI sv)), (3, .int (nI q)), (4, .int (nI sp)), (5, .int wt)]) hx hb dX6_mean_66 hl (by decide) rfl (fun ls hl => ?_)
        refine lv_lload hx hb dX6_mean_68 (lv_at hl 0 rfl) ?_
        refine lv_lconst (v := 0) hx hb dX6_mean_70 (by decide) ?_
        refine W.lcmp hx hb dX6_mean_71 ?_
        refine lv_if_gt (tgt := 79) hx hb dX6_mean_72 (by decide) (fun c_72 => ?_) (fun c_72 => ?_)
        · skip
          refine lv_iload hx hb dX6_mean_79 (lv_at hl 8 rfl) ?_
          refine lv_if_ne (tgt := 89) hx hb dX6_mean_81 (by decide) (fun c_81 => ?_) (fun c_81 => ?_)
          · skip
            refine lv_lload hx hb dX6_mean_89 (lv_at hl 2 rfl) ?_
            refine lv_lload hx hb dX6_mean_91 (lv_at hl 0 rfl) ?_
            refine lv_ldiv hx hb dX6_mean_93 (fun q9 => i64_ne (lgc_gt.mp c_72) q9) ?_
            rw [← hQQ]
            exact W.lret (v := ((pw (nI (q - 1)) (sp + sv)) / ((gV 200 (abF sv q sp (sp + sv) w w 0) (pw (nI (q - 1)) (sp + sv))).1))) hx hb hr (fun t9 ht9 hW9 => ⟨_, rfl, (by rw [meanW, if_neg c_6, if_neg c_16, if_neg c_26, nI_cl (by omega), nI_cl (by omega), nI_cl (by omega), nI_cl (by omega)]; rw [mnC, if_pos (lgc_gt.mp c_72), if_neg c_81]), ht9⟩) (fun q h => by cases h) dX6_mean_94
          · skip
            refine lv_lload hx hb dX6_mean_84 (lv_at hl 1 rfl) ?_
            refine lv_goto (tgt := 91) hx hb dX6_mean_86 (by decide) ?_
            refine lv_lload hx hb dX6_mean_91 (lv_at hl 0 rfl) ?_
            refine lv_ldiv hx hb dX6_mean_93 (fun q9 => i64_ne (lgc_gt.mp c_72) q9) ?_
            rw [← hQQ]
            exact W.lret (v := ((abF sv q sp (sp + sv) w w 0) / ((gV 200 (abF sv q sp (sp + sv) w w 0) (pw (nI (q - 1)) (sp + sv))).1))) hx hb hr (fun t9 ht9 hW9 => ⟨_, rfl, (by rw [meanW, if_neg c_6, if_neg c_16, if_neg c_26, nI_cl (by omega), nI_cl (by omega), nI_cl (by omega), nI_cl (by omega)]; rw [mnC, if_pos (lgc_gt.mp c_72), if_pos c_81]), ht9⟩) (fun q h => by cases h) dX6_mean_94
        · skip
          refine lv_ldc2 (v := (-1)) hx hb hown (hts (.constantLong RX6 96 (-1)) (List.mem_of_getElem? (i := 1) rfl)) dX6_mean_75 ?_
          rw [← hQQ]
          exact W.lret (v := (-1)) hx hb hr (fun t9 ht9 hW9 => ⟨_, rfl, (by rw [meanW, if_neg c_6, if_neg c_16, if_neg c_26, nI_cl (by omega), nI_cl (by omega), nI_cl (by omega), nI_cl (by omega)]; rw [mnC, if_neg (fun q9 => c_72 (lgc_gt.mpr q9))]), ht9⟩) (fun q h => by cases h) dX6_mean_78
      · skip
        refine lv_ldc2 (v := (-1)) hx hb hown (hts (.constantLong RX6 96 (-1)) (List.mem_of_getElem? (i := 1) rfl)) dX6_mean_29 ?_
        rw [← hQQ]
        exact W.lret (v := (-1)) hx hb hr (fun t9 ht9 hW9 => ⟨_, rfl, by simp only [meanW, if_neg c_6, if_neg c_16, if_pos c_26], ht9⟩) (fun q h => by cases h) dX6_mean_32
set_option maxHeartbeats 4000000 in
set_option maxRecDepth 100000 in
theorem c_X7_mean (l : Launch) (D : va_G) (cI cL cZ cO : ClassId) (a : Nat) (x y z spx wt : Int32) : Met l yX7_mean wsX7_mean ({ frames := 3, cells := 0, slots := 0, locals := 73 } : Room) (va_Pc [.ref a, .int x, .int y, .int z, .int spx, .int wt] (Ro D cI cL cZ cO ([]))) (vp_Sl (fun r => r = meanW mnM x y z spx wt)) 0 0 (fun _ => False) := by
  refine Met.ofW (cc := cX7_mean) (maxL := 16) (ret := (some .long)) (by decide) rfl ?_
  intro p e s m args below meth c s₁ B hml hv
  obtain ⟨rfl, hP, hO⟩ := hv
  have hx := B.exec
  have hb := B.bytes
  have hr := B.returns
  have hts := atoms_spec (ws := wsX7_mean) B.pre
  have hown : s.vm.findClass RX7 = some m.cls := findClass_of_methodNamed B.named
  have hlocks := B.notSynchronized
  have hK := hO.1
  have hl := lv_entry ([.ref a, .int x, .int y, .int z, .int spx, .int wt]) (n := 16) (Nat.le_of_ble_eq_true rfl)
  rw [lg_entry_eq]
  generalize (lg_sl ([.ref a, .int x, .int y, .int z, .int spx, .int wt]) ++ List.replicate (16 - (lg_sl ([.ref a, .int x, .int y, .int z, .int spx, .int wt])).length) Slot.unset).toArray = ls at hl ⊢
  have hl : lv_has ls 16 [(0, .ref a), (1, .int x), (2, .int y), (3, .int z), (4, .int spx), (5, .int wt)] := hl
  generalize hQQ : MQ below _ _ s _ _ _ = QQ
  refine lv_iload_n hx hb dX7_mean_0 rfl (lv_at hl 1 rfl) ?_
  refine lv_iload_n hx hb dX7_mean_1 rfl (lv_at hl 2 rfl) ?_
  refine lv_iload_n hx hb dX7_mean_2 rfl (lv_at hl 3 rfl) ?_
  refine roSi (As := [.int x, .int y, .int z]) (rest := []) ⟨hx, hb, hml, hown, hts⟩ (c_X7_isTry l D cI cL cZ cO x y z ) (va_cwS 3 hts gX7_mean_X7_isTry rfl rfl rfl (by decide +kernel) ⟨Nat.le_of_ble_eq_true rfl, Nat.le_of_ble_eq_true rfl⟩) hO (fun k q h => by simp at h) rfl hl.1 rfl (Nat.le_of_ble_eq_true rfl) dX7_mean_3 ⟨Nat.le_of_ble_eq_true rfl, Nat.le_of_ble_eq_true rfl⟩ (fun r_3 e_3 => ?_)
  obtain rfl : r_3 = tryOk x y z := e_3
  refine lv_if_eq (tgt := 29) hx hb dX7_mean_6 (by decide) (fun c_6 => ?_) (fun c_6 => ?_)
  · skip
    refine lv_ldc2 (v := (-1)) hx hb hown (hts (.constantLong RX7 160 (-1)) (List.mem_of_getElem? (i := 1) rfl)) dX7_mean_29 ?_
    rw [← hQQ]
    exact W.lret (v := (-1)) hx hb hr (fun t9 ht9 hW9 => ⟨_, rfl, by simp only [meanW, if_pos c_6], ht9⟩) (fun q h => by cases h) dX7_mean_32
  · skip
    refine lv_iload hx hb dX7_mean_9 (lv_at hl 4 rfl) ?_
    refine lv_iconst (v := 1) hx hb dX7_mean_11 (by decide) ?_
    refine lv_iload_n hx hb dX7_mean_12 rfl (lv_at hl 1 rfl) ?_
    refine roSi (As := [.int spx, .int 1, .int x]) (rest := []) ⟨hx, hb, hml, hown, hts⟩ (c_X7_in l D cI cL cZ cO spx 1 x ) (va_cwS 3 hts gX7_mean_X7_in rfl rfl rfl (by decide +kernel) ⟨Nat.le_of_ble_eq_true rfl, Nat.le_of_ble_eq_true rfl⟩) hO (fun k q h => by simp at h) rfl hl.1 rfl (Nat.le_of_ble_eq_true rfl) dX7_mean_13 ⟨Nat.le_of_ble_eq_true rfl, Nat.le_of_ble_eq_true rfl⟩ (fun r_13 e_13 => ?_)
    obtain rfl : r_13 = wi spx 1 x := e_13
    refine lv_if_eq (tgt := 29) hx hb dX7_mean_16 (by decide) (fun c_16 => ?_) (fun c_16 => ?_)
    · skip
      refine lv_ldc2 (v := (-1)) hx hb hown (hts (.constantLong RX7 160 (-1)) (List.mem_of_getElem? (i := 1) rfl)) dX7_mean_29 ?_
      rw [← hQQ]
      exact W.lret (v := (-1)) hx hb hr (fun t9 ht9 hW9 => ⟨_, rfl, by simp only [meanW, if_neg c_6, if_pos c_16], ht9⟩) (fun q h => by cases h) dX7_mean_32
    · skip
      refine lv_iload hx hb dX7_mean_19 (lv_at hl 5 rfl) ?_
      refine lv_iconst (v := 0) hx hb dX7_mean_21 (by decide) ?_
      refine lv_iconst (v := 1) hx hb dX7_mean_22 (by decide) ?_
      refine roSi (As := [.int wt, .int 0, .int 1]) (rest := []) ⟨hx, hb, hml, hown, hts⟩ (c_X7_in l D cI cL cZ cO wt 0 1 ) (va_cwS 3 hts gX7_mean_X7_in rfl rfl rfl (by decide +kernel) ⟨Nat.le_of_ble_eq_true rfl, Nat.le_of_ble_eq_true rfl⟩) hO (fun k q h => by simp at h) rfl hl.1 rfl (Nat.le_of_ble_eq_true rfl) dX7_mean_23 ⟨Nat.le_of_ble_eq_true rfl, Nat.le_of_ble_eq_true rfl⟩ (fun r_23 e_23 => ?_)
      obtain rfl : r_23 = wi wt 0 1 := e_23
      refine lv_if_ne (tgt := 33) hx hb dX7_mean_26 (by decide) (fun c_26 => ?_) (fun c_26 => ?_)
      · skip
        obtain ⟨w, sv, q, hw, hsv, hq, rfl, rfl, rfl⟩ := tryOk_nat c_6
        obtain ⟨sp, hs1, hs2, rfl⟩ := wi_nat (a := 1) (b := w) (by decide) (by omega) c_16
        obtain ⟨⟨hg2, hg1⟩, -, -⟩ := mn_all w (by omega) sv (by omega) q (by omega) sp (by omega) ⟨hw.1, hq.1, hs1, hs2⟩
        refine lv_iload_n hx hb dX7_mean_33 rfl (lv_at hl 1 rfl) ?_
        refine lv_iload_n hx hb dX7_mean_34 rfl (lv_at hl 2 rfl) ?_
        refine lv_iload_n hx hb dX7_mean_35 rfl (lv_at hl 3 rfl) ?_
        refine lv_iload hx hb dX7_mean_36 (lv_at hl 4 rfl) ?_
        refine roSl (As := [.int (nI w), .int (nI sv), .int (nI q), .int (nI sp)]) (rest := []) ⟨hx, hb, hml, hown, hts⟩ (c_X7_pieces l D cI cL cZ cO w sv q sp (by omega) (by omega) (by omega) (by omega)) (va_cwS 4 hts gX7_mean_X7_pieces rfl rfl rfl (by decide +kernel) ⟨Nat.le_of_ble_eq_true rfl, Nat.le_of_ble_eq_true rfl⟩) hO (fun k q h => by simp at h) rfl hl.1 rfl (Nat.le_of_ble_eq_true rfl) dX7_mean_38 ⟨Nat.le_of_ble_eq_true rfl, Nat.le_of_ble_eq_true rfl⟩ (fun r_38 e_38 => ?_)
        obtain rfl : r_38 = abF sv q sp (w + sv) w w 0 := e_38
        refine lv_lstore (lv' := [(6, .long (abF sv q sp (w + sv) w w 0)), (0, .ref a), (1, .int (nI w)), (2, .int (nI sv)), (3, .int (nI q)), (4, .int (nI sp)), (5, .int wt)]) hx hb dX7_mean_41 hl (by decide) rfl (fun ls hl => ?_)
        refine lv_iload_n hx hb dX7_mean_43 rfl (lv_at hl 4 rfl) ?_
        refine lv_iconst (v := 1) hx hb dX7_mean_44 (by decide) ?_
        refine n_isub (x := q) (y := 1) hx hb dX7_mean_45 (by omega) ?_
        refine lv_iload_n hx hb dX7_mean_46 rfl (lv_at hl 2 rfl) ?_
        refine lv_iload_n hx hb dX7_mean_47 rfl (lv_at hl 3 rfl) ?_
        refine n_iadd (x := w) (y := sv) hx hb dX7_mean_48 ?_
        refine roSl (As := [.int (nI (q - 1)), .int (nI (w + sv))]) (rest := []) ⟨hx, hb, hml, hown, hts⟩ (c_X7_power l D cI cL cZ cO (nI (q - 1)) (w + sv) (by omega)) (va_cwS 2 hts gX7_mean_X7_power rfl rfl rfl (by decide +kernel) ⟨Nat.le_of_ble_eq_true rfl, Nat.le_of_ble_eq_true rfl⟩) hO (fun k q h => by simp at h) rfl hl.1 rfl (Nat.le_of_ble_eq_true rfl) dX7_mean_49 ⟨Nat.le_of_ble_eq_true rfl, Nat.le_of_ble_eq_true rfl⟩ (fun r_49 e_49 => ?_)
        obtain rfl : r_49 = pw (nI (q - 1)) (w + sv) := e_49
        refine lv_lstore (lv' := [(8, .long (pw (nI (q - 1)) (w + sv))), (6, .long (abF sv q sp (w + sv) w w 0)), (0, .ref a), (1, .int (nI w)), (2, .int (nI sv)), (3, .int (nI q)), (4, .int (nI sp)), (5, .int wt)]) hx hb dX7_mean_52 hl (by decide) rfl (fun ls hl => ?_)
        refine lv_lload hx hb dX7_mean_54 (lv_at hl 1 rfl) ?_
        refine lv_lstore (lv' := [(10, .long (abF sv q sp (w + sv) w w 0)), (8, .long (pw (nI (q - 1)) (w + sv))), (6, .long (abF sv q sp (w + sv) w w 0)), (0, .ref a), (1, .int (nI w)), (2, .int (nI sv)), (3, .int (nI q)), (4, .int (nI sp)), (5, .int wt)]) hx hb dX7_mean_56 hl (by decide) rfl (fun ls hl => ?_)
        refine lv_lload hx hb dX7_mean_58 (lv_at hl 1 rfl) ?_
        refine lv_lstore (lv' := [(12, .long (pw (nI (q - 1)) (w + sv))), (10, .long (abF sv q sp (w + sv) w w 0)), (8, .long (pw (nI (q - 1)) (w + sv))), (6, .long (abF sv q sp (w + sv) w w 0)), (0, .ref a), (1, .int (nI w)), (2, .int (nI sv)), (3, .int (nI q)), (4, .int (nI sp)), (5, .int wt)]) hx hb dX7_mean_60 hl (by decide) rfl (fun ls hl => ?_)
        have L62 : ∀ (n0 : Nat) (k : Nat) (ga : Int64) (gb : Int64) (ls : Array Slot), k < n0 → (gV k ga gb = gV 200 (abF sv q sp (w + sv) w w 0) (pw (nI (q - 1)) (w + sv))) → lv_has ls 16 [(10, .long ga), (12, .long gb), (0, .ref a), (1, .int (nI w)), (2, .int (nI sv)), (3, .int (nI q)), (4, .int (nI sp)), (5, .int wt), (6, .long (abF sv q sp (w + sv) w w 0)), (8, .long (pw (nI (q - 1)) (w + sv)))] → W p l e (headSpec wsX7_mean ({ frames := 3, cells := 0, slots := 0, locals := 73 } : Room)).room s m ([.ref a, .int (nI w), .int (nI sv), .int (nI q), .int (nI sp), .int wt] : List Value).toArray below meth c s.heap [] 0 0 QQ (F0 m 62 ls []) := by
          intro n0
          induction n0 with
          | zero =>
            intro k ga gb ls hmu
            exact absurd hmu (Nat.not_lt_zero _)
          | succ n0 ih62 =>
            intro k ga gb ls hmu he hl
            refine lv_lload hx hb dX7_mean_62 (lv_at hl 1 rfl) ?_
            refine lv_lconst (v := 0) hx hb dX7_mean_64 (by decide) ?_
            refine W.lcmp hx hb dX7_mean_65 ?_
            refine lv_if_eq (tgt := 87) hx hb dX7_mean_66 (by decide) (fun c_66 => ?_) (fun c_66 => ?_)
            · skip
              have hga : ¬ ga = 0 := fun z9 => hg1 (by rw [← he, gV_z (lgc_eq.mp c_66)]; exact z9)
              refine lv_iload hx hb dX7_mean_87 (lv_at hl 7 rfl) ?_
              refine lv_if_ne (tgt := 100) hx hb dX7_mean_89 (by decide) (fun c_89 => ?_) (fun c_89 => ?_)
              · skip
                refine lv_lload hx hb dX7_mean_100 (lv_at hl 9 rfl) ?_
                refine lv_lload hx hb dX7_mean_102 (lv_at hl 0 rfl) ?_
                refine lv_ldiv hx hb dX7_mean_104 hga ?_
                rw [← hQQ]
                exact W.lret (v := ((pw (nI (q - 1)) (w + sv)) / ga)) hx hb hr (fun t9 ht9 hW9 => ⟨_, rfl, (by rw [meanW, if_neg c_6, if_neg c_16, if_neg c_26, nI_cl (by omega), nI_cl (by omega), nI_cl (by omega), nI_cl (by omega)]; rw [mnM, if_neg c_89, ← he, gV_z (lgc_eq.mp c_66)]), ht9⟩) (fun q h => by cases h) dX7_mean_105
              · skip
                refine lv_lload hx hb dX7_mean_92 (lv_at hl 8 rfl) ?_
                refine lv_lload hx hb dX7_mean_94 (lv_at hl 0 rfl) ?_
                refine lv_ldiv hx hb dX7_mean_96 hga ?_
                refine lv_goto (tgt := 105) hx hb dX7_mean_97 (by decide) ?_
                rw [← hQQ]
                exact W.lret (v := ((abF sv q sp (w + sv) w w 0) / ga)) hx hb hr (fun t9 ht9 hW9 => ⟨_, rfl, (by rw [meanW, if_neg c_6, if_neg c_16, if_neg c_26, nI_cl (by omega), nI_cl (by omega), nI_cl (by omega), nI_cl (by omega)]; rw [mnM, if_pos c_89, ← he, gV_z (lgc_eq.mp c_66)]), ht9⟩) (fun q h => by cases h) dX7_mean_105
            · skip
              have hk0 : 0 < k := Nat.pos_of_ne_zero (fun z9 => by subst z9; exact c_66 (lgc_eq.mpr (by rw [← hg2, ← he]; rfl)))
              refine lv_lload hx hb dX7_mean_69 (lv_at hl 0 rfl) ?_
              refine lv_lload hx hb dX7_mean_71 (lv_at hl 1 rfl) ?_
              refine lv_lrem hx hb dX7_mean_73 (fun q9 => c_66 (lgc_eq.mpr q9)) ?_
              refine lv_lstore (lv' := [(14, .long (ga - ga / gb * gb)), (10, .long ga), (12, .long gb), (0, .ref a), (1, .int (nI w)), (2, .int (nI sv)), (3, .int (nI q)), (4, .int (nI sp)), (5, .int wt), (6, .long (abF sv q sp (w + sv) w w 0)), (8, .long (pw (nI (q - 1)) (w + sv)))]) hx hb dX7_mean_74 hl (by decide) rfl (fun ls hl => ?_)
              refine lv_lload hx hb dX7_mean_76 (lv_at hl 2 rfl) ?_
              refine lv_lstore (lv' := [(10, .long gb), (14, .long (ga - ga / gb * gb)), (12, .long gb), (0, .ref a), (1, .int (nI w)), (2, .int (nI sv)), (3, .int (nI q)), (4, .int (nI sp)), (5, .int wt), (6, .long (abF sv q sp (w + sv) w w 0)), (8, .long (pw (nI (q - 1)) (w + sv)))]) hx hb dX7_mean_78 hl (by decide) rfl (fun ls hl => ?_)
              refine lv_lload hx hb dX7_mean_80 (lv_at hl 1 rfl) ?_
              refine lv_lstore (lv' := [(12, .long (ga - ga / gb * gb)), (10, .long gb), (14, .long (ga - ga / gb * gb)), (0, .ref a), (1, .int (nI w)), (2, .int (nI sv)), (3, .int (nI q)), (4, .int (nI sp)), (5, .int wt), (6, .long (abF sv q sp (w + sv) w w 0)), (8, .long (pw (nI (q - 1)) (w + sv)))]) hx hb dX7_mean_82 hl (by decide) rfl (fun ls hl => ?_)
              refine lv_goto (tgt := 62) hx hb dX7_mean_84 (by decide) ?_
              exact ih62 (k - 1) gb (ga - ga / gb * gb) _ (by omega) (by rw [← he, show k = k - 1 + 1 by omega, gV_s (fun q9 => c_66 (lgc_eq.mpr q9)), Nat.add_sub_cancel]) (lv_sub hl [1, 0, 3, 4, 5, 6, 7, 8, 9, 10] rfl)
        exact L62 _ 200 (abF sv q sp (w + sv) w w 0) (pw (nI (q - 1)) (w + sv)) _ (Nat.lt_succ_self _) rfl (lv_sub hl [1, 0, 4, 5, 6, 7, 8, 9, 3, 2] rfl)
      · skip
        refine lv_ldc2 (v := (-1)) hx hb hown (hts (.constantLong RX7 160 (-1)) (List.mem_of_getElem? (i := 1) rfl)) dX7_mean_29 ?_
        rw [← hQQ]
        exact W.lret (v := (-1)) hx hb hr (fun t9 ht9 hW9 => ⟨_, rfl, by simp only [meanW, if_neg c_6, if_neg c_16, if_pos c_26], ht9⟩) (fun q h => by cases h) dX7_mean_32
end
