-- ===== PART A: goes FIRST, ahead of the names: the tables' words, and 'selects' of the private methods out of them =====
/-- a private method of a class that the tables say can be made, by its rows of tables_1 -/
def lw_okq (q : MethodName × Nat) : Prop := (q.1.cls ≠ "java/lang/invoke/MethodHandle" ∧ q.1.cls ≠ "java/lang/invoke/VarHandle") ∧ Cond.instantiable q.1.cls q.2 ∈ tables_1 ∧ Cond.privateMethod q.1 ∈ tables_1 ∧ Cond.instanceMethod q.1 ∈ tables_1
set_option maxRecDepth 20000 in
theorem lw_p0 : lw_okq (⟨"KeyLetters", "appendBytes", "(I)V"⟩, 19) := ⟨⟨by decide +kernel, by decide +kernel⟩, List.mem_of_getElem? (i := 33) rfl, List.mem_of_getElem? (i := 458) rfl, List.mem_of_getElem? (i := 459) rfl⟩
set_option maxRecDepth 20000 in
theorem lw_p1 : lw_okq (⟨"KeyLetters", "takeTape", "()I"⟩, 19) := ⟨⟨by decide +kernel, by decide +kernel⟩, List.mem_of_getElem? (i := 33) rfl, List.mem_of_getElem? (i := 470) rfl, List.mem_of_getElem? (i := 471) rfl⟩
set_option maxRecDepth 20000 in
theorem lw_p2 : lw_okq (⟨"KeyLetters$Reader", "open", "([III)V"⟩, 11) := ⟨⟨by decide +kernel, by decide +kernel⟩, List.mem_of_getElem? (i := 41) rfl, List.mem_of_getElem? (i := 474) rfl, List.mem_of_getElem? (i := 475) rfl⟩
set_option maxRecDepth 20000 in
theorem lw_p3 : lw_okq (⟨"KeyLetters$Reader", "advance", "()V"⟩, 11) := ⟨⟨by decide +kernel, by decide +kernel⟩, List.mem_of_getElem? (i := 41) rfl, List.mem_of_getElem? (i := 481) rfl, List.mem_of_getElem? (i := 482) rfl⟩
set_option maxRecDepth 20000 in
theorem lw_p4 : lw_okq (⟨"KeyLetters$Reader", "readRun", "()V"⟩, 11) := ⟨⟨by decide +kernel, by decide +kernel⟩, List.mem_of_getElem? (i := 41) rfl, List.mem_of_getElem? (i := 485) rfl, List.mem_of_getElem? (i := 486) rfl⟩
set_option maxRecDepth 20000 in
theorem lw_p5 : lw_okq (⟨"KeyLetters$Reader", "wordOf", "(I)LKeyLetters$Word;"⟩, 11) := ⟨⟨by decide +kernel, by decide +kernel⟩, List.mem_of_getElem? (i := 41) rfl, List.mem_of_getElem? (i := 492) rfl, List.mem_of_getElem? (i := 493) rfl⟩
set_option maxRecDepth 20000 in
theorem lw_p6 : lw_okq (⟨"KeyLetters$Office", "read", "(LKeyLetters$Reader;)Z"⟩, 11) := ⟨⟨by decide +kernel, by decide +kernel⟩, List.mem_of_getElem? (i := 97) rfl, List.mem_of_getElem? (i := 545) rfl, List.mem_of_getElem? (i := 546) rfl⟩
set_option maxRecDepth 20000 in
theorem lw_p7 : lw_okq (⟨"KeyLetters$Reader", "seesEnd", "()Z"⟩, 11) := ⟨⟨by decide +kernel, by decide +kernel⟩, List.mem_of_getElem? (i := 41) rfl, List.mem_of_getElem? (i := 549) rfl, List.mem_of_getElem? (i := 550) rfl⟩
set_option maxRecDepth 20000 in
theorem lw_p8 : lw_okq (⟨"KeyLetters$Office", "readLine", "(LKeyLetters$Reader;)Z"⟩, 11) := ⟨⟨by decide +kernel, by decide +kernel⟩, List.mem_of_getElem? (i := 97) rfl, List.mem_of_getElem? (i := 553) rfl, List.mem_of_getElem? (i := 554) rfl⟩
set_option maxRecDepth 20000 in
theorem lw_p9 : lw_okq (⟨"KeyLetters$Reader", "seesWord", "(LKeyLetters$Word;)Z"⟩, 11) := ⟨⟨by decide +kernel, by decide +kernel⟩, List.mem_of_getElem? (i := 41) rfl, List.mem_of_getElem? (i := 559) rfl, List.mem_of_getElem? (i := 560) rfl⟩
set_option maxRecDepth 20000 in
theorem lw_p10 : lw_okq (⟨"KeyLetters$Office", "readMachine", "(LKeyLetters$Reader;)Z"⟩, 11) := ⟨⟨by decide +kernel, by decide +kernel⟩, List.mem_of_getElem? (i := 97) rfl, List.mem_of_getElem? (i := 563) rfl, List.mem_of_getElem? (i := 564) rfl⟩
set_option maxRecDepth 20000 in
theorem lw_p11 : lw_okq (⟨"KeyLetters$Reader", "refuse", "(I)Z"⟩, 11) := ⟨⟨by decide +kernel, by decide +kernel⟩, List.mem_of_getElem? (i := 41) rfl, List.mem_of_getElem? (i := 567) rfl, List.mem_of_getElem? (i := 568) rfl⟩
set_option maxRecDepth 20000 in
theorem lw_p12 : lw_okq (⟨"KeyLetters$Office", "needsNewName", "(LKeyLetters$Reader;)Z"⟩, 11) := ⟨⟨by decide +kernel, by decide +kernel⟩, List.mem_of_getElem? (i := 97) rfl, List.mem_of_getElem? (i := 572) rfl, List.mem_of_getElem? (i := 573) rfl⟩
set_option maxRecDepth 20000 in
theorem lw_p13 : lw_okq (⟨"KeyLetters$Reader", "needsName", "()Z"⟩, 11) := ⟨⟨by decide +kernel, by decide +kernel⟩, List.mem_of_getElem? (i := 41) rfl, List.mem_of_getElem? (i := 576) rfl, List.mem_of_getElem? (i := 577) rfl⟩
set_option maxRecDepth 20000 in
theorem lw_p14 : lw_okq (⟨"KeyLetters$Reader", "needsNumber", "(II)Z"⟩, 11) := ⟨⟨by decide +kernel, by decide +kernel⟩, List.mem_of_getElem? (i := 41) rfl, List.mem_of_getElem? (i := 585) rfl, List.mem_of_getElem? (i := 586) rfl⟩
set_option maxRecDepth 20000 in
theorem lw_p15 : lw_okq (⟨"KeyLetters$Office", "readPhrase", "(LKeyLetters$Reader;)Z"⟩, 11) := ⟨⟨by decide +kernel, by decide +kernel⟩, List.mem_of_getElem? (i := 97) rfl, List.mem_of_getElem? (i := 591) rfl, List.mem_of_getElem? (i := 592) rfl⟩
def lw_privs_1 : List (MethodName × Nat) := [(⟨"KeyLetters", "appendBytes", "(I)V"⟩, 19), (⟨"KeyLetters", "takeTape", "()I"⟩, 19), (⟨"KeyLetters$Reader", "open", "([III)V"⟩, 11), (⟨"KeyLetters$Reader", "advance", "()V"⟩, 11), (⟨"KeyLetters$Reader", "readRun", "()V"⟩, 11), (⟨"KeyLetters$Reader", "wordOf", "(I)LKeyLetters$Word;"⟩, 11), (⟨"KeyLetters$Office", "read", "(LKeyLetters$Reader;)Z"⟩, 11), (⟨"KeyLetters$Reader", "seesEnd", "()Z"⟩, 11), (⟨"KeyLetters$Office", "readLine", "(LKeyLetters$Reader;)Z"⟩, 11), (⟨"KeyLetters$Reader", "seesWord", "(LKeyLetters$Word;)Z"⟩, 11), (⟨"KeyLetters$Office", "readMachine", "(LKeyLetters$Reader;)Z"⟩, 11), (⟨"KeyLetters$Reader", "refuse", "(I)Z"⟩, 11), (⟨"KeyLetters$Office", "needsNewName", "(LKeyLetters$Reader;)Z"⟩, 11), (⟨"KeyLetters$Reader", "needsName", "()Z"⟩, 11), (⟨"KeyLetters$Reader", "needsNumber", "(II)Z"⟩, 11), (⟨"KeyLetters$Office", "readPhrase", "(LKeyLetters$Reader;)Z"⟩, 11)]
theorem lw_r1 : ∀ q ∈ lw_privs_1, lw_okq q := List.forall_mem_cons.mpr ⟨lw_p0, List.forall_mem_cons.mpr ⟨lw_p1, List.forall_mem_cons.mpr ⟨lw_p2, List.forall_mem_cons.mpr ⟨lw_p3, List.forall_mem_cons.mpr ⟨lw_p4, List.forall_mem_cons.mpr ⟨lw_p5, List.forall_mem_cons.mpr ⟨lw_p6, List.forall_mem_cons.mpr ⟨lw_p7, List.forall_mem_cons.mpr ⟨lw_p8, List.forall_mem_cons.mpr ⟨lw_p9, List.forall_mem_cons.mpr ⟨lw_p10, List.forall_mem_cons.mpr ⟨lw_p11, List.forall_mem_cons.mpr ⟨lw_p12, List.forall_mem_cons.mpr ⟨lw_p13, List.forall_mem_cons.mpr ⟨lw_p14, List.forall_mem_cons.mpr ⟨lw_p15, fun _ h => absurd h List.not_mem_nil⟩⟩⟩⟩⟩⟩⟩⟩⟩⟩⟩⟩⟩⟩⟩⟩
set_option maxRecDepth 20000 in
theorem lw_p16 : lw_okq (⟨"KeyLetters$Office", "readKnows", "(LKeyLetters$Reader;)Z"⟩, 11) := ⟨⟨by decide +kernel, by decide +kernel⟩, List.mem_of_getElem? (i := 97) rfl, List.mem_of_getElem? (i := 597) rfl, List.mem_of_getElem? (i := 598) rfl⟩
set_option maxRecDepth 20000 in
theorem lw_p17 : lw_okq (⟨"KeyLetters$Reader", "neededOf", "([JI)I"⟩, 11) := ⟨⟨by decide +kernel, by decide +kernel⟩, List.mem_of_getElem? (i := 41) rfl, List.mem_of_getElem? (i := 601) rfl, List.mem_of_getElem? (i := 602) rfl⟩
set_option maxRecDepth 20000 in
theorem lw_p18 : lw_okq (⟨"KeyLetters$Office", "knowsOf", "(II)Z"⟩, 11) := ⟨⟨by decide +kernel, by decide +kernel⟩, List.mem_of_getElem? (i := 97) rfl, List.mem_of_getElem? (i := 606) rfl, List.mem_of_getElem? (i := 607) rfl⟩
set_option maxRecDepth 20000 in
theorem lw_p19 : lw_okq (⟨"KeyLetters$Office", "hasMachine", "(I)Z"⟩, 11) := ⟨⟨by decide +kernel, by decide +kernel⟩, List.mem_of_getElem? (i := 97) rfl, List.mem_of_getElem? (i := 610) rfl, List.mem_of_getElem? (i := 611) rfl⟩
set_option maxRecDepth 20000 in
theorem lw_p20 : lw_okq (⟨"KeyLetters$Office", "hasPhrase", "(I)Z"⟩, 11) := ⟨⟨by decide +kernel, by decide +kernel⟩, List.mem_of_getElem? (i := 97) rfl, List.mem_of_getElem? (i := 614) rfl, List.mem_of_getElem? (i := 615) rfl⟩
set_option maxRecDepth 20000 in
theorem lw_p21 : lw_okq (⟨"KeyLetters$Office", "readAnswers", "(LKeyLetters$Reader;)Z"⟩, 11) := ⟨⟨by decide +kernel, by decide +kernel⟩, List.mem_of_getElem? (i := 97) rfl, List.mem_of_getElem? (i := 623) rfl, List.mem_of_getElem? (i := 624) rfl⟩
set_option maxRecDepth 20000 in
theorem lw_p22 : lw_okq (⟨"KeyLetters$Office", "isAnswer", "(II)Z"⟩, 11) := ⟨⟨by decide +kernel, by decide +kernel⟩, List.mem_of_getElem? (i := 97) rfl, List.mem_of_getElem? (i := 627) rfl, List.mem_of_getElem? (i := 628) rfl⟩
set_option maxRecDepth 20000 in
theorem lw_p23 : lw_okq (⟨"KeyLetters$Reader", "passSign", "(I)Z"⟩, 11) := ⟨⟨by decide +kernel, by decide +kernel⟩, List.mem_of_getElem? (i := 41) rfl, List.mem_of_getElem? (i := 631) rfl, List.mem_of_getElem? (i := 632) rfl⟩
set_option maxRecDepth 20000 in
theorem lw_p24 : lw_okq (⟨"KeyLetters$Reader", "seesSign", "(I)Z"⟩, 11) := ⟨⟨by decide +kernel, by decide +kernel⟩, List.mem_of_getElem? (i := 41) rfl, List.mem_of_getElem? (i := 635) rfl, List.mem_of_getElem? (i := 636) rfl⟩
set_option maxRecDepth 20000 in
theorem lw_p25 : lw_okq (⟨"KeyLetters$Reader", "needsEnd", "()Z"⟩, 11) := ⟨⟨by decide +kernel, by decide +kernel⟩, List.mem_of_getElem? (i := 41) rfl, List.mem_of_getElem? (i := 639) rfl, List.mem_of_getElem? (i := 640) rfl⟩
set_option maxRecDepth 20000 in
theorem lw_p26 : lw_okq (⟨"KeyLetters$Scene", "begin", "(LKeyLetters$Office;)V"⟩, 3) := ⟨⟨by decide +kernel, by decide +kernel⟩, List.mem_of_getElem? (i := 91) rfl, List.mem_of_getElem? (i := 644) rfl, List.mem_of_getElem? (i := 645) rfl⟩
set_option maxRecDepth 20000 in
theorem lw_p27 : lw_okq (⟨"KeyLetters$Office", "copyFrom", "(LKeyLetters$Office;)V"⟩, 11) := ⟨⟨by decide +kernel, by decide +kernel⟩, List.mem_of_getElem? (i := 97) rfl, List.mem_of_getElem? (i := 648) rfl, List.mem_of_getElem? (i := 649) rfl⟩
set_option maxRecDepth 20000 in
theorem lw_p28 : lw_okq (⟨"KeyLetters$State", "begin", "(LKeyLetters$Office;)V"⟩, 9) := ⟨⟨by decide +kernel, by decide +kernel⟩, List.mem_of_getElem? (i := 161) rfl, List.mem_of_getElem? (i := 655) rfl, List.mem_of_getElem? (i := 656) rfl⟩
set_option maxRecDepth 20000 in
theorem lw_p29 : lw_okq (⟨"KeyLetters$Sentence", "forget", "()V"⟩, 6) := ⟨⟨by decide +kernel, by decide +kernel⟩, List.mem_of_getElem? (i := 209) rfl, List.mem_of_getElem? (i := 659) rfl, List.mem_of_getElem? (i := 660) rfl⟩
set_option maxRecDepth 20000 in
theorem lw_p30 : lw_okq (⟨"KeyLetters$History", "forget", "()V"⟩, 3) := ⟨⟨by decide +kernel, by decide +kernel⟩, List.mem_of_getElem? (i := 251) rfl, List.mem_of_getElem? (i := 663) rfl, List.mem_of_getElem? (i := 664) rfl⟩
set_option maxRecDepth 20000 in
theorem lw_p31 : lw_okq (⟨"KeyLetters$Office", "answeredBy", "(I)I"⟩, 11) := ⟨⟨by decide +kernel, by decide +kernel⟩, List.mem_of_getElem? (i := 97) rfl, List.mem_of_getElem? (i := 676) rfl, List.mem_of_getElem? (i := 677) rfl⟩
def lw_privs_2 : List (MethodName × Nat) := [(⟨"KeyLetters$Office", "readKnows", "(LKeyLetters$Reader;)Z"⟩, 11), (⟨"KeyLetters$Reader", "neededOf", "([JI)I"⟩, 11), (⟨"KeyLetters$Office", "knowsOf", "(II)Z"⟩, 11), (⟨"KeyLetters$Office", "hasMachine", "(I)Z"⟩, 11), (⟨"KeyLetters$Office", "hasPhrase", "(I)Z"⟩, 11), (⟨"KeyLetters$Office", "readAnswers", "(LKeyLetters$Reader;)Z"⟩, 11), (⟨"KeyLetters$Office", "isAnswer", "(II)Z"⟩, 11), (⟨"KeyLetters$Reader", "passSign", "(I)Z"⟩, 11), (⟨"KeyLetters$Reader", "seesSign", "(I)Z"⟩, 11), (⟨"KeyLetters$Reader", "needsEnd", "()Z"⟩, 11), (⟨"KeyLetters$Scene", "begin", "(LKeyLetters$Office;)V"⟩, 3), (⟨"KeyLetters$Office", "copyFrom", "(LKeyLetters$Office;)V"⟩, 11), (⟨"KeyLetters$State", "begin", "(LKeyLetters$Office;)V"⟩, 9), (⟨"KeyLetters$Sentence", "forget", "()V"⟩, 6), (⟨"KeyLetters$History", "forget", "()V"⟩, 3), (⟨"KeyLetters$Office", "answeredBy", "(I)I"⟩, 11)]
theorem lw_r2 : ∀ q ∈ lw_privs_2, lw_okq q := List.forall_mem_cons.mpr ⟨lw_p16, List.forall_mem_cons.mpr ⟨lw_p17, List.forall_mem_cons.mpr ⟨lw_p18, List.forall_mem_cons.mpr ⟨lw_p19, List.forall_mem_cons.mpr ⟨lw_p20, List.forall_mem_cons.mpr ⟨lw_p21, List.forall_mem_cons.mpr ⟨lw_p22, List.forall_mem_cons.mpr ⟨lw_p23, List.forall_mem_cons.mpr ⟨lw_p24, List.forall_mem_cons.mpr ⟨lw_p25, List.forall_mem_cons.mpr ⟨lw_p26, List.forall_mem_cons.mpr ⟨lw_p27, List.forall_mem_cons.mpr ⟨lw_p28, List.forall_mem_cons.mpr ⟨lw_p29, List.forall_mem_cons.mpr ⟨lw_p30, List.forall_mem_cons.mpr ⟨lw_p31, fun _ h => absurd h List.not_mem_nil⟩⟩⟩⟩⟩⟩⟩⟩⟩⟩⟩⟩⟩⟩⟩⟩
set_option maxRecDepth 20000 in
theorem lw_p32 : lw_okq (⟨"KeyLetters$Office", "machinesKnowing", "(I)I"⟩, 11) := ⟨⟨by decide +kernel, by decide +kernel⟩, List.mem_of_getElem? (i := 97) rfl, List.mem_of_getElem? (i := 680) rfl, List.mem_of_getElem? (i := 681) rfl⟩
set_option maxRecDepth 20000 in
theorem lw_p33 : lw_okq (⟨"KeyLetters$State", "debtOf", "(II)I"⟩, 9) := ⟨⟨by decide +kernel, by decide +kernel⟩, List.mem_of_getElem? (i := 161) rfl, List.mem_of_getElem? (i := 689) rfl, List.mem_of_getElem? (i := 690) rfl⟩
set_option maxRecDepth 20000 in
theorem lw_p34 : lw_okq (⟨"KeyLetters", "doOne", "(III)I"⟩, 19) := ⟨⟨by decide +kernel, by decide +kernel⟩, List.mem_of_getElem? (i := 33) rfl, List.mem_of_getElem? (i := 704) rfl, List.mem_of_getElem? (i := 705) rfl⟩
set_option maxRecDepth 20000 in
theorem lw_p35 : lw_okq (⟨"KeyLetters$State", "whyNot", "(LKeyLetters$Office;III)I"⟩, 9) := ⟨⟨by decide +kernel, by decide +kernel⟩, List.mem_of_getElem? (i := 161) rfl, List.mem_of_getElem? (i := 708) rfl, List.mem_of_getElem? (i := 709) rfl⟩
set_option maxRecDepth 20000 in
theorem lw_p36 : lw_okq (⟨"KeyLetters$State", "owesBothWays", "()Z"⟩, 9) := ⟨⟨by decide +kernel, by decide +kernel⟩, List.mem_of_getElem? (i := 161) rfl, List.mem_of_getElem? (i := 712) rfl, List.mem_of_getElem? (i := 713) rfl⟩
set_option maxRecDepth 20000 in
theorem lw_p37 : lw_okq (⟨"KeyLetters$State", "daysLeft", "()I"⟩, 9) := ⟨⟨by decide +kernel, by decide +kernel⟩, List.mem_of_getElem? (i := 161) rfl, List.mem_of_getElem? (i := 717) rfl, List.mem_of_getElem? (i := 718) rfl⟩
set_option maxRecDepth 20000 in
theorem lw_p38 : lw_okq (⟨"KeyLetters$State", "whyNotWrite", "(LKeyLetters$Office;II)I"⟩, 9) := ⟨⟨by decide +kernel, by decide +kernel⟩, List.mem_of_getElem? (i := 161) rfl, List.mem_of_getElem? (i := 722) rfl, List.mem_of_getElem? (i := 723) rfl⟩
set_option maxRecDepth 20000 in
theorem lw_p39 : lw_okq (⟨"KeyLetters$State", "isHeld", "(I)Z"⟩, 9) := ⟨⟨by decide +kernel, by decide +kernel⟩, List.mem_of_getElem? (i := 161) rfl, List.mem_of_getElem? (i := 727) rfl, List.mem_of_getElem? (i := 728) rfl⟩
set_option maxRecDepth 20000 in
theorem lw_p40 : lw_okq (⟨"KeyLetters$History", "keep", "(LKeyLetters$State;)V"⟩, 3) := ⟨⟨by decide +kernel, by decide +kernel⟩, List.mem_of_getElem? (i := 251) rfl, List.mem_of_getElem? (i := 734) rfl, List.mem_of_getElem? (i := 735) rfl⟩
set_option maxRecDepth 20000 in
theorem lw_p41 : lw_okq (⟨"KeyLetters$State", "copyFrom", "(LKeyLetters$State;)V"⟩, 9) := ⟨⟨by decide +kernel, by decide +kernel⟩, List.mem_of_getElem? (i := 161) rfl, List.mem_of_getElem? (i := 738) rfl, List.mem_of_getElem? (i := 739) rfl⟩
set_option maxRecDepth 20000 in
theorem lw_p42 : lw_okq (⟨"KeyLetters$State", "perform", "(LKeyLetters$Office;III)V"⟩, 9) := ⟨⟨by decide +kernel, by decide +kernel⟩, List.mem_of_getElem? (i := 161) rfl, List.mem_of_getElem? (i := 743) rfl, List.mem_of_getElem? (i := 744) rfl⟩
set_option maxRecDepth 20000 in
theorem lw_p43 : lw_okq (⟨"KeyLetters$State", "settle", "()V"⟩, 9) := ⟨⟨by decide +kernel, by decide +kernel⟩, List.mem_of_getElem? (i := 161) rfl, List.mem_of_getElem? (i := 747) rfl, List.mem_of_getElem? (i := 748) rfl⟩
set_option maxRecDepth 20000 in
theorem lw_p44 : lw_okq (⟨"KeyLetters$State", "setDebt", "(III)V"⟩, 9) := ⟨⟨by decide +kernel, by decide +kernel⟩, List.mem_of_getElem? (i := 161) rfl, List.mem_of_getElem? (i := 752) rfl, List.mem_of_getElem? (i := 753) rfl⟩
set_option maxRecDepth 20000 in
theorem lw_p45 : lw_okq (⟨"KeyLetters$State", "put", "(LKeyLetters$Office;II)V"⟩, 9) := ⟨⟨by decide +kernel, by decide +kernel⟩, List.mem_of_getElem? (i := 161) rfl, List.mem_of_getElem? (i := 756) rfl, List.mem_of_getElem? (i := 757) rfl⟩
set_option maxRecDepth 20000 in
theorem lw_p46 : lw_okq (⟨"KeyLetters$State", "passDays", "(LKeyLetters$Office;I)V"⟩, 9) := ⟨⟨by decide +kernel, by decide +kernel⟩, List.mem_of_getElem? (i := 161) rfl, List.mem_of_getElem? (i := 785) rfl, List.mem_of_getElem? (i := 786) rfl⟩
set_option maxRecDepth 20000 in
theorem lw_p47 : lw_okq (⟨"KeyLetters$State", "passDay", "(LKeyLetters$Office;)Z"⟩, 9) := ⟨⟨by decide +kernel, by decide +kernel⟩, List.mem_of_getElem? (i := 161) rfl, List.mem_of_getElem? (i := 789) rfl, List.mem_of_getElem? (i := 790) rfl⟩
def lw_privs_3 : List (MethodName × Nat) := [(⟨"KeyLetters$Office", "machinesKnowing", "(I)I"⟩, 11), (⟨"KeyLetters$State", "debtOf", "(II)I"⟩, 9), (⟨"KeyLetters", "doOne", "(III)I"⟩, 19), (⟨"KeyLetters$State", "whyNot", "(LKeyLetters$Office;III)I"⟩, 9), (⟨"KeyLetters$State", "owesBothWays", "()Z"⟩, 9), (⟨"KeyLetters$State", "daysLeft", "()I"⟩, 9), (⟨"KeyLetters$State", "whyNotWrite", "(LKeyLetters$Office;II)I"⟩, 9), (⟨"KeyLetters$State", "isHeld", "(I)Z"⟩, 9), (⟨"KeyLetters$History", "keep", "(LKeyLetters$State;)V"⟩, 3), (⟨"KeyLetters$State", "copyFrom", "(LKeyLetters$State;)V"⟩, 9), (⟨"KeyLetters$State", "perform", "(LKeyLetters$Office;III)V"⟩, 9), (⟨"KeyLetters$State", "settle", "()V"⟩, 9), (⟨"KeyLetters$State", "setDebt", "(III)V"⟩, 9), (⟨"KeyLetters$State", "put", "(LKeyLetters$Office;II)V"⟩, 9), (⟨"KeyLetters$State", "passDays", "(LKeyLetters$Office;I)V"⟩, 9), (⟨"KeyLetters$State", "passDay", "(LKeyLetters$Office;)Z"⟩, 9)]
theorem lw_r3 : ∀ q ∈ lw_privs_3, lw_okq q := List.forall_mem_cons.mpr ⟨lw_p32, List.forall_mem_cons.mpr ⟨lw_p33, List.forall_mem_cons.mpr ⟨lw_p34, List.forall_mem_cons.mpr ⟨lw_p35, List.forall_mem_cons.mpr ⟨lw_p36, List.forall_mem_cons.mpr ⟨lw_p37, List.forall_mem_cons.mpr ⟨lw_p38, List.forall_mem_cons.mpr ⟨lw_p39, List.forall_mem_cons.mpr ⟨lw_p40, List.forall_mem_cons.mpr ⟨lw_p41, List.forall_mem_cons.mpr ⟨lw_p42, List.forall_mem_cons.mpr ⟨lw_p43, List.forall_mem_cons.mpr ⟨lw_p44, List.forall_mem_cons.mpr ⟨lw_p45, List.forall_mem_cons.mpr ⟨lw_p46, List.forall_mem_cons.mpr ⟨lw_p47, fun _ h => absurd h List.not_mem_nil⟩⟩⟩⟩⟩⟩⟩⟩⟩⟩⟩⟩⟩⟩⟩⟩
set_option maxRecDepth 20000 in
theorem lw_p48 : lw_okq (⟨"KeyLetters$State", "writeByTurn", "(LKeyLetters$Office;)Z"⟩, 9) := ⟨⟨by decide +kernel, by decide +kernel⟩, List.mem_of_getElem? (i := 161) rfl, List.mem_of_getElem? (i := 793) rfl, List.mem_of_getElem? (i := 794) rfl⟩
set_option maxRecDepth 20000 in
theorem lw_p49 : lw_okq (⟨"KeyLetters$History", "takeBack", "(LKeyLetters$State;)Z"⟩, 3) := ⟨⟨by decide +kernel, by decide +kernel⟩, List.mem_of_getElem? (i := 251) rfl, List.mem_of_getElem? (i := 801) rfl, List.mem_of_getElem? (i := 802) rfl⟩
set_option maxRecDepth 20000 in
theorem lw_p50 : lw_okq (⟨"KeyLetters$Route", "find", "(LKeyLetters$Office;LKeyLetters$State;I)I"⟩, 4) := ⟨⟨by decide +kernel, by decide +kernel⟩, List.mem_of_getElem? (i := 316) rfl, List.mem_of_getElem? (i := 809) rfl, List.mem_of_getElem? (i := 810) rfl⟩
set_option maxRecDepth 20000 in
theorem lw_p51 : lw_okq (⟨"KeyLetters$Route", "measure", "(LKeyLetters$Office;LKeyLetters$State;I)V"⟩, 4) := ⟨⟨by decide +kernel, by decide +kernel⟩, List.mem_of_getElem? (i := 316) rfl, List.mem_of_getElem? (i := 813) rfl, List.mem_of_getElem? (i := 814) rfl⟩
set_option maxRecDepth 20000 in
theorem lw_p52 : lw_okq (⟨"KeyLetters$Route", "nearest", "(LKeyLetters$Office;II)I"⟩, 4) := ⟨⟨by decide +kernel, by decide +kernel⟩, List.mem_of_getElem? (i := 316) rfl, List.mem_of_getElem? (i := 826) rfl, List.mem_of_getElem? (i := 827) rfl⟩
set_option maxRecDepth 20000 in
theorem lw_p53 : lw_okq (⟨"KeyLetters", "tellsPhrases", "(I)Z"⟩, 19) := ⟨⟨by decide +kernel, by decide +kernel⟩, List.mem_of_getElem? (i := 33) rfl, List.mem_of_getElem? (i := 844) rfl, List.mem_of_getElem? (i := 845) rfl⟩
set_option maxRecDepth 20000 in
theorem lw_p54 : lw_okq (⟨"KeyLetters$Rows", "measure", "(LKeyLetters$Office;[II)I"⟩, 5) := ⟨⟨by decide +kernel, by decide +kernel⟩, List.mem_of_getElem? (i := 337) rfl, List.mem_of_getElem? (i := 848) rfl, List.mem_of_getElem? (i := 849) rfl⟩
set_option maxRecDepth 20000 in
theorem lw_p55 : lw_okq (⟨"KeyLetters$Rows", "keepFirst", "()V"⟩, 5) := ⟨⟨by decide +kernel, by decide +kernel⟩, List.mem_of_getElem? (i := 337) rfl, List.mem_of_getElem? (i := 857) rfl, List.mem_of_getElem? (i := 858) rfl⟩
set_option maxRecDepth 20000 in
theorem lw_p56 : lw_okq (⟨"KeyLetters$Rows", "keepAskPlace", "()V"⟩, 5) := ⟨⟨by decide +kernel, by decide +kernel⟩, List.mem_of_getElem? (i := 337) rfl, List.mem_of_getElem? (i := 861) rfl, List.mem_of_getElem? (i := 862) rfl⟩
set_option maxRecDepth 20000 in
theorem lw_p57 : lw_okq (⟨"KeyLetters", "tellsFaintLetters", "(I)Z"⟩, 19) := ⟨⟨by decide +kernel, by decide +kernel⟩, List.mem_of_getElem? (i := 33) rfl, List.mem_of_getElem? (i := 891) rfl, List.mem_of_getElem? (i := 892) rfl⟩
set_option maxRecDepth 20000 in
theorem lw_p58 : lw_okq (⟨"KeyLetters", "fits", "(JI)Z"⟩, 19) := ⟨⟨by decide +kernel, by decide +kernel⟩, List.mem_of_getElem? (i := 33) rfl, List.mem_of_getElem? (i := 898) rfl, List.mem_of_getElem? (i := 899) rfl⟩
set_option maxRecDepth 20000 in
theorem lw_p59 : lw_okq (⟨"KeyLetters", "placeToLook", "(II)I"⟩, 19) := ⟨⟨by decide +kernel, by decide +kernel⟩, List.mem_of_getElem? (i := 33) rfl, List.mem_of_getElem? (i := 905) rfl, List.mem_of_getElem? (i := 906) rfl⟩
set_option maxRecDepth 20000 in
theorem lw_p60 : lw_okq (⟨"KeyLetters", "mostAlikeAt", "(II)I"⟩, 19) := ⟨⟨by decide +kernel, by decide +kernel⟩, List.mem_of_getElem? (i := 33) rfl, List.mem_of_getElem? (i := 909) rfl, List.mem_of_getElem? (i := 910) rfl⟩
set_option maxRecDepth 20000 in
theorem lw_p61 : lw_okq (⟨"KeyLetters", "appendName", "(J)V"⟩, 19) := ⟨⟨by decide +kernel, by decide +kernel⟩, List.mem_of_getElem? (i := 33) rfl, List.mem_of_getElem? (i := 985) rfl, List.mem_of_getElem? (i := 986) rfl⟩
set_option maxRecDepth 20000 in
theorem lw_p62 : lw_okq (⟨"KeyLetters$State", "drawDays", "(LKeyLetters$Office;LKeyLetters$Dice;I)V"⟩, 9) := ⟨⟨by decide +kernel, by decide +kernel⟩, List.mem_of_getElem? (i := 161) rfl, List.mem_of_getElem? (i := 1117) rfl, List.mem_of_getElem? (i := 1118) rfl⟩
set_option maxRecDepth 20000 in
theorem lw_p63 : lw_okq (⟨"KeyLetters$State", "drawAct", "(LKeyLetters$Office;LKeyLetters$Dice;)V"⟩, 9) := ⟨⟨by decide +kernel, by decide +kernel⟩, List.mem_of_getElem? (i := 161) rfl, List.mem_of_getElem? (i := 1121) rfl, List.mem_of_getElem? (i := 1122) rfl⟩
def lw_privs_4 : List (MethodName × Nat) := [(⟨"KeyLetters$State", "writeByTurn", "(LKeyLetters$Office;)Z"⟩, 9), (⟨"KeyLetters$History", "takeBack", "(LKeyLetters$State;)Z"⟩, 3), (⟨"KeyLetters$Route", "find", "(LKeyLetters$Office;LKeyLetters$State;I)I"⟩, 4), (⟨"KeyLetters$Route", "measure", "(LKeyLetters$Office;LKeyLetters$State;I)V"⟩, 4), (⟨"KeyLetters$Route", "nearest", "(LKeyLetters$Office;II)I"⟩, 4), (⟨"KeyLetters", "tellsPhrases", "(I)Z"⟩, 19), (⟨"KeyLetters$Rows", "measure", "(LKeyLetters$Office;[II)I"⟩, 5), (⟨"KeyLetters$Rows", "keepFirst", "()V"⟩, 5), (⟨"KeyLetters$Rows", "keepAskPlace", "()V"⟩, 5), (⟨"KeyLetters", "tellsFaintLetters", "(I)Z"⟩, 19), (⟨"KeyLetters", "fits", "(JI)Z"⟩, 19), (⟨"KeyLetters", "placeToLook", "(II)I"⟩, 19), (⟨"KeyLetters", "mostAlikeAt", "(II)I"⟩, 19), (⟨"KeyLetters", "appendName", "(J)V"⟩, 19), (⟨"KeyLetters$State", "drawDays", "(LKeyLetters$Office;LKeyLetters$Dice;I)V"⟩, 9), (⟨"KeyLetters$State", "drawAct", "(LKeyLetters$Office;LKeyLetters$Dice;)V"⟩, 9)]
theorem lw_r4 : ∀ q ∈ lw_privs_4, lw_okq q := List.forall_mem_cons.mpr ⟨lw_p48, List.forall_mem_cons.mpr ⟨lw_p49, List.forall_mem_cons.mpr ⟨lw_p50, List.forall_mem_cons.mpr ⟨lw_p51, List.forall_mem_cons.mpr ⟨lw_p52, List.forall_mem_cons.mpr ⟨lw_p53, List.forall_mem_cons.mpr ⟨lw_p54, List.forall_mem_cons.mpr ⟨lw_p55, List.forall_mem_cons.mpr ⟨lw_p56, List.forall_mem_cons.mpr ⟨lw_p57, List.forall_mem_cons.mpr ⟨lw_p58, List.forall_mem_cons.mpr ⟨lw_p59, List.forall_mem_cons.mpr ⟨lw_p60, List.forall_mem_cons.mpr ⟨lw_p61, List.forall_mem_cons.mpr ⟨lw_p62, List.forall_mem_cons.mpr ⟨lw_p63, fun _ h => absurd h List.not_mem_nil⟩⟩⟩⟩⟩⟩⟩⟩⟩⟩⟩⟩⟩⟩⟩⟩
set_option maxRecDepth 20000 in
theorem lw_p64 : lw_okq (⟨"KeyLetters$Dice", "draw", "(I)I"⟩, 1) := ⟨⟨by decide +kernel, by decide +kernel⟩, List.mem_of_getElem? (i := 305) rfl, List.mem_of_getElem? (i := 1125) rfl, List.mem_of_getElem? (i := 1126) rfl⟩
set_option maxRecDepth 20000 in
theorem lw_p65 : lw_okq (⟨"KeyLetters$State", "performIfItCan", "(LKeyLetters$Office;III)V"⟩, 9) := ⟨⟨by decide +kernel, by decide +kernel⟩, List.mem_of_getElem? (i := 161) rfl, List.mem_of_getElem? (i := 1130) rfl, List.mem_of_getElem? (i := 1131) rfl⟩
set_option maxRecDepth 20000 in
theorem lw_p66 : lw_okq (⟨"KeyLetters$Book", "read", "(LKeyLetters$Reader;LKeyLetters$Office;)Z"⟩, 6) := ⟨⟨by decide +kernel, by decide +kernel⟩, List.mem_of_getElem? (i := 276) rfl, List.mem_of_getElem? (i := 1144) rfl, List.mem_of_getElem? (i := 1145) rfl⟩
set_option maxRecDepth 20000 in
theorem lw_p67 : lw_okq (⟨"KeyLetters$Book", "readLine", "(LKeyLetters$Reader;LKeyLetters$Office;)Z"⟩, 6) := ⟨⟨by decide +kernel, by decide +kernel⟩, List.mem_of_getElem? (i := 276) rfl, List.mem_of_getElem? (i := 1149) rfl, List.mem_of_getElem? (i := 1150) rfl⟩
set_option maxRecDepth 20000 in
theorem lw_p68 : lw_okq (⟨"KeyLetters$Book", "readMachineAct", "(LKeyLetters$Reader;LKeyLetters$Office;)Z"⟩, 6) := ⟨⟨by decide +kernel, by decide +kernel⟩, List.mem_of_getElem? (i := 276) rfl, List.mem_of_getElem? (i := 1161) rfl, List.mem_of_getElem? (i := 1162) rfl⟩
set_option maxRecDepth 20000 in
theorem lw_p69 : lw_okq (⟨"KeyLetters$Book", "passAct", "(LKeyLetters$Reader;I)Z"⟩, 6) := ⟨⟨by decide +kernel, by decide +kernel⟩, List.mem_of_getElem? (i := 276) rfl, List.mem_of_getElem? (i := 1167) rfl, List.mem_of_getElem? (i := 1168) rfl⟩
set_option maxRecDepth 20000 in
theorem lw_p70 : lw_okq (⟨"KeyLetters$Book", "passPhrase", "(LKeyLetters$Reader;LKeyLetters$Office;)Z"⟩, 6) := ⟨⟨by decide +kernel, by decide +kernel⟩, List.mem_of_getElem? (i := 276) rfl, List.mem_of_getElem? (i := 1171) rfl, List.mem_of_getElem? (i := 1172) rfl⟩
set_option maxRecDepth 20000 in
theorem lw_p71 : lw_okq (⟨"KeyLetters$Book", "keepNumber", "(I)V"⟩, 6) := ⟨⟨by decide +kernel, by decide +kernel⟩, List.mem_of_getElem? (i := 276) rfl, List.mem_of_getElem? (i := 1175) rfl, List.mem_of_getElem? (i := 1176) rfl⟩
set_option maxRecDepth 20000 in
theorem lw_p72 : lw_okq (⟨"KeyLetters$Book", "passNumber", "(LKeyLetters$Reader;I)Z"⟩, 6) := ⟨⟨by decide +kernel, by decide +kernel⟩, List.mem_of_getElem? (i := 276) rfl, List.mem_of_getElem? (i := 1185) rfl, List.mem_of_getElem? (i := 1186) rfl⟩
set_option maxRecDepth 20000 in
theorem lw_p73 : lw_okq (⟨"KeyLetters$Book", "live", "(LKeyLetters$Office;LKeyLetters$State;)V"⟩, 6) := ⟨⟨by decide +kernel, by decide +kernel⟩, List.mem_of_getElem? (i := 276) rfl, List.mem_of_getElem? (i := 1192) rfl, List.mem_of_getElem? (i := 1193) rfl⟩
set_option maxRecDepth 20000 in
theorem lw_p74 : lw_okq (⟨"KeyLetters$Sentence", "read", "(LKeyLetters$Reader;LKeyLetters$Office;)Z"⟩, 6) := ⟨⟨by decide +kernel, by decide +kernel⟩, List.mem_of_getElem? (i := 209) rfl, List.mem_of_getElem? (i := 1207) rfl, List.mem_of_getElem? (i := 1208) rfl⟩
set_option maxRecDepth 20000 in
theorem lw_p75 : lw_okq (⟨"KeyLetters$Sentence", "readCond", "(LKeyLetters$Reader;LKeyLetters$Office;I)Z"⟩, 6) := ⟨⟨by decide +kernel, by decide +kernel⟩, List.mem_of_getElem? (i := 209) rfl, List.mem_of_getElem? (i := 1212) rfl, List.mem_of_getElem? (i := 1213) rfl⟩
set_option maxRecDepth 20000 in
theorem lw_p76 : lw_okq (⟨"KeyLetters$Sentence", "readAll", "(LKeyLetters$Reader;LKeyLetters$Office;I)Z"⟩, 6) := ⟨⟨by decide +kernel, by decide +kernel⟩, List.mem_of_getElem? (i := 209) rfl, List.mem_of_getElem? (i := 1216) rfl, List.mem_of_getElem? (i := 1217) rfl⟩
set_option maxRecDepth 20000 in
theorem lw_p77 : lw_okq (⟨"KeyLetters$Sentence", "readOne", "(LKeyLetters$Reader;LKeyLetters$Office;I)Z"⟩, 6) := ⟨⟨by decide +kernel, by decide +kernel⟩, List.mem_of_getElem? (i := 209) rfl, List.mem_of_getElem? (i := 1220) rfl, List.mem_of_getElem? (i := 1221) rfl⟩
set_option maxRecDepth 20000 in
theorem lw_p78 : lw_okq (⟨"KeyLetters$Sentence", "keepWord", "(LKeyLetters$Word;II)Z"⟩, 6) := ⟨⟨by decide +kernel, by decide +kernel⟩, List.mem_of_getElem? (i := 209) rfl, List.mem_of_getElem? (i := 1230) rfl, List.mem_of_getElem? (i := 1231) rfl⟩
set_option maxRecDepth 20000 in
theorem lw_p79 : lw_okq (⟨"KeyLetters$Sentence", "readNamed", "(LKeyLetters$Reader;LKeyLetters$Word;[JI)Z"⟩, 6) := ⟨⟨by decide +kernel, by decide +kernel⟩, List.mem_of_getElem? (i := 209) rfl, List.mem_of_getElem? (i := 1236) rfl, List.mem_of_getElem? (i := 1237) rfl⟩
def lw_privs_5 : List (MethodName × Nat) := [(⟨"KeyLetters$Dice", "draw", "(I)I"⟩, 1), (⟨"KeyLetters$State", "performIfItCan", "(LKeyLetters$Office;III)V"⟩, 9), (⟨"KeyLetters$Book", "read", "(LKeyLetters$Reader;LKeyLetters$Office;)Z"⟩, 6), (⟨"KeyLetters$Book", "readLine", "(LKeyLetters$Reader;LKeyLetters$Office;)Z"⟩, 6), (⟨"KeyLetters$Book", "readMachineAct", "(LKeyLetters$Reader;LKeyLetters$Office;)Z"⟩, 6), (⟨"KeyLetters$Book", "passAct", "(LKeyLetters$Reader;I)Z"⟩, 6), (⟨"KeyLetters$Book", "passPhrase", "(LKeyLetters$Reader;LKeyLetters$Office;)Z"⟩, 6), (⟨"KeyLetters$Book", "keepNumber", "(I)V"⟩, 6), (⟨"KeyLetters$Book", "passNumber", "(LKeyLetters$Reader;I)Z"⟩, 6), (⟨"KeyLetters$Book", "live", "(LKeyLetters$Office;LKeyLetters$State;)V"⟩, 6), (⟨"KeyLetters$Sentence", "read", "(LKeyLetters$Reader;LKeyLetters$Office;)Z"⟩, 6), (⟨"KeyLetters$Sentence", "readCond", "(LKeyLetters$Reader;LKeyLetters$Office;I)Z"⟩, 6), (⟨"KeyLetters$Sentence", "readAll", "(LKeyLetters$Reader;LKeyLetters$Office;I)Z"⟩, 6), (⟨"KeyLetters$Sentence", "readOne", "(LKeyLetters$Reader;LKeyLetters$Office;I)Z"⟩, 6), (⟨"KeyLetters$Sentence", "keepWord", "(LKeyLetters$Word;II)Z"⟩, 6), (⟨"KeyLetters$Sentence", "readNamed", "(LKeyLetters$Reader;LKeyLetters$Word;[JI)Z"⟩, 6)]
theorem lw_r5 : ∀ q ∈ lw_privs_5, lw_okq q := List.forall_mem_cons.mpr ⟨lw_p64, List.forall_mem_cons.mpr ⟨lw_p65, List.forall_mem_cons.mpr ⟨lw_p66, List.forall_mem_cons.mpr ⟨lw_p67, List.forall_mem_cons.mpr ⟨lw_p68, List.forall_mem_cons.mpr ⟨lw_p69, List.forall_mem_cons.mpr ⟨lw_p70, List.forall_mem_cons.mpr ⟨lw_p71, List.forall_mem_cons.mpr ⟨lw_p72, List.forall_mem_cons.mpr ⟨lw_p73, List.forall_mem_cons.mpr ⟨lw_p74, List.forall_mem_cons.mpr ⟨lw_p75, List.forall_mem_cons.mpr ⟨lw_p76, List.forall_mem_cons.mpr ⟨lw_p77, List.forall_mem_cons.mpr ⟨lw_p78, List.forall_mem_cons.mpr ⟨lw_p79, fun _ h => absurd h List.not_mem_nil⟩⟩⟩⟩⟩⟩⟩⟩⟩⟩⟩⟩⟩⟩⟩⟩
set_option maxRecDepth 20000 in
theorem lw_p80 : lw_okq (⟨"KeyLetters$Sentence", "readComparison", "(LKeyLetters$Reader;LKeyLetters$Word;)Z"⟩, 6) := ⟨⟨by decide +kernel, by decide +kernel⟩, List.mem_of_getElem? (i := 209) rfl, List.mem_of_getElem? (i := 1249) rfl, List.mem_of_getElem? (i := 1250) rfl⟩
set_option maxRecDepth 20000 in
theorem lw_p81 : lw_okq (⟨"KeyLetters$Sentence", "copyFrom", "(LKeyLetters$Sentence;)V"⟩, 6) := ⟨⟨by decide +kernel, by decide +kernel⟩, List.mem_of_getElem? (i := 209) rfl, List.mem_of_getElem? (i := 1260) rfl, List.mem_of_getElem? (i := 1261) rfl⟩
set_option maxRecDepth 20000 in
theorem lw_p82 : lw_okq (⟨"KeyLetters$Sentence", "isTold", "()Z"⟩, 6) := ⟨⟨by decide +kernel, by decide +kernel⟩, List.mem_of_getElem? (i := 209) rfl, List.mem_of_getElem? (i := 1268) rfl, List.mem_of_getElem? (i := 1269) rfl⟩
set_option maxRecDepth 20000 in
theorem lw_p83 : lw_okq (⟨"KeyLetters$Sentence", "machinesOf", "(LKeyLetters$Office;LKeyLetters$State;)I"⟩, 6) := ⟨⟨by decide +kernel, by decide +kernel⟩, List.mem_of_getElem? (i := 209) rfl, List.mem_of_getElem? (i := 1272) rfl, List.mem_of_getElem? (i := 1273) rfl⟩
set_option maxRecDepth 20000 in
theorem lw_p84 : lw_okq (⟨"KeyLetters$Sentence", "machinesOfPlain", "(ILKeyLetters$Office;LKeyLetters$State;)I"⟩, 6) := ⟨⟨by decide +kernel, by decide +kernel⟩, List.mem_of_getElem? (i := 209) rfl, List.mem_of_getElem? (i := 1276) rfl, List.mem_of_getElem? (i := 1277) rfl⟩
set_option maxRecDepth 20000 in
theorem lw_p85 : lw_okq (⟨"KeyLetters$Sentence", "isSo", "(IILKeyLetters$Office;LKeyLetters$State;)Z"⟩, 6) := ⟨⟨by decide +kernel, by decide +kernel⟩, List.mem_of_getElem? (i := 209) rfl, List.mem_of_getElem? (i := 1280) rfl, List.mem_of_getElem? (i := 1281) rfl⟩
set_option maxRecDepth 20000 in
theorem lw_p86 : lw_okq (⟨"KeyLetters$State", "phrasesAble", "(LKeyLetters$Office;I)I"⟩, 9) := ⟨⟨by decide +kernel, by decide +kernel⟩, List.mem_of_getElem? (i := 161) rfl, List.mem_of_getElem? (i := 1292) rfl, List.mem_of_getElem? (i := 1293) rfl⟩
set_option maxRecDepth 20000 in
theorem lw_p87 : lw_okq (⟨"KeyLetters$Scene", "copyFrom", "(LKeyLetters$Scene;)V"⟩, 3) := ⟨⟨by decide +kernel, by decide +kernel⟩, List.mem_of_getElem? (i := 91) rfl, List.mem_of_getElem? (i := 1311) rfl, List.mem_of_getElem? (i := 1312) rfl⟩
set_option maxRecDepth 20000 in
theorem lw_p88 : lw_okq (⟨"java/lang/Throwable", "fillInStackTrace", "(I)Ljava/lang/Throwable;"⟩, 6) := ⟨⟨by decide +kernel, by decide +kernel⟩, List.mem_of_getElem? (i := 1369) rfl, List.mem_of_getElem? (i := 1367) rfl, List.mem_of_getElem? (i := 1368) rfl⟩
set_option maxRecDepth 20000 in
theorem lw_p89 : lw_okq (⟨"KeyLetters$State", "owedBy", "(I)I"⟩, 9) := ⟨⟨by decide +kernel, by decide +kernel⟩, List.mem_of_getElem? (i := 161) rfl, List.mem_of_getElem? (i := 1395) rfl, List.mem_of_getElem? (i := 1396) rfl⟩
set_option maxRecDepth 20000 in
theorem lw_p90 : lw_okq (⟨"KeyLetters$State", "owedTo", "(I)I"⟩, 9) := ⟨⟨by decide +kernel, by decide +kernel⟩, List.mem_of_getElem? (i := 161) rfl, List.mem_of_getElem? (i := 1399) rfl, List.mem_of_getElem? (i := 1400) rfl⟩
set_option maxRecDepth 20000 in
theorem lw_p91 : lw_okq (⟨"KeyLettersModel", "four", "(I)V"⟩, 49) := ⟨⟨by decide +kernel, by decide +kernel⟩, List.mem_of_getElem? (i := 1420) rfl, List.mem_of_getElem? (i := 1418) rfl, List.mem_of_getElem? (i := 1419) rfl⟩
set_option maxRecDepth 20000 in
theorem lw_p92 : lw_okq (⟨"KeyLettersModel", "clears", "()V"⟩, 49) := ⟨⟨by decide +kernel, by decide +kernel⟩, List.mem_of_getElem? (i := 1420) rfl, List.mem_of_getElem? (i := 1453) rfl, List.mem_of_getElem? (i := 1454) rfl⟩
set_option maxRecDepth 20000 in
theorem lw_p93 : lw_okq (⟨"KeyLettersModel", "taken", "(I)V"⟩, 49) := ⟨⟨by decide +kernel, by decide +kernel⟩, List.mem_of_getElem? (i := 1420) rfl, List.mem_of_getElem? (i := 1609) rfl, List.mem_of_getElem? (i := 1610) rfl⟩
set_option maxRecDepth 20000 in
theorem lw_p94 : lw_okq (⟨"KeyLettersModel", "next", "()V"⟩, 49) := ⟨⟨by decide +kernel, by decide +kernel⟩, List.mem_of_getElem? (i := 1420) rfl, List.mem_of_getElem? (i := 1613) rfl, List.mem_of_getElem? (i := 1614) rfl⟩
set_option maxRecDepth 20000 in
theorem lw_p95 : lw_okq (⟨"KeyLettersModel", "peek", "()I"⟩, 49) := ⟨⟨by decide +kernel, by decide +kernel⟩, List.mem_of_getElem? (i := 1420) rfl, List.mem_of_getElem? (i := 1617) rfl, List.mem_of_getElem? (i := 1618) rfl⟩
def lw_privs_6 : List (MethodName × Nat) := [(⟨"KeyLetters$Sentence", "readComparison", "(LKeyLetters$Reader;LKeyLetters$Word;)Z"⟩, 6), (⟨"KeyLetters$Sentence", "copyFrom", "(LKeyLetters$Sentence;)V"⟩, 6), (⟨"KeyLetters$Sentence", "isTold", "()Z"⟩, 6), (⟨"KeyLetters$Sentence", "machinesOf", "(LKeyLetters$Office;LKeyLetters$State;)I"⟩, 6), (⟨"KeyLetters$Sentence", "machinesOfPlain", "(ILKeyLetters$Office;LKeyLetters$State;)I"⟩, 6), (⟨"KeyLetters$Sentence", "isSo", "(IILKeyLetters$Office;LKeyLetters$State;)Z"⟩, 6), (⟨"KeyLetters$State", "phrasesAble", "(LKeyLetters$Office;I)I"⟩, 9), (⟨"KeyLetters$Scene", "copyFrom", "(LKeyLetters$Scene;)V"⟩, 3), (⟨"java/lang/Throwable", "fillInStackTrace", "(I)Ljava/lang/Throwable;"⟩, 6), (⟨"KeyLetters$State", "owedBy", "(I)I"⟩, 9), (⟨"KeyLetters$State", "owedTo", "(I)I"⟩, 9), (⟨"KeyLettersModel", "four", "(I)V"⟩, 49), (⟨"KeyLettersModel", "clears", "()V"⟩, 49), (⟨"KeyLettersModel", "taken", "(I)V"⟩, 49), (⟨"KeyLettersModel", "next", "()V"⟩, 49), (⟨"KeyLettersModel", "peek", "()I"⟩, 49)]
theorem lw_r6 : ∀ q ∈ lw_privs_6, lw_okq q := List.forall_mem_cons.mpr ⟨lw_p80, List.forall_mem_cons.mpr ⟨lw_p81, List.forall_mem_cons.mpr ⟨lw_p82, List.forall_mem_cons.mpr ⟨lw_p83, List.forall_mem_cons.mpr ⟨lw_p84, List.forall_mem_cons.mpr ⟨lw_p85, List.forall_mem_cons.mpr ⟨lw_p86, List.forall_mem_cons.mpr ⟨lw_p87, List.forall_mem_cons.mpr ⟨lw_p88, List.forall_mem_cons.mpr ⟨lw_p89, List.forall_mem_cons.mpr ⟨lw_p90, List.forall_mem_cons.mpr ⟨lw_p91, List.forall_mem_cons.mpr ⟨lw_p92, List.forall_mem_cons.mpr ⟨lw_p93, List.forall_mem_cons.mpr ⟨lw_p94, List.forall_mem_cons.mpr ⟨lw_p95, fun _ h => absurd h List.not_mem_nil⟩⟩⟩⟩⟩⟩⟩⟩⟩⟩⟩⟩⟩⟩⟩⟩
set_option maxRecDepth 20000 in
theorem lw_p96 : lw_okq (⟨"KeyLettersModel", "readLine", "()Z"⟩, 49) := ⟨⟨by decide +kernel, by decide +kernel⟩, List.mem_of_getElem? (i := 1420) rfl, List.mem_of_getElem? (i := 1627) rfl, List.mem_of_getElem? (i := 1628) rfl⟩
set_option maxRecDepth 20000 in
theorem lw_p97 : lw_okq (⟨"KeyLettersModel", "isWord", "(J)Z"⟩, 49) := ⟨⟨by decide +kernel, by decide +kernel⟩, List.mem_of_getElem? (i := 1420) rfl, List.mem_of_getElem? (i := 1631) rfl, List.mem_of_getElem? (i := 1632) rfl⟩
set_option maxRecDepth 20000 in
theorem lw_p98 : lw_okq (⟨"KeyLettersModel", "readMachine", "()Z"⟩, 49) := ⟨⟨by decide +kernel, by decide +kernel⟩, List.mem_of_getElem? (i := 1420) rfl, List.mem_of_getElem? (i := 1635) rfl, List.mem_of_getElem? (i := 1636) rfl⟩
set_option maxRecDepth 20000 in
theorem lw_p99 : lw_okq (⟨"KeyLettersModel", "bad", "(I)Z"⟩, 49) := ⟨⟨by decide +kernel, by decide +kernel⟩, List.mem_of_getElem? (i := 1420) rfl, List.mem_of_getElem? (i := 1639) rfl, List.mem_of_getElem? (i := 1640) rfl⟩
set_option maxRecDepth 20000 in
theorem lw_p100 : lw_okq (⟨"KeyLettersModel", "fresh", "(I)Z"⟩, 49) := ⟨⟨by decide +kernel, by decide +kernel⟩, List.mem_of_getElem? (i := 1420) rfl, List.mem_of_getElem? (i := 1643) rfl, List.mem_of_getElem? (i := 1644) rfl⟩
set_option maxRecDepth 20000 in
theorem lw_p101 : lw_okq (⟨"KeyLettersModel", "isName", "()Z"⟩, 49) := ⟨⟨by decide +kernel, by decide +kernel⟩, List.mem_of_getElem? (i := 1420) rfl, List.mem_of_getElem? (i := 1647) rfl, List.mem_of_getElem? (i := 1648) rfl⟩
set_option maxRecDepth 20000 in
theorem lw_p102 : lw_okq (⟨"KeyLettersModel", "seek", "(II)I"⟩, 49) := ⟨⟨by decide +kernel, by decide +kernel⟩, List.mem_of_getElem? (i := 1420) rfl, List.mem_of_getElem? (i := 1651) rfl, List.mem_of_getElem? (i := 1652) rfl⟩
set_option maxRecDepth 20000 in
theorem lw_p103 : lw_okq (⟨"KeyLettersModel", "puts", "(III)Z"⟩, 49) := ⟨⟨by decide +kernel, by decide +kernel⟩, List.mem_of_getElem? (i := 1420) rfl, List.mem_of_getElem? (i := 1655) rfl, List.mem_of_getElem? (i := 1656) rfl⟩
set_option maxRecDepth 20000 in
theorem lw_p104 : lw_okq (⟨"KeyLettersModel", "takes", "(II)Z"⟩, 49) := ⟨⟨by decide +kernel, by decide +kernel⟩, List.mem_of_getElem? (i := 1420) rfl, List.mem_of_getElem? (i := 1659) rfl, List.mem_of_getElem? (i := 1660) rfl⟩
set_option maxRecDepth 20000 in
theorem lw_p105 : lw_okq (⟨"KeyLettersModel", "readPhrase", "()Z"⟩, 49) := ⟨⟨by decide +kernel, by decide +kernel⟩, List.mem_of_getElem? (i := 1420) rfl, List.mem_of_getElem? (i := 1666) rfl, List.mem_of_getElem? (i := 1667) rfl⟩
set_option maxRecDepth 20000 in
theorem lw_p106 : lw_okq (⟨"KeyLettersModel", "readKnows", "()Z"⟩, 49) := ⟨⟨by decide +kernel, by decide +kernel⟩, List.mem_of_getElem? (i := 1420) rfl, List.mem_of_getElem? (i := 1670) rfl, List.mem_of_getElem? (i := 1671) rfl⟩
set_option maxRecDepth 20000 in
theorem lw_p107 : lw_okq (⟨"KeyLettersModel", "takesName", "(II)Z"⟩, 49) := ⟨⟨by decide +kernel, by decide +kernel⟩, List.mem_of_getElem? (i := 1420) rfl, List.mem_of_getElem? (i := 1674) rfl, List.mem_of_getElem? (i := 1675) rfl⟩
set_option maxRecDepth 20000 in
theorem lw_p108 : lw_okq (⟨"KeyLettersModel", "looksAt", "(II)Z"⟩, 49) := ⟨⟨by decide +kernel, by decide +kernel⟩, List.mem_of_getElem? (i := 1420) rfl, List.mem_of_getElem? (i := 1678) rfl, List.mem_of_getElem? (i := 1679) rfl⟩
set_option maxRecDepth 20000 in
theorem lw_p109 : lw_okq (⟨"KeyLettersModel", "readAnswers", "()Z"⟩, 49) := ⟨⟨by decide +kernel, by decide +kernel⟩, List.mem_of_getElem? (i := 1420) rfl, List.mem_of_getElem? (i := 1685) rfl, List.mem_of_getElem? (i := 1686) rfl⟩
set_option maxRecDepth 20000 in
theorem lw_p110 : lw_okq (⟨"KeyLettersModel", "sign", "(I)Z"⟩, 49) := ⟨⟨by decide +kernel, by decide +kernel⟩, List.mem_of_getElem? (i := 1420) rfl, List.mem_of_getElem? (i := 1689) rfl, List.mem_of_getElem? (i := 1690) rfl⟩
set_option maxRecDepth 20000 in
theorem lw_p111 : lw_okq (⟨"KeyLettersModel", "isSign", "(I)Z"⟩, 49) := ⟨⟨by decide +kernel, by decide +kernel⟩, List.mem_of_getElem? (i := 1420) rfl, List.mem_of_getElem? (i := 1693) rfl, List.mem_of_getElem? (i := 1694) rfl⟩
def lw_privs_7 : List (MethodName × Nat) := [(⟨"KeyLettersModel", "readLine", "()Z"⟩, 49), (⟨"KeyLettersModel", "isWord", "(J)Z"⟩, 49), (⟨"KeyLettersModel", "readMachine", "()Z"⟩, 49), (⟨"KeyLettersModel", "bad", "(I)Z"⟩, 49), (⟨"KeyLettersModel", "fresh", "(I)Z"⟩, 49), (⟨"KeyLettersModel", "isName", "()Z"⟩, 49), (⟨"KeyLettersModel", "seek", "(II)I"⟩, 49), (⟨"KeyLettersModel", "puts", "(III)Z"⟩, 49), (⟨"KeyLettersModel", "takes", "(II)Z"⟩, 49), (⟨"KeyLettersModel", "readPhrase", "()Z"⟩, 49), (⟨"KeyLettersModel", "readKnows", "()Z"⟩, 49), (⟨"KeyLettersModel", "takesName", "(II)Z"⟩, 49), (⟨"KeyLettersModel", "looksAt", "(II)Z"⟩, 49), (⟨"KeyLettersModel", "readAnswers", "()Z"⟩, 49), (⟨"KeyLettersModel", "sign", "(I)Z"⟩, 49), (⟨"KeyLettersModel", "isSign", "(I)Z"⟩, 49)]
theorem lw_r7 : ∀ q ∈ lw_privs_7, lw_okq q := List.forall_mem_cons.mpr ⟨lw_p96, List.forall_mem_cons.mpr ⟨lw_p97, List.forall_mem_cons.mpr ⟨lw_p98, List.forall_mem_cons.mpr ⟨lw_p99, List.forall_mem_cons.mpr ⟨lw_p100, List.forall_mem_cons.mpr ⟨lw_p101, List.forall_mem_cons.mpr ⟨lw_p102, List.forall_mem_cons.mpr ⟨lw_p103, List.forall_mem_cons.mpr ⟨lw_p104, List.forall_mem_cons.mpr ⟨lw_p105, List.forall_mem_cons.mpr ⟨lw_p106, List.forall_mem_cons.mpr ⟨lw_p107, List.forall_mem_cons.mpr ⟨lw_p108, List.forall_mem_cons.mpr ⟨lw_p109, List.forall_mem_cons.mpr ⟨lw_p110, List.forall_mem_cons.mpr ⟨lw_p111, fun _ h => absurd h List.not_mem_nil⟩⟩⟩⟩⟩⟩⟩⟩⟩⟩⟩⟩⟩⟩⟩⟩
set_option maxRecDepth 20000 in
theorem lw_p112 : lw_okq (⟨"KeyLettersModel", "isMachine", "(I)Z"⟩, 49) := ⟨⟨by decide +kernel, by decide +kernel⟩, List.mem_of_getElem? (i := 1420) rfl, List.mem_of_getElem? (i := 1705) rfl, List.mem_of_getElem? (i := 1706) rfl⟩
set_option maxRecDepth 20000 in
theorem lw_p113 : lw_okq (⟨"KeyLettersModel", "throwsIf", "(Z)Z"⟩, 49) := ⟨⟨by decide +kernel, by decide +kernel⟩, List.mem_of_getElem? (i := 1420) rfl, List.mem_of_getElem? (i := 1709) rfl, List.mem_of_getElem? (i := 1710) rfl⟩
set_option maxRecDepth 20000 in
theorem lw_p114 : lw_okq (⟨"KeyLettersModel", "couldWrite", "(I)I"⟩, 49) := ⟨⟨by decide +kernel, by decide +kernel⟩, List.mem_of_getElem? (i := 1420) rfl, List.mem_of_getElem? (i := 1713) rfl, List.mem_of_getElem? (i := 1714) rfl⟩
set_option maxRecDepth 20000 in
theorem lw_p115 : lw_okq (⟨"KeyLettersModel", "whyWrite", "(II)I"⟩, 49) := ⟨⟨by decide +kernel, by decide +kernel⟩, List.mem_of_getElem? (i := 1420) rfl, List.mem_of_getElem? (i := 1717) rfl, List.mem_of_getElem? (i := 1718) rfl⟩
set_option maxRecDepth 20000 in
theorem lw_p116 : lw_okq (⟨"KeyLettersModel", "isHeld", "(I)Z"⟩, 49) := ⟨⟨by decide +kernel, by decide +kernel⟩, List.mem_of_getElem? (i := 1420) rfl, List.mem_of_getElem? (i := 1721) rfl, List.mem_of_getElem? (i := 1722) rfl⟩
set_option maxRecDepth 20000 in
theorem lw_p117 : lw_okq (⟨"KeyLettersModel", "isAnswer", "(II)Z"⟩, 49) := ⟨⟨by decide +kernel, by decide +kernel⟩, List.mem_of_getElem? (i := 1420) rfl, List.mem_of_getElem? (i := 1725) rfl, List.mem_of_getElem? (i := 1726) rfl⟩
set_option maxRecDepth 20000 in
theorem lw_p118 : lw_okq (⟨"KeyLettersModel", "owedBy", "(IZ)I"⟩, 49) := ⟨⟨by decide +kernel, by decide +kernel⟩, List.mem_of_getElem? (i := 1420) rfl, List.mem_of_getElem? (i := 1729) rfl, List.mem_of_getElem? (i := 1730) rfl⟩
set_option maxRecDepth 20000 in
theorem lw_p119 : lw_okq (⟨"KeyLettersModel", "isPhrase", "(I)Z"⟩, 49) := ⟨⟨by decide +kernel, by decide +kernel⟩, List.mem_of_getElem? (i := 1420) rfl, List.mem_of_getElem? (i := 1737) rfl, List.mem_of_getElem? (i := 1738) rfl⟩
set_option maxRecDepth 20000 in
theorem lw_p120 : lw_okq (⟨"KeyLettersModel", "sumOf", "(I)I"⟩, 49) := ⟨⟨by decide +kernel, by decide +kernel⟩, List.mem_of_getElem? (i := 1420) rfl, List.mem_of_getElem? (i := 1749) rfl, List.mem_of_getElem? (i := 1750) rfl⟩
set_option maxRecDepth 20000 in
theorem lw_p121 : lw_okq (⟨"KeyLettersModel", "keep", "()V"⟩, 49) := ⟨⟨by decide +kernel, by decide +kernel⟩, List.mem_of_getElem? (i := 1420) rfl, List.mem_of_getElem? (i := 1757) rfl, List.mem_of_getElem? (i := 1758) rfl⟩
set_option maxRecDepth 20000 in
theorem lw_p122 : lw_okq (⟨"KeyLettersModel", "types", "(II)V"⟩, 49) := ⟨⟨by decide +kernel, by decide +kernel⟩, List.mem_of_getElem? (i := 1420) rfl, List.mem_of_getElem? (i := 1761) rfl, List.mem_of_getElem? (i := 1762) rfl⟩
set_option maxRecDepth 20000 in
theorem lw_p123 : lw_okq (⟨"KeyLettersModel", "turns", "(IZ)I"⟩, 49) := ⟨⟨by decide +kernel, by decide +kernel⟩, List.mem_of_getElem? (i := 1420) rfl, List.mem_of_getElem? (i := 1772) rfl, List.mem_of_getElem? (i := 1773) rfl⟩
set_option maxRecDepth 20000 in
theorem lw_p124 : lw_okq (⟨"KeyLettersModel", "whyClear", "()I"⟩, 49) := ⟨⟨by decide +kernel, by decide +kernel⟩, List.mem_of_getElem? (i := 1420) rfl, List.mem_of_getElem? (i := 1788) rfl, List.mem_of_getElem? (i := 1789) rfl⟩
set_option maxRecDepth 20000 in
theorem lw_p125 : lw_okq (⟨"KeyLettersModel", "mutual", "(II)I"⟩, 49) := ⟨⟨by decide +kernel, by decide +kernel⟩, List.mem_of_getElem? (i := 1420) rfl, List.mem_of_getElem? (i := 1792) rfl, List.mem_of_getElem? (i := 1793) rfl⟩
set_option maxRecDepth 20000 in
theorem lw_p126 : lw_okq (⟨"KeyLettersModel", "evens", "()V"⟩, 49) := ⟨⟨by decide +kernel, by decide +kernel⟩, List.mem_of_getElem? (i := 1420) rfl, List.mem_of_getElem? (i := 1796) rfl, List.mem_of_getElem? (i := 1797) rfl⟩
set_option maxRecDepth 20000 in
theorem lw_p127 : lw_okq (⟨"KeyLettersModel", "goesOn", "(I)I"⟩, 49) := ⟨⟨by decide +kernel, by decide +kernel⟩, List.mem_of_getElem? (i := 1420) rfl, List.mem_of_getElem? (i := 1804) rfl, List.mem_of_getElem? (i := 1805) rfl⟩
def lw_privs_8 : List (MethodName × Nat) := [(⟨"KeyLettersModel", "isMachine", "(I)Z"⟩, 49), (⟨"KeyLettersModel", "throwsIf", "(Z)Z"⟩, 49), (⟨"KeyLettersModel", "couldWrite", "(I)I"⟩, 49), (⟨"KeyLettersModel", "whyWrite", "(II)I"⟩, 49), (⟨"KeyLettersModel", "isHeld", "(I)Z"⟩, 49), (⟨"KeyLettersModel", "isAnswer", "(II)Z"⟩, 49), (⟨"KeyLettersModel", "owedBy", "(IZ)I"⟩, 49), (⟨"KeyLettersModel", "isPhrase", "(I)Z"⟩, 49), (⟨"KeyLettersModel", "sumOf", "(I)I"⟩, 49), (⟨"KeyLettersModel", "keep", "()V"⟩, 49), (⟨"KeyLettersModel", "types", "(II)V"⟩, 49), (⟨"KeyLettersModel", "turns", "(IZ)I"⟩, 49), (⟨"KeyLettersModel", "whyClear", "()I"⟩, 49), (⟨"KeyLettersModel", "mutual", "(II)I"⟩, 49), (⟨"KeyLettersModel", "evens", "()V"⟩, 49), (⟨"KeyLettersModel", "goesOn", "(I)I"⟩, 49)]
theorem lw_r8 : ∀ q ∈ lw_privs_8, lw_okq q := List.forall_mem_cons.mpr ⟨lw_p112, List.forall_mem_cons.mpr ⟨lw_p113, List.forall_mem_cons.mpr ⟨lw_p114, List.forall_mem_cons.mpr ⟨lw_p115, List.forall_mem_cons.mpr ⟨lw_p116, List.forall_mem_cons.mpr ⟨lw_p117, List.forall_mem_cons.mpr ⟨lw_p118, List.forall_mem_cons.mpr ⟨lw_p119, List.forall_mem_cons.mpr ⟨lw_p120, List.forall_mem_cons.mpr ⟨lw_p121, List.forall_mem_cons.mpr ⟨lw_p122, List.forall_mem_cons.mpr ⟨lw_p123, List.forall_mem_cons.mpr ⟨lw_p124, List.forall_mem_cons.mpr ⟨lw_p125, List.forall_mem_cons.mpr ⟨lw_p126, List.forall_mem_cons.mpr ⟨lw_p127, fun _ h => absurd h List.not_mem_nil⟩⟩⟩⟩⟩⟩⟩⟩⟩⟩⟩⟩⟩⟩⟩⟩
set_option maxRecDepth 20000 in
theorem lw_p128 : lw_okq (⟨"KeyLettersModel", "day", "()Z"⟩, 49) := ⟨⟨by decide +kernel, by decide +kernel⟩, List.mem_of_getElem? (i := 1420) rfl, List.mem_of_getElem? (i := 1808) rfl, List.mem_of_getElem? (i := 1809) rfl⟩
set_option maxRecDepth 20000 in
theorem lw_p129 : lw_okq (⟨"KeyLettersModel", "laysWants", "(I)V"⟩, 49) := ⟨⟨by decide +kernel, by decide +kernel⟩, List.mem_of_getElem? (i := 1420) rfl, List.mem_of_getElem? (i := 1820) rfl, List.mem_of_getElem? (i := 1821) rfl⟩
set_option maxRecDepth 20000 in
theorem lw_p130 : lw_okq (⟨"KeyLettersModel", "canFollow", "(IIII)Z"⟩, 49) := ⟨⟨by decide +kernel, by decide +kernel⟩, List.mem_of_getElem? (i := 1420) rfl, List.mem_of_getElem? (i := 1825) rfl, List.mem_of_getElem? (i := 1826) rfl⟩
set_option maxRecDepth 20000 in
theorem lw_p131 : lw_okq (⟨"KeyLettersModel", "followBy", "(III)I"⟩, 49) := ⟨⟨by decide +kernel, by decide +kernel⟩, List.mem_of_getElem? (i := 1420) rfl, List.mem_of_getElem? (i := 1829) rfl, List.mem_of_getElem? (i := 1830) rfl⟩
set_option maxRecDepth 20000 in
theorem lw_p132 : lw_okq (⟨"KeyLettersModel", "tries", "()V"⟩, 49) := ⟨⟨by decide +kernel, by decide +kernel⟩, List.mem_of_getElem? (i := 1420) rfl, List.mem_of_getElem? (i := 1841) rfl, List.mem_of_getElem? (i := 1842) rfl⟩
set_option maxRecDepth 20000 in
theorem lw_p133 : lw_okq (⟨"KeyLettersModel", "back", "()V"⟩, 49) := ⟨⟨by decide +kernel, by decide +kernel⟩, List.mem_of_getElem? (i := 1420) rfl, List.mem_of_getElem? (i := 1845) rfl, List.mem_of_getElem? (i := 1846) rfl⟩
set_option maxRecDepth 20000 in
theorem lw_p134 : lw_okq (⟨"KeyLettersModel", "isRow", "()Z"⟩, 49) := ⟨⟨by decide +kernel, by decide +kernel⟩, List.mem_of_getElem? (i := 1420) rfl, List.mem_of_getElem? (i := 1853) rfl, List.mem_of_getElem? (i := 1854) rfl⟩
set_option maxRecDepth 20000 in
theorem lw_p135 : lw_okq (⟨"KeyLettersModel", "octet", "(I)I"⟩, 49) := ⟨⟨by decide +kernel, by decide +kernel⟩, List.mem_of_getElem? (i := 1420) rfl, List.mem_of_getElem? (i := 1857) rfl, List.mem_of_getElem? (i := 1858) rfl⟩
set_option maxRecDepth 20000 in
theorem lw_p136 : lw_okq (⟨"KeyLettersModel", "laysWays", "()V"⟩, 49) := ⟨⟨by decide +kernel, by decide +kernel⟩, List.mem_of_getElem? (i := 1420) rfl, List.mem_of_getElem? (i := 1861) rfl, List.mem_of_getElem? (i := 1862) rfl⟩
set_option maxRecDepth 20000 in
theorem lw_p137 : lw_okq (⟨"KeyLettersModel", "isWriter", "(II)Z"⟩, 49) := ⟨⟨by decide +kernel, by decide +kernel⟩, List.mem_of_getElem? (i := 1420) rfl, List.mem_of_getElem? (i := 1865) rfl, List.mem_of_getElem? (i := 1866) rfl⟩
set_option maxRecDepth 20000 in
theorem lw_p138 : lw_okq (⟨"KeyLettersModel", "mostAt", "(I)I"⟩, 49) := ⟨⟨by decide +kernel, by decide +kernel⟩, List.mem_of_getElem? (i := 1420) rfl, List.mem_of_getElem? (i := 1869) rfl, List.mem_of_getElem? (i := 1870) rfl⟩
set_option maxRecDepth 20000 in
theorem lw_p139 : lw_okq (⟨"KeyLettersModel", "isFaint", "(I)Z"⟩, 49) := ⟨⟨by decide +kernel, by decide +kernel⟩, List.mem_of_getElem? (i := 1420) rfl, List.mem_of_getElem? (i := 1892) rfl, List.mem_of_getElem? (i := 1893) rfl⟩
set_option maxRecDepth 20000 in
theorem lw_p140 : lw_okq (⟨"KeyLettersModel", "letterOf", "(II)I"⟩, 49) := ⟨⟨by decide +kernel, by decide +kernel⟩, List.mem_of_getElem? (i := 1420) rfl, List.mem_of_getElem? (i := 1900) rfl, List.mem_of_getElem? (i := 1901) rfl⟩
set_option maxRecDepth 20000 in
theorem lw_p141 : lw_okq (⟨"KeyLettersModel", "leftBy", "(II)I"⟩, 49) := ⟨⟨by decide +kernel, by decide +kernel⟩, List.mem_of_getElem? (i := 1420) rfl, List.mem_of_getElem? (i := 1904) rfl, List.mem_of_getElem? (i := 1905) rfl⟩
set_option maxRecDepth 20000 in
theorem lw_p142 : lw_okq (⟨"KeyLettersModel", "spells", "(J)V"⟩, 49) := ⟨⟨by decide +kernel, by decide +kernel⟩, List.mem_of_getElem? (i := 1420) rfl, List.mem_of_getElem? (i := 1929) rfl, List.mem_of_getElem? (i := 1930) rfl⟩
set_option maxRecDepth 20000 in
theorem lw_p143 : lw_okq (⟨"KeyLettersModel", "lays", "(I)V"⟩, 49) := ⟨⟨by decide +kernel, by decide +kernel⟩, List.mem_of_getElem? (i := 1420) rfl, List.mem_of_getElem? (i := 1933) rfl, List.mem_of_getElem? (i := 1934) rfl⟩
def lw_privs_9 : List (MethodName × Nat) := [(⟨"KeyLettersModel", "day", "()Z"⟩, 49), (⟨"KeyLettersModel", "laysWants", "(I)V"⟩, 49), (⟨"KeyLettersModel", "canFollow", "(IIII)Z"⟩, 49), (⟨"KeyLettersModel", "followBy", "(III)I"⟩, 49), (⟨"KeyLettersModel", "tries", "()V"⟩, 49), (⟨"KeyLettersModel", "back", "()V"⟩, 49), (⟨"KeyLettersModel", "isRow", "()Z"⟩, 49), (⟨"KeyLettersModel", "octet", "(I)I"⟩, 49), (⟨"KeyLettersModel", "laysWays", "()V"⟩, 49), (⟨"KeyLettersModel", "isWriter", "(II)Z"⟩, 49), (⟨"KeyLettersModel", "mostAt", "(I)I"⟩, 49), (⟨"KeyLettersModel", "isFaint", "(I)Z"⟩, 49), (⟨"KeyLettersModel", "letterOf", "(II)I"⟩, 49), (⟨"KeyLettersModel", "leftBy", "(II)I"⟩, 49), (⟨"KeyLettersModel", "spells", "(J)V"⟩, 49), (⟨"KeyLettersModel", "lays", "(I)V"⟩, 49)]
theorem lw_r9 : ∀ q ∈ lw_privs_9, lw_okq q := List.forall_mem_cons.mpr ⟨lw_p128, List.forall_mem_cons.mpr ⟨lw_p129, List.forall_mem_cons.mpr ⟨lw_p130, List.forall_mem_cons.mpr ⟨lw_p131, List.forall_mem_cons.mpr ⟨lw_p132, List.forall_mem_cons.mpr ⟨lw_p133, List.forall_mem_cons.mpr ⟨lw_p134, List.forall_mem_cons.mpr ⟨lw_p135, List.forall_mem_cons.mpr ⟨lw_p136, List.forall_mem_cons.mpr ⟨lw_p137, List.forall_mem_cons.mpr ⟨lw_p138, List.forall_mem_cons.mpr ⟨lw_p139, List.forall_mem_cons.mpr ⟨lw_p140, List.forall_mem_cons.mpr ⟨lw_p141, List.forall_mem_cons.mpr ⟨lw_p142, List.forall_mem_cons.mpr ⟨lw_p143, fun _ h => absurd h List.not_mem_nil⟩⟩⟩⟩⟩⟩⟩⟩⟩⟩⟩⟩⟩⟩⟩⟩
set_option maxRecDepth 20000 in
theorem lw_p144 : lw_okq (⟨"KeyLettersModel", "says", "(J)V"⟩, 49) := ⟨⟨by decide +kernel, by decide +kernel⟩, List.mem_of_getElem? (i := 1420) rfl, List.mem_of_getElem? (i := 1937) rfl, List.mem_of_getElem? (i := 1938) rfl⟩
set_option maxRecDepth 20000 in
theorem lw_p145 : lw_okq (⟨"KeyLettersModel", "digits", "(I)V"⟩, 49) := ⟨⟨by decide +kernel, by decide +kernel⟩, List.mem_of_getElem? (i := 1420) rfl, List.mem_of_getElem? (i := 1941) rfl, List.mem_of_getElem? (i := 1942) rfl⟩
set_option maxRecDepth 20000 in
theorem lw_p146 : lw_okq (⟨"KeyLettersModel", "draws", "(II)I"⟩, 49) := ⟨⟨by decide +kernel, by decide +kernel⟩, List.mem_of_getElem? (i := 1420) rfl, List.mem_of_getElem? (i := 1953) rfl, List.mem_of_getElem? (i := 1954) rfl⟩
set_option maxRecDepth 20000 in
theorem lw_p147 : lw_okq (⟨"KeyLettersModel", "drawDay", "()V"⟩, 49) := ⟨⟨by decide +kernel, by decide +kernel⟩, List.mem_of_getElem? (i := 1420) rfl, List.mem_of_getElem? (i := 1957) rfl, List.mem_of_getElem? (i := 1958) rfl⟩
set_option maxRecDepth 20000 in
theorem lw_p148 : lw_okq (⟨"KeyLettersModel", "draw", "(I)I"⟩, 49) := ⟨⟨by decide +kernel, by decide +kernel⟩, List.mem_of_getElem? (i := 1420) rfl, List.mem_of_getElem? (i := 1961) rfl, List.mem_of_getElem? (i := 1962) rfl⟩
set_option maxRecDepth 20000 in
theorem lw_p149 : lw_okq (⟨"KeyLettersModel", "bookLine", "()Z"⟩, 49) := ⟨⟨by decide +kernel, by decide +kernel⟩, List.mem_of_getElem? (i := 1420) rfl, List.mem_of_getElem? (i := 1974) rfl, List.mem_of_getElem? (i := 1975) rfl⟩
set_option maxRecDepth 20000 in
theorem lw_p150 : lw_okq (⟨"KeyLettersModel", "does", "(III)I"⟩, 49) := ⟨⟨by decide +kernel, by decide +kernel⟩, List.mem_of_getElem? (i := 1420) rfl, List.mem_of_getElem? (i := 1978) rfl, List.mem_of_getElem? (i := 1979) rfl⟩
set_option maxRecDepth 20000 in
theorem lw_p151 : lw_okq (⟨"KeyLettersModel", "nots", "()V"⟩, 49) := ⟨⟨by decide +kernel, by decide +kernel⟩, List.mem_of_getElem? (i := 1420) rfl, List.mem_of_getElem? (i := 1990) rfl, List.mem_of_getElem? (i := 1991) rfl⟩
set_option maxRecDepth 20000 in
theorem lw_p152 : lw_okq (⟨"KeyLettersModel", "code", "(III)V"⟩, 49) := ⟨⟨by decide +kernel, by decide +kernel⟩, List.mem_of_getElem? (i := 1420) rfl, List.mem_of_getElem? (i := 1994) rfl, List.mem_of_getElem? (i := 1995) rfl⟩
set_option maxRecDepth 20000 in
theorem lw_p153 : lw_okq (⟨"KeyLettersModel", "joins", "(I)V"⟩, 49) := ⟨⟨by decide +kernel, by decide +kernel⟩, List.mem_of_getElem? (i := 1420) rfl, List.mem_of_getElem? (i := 1998) rfl, List.mem_of_getElem? (i := 1999) rfl⟩
set_option maxRecDepth 20000 in
theorem lw_p154 : lw_okq (⟨"KeyLettersModel", "behind", "()Z"⟩, 49) := ⟨⟨by decide +kernel, by decide +kernel⟩, List.mem_of_getElem? (i := 1420) rfl, List.mem_of_getElem? (i := 2002) rfl, List.mem_of_getElem? (i := 2003) rfl⟩
set_option maxRecDepth 20000 in
theorem lw_p155 : lw_okq (⟨"KeyLettersModel", "operand", "()Z"⟩, 49) := ⟨⟨by decide +kernel, by decide +kernel⟩, List.mem_of_getElem? (i := 1420) rfl, List.mem_of_getElem? (i := 2006) rfl, List.mem_of_getElem? (i := 2007) rfl⟩
set_option maxRecDepth 20000 in
theorem lw_p156 : lw_okq (⟨"KeyLettersModel", "leafOf", "()I"⟩, 49) := ⟨⟨by decide +kernel, by decide +kernel⟩, List.mem_of_getElem? (i := 1420) rfl, List.mem_of_getElem? (i := 2010) rfl, List.mem_of_getElem? (i := 2011) rfl⟩
set_option maxRecDepth 20000 in
theorem lw_p157 : lw_okq (⟨"KeyLettersModel", "isSaid", "(I)Z"⟩, 49) := ⟨⟨by decide +kernel, by decide +kernel⟩, List.mem_of_getElem? (i := 1420) rfl, List.mem_of_getElem? (i := 2018) rfl, List.mem_of_getElem? (i := 2019) rfl⟩
set_option maxRecDepth 20000 in
theorem lw_p158 : lw_okq (⟨"KeyLettersModel", "isLeaf", "(IIII)Z"⟩, 49) := ⟨⟨by decide +kernel, by decide +kernel⟩, List.mem_of_getElem? (i := 1420) rfl, List.mem_of_getElem? (i := 2022) rfl, List.mem_of_getElem? (i := 2023) rfl⟩
def lw_privs_10 : List (MethodName × Nat) := [(⟨"KeyLettersModel", "says", "(J)V"⟩, 49), (⟨"KeyLettersModel", "digits", "(I)V"⟩, 49), (⟨"KeyLettersModel", "draws", "(II)I"⟩, 49), (⟨"KeyLettersModel", "drawDay", "()V"⟩, 49), (⟨"KeyLettersModel", "draw", "(I)I"⟩, 49), (⟨"KeyLettersModel", "bookLine", "()Z"⟩, 49), (⟨"KeyLettersModel", "does", "(III)I"⟩, 49), (⟨"KeyLettersModel", "nots", "()V"⟩, 49), (⟨"KeyLettersModel", "code", "(III)V"⟩, 49), (⟨"KeyLettersModel", "joins", "(I)V"⟩, 49), (⟨"KeyLettersModel", "behind", "()Z"⟩, 49), (⟨"KeyLettersModel", "operand", "()Z"⟩, 49), (⟨"KeyLettersModel", "leafOf", "()I"⟩, 49), (⟨"KeyLettersModel", "isSaid", "(I)Z"⟩, 49), (⟨"KeyLettersModel", "isLeaf", "(IIII)Z"⟩, 49)]
theorem lw_r10 : ∀ q ∈ lw_privs_10, lw_okq q := List.forall_mem_cons.mpr ⟨lw_p144, List.forall_mem_cons.mpr ⟨lw_p145, List.forall_mem_cons.mpr ⟨lw_p146, List.forall_mem_cons.mpr ⟨lw_p147, List.forall_mem_cons.mpr ⟨lw_p148, List.forall_mem_cons.mpr ⟨lw_p149, List.forall_mem_cons.mpr ⟨lw_p150, List.forall_mem_cons.mpr ⟨lw_p151, List.forall_mem_cons.mpr ⟨lw_p152, List.forall_mem_cons.mpr ⟨lw_p153, List.forall_mem_cons.mpr ⟨lw_p154, List.forall_mem_cons.mpr ⟨lw_p155, List.forall_mem_cons.mpr ⟨lw_p156, List.forall_mem_cons.mpr ⟨lw_p157, List.forall_mem_cons.mpr ⟨lw_p158, fun _ h => absurd h List.not_mem_nil⟩⟩⟩⟩⟩⟩⟩⟩⟩⟩⟩⟩⟩⟩⟩
def lw_privs : List (MethodName × Nat) := lw_privs_1 ++ (lw_privs_2 ++ (lw_privs_3 ++ (lw_privs_4 ++ (lw_privs_5 ++ (lw_privs_6 ++ (lw_privs_7 ++ (lw_privs_8 ++ (lw_privs_9 ++ (lw_privs_10)))))))))
def lw_tbl : List Cond := k2_sels lw_privs ++ tables_1
theorem lw_privs_ok : ∀ q ∈ lw_privs, lw_okq q := by
  show ∀ q ∈ lw_privs_1 ++ (lw_privs_2 ++ (lw_privs_3 ++ (lw_privs_4 ++ (lw_privs_5 ++ (lw_privs_6 ++ (lw_privs_7 ++ (lw_privs_8 ++ (lw_privs_9 ++ (lw_privs_10))))))))), lw_okq q
  exact List.forall_mem_append.mpr ⟨lw_r1, List.forall_mem_append.mpr ⟨lw_r2, List.forall_mem_append.mpr ⟨lw_r3, List.forall_mem_append.mpr ⟨lw_r4, List.forall_mem_append.mpr ⟨lw_r5, List.forall_mem_append.mpr ⟨lw_r6, List.forall_mem_append.mpr ⟨lw_r7, List.forall_mem_append.mpr ⟨lw_r8, List.forall_mem_append.mpr ⟨lw_r9, lw_r10⟩⟩⟩⟩⟩⟩⟩⟩⟩
-- ===== end of PART A; then your names; then what follows =====
