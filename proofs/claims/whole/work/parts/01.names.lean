-- ===== PART A: goes FIRST, ahead of the names: the tables' words, and 'selects' of the private methods out of them =====
/-- a private method of a class that the tables say can be made, by its rows of tables_1 -/
def lw_okq (q : MethodName × Nat) : Prop := (q.1.cls ≠ "java/lang/invoke/MethodHandle" ∧ q.1.cls ≠ "java/lang/invoke/VarHandle") ∧ Cond.instantiable q.1.cls q.2 ∈ tables_1 ∧ Cond.privateMethod q.1 ∈ tables_1 ∧ Cond.instanceMethod q.1 ∈ tables_1
theorem lw_p0 : lw_okq (⟨"HeavyGuests$History", "dropOldest", "()V"⟩, 2) := ⟨⟨by decide +kernel, by decide +kernel⟩, List.mem_of_getElem? (i := 105) (by decide +kernel), List.mem_of_getElem? (i := 211) (by decide +kernel), List.mem_of_getElem? (i := 212) (by decide +kernel)⟩
theorem lw_p1 : lw_okq (⟨"HeavyGuests$Row", "goesBefore", "(II)Z"⟩, 5) := ⟨⟨by decide +kernel, by decide +kernel⟩, List.mem_of_getElem? (i := 34) (by decide +kernel), List.mem_of_getElem? (i := 251) (by decide +kernel), List.mem_of_getElem? (i := 252) (by decide +kernel)⟩
theorem lw_p2 : lw_okq (⟨"HeavyGuests$Row", "giveUp", "(I)V"⟩, 5) := ⟨⟨by decide +kernel, by decide +kernel⟩, List.mem_of_getElem? (i := 34) (by decide +kernel), List.mem_of_getElem? (i := 263) (by decide +kernel), List.mem_of_getElem? (i := 264) (by decide +kernel)⟩
theorem lw_p3 : lw_okq (⟨"HeavyGuests$Row", "append", "(III)V"⟩, 5) := ⟨⟨by decide +kernel, by decide +kernel⟩, List.mem_of_getElem? (i := 34) (by decide +kernel), List.mem_of_getElem? (i := 319) (by decide +kernel), List.mem_of_getElem? (i := 320) (by decide +kernel)⟩
theorem lw_p4 : lw_okq (⟨"HeavyGuests$Tally", "append", "(II)V"⟩, 3) := ⟨⟨by decide +kernel, by decide +kernel⟩, List.mem_of_getElem? (i := 60) (by decide +kernel), List.mem_of_getElem? (i := 328) (by decide +kernel), List.mem_of_getElem? (i := 329) (by decide +kernel)⟩
theorem lw_p5 : lw_okq (⟨"HeavyGuests$Tally", "moveUp", "(I)V"⟩, 3) := ⟨⟨by decide +kernel, by decide +kernel⟩, List.mem_of_getElem? (i := 60) (by decide +kernel), List.mem_of_getElem? (i := 336) (by decide +kernel), List.mem_of_getElem? (i := 337) (by decide +kernel)⟩
theorem lw_p6 : lw_okq (⟨"HeavyGuests$State", "insertJoined", "(LHeavyGuests$Row;I)V"⟩, 2) := ⟨⟨by decide +kernel, by decide +kernel⟩, List.mem_of_getElem? (i := 22) (by decide +kernel), List.mem_of_getElem? (i := 383) (by decide +kernel), List.mem_of_getElem? (i := 384) (by decide +kernel)⟩
theorem lw_p7 : lw_okq (⟨"HeavyGuests$Row", "swapWithFormer", "(I)V"⟩, 5) := ⟨⟨by decide +kernel, by decide +kernel⟩, List.mem_of_getElem? (i := 34) (by decide +kernel), List.mem_of_getElem? (i := 414) (by decide +kernel), List.mem_of_getElem? (i := 415) (by decide +kernel)⟩
theorem lw_p8 : lw_okq (⟨"HeavyGuests$Row", "heavierThan", "(I)I"⟩, 5) := ⟨⟨by decide +kernel, by decide +kernel⟩, List.mem_of_getElem? (i := 34) (by decide +kernel), List.mem_of_getElem? (i := 508) (by decide +kernel), List.mem_of_getElem? (i := 509) (by decide +kernel)⟩
theorem lw_p9 : lw_okq (⟨"HeavyGuests$Order", "readEnd", "()Z"⟩, 6) := ⟨⟨by decide +kernel, by decide +kernel⟩, List.mem_of_getElem? (i := 153) (by decide +kernel), List.mem_of_getElem? (i := 568) (by decide +kernel), List.mem_of_getElem? (i := 569) (by decide +kernel)⟩
theorem lw_p10 : lw_okq (⟨"HeavyGuests$Order", "readStart", "(I)Z"⟩, 6) := ⟨⟨by decide +kernel, by decide +kernel⟩, List.mem_of_getElem? (i := 153) (by decide +kernel), List.mem_of_getElem? (i := 577) (by decide +kernel), List.mem_of_getElem? (i := 578) (by decide +kernel)⟩
theorem lw_p11 : lw_okq (⟨"HeavyGuests$Order", "readLetter", "(I)Z"⟩, 6) := ⟨⟨by decide +kernel, by decide +kernel⟩, List.mem_of_getElem? (i := 153) (by decide +kernel), List.mem_of_getElem? (i := 581) (by decide +kernel), List.mem_of_getElem? (i := 582) (by decide +kernel)⟩
theorem lw_p12 : lw_okq (⟨"HeavyGuests$Order", "readStar", "()Z"⟩, 6) := ⟨⟨by decide +kernel, by decide +kernel⟩, List.mem_of_getElem? (i := 153) (by decide +kernel), List.mem_of_getElem? (i := 585) (by decide +kernel), List.mem_of_getElem? (i := 586) (by decide +kernel)⟩
theorem lw_p13 : lw_okq (⟨"HeavyGuests$Order", "readFirstDigit", "(I)Z"⟩, 6) := ⟨⟨by decide +kernel, by decide +kernel⟩, List.mem_of_getElem? (i := 153) (by decide +kernel), List.mem_of_getElem? (i := 589) (by decide +kernel), List.mem_of_getElem? (i := 590) (by decide +kernel)⟩
theorem lw_p14 : lw_okq (⟨"HeavyGuests$Order", "readDigit", "(I)Z"⟩, 6) := ⟨⟨by decide +kernel, by decide +kernel⟩, List.mem_of_getElem? (i := 153) (by decide +kernel), List.mem_of_getElem? (i := 596) (by decide +kernel), List.mem_of_getElem? (i := 597) (by decide +kernel)⟩
theorem lw_p15 : lw_okq (⟨"HeavyGuests$Order", "readAgeing", "(I)Z"⟩, 6) := ⟨⟨by decide +kernel, by decide +kernel⟩, List.mem_of_getElem? (i := 153) (by decide +kernel), List.mem_of_getElem? (i := 600) (by decide +kernel), List.mem_of_getElem? (i := 601) (by decide +kernel)⟩
def lw_privs_1 : List (MethodName × Nat) := [(⟨"HeavyGuests$History", "dropOldest", "()V"⟩, 2), (⟨"HeavyGuests$Row", "goesBefore", "(II)Z"⟩, 5), (⟨"HeavyGuests$Row", "giveUp", "(I)V"⟩, 5), (⟨"HeavyGuests$Row", "append", "(III)V"⟩, 5), (⟨"HeavyGuests$Tally", "append", "(II)V"⟩, 3), (⟨"HeavyGuests$Tally", "moveUp", "(I)V"⟩, 3), (⟨"HeavyGuests$State", "insertJoined", "(LHeavyGuests$Row;I)V"⟩, 2), (⟨"HeavyGuests$Row", "swapWithFormer", "(I)V"⟩, 5), (⟨"HeavyGuests$Row", "heavierThan", "(I)I"⟩, 5), (⟨"HeavyGuests$Order", "readEnd", "()Z"⟩, 6), (⟨"HeavyGuests$Order", "readStart", "(I)Z"⟩, 6), (⟨"HeavyGuests$Order", "readLetter", "(I)Z"⟩, 6), (⟨"HeavyGuests$Order", "readStar", "()Z"⟩, 6), (⟨"HeavyGuests$Order", "readFirstDigit", "(I)Z"⟩, 6), (⟨"HeavyGuests$Order", "readDigit", "(I)Z"⟩, 6), (⟨"HeavyGuests$Order", "readAgeing", "(I)Z"⟩, 6)]
theorem lw_r1 : ∀ q ∈ lw_privs_1, lw_okq q := List.forall_mem_cons.mpr ⟨lw_p0, List.forall_mem_cons.mpr ⟨lw_p1, List.forall_mem_cons.mpr ⟨lw_p2, List.forall_mem_cons.mpr ⟨lw_p3, List.forall_mem_cons.mpr ⟨lw_p4, List.forall_mem_cons.mpr ⟨lw_p5, List.forall_mem_cons.mpr ⟨lw_p6, List.forall_mem_cons.mpr ⟨lw_p7, List.forall_mem_cons.mpr ⟨lw_p8, List.forall_mem_cons.mpr ⟨lw_p9, List.forall_mem_cons.mpr ⟨lw_p10, List.forall_mem_cons.mpr ⟨lw_p11, List.forall_mem_cons.mpr ⟨lw_p12, List.forall_mem_cons.mpr ⟨lw_p13, List.forall_mem_cons.mpr ⟨lw_p14, List.forall_mem_cons.mpr ⟨lw_p15, fun _ h => absurd h List.not_mem_nil⟩⟩⟩⟩⟩⟩⟩⟩⟩⟩⟩⟩⟩⟩⟩⟩
theorem lw_p16 : lw_okq (⟨"HeavyGuests", "carryOrderOut", "()I"⟩, 6) := ⟨⟨by decide +kernel, by decide +kernel⟩, List.mem_of_getElem? (i := 14) (by decide +kernel), List.mem_of_getElem? (i := 610) (by decide +kernel), List.mem_of_getElem? (i := 611) (by decide +kernel)⟩
theorem lw_p17 : lw_okq (⟨"HeavyGuests", "isSlot", "(I)Z"⟩, 6) := ⟨⟨by decide +kernel, by decide +kernel⟩, List.mem_of_getElem? (i := 14) (by decide +kernel), List.mem_of_getElem? (i := 626) (by decide +kernel), List.mem_of_getElem? (i := 627) (by decide +kernel)⟩
theorem lw_p18 : lw_okq (⟨"HeavyGuestsModel", "records", "()V"⟩, 14) := ⟨⟨by decide +kernel, by decide +kernel⟩, List.mem_of_getElem? (i := 635) (by decide +kernel), List.mem_of_getElem? (i := 692) (by decide +kernel), List.mem_of_getElem? (i := 693) (by decide +kernel)⟩
theorem lw_p19 : lw_okq (⟨"HeavyGuestsModel", "get", "(II)I"⟩, 14) := ⟨⟨by decide +kernel, by decide +kernel⟩, List.mem_of_getElem? (i := 635) (by decide +kernel), List.mem_of_getElem? (i := 696) (by decide +kernel), List.mem_of_getElem? (i := 697) (by decide +kernel)⟩
theorem lw_p20 : lw_okq (⟨"HeavyGuestsModel", "weakest", "(I)I"⟩, 14) := ⟨⟨by decide +kernel, by decide +kernel⟩, List.mem_of_getElem? (i := 635) (by decide +kernel), List.mem_of_getElem? (i := 700) (by decide +kernel), List.mem_of_getElem? (i := 701) (by decide +kernel)⟩
theorem lw_p21 : lw_okq (⟨"HeavyGuestsModel", "countOf", "(II)I"⟩, 14) := ⟨⟨by decide +kernel, by decide +kernel⟩, List.mem_of_getElem? (i := 635) (by decide +kernel), List.mem_of_getElem? (i := 704) (by decide +kernel), List.mem_of_getElem? (i := 705) (by decide +kernel)⟩
theorem lw_p22 : lw_okq (⟨"HeavyGuestsModel", "excessOf", "(II)I"⟩, 14) := ⟨⟨by decide +kernel, by decide +kernel⟩, List.mem_of_getElem? (i := 635) (by decide +kernel), List.mem_of_getElem? (i := 708) (by decide +kernel), List.mem_of_getElem? (i := 709) (by decide +kernel)⟩
theorem lw_p23 : lw_okq (⟨"HeavyGuestsModel", "givesUp", "(II)V"⟩, 14) := ⟨⟨by decide +kernel, by decide +kernel⟩, List.mem_of_getElem? (i := 635) (by decide +kernel), List.mem_of_getElem? (i := 712) (by decide +kernel), List.mem_of_getElem? (i := 713) (by decide +kernel)⟩
theorem lw_p24 : lw_okq (⟨"HeavyGuestsModel", "lay", "(III)V"⟩, 14) := ⟨⟨by decide +kernel, by decide +kernel⟩, List.mem_of_getElem? (i := 635) (by decide +kernel), List.mem_of_getElem? (i := 716) (by decide +kernel), List.mem_of_getElem? (i := 717) (by decide +kernel)⟩
theorem lw_p25 : lw_okq (⟨"HeavyGuestsModel", "refusesCome", "(III)I"⟩, 14) := ⟨⟨by decide +kernel, by decide +kernel⟩, List.mem_of_getElem? (i := 635) (by decide +kernel), List.mem_of_getElem? (i := 724) (by decide +kernel), List.mem_of_getElem? (i := 725) (by decide +kernel)⟩
theorem lw_p26 : lw_okq (⟨"HeavyGuestsModel", "trueAt", "(II)I"⟩, 14) := ⟨⟨by decide +kernel, by decide +kernel⟩, List.mem_of_getElem? (i := 635) (by decide +kernel), List.mem_of_getElem? (i := 735) (by decide +kernel), List.mem_of_getElem? (i := 736) (by decide +kernel)⟩
theorem lw_p27 : lw_okq (⟨"HeavyGuestsModel", "comes", "(III)I"⟩, 14) := ⟨⟨by decide +kernel, by decide +kernel⟩, List.mem_of_getElem? (i := 635) (by decide +kernel), List.mem_of_getElem? (i := 740) (by decide +kernel), List.mem_of_getElem? (i := 741) (by decide +kernel)⟩
theorem lw_p28 : lw_okq (⟨"HeavyGuestsModel", "seatFor", "(II)I"⟩, 14) := ⟨⟨by decide +kernel, by decide +kernel⟩, List.mem_of_getElem? (i := 635) (by decide +kernel), List.mem_of_getElem? (i := 744) (by decide +kernel), List.mem_of_getElem? (i := 745) (by decide +kernel)⟩
theorem lw_p29 : lw_okq (⟨"HeavyGuestsModel", "seatOf", "(II)I"⟩, 14) := ⟨⟨by decide +kernel, by decide +kernel⟩, List.mem_of_getElem? (i := 635) (by decide +kernel), List.mem_of_getElem? (i := 748) (by decide +kernel), List.mem_of_getElem? (i := 749) (by decide +kernel)⟩
theorem lw_p30 : lw_okq (⟨"HeavyGuestsModel", "guestOf", "(II)I"⟩, 14) := ⟨⟨by decide +kernel, by decide +kernel⟩, List.mem_of_getElem? (i := 635) (by decide +kernel), List.mem_of_getElem? (i := 752) (by decide +kernel), List.mem_of_getElem? (i := 753) (by decide +kernel)⟩
theorem lw_p31 : lw_okq (⟨"HeavyGuestsModel", "isFull", "(I)Z"⟩, 14) := ⟨⟨by decide +kernel, by decide +kernel⟩, List.mem_of_getElem? (i := 635) (by decide +kernel), List.mem_of_getElem? (i := 756) (by decide +kernel), List.mem_of_getElem? (i := 757) (by decide +kernel)⟩
def lw_privs_2 : List (MethodName × Nat) := [(⟨"HeavyGuests", "carryOrderOut", "()I"⟩, 6), (⟨"HeavyGuests", "isSlot", "(I)Z"⟩, 6), (⟨"HeavyGuestsModel", "records", "()V"⟩, 14), (⟨"HeavyGuestsModel", "get", "(II)I"⟩, 14), (⟨"HeavyGuestsModel", "weakest", "(I)I"⟩, 14), (⟨"HeavyGuestsModel", "countOf", "(II)I"⟩, 14), (⟨"HeavyGuestsModel", "excessOf", "(II)I"⟩, 14), (⟨"HeavyGuestsModel", "givesUp", "(II)V"⟩, 14), (⟨"HeavyGuestsModel", "lay", "(III)V"⟩, 14), (⟨"HeavyGuestsModel", "refusesCome", "(III)I"⟩, 14), (⟨"HeavyGuestsModel", "trueAt", "(II)I"⟩, 14), (⟨"HeavyGuestsModel", "comes", "(III)I"⟩, 14), (⟨"HeavyGuestsModel", "seatFor", "(II)I"⟩, 14), (⟨"HeavyGuestsModel", "seatOf", "(II)I"⟩, 14), (⟨"HeavyGuestsModel", "guestOf", "(II)I"⟩, 14), (⟨"HeavyGuestsModel", "isFull", "(I)Z"⟩, 14)]
theorem lw_r2 : ∀ q ∈ lw_privs_2, lw_okq q := List.forall_mem_cons.mpr ⟨lw_p16, List.forall_mem_cons.mpr ⟨lw_p17, List.forall_mem_cons.mpr ⟨lw_p18, List.forall_mem_cons.mpr ⟨lw_p19, List.forall_mem_cons.mpr ⟨lw_p20, List.forall_mem_cons.mpr ⟨lw_p21, List.forall_mem_cons.mpr ⟨lw_p22, List.forall_mem_cons.mpr ⟨lw_p23, List.forall_mem_cons.mpr ⟨lw_p24, List.forall_mem_cons.mpr ⟨lw_p25, List.forall_mem_cons.mpr ⟨lw_p26, List.forall_mem_cons.mpr ⟨lw_p27, List.forall_mem_cons.mpr ⟨lw_p28, List.forall_mem_cons.mpr ⟨lw_p29, List.forall_mem_cons.mpr ⟨lw_p30, List.forall_mem_cons.mpr ⟨lw_p31, fun _ h => absurd h List.not_mem_nil⟩⟩⟩⟩⟩⟩⟩⟩⟩⟩⟩⟩⟩⟩⟩⟩
theorem lw_p32 : lw_okq (⟨"HeavyGuestsModel", "countsTruly", "(III)V"⟩, 14) := ⟨⟨by decide +kernel, by decide +kernel⟩, List.mem_of_getElem? (i := 635) (by decide +kernel), List.mem_of_getElem? (i := 760) (by decide +kernel), List.mem_of_getElem? (i := 761) (by decide +kernel)⟩
theorem lw_p33 : lw_okq (⟨"HeavyGuestsModel", "ages", "(I)V"⟩, 14) := ⟨⟨by decide +kernel, by decide +kernel⟩, List.mem_of_getElem? (i := 635) (by decide +kernel), List.mem_of_getElem? (i := 768) (by decide +kernel), List.mem_of_getElem? (i := 769) (by decide +kernel)⟩
theorem lw_p34 : lw_okq (⟨"HeavyGuestsModel", "refusesJoin", "()I"⟩, 14) := ⟨⟨by decide +kernel, by decide +kernel⟩, List.mem_of_getElem? (i := 635) (by decide +kernel), List.mem_of_getElem? (i := 776) (by decide +kernel), List.mem_of_getElem? (i := 777) (by decide +kernel)⟩
theorem lw_p35 : lw_okq (⟨"HeavyGuestsModel", "joins", "()V"⟩, 14) := ⟨⟨by decide +kernel, by decide +kernel⟩, List.mem_of_getElem? (i := 635) (by decide +kernel), List.mem_of_getElem? (i := 780) (by decide +kernel), List.mem_of_getElem? (i := 781) (by decide +kernel)⟩
theorem lw_p36 : lw_okq (⟨"HeavyGuestsModel", "joinsGuest", "(I)V"⟩, 14) := ⟨⟨by decide +kernel, by decide +kernel⟩, List.mem_of_getElem? (i := 635) (by decide +kernel), List.mem_of_getElem? (i := 784) (by decide +kernel), List.mem_of_getElem? (i := 785) (by decide +kernel)⟩
theorem lw_p37 : lw_okq (⟨"HeavyGuestsModel", "most", "(II)I"⟩, 14) := ⟨⟨by decide +kernel, by decide +kernel⟩, List.mem_of_getElem? (i := 635) (by decide +kernel), List.mem_of_getElem? (i := 788) (by decide +kernel), List.mem_of_getElem? (i := 789) (by decide +kernel)⟩
theorem lw_p38 : lw_okq (⟨"HeavyGuestsModel", "leastOf", "(I)I"⟩, 14) := ⟨⟨by decide +kernel, by decide +kernel⟩, List.mem_of_getElem? (i := 635) (by decide +kernel), List.mem_of_getElem? (i := 792) (by decide +kernel), List.mem_of_getElem? (i := 793) (by decide +kernel)⟩
theorem lw_p39 : lw_okq (⟨"HeavyGuestsModel", "least", "(II)I"⟩, 14) := ⟨⟨by decide +kernel, by decide +kernel⟩, List.mem_of_getElem? (i := 635) (by decide +kernel), List.mem_of_getElem? (i := 796) (by decide +kernel), List.mem_of_getElem? (i := 797) (by decide +kernel)⟩
theorem lw_p40 : lw_okq (⟨"HeavyGuestsModel", "aheadOf", "(I)I"⟩, 14) := ⟨⟨by decide +kernel, by decide +kernel⟩, List.mem_of_getElem? (i := 635) (by decide +kernel), List.mem_of_getElem? (i := 800) (by decide +kernel), List.mem_of_getElem? (i := 801) (by decide +kernel)⟩
theorem lw_p41 : lw_okq (⟨"HeavyGuestsModel", "trueOf", "(II)I"⟩, 14) := ⟨⟨by decide +kernel, by decide +kernel⟩, List.mem_of_getElem? (i := 635) (by decide +kernel), List.mem_of_getElem? (i := 808) (by decide +kernel), List.mem_of_getElem? (i := 809) (by decide +kernel)⟩
theorem lw_p42 : lw_okq (⟨"HeavyGuestsModel", "sumOfCounts", "(I)I"⟩, 14) := ⟨⟨by decide +kernel, by decide +kernel⟩, List.mem_of_getElem? (i := 635) (by decide +kernel), List.mem_of_getElem? (i := 823) (by decide +kernel), List.mem_of_getElem? (i := 824) (by decide +kernel)⟩
theorem lw_p43 : lw_okq (⟨"HeavyGuestsModel", "greatestExcess", "(I)I"⟩, 14) := ⟨⟨by decide +kernel, by decide +kernel⟩, List.mem_of_getElem? (i := 635) (by decide +kernel), List.mem_of_getElem? (i := 827) (by decide +kernel), List.mem_of_getElem? (i := 828) (by decide +kernel)⟩
theorem lw_p44 : lw_okq (⟨"HeavyGuestsModel", "heavyAt", "(II)I"⟩, 14) := ⟨⟨by decide +kernel, by decide +kernel⟩, List.mem_of_getElem? (i := 635) (by decide +kernel), List.mem_of_getElem? (i := 843) (by decide +kernel), List.mem_of_getElem? (i := 844) (by decide +kernel)⟩
theorem lw_p45 : lw_okq (⟨"HeavyGuestsModel", "rankOf", "(II)I"⟩, 14) := ⟨⟨by decide +kernel, by decide +kernel⟩, List.mem_of_getElem? (i := 635) (by decide +kernel), List.mem_of_getElem? (i := 847) (by decide +kernel), List.mem_of_getElem? (i := 848) (by decide +kernel)⟩
theorem lw_p46 : lw_okq (⟨"HeavyGuestsModel", "trueRank", "(II)I"⟩, 14) := ⟨⟨by decide +kernel, by decide +kernel⟩, List.mem_of_getElem? (i := 635) (by decide +kernel), List.mem_of_getElem? (i := 855) (by decide +kernel), List.mem_of_getElem? (i := 856) (by decide +kernel)⟩
theorem lw_p47 : lw_okq (⟨"HeavyGuestsModel", "reads", "()I"⟩, 14) := ⟨⟨by decide +kernel, by decide +kernel⟩, List.mem_of_getElem? (i := 635) (by decide +kernel), List.mem_of_getElem? (i := 884) (by decide +kernel), List.mem_of_getElem? (i := 885) (by decide +kernel)⟩
def lw_privs_3 : List (MethodName × Nat) := [(⟨"HeavyGuestsModel", "countsTruly", "(III)V"⟩, 14), (⟨"HeavyGuestsModel", "ages", "(I)V"⟩, 14), (⟨"HeavyGuestsModel", "refusesJoin", "()I"⟩, 14), (⟨"HeavyGuestsModel", "joins", "()V"⟩, 14), (⟨"HeavyGuestsModel", "joinsGuest", "(I)V"⟩, 14), (⟨"HeavyGuestsModel", "most", "(II)I"⟩, 14), (⟨"HeavyGuestsModel", "leastOf", "(I)I"⟩, 14), (⟨"HeavyGuestsModel", "least", "(II)I"⟩, 14), (⟨"HeavyGuestsModel", "aheadOf", "(I)I"⟩, 14), (⟨"HeavyGuestsModel", "trueOf", "(II)I"⟩, 14), (⟨"HeavyGuestsModel", "sumOfCounts", "(I)I"⟩, 14), (⟨"HeavyGuestsModel", "greatestExcess", "(I)I"⟩, 14), (⟨"HeavyGuestsModel", "heavyAt", "(II)I"⟩, 14), (⟨"HeavyGuestsModel", "rankOf", "(II)I"⟩, 14), (⟨"HeavyGuestsModel", "trueRank", "(II)I"⟩, 14), (⟨"HeavyGuestsModel", "reads", "()I"⟩, 14)]
theorem lw_r3 : ∀ q ∈ lw_privs_3, lw_okq q := List.forall_mem_cons.mpr ⟨lw_p32, List.forall_mem_cons.mpr ⟨lw_p33, List.forall_mem_cons.mpr ⟨lw_p34, List.forall_mem_cons.mpr ⟨lw_p35, List.forall_mem_cons.mpr ⟨lw_p36, List.forall_mem_cons.mpr ⟨lw_p37, List.forall_mem_cons.mpr ⟨lw_p38, List.forall_mem_cons.mpr ⟨lw_p39, List.forall_mem_cons.mpr ⟨lw_p40, List.forall_mem_cons.mpr ⟨lw_p41, List.forall_mem_cons.mpr ⟨lw_p42, List.forall_mem_cons.mpr ⟨lw_p43, List.forall_mem_cons.mpr ⟨lw_p44, List.forall_mem_cons.mpr ⟨lw_p45, List.forall_mem_cons.mpr ⟨lw_p46, List.forall_mem_cons.mpr ⟨lw_p47, fun _ h => absurd h List.not_mem_nil⟩⟩⟩⟩⟩⟩⟩⟩⟩⟩⟩⟩⟩⟩⟩⟩
theorem lw_p48 : lw_okq (⟨"HeavyGuestsModel", "readsOrder", "()V"⟩, 14) := ⟨⟨by decide +kernel, by decide +kernel⟩, List.mem_of_getElem? (i := 635) (by decide +kernel), List.mem_of_getElem? (i := 888) (by decide +kernel), List.mem_of_getElem? (i := 889) (by decide +kernel)⟩
theorem lw_p49 : lw_okq (⟨"HeavyGuestsModel", "sign", "()I"⟩, 14) := ⟨⟨by decide +kernel, by decide +kernel⟩, List.mem_of_getElem? (i := 635) (by decide +kernel), List.mem_of_getElem? (i := 892) (by decide +kernel), List.mem_of_getElem? (i := 893) (by decide +kernel)⟩
theorem lw_p50 : lw_okq (⟨"HeavyGuestsModel", "takes", "(II)I"⟩, 14) := ⟨⟨by decide +kernel, by decide +kernel⟩, List.mem_of_getElem? (i := 635) (by decide +kernel), List.mem_of_getElem? (i := 896) (by decide +kernel), List.mem_of_getElem? (i := 897) (by decide +kernel)⟩
theorem lw_p51 : lw_okq (⟨"HeavyGuestsModel", "name", "()I"⟩, 14) := ⟨⟨by decide +kernel, by decide +kernel⟩, List.mem_of_getElem? (i := 635) (by decide +kernel), List.mem_of_getElem? (i := 900) (by decide +kernel), List.mem_of_getElem? (i := 901) (by decide +kernel)⟩
theorem lw_p52 : lw_okq (⟨"HeavyGuestsModel", "number", "()I"⟩, 14) := ⟨⟨by decide +kernel, by decide +kernel⟩, List.mem_of_getElem? (i := 635) (by decide +kernel), List.mem_of_getElem? (i := 904) (by decide +kernel), List.mem_of_getElem? (i := 905) (by decide +kernel)⟩
theorem lw_p53 : lw_okq (⟨"HeavyGuestsModel", "does", "(III)Z"⟩, 14) := ⟨⟨by decide +kernel, by decide +kernel⟩, List.mem_of_getElem? (i := 635) (by decide +kernel), List.mem_of_getElem? (i := 912) (by decide +kernel), List.mem_of_getElem? (i := 913) (by decide +kernel)⟩
def lw_privs_4 : List (MethodName × Nat) := [(⟨"HeavyGuestsModel", "readsOrder", "()V"⟩, 14), (⟨"HeavyGuestsModel", "sign", "()I"⟩, 14), (⟨"HeavyGuestsModel", "takes", "(II)I"⟩, 14), (⟨"HeavyGuestsModel", "name", "()I"⟩, 14), (⟨"HeavyGuestsModel", "number", "()I"⟩, 14), (⟨"HeavyGuestsModel", "does", "(III)Z"⟩, 14)]
theorem lw_r4 : ∀ q ∈ lw_privs_4, lw_okq q := List.forall_mem_cons.mpr ⟨lw_p48, List.forall_mem_cons.mpr ⟨lw_p49, List.forall_mem_cons.mpr ⟨lw_p50, List.forall_mem_cons.mpr ⟨lw_p51, List.forall_mem_cons.mpr ⟨lw_p52, List.forall_mem_cons.mpr ⟨lw_p53, fun _ h => absurd h List.not_mem_nil⟩⟩⟩⟩⟩⟩
def lw_privs : List (MethodName × Nat) := lw_privs_1 ++ (lw_privs_2 ++ (lw_privs_3 ++ (lw_privs_4)))
def lw_tbl : List Cond := k2_sels lw_privs ++ tables_1
theorem lw_privs_ok : ∀ q ∈ lw_privs, lw_okq q := by
  show ∀ q ∈ lw_privs_1 ++ (lw_privs_2 ++ (lw_privs_3 ++ (lw_privs_4))), lw_okq q
  exact List.forall_mem_append.mpr ⟨lw_r1, List.forall_mem_append.mpr ⟨lw_r2, List.forall_mem_append.mpr ⟨lw_r3, lw_r4⟩⟩⟩
def RX0 : String := "HeavyGuests$History"
def TX0 : u_T := fun k => match k with
  | 0 => ("HeavyGuests$History", "states", "[LHeavyGuests$State;", true)
  | _ => ("HeavyGuests$History", "size", "I", false)
def tyX0 : Nat → FieldType := fun k => match k with
  | 0 => .array (.object "HeavyGuests$State")
  | _ => .int
abbrev wsX00 : List Cond := u_ws RX0 TX0 2
theorem nmX0 : ∀ a, a < 2 → ∀ b, b < 2 → a ≠ b → (TX0 a).2.1 ≠ (TX0 b).2.1 := by decide +kernel
theorem tyX0_ok : ∀ k, k < 2 → parseFieldDescriptor (TX0 k).2.2.1 = some (tyX0 k) := by decide +kernel
abbrev cX0_init : ByteArray := prog_2_method_1_code
def yX0_init : MethodName := ⟨RX0, "<init>", "()V"⟩
abbrev cX0_remember : ByteArray := prog_2_method_2_code
def yX0_remember : MethodName := ⟨RX0, "remember", "(LHeavyGuests$State;)V"⟩
abbrev cX0_bringBack : ByteArray := prog_2_method_3_code
def yX0_bringBack : MethodName := ⟨RX0, "bringBack", "(LHeavyGuests$State;)V"⟩
abbrev cX0_dropOldest : ByteArray := prog_2_method_4_code
def yX0_dropOldest : MethodName := ⟨RX0, "dropOldest", "()V"⟩
def RX1 : String := "HeavyGuests$Order"
def TX1 : u_T := fun k => match k with
  | 0 => ("HeavyGuests$Order", "place", "I", false)
  | 1 => ("HeavyGuests$Order", "kind", "I", false)
  | 2 => ("HeavyGuests$Order", "stream", "I", false)
  | 3 => ("HeavyGuests$Order", "guest", "I", false)
  | 4 => ("HeavyGuests$Order", "letters", "I", false)
  | _ => ("HeavyGuests$Order", "times", "I", false)
def tyX1 : Nat → FieldType := fun k => match k with
  | 0 => .int
  | 1 => .int
  | 2 => .int
  | 3 => .int
  | 4 => .int
  | _ => .int
abbrev wsX10 : List Cond := u_ws RX1 TX1 6
theorem nmX1 : ∀ a, a < 6 → ∀ b, b < 6 → a ≠ b → (TX1 a).2.1 ≠ (TX1 b).2.1 := by decide +kernel
theorem tyX1_ok : ∀ k, k < 6 → parseFieldDescriptor (TX1 k).2.2.1 = some (tyX1 k) := by decide +kernel
abbrev cX1_init : ByteArray := prog_3_method_1_code
def yX1_init : MethodName := ⟨RX1, "<init>", "()V"⟩
abbrev cX1_begin : ByteArray := prog_3_method_2_code
def yX1_begin : MethodName := ⟨RX1, "begin", "()V"⟩
abbrev cX1_mayEnd : ByteArray := prog_3_method_3_code
def yX1_mayEnd : MethodName := ⟨RX1, "mayEnd", "()Z"⟩
abbrev cX1_read : ByteArray := prog_3_method_4_code
def yX1_read : MethodName := ⟨RX1, "read", "(I)Z"⟩
abbrev cX1_readEnd : ByteArray := prog_3_method_5_code
def yX1_readEnd : MethodName := ⟨RX1, "readEnd", "()Z"⟩
abbrev cX1_readStart : ByteArray := prog_3_method_6_code
def yX1_readStart : MethodName := ⟨RX1, "readStart", "(I)Z"⟩
abbrev cX1_readLetter : ByteArray := prog_3_method_7_code
def yX1_readLetter : MethodName := ⟨RX1, "readLetter", "(I)Z"⟩
abbrev cX1_readStar : ByteArray := prog_3_method_8_code
def yX1_readStar : MethodName := ⟨RX1, "readStar", "()Z"⟩
abbrev cX1_readFirstDigit : ByteArray := prog_3_method_9_code
def yX1_readFirstDigit : MethodName := ⟨RX1, "readFirstDigit", "(I)Z"⟩
abbrev cX1_readDigit : ByteArray := prog_3_method_10_code
def yX1_readDigit : MethodName := ⟨RX1, "readDigit", "(I)Z"⟩
abbrev cX1_readAgeing : ByteArray := prog_3_method_11_code
def yX1_readAgeing : MethodName := ⟨RX1, "readAgeing", "(I)Z"⟩
abbrev cX1_isDigit : ByteArray := prog_3_method_12_code
def yX1_isDigit : MethodName := ⟨RX1, "isDigit", "(I)Z"⟩
def RX2 : String := "HeavyGuests$Pad"
def TX2 : u_T := fun k => match k with
  | 0 => ("HeavyGuests$Pad", "signs", "[I", true)
  | _ => ("HeavyGuests$Pad", "length", "I", false)
def tyX2 : Nat → FieldType := fun k => match k with
  | 0 => .array .int
  | _ => .int
abbrev wsX20 : List Cond := u_ws RX2 TX2 2
theorem nmX2 : ∀ a, a < 2 → ∀ b, b < 2 → a ≠ b → (TX2 a).2.1 ≠ (TX2 b).2.1 := by decide +kernel
theorem tyX2_ok : ∀ k, k < 2 → parseFieldDescriptor (TX2 k).2.2.1 = some (tyX2 k) := by decide +kernel
abbrev cX2_init : ByteArray := prog_4_method_1_code
def yX2_init : MethodName := ⟨RX2, "<init>", "()V"⟩
abbrev cX2_signAt : ByteArray := prog_4_method_2_code
def yX2_signAt : MethodName := ⟨RX2, "signAt", "(I)I"⟩
abbrev cX2_append : ByteArray := prog_4_method_3_code
def yX2_append : MethodName := ⟨RX2, "append", "(I)V"⟩
def RX3 : String := "HeavyGuests$Row"
def TX3 : u_T := fun k => match k with
  | 0 => ("HeavyGuests$Row", "guests", "[I", true)
  | 1 => ("HeavyGuests$Row", "counts", "[I", true)
  | 2 => ("HeavyGuests$Row", "excesses", "[I", true)
  | 3 => ("HeavyGuests$Row", "seats", "I", false)
  | _ => ("HeavyGuests$Row", "taken", "I", false)
def tyX3 : Nat → FieldType := fun k => match k with
  | 0 => .array .int
  | 1 => .array .int
  | 2 => .array .int
  | 3 => .int
  | _ => .int
abbrev wsX30 : List Cond := u_ws RX3 TX3 5
theorem nmX3 : ∀ a, a < 5 → ∀ b, b < 5 → a ≠ b → (TX3 a).2.1 ≠ (TX3 b).2.1 := by decide +kernel
theorem tyX3_ok : ∀ k, k < 5 → parseFieldDescriptor (TX3 k).2.2.1 = some (tyX3 k) := by decide +kernel
abbrev cX3_init : ByteArray := prog_5_method_1_code
def yX3_init : MethodName := ⟨RX3, "<init>", "(I)V"⟩
abbrev cX3_copyFrom : ByteArray := prog_5_method_2_code
def yX3_copyFrom : MethodName := ⟨RX3, "copyFrom", "(LHeavyGuests$Row;)V"⟩
abbrev cX3_isTaken : ByteArray := prog_5_method_3_code
def yX3_isTaken : MethodName := ⟨RX3, "isTaken", "(I)Z"⟩
abbrev cX3_guestAt : ByteArray := prog_5_method_4_code
def yX3_guestAt : MethodName := ⟨RX3, "guestAt", "(I)I"⟩
abbrev cX3_countAt : ByteArray := prog_5_method_5_code
def yX3_countAt : MethodName := ⟨RX3, "countAt", "(I)I"⟩
abbrev cX3_excessAt : ByteArray := prog_5_method_6_code
def yX3_excessAt : MethodName := ⟨RX3, "excessAt", "(I)I"⟩
abbrev cX3_seatOf : ByteArray := prog_5_method_7_code
def yX3_seatOf : MethodName := ⟨RX3, "seatOf", "(I)I"⟩
abbrev cX3_mostOf : ByteArray := prog_5_method_8_code
def yX3_mostOf : MethodName := ⟨RX3, "mostOf", "(I)I"⟩
abbrev cX3_leastOf : ByteArray := prog_5_method_9_code
def yX3_leastOf : MethodName := ⟨RX3, "leastOf", "(I)I"⟩
abbrev cX3_leastAt : ByteArray := prog_5_method_10_code
def yX3_leastAt : MethodName := ⟨RX3, "leastAt", "(I)I"⟩
abbrev cX3_mostWithoutSeat : ByteArray := prog_5_method_11_code
def yX3_mostWithoutSeat : MethodName := ⟨RX3, "mostWithoutSeat", "()I"⟩
abbrev cX3_sumOfCounts : ByteArray := prog_5_method_12_code
def yX3_sumOfCounts : MethodName := ⟨RX3, "sumOfCounts", "()I"⟩
abbrev cX3_greatestExcess : ByteArray := prog_5_method_13_code
def yX3_greatestExcess : MethodName := ⟨RX3, "greatestExcess", "()I"⟩
abbrev cX3_surelyAbove : ByteArray := prog_5_method_14_code
def yX3_surelyAbove : MethodName := ⟨RX3, "surelyAbove", "(I)I"⟩
abbrev cX3_perhapsAbove : ByteArray := prog_5_method_15_code
def yX3_perhapsAbove : MethodName := ⟨RX3, "perhapsAbove", "(I)I"⟩
abbrev cX3_seatFor : ByteArray := prog_5_method_16_code
def yX3_seatFor : MethodName := ⟨RX3, "seatFor", "(I)I"⟩
abbrev cX3_firstToGo : ByteArray := prog_5_method_17_code
def yX3_firstToGo : MethodName := ⟨RX3, "firstToGo", "()I"⟩
abbrev cX3_goesBefore : ByteArray := prog_5_method_18_code
def yX3_goesBefore : MethodName := ⟨RX3, "goesBefore", "(II)Z"⟩
abbrev cX3_isHeavier : ByteArray := prog_5_method_19_code
def yX3_isHeavier : MethodName := ⟨RX3, "isHeavier", "(II)Z"⟩
abbrev cX3_seatAtPlace : ByteArray := prog_5_method_20_code
def yX3_seatAtPlace : MethodName := ⟨RX3, "seatAtPlace", "(I)I"⟩
abbrev cX3_heavierThan : ByteArray := prog_5_method_21_code
def yX3_heavierThan : MethodName := ⟨RX3, "heavierThan", "(I)I"⟩
abbrev cX3_placesInSureOrder : ByteArray := prog_5_method_22_code
def yX3_placesInSureOrder : MethodName := ⟨RX3, "placesInSureOrder", "()I"⟩
abbrev cX3_serve : ByteArray := prog_5_method_23_code
def yX3_serve : MethodName := ⟨RX3, "serve", "(III)Z"⟩
abbrev cX3_append : ByteArray := prog_5_method_24_code
def yX3_append : MethodName := ⟨RX3, "append", "(III)V"⟩
abbrev cX3_insertByWeight : ByteArray := prog_5_method_25_code
def yX3_insertByWeight : MethodName := ⟨RX3, "insertByWeight", "(III)V"⟩
abbrev cX3_swapWithFormer : ByteArray := prog_5_method_26_code
def yX3_swapWithFormer : MethodName := ⟨RX3, "swapWithFormer", "(I)V"⟩
abbrev cX3_clear : ByteArray := prog_5_method_27_code
def yX3_clear : MethodName := ⟨RX3, "clear", "()V"⟩
abbrev cX3_replaceByFirstOf : ByteArray := prog_5_method_28_code
def yX3_replaceByFirstOf : MethodName := ⟨RX3, "replaceByFirstOf", "(LHeavyGuests$Row;)V"⟩
abbrev cX3_changeSeats : ByteArray := prog_5_method_29_code
def yX3_changeSeats : MethodName := ⟨RX3, "changeSeats", "(I)V"⟩
abbrev cX3_giveUp : ByteArray := prog_5_method_30_code
def yX3_giveUp : MethodName := ⟨RX3, "giveUp", "(I)V"⟩
abbrev cX3_halve : ByteArray := prog_5_method_31_code
def yX3_halve : MethodName := ⟨RX3, "halve", "()V"⟩
def RX4 : String := "HeavyGuests$Slot"
def TX4 : u_T := fun k => match k with
  | 0 => ("HeavyGuests$Slot", "state", "LHeavyGuests$State;", true)
  | _ => ("HeavyGuests$Slot", "isUsed", "Z", false)
def tyX4 : Nat → FieldType := fun k => match k with
  | 0 => .object "HeavyGuests$State"
  | _ => .boolean
abbrev wsX40 : List Cond := u_ws RX4 TX4 2
theorem nmX4 : ∀ a, a < 2 → ∀ b, b < 2 → a ≠ b → (TX4 a).2.1 ≠ (TX4 b).2.1 := by decide +kernel
theorem tyX4_ok : ∀ k, k < 2 → parseFieldDescriptor (TX4 k).2.2.1 = some (tyX4 k) := by decide +kernel
abbrev cX4_init : ByteArray := prog_6_method_1_code
def yX4_init : MethodName := ⟨RX4, "<init>", "()V"⟩
def RX5 : String := "HeavyGuests$State"
def TX5 : u_T := fun k => match k with
  | 0 => ("HeavyGuests$State", "zero", "LHeavyGuests$Stream;", true)
  | _ => ("HeavyGuests$State", "one", "LHeavyGuests$Stream;", true)
def tyX5 : Nat → FieldType := fun k => match k with
  | 0 => .object "HeavyGuests$Stream"
  | _ => .object "HeavyGuests$Stream"
abbrev wsX50 : List Cond := u_ws RX5 TX5 2
theorem nmX5 : ∀ a, a < 2 → ∀ b, b < 2 → a ≠ b → (TX5 a).2.1 ≠ (TX5 b).2.1 := by decide +kernel
theorem tyX5_ok : ∀ k, k < 2 → parseFieldDescriptor (TX5 k).2.2.1 = some (tyX5 k) := by decide +kernel
abbrev cX5_init : ByteArray := prog_7_method_1_code
def yX5_init : MethodName := ⟨RX5, "<init>", "()V"⟩
abbrev cX5_copyFrom : ByteArray := prog_7_method_2_code
def yX5_copyFrom : MethodName := ⟨RX5, "copyFrom", "(LHeavyGuests$State;)V"⟩
abbrev cX5_streamOf : ByteArray := prog_7_method_3_code
def yX5_streamOf : MethodName := ⟨RX5, "streamOf", "(I)LHeavyGuests$Stream;"⟩
abbrev cX5_seatsOfEach : ByteArray := prog_7_method_4_code
def yX5_seatsOfEach : MethodName := ⟨RX5, "seatsOfEach", "()I"⟩
abbrev cX5_changeSeats : ByteArray := prog_7_method_5_code
def yX5_changeSeats : MethodName := ⟨RX5, "changeSeats", "(I)V"⟩
abbrev cX5_errorOfJoining : ByteArray := prog_7_method_6_code
def yX5_errorOfJoining : MethodName := ⟨RX5, "errorOfJoining", "()I"⟩
abbrev cX5_joinStreams : ByteArray := prog_7_method_7_code
def yX5_joinStreams : MethodName := ⟨RX5, "joinStreams", "(LHeavyGuests$Row;)V"⟩
abbrev cX5_insertJoined : ByteArray := prog_7_method_8_code
def yX5_insertJoined : MethodName := ⟨RX5, "insertJoined", "(LHeavyGuests$Row;I)V"⟩
def RX6 : String := "HeavyGuests$Stream"
def TX6 : u_T := fun k => match k with
  | 0 => ("HeavyGuests$Stream", "row", "LHeavyGuests$Row;", true)
  | 1 => ("HeavyGuests$Stream", "tally", "LHeavyGuests$Tally;", true)
  | 2 => ("HeavyGuests$Stream", "total", "I", false)
  | _ => ("HeavyGuests$Stream", "takeovers", "I", false)
def tyX6 : Nat → FieldType := fun k => match k with
  | 0 => .object "HeavyGuests$Row"
  | 1 => .object "HeavyGuests$Tally"
  | 2 => .int
  | _ => .int
abbrev wsX60 : List Cond := u_ws RX6 TX6 4
theorem nmX6 : ∀ a, a < 4 → ∀ b, b < 4 → a ≠ b → (TX6 a).2.1 ≠ (TX6 b).2.1 := by decide +kernel
theorem tyX6_ok : ∀ k, k < 4 → parseFieldDescriptor (TX6 k).2.2.1 = some (tyX6 k) := by decide +kernel
abbrev cX6_init : ByteArray := prog_8_method_1_code
def yX6_init : MethodName := ⟨RX6, "<init>", "()V"⟩
abbrev cX6_copyFrom : ByteArray := prog_8_method_2_code
def yX6_copyFrom : MethodName := ⟨RX6, "copyFrom", "(LHeavyGuests$Stream;)V"⟩
abbrev cX6_errorOfComing : ByteArray := prog_8_method_3_code
def yX6_errorOfComing : MethodName := ⟨RX6, "errorOfComing", "(II)I"⟩
abbrev cX6_letCome : ByteArray := prog_8_method_4_code
def yX6_letCome : MethodName := ⟨RX6, "letCome", "(II)I"⟩
abbrev cX6_halve : ByteArray := prog_8_method_5_code
def yX6_halve : MethodName := ⟨RX6, "halve", "()V"⟩
abbrev cX6_beginAnew : ByteArray := prog_8_method_6_code
def yX6_beginAnew : MethodName := ⟨RX6, "beginAnew", "()V"⟩
def RX7 : String := "HeavyGuests$Tally"
def TX7 : u_T := fun k => match k with
  | 0 => ("HeavyGuests$Tally", "guests", "[I", true)
  | 1 => ("HeavyGuests$Tally", "counts", "[I", true)
  | _ => ("HeavyGuests$Tally", "size", "I", false)
def tyX7 : Nat → FieldType := fun k => match k with
  | 0 => .array .int
  | 1 => .array .int
  | _ => .int
abbrev wsX70 : List Cond := u_ws RX7 TX7 3
theorem nmX7 : ∀ a, a < 3 → ∀ b, b < 3 → a ≠ b → (TX7 a).2.1 ≠ (TX7 b).2.1 := by decide +kernel
theorem tyX7_ok : ∀ k, k < 3 → parseFieldDescriptor (TX7 k).2.2.1 = some (tyX7 k) := by decide +kernel
abbrev cX7_init : ByteArray := prog_9_method_1_code
def yX7_init : MethodName := ⟨RX7, "<init>", "()V"⟩
abbrev cX7_copyFrom : ByteArray := prog_9_method_2_code
def yX7_copyFrom : MethodName := ⟨RX7, "copyFrom", "(LHeavyGuests$Tally;)V"⟩
abbrev cX7_hasPlace : ByteArray := prog_9_method_3_code
def yX7_hasPlace : MethodName := ⟨RX7, "hasPlace", "(I)Z"⟩
abbrev cX7_guestAt : ByteArray := prog_9_method_4_code
def yX7_guestAt : MethodName := ⟨RX7, "guestAt", "(I)I"⟩
abbrev cX7_timesAt : ByteArray := prog_9_method_5_code
def yX7_timesAt : MethodName := ⟨RX7, "timesAt", "(I)I"⟩
abbrev cX7_placeOf : ByteArray := prog_9_method_6_code
def yX7_placeOf : MethodName := ⟨RX7, "placeOf", "(I)I"⟩
abbrev cX7_timesOf : ByteArray := prog_9_method_7_code
def yX7_timesOf : MethodName := ⟨RX7, "timesOf", "(I)I"⟩
abbrev cX7_trulyAbove : ByteArray := prog_9_method_8_code
def yX7_trulyAbove : MethodName := ⟨RX7, "trulyAbove", "(I)I"⟩
abbrev cX7_unlikeGuestsWith : ByteArray := prog_9_method_9_code
def yX7_unlikeGuestsWith : MethodName := ⟨RX7, "unlikeGuestsWith", "(LHeavyGuests$Tally;)I"⟩
abbrev cX7_add : ByteArray := prog_9_method_10_code
def yX7_add : MethodName := ⟨RX7, "add", "(II)V"⟩
abbrev cX7_addAllOf : ByteArray := prog_9_method_11_code
def yX7_addAllOf : MethodName := ⟨RX7, "addAllOf", "(LHeavyGuests$Tally;)V"⟩
abbrev cX7_append : ByteArray := prog_9_method_12_code
def yX7_append : MethodName := ⟨RX7, "append", "(II)V"⟩
abbrev cX7_moveUp : ByteArray := prog_9_method_13_code
def yX7_moveUp : MethodName := ⟨RX7, "moveUp", "(I)V"⟩
abbrev cX7_clear : ByteArray := prog_9_method_14_code
def yX7_clear : MethodName := ⟨RX7, "clear", "()V"⟩
abbrev cX7_halve : ByteArray := prog_9_method_15_code
def yX7_halve : MethodName := ⟨RX7, "halve", "()V"⟩
def RX8 : String := "HeavyGuests"
def TX8 : u_T := fun k => match k with
  | 0 => ("HeavyGuests", "now", "LHeavyGuests$State;", true)
  | 1 => ("HeavyGuests", "history", "LHeavyGuests$History;", true)
  | 2 => ("HeavyGuests", "slots", "[LHeavyGuests$Slot;", true)
  | 3 => ("HeavyGuests", "pad", "LHeavyGuests$Pad;", true)
  | 4 => ("HeavyGuests", "order", "LHeavyGuests$Order;", true)
  | _ => ("HeavyGuests", "joinedRow", "LHeavyGuests$Row;", true)
def tyX8 : Nat → FieldType := fun k => match k with
  | 0 => .object "HeavyGuests$State"
  | 1 => .object "HeavyGuests$History"
  | 2 => .array (.object "HeavyGuests$Slot")
  | 3 => .object "HeavyGuests$Pad"
  | 4 => .object "HeavyGuests$Order"
  | _ => .object "HeavyGuests$Row"
abbrev wsX80 : List Cond := u_ws RX8 TX8 6
theorem nmX8 : ∀ a, a < 6 → ∀ b, b < 6 → a ≠ b → (TX8 a).2.1 ≠ (TX8 b).2.1 := by decide +kernel
theorem tyX8_ok : ∀ k, k < 6 → parseFieldDescriptor (TX8 k).2.2.1 = some (tyX8 k) := by decide +kernel
abbrev cX8_init : ByteArray := prog_1_method_1_code
def yX8_init : MethodName := ⟨RX8, "<init>", "()V"⟩
abbrev cX8_seats : ByteArray := prog_1_method_2_code
def yX8_seats : MethodName := ⟨RX8, "seats", "(I)I"⟩
abbrev cX8_come : ByteArray := prog_1_method_3_code
def yX8_come : MethodName := ⟨RX8, "come", "(III)I"⟩
abbrev cX8_age : ByteArray := prog_1_method_4_code
def yX8_age : MethodName := ⟨RX8, "age", "(I)I"⟩
abbrev cX8_join : ByteArray := prog_1_method_5_code
def yX8_join : MethodName := ⟨RX8, "join", "()I"⟩
abbrev cX8_seat : ByteArray := prog_1_method_6_code
def yX8_seat : MethodName := ⟨RX8, "seat", "(III)I"⟩
abbrev cX8_of : ByteArray := prog_1_method_7_code
def yX8_of : MethodName := ⟨RX8, "of", "(III)I"⟩
abbrev cX8_stream : ByteArray := prog_1_method_8_code
def yX8_stream : MethodName := ⟨RX8, "stream", "(II)I"⟩
abbrev cX8_count : ByteArray := prog_1_method_9_code
def yX8_count : MethodName := ⟨RX8, "count", "(I)I"⟩
abbrev cX8_above : ByteArray := prog_1_method_10_code
def yX8_above : MethodName := ⟨RX8, "above", "(III)I"⟩
abbrev cX8_heaviest : ByteArray := prog_1_method_11_code
def yX8_heaviest : MethodName := ⟨RX8, "heaviest", "(II)I"⟩
abbrev cX8_truly : ByteArray := prog_1_method_12_code
def yX8_truly : MethodName := ⟨RX8, "truly", "(II)I"⟩
abbrev cX8_sureOrder : ByteArray := prog_1_method_13_code
def yX8_sureOrder : MethodName := ⟨RX8, "sureOrder", "(I)I"⟩
abbrev cX8_wouldTake : ByteArray := prog_1_method_14_code
def yX8_wouldTake : MethodName := ⟨RX8, "wouldTake", "(II)I"⟩
abbrev cX8_doubt : ByteArray := prog_1_method_15_code
def yX8_doubt : MethodName := ⟨RX8, "doubt", "(II)I"⟩
abbrev cX8_put : ByteArray := prog_1_method_16_code
def yX8_put : MethodName := ⟨RX8, "put", "(J)I"⟩
abbrev cX8_wipe : ByteArray := prog_1_method_17_code
def yX8_wipe : MethodName := ⟨RX8, "wipe", "()I"⟩
abbrev cX8_fault : ByteArray := prog_1_method_18_code
def yX8_fault : MethodName := ⟨RX8, "fault", "()I"⟩
abbrev cX8_carryOut : ByteArray := prog_1_method_19_code
def yX8_carryOut : MethodName := ⟨RX8, "carryOut", "()I"⟩
abbrev cX8_undo : ByteArray := prog_1_method_20_code
def yX8_undo : MethodName := ⟨RX8, "undo", "()I"⟩
abbrev cX8_save : ByteArray := prog_1_method_21_code
def yX8_save : MethodName := ⟨RX8, "save", "(I)I"⟩
abbrev cX8_restore : ByteArray := prog_1_method_22_code
def yX8_restore : MethodName := ⟨RX8, "restore", "(I)I"⟩
abbrev cX8_isStream : ByteArray := prog_1_method_23_code
def yX8_isStream : MethodName := ⟨RX8, "isStream", "(I)Z"⟩
abbrev cX8_isSlot : ByteArray := prog_1_method_24_code
def yX8_isSlot : MethodName := ⟨RX8, "isSlot", "(I)Z"⟩
abbrev cX8_errorOfAsking : ByteArray := prog_1_method_25_code
def yX8_errorOfAsking : MethodName := ⟨RX8, "errorOfAsking", "(II)I"⟩
abbrev cX8_isCode : ByteArray := prog_1_method_26_code
def yX8_isCode : MethodName := ⟨RX8, "isCode", "(I)Z"⟩
abbrev cX8_lettersOf : ByteArray := prog_1_method_27_code
def yX8_lettersOf : MethodName := ⟨RX8, "lettersOf", "(I)I"⟩
abbrev cX8_numberOfSigns : ByteArray := prog_1_method_28_code
def yX8_numberOfSigns : MethodName := ⟨RX8, "numberOfSigns", "(J)I"⟩
abbrev cX8_carryOrderOut : ByteArray := prog_1_method_29_code
def yX8_carryOrderOut : MethodName := ⟨RX8, "carryOrderOut", "()I"⟩
def RX9 : String := "HeavyGuestsModel"
def TX9 : u_T := fun k => match k with
  | 0 => ("HeavyGuestsModel", "thrown", "I", false)
  | 1 => ("HeavyGuestsModel", "s", "[I", true)
  | 2 => ("HeavyGuestsModel", "undos", "[I", true)
  | 3 => ("HeavyGuestsModel", "undoMany", "I", false)
  | 4 => ("HeavyGuestsModel", "slots", "[I", true)
  | 5 => ("HeavyGuestsModel", "hasSlot", "[Z", true)
  | 6 => ("HeavyGuestsModel", "pad", "[I", true)
  | 7 => ("HeavyGuestsModel", "length", "I", false)
  | 8 => ("HeavyGuestsModel", "joined", "[I", true)
  | 9 => ("HeavyGuestsModel", "joinedMany", "I", false)
  | 10 => ("HeavyGuestsModel", "at", "I", false)
  | 11 => ("HeavyGuestsModel", "isWell", "Z", false)
  | 12 => ("HeavyGuestsModel", "orders", "[I", true)
  | _ => ("HeavyGuestsModel", "orderMany", "I", false)
def tyX9 : Nat → FieldType := fun k => match k with
  | 0 => .int
  | 1 => .array .int
  | 2 => .array .int
  | 3 => .int
  | 4 => .array .int
  | 5 => .array .boolean
  | 6 => .array .int
  | 7 => .int
  | 8 => .array .int
  | 9 => .int
  | 10 => .int
  | 11 => .boolean
  | 12 => .array .int
  | _ => .int
abbrev wsX90 : List Cond := u_ws RX9 TX9 14
theorem nmX9 : ∀ a, a < 14 → ∀ b, b < 14 → a ≠ b → (TX9 a).2.1 ≠ (TX9 b).2.1 := by decide +kernel
theorem tyX9_ok : ∀ k, k < 14 → parseFieldDescriptor (TX9 k).2.2.1 = some (tyX9 k) := by decide +kernel
abbrev cX9_init : ByteArray := prog_11_method_1_code
def yX9_init : MethodName := ⟨RX9, "<init>", "()V"⟩
abbrev cX9_in : ByteArray := prog_11_method_3_code
def yX9_in : MethodName := ⟨RX9, "in", "(III)Z"⟩
abbrev cX9_isStream : ByteArray := prog_11_method_4_code
def yX9_isStream : MethodName := ⟨RX9, "isStream", "(I)Z"⟩
abbrev cX9_isCode : ByteArray := prog_11_method_5_code
def yX9_isCode : MethodName := ⟨RX9, "isCode", "(I)Z"⟩
abbrev cX9_get : ByteArray := prog_11_method_6_code
def yX9_get : MethodName := ⟨RX9, "get", "(II)I"⟩
abbrev cX9_lay : ByteArray := prog_11_method_7_code
def yX9_lay : MethodName := ⟨RX9, "lay", "(III)V"⟩
abbrev cX9_guestOf : ByteArray := prog_11_method_8_code
def yX9_guestOf : MethodName := ⟨RX9, "guestOf", "(II)I"⟩
abbrev cX9_countOf : ByteArray := prog_11_method_9_code
def yX9_countOf : MethodName := ⟨RX9, "countOf", "(II)I"⟩
abbrev cX9_excessOf : ByteArray := prog_11_method_10_code
def yX9_excessOf : MethodName := ⟨RX9, "excessOf", "(II)I"⟩
abbrev cX9_records : ByteArray := prog_11_method_11_code
def yX9_records : MethodName := ⟨RX9, "records", "()V"⟩
abbrev cX9_seatOf : ByteArray := prog_11_method_12_code
def yX9_seatOf : MethodName := ⟨RX9, "seatOf", "(II)I"⟩
abbrev cX9_weakest : ByteArray := prog_11_method_13_code
def yX9_weakest : MethodName := ⟨RX9, "weakest", "(I)I"⟩
abbrev cX9_givesUp : ByteArray := prog_11_method_14_code
def yX9_givesUp : MethodName := ⟨RX9, "givesUp", "(II)V"⟩
abbrev cX9_isFull : ByteArray := prog_11_method_15_code
def yX9_isFull : MethodName := ⟨RX9, "isFull", "(I)Z"⟩
abbrev cX9_leastOf : ByteArray := prog_11_method_16_code
def yX9_leastOf : MethodName := ⟨RX9, "leastOf", "(I)I"⟩
abbrev cX9_most : ByteArray := prog_11_method_17_code
def yX9_most : MethodName := ⟨RX9, "most", "(II)I"⟩
abbrev cX9_least : ByteArray := prog_11_method_18_code
def yX9_least : MethodName := ⟨RX9, "least", "(II)I"⟩
abbrev cX9_trueAt : ByteArray := prog_11_method_19_code
def yX9_trueAt : MethodName := ⟨RX9, "trueAt", "(II)I"⟩
abbrev cX9_trueOf : ByteArray := prog_11_method_20_code
def yX9_trueOf : MethodName := ⟨RX9, "trueOf", "(II)I"⟩
abbrev cX9_countsTruly : ByteArray := prog_11_method_21_code
def yX9_countsTruly : MethodName := ⟨RX9, "countsTruly", "(III)V"⟩
abbrev cX9_seatFor : ByteArray := prog_11_method_22_code
def yX9_seatFor : MethodName := ⟨RX9, "seatFor", "(II)I"⟩
abbrev cX9_comes : ByteArray := prog_11_method_23_code
def yX9_comes : MethodName := ⟨RX9, "comes", "(III)I"⟩
abbrev cX9_seats : ByteArray := prog_11_method_24_code
def yX9_seats : MethodName := ⟨RX9, "seats", "(I)I"⟩
abbrev cX9_refusesCome : ByteArray := prog_11_method_25_code
def yX9_refusesCome : MethodName := ⟨RX9, "refusesCome", "(III)I"⟩
abbrev cX9_come : ByteArray := prog_11_method_26_code
def yX9_come : MethodName := ⟨RX9, "come", "(III)I"⟩
abbrev cX9_ages : ByteArray := prog_11_method_27_code
def yX9_ages : MethodName := ⟨RX9, "ages", "(I)V"⟩
abbrev cX9_age : ByteArray := prog_11_method_28_code
def yX9_age : MethodName := ⟨RX9, "age", "(I)I"⟩
abbrev cX9_refusesJoin : ByteArray := prog_11_method_29_code
def yX9_refusesJoin : MethodName := ⟨RX9, "refusesJoin", "()I"⟩
abbrev cX9_joinsGuest : ByteArray := prog_11_method_30_code
def yX9_joinsGuest : MethodName := ⟨RX9, "joinsGuest", "(I)V"⟩
abbrev cX9_aheadOf : ByteArray := prog_11_method_31_code
def yX9_aheadOf : MethodName := ⟨RX9, "aheadOf", "(I)I"⟩
abbrev cX9_joins : ByteArray := prog_11_method_32_code
def yX9_joins : MethodName := ⟨RX9, "joins", "()V"⟩
abbrev cX9_join : ByteArray := prog_11_method_33_code
def yX9_join : MethodName := ⟨RX9, "join", "()I"⟩
abbrev cX9_seat : ByteArray := prog_11_method_34_code
def yX9_seat : MethodName := ⟨RX9, "seat", "(III)I"⟩
abbrev cX9_lettersOf : ByteArray := prog_11_method_35_code
def yX9_lettersOf : MethodName := ⟨RX9, "lettersOf", "(I)I"⟩
abbrev cX9_of : ByteArray := prog_11_method_36_code
def yX9_of : MethodName := ⟨RX9, "of", "(III)I"⟩
abbrev cX9_sumOfCounts : ByteArray := prog_11_method_37_code
def yX9_sumOfCounts : MethodName := ⟨RX9, "sumOfCounts", "(I)I"⟩
abbrev cX9_greatestExcess : ByteArray := prog_11_method_38_code
def yX9_greatestExcess : MethodName := ⟨RX9, "greatestExcess", "(I)I"⟩
abbrev cX9_stream : ByteArray := prog_11_method_39_code
def yX9_stream : MethodName := ⟨RX9, "stream", "(II)I"⟩
abbrev cX9_count : ByteArray := prog_11_method_40_code
def yX9_count : MethodName := ⟨RX9, "count", "(I)I"⟩
abbrev cX9_above : ByteArray := prog_11_method_41_code
def yX9_above : MethodName := ⟨RX9, "above", "(III)I"⟩
abbrev cX9_rankOf : ByteArray := prog_11_method_42_code
def yX9_rankOf : MethodName := ⟨RX9, "rankOf", "(II)I"⟩
abbrev cX9_heavyAt : ByteArray := prog_11_method_43_code
def yX9_heavyAt : MethodName := ⟨RX9, "heavyAt", "(II)I"⟩
abbrev cX9_heaviest : ByteArray := prog_11_method_44_code
def yX9_heaviest : MethodName := ⟨RX9, "heaviest", "(II)I"⟩
abbrev cX9_trueRank : ByteArray := prog_11_method_45_code
def yX9_trueRank : MethodName := ⟨RX9, "trueRank", "(II)I"⟩
abbrev cX9_truly : ByteArray := prog_11_method_46_code
def yX9_truly : MethodName := ⟨RX9, "truly", "(II)I"⟩
abbrev cX9_sureOrder : ByteArray := prog_11_method_47_code
def yX9_sureOrder : MethodName := ⟨RX9, "sureOrder", "(I)I"⟩
abbrev cX9_wouldTake : ByteArray := prog_11_method_48_code
def yX9_wouldTake : MethodName := ⟨RX9, "wouldTake", "(II)I"⟩
abbrev cX9_doubt : ByteArray := prog_11_method_49_code
def yX9_doubt : MethodName := ⟨RX9, "doubt", "(II)I"⟩
abbrev cX9_put : ByteArray := prog_11_method_50_code
def yX9_put : MethodName := ⟨RX9, "put", "(J)I"⟩
abbrev cX9_wipe : ByteArray := prog_11_method_51_code
def yX9_wipe : MethodName := ⟨RX9, "wipe", "()I"⟩
abbrev cX9_sign : ByteArray := prog_11_method_52_code
def yX9_sign : MethodName := ⟨RX9, "sign", "()I"⟩
abbrev cX9_takes : ByteArray := prog_11_method_53_code
def yX9_takes : MethodName := ⟨RX9, "takes", "(II)I"⟩
abbrev cX9_name : ByteArray := prog_11_method_54_code
def yX9_name : MethodName := ⟨RX9, "name", "()I"⟩
abbrev cX9_number : ByteArray := prog_11_method_55_code
def yX9_number : MethodName := ⟨RX9, "number", "()I"⟩
abbrev cX9_readsOrder : ByteArray := prog_11_method_56_code
def yX9_readsOrder : MethodName := ⟨RX9, "readsOrder", "()V"⟩
abbrev cX9_reads : ByteArray := prog_11_method_57_code
def yX9_reads : MethodName := ⟨RX9, "reads", "()I"⟩
abbrev cX9_fault : ByteArray := prog_11_method_58_code
def yX9_fault : MethodName := ⟨RX9, "fault", "()I"⟩
abbrev cX9_does : ByteArray := prog_11_method_59_code
def yX9_does : MethodName := ⟨RX9, "does", "(III)Z"⟩
abbrev cX9_carryOut : ByteArray := prog_11_method_60_code
def yX9_carryOut : MethodName := ⟨RX9, "carryOut", "()I"⟩
abbrev cX9_undo : ByteArray := prog_11_method_61_code
def yX9_undo : MethodName := ⟨RX9, "undo", "()I"⟩
abbrev cX9_save : ByteArray := prog_11_method_62_code
def yX9_save : MethodName := ⟨RX9, "save", "(I)I"⟩
abbrev cX9_restore : ByteArray := prog_11_method_63_code
def yX9_restore : MethodName := ⟨RX9, "restore", "(I)I"⟩
def RJ9 : String := "java/lang/Math"
def TJ9 : u_T := fun k => match k with
  | _ => ("", "", "", false)
def tyJ9 : Nat → FieldType := fun k => match k with
  | _ => .int
abbrev wsJ90 : List Cond := u_ws RJ9 TJ9 0
theorem nmJ9 : ∀ a, a < 0 → ∀ b, b < 0 → a ≠ b → (TJ9 a).2.1 ≠ (TJ9 b).2.1 := by decide +kernel
theorem tyJ9_ok : ∀ k, k < 0 → parseFieldDescriptor (TJ9 k).2.2.1 = some (tyJ9 k) := by decide +kernel
abbrev cJ9_max_7cf53 : ByteArray := prog_12_method_65_code
def yJ9_max_7cf53 : MethodName := ⟨RJ9, "max", "(II)I"⟩
abbrev cJ9_min_7cf53 : ByteArray := prog_12_method_69_code
def yJ9_min_7cf53 : MethodName := ⟨RJ9, "min", "(II)I"⟩
def RJ10 : String := "java/lang/System"
def TJ10 : u_T := fun k => match k with
  | _ => ("", "", "", false)
def tyJ10 : Nat → FieldType := fun k => match k with
  | _ => .int
abbrev wsJ100 : List Cond := u_ws RJ10 TJ10 0
theorem nmJ10 : ∀ a, a < 0 → ∀ b, b < 0 → a ≠ b → (TJ10 a).2.1 ≠ (TJ10 b).2.1 := by decide +kernel
theorem tyJ10_ok : ∀ k, k < 0 → parseFieldDescriptor (TJ10 k).2.2.1 = some (tyJ10 k) := by decide +kernel
def RL : String := "HeavyGuestsLaw"
abbrev cL_law : ByteArray := code
def yL_law : MethodName := ⟨RL, "law", "([I)Z"⟩
