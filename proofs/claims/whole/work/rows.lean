section
-- ===== PART A: goes FIRST, ahead of the names: the tables' words, and 'selects' of the private methods out of them =====
/-- a private method of a class that the tables say can be made, by its rows of tables_1 -/
def lw_okq (q : MethodName × Nat) : Prop := (q.1.cls ≠ "java/lang/invoke/MethodHandle" ∧ q.1.cls ≠ "java/lang/invoke/VarHandle") ∧ Cond.instantiable q.1.cls q.2 ∈ tables_1 ∧ Cond.privateMethod q.1 ∈ tables_1 ∧ Cond.instanceMethod q.1 ∈ tables_1
theorem lw_p0 : lw_okq (⟨"HeavyGuests$History", "dropOldest", "()V"⟩, 2) := ⟨⟨by decide +kernel, by decide +kernel⟩, List.mem_of_getElem? (i := 105) (by decide +kernel), List.mem_of_getElem? (i := 211) (by decide +kernel), List.mem_of_getElem? (i := 212) (by decide +kernel)⟩
theorem lw_p1 : lw_okq (⟨"HeavyGuests$Row", "goesBefore", "(II)Z"⟩, 5) := ⟨⟨by decide +kernel, by decide +kernel⟩, List.mem_of_getElem? (i := 34) (by decide +kernel), List.mem_of_getElem? (i := 251) (by decide +kernel), List.mem_of_getElem? (i := 252) (by decide +kernel)⟩
theorem lw_p2 : lw_okq (⟨"HeavyGuests$Row", "giveUp", "(I)V"⟩, 5) := ⟨⟨by decide +kernel, by decide +kernel⟩, List.mem_of_getElem? (i := 34) (by decide +kernel), List.mem_of_getElem? (i := 263) (by decide +kernel), List.mem_of_getElem? (i := 264) (by decide +kernel)⟩
theorem lw_p3 : lw_okq (⟨"HeavyGuests$Row", "append", "(III)V"⟩, 5) := ⟨⟨by decide +kernel, by decide +kernel⟩, List.mem_of_getElem? (i := 34) (by decide +kernel), List.mem_of_getElem? (i := 319) (by decide +kernel), List.mem_of_getElem? (i := 320) (by decide +kernel)⟩
theorem lw_p4 : lw_okq (⟨"HeavyGuests$Tally", "append", "(II)V"⟩, 3) := ⟨⟨by decide +kernel, by decide +kernel⟩, List.mem_of_getElem? (i := 60) (by decide +kernel), List.mem_of_getElem? (i := 328) (by decide +kernel), List.mem_of_getElem? (i := 329) (by decide +kernel)⟩
theorem lw_p5 : lw_okq (⟨"HeavyGuests$Tally", "moveUp", "(I)V"⟩, 3) := ⟨⟨by decide +kernel, by decide +kernel⟩, List.mem_of_getElem? (i := 60) (by decide +kernel), List.mem_of_getElem? (i := 336) (by decide +kernel), List.mem_of_getElem? (i := 337) (by decide +kernel)⟩
theorem lw_p6 : lw_okq (⟨"HeavyGuests$State", "insertJoined", "(LHeavyGuests$Row;I)V"⟩, 2) := ⟨⟨by decide +kernel, by decide +kernel⟩, List.mem_of_getElem? (i := 22) (by decide +kernel), List.mem_of_getElem? (i := 383) (by decide +kernel), List.mem_of_getElem? (i := 384) (by decide +kernel)⟩
theorem lw_p7 : lw_okq (⟨"HeavyGuests$Row", "swapWithFormer", "(I)V"⟩, 5) := ⟨⟨by decide +kernel, by decide +kernel⟩, List.mem_of_getElem? (i := 34) (by decide +kernel), List.mem_of_getElem? (i := 414) (by decide +kernel), List.mem_of_getElem? (i := 415) (by decide +kernel)⟩
theorem lw_p8 : lw_okq (⟨"HeavyGuests$Row", "heavierThan", "(I)I"⟩, 5) := ⟨⟨by decide +kernel, by decide +kernel⟩, List.mem_of_getElem? (i := 34) (by decide +kernel), List.mem_of_getElem? (i := 508) (by decide +kernel), List.mem_of_getElem? (i := 509) (by decide +kernel)⟩
theorem lw_p9 : lw_okq (⟨"HeavyGuests$Order", "readEnd", "()Z"⟩, 6) := ⟨⟨by decide +kernel, by decide +kernel⟩, List.mem_of_getElem? (i := 153) (by decide +kernel), List.mem_of_getElem? (i := 568) (by decide +kernel), List.mem_of_getElem? (i := 569) (by decide +kernel)⟩
theorem lw_p10 : lw_okq (⟨"HeavyGuests$Order", "readStart", "(I)Z"⟩, 6) := ⟨⟨by decide +kernel, by decide +kernel⟩, List.mem_of_getElem? (i := 153) (by decide +kernel), List.mem_of_getElem? (i := 577) (by decide +kernel), List.mem_of_getElem? (i := 578) (by decide +kernel)⟩
theorem lw_p11 : lw_okq (⟨"HeavyGuests$Order", "readLetter", "(I)Z"⟩, 6) := ⟨⟨by decide +kernel, by decide +kernel⟩, List.mem_of_getElem? (i := 153) (by decide +kernel), List.mem_of_getElem? (i := 581) (by decide +kernel), List.mem_of_getElem? (i := 582) (by decide +kernel)⟩
theorem lw_p12 : lw_okq (⟨"HeavyGuests$Order", "readStar", "()Z"⟩, 6) := ⟨⟨by decide +kernel, by decide +kernel⟩, List.mem_of_getElem? (i := 153) (by decide +kernel), List.mem_of_getElem? (i := 585) (by decide +kernel), List.mem_of_getElem? (i := 586) (by decide +kernel)⟩
theorem lw_p13 : lw_okq (⟨"HeavyGuests$Order", "readFirstDigit", "(I)Z"⟩, 6) := ⟨⟨by decide +kernel, by decide +kernel⟩, List.mem_of_getElem? (i := 153) (by decide +kernel), List.mem_of_getElem? (i := 589) (by decide +kernel), List.mem_of_getElem? (i := 590) (by decide +kernel)⟩
theorem lw_p14 : lw_okq (⟨"HeavyGuests$Order", "readDigit", "(I)Z"⟩, 6) := ⟨⟨by decide +kernel, by decide +kernel⟩, List.mem_of_getElem? (i := 153) (by decide +kernel), List.mem_of_getElem? (i := 596) (by decide +kernel), List.mem_of_getElem? (i := 597) (by decide +kernel)⟩
theorem lw_p15 : lw_okq (⟨"HeavyGuests$Order", "readAgeing", "(I)Z"⟩, 6) := ⟨⟨by decide +kernel, by decide +kernel⟩, List.mem_of_getElem? (i := 153) (by decide +kernel), List.mem_of_getElem? (i := 600) (by decide +kernel), List.mem_of_getElem? (i := 601) (by decide +kernel)⟩
def lw_privs_1 : List (MethodName × Nat) := [(⟨"HeavyGuests$History", "dropOldest", "()V"⟩, 2), (⟨"HeavyGuests$Row", "goesBefore", "(II)Z"⟩, 5), (⟨"HeavyGuests$Row", "giveUp", "(I)V"⟩, 5), (⟨"HeavyGuests$Row", "append", "(III)V"⟩, 5), (⟨"HeavyGuests$Tally", "append", "(II)V"⟩, 3), (⟨"HeavyGuests$Tally", "moveUp", "(I)V"⟩, 3), (⟨"HeavyGuests$State", "insertJoined", "(LHeavyGuests$Row;I)V"⟩, 2), (⟨"HeavyGuests$Row", "swapWithFormer", "(I)V"⟩, 5), (⟨"HeavyGuests$Row", "heavierThan", "(I)I"⟩, 5), (⟨"HeavyGuests$Order", "readEnd", "()Z"⟩, 6), (⟨"HeavyGuests$Order", "readStart", "(I)Z"⟩, 6), (⟨"HeavyGuests$Order", "readLetter", "(I)Z"⟩, 6), (⟨"HeavyGuests$Order", "readStar", "()Z"⟩, 6), (⟨"HeavyGuests$Order", "readFirstDigit", "(I)Z"⟩, 6), (⟨"HeavyGuests$Order", "readDigit", "(I)Z"⟩, 6), (⟨"HeavyGuests$Order", "readAgeing", "(I)Z"⟩, 6)]
theorem lw_r1 : ∀ q ∈ lw_privs_1, lw_okq q := List.forall_mem_cons.mpr ⟨lw_p0, List.forall_mem_cons.mpr ⟨lw_p1, List.forall_mem_cons.mpr ⟨lw_p2, List.forall_mem_cons.mpr ⟨lw_p3, List.forall_mem_cons.mpr ⟨lw_p4, List.forall_mem_cons.mpr ⟨lw_p5, List.forall_mem_cons.mpr ⟨lw_p6, List.forall_mem_cons.mpr ⟨lw_p7, List.forall_mem_cons.mpr ⟨lw_p8, List.forall_mem_cons.mpr ⟨lw_p9, List.forall_mem_cons.mpr ⟨lw_p10, List.forall_mem_cons.mpr ⟨lw_p11, List.forall_mem_cons.mpr ⟨lw_p12, List.forall_mem_cons.mpr ⟨lw_p13, List.forall_mem_cons.mpr ⟨lw_p14, List.forall_mem_cons.mpr ⟨lw_p15, fun _ h => absurd h List.not_mem_nil⟩⟩⟩⟩⟩⟩⟩⟩⟩⟩⟩⟩⟩⟩⟩⟩
theorem lw_p16 : lw_okq (⟨"HeavyGuests", "carryOrderOut", "()I"⟩, 6) := ⟨⟨by decide +kernel, by decide +kernel⟩, List.mem_of_getElem? (i := 14) (by decide +kernel), List.mem_of_getElem? (i := 610) (by decide +kernel), List.mem_of_getElem? (i := 611) (by decide +kernel)⟩
theorem lw_p17 : lw_okq (⟨"HeavyGuests", "isSlot", "(I)Z"⟩, 6) := ⟨⟨by decide +kernel, by decide +kernel⟩, List.mem_of_getElem? (i := 14) (by decide +kernel), List.mem_of_getElem? (i := 626) (by decide +kernel), List.mem_of_getElem? (i := 627) (by decide +kernel)⟩
theorem lw_p18 : lw_okq (⟨"HeavyGuestsModel", "records", "()V"⟩, 14) := ⟨⟨by decide +kernel, by decide +kernel⟩, List.mem_of_getElem? (i := 635) (by decide +kernel), List.mem_of_getElem? (i := 692) (by decide +kernel), List.mem_of_getElem? (i := 693) (by decide +kernel)⟩
theorem lw_p19 : lw_okq (⟨"HeavyGuestsModel", "get", "(II)I"⟩, 14) := ⟨⟨by decide +kernel, by decide +kernel⟩, List.mem_of_getElem? (i := 635) (by decide +kernel), List.mem_of_getElem? (i := 696) (by decide +kernel), List.mem_of_getElem? (i := 697) (by decide +kernel)⟩
theorem lw_p20 : lw_okq (⟨"HeavyGuestsModel", "weakest", "(I)I"⟩, 14) := ⟨⟨by decide +kernel, by decide +kernel⟩, List.mem_of_getElem? (i := 635) (by decide +kernel), List.mem_of_getElem? (i := 700) (by decide +kernel), List.mem_of_getElem? (i := 701) (by decide +kernel)⟩
theorem lw_p21 : lw_okq (⟨"HeavyGuestsModel", "countOf", "(II)I"⟩, 14) := ⟨⟨by decide +kernel, by decide +kernel⟩, List.mem_of_getElem? (i := 635) (by decide +kernel), List.mem_of_getElem? (i := 704) (by decide +kernel), List.mem_of_getElem? (i := 705) (by decide +kernel)⟩
theorem lw_p22 : lw_okq (⟨"HeavyGuestsModel", "excessOf", "(II)I"⟩, 14) := ⟨⟨by decide +kernel, by decide +kernel⟩, List.mem_of_getElem? (i := 635) (by decide +kernel), List.mem_of_getElem? (i := 708) (by decide +kernel), List.mem_of_getElem? (i := 709) (by decide +kernel)⟩
theorem lw_p23 : lw_okq (⟨"HeavyGuestsModel", "givesUp", "(II)V"⟩, 14) := ⟨⟨by decide +kernel, by decide +kernel⟩, List.mem_of_getElem? (i := 635) (by decide +kernel), List.mem_of_getElem? (i := 712) (by decide +kernel), List.mem_of_getElem? (i := 713) (by decide +kernel)⟩
theorem lw_p24 : lw_okq (⟨"HeavyGuestsModel", "lay", "(III)V"⟩, 14) := ⟨⟨by decide +kernel, by decide +kernel⟩, List.mem_of_getElem? (i := 635) (by decide +kernel), List.mem_of_getElem? (i := 716) (by decide +kernel), List.mem_of_getElem? (i := 717) (by decide +kernel)⟩
theorem lw_p25 : lw_okq (⟨"HeavyGuestsModel", "refusesCome", "(III)I"⟩, 14) := ⟨⟨by decide +kernel, by decide +kernel⟩, List.mem_of_getElem? (i := 635) (by decide +kernel), List.mem_of_getElem? (i := 724) (by decide +kernel), List.mem_of_getElem? (i := 725) (by decide +kernel)⟩
theorem lw_p26 : lw_okq (⟨"HeavyGuestsModel", "trueAt", "(II)I"⟩, 14) := ⟨⟨by decide +kernel, by decide +kernel⟩, List.mem_of_getElem? (i := 635) (by decide +kernel), List.mem_of_getElem? (i := 735) (by decide +kernel), List.mem_of_getElem? (i := 736) (by decide +kernel)⟩
theorem lw_p27 : lw_okq (⟨"HeavyGuestsModel", "comes", "(III)I"⟩, 14) := ⟨⟨by decide +kernel, by decide +kernel⟩, List.mem_of_getElem? (i := 635) (by decide +kernel), List.mem_of_getElem? (i := 740) (by decide +kernel), List.mem_of_getElem? (i := 741) (by decide +kernel)⟩
theorem lw_p28 : lw_okq (⟨"HeavyGuestsModel", "seatFor", "(II)I"⟩, 14) := ⟨⟨by decide +kernel, by decide +kernel⟩, List.mem_of_getElem? (i := 635) (by decide +kernel), List.mem_of_getElem? (i := 744) (by decide +kernel), List.mem_of_getElem? (i := 745) (by decide +kernel)⟩
theorem lw_p29 : lw_okq (⟨"HeavyGuestsModel", "seatOf", "(II)I"⟩, 14) := ⟨⟨by decide +kernel, by decide +kernel⟩, List.mem_of_getElem? (i := 635) (by decide +kernel), List.mem_of_getElem? (i := 748) (by decide +kernel), List.mem_of_getElem? (i := 749) (by decide +kernel)⟩
theorem lw_p30 : lw_okq (⟨"HeavyGuestsModel", "guestOf", "(II)I"⟩, 14) := ⟨⟨by decide +kernel, by decide +kernel⟩, List.mem_of_getElem? (i := 635) (by decide +kernel), List.mem_of_getElem? (i := 752) (by decide +kernel), List.mem_of_getElem? (i := 753) (by decide +kernel)⟩
theorem lw_p31 : lw_okq (⟨"HeavyGuestsModel", "isFull", "(I)Z"⟩, 14) := ⟨⟨by decide +kernel, by decide +kernel⟩, List.mem_of_getElem? (i := 635) (by decide +kernel), List.mem_of_getElem? (i := 756) (by decide +kernel), List.mem_of_getElem? (i := 757) (by decide +kernel)⟩
def lw_privs_2 : List (MethodName × Nat) := [(⟨"HeavyGuests", "carryOrderOut", "()I"⟩, 6), (⟨"HeavyGuests", "isSlot", "(I)Z"⟩, 6), (⟨"HeavyGuestsModel", "records", "()V"⟩, 14), (⟨"HeavyGuestsModel", "get", "(II)I"⟩, 14), (⟨"HeavyGuestsModel", "weakest", "(I)I"⟩, 14), (⟨"HeavyGuestsModel", "countOf", "(II)I"⟩, 14), (⟨"HeavyGuestsModel", "excessOf", "(II)I"⟩, 14), (⟨"HeavyGuestsModel", "givesUp", "(II)V"⟩, 14), (⟨"HeavyGuestsModel", "lay", "(III)V"⟩, 14), (⟨"HeavyGuestsModel", "refusesCome", "(III)I"⟩, 14), (⟨"HeavyGuestsModel", "trueAt", "(II)I"⟩, 14), (⟨"HeavyGuestsModel", "comes", "(III)I"⟩, 14), (⟨"HeavyGuestsModel", "seatFor", "(II)I"⟩, 14), (⟨"HeavyGuestsModel", "seatOf", "(II)I"⟩, 14), (⟨"HeavyGuestsModel", "guestOf", "(II)I"⟩, 14), (⟨"HeavyGuestsModel", "isFull", "(I)Z"⟩, 14)]
theorem lw_r2 : ∀ q ∈ lw_privs_2, lw_okq q := List.forall_mem_cons.mpr ⟨lw_p16, List.forall_mem_cons.mpr ⟨lw_p17, List.forall_mem_cons.mpr ⟨lw_p18, List.forall_mem_cons.mpr ⟨lw_p19, List.forall_mem_cons.mpr ⟨lw_p20, List.forall_mem_cons.mpr ⟨lw_p21, List.forall_mem_cons.mpr ⟨lw_p22, List.forall_mem_cons.mpr ⟨lw_p23, List.forall_mem_cons.mpr ⟨lw_p24, List.forall_mem_cons.mpr ⟨lw_p25, List.forall_mem_cons.mpr ⟨lw_p26, List.forall_mem_cons.mpr ⟨lw_p27, List.forall_mem_cons.mpr ⟨lw_p28, List.forall_mem_cons.mpr ⟨lw_p29, List.forall_mem_cons.mpr ⟨lw_p30, List.forall_mem_cons.mpr ⟨lw_p31, fun _ h => absurd h List.not_mem_nil⟩⟩⟩⟩⟩⟩⟩⟩⟩⟩⟩⟩⟩⟩⟩⟩
theorem lw_p32 : lw_okq (⟨"HeavyGuestsModel", "countsTruly", "(III)V"⟩, 14) := ⟨⟨by decide +kernel, by decide +kernel⟩, List.mem_of_getElem? (i := 635) (by decide +kernel), List.mem_of_getElem? (i := 760) (by decide +kernel), List.mem_of_getElem? (i := 761) (by decide +kernel)⟩
theorem lw_p33 : lw_okq (⟨"HeavyGuestsModel", "ages", "(I)V"⟩, 14) := ⟨⟨by decide +kernel, by decide +kernel⟩, List.mem_of_getElem? (i := 635) (by decide +kernel), List.mem_of_getElem? (i := 768) (by decide +kernel), List.mem_of_getElem? (i := 769) (by decide +kernel)⟩
theorem lw_p34 : lw_okq (⟨"HeavyGuestsModel", "refusesJoin", "()I"⟩, 14) := ⟨⟨by decide +kernel, by decide +kernel⟩, List.mem_of_getElem? (i := 635) (by decide +kernel), List.mem_of_getElem? (i := 776) (by decide +kernel), List.mem_of_getElem? (i := 777) (by decide +kernel)⟩
theorem lw_p35 : lw_okq (⟨"HeavyGuestsModel", "joins", "()V"⟩, 14) := ⟨⟨by decide +kernel, by decide +kernel⟩, List.mem_of_getElem? (i := 635) (by decide +kernel), List.mem_of_getElem? (i := 780) (by decide +kernel), List.mem_of_getElem? (i := 781) (by decide +kernel)⟩
theorem lw_p36 : lw_okq (⟨"HeavyGuestsModel", "joinsGuest", "(I)V"⟩, 14) := ⟨⟨by decide +kernel, by decide +kernel⟩, List.mem_of_getElem? (i := 635) (by decide +kernel), List.mem_of_getElem? (i := 784) (by decide +kernel), List.mem_of_getElem? (i := 785) (by decide +kernel)⟩
theorem lw_p37 : lw_okq (⟨"HeavyGuestsModel", "most", "(II)I"⟩, 14) := ⟨⟨by decide +kernel, by decide +kernel⟩, List.mem_of_getElem? (i := 635) (by decide +kernel), List.mem_of_getElem? (i := 788) (by decide +kernel), List.mem_of_getElem? (i := 789) (by decide +kernel)⟩
theorem lw_p38 : lw_okq (⟨"HeavyGuestsModel", "leastOf", "(I)I"⟩, 14) := ⟨⟨by decide +kernel, by decide +kernel⟩, List.mem_of_getElem? (i := 635) (by decide +kernel), List.mem_of_getElem? (i := 792) (by decide +kernel), List.mem_of_getElem? (i := 793) (by decide +kernel)⟩
theorem lw_p39 : lw_okq (⟨"HeavyGuestsModel", "least", "(II)I"⟩, 14) := ⟨⟨by decide +kernel, by decide +kernel⟩, List.mem_of_getElem? (i := 635) (by decide +kernel), List.mem_of_getElem? (i := 796) (by decide +kernel), List.mem_of_getElem? (i := 797) (by decide +kernel)⟩
theorem lw_p40 : lw_okq (⟨"HeavyGuestsModel", "aheadOf", "(I)I"⟩, 14) := ⟨⟨by decide +kernel, by decide +kernel⟩, List.mem_of_getElem? (i := 635) (by decide +kernel), List.mem_of_getElem? (i := 800) (by decide +kernel), List.mem_of_getElem? (i := 801) (by decide +kernel)⟩
theorem lw_p41 : lw_okq (⟨"HeavyGuestsModel", "trueOf", "(II)I"⟩, 14) := ⟨⟨by decide +kernel, by decide +kernel⟩, List.mem_of_getElem? (i := 635) (by decide +kernel), List.mem_of_getElem? (i := 808) (by decide +kernel), List.mem_of_getElem? (i := 809) (by decide +kernel)⟩
theorem lw_p42 : lw_okq (⟨"HeavyGuestsModel", "sumOfCounts", "(I)I"⟩, 14) := ⟨⟨by decide +kernel, by decide +kernel⟩, List.mem_of_getElem? (i := 635) (by decide +kernel), List.mem_of_getElem? (i := 823) (by decide +kernel), List.mem_of_getElem? (i := 824) (by decide +kernel)⟩
theorem lw_p43 : lw_okq (⟨"HeavyGuestsModel", "greatestExcess", "(I)I"⟩, 14) := ⟨⟨by decide +kernel, by decide +kernel⟩, List.mem_of_getElem? (i := 635) (by decide +kernel), List.mem_of_getElem? (i := 827) (by decide +kernel), List.mem_of_getElem? (i := 828) (by decide +kernel)⟩
theorem lw_p44 : lw_okq (⟨"HeavyGuestsModel", "heavyAt", "(II)I"⟩, 14) := ⟨⟨by decide +kernel, by decide +kernel⟩, List.mem_of_getElem? (i := 635) (by decide +kernel), List.mem_of_getElem? (i := 843) (by decide +kernel), List.mem_of_getElem? (i := 844) (by decide +kernel)⟩
theorem lw_p45 : lw_okq (⟨"HeavyGuestsModel", "rankOf", "(II)I"⟩, 14) := ⟨⟨by decide +kernel, by decide +kernel⟩, List.mem_of_getElem? (i := 635) (by decide +kernel), List.mem_of_getElem? (i := 847) (by decide +kernel), List.mem_of_getElem? (i := 848) (by decide +kernel)⟩
theorem lw_p46 : lw_okq (⟨"HeavyGuestsModel", "trueRank", "(II)I"⟩, 14) := ⟨⟨by decide +kernel, by decide +kernel⟩, List.mem_of_getElem? (i := 635) (by decide +kernel), List.mem_of_getElem? (i := 855) (by decide +kernel), List.mem_of_getElem? (i := 856) (by decide +kernel)⟩
theorem lw_p47 : lw_okq (⟨"HeavyGuestsModel", "reads", "()I"⟩, 14) := ⟨⟨by decide +kernel, by decide +kernel⟩, List.mem_of_getElem? (i := 635) (by decide +kernel), List.mem_of_getElem? (i := 884) (by decide +kernel), List.mem_of_getElem? (i := 885) (by decide +kernel)⟩
def lw_privs_3 : List (MethodName × Nat) := [(⟨"HeavyGuestsModel", "countsTruly", "(III)V"⟩, 14), (⟨"HeavyGuestsModel", "ages", "(I)V"⟩, 14), (⟨"HeavyGuestsModel", "refusesJoin", "()I"⟩, 14), (⟨"HeavyGuestsModel", "joins", "()V"⟩, 14), (⟨"HeavyGuestsModel", "joinsGuest", "(I)V"⟩, 14), (⟨"HeavyGuestsModel", "most", "(II)I"⟩, 14), (⟨"HeavyGuestsModel", "leastOf", "(I)I"⟩, 14), (⟨"HeavyGuestsModel", "least", "(II)I"⟩, 14), (⟨"HeavyGuestsModel", "aheadOf", "(I)I"⟩, 14), (⟨"HeavyGuestsModel", "trueOf", "(II)I"⟩, 14), (⟨"HeavyGuestsModel", "sumOfCounts", "(I)I"⟩, 14), (⟨"HeavyGuestsModel", "greatestExcess", "(I)I"⟩, 14), (⟨"HeavyGuestsModel", "heavyAt", "(II)I"⟩, 14), (⟨"HeavyGuestsModel", "rankOf", "(II)I"⟩, 14), (⟨"HeavyGuestsModel", "trueRank", "(II)I"⟩, 14), (⟨"HeavyGuestsModel", "reads", "()I"⟩, 14)]
theorem lw_r3 : ∀ q ∈ lw_privs_3, lw_okq q := List.forall_mem_cons.mpr ⟨lw_p32, List.forall_mem_cons.mpr ⟨lw_p33, List.forall_mem_cons.mpr ⟨lw_p34, List.forall_mem_cons.mpr ⟨lw_p35, List.forall_mem_cons.mpr ⟨lw_p36, List.forall_mem_cons.mpr ⟨lw_p37, List.forall_mem_cons.mpr ⟨lw_p38, List.forall_mem_cons.mpr ⟨lw_p39, List.forall_mem_cons.mpr ⟨lw_p40, List.forall_mem_cons.mpr ⟨lw_p41, List.forall_mem_cons.mpr ⟨lw_p42, List.forall_mem_cons.mpr ⟨lw_p43, List.forall_mem_cons.mpr ⟨lw_p44, List.forall_mem_cons.mpr ⟨lw_p45, List.forall_mem_cons.mpr ⟨lw_p46, List.forall_mem_cons.mpr ⟨lw_p47, fun _ h => absurd h List.not_mem_nil⟩⟩⟩⟩⟩⟩⟩⟩⟩⟩⟩⟩⟩⟩⟩⟩
theorem lw_p48 : lw_okq (⟨"HeavyGuestsModel", "readsOrder", "()V"⟩, 14) := ⟨⟨by decide +kernel, by decide +kernel⟩, List.mem_of_getElem? (i := 635) (by decide +kernel), List.mem_of_getElem? (i := 888) (by decide +kernel), List.mem_of_getElem? (i := 889) (by decide +kernel)⟩
theorem lw_p49 : lw_okq (⟨"HeavyGuestsModel", "sign", "()I"⟩, 14) := ⟨⟨by decide +kernel, by decide +kernel⟩, List.mem_of_getElem? (i := 635) (by decide +kernel), List.mem_of_getElem? (i := 892) (by decide +kernel), List.mem_of_getElem? (i := 893) (by decide +kernel)⟩
theorem lw_p50 : lw_okq (⟨"HeavyGuestsModel", "takes", "(II)I"⟩, 14) := ⟨⟨by decide +kernel, by decide +kernel⟩, List.mem_of_getElem? (i := 635) (by decide +kernel), List.mem_of_getElem? (i := 896) (by decide +kernel), List.mem_of_getElem? (i := 897) (by decide +kernel)⟩
theorem lw_p51 : lw_okq (⟨"HeavyGuestsModel", "name", "()I"⟩, 14) := ⟨⟨by decide +kernel, by decide +kernel⟩, List.mem_of_getElem? (i := 635) (by decide +kernel), List.mem_of_getElem? (i := 900) (by decide +kernel), List.mem_of_getElem? (i := 901) (by decide +kernel)⟩
theorem lw_p52 : lw_okq (⟨"HeavyGuestsModel", "number", "()I"⟩, 14) := ⟨⟨by decide +kernel, by decide +kernel⟩, List.mem_of_getElem? (i := 635) (by decide +kernel), List.mem_of_getElem? (i := 904) (by decide +kernel), List.mem_of_getElem? (i := 905) (by decide +kernel)⟩
theorem lw_p53 : lw_okq (⟨"HeavyGuestsModel", "does", "(III)Z"⟩, 14) := ⟨⟨by decide +kernel, by decide +kernel⟩, List.mem_of_getElem? (i := 635) (by decide +kernel), List.mem_of_getElem? (i := 912) (by decide +kernel), List.mem_of_getElem? (i := 913) (by decide +kernel)⟩
def lw_privs_4 : List (MethodName × Nat) := [(⟨"HeavyGuestsModel", "readsOrder", "()V"⟩, 14), (⟨"HeavyGuestsModel", "sign", "()I"⟩, 14), (⟨"HeavyGuestsModel", "takes", "(II)I"⟩, 14), (⟨"HeavyGuestsModel", "name", "()I"⟩, 14), (⟨"HeavyGuestsModel", "number", "()I"⟩, 14), (⟨"HeavyGuestsModel", "does", "(III)Z"⟩, 14)]
theorem lw_r4 : ∀ q ∈ lw_privs_4, lw_okq q := List.forall_mem_cons.mpr ⟨lw_p48, List.forall_mem_cons.mpr ⟨lw_p49, List.forall_mem_cons.mpr ⟨lw_p50, List.forall_mem_cons.mpr ⟨lw_p51, List.forall_mem_cons.mpr ⟨lw_p52, List.forall_mem_cons.mpr ⟨lw_p53, fun _ h => absurd h List.not_mem_nil⟩⟩⟩⟩⟩⟩
def lw_privs : List (MethodName × Nat) := lw_privs_1 ++ (lw_privs_2 ++ (lw_privs_3 ++ (lw_privs_4)))
def lw_tbl : List Cond := k2_sels lw_privs ++ tables_1
theorem lw_privs_ok : ∀ q ∈ lw_privs, lw_okq q := by
  show ∀ q ∈ lw_privs_1 ++ (lw_privs_2 ++ (lw_privs_3 ++ (lw_privs_4))), lw_okq q
  exact List.forall_mem_append.mpr ⟨lw_r1, List.forall_mem_append.mpr ⟨lw_r2, List.forall_mem_append.mpr ⟨lw_r3, lw_r4⟩⟩⟩
def RX0 : String := "HeavyGuests$History"
def TX0 : u_T := fun k => match k with
  | 0 => ("HeavyGuests$History", "states", "[LHeavyGuests$State;", true)
  | _ => ("HeavyGuests$History", "size", "I", false)
def tyX0 : Nat → FieldType := fun k => match k with
  | 0 => .array (.object "HeavyGuests$State")
  | _ => .int
abbrev wsX00 : List Cond := u_ws RX0 TX0 2
theorem nmX0 : ∀ a, a < 2 → ∀ b, b < 2 → a ≠ b → (TX0 a).2.1 ≠ (TX0 b).2.1 := by decide +kernel
theorem tyX0_ok : ∀ k, k < 2 → parseFieldDescriptor (TX0 k).2.2.1 = some (tyX0 k) := by decide +kernel
abbrev cX0_init : ByteArray := prog_2_method_1_code
def yX0_init : MethodName := ⟨RX0, "<init>", "()V"⟩
abbrev cX0_remember : ByteArray := prog_2_method_2_code
def yX0_remember : MethodName := ⟨RX0, "remember", "(LHeavyGuests$State;)V"⟩
abbrev cX0_bringBack : ByteArray := prog_2_method_3_code
def yX0_bringBack : MethodName := ⟨RX0, "bringBack", "(LHeavyGuests$State;)V"⟩
abbrev cX0_dropOldest : ByteArray := prog_2_method_4_code
def yX0_dropOldest : MethodName := ⟨RX0, "dropOldest", "()V"⟩
def RX1 : String := "HeavyGuests$Order"
def TX1 : u_T := fun k => match k with
  | 0 => ("HeavyGuests$Order", "place", "I", false)
  | 1 => ("HeavyGuests$Order", "kind", "I", false)
  | 2 => ("HeavyGuests$Order", "stream", "I", false)
  | 3 => ("HeavyGuests$Order", "guest", "I", false)
  | 4 => ("HeavyGuests$Order", "letters", "I", false)
  | _ => ("HeavyGuests$Order", "times", "I", false)
def tyX1 : Nat → FieldType := fun k => match k with
  | 0 => .int
  | 1 => .int
  | 2 => .int
  | 3 => .int
  | 4 => .int
  | _ => .int
abbrev wsX10 : List Cond := u_ws RX1 TX1 6
theorem nmX1 : ∀ a, a < 6 → ∀ b, b < 6 → a ≠ b → (TX1 a).2.1 ≠ (TX1 b).2.1 := by decide +kernel
theorem tyX1_ok : ∀ k, k < 6 → parseFieldDescriptor (TX1 k).2.2.1 = some (tyX1 k) := by decide +kernel
abbrev cX1_init : ByteArray := prog_3_method_1_code
def yX1_init : MethodName := ⟨RX1, "<init>", "()V"⟩
abbrev cX1_begin : ByteArray := prog_3_method_2_code
def yX1_begin : MethodName := ⟨RX1, "begin", "()V"⟩
abbrev cX1_mayEnd : ByteArray := prog_3_method_3_code
def yX1_mayEnd : MethodName := ⟨RX1, "mayEnd", "()Z"⟩
abbrev cX1_read : ByteArray := prog_3_method_4_code
def yX1_read : MethodName := ⟨RX1, "read", "(I)Z"⟩
abbrev cX1_readEnd : ByteArray := prog_3_method_5_code
def yX1_readEnd : MethodName := ⟨RX1, "readEnd", "()Z"⟩
abbrev cX1_readStart : ByteArray := prog_3_method_6_code
def yX1_readStart : MethodName := ⟨RX1, "readStart", "(I)Z"⟩
abbrev cX1_readLetter : ByteArray := prog_3_method_7_code
def yX1_readLetter : MethodName := ⟨RX1, "readLetter", "(I)Z"⟩
abbrev cX1_readStar : ByteArray := prog_3_method_8_code
def yX1_readStar : MethodName := ⟨RX1, "readStar", "()Z"⟩
abbrev cX1_readFirstDigit : ByteArray := prog_3_method_9_code
def yX1_readFirstDigit : MethodName := ⟨RX1, "readFirstDigit", "(I)Z"⟩
abbrev cX1_readDigit : ByteArray := prog_3_method_10_code
def yX1_readDigit : MethodName := ⟨RX1, "readDigit", "(I)Z"⟩
abbrev cX1_readAgeing : ByteArray := prog_3_method_11_code
def yX1_readAgeing : MethodName := ⟨RX1, "readAgeing", "(I)Z"⟩
abbrev cX1_isDigit : ByteArray := prog_3_method_12_code
def yX1_isDigit : MethodName := ⟨RX1, "isDigit", "(I)Z"⟩
def RX2 : String := "HeavyGuests$Pad"
def TX2 : u_T := fun k => match k with
  | 0 => ("HeavyGuests$Pad", "signs", "[I", true)
  | _ => ("HeavyGuests$Pad", "length", "I", false)
def tyX2 : Nat → FieldType := fun k => match k with
  | 0 => .array .int
  | _ => .int
abbrev wsX20 : List Cond := u_ws RX2 TX2 2
theorem nmX2 : ∀ a, a < 2 → ∀ b, b < 2 → a ≠ b → (TX2 a).2.1 ≠ (TX2 b).2.1 := by decide +kernel
theorem tyX2_ok : ∀ k, k < 2 → parseFieldDescriptor (TX2 k).2.2.1 = some (tyX2 k) := by decide +kernel
abbrev cX2_init : ByteArray := prog_4_method_1_code
def yX2_init : MethodName := ⟨RX2, "<init>", "()V"⟩
abbrev cX2_signAt : ByteArray := prog_4_method_2_code
def yX2_signAt : MethodName := ⟨RX2, "signAt", "(I)I"⟩
abbrev cX2_append : ByteArray := prog_4_method_3_code
def yX2_append : MethodName := ⟨RX2, "append", "(I)V"⟩
def RX3 : String := "HeavyGuests$Row"
def TX3 : u_T := fun k => match k with
  | 0 => ("HeavyGuests$Row", "guests", "[I", true)
  | 1 => ("HeavyGuests$Row", "counts", "[I", true)
  | 2 => ("HeavyGuests$Row", "excesses", "[I", true)
  | 3 => ("HeavyGuests$Row", "seats", "I", false)
  | _ => ("HeavyGuests$Row", "taken", "I", false)
def tyX3 : Nat → FieldType := fun k => match k with
  | 0 => .array .int
  | 1 => .array .int
  | 2 => .array .int
  | 3 => .int
  | _ => .int
abbrev wsX30 : List Cond := u_ws RX3 TX3 5
theorem nmX3 : ∀ a, a < 5 → ∀ b, b < 5 → a ≠ b → (TX3 a).2.1 ≠ (TX3 b).2.1 := by decide +kernel
theorem tyX3_ok : ∀ k, k < 5 → parseFieldDescriptor (TX3 k).2.2.1 = some (tyX3 k) := by decide +kernel
abbrev cX3_init : ByteArray := prog_5_method_1_code
def yX3_init : MethodName := ⟨RX3, "<init>", "(I)V"⟩
abbrev cX3_copyFrom : ByteArray := prog_5_method_2_code
def yX3_copyFrom : MethodName := ⟨RX3, "copyFrom", "(LHeavyGuests$Row;)V"⟩
abbrev cX3_isTaken : ByteArray := prog_5_method_3_code
def yX3_isTaken : MethodName := ⟨RX3, "isTaken", "(I)Z"⟩
abbrev cX3_guestAt : ByteArray := prog_5_method_4_code
def yX3_guestAt : MethodName := ⟨RX3, "guestAt", "(I)I"⟩
abbrev cX3_countAt : ByteArray := prog_5_method_5_code
def yX3_countAt : MethodName := ⟨RX3, "countAt", "(I)I"⟩
abbrev cX3_excessAt : ByteArray := prog_5_method_6_code
def yX3_excessAt : MethodName := ⟨RX3, "excessAt", "(I)I"⟩
abbrev cX3_seatOf : ByteArray := prog_5_method_7_code
def yX3_seatOf : MethodName := ⟨RX3, "seatOf", "(I)I"⟩
abbrev cX3_mostOf : ByteArray := prog_5_method_8_code
def yX3_mostOf : MethodName := ⟨RX3, "mostOf", "(I)I"⟩
abbrev cX3_leastOf : ByteArray := prog_5_method_9_code
def yX3_leastOf : MethodName := ⟨RX3, "leastOf", "(I)I"⟩
abbrev cX3_leastAt : ByteArray := prog_5_method_10_code
def yX3_leastAt : MethodName := ⟨RX3, "leastAt", "(I)I"⟩
abbrev cX3_mostWithoutSeat : ByteArray := prog_5_method_11_code
def yX3_mostWithoutSeat : MethodName := ⟨RX3, "mostWithoutSeat", "()I"⟩
abbrev cX3_sumOfCounts : ByteArray := prog_5_method_12_code
def yX3_sumOfCounts : MethodName := ⟨RX3, "sumOfCounts", "()I"⟩
abbrev cX3_greatestExcess : ByteArray := prog_5_method_13_code
def yX3_greatestExcess : MethodName := ⟨RX3, "greatestExcess", "()I"⟩
abbrev cX3_surelyAbove : ByteArray := prog_5_method_14_code
def yX3_surelyAbove : MethodName := ⟨RX3, "surelyAbove", "(I)I"⟩
abbrev cX3_perhapsAbove : ByteArray := prog_5_method_15_code
def yX3_perhapsAbove : MethodName := ⟨RX3, "perhapsAbove", "(I)I"⟩
abbrev cX3_seatFor : ByteArray := prog_5_method_16_code
def yX3_seatFor : MethodName := ⟨RX3, "seatFor", "(I)I"⟩
abbrev cX3_firstToGo : ByteArray := prog_5_method_17_code
def yX3_firstToGo : MethodName := ⟨RX3, "firstToGo", "()I"⟩
abbrev cX3_goesBefore : ByteArray := prog_5_method_18_code
def yX3_goesBefore : MethodName := ⟨RX3, "goesBefore", "(II)Z"⟩
abbrev cX3_isHeavier : ByteArray := prog_5_method_19_code
def yX3_isHeavier : MethodName := ⟨RX3, "isHeavier", "(II)Z"⟩
abbrev cX3_seatAtPlace : ByteArray := prog_5_method_20_code
def yX3_seatAtPlace : MethodName := ⟨RX3, "seatAtPlace", "(I)I"⟩
abbrev cX3_heavierThan : ByteArray := prog_5_method_21_code
def yX3_heavierThan : MethodName := ⟨RX3, "heavierThan", "(I)I"⟩
abbrev cX3_placesInSureOrder : ByteArray := prog_5_method_22_code
def yX3_placesInSureOrder : MethodName := ⟨RX3, "placesInSureOrder", "()I"⟩
abbrev cX3_serve : ByteArray := prog_5_method_23_code
def yX3_serve : MethodName := ⟨RX3, "serve", "(III)Z"⟩
abbrev cX3_append : ByteArray := prog_5_method_24_code
def yX3_append : MethodName := ⟨RX3, "append", "(III)V"⟩
abbrev cX3_insertByWeight : ByteArray := prog_5_method_25_code
def yX3_insertByWeight : MethodName := ⟨RX3, "insertByWeight", "(III)V"⟩
abbrev cX3_swapWithFormer : ByteArray := prog_5_method_26_code
def yX3_swapWithFormer : MethodName := ⟨RX3, "swapWithFormer", "(I)V"⟩
abbrev cX3_clear : ByteArray := prog_5_method_27_code
def yX3_clear : MethodName := ⟨RX3, "clear", "()V"⟩
abbrev cX3_replaceByFirstOf : ByteArray := prog_5_method_28_code
def yX3_replaceByFirstOf : MethodName := ⟨RX3, "replaceByFirstOf", "(LHeavyGuests$Row;)V"⟩
abbrev cX3_changeSeats : ByteArray := prog_5_method_29_code
def yX3_changeSeats : MethodName := ⟨RX3, "changeSeats", "(I)V"⟩
abbrev cX3_giveUp : ByteArray := prog_5_method_30_code
def yX3_giveUp : MethodName := ⟨RX3, "giveUp", "(I)V"⟩
abbrev cX3_halve : ByteArray := prog_5_method_31_code
def yX3_halve : MethodName := ⟨RX3, "halve", "()V"⟩
def RX4 : String := "HeavyGuests$Slot"
def TX4 : u_T := fun k => match k with
  | 0 => ("HeavyGuests$Slot", "state", "LHeavyGuests$State;", true)
  | _ => ("HeavyGuests$Slot", "isUsed", "Z", false)
def tyX4 : Nat → FieldType := fun k => match k with
  | 0 => .object "HeavyGuests$State"
  | _ => .boolean
abbrev wsX40 : List Cond := u_ws RX4 TX4 2
theorem nmX4 : ∀ a, a < 2 → ∀ b, b < 2 → a ≠ b → (TX4 a).2.1 ≠ (TX4 b).2.1 := by decide +kernel
theorem tyX4_ok : ∀ k, k < 2 → parseFieldDescriptor (TX4 k).2.2.1 = some (tyX4 k) := by decide +kernel
abbrev cX4_init : ByteArray := prog_6_method_1_code
def yX4_init : MethodName := ⟨RX4, "<init>", "()V"⟩
def RX5 : String := "HeavyGuests$State"
def TX5 : u_T := fun k => match k with
  | 0 => ("HeavyGuests$State", "zero", "LHeavyGuests$Stream;", true)
  | _ => ("HeavyGuests$State", "one", "LHeavyGuests$Stream;", true)
def tyX5 : Nat → FieldType := fun k => match k with
  | 0 => .object "HeavyGuests$Stream"
  | _ => .object "HeavyGuests$Stream"
abbrev wsX50 : List Cond := u_ws RX5 TX5 2
theorem nmX5 : ∀ a, a < 2 → ∀ b, b < 2 → a ≠ b → (TX5 a).2.1 ≠ (TX5 b).2.1 := by decide +kernel
theorem tyX5_ok : ∀ k, k < 2 → parseFieldDescriptor (TX5 k).2.2.1 = some (tyX5 k) := by decide +kernel
abbrev cX5_init : ByteArray := prog_7_method_1_code
def yX5_init : MethodName := ⟨RX5, "<init>", "()V"⟩
abbrev cX5_copyFrom : ByteArray := prog_7_method_2_code
def yX5_copyFrom : MethodName := ⟨RX5, "copyFrom", "(LHeavyGuests$State;)V"⟩
abbrev cX5_streamOf : ByteArray := prog_7_method_3_code
def yX5_streamOf : MethodName := ⟨RX5, "streamOf", "(I)LHeavyGuests$Stream;"⟩
abbrev cX5_seatsOfEach : ByteArray := prog_7_method_4_code
def yX5_seatsOfEach : MethodName := ⟨RX5, "seatsOfEach", "()I"⟩
abbrev cX5_changeSeats : ByteArray := prog_7_method_5_code
def yX5_changeSeats : MethodName := ⟨RX5, "changeSeats", "(I)V"⟩
abbrev cX5_errorOfJoining : ByteArray := prog_7_method_6_code
def yX5_errorOfJoining : MethodName := ⟨RX5, "errorOfJoining", "()I"⟩
abbrev cX5_joinStreams : ByteArray := prog_7_method_7_code
def yX5_joinStreams : MethodName := ⟨RX5, "joinStreams", "(LHeavyGuests$Row;)V"⟩
abbrev cX5_insertJoined : ByteArray := prog_7_method_8_code
def yX5_insertJoined : MethodName := ⟨RX5, "insertJoined", "(LHeavyGuests$Row;I)V"⟩
def RX6 : String := "HeavyGuests$Stream"
def TX6 : u_T := fun k => match k with
  | 0 => ("HeavyGuests$Stream", "row", "LHeavyGuests$Row;", true)
  | 1 => ("HeavyGuests$Stream", "tally", "LHeavyGuests$Tally;", true)
  | 2 => ("HeavyGuests$Stream", "total", "I", false)
  | _ => ("HeavyGuests$Stream", "takeovers", "I", false)
def tyX6 : Nat → FieldType := fun k => match k with
  | 0 => .object "HeavyGuests$Row"
  | 1 => .object "HeavyGuests$Tally"
  | 2 => .int
  | _ => .int
abbrev wsX60 : List Cond := u_ws RX6 TX6 4
theorem nmX6 : ∀ a, a < 4 → ∀ b, b < 4 → a ≠ b → (TX6 a).2.1 ≠ (TX6 b).2.1 := by decide +kernel
theorem tyX6_ok : ∀ k, k < 4 → parseFieldDescriptor (TX6 k).2.2.1 = some (tyX6 k) := by decide +kernel
abbrev cX6_init : ByteArray := prog_8_method_1_code
def yX6_init : MethodName := ⟨RX6, "<init>", "()V"⟩
abbrev cX6_copyFrom : ByteArray := prog_8_method_2_code
def yX6_copyFrom : MethodName := ⟨RX6, "copyFrom", "(LHeavyGuests$Stream;)V"⟩
abbrev cX6_errorOfComing : ByteArray := prog_8_method_3_code
def yX6_errorOfComing : MethodName := ⟨RX6, "errorOfComing", "(II)I"⟩
abbrev cX6_letCome : ByteArray := prog_8_method_4_code
def yX6_letCome : MethodName := ⟨RX6, "letCome", "(II)I"⟩
abbrev cX6_halve : ByteArray := prog_8_method_5_code
def yX6_halve : MethodName := ⟨RX6, "halve", "()V"⟩
abbrev cX6_beginAnew : ByteArray := prog_8_method_6_code
def yX6_beginAnew : MethodName := ⟨RX6, "beginAnew", "()V"⟩
def RX7 : String := "HeavyGuests$Tally"
def TX7 : u_T := fun k => match k with
  | 0 => ("HeavyGuests$Tally", "guests", "[I", true)
  | 1 => ("HeavyGuests$Tally", "counts", "[I", true)
  | _ => ("HeavyGuests$Tally", "size", "I", false)
def tyX7 : Nat → FieldType := fun k => match k with
  | 0 => .array .int
  | 1 => .array .int
  | _ => .int
abbrev wsX70 : List Cond := u_ws RX7 TX7 3
theorem nmX7 : ∀ a, a < 3 → ∀ b, b < 3 → a ≠ b → (TX7 a).2.1 ≠ (TX7 b).2.1 := by decide +kernel
theorem tyX7_ok : ∀ k, k < 3 → parseFieldDescriptor (TX7 k).2.2.1 = some (tyX7 k) := by decide +kernel
abbrev cX7_init : ByteArray := prog_9_method_1_code
def yX7_init : MethodName := ⟨RX7, "<init>", "()V"⟩
abbrev cX7_copyFrom : ByteArray := prog_9_method_2_code
def yX7_copyFrom : MethodName := ⟨RX7, "copyFrom", "(LHeavyGuests$Tally;)V"⟩
abbrev cX7_hasPlace : ByteArray := prog_9_method_3_code
def yX7_hasPlace : MethodName := ⟨RX7, "hasPlace", "(I)Z"⟩
abbrev cX7_guestAt : ByteArray := prog_9_method_4_code
def yX7_guestAt : MethodName := ⟨RX7, "guestAt", "(I)I"⟩
abbrev cX7_timesAt : ByteArray := prog_9_method_5_code
def yX7_timesAt : MethodName := ⟨RX7, "timesAt", "(I)I"⟩
abbrev cX7_placeOf : ByteArray := prog_9_method_6_code
def yX7_placeOf : MethodName := ⟨RX7, "placeOf", "(I)I"⟩
abbrev cX7_timesOf : ByteArray := prog_9_method_7_code
def yX7_timesOf : MethodName := ⟨RX7, "timesOf", "(I)I"⟩
abbrev cX7_trulyAbove : ByteArray := prog_9_method_8_code
def yX7_trulyAbove : MethodName := ⟨RX7, "trulyAbove", "(I)I"⟩
abbrev cX7_unlikeGuestsWith : ByteArray := prog_9_method_9_code
def yX7_unlikeGuestsWith : MethodName := ⟨RX7, "unlikeGuestsWith", "(LHeavyGuests$Tally;)I"⟩
abbrev cX7_add : ByteArray := prog_9_method_10_code
def yX7_add : MethodName := ⟨RX7, "add", "(II)V"⟩
abbrev cX7_addAllOf : ByteArray := prog_9_method_11_code
def yX7_addAllOf : MethodName := ⟨RX7, "addAllOf", "(LHeavyGuests$Tally;)V"⟩
abbrev cX7_append : ByteArray := prog_9_method_12_code
def yX7_append : MethodName := ⟨RX7, "append", "(II)V"⟩
abbrev cX7_moveUp : ByteArray := prog_9_method_13_code
def yX7_moveUp : MethodName := ⟨RX7, "moveUp", "(I)V"⟩
abbrev cX7_clear : ByteArray := prog_9_method_14_code
def yX7_clear : MethodName := ⟨RX7, "clear", "()V"⟩
abbrev cX7_halve : ByteArray := prog_9_method_15_code
def yX7_halve : MethodName := ⟨RX7, "halve", "()V"⟩
def RX8 : String := "HeavyGuests"
def TX8 : u_T := fun k => match k with
  | 0 => ("HeavyGuests", "now", "LHeavyGuests$State;", true)
  | 1 => ("HeavyGuests", "history", "LHeavyGuests$History;", true)
  | 2 => ("HeavyGuests", "slots", "[LHeavyGuests$Slot;", true)
  | 3 => ("HeavyGuests", "pad", "LHeavyGuests$Pad;", true)
  | 4 => ("HeavyGuests", "order", "LHeavyGuests$Order;", true)
  | _ => ("HeavyGuests", "joinedRow", "LHeavyGuests$Row;", true)
def tyX8 : Nat → FieldType := fun k => match k with
  | 0 => .object "HeavyGuests$State"
  | 1 => .object "HeavyGuests$History"
  | 2 => .array (.object "HeavyGuests$Slot")
  | 3 => .object "HeavyGuests$Pad"
  | 4 => .object "HeavyGuests$Order"
  | _ => .object "HeavyGuests$Row"
abbrev wsX80 : List Cond := u_ws RX8 TX8 6
theorem nmX8 : ∀ a, a < 6 → ∀ b, b < 6 → a ≠ b → (TX8 a).2.1 ≠ (TX8 b).2.1 := by decide +kernel
theorem tyX8_ok : ∀ k, k < 6 → parseFieldDescriptor (TX8 k).2.2.1 = some (tyX8 k) := by decide +kernel
abbrev cX8_init : ByteArray := prog_1_method_1_code
def yX8_init : MethodName := ⟨RX8, "<init>", "()V"⟩
abbrev cX8_seats : ByteArray := prog_1_method_2_code
def yX8_seats : MethodName := ⟨RX8, "seats", "(I)I"⟩
abbrev cX8_come : ByteArray := prog_1_method_3_code
def yX8_come : MethodName := ⟨RX8, "come", "(III)I"⟩
abbrev cX8_age : ByteArray := prog_1_method_4_code
def yX8_age : MethodName := ⟨RX8, "age", "(I)I"⟩
abbrev cX8_join : ByteArray := prog_1_method_5_code
def yX8_join : MethodName := ⟨RX8, "join", "()I"⟩
abbrev cX8_seat : ByteArray := prog_1_method_6_code
def yX8_seat : MethodName := ⟨RX8, "seat", "(III)I"⟩
abbrev cX8_of : ByteArray := prog_1_method_7_code
def yX8_of : MethodName := ⟨RX8, "of", "(III)I"⟩
abbrev cX8_stream : ByteArray := prog_1_method_8_code
def yX8_stream : MethodName := ⟨RX8, "stream", "(II)I"⟩
abbrev cX8_count : ByteArray := prog_1_method_9_code
def yX8_count : MethodName := ⟨RX8, "count", "(I)I"⟩
abbrev cX8_above : ByteArray := prog_1_method_10_code
def yX8_above : MethodName := ⟨RX8, "above", "(III)I"⟩
abbrev cX8_heaviest : ByteArray := prog_1_method_11_code
def yX8_heaviest : MethodName := ⟨RX8, "heaviest", "(II)I"⟩
abbrev cX8_truly : ByteArray := prog_1_method_12_code
def yX8_truly : MethodName := ⟨RX8, "truly", "(II)I"⟩
abbrev cX8_sureOrder : ByteArray := prog_1_method_13_code
def yX8_sureOrder : MethodName := ⟨RX8, "sureOrder", "(I)I"⟩
abbrev cX8_wouldTake : ByteArray := prog_1_method_14_code
def yX8_wouldTake : MethodName := ⟨RX8, "wouldTake", "(II)I"⟩
abbrev cX8_doubt : ByteArray := prog_1_method_15_code
def yX8_doubt : MethodName := ⟨RX8, "doubt", "(II)I"⟩
abbrev cX8_put : ByteArray := prog_1_method_16_code
def yX8_put : MethodName := ⟨RX8, "put", "(J)I"⟩
abbrev cX8_wipe : ByteArray := prog_1_method_17_code
def yX8_wipe : MethodName := ⟨RX8, "wipe", "()I"⟩
abbrev cX8_fault : ByteArray := prog_1_method_18_code
def yX8_fault : MethodName := ⟨RX8, "fault", "()I"⟩
abbrev cX8_carryOut : ByteArray := prog_1_method_19_code
def yX8_carryOut : MethodName := ⟨RX8, "carryOut", "()I"⟩
abbrev cX8_undo : ByteArray := prog_1_method_20_code
def yX8_undo : MethodName := ⟨RX8, "undo", "()I"⟩
abbrev cX8_save : ByteArray := prog_1_method_21_code
def yX8_save : MethodName := ⟨RX8, "save", "(I)I"⟩
abbrev cX8_restore : ByteArray := prog_1_method_22_code
def yX8_restore : MethodName := ⟨RX8, "restore", "(I)I"⟩
abbrev cX8_isStream : ByteArray := prog_1_method_23_code
def yX8_isStream : MethodName := ⟨RX8, "isStream", "(I)Z"⟩
abbrev cX8_isSlot : ByteArray := prog_1_method_24_code
def yX8_isSlot : MethodName := ⟨RX8, "isSlot", "(I)Z"⟩
abbrev cX8_errorOfAsking : ByteArray := prog_1_method_25_code
def yX8_errorOfAsking : MethodName := ⟨RX8, "errorOfAsking", "(II)I"⟩
abbrev cX8_isCode : ByteArray := prog_1_method_26_code
def yX8_isCode : MethodName := ⟨RX8, "isCode", "(I)Z"⟩
abbrev cX8_lettersOf : ByteArray := prog_1_method_27_code
def yX8_lettersOf : MethodName := ⟨RX8, "lettersOf", "(I)I"⟩
abbrev cX8_numberOfSigns : ByteArray := prog_1_method_28_code
def yX8_numberOfSigns : MethodName := ⟨RX8, "numberOfSigns", "(J)I"⟩
abbrev cX8_carryOrderOut : ByteArray := prog_1_method_29_code
def yX8_carryOrderOut : MethodName := ⟨RX8, "carryOrderOut", "()I"⟩
def RX9 : String := "HeavyGuestsModel"
def TX9 : u_T := fun k => match k with
  | 0 => ("HeavyGuestsModel", "thrown", "I", false)
  | 1 => ("HeavyGuestsModel", "s", "[I", true)
  | 2 => ("HeavyGuestsModel", "undos", "[I", true)
  | 3 => ("HeavyGuestsModel", "undoMany", "I", false)
  | 4 => ("HeavyGuestsModel", "slots", "[I", true)
  | 5 => ("HeavyGuestsModel", "hasSlot", "[Z", true)
  | 6 => ("HeavyGuestsModel", "pad", "[I", true)
  | 7 => ("HeavyGuestsModel", "length", "I", false)
  | 8 => ("HeavyGuestsModel", "joined", "[I", true)
  | 9 => ("HeavyGuestsModel", "joinedMany", "I", false)
  | 10 => ("HeavyGuestsModel", "at", "I", false)
  | 11 => ("HeavyGuestsModel", "isWell", "Z", false)
  | 12 => ("HeavyGuestsModel", "orders", "[I", true)
  | _ => ("HeavyGuestsModel", "orderMany", "I", false)
def tyX9 : Nat → FieldType := fun k => match k with
  | 0 => .int
  | 1 => .array .int
  | 2 => .array .int
  | 3 => .int
  | 4 => .array .int
  | 5 => .array .boolean
  | 6 => .array .int
  | 7 => .int
  | 8 => .array .int
  | 9 => .int
  | 10 => .int
  | 11 => .boolean
  | 12 => .array .int
  | _ => .int
abbrev wsX90 : List Cond := u_ws RX9 TX9 14
theorem nmX9 : ∀ a, a < 14 → ∀ b, b < 14 → a ≠ b → (TX9 a).2.1 ≠ (TX9 b).2.1 := by decide +kernel
theorem tyX9_ok : ∀ k, k < 14 → parseFieldDescriptor (TX9 k).2.2.1 = some (tyX9 k) := by decide +kernel
abbrev cX9_init : ByteArray := prog_11_method_1_code
def yX9_init : MethodName := ⟨RX9, "<init>", "()V"⟩
abbrev cX9_in : ByteArray := prog_11_method_3_code
def yX9_in : MethodName := ⟨RX9, "in", "(III)Z"⟩
abbrev cX9_isStream : ByteArray := prog_11_method_4_code
def yX9_isStream : MethodName := ⟨RX9, "isStream", "(I)Z"⟩
abbrev cX9_isCode : ByteArray := prog_11_method_5_code
def yX9_isCode : MethodName := ⟨RX9, "isCode", "(I)Z"⟩
abbrev cX9_get : ByteArray := prog_11_method_6_code
def yX9_get : MethodName := ⟨RX9, "get", "(II)I"⟩
abbrev cX9_lay : ByteArray := prog_11_method_7_code
def yX9_lay : MethodName := ⟨RX9, "lay", "(III)V"⟩
abbrev cX9_guestOf : ByteArray := prog_11_method_8_code
def yX9_guestOf : MethodName := ⟨RX9, "guestOf", "(II)I"⟩
abbrev cX9_countOf : ByteArray := prog_11_method_9_code
def yX9_countOf : MethodName := ⟨RX9, "countOf", "(II)I"⟩
abbrev cX9_excessOf : ByteArray := prog_11_method_10_code
def yX9_excessOf : MethodName := ⟨RX9, "excessOf", "(II)I"⟩
abbrev cX9_records : ByteArray := prog_11_method_11_code
def yX9_records : MethodName := ⟨RX9, "records", "()V"⟩
abbrev cX9_seatOf : ByteArray := prog_11_method_12_code
def yX9_seatOf : MethodName := ⟨RX9, "seatOf", "(II)I"⟩
abbrev cX9_weakest : ByteArray := prog_11_method_13_code
def yX9_weakest : MethodName := ⟨RX9, "weakest", "(I)I"⟩
abbrev cX9_givesUp : ByteArray := prog_11_method_14_code
def yX9_givesUp : MethodName := ⟨RX9, "givesUp", "(II)V"⟩
abbrev cX9_isFull : ByteArray := prog_11_method_15_code
def yX9_isFull : MethodName := ⟨RX9, "isFull", "(I)Z"⟩
abbrev cX9_leastOf : ByteArray := prog_11_method_16_code
def yX9_leastOf : MethodName := ⟨RX9, "leastOf", "(I)I"⟩
abbrev cX9_most : ByteArray := prog_11_method_17_code
def yX9_most : MethodName := ⟨RX9, "most", "(II)I"⟩
abbrev cX9_least : ByteArray := prog_11_method_18_code
def yX9_least : MethodName := ⟨RX9, "least", "(II)I"⟩
abbrev cX9_trueAt : ByteArray := prog_11_method_19_code
def yX9_trueAt : MethodName := ⟨RX9, "trueAt", "(II)I"⟩
abbrev cX9_trueOf : ByteArray := prog_11_method_20_code
def yX9_trueOf : MethodName := ⟨RX9, "trueOf", "(II)I"⟩
abbrev cX9_countsTruly : ByteArray := prog_11_method_21_code
def yX9_countsTruly : MethodName := ⟨RX9, "countsTruly", "(III)V"⟩
abbrev cX9_seatFor : ByteArray := prog_11_method_22_code
def yX9_seatFor : MethodName := ⟨RX9, "seatFor", "(II)I"⟩
abbrev cX9_comes : ByteArray := prog_11_method_23_code
def yX9_comes : MethodName := ⟨RX9, "comes", "(III)I"⟩
abbrev cX9_seats : ByteArray := prog_11_method_24_code
def yX9_seats : MethodName := ⟨RX9, "seats", "(I)I"⟩
abbrev cX9_refusesCome : ByteArray := prog_11_method_25_code
def yX9_refusesCome : MethodName := ⟨RX9, "refusesCome", "(III)I"⟩
abbrev cX9_come : ByteArray := prog_11_method_26_code
def yX9_come : MethodName := ⟨RX9, "come", "(III)I"⟩
abbrev cX9_ages : ByteArray := prog_11_method_27_code
def yX9_ages : MethodName := ⟨RX9, "ages", "(I)V"⟩
abbrev cX9_age : ByteArray := prog_11_method_28_code
def yX9_age : MethodName := ⟨RX9, "age", "(I)I"⟩
abbrev cX9_refusesJoin : ByteArray := prog_11_method_29_code
def yX9_refusesJoin : MethodName := ⟨RX9, "refusesJoin", "()I"⟩
abbrev cX9_joinsGuest : ByteArray := prog_11_method_30_code
def yX9_joinsGuest : MethodName := ⟨RX9, "joinsGuest", "(I)V"⟩
abbrev cX9_aheadOf : ByteArray := prog_11_method_31_code
def yX9_aheadOf : MethodName := ⟨RX9, "aheadOf", "(I)I"⟩
abbrev cX9_joins : ByteArray := prog_11_method_32_code
def yX9_joins : MethodName := ⟨RX9, "joins", "()V"⟩
abbrev cX9_join : ByteArray := prog_11_method_33_code
def yX9_join : MethodName := ⟨RX9, "join", "()I"⟩
abbrev cX9_seat : ByteArray := prog_11_method_34_code
def yX9_seat : MethodName := ⟨RX9, "seat", "(III)I"⟩
abbrev cX9_lettersOf : ByteArray := prog_11_method_35_code
def yX9_lettersOf : MethodName := ⟨RX9, "lettersOf", "(I)I"⟩
abbrev cX9_of : ByteArray := prog_11_method_36_code
def yX9_of : MethodName := ⟨RX9, "of", "(III)I"⟩
abbrev cX9_sumOfCounts : ByteArray := prog_11_method_37_code
def yX9_sumOfCounts : MethodName := ⟨RX9, "sumOfCounts", "(I)I"⟩
abbrev cX9_greatestExcess : ByteArray := prog_11_method_38_code
def yX9_greatestExcess : MethodName := ⟨RX9, "greatestExcess", "(I)I"⟩
abbrev cX9_stream : ByteArray := prog_11_method_39_code
def yX9_stream : MethodName := ⟨RX9, "stream", "(II)I"⟩
abbrev cX9_count : ByteArray := prog_11_method_40_code
def yX9_count : MethodName := ⟨RX9, "count", "(I)I"⟩
abbrev cX9_above : ByteArray := prog_11_method_41_code
def yX9_above : MethodName := ⟨RX9, "above", "(III)I"⟩
abbrev cX9_rankOf : ByteArray := prog_11_method_42_code
def yX9_rankOf : MethodName := ⟨RX9, "rankOf", "(II)I"⟩
abbrev cX9_heavyAt : ByteArray := prog_11_method_43_code
def yX9_heavyAt : MethodName := ⟨RX9, "heavyAt", "(II)I"⟩
abbrev cX9_heaviest : ByteArray := prog_11_method_44_code
def yX9_heaviest : MethodName := ⟨RX9, "heaviest", "(II)I"⟩
abbrev cX9_trueRank : ByteArray := prog_11_method_45_code
def yX9_trueRank : MethodName := ⟨RX9, "trueRank", "(II)I"⟩
abbrev cX9_truly : ByteArray := prog_11_method_46_code
def yX9_truly : MethodName := ⟨RX9, "truly", "(II)I"⟩
abbrev cX9_sureOrder : ByteArray := prog_11_method_47_code
def yX9_sureOrder : MethodName := ⟨RX9, "sureOrder", "(I)I"⟩
abbrev cX9_wouldTake : ByteArray := prog_11_method_48_code
def yX9_wouldTake : MethodName := ⟨RX9, "wouldTake", "(II)I"⟩
abbrev cX9_doubt : ByteArray := prog_11_method_49_code
def yX9_doubt : MethodName := ⟨RX9, "doubt", "(II)I"⟩
abbrev cX9_put : ByteArray := prog_11_method_50_code
def yX9_put : MethodName := ⟨RX9, "put", "(J)I"⟩
abbrev cX9_wipe : ByteArray := prog_11_method_51_code
def yX9_wipe : MethodName := ⟨RX9, "wipe", "()I"⟩
abbrev cX9_sign : ByteArray := prog_11_method_52_code
def yX9_sign : MethodName := ⟨RX9, "sign", "()I"⟩
abbrev cX9_takes : ByteArray := prog_11_method_53_code
def yX9_takes : MethodName := ⟨RX9, "takes", "(II)I"⟩
abbrev cX9_name : ByteArray := prog_11_method_54_code
def yX9_name : MethodName := ⟨RX9, "name", "()I"⟩
abbrev cX9_number : ByteArray := prog_11_method_55_code
def yX9_number : MethodName := ⟨RX9, "number", "()I"⟩
abbrev cX9_readsOrder : ByteArray := prog_11_method_56_code
def yX9_readsOrder : MethodName := ⟨RX9, "readsOrder", "()V"⟩
abbrev cX9_reads : ByteArray := prog_11_method_57_code
def yX9_reads : MethodName := ⟨RX9, "reads", "()I"⟩
abbrev cX9_fault : ByteArray := prog_11_method_58_code
def yX9_fault : MethodName := ⟨RX9, "fault", "()I"⟩
abbrev cX9_does : ByteArray := prog_11_method_59_code
def yX9_does : MethodName := ⟨RX9, "does", "(III)Z"⟩
abbrev cX9_carryOut : ByteArray := prog_11_method_60_code
def yX9_carryOut : MethodName := ⟨RX9, "carryOut", "()I"⟩
abbrev cX9_undo : ByteArray := prog_11_method_61_code
def yX9_undo : MethodName := ⟨RX9, "undo", "()I"⟩
abbrev cX9_save : ByteArray := prog_11_method_62_code
def yX9_save : MethodName := ⟨RX9, "save", "(I)I"⟩
abbrev cX9_restore : ByteArray := prog_11_method_63_code
def yX9_restore : MethodName := ⟨RX9, "restore", "(I)I"⟩
def RJ9 : String := "java/lang/Math"
def TJ9 : u_T := fun k => match k with
  | _ => ("", "", "", false)
def tyJ9 : Nat → FieldType := fun k => match k with
  | _ => .int
abbrev wsJ90 : List Cond := u_ws RJ9 TJ9 0
theorem nmJ9 : ∀ a, a < 0 → ∀ b, b < 0 → a ≠ b → (TJ9 a).2.1 ≠ (TJ9 b).2.1 := by decide +kernel
theorem tyJ9_ok : ∀ k, k < 0 → parseFieldDescriptor (TJ9 k).2.2.1 = some (tyJ9 k) := by decide +kernel
abbrev cJ9_max_7cf53 : ByteArray := prog_12_method_65_code
def yJ9_max_7cf53 : MethodName := ⟨RJ9, "max", "(II)I"⟩
abbrev cJ9_min_7cf53 : ByteArray := prog_12_method_69_code
def yJ9_min_7cf53 : MethodName := ⟨RJ9, "min", "(II)I"⟩
def RJ10 : String := "java/lang/System"
def TJ10 : u_T := fun k => match k with
  | _ => ("", "", "", false)
def tyJ10 : Nat → FieldType := fun k => match k with
  | _ => .int
abbrev wsJ100 : List Cond := u_ws RJ10 TJ10 0
theorem nmJ10 : ∀ a, a < 0 → ∀ b, b < 0 → a ≠ b → (TJ10 a).2.1 ≠ (TJ10 b).2.1 := by decide +kernel
theorem tyJ10_ok : ∀ k, k < 0 → parseFieldDescriptor (TJ10 k).2.2.1 = some (tyJ10 k) := by decide +kernel
def RL : String := "HeavyGuestsLaw"
abbrev cL_law : ByteArray := code
def yL_law : MethodName := ⟨RL, "law", "([I)Z"⟩
end
section
abbrev MI : Type := MethodName × ByteArray × Nat × Option FieldType × Nat × Nat × Nat × Nat
def m_d : MI := (yL_law, ⟨#[]⟩, 0, none, 10, 1, 0, 0)
def mtab0 : List MI := [
  (yX0_init, cX0_init, 2, none, 0, 0, 4, 81),
  (yX0_remember, cX0_remember, 2, none, 0, 1, 4, 89),
  (yX0_bringBack, cX0_bringBack, 2, none, 0, 1, 4, 89),
  (yX0_dropOldest, cX0_dropOldest, 3, none, 0, 0, 0, 0),
  (yX1_init, cX1_init, 1, none, 1, 0, 1, 20),
  (yX1_begin, cX1_begin, 1, none, 1, 0, 0, 0),
  (yX1_mayEnd, cX1_mayEnd, 1, (some .boolean), 1, 0, 0, 0),
  (yX1_read, cX1_read, 2, (some .boolean), 1, 1, 2, 42),
  (yX1_readEnd, cX1_readEnd, 1, (some .boolean), 1, 0, 1, 20),
  (yX1_readStart, cX1_readStart, 2, (some .boolean), 1, 1, 1, 21),
  (yX1_readLetter, cX1_readLetter, 2, (some .boolean), 1, 1, 0, 0),
  (yX1_readStar, cX1_readStar, 1, (some .boolean), 1, 0, 0, 0),
  (yX1_readFirstDigit, cX1_readFirstDigit, 2, (some .boolean), 1, 1, 1, 20),
  (yX1_readDigit, cX1_readDigit, 2, (some .boolean), 1, 1, 1, 20),
  (yX1_readAgeing, cX1_readAgeing, 2, (some .boolean), 1, 1, 0, 0),
  (yX1_isDigit, cX1_isDigit, 1, (some .boolean), 1, 1, 0, 0),
  (yX2_init, cX2_init, 1, none, 2, 0, 1, 20),
  (yX2_signAt, cX2_signAt, 2, (some .int), 2, 1, 0, 0),
  (yX2_append, cX2_append, 2, none, 2, 1, 0, 0),
  (yX3_init, cX3_init, 2, none, 3, 1, 1, 20),
  (yX3_copyFrom, cX3_copyFrom, 2, none, 3, 1, 1, 26),
  (yX3_isTaken, cX3_isTaken, 2, (some .boolean), 3, 1, 0, 0),
  (yX3_guestAt, cX3_guestAt, 2, (some .int), 3, 1, 0, 0),
  (yX3_countAt, cX3_countAt, 2, (some .int), 3, 1, 0, 0),
  (yX3_excessAt, cX3_excessAt, 2, (some .int), 3, 1, 0, 0),
  (yX3_seatOf, cX3_seatOf, 3, (some .int), 3, 1, 1, 21),
  (yX3_mostOf, cX3_mostOf, 3, (some .int), 3, 1, 2, 43),
  (yX3_leastOf, cX3_leastOf, 2, (some .int), 3, 1, 2, 43),
  (yX3_leastAt, cX3_leastAt, 2, (some .int), 3, 1, 1, 21),
  (yX3_mostWithoutSeat, cX3_mostWithoutSeat, 3, (some .int), 3, 0, 1, 21),
  (yX3_sumOfCounts, cX3_sumOfCounts, 3, (some .int), 3, 0, 1, 21),
  (yX3_greatestExcess, cX3_greatestExcess, 3, (some .int), 3, 0, 1, 21),
  (yX3_surelyAbove, cX3_surelyAbove, 4, (some .int), 3, 1, 2, 42),
  (yX3_perhapsAbove, cX3_perhapsAbove, 4, (some .int), 3, 1, 1, 21),
  (yX3_seatFor, cX3_seatFor, 3, (some .int), 3, 1, 3, 65),
  (yX3_firstToGo, cX3_firstToGo, 3, (some .int), 3, 0, 2, 43),
  (yX3_goesBefore, cX3_goesBefore, 3, (some .boolean), 3, 2, 1, 21),
  (yX3_isHeavier, cX3_isHeavier, 3, (some .boolean), 3, 2, 1, 21),
  (yX3_seatAtPlace, cX3_seatAtPlace, 3, (some .int), 3, 1, 3, 66),
  (yX3_heavierThan, cX3_heavierThan, 4, (some .int), 3, 1, 2, 43)]
def mtab1 : List MI := [
  (yX3_placesInSureOrder, cX3_placesInSureOrder, 5, (some .int), 3, 0, 4, 88),
  (yX3_serve, cX3_serve, 5, (some .boolean), 3, 3, 1, 23),
  (yX3_append, cX3_append, 4, none, 3, 3, 0, 0),
  (yX3_insertByWeight, cX3_insertByWeight, 5, none, 3, 3, 2, 45),
  (yX3_swapWithFormer, cX3_swapWithFormer, 5, none, 3, 1, 1, 21),
  (yX3_clear, cX3_clear, 1, none, 3, 0, 0, 0),
  (yX3_replaceByFirstOf, cX3_replaceByFirstOf, 3, none, 3, 1, 1, 23),
  (yX3_changeSeats, cX3_changeSeats, 3, none, 3, 1, 3, 65),
  (yX3_giveUp, cX3_giveUp, 3, none, 3, 1, 1, 21),
  (yX3_halve, cX3_halve, 3, none, 3, 0, 1, 23),
  (yX4_init, cX4_init, 1, none, 4, 0, 4, 81),
  (yX5_init, cX5_init, 1, none, 5, 0, 3, 61),
  (yX5_copyFrom, cX5_copyFrom, 2, none, 5, 1, 3, 68),
  (yX5_streamOf, cX5_streamOf, 2, (some (.object "HeavyGuests$Stream")), 5, 1, 0, 0),
  (yX5_seatsOfEach, cX5_seatsOfEach, 1, (some .int), 5, 0, 0, 0),
  (yX5_changeSeats, cX5_changeSeats, 2, none, 5, 1, 4, 87),
  (yX5_errorOfJoining, cX5_errorOfJoining, 1, (some .int), 5, 0, 3, 66),
  (yX5_joinStreams, cX5_joinStreams, 4, none, 5, 1, 4, 93),
  (yX5_insertJoined, cX5_insertJoined, 5, none, 5, 2, 3, 69),
  (yX6_init, cX6_init, 1, none, 6, 0, 2, 41),
  (yX6_copyFrom, cX6_copyFrom, 2, none, 6, 1, 2, 47),
  (yX6_errorOfComing, cX6_errorOfComing, 4, (some .int), 6, 2, 2, 43),
  (yX6_letCome, cX6_letCome, 4, (some .int), 6, 2, 4, 87),
  (yX6_halve, cX6_halve, 1, none, 6, 0, 3, 67),
  (yX6_beginAnew, cX6_beginAnew, 1, none, 6, 0, 1, 20),
  (yX7_init, cX7_init, 1, none, 7, 0, 1, 20),
  (yX7_copyFrom, cX7_copyFrom, 2, none, 7, 1, 1, 26),
  (yX7_hasPlace, cX7_hasPlace, 2, (some .boolean), 7, 1, 0, 0),
  (yX7_guestAt, cX7_guestAt, 2, (some .int), 7, 1, 0, 0),
  (yX7_timesAt, cX7_timesAt, 2, (some .int), 7, 1, 0, 0),
  (yX7_placeOf, cX7_placeOf, 3, (some .int), 7, 1, 1, 21),
  (yX7_timesOf, cX7_timesOf, 2, (some .int), 7, 1, 2, 43),
  (yX7_trulyAbove, cX7_trulyAbove, 4, (some .int), 7, 1, 1, 21),
  (yX7_unlikeGuestsWith, cX7_unlikeGuestsWith, 4, (some .int), 7, 1, 2, 43),
  (yX7_add, cX7_add, 4, none, 7, 2, 2, 45),
  (yX7_addAllOf, cX7_addAllOf, 3, none, 7, 1, 3, 68),
  (yX7_append, cX7_append, 3, none, 7, 2, 0, 0),
  (yX7_moveUp, cX7_moveUp, 5, none, 7, 1, 1, 21),
  (yX7_clear, cX7_clear, 1, none, 7, 0, 0, 0),
  (yX7_halve, cX7_halve, 3, none, 7, 0, 2, 45)]
def mtab2 : List MI := [
  (yX8_init, cX8_init, 1, none, 8, 0, 5, 102),
  (yX8_seats, cX8_seats, 3, (some .int), 8, 1, 5, 110),
  (yX8_come, cX8_come, 5, (some .int), 8, 3, 5, 110),
  (yX8_age, cX8_age, 2, (some .int), 8, 1, 5, 110),
  (yX8_join, cX8_join, 2, (some .int), 8, 0, 5, 116),
  (yX8_seat, cX8_seat, 5, (some .int), 8, 3, 3, 64),
  (yX8_of, cX8_of, 6, (some .int), 8, 3, 3, 65),
  (yX8_stream, cX8_stream, 4, (some .int), 8, 2, 2, 43),
  (yX8_count, cX8_count, 2, (some .int), 8, 1, 1, 20),
  (yX8_above, cX8_above, 6, (some .int), 8, 3, 3, 65),
  (yX8_heaviest, cX8_heaviest, 4, (some .int), 8, 2, 4, 88),
  (yX8_truly, cX8_truly, 4, (some .int), 8, 2, 1, 21),
  (yX8_sureOrder, cX8_sureOrder, 2, (some .int), 8, 1, 5, 112),
  (yX8_wouldTake, cX8_wouldTake, 4, (some .int), 8, 2, 4, 87),
  (yX8_doubt, cX8_doubt, 5, (some .int), 8, 2, 3, 65),
  (yX8_put, cX8_put, 5, (some .int), 8, 1, 1, 26),
  (yX8_wipe, cX8_wipe, 2, (some .int), 8, 0, 0, 0),
  (yX8_fault, cX8_fault, 2, (some .int), 8, 0, 3, 63),
  (yX8_carryOut, cX8_carryOut, 4, (some .int), 8, 0, 6, 138),
  (yX8_undo, cX8_undo, 1, (some .int), 8, 0, 5, 110),
  (yX8_save, cX8_save, 2, (some .int), 8, 1, 4, 89),
  (yX8_restore, cX8_restore, 2, (some .int), 8, 1, 5, 110),
  (yX8_isStream, cX8_isStream, 1, (some .boolean), 8, 1, 0, 0),
  (yX8_isSlot, cX8_isSlot, 2, (some .boolean), 8, 1, 0, 0),
  (yX8_errorOfAsking, cX8_errorOfAsking, 2, (some .int), 8, 2, 1, 21),
  (yX8_isCode, cX8_isCode, 2, (some .boolean), 8, 1, 0, 0),
  (yX8_lettersOf, cX8_lettersOf, 3, (some .int), 8, 1, 0, 0),
  (yX8_numberOfSigns, cX8_numberOfSigns, 7, (some .int), 8, 1, 0, 0),
  (yX8_carryOrderOut, cX8_carryOrderOut, 3, (some .int), 8, 0, 5, 116),
  (yX9_init, cX9_init, 1, none, 9, 0, 1, 20),
  (yX9_in, cX9_in, 3, (some .boolean), 9, 3, 0, 0),
  (yX9_isStream, cX9_isStream, 1, (some .boolean), 9, 1, 1, 22),
  (yX9_isCode, cX9_isCode, 3, (some .boolean), 9, 1, 1, 22),
  (yX9_get, cX9_get, 3, (some .int), 9, 2, 0, 0),
  (yX9_lay, cX9_lay, 4, none, 9, 3, 0, 0),
  (yX9_guestOf, cX9_guestOf, 3, (some .int), 9, 2, 1, 22),
  (yX9_countOf, cX9_countOf, 3, (some .int), 9, 2, 1, 22),
  (yX9_excessOf, cX9_excessOf, 3, (some .int), 9, 2, 1, 22),
  (yX9_records, cX9_records, 2, none, 9, 0, 0, 0),
  (yX9_seatOf, cX9_seatOf, 4, (some .int), 9, 2, 2, 44)]
def mtab3 : List MI := [
  (yX9_weakest, cX9_weakest, 5, (some .int), 9, 1, 2, 44),
  (yX9_givesUp, cX9_givesUp, 5, none, 9, 2, 1, 23),
  (yX9_isFull, cX9_isFull, 2, (some .boolean), 9, 1, 1, 22),
  (yX9_leastOf, cX9_leastOf, 2, (some .int), 9, 1, 3, 68),
  (yX9_most, cX9_most, 4, (some .int), 9, 2, 4, 89),
  (yX9_least, cX9_least, 4, (some .int), 9, 2, 3, 67),
  (yX9_trueAt, cX9_trueAt, 4, (some .int), 9, 2, 1, 22),
  (yX9_trueOf, cX9_trueOf, 4, (some .int), 9, 2, 2, 45),
  (yX9_countsTruly, cX9_countsTruly, 5, none, 9, 3, 2, 45),
  (yX9_seatFor, cX9_seatFor, 4, (some .int), 9, 2, 3, 68),
  (yX9_comes, cX9_comes, 6, (some .int), 9, 3, 4, 91),
  (yX9_seats, cX9_seats, 4, (some .int), 9, 1, 3, 68),
  (yX9_refusesCome, cX9_refusesCome, 5, (some .int), 9, 3, 2, 45),
  (yX9_come, cX9_come, 5, (some .int), 9, 3, 5, 116),
  (yX9_ages, cX9_ages, 5, none, 9, 1, 2, 47),
  (yX9_age, cX9_age, 2, (some .int), 9, 1, 3, 71),
  (yX9_refusesJoin, cX9_refusesJoin, 3, (some .int), 9, 0, 2, 45),
  (yX9_joinsGuest, cX9_joinsGuest, 3, none, 9, 1, 5, 112),
  (yX9_aheadOf, cX9_aheadOf, 6, (some .int), 9, 1, 0, 0),
  (yX9_joins, cX9_joins, 4, none, 9, 0, 6, 134),
  (yX9_join, cX9_join, 1, (some .int), 9, 0, 7, 157),
  (yX9_seat, cX9_seat, 4, (some .int), 9, 3, 3, 68),
  (yX9_lettersOf, cX9_lettersOf, 3, (some .int), 9, 1, 0, 0),
  (yX9_of, cX9_of, 4, (some .int), 9, 3, 5, 112),
  (yX9_sumOfCounts, cX9_sumOfCounts, 4, (some .int), 9, 1, 2, 44),
  (yX9_greatestExcess, cX9_greatestExcess, 4, (some .int), 9, 1, 2, 44),
  (yX9_stream, cX9_stream, 3, (some .int), 9, 2, 4, 89),
  (yX9_count, cX9_count, 2, (some .int), 9, 1, 0, 0),
  (yX9_above, cX9_above, 8, (some .int), 9, 3, 2, 44),
  (yX9_rankOf, cX9_rankOf, 8, (some .int), 9, 2, 2, 44),
  (yX9_heavyAt, cX9_heavyAt, 4, (some .int), 9, 2, 3, 71),
  (yX9_heaviest, cX9_heaviest, 3, (some .int), 9, 2, 4, 94),
  (yX9_trueRank, cX9_trueRank, 6, (some .int), 9, 2, 1, 22),
  (yX9_truly, cX9_truly, 4, (some .int), 9, 2, 2, 47),
  (yX9_sureOrder, cX9_sureOrder, 7, (some .int), 9, 1, 5, 112),
  (yX9_wouldTake, cX9_wouldTake, 3, (some .int), 9, 2, 4, 91),
  (yX9_doubt, cX9_doubt, 3, (some .int), 9, 2, 5, 112),
  (yX9_put, cX9_put, 8, (some .int), 9, 1, 1, 22),
  (yX9_wipe, cX9_wipe, 2, (some .int), 9, 0, 0, 0),
  (yX9_sign, cX9_sign, 1, (some .int), 9, 0, 0, 0)]
def mtab4 : List MI := [
  (yX9_takes, cX9_takes, 4, (some .int), 9, 2, 1, 22),
  (yX9_name, cX9_name, 3, (some .int), 9, 0, 2, 45),
  (yX9_number, cX9_number, 3, (some .int), 9, 0, 2, 45),
  (yX9_readsOrder, cX9_readsOrder, 4, none, 9, 0, 3, 67),
  (yX9_reads, cX9_reads, 1, (some .int), 9, 0, 4, 90),
  (yX9_fault, cX9_fault, 1, (some .int), 9, 0, 5, 110),
  (yX9_does, cX9_does, 4, (some .boolean), 9, 3, 7, 157),
  (yX9_carryOut, cX9_carryOut, 2, (some .int), 9, 0, 8, 180),
  (yX9_undo, cX9_undo, 2, (some .int), 9, 0, 0, 0),
  (yX9_save, cX9_save, 3, (some .int), 9, 1, 1, 22),
  (yX9_restore, cX9_restore, 3, (some .int), 9, 1, 1, 22),
  (yL_law, cL_law, 4, (some .boolean), 10, 1, 9, 201)]
def mtab : List MI := mtab0 ++ (mtab1 ++ (mtab2 ++ (mtab3 ++ (mtab4))))
def mI (y : Nat) : MI := mtab.getD y m_d
def mN (y : Nat) : MethodName := (mI y).1
def mC (y : Nat) : ByteArray := (mI y).2.1
def mL (y : Nat) : Nat := (mI y).2.2.1
def mR (y : Nat) : Option FieldType := (mI y).2.2.2.1
def mO (y : Nat) : Nat := (mI y).2.2.2.2.1
def mA (y : Nat) : Nat := (mI y).2.2.2.2.2.1
def mF (y : Nat) : Nat := (mI y).2.2.2.2.2.2.1
def mW (y : Nat) : Nat := (mI y).2.2.2.2.2.2.2
abbrev LE : Type := Nat × Nat × Nat × Nat × Nat × Int
def ltab0 : List (LE × List Nat) := [
  ((0, 3, 6, 0, 0, 0), [163, 73, 74]),
  ((0, 9, 12, 5, 0, 0), [164, 76, 56]),
  ((0, 11, 10, 0, 0, 0), [167]),
  ((0, 17, 5, 51, 0, 0), [166, 78, 56, 79]),
  ((0, 18, 10, 0, 1, 0), [168]),
  ((0, 22, 0, 3, 0, 0), [264, 266, 0, 60, 267]),
  ((0, 25, 0, 52, 0, 0), [268, 269, 270, 56, 271]),
  ((0, 100009, 13, 5, 0, 0), [164, 165]),
  ((1, 3, 6, 0, 0, 0), [211, 73, 74]),
  ((1, 11, 10, 1, 0, 0), [212]),
  ((1, 15, 10, 1, 1, 0), [213]),
  ((1, 18, 10, 1, 2, 0), [215])]
def ltab1 : List (LE × List Nat) := [
  ((1, 21, 10, 1, 3, 0), [217]),
  ((1, 24, 10, 1, 4, 0), [219]),
  ((1, 27, 10, 1, 5, 0), [220]),
  ((1, 30, 0, 8, 0, 0), [621, 623, 9, 63, 624]),
  ((1, 34, 0, 9, 0, 0), [630, 632, 10, 63, 633]),
  ((1, 38, 0, 10, 0, 0), [634, 636, 11, 63, 637]),
  ((1, 41, 0, 11, 0, 0), [638, 640, 12, 63, 641]),
  ((1, 44, 0, 12, 0, 0), [642, 644, 13, 63, 645]),
  ((1, 47, 0, 13, 0, 0), [649, 651, 14, 63, 652]),
  ((1, 50, 0, 14, 0, 0), [653, 655, 15, 63, 656]),
  ((1, 53, 0, 6, 0, 0), [625, 626, 627, 63, 628]),
  ((1, 56, 0, 5, 0, 0), [629, 610, 611, 63, 612])]
def ltab2 : List (LE × List Nat) := [
  ((1, 59, 2, 15, 0, 0), [646, 647, 63, 648]),
  ((2, 3, 6, 0, 0, 0), [197, 73, 74]),
  ((2, 9, 10, 2, 0, 0), [198]),
  ((2, 15, 10, 2, 1, 0), [199]),
  ((3, 3, 6, 0, 0, 0), [92, 73, 74]),
  ((3, 9, 10, 3, 0, 0), [93]),
  ((3, 15, 10, 3, 1, 0), [94]),
  ((3, 18, 10, 3, 2, 0), [95]),
  ((3, 21, 10, 3, 3, 0), [96]),
  ((3, 25, 9, 0, 0, 0), [280, 282, 281, 65]),
  ((3, 31, 10, 3, 4, 0), [98]),
  ((3, 34, 0, 22, 0, 0), [364, 365, 366, 58, 367])]
def ltab3 : List (LE × List Nat) := [
  ((3, 38, 0, 25, 0, 0), [360, 361, 362, 58, 363]),
  ((3, 41, 0, 29, 0, 0), [444, 445, 446, 58, 447]),
  ((3, 45, 0, 23, 0, 0), [308, 309, 310, 58, 311]),
  ((3, 48, 0, 28, 0, 0), [455, 456, 457, 58, 458]),
  ((3, 51, 0, 24, 0, 0), [312, 313, 314, 58, 315]),
  ((3, 54, 8, 0, 0, 0), [448, 449, 66, 450]),
  ((3, 60, 7, 0, 0, 0), [530, 531, 66, 532]),
  ((3, 63, 0, 35, 0, 0), [300, 301, 302, 58, 303]),
  ((3, 66, 0, 36, 0, 0), [304, 306, 1, 58, 307]),
  ((3, 70, 0, 39, 0, 0), [561, 563, 8, 58, 564]),
  ((3, 73, 0, 37, 0, 0), [463, 464, 465, 58, 466]),
  ((3, 76, 0, 38, 0, 0), [579, 558, 559, 58, 560])]
def ltab4 : List (LE × List Nat) := [
  ((3, 79, 0, 21, 0, 0), [320, 321, 322, 58, 323]),
  ((3, 83, 0, 42, 0, 0), [372, 374, 3, 58, 375]),
  ((3, 87, 0, 44, 0, 0), [467, 469, 7, 58, 470]),
  ((3, 91, 0, 45, 0, 0), [405, 406, 407, 58, 408]),
  ((3, 94, 0, 48, 0, 0), [316, 318, 2, 58, 319]),
  ((4, 1, 6, 0, 0, 0), [181, 73, 74]),
  ((4, 7, 12, 5, 0, 0), [182, 76, 56]),
  ((4, 9, 5, 51, 0, 0), [183, 78, 56, 79]),
  ((4, 10, 10, 4, 0, 0), [184]),
  ((5, 3, 6, 0, 0, 0), [80, 73, 74]),
  ((5, 9, 12, 6, 0, 0), [81, 82, 57]),
  ((5, 11, 5, 59, 0, 0), [83, 84, 57, 85])]
def ltab5 : List (LE × List Nat) := [
  ((5, 12, 10, 5, 0, 0), [151]),
  ((5, 18, 10, 5, 1, 0), [152]),
  ((5, 21, 0, 60, 0, 0), [272, 273, 274, 57, 275]),
  ((5, 25, 11, 6, 0, 0), [132]),
  ((5, 29, 11, 3, 3, 0), [97]),
  ((5, 35, 0, 47, 0, 0), [296, 297, 298, 58, 299]),
  ((5, 39, 11, 6, 2, 0), [139]),
  ((5, 42, 14, 0, 0, 99999), [425]),
  ((5, 43, 11, 6, 1, 0), [135]),
  ((5, 47, 0, 73, 0, 0), [426, 427, 428, 59, 429]),
  ((5, 53, 0, 45, 0, 0), [434, 406, 407, 58, 408]),
  ((5, 56, 11, 3, 4, 0), [100])]
def ltab6 : List (LE × List Nat) := [
  ((5, 59, 0, 22, 0, 0), [435, 365, 366, 58, 367]),
  ((5, 63, 0, 58, 0, 0), [436, 438, 6, 56, 439]),
  ((5, 67, 0, 25, 0, 0), [471, 361, 362, 58, 363]),
  ((5, 70, 0, 46, 0, 0), [472, 473, 474, 58, 475]),
  ((5, 74, 0, 75, 0, 0), [476, 477, 478, 59, 479]),
  ((5, 78, 0, 64, 0, 0), [485, 486, 487, 57, 488]),
  ((5, 81, 0, 26, 0, 0), [440, 441, 442, 58, 443]),
  ((5, 84, 0, 27, 0, 0), [451, 452, 453, 58, 454]),
  ((5, 87, 0, 43, 0, 0), [459, 460, 461, 58, 462]),
  ((6, 3, 6, 0, 0, 0), [86, 73, 74]),
  ((6, 9, 12, 3, 0, 0), [87, 88, 58]),
  ((6, 11, 4, 19, 0, 0), [89, 90, 58, 91])]
def ltab7 : List (LE × List Nat) := [
  ((6, 14, 10, 6, 0, 0), [131]),
  ((6, 20, 12, 7, 0, 0), [113, 114, 59]),
  ((6, 22, 5, 65, 0, 0), [115, 116, 59, 117]),
  ((6, 23, 10, 6, 1, 0), [134]),
  ((6, 27, 0, 20, 0, 0), [276, 277, 278, 58, 279]),
  ((6, 31, 0, 66, 0, 0), [283, 284, 285, 59, 286]),
  ((6, 34, 10, 6, 2, 0), [137]),
  ((6, 38, 10, 6, 3, 0), [140]),
  ((6, 41, 3, 105, 0, 0), [339, 340, 55, 341]),
  ((6, 45, 14, 0, 0, 99999), [343]),
  ((6, 46, 0, 70, 0, 0), [344, 345, 346, 59, 347]),
  ((6, 50, 11, 7, 2, 0), [122])]
def ltab8 : List (LE × List Nat) := [
  ((6, 53, 0, 34, 0, 0), [356, 357, 358, 58, 359]),
  ((6, 56, 0, 41, 0, 0), [368, 369, 370, 58, 371]),
  ((6, 60, 0, 74, 0, 0), [376, 377, 378, 59, 379]),
  ((6, 64, 0, 49, 0, 0), [401, 402, 403, 58, 404]),
  ((6, 67, 0, 79, 0, 0), [409, 410, 411, 59, 412]),
  ((6, 68, 0, 45, 0, 0), [489, 406, 407, 58, 408]),
  ((6, 71, 0, 78, 0, 0), [490, 414, 415, 59, 416]),
  ((7, 3, 6, 0, 0, 0), [118, 73, 74]),
  ((7, 9, 10, 7, 0, 0), [119]),
  ((7, 15, 10, 7, 1, 0), [120]),
  ((7, 18, 9, 0, 0, 0), [287, 282, 281, 65]),
  ((7, 24, 10, 7, 2, 0), [121])]
def ltab9 : List (LE × List Nat) := [
  ((7, 28, 0, 68, 0, 0), [348, 349, 350, 59, 351]),
  ((7, 32, 0, 70, 0, 0), [380, 345, 346, 59, 347]),
  ((7, 35, 0, 69, 0, 0), [480, 481, 482, 59, 483]),
  ((7, 38, 0, 76, 0, 0), [381, 383, 4, 59, 384]),
  ((7, 42, 0, 67, 0, 0), [385, 386, 387, 59, 388]),
  ((7, 46, 0, 77, 0, 0), [389, 391, 5, 59, 392]),
  ((7, 50, 0, 74, 0, 0), [484, 377, 378, 59, 379]),
  ((7, 53, 0, 78, 0, 0), [413, 414, 415, 59, 416]),
  ((8, 1, 6, 0, 0, 0), [72, 73, 74]),
  ((8, 7, 12, 5, 0, 0), [75, 76, 56]),
  ((8, 9, 5, 51, 0, 0), [77, 78, 56, 79]),
  ((8, 10, 10, 8, 0, 0), [237])]
def ltab10 : List (LE × List Nat) := [
  ((8, 16, 12, 0, 0, 0), [158, 159, 60]),
  ((8, 18, 4, 0, 0, 0), [160, 161, 60, 162]),
  ((8, 19, 10, 8, 1, 0), [238]),
  ((8, 23, 12, 4, 0, 0), [175, 177, 61]),
  ((8, 25, 5, 50, 0, 0), [178, 179, 61, 180]),
  ((8, 26, 10, 8, 2, 0), [239]),
  ((8, 30, 12, 2, 0, 0), [192, 193, 62]),
  ((8, 32, 5, 16, 0, 0), [194, 195, 62, 196]),
  ((8, 33, 10, 8, 3, 0), [240]),
  ((8, 37, 12, 1, 0, 0), [206, 207, 63]),
  ((8, 39, 5, 4, 0, 0), [208, 209, 63, 210]),
  ((8, 40, 10, 8, 4, 0), [241])]
def ltab11 : List (LE × List Nat) := [
  ((8, 44, 12, 3, 0, 0), [235, 88, 58]),
  ((8, 46, 4, 19, 0, 0), [236, 90, 58, 91]),
  ((8, 49, 10, 8, 5, 0), [242]),
  ((8, 53, 0, 1, 0, 0), [260, 261, 262, 60, 263]),
  ((8, 57, 0, 54, 0, 0), [288, 289, 290, 56, 291]),
  ((8, 61, 0, 55, 0, 0), [292, 293, 294, 56, 295]),
  ((8, 64, 2, 102, 0, 0), [328, 329, 55, 330]),
  ((8, 68, 0, 53, 0, 0), [331, 332, 333, 56, 334]),
  ((8, 72, 0, 61, 0, 0), [335, 336, 337, 57, 338]),
  ((8, 78, 0, 62, 0, 0), [352, 353, 354, 57, 355]),
  ((8, 81, 0, 63, 0, 0), [397, 398, 399, 57, 400]),
  ((8, 84, 11, 6, 2, 0), [138])]
def ltab12 : List (LE × List Nat) := [
  ((8, 88, 0, 56, 0, 0), [421, 422, 423, 56, 424]),
  ((8, 91, 0, 57, 0, 0), [430, 431, 432, 56, 433]),
  ((8, 95, 11, 6, 0, 0), [133]),
  ((8, 98, 11, 3, 4, 0), [99]),
  ((8, 101, 0, 21, 0, 0), [495, 321, 322, 58, 323]),
  ((8, 104, 0, 22, 0, 0), [496, 365, 366, 58, 367]),
  ((8, 108, 0, 23, 0, 0), [497, 309, 310, 58, 311]),
  ((8, 111, 0, 24, 0, 0), [498, 313, 314, 58, 315]),
  ((8, 114, 11, 6, 1, 0), [136]),
  ((8, 118, 0, 71, 0, 0), [499, 500, 501, 59, 502]),
  ((8, 123, 2, 104, 0, 0), [507, 508, 55, 509]),
  ((8, 126, 0, 25, 0, 0), [511, 361, 362, 58, 363])]
def ltab13 : List (LE × List Nat) := [
  ((8, 129, 0, 26, 0, 0), [512, 441, 442, 58, 443]),
  ((8, 132, 0, 27, 0, 0), [513, 452, 453, 58, 454]),
  ((8, 135, 2, 106, 0, 0), [514, 515, 55, 516]),
  ((8, 138, 11, 7, 2, 0), [123]),
  ((8, 141, 0, 29, 0, 0), [521, 445, 446, 58, 447]),
  ((8, 144, 0, 30, 0, 0), [522, 523, 524, 58, 525]),
  ((8, 147, 0, 31, 0, 0), [526, 527, 528, 58, 529]),
  ((8, 150, 11, 6, 3, 0), [141]),
  ((8, 153, 11, 2, 1, 0), [200]),
  ((8, 156, 11, 0, 1, 0), [169]),
  ((8, 157, 0, 32, 0, 0), [541, 542, 543, 58, 544]),
  ((8, 160, 0, 33, 0, 0), [545, 546, 547, 58, 548])]
def ltab14 : List (LE × List Nat) := [
  ((8, 163, 0, 72, 0, 0), [549, 550, 551, 59, 552]),
  ((8, 166, 0, 38, 0, 0), [557, 558, 559, 58, 560]),
  ((8, 169, 0, 67, 0, 0), [569, 386, 387, 59, 388]),
  ((8, 172, 0, 68, 0, 0), [570, 349, 350, 59, 351]),
  ((8, 173, 0, 40, 0, 0), [575, 576, 577, 58, 578]),
  ((8, 176, 0, 34, 0, 0), [584, 357, 358, 58, 359]),
  ((8, 179, 2, 107, 0, 0), [593, 594, 55, 595]),
  ((8, 183, 0, 18, 0, 0), [597, 598, 599, 62, 600]),
  ((8, 186, 0, 5, 0, 0), [609, 610, 611, 63, 612]),
  ((8, 189, 0, 17, 0, 0), [613, 614, 615, 62, 616]),
  ((8, 192, 0, 7, 0, 0), [617, 618, 619, 63, 620]),
  ((8, 195, 0, 6, 0, 0), [657, 626, 627, 63, 628])]
def ltab15 : List (LE × List Nat) := [
  ((8, 199, 0, 97, 0, 0), [662, 606, 607, 55, 608]),
  ((8, 202, 0, 108, 0, 0), [663, 665, 16, 55, 666]),
  ((8, 205, 0, 2, 0, 0), [671, 672, 673, 60, 674]),
  ((8, 208, 0, 103, 0, 0), [679, 681, 17, 55, 682]),
  ((8, 211, 11, 4, 0, 0), [185]),
  ((8, 214, 0, 52, 0, 0), [683, 269, 270, 56, 271]),
  ((8, 217, 11, 4, 1, 0), [186]),
  ((8, 221, 2, 105, 0, 0), [510, 340, 55, 341]),
  ((8, 224, 14, 0, 0, 531440), [342]),
  ((8, 225, 15, 0, 0, 255), [596]),
  ((8, 227, 11, 1, 2, 0), [216]),
  ((8, 230, 11, 1, 1, 0), [214])]
def ltab16 : List (LE × List Nat) := [
  ((8, 233, 11, 1, 3, 0), [218]),
  ((8, 236, 11, 1, 5, 0), [221]),
  ((8, 100023, 13, 4, 0, 0), [175, 176]),
  ((9, 1, 6, 0, 0, 0), [693, 73, 74]),
  ((9, 7, 10, 9, 1, 0), [695]),
  ((9, 13, 10, 9, 2, 0), [696]),
  ((9, 16, 10, 9, 4, 0), [698]),
  ((9, 19, 10, 9, 5, 0), [699]),
  ((9, 23, 10, 9, 6, 0), [700]),
  ((9, 26, 10, 9, 8, 0), [702]),
  ((9, 29, 10, 9, 12, 0), [706]),
  ((9, 32, 10, 9, 0, 0), [694])]
def ltab17 : List (LE × List Nat) := [
  ((9, 36, 2, 110, 0, 0), [742, 743, 64, 744]),
  ((9, 40, 14, 0, 0, 531440), [787]),
  ((9, 41, 0, 113, 0, 0), [749, 751, 19, 64, 752]),
  ((9, 45, 10, 9, 3, 0), [697]),
  ((9, 48, 0, 115, 0, 0), [805, 807, 30, 64, 808]),
  ((9, 51, 0, 116, 0, 0), [757, 759, 21, 64, 760]),
  ((9, 54, 0, 117, 0, 0), [761, 763, 22, 64, 764]),
  ((9, 57, 0, 114, 0, 0), [769, 771, 24, 64, 772]),
  ((9, 61, 0, 122, 0, 0), [809, 811, 31, 64, 812]),
  ((9, 65, 0, 120, 0, 0), [753, 755, 20, 64, 756]),
  ((9, 69, 0, 119, 0, 0), [801, 803, 29, 64, 804]),
  ((9, 72, 0, 123, 0, 0), [845, 847, 38, 64, 848])]
def ltab18 : List (LE × List Nat) := [
  ((9, 75, 0, 126, 0, 0), [788, 790, 26, 64, 791]),
  ((9, 78, 0, 129, 0, 0), [797, 799, 28, 64, 800]),
  ((9, 81, 0, 128, 0, 0), [813, 815, 32, 64, 816]),
  ((9, 84, 0, 118, 0, 0), [745, 747, 18, 64, 748]),
  ((9, 87, 0, 121, 0, 0), [765, 767, 23, 64, 768]),
  ((9, 91, 2, 111, 0, 0), [781, 782, 64, 783]),
  ((9, 94, 2, 112, 0, 0), [784, 785, 64, 786]),
  ((9, 97, 14, 0, 0, 99999), [792]),
  ((9, 98, 0, 132, 0, 0), [777, 779, 25, 64, 780]),
  ((9, 102, 0, 130, 0, 0), [793, 795, 27, 64, 796]),
  ((9, 105, 0, 134, 0, 0), [821, 823, 33, 64, 824]),
  ((9, 109, 0, 124, 0, 0), [841, 843, 37, 64, 844])]
def ltab19 : List (LE × List Nat) := [
  ((9, 112, 10, 9, 9, 0), [703]),
  ((9, 115, 0, 125, 0, 0), [849, 851, 39, 64, 852]),
  ((9, 118, 0, 137, 0, 0), [837, 839, 36, 64, 840]),
  ((9, 121, 0, 138, 0, 0), [853, 855, 40, 64, 856]),
  ((9, 124, 0, 136, 0, 0), [829, 831, 34, 64, 832]),
  ((9, 128, 0, 139, 0, 0), [833, 835, 35, 64, 836]),
  ((9, 131, 0, 127, 0, 0), [861, 863, 41, 64, 864]),
  ((9, 134, 2, 142, 0, 0), [869, 870, 64, 871]),
  ((9, 137, 0, 144, 0, 0), [876, 878, 42, 64, 879]),
  ((9, 140, 0, 145, 0, 0), [880, 882, 43, 64, 883]),
  ((9, 143, 10, 9, 7, 0), [701]),
  ((9, 146, 0, 149, 0, 0), [900, 902, 45, 64, 903])]
def ltab20 : List (LE × List Nat) := [
  ((9, 149, 0, 150, 0, 0), [896, 898, 44, 64, 899]),
  ((9, 152, 0, 152, 0, 0), [908, 910, 46, 64, 911]),
  ((9, 155, 15, 0, 0, 255), [928]),
  ((9, 157, 10, 9, 10, 0), [704]),
  ((9, 160, 10, 9, 11, 0), [705]),
  ((9, 164, 0, 159, 0, 0), [945, 947, 49, 64, 948]),
  ((9, 167, 0, 160, 0, 0), [949, 951, 50, 64, 952]),
  ((9, 170, 0, 161, 0, 0), [953, 955, 51, 64, 956]),
  ((9, 173, 0, 162, 0, 0), [957, 959, 52, 64, 960]),
  ((9, 176, 10, 9, 13, 0), [707]),
  ((9, 179, 0, 163, 0, 0), [941, 943, 48, 64, 944]),
  ((9, 182, 0, 164, 0, 0), [937, 939, 47, 64, 940])]
def ltab21 : List (LE × List Nat) := [
  ((9, 185, 0, 166, 0, 0), [965, 967, 53, 64, 968]),
  ((10, 7, 12, 8, 0, 0), [67, 68, 55]),
  ((10, 9, 4, 80, 0, 0), [69, 70, 55, 71]),
  ((10, 10, 12, 9, 0, 0), [688, 689, 64]),
  ((10, 12, 4, 109, 0, 0), [690, 691, 64, 692]),
  ((10, 13, 0, 81, 0, 0), [256, 257, 258, 55, 259]),
  ((10, 17, 0, 131, 0, 0), [738, 739, 740, 64, 741]),
  ((10, 18, 0, 82, 0, 0), [324, 325, 326, 55, 327]),
  ((10, 22, 0, 133, 0, 0), [773, 774, 775, 64, 776]),
  ((10, 23, 0, 83, 0, 0), [393, 394, 395, 55, 396]),
  ((10, 26, 0, 135, 0, 0), [817, 818, 819, 64, 820]),
  ((10, 27, 0, 84, 0, 0), [417, 418, 419, 55, 420])]
def ltab22 : List (LE × List Nat) := [
  ((10, 31, 0, 140, 0, 0), [825, 826, 827, 64, 828]),
  ((10, 32, 0, 85, 0, 0), [491, 492, 493, 55, 494]),
  ((10, 35, 0, 141, 0, 0), [857, 858, 859, 64, 860]),
  ((10, 36, 0, 86, 0, 0), [503, 504, 505, 55, 506]),
  ((10, 39, 0, 143, 0, 0), [865, 866, 867, 64, 868]),
  ((10, 40, 0, 87, 0, 0), [517, 518, 519, 55, 520]),
  ((10, 44, 0, 146, 0, 0), [872, 873, 874, 64, 875]),
  ((10, 45, 0, 88, 0, 0), [533, 534, 535, 55, 536]),
  ((10, 48, 0, 147, 0, 0), [884, 885, 886, 64, 887]),
  ((10, 49, 0, 89, 0, 0), [537, 538, 539, 55, 540]),
  ((10, 52, 0, 148, 0, 0), [888, 889, 890, 64, 891]),
  ((10, 53, 0, 90, 0, 0), [553, 554, 555, 55, 556])]
def ltab23 : List (LE × List Nat) := [
  ((10, 56, 0, 151, 0, 0), [892, 893, 894, 64, 895]),
  ((10, 57, 0, 91, 0, 0), [565, 566, 567, 55, 568]),
  ((10, 60, 0, 153, 0, 0), [904, 905, 906, 64, 907]),
  ((10, 61, 0, 92, 0, 0), [571, 572, 573, 55, 574]),
  ((10, 64, 0, 154, 0, 0), [912, 913, 914, 64, 915]),
  ((10, 65, 0, 93, 0, 0), [580, 581, 582, 55, 583]),
  ((10, 68, 0, 155, 0, 0), [916, 917, 918, 64, 919]),
  ((10, 69, 0, 94, 0, 0), [585, 586, 587, 55, 588]),
  ((10, 72, 0, 156, 0, 0), [920, 921, 922, 64, 923]),
  ((10, 73, 15, 0, 0, 4294967295), [981]),
  ((10, 75, 0, 95, 0, 0), [589, 590, 591, 55, 592]),
  ((10, 79, 0, 157, 0, 0), [924, 925, 926, 64, 927])]
def ltab24 : List (LE × List Nat) := [
  ((10, 80, 0, 96, 0, 0), [601, 602, 603, 55, 604]),
  ((10, 83, 0, 158, 0, 0), [929, 930, 931, 64, 932]),
  ((10, 84, 0, 97, 0, 0), [605, 606, 607, 55, 608]),
  ((10, 87, 0, 165, 0, 0), [933, 934, 935, 64, 936]),
  ((10, 88, 0, 98, 0, 0), [658, 659, 660, 55, 661]),
  ((10, 91, 0, 167, 0, 0), [961, 962, 963, 64, 964]),
  ((10, 92, 0, 99, 0, 0), [667, 668, 669, 55, 670]),
  ((10, 95, 0, 168, 0, 0), [969, 970, 971, 64, 972]),
  ((10, 96, 0, 100, 0, 0), [675, 676, 677, 55, 678]),
  ((10, 99, 0, 169, 0, 0), [973, 974, 975, 64, 976]),
  ((10, 100, 0, 101, 0, 0), [684, 685, 686, 55, 687]),
  ((10, 103, 0, 170, 0, 0), [977, 978, 979, 64, 980])]
def ltabP : List (LE × List Nat) := ltab0 ++ (ltab1 ++ (ltab2 ++ (ltab3 ++ (ltab4 ++ (ltab5 ++ (ltab6 ++ (ltab7 ++ (ltab8 ++ (ltab9 ++ (ltab10 ++ (ltab11 ++ (ltab12 ++ (ltab13 ++ (ltab14 ++ (ltab15 ++ (ltab16 ++ (ltab17 ++ (ltab18 ++ (ltab19 ++ (ltab20 ++ (ltab21 ++ (ltab22 ++ (ltab23 ++ (ltab24))))))))))))))))))))))))
def ltab : List LE := ltabP.map (fun q => q.1)
def cNm : Nat → String := fun k => match k with
  | 0 => RX0
  | 1 => RX1
  | 2 => RX2
  | 3 => RX3
  | 4 => RX4
  | 5 => RX5
  | 6 => RX6
  | 7 => RX7
  | 8 => RX8
  | 9 => RX9
  | 10 => RL
  | _ => RL
abbrev vcl : List vw_C := [(RX0, TX0, 2), (RX1, TX1, 6), (RX2, TX2, 2), (RX3, TX3, 5), (RX4, TX4, 2), (RX5, TX5, 2), (RX6, TX6, 4), (RX7, TX7, 3), (RX8, TX8, 6), (RX9, TX9, 14)]
def cN (k : Nat) : Nat := match k with
  | 0 => 2
  | 1 => 6
  | 2 => 2
  | 3 => 5
  | 4 => 2
  | 5 => 2
  | 6 => 4
  | 7 => 3
  | 8 => 6
  | 9 => 14
  | _ => 0
def cT (k : Nat) : u_T := match k with
  | 0 => TX0
  | 1 => TX1
  | 2 => TX2
  | 3 => TX3
  | 4 => TX4
  | 5 => TX5
  | 6 => TX6
  | 7 => TX7
  | 8 => TX8
  | 9 => TX9
  | _ => TX0
def cY (k : Nat) : Nat → FieldType := match k with
  | 0 => tyX0
  | 1 => tyX1
  | 2 => tyX2
  | 3 => tyX3
  | 4 => tyX4
  | 5 => tyX5
  | 6 => tyX6
  | 7 => tyX7
  | 8 => tyX8
  | 9 => tyX9
  | _ => tyX0
def cV (k : Nat) : List Value := match k with
  | 0 => [.null, .int 0]
  | 1 => [.int 0, .int 0, .int 0, .int 0, .int 0, .int 0]
  | 2 => [.null, .int 0]
  | 3 => [.null, .null, .null, .int 0, .int 0]
  | 4 => [.null, .int 0]
  | 5 => [.null, .null]
  | 6 => [.null, .null, .int 0, .int 0]
  | 7 => [.null, .null, .int 0]
  | 8 => [.null, .null, .null, .null, .null, .null]
  | 9 => [.int 0, .null, .null, .int 0, .null, .null, .null, .int 0, .null, .int 0, .int 0, .int 0, .null, .int 0]
  | _ => []
def hostC : String := "HeavyGuests"
def cwd (y : Nat) : Cond := .code (mN y) (mC y) (mL y) (mR y)
/-- the words of the tables that an entry of the links rests on -/
def lcs (q : LE) : List Cond :=
  let own := cNm q.1
  let idx := q.2.1
  let a := q.2.2.2.1
  let b := q.2.2.2.2.1
  let y := mN a
  match q.2.2.1 with
  | 0 => [.methodLink own idx y, .instanceMethod y, .selects y.cls y y, .initialized y.cls, cwd a]
  | 1 => [.methodLinkNest own idx y hostC, .instanceMethod y, .selects y.cls y y, .initialized y.cls, cwd a]
  | 2 => [.methodLink own idx y, .static y, .initialized y.cls, cwd a]
  | 3 => [.methodLinkNest own idx y hostC, .static y, .initialized y.cls, cwd a]
  | 4 => [.methodLink own idx y, .instanceMethod y, .initialized y.cls, cwd a]
  | 5 => [.methodLinkNest own idx y hostC, .instanceMethod y, .initialized y.cls, cwd a]
  | 6 => [.methodLink own idx objectInit, .instanceMethod objectInit, .code objectInit ⟨#[0xb1]⟩ 1 none]
  | 7 => [.methodLink own idx Lib.Math.max.name, .static Lib.Math.max.name, .initialized "java/lang/Math", .code Lib.Math.max.name Lib.Math.max.code 2 (some .int)]
  | 8 => [.methodLink own idx Lib.Math.min.name, .static Lib.Math.min.name, .initialized "java/lang/Math", .code Lib.Math.min.name Lib.Math.min.code 2 (some .int)]
  | 9 => [.methodLink own idx arraycopyName, .native arraycopyName, .static arraycopyName, .initialized "java/lang/System"]
  | 10 => [.fieldLink own idx (cNm a) (cT a b).2.1 (cT a b).2.2.1]
  | 11 => [.fieldLinkNest own idx (cNm a) (cT a b).2.1 (cT a b).2.2.1 hostC]
  | 12 => [.classLink own idx (cNm a), .instantiable (cNm a) (cN a), .initialized (cNm a)]
  | 13 => [.classLink own (idx - 100000) (cNm a), .arrayOver (.object (cNm a))]
  | 14 => [.constant own idx (Int32.ofInt q.2.2.2.2.2)]
  | 15 => [.constantLong own idx (Int64.ofInt q.2.2.2.2.2)]
  | _ => []
/-- the words that ride beside the good ones: links of nest mates, arrays over own objects -/
def isNW : Cond → Bool
  | .fieldLinkNest .. => true
  | .methodLinkNest .. => true
  | .arrayOver (.object _) => true
  | _ => false
def okW (w : Cond) : Bool := goodWord w || isNW w
def okLP (q : LE × List Nat) : Bool := (lcs q.1).length == q.2.length && ((lcs q.1).zip q.2).all (fun z => okW z.1 && decide (lw_tbl[z.2]? = some z.1))
end
section
theorem okLP0 : ltab0.all okLP = true := by decide +kernel
theorem okLP1 : ltab1.all okLP = true := by decide +kernel
theorem okLP2 : ltab2.all okLP = true := by decide +kernel
theorem okLP3 : ltab3.all okLP = true := by decide +kernel
theorem okLP4 : ltab4.all okLP = true := by decide +kernel
theorem okLP5 : ltab5.all okLP = true := by decide +kernel
theorem okLP6 : ltab6.all okLP = true := by decide +kernel
theorem okLP7 : ltab7.all okLP = true := by decide +kernel
theorem okLP8 : ltab8.all okLP = true := by decide +kernel
theorem okLP9 : ltab9.all okLP = true := by decide +kernel
theorem okLP10 : ltab10.all okLP = true := by decide +kernel
theorem okLP11 : ltab11.all okLP = true := by decide +kernel
theorem okLP12 : ltab12.all okLP = true := by decide +kernel
theorem okLP13 : ltab13.all okLP = true := by decide +kernel
theorem okLP14 : ltab14.all okLP = true := by decide +kernel
theorem okLP15 : ltab15.all okLP = true := by decide +kernel
theorem okLP16 : ltab16.all okLP = true := by decide +kernel
theorem okLP17 : ltab17.all okLP = true := by decide +kernel
theorem okLP18 : ltab18.all okLP = true := by decide +kernel
theorem okLP19 : ltab19.all okLP = true := by decide +kernel
theorem okLP20 : ltab20.all okLP = true := by decide +kernel
theorem okLP21 : ltab21.all okLP = true := by decide +kernel
theorem okLP22 : ltab22.all okLP = true := by decide +kernel
theorem okLP23 : ltab23.all okLP = true := by decide +kernel
theorem okLP24 : ltab24.all okLP = true := by decide +kernel
theorem okLP_all : ∀ q ∈ ltabP, okLP q = true := by
  intro q h
  simp only [ltabP, List.mem_append] at h
  rcases h with h | h | h | h | h | h | h | h | h | h | h | h | h | h | h | h | h | h | h | h | h | h | h | h | h
  · exact List.all_eq_true.mp okLP0 q h
  · exact List.all_eq_true.mp okLP1 q h
  · exact List.all_eq_true.mp okLP2 q h
  · exact List.all_eq_true.mp okLP3 q h
  · exact List.all_eq_true.mp okLP4 q h
  · exact List.all_eq_true.mp okLP5 q h
  · exact List.all_eq_true.mp okLP6 q h
  · exact List.all_eq_true.mp okLP7 q h
  · exact List.all_eq_true.mp okLP8 q h
  · exact List.all_eq_true.mp okLP9 q h
  · exact List.all_eq_true.mp okLP10 q h
  · exact List.all_eq_true.mp okLP11 q h
  · exact List.all_eq_true.mp okLP12 q h
  · exact List.all_eq_true.mp okLP13 q h
  · exact List.all_eq_true.mp okLP14 q h
  · exact List.all_eq_true.mp okLP15 q h
  · exact List.all_eq_true.mp okLP16 q h
  · exact List.all_eq_true.mp okLP17 q h
  · exact List.all_eq_true.mp okLP18 q h
  · exact List.all_eq_true.mp okLP19 q h
  · exact List.all_eq_true.mp okLP20 q h
  · exact List.all_eq_true.mp okLP21 q h
  · exact List.all_eq_true.mp okLP22 q h
  · exact List.all_eq_true.mp okLP23 q h
  · exact List.all_eq_true.mp okLP24 q h
theorem zip_in {α β : Type} {P : α → β → Prop} : ∀ {as : List α} {bs : List β}, as.length = bs.length → (∀ q ∈ as.zip bs, P q.1 q.2) → ∀ x ∈ as, ∃ b, P x b
  | [], _, _, _, x, hx => by cases hx
  | a :: as, [], hl, _, _, _ => by simp at hl
  | a :: as, b :: bs, hl, h, x, hx => by
    rcases List.mem_cons.mp hx with rfl | hx
    · exact ⟨b, h (x, b) (by simp)⟩
    · exact zip_in (by simpa using hl) (fun q hq => h q (by simp [hq])) x hx
def lw_U : List Cond := lw_tbl.filter goodWord
theorem lcs_in {q : LE} (h : q ∈ ltab) : ∀ w ∈ lcs q, w ∈ lw_tbl ∧ okW w = true := by
  obtain ⟨z, hz, rfl⟩ := List.mem_map.mp h
  have h1 := okLP_all z hz
  simp only [okLP, Bool.and_eq_true, beq_iff_eq] at h1
  intro w hw
  obtain ⟨b, hb⟩ := zip_in (P := fun x b => okW x = true ∧ lw_tbl[b]? = some x) h1.1 (fun q hq => by
    have := List.all_eq_true.mp h1.2 q hq
    simpa using this) w hw
  exact ⟨List.mem_of_getElem? hb.2, hb.1⟩
theorem lw_goodIn : GoodIn lw_U lw_U := fun w hw => ⟨hw, good_of_word (List.mem_filter.mp hw).2⟩
def lk (own idx : Nat) : Option (Nat × Nat × Nat × Int) := (ltab.find? (fun q => Nat.beq q.1 own && Nat.beq q.2.1 idx)).map (fun q => q.2.2)
theorem lk_in {own idx : Nat} {r : Nat × Nat × Nat × Int} (h : lk own idx = some r) : (own, idx, r) ∈ ltab := by
  unfold lk at h
  cases hf : ltab.find? (fun q => Nat.beq q.1 own && Nat.beq q.2.1 idx) with
  | none => rw [hf] at h; cases h
  | some z =>
    rw [hf] at h
    have h1 := List.mem_of_find?_eq_some hf
    have h2 := List.find?_some hf
    simp only [Bool.and_eq_true, Nat.beq_eq_true_eq] at h2
    obtain ⟨z1, z2, z3⟩ := z
    cases h
    obtain ⟨e1, e2⟩ := h2
    have e1 : z1 = own := Nat.eq_of_beq_eq_true e1
    have e2 : z2 = idx := Nat.eq_of_beq_eq_true e2
    subst e1; subst e2
    exact h1
theorem cin_0 : ∀ w ∈ u_ws RX0 TX0 2, w ∈ lw_U := fun w hw => List.mem_filter.mpr ⟨(by decide +kernel : ∀ w ∈ u_ws RX0 TX0 2, w ∈ lw_tbl) w hw, (by decide +kernel : ∀ w ∈ u_ws RX0 TX0 2, goodWord w = true) w hw⟩
theorem cin_1 : ∀ w ∈ u_ws RX1 TX1 6, w ∈ lw_U := fun w hw => List.mem_filter.mpr ⟨(by decide +kernel : ∀ w ∈ u_ws RX1 TX1 6, w ∈ lw_tbl) w hw, (by decide +kernel : ∀ w ∈ u_ws RX1 TX1 6, goodWord w = true) w hw⟩
theorem cin_2 : ∀ w ∈ u_ws RX2 TX2 2, w ∈ lw_U := fun w hw => List.mem_filter.mpr ⟨(by decide +kernel : ∀ w ∈ u_ws RX2 TX2 2, w ∈ lw_tbl) w hw, (by decide +kernel : ∀ w ∈ u_ws RX2 TX2 2, goodWord w = true) w hw⟩
theorem cin_3 : ∀ w ∈ u_ws RX3 TX3 5, w ∈ lw_U := fun w hw => List.mem_filter.mpr ⟨(by decide +kernel : ∀ w ∈ u_ws RX3 TX3 5, w ∈ lw_tbl) w hw, (by decide +kernel : ∀ w ∈ u_ws RX3 TX3 5, goodWord w = true) w hw⟩
theorem cin_4 : ∀ w ∈ u_ws RX4 TX4 2, w ∈ lw_U := fun w hw => List.mem_filter.mpr ⟨(by decide +kernel : ∀ w ∈ u_ws RX4 TX4 2, w ∈ lw_tbl) w hw, (by decide +kernel : ∀ w ∈ u_ws RX4 TX4 2, goodWord w = true) w hw⟩
theorem cin_5 : ∀ w ∈ u_ws RX5 TX5 2, w ∈ lw_U := fun w hw => List.mem_filter.mpr ⟨(by decide +kernel : ∀ w ∈ u_ws RX5 TX5 2, w ∈ lw_tbl) w hw, (by decide +kernel : ∀ w ∈ u_ws RX5 TX5 2, goodWord w = true) w hw⟩
theorem cin_6 : ∀ w ∈ u_ws RX6 TX6 4, w ∈ lw_U := fun w hw => List.mem_filter.mpr ⟨(by decide +kernel : ∀ w ∈ u_ws RX6 TX6 4, w ∈ lw_tbl) w hw, (by decide +kernel : ∀ w ∈ u_ws RX6 TX6 4, goodWord w = true) w hw⟩
theorem cin_7 : ∀ w ∈ u_ws RX7 TX7 3, w ∈ lw_U := fun w hw => List.mem_filter.mpr ⟨(by decide +kernel : ∀ w ∈ u_ws RX7 TX7 3, w ∈ lw_tbl) w hw, (by decide +kernel : ∀ w ∈ u_ws RX7 TX7 3, goodWord w = true) w hw⟩
theorem cin_8 : ∀ w ∈ u_ws RX8 TX8 6, w ∈ lw_U := fun w hw => List.mem_filter.mpr ⟨(by decide +kernel : ∀ w ∈ u_ws RX8 TX8 6, w ∈ lw_tbl) w hw, (by decide +kernel : ∀ w ∈ u_ws RX8 TX8 6, goodWord w = true) w hw⟩
theorem cin_9 : ∀ w ∈ u_ws RX9 TX9 14, w ∈ lw_U := fun w hw => List.mem_filter.mpr ⟨(by decide +kernel : ∀ w ∈ u_ws RX9 TX9 14, w ∈ lw_tbl) w hw, (by decide +kernel : ∀ w ∈ u_ws RX9 TX9 14, goodWord w = true) w hw⟩
/-- what is known of each kind of object -/
def cOK (C : String) (T : u_T) (N : Nat) (ty : Nat → FieldType) (vs : List Value) : Prop := (∀ w ∈ u_ws C T N, w ∈ lw_U) ∧ (∀ k, k < N → parseFieldDescriptor (T k).2.2.1 = some (ty k)) ∧ (∀ a, a < N → ∀ b, b < N → a ≠ b → (T a).2.1 ≠ (T b).2.1) ∧ (∀ k, k < N → (T k).1 = C) ∧ vs.length = N ∧ ∀ j, j < N → defaultValue (ty j) = vp_V vs j
theorem cok_0 : cOK RX0 TX0 2 tyX0 (cV 0) := ⟨cin_0, tyX0_ok, nmX0, by decide +kernel, rfl, by decide +kernel⟩
theorem cok_1 : cOK RX1 TX1 6 tyX1 (cV 1) := ⟨cin_1, tyX1_ok, nmX1, by decide +kernel, rfl, by decide +kernel⟩
theorem cok_2 : cOK RX2 TX2 2 tyX2 (cV 2) := ⟨cin_2, tyX2_ok, nmX2, by decide +kernel, rfl, by decide +kernel⟩
theorem cok_3 : cOK RX3 TX3 5 tyX3 (cV 3) := ⟨cin_3, tyX3_ok, nmX3, by decide +kernel, rfl, by decide +kernel⟩
theorem cok_4 : cOK RX4 TX4 2 tyX4 (cV 4) := ⟨cin_4, tyX4_ok, nmX4, by decide +kernel, rfl, by decide +kernel⟩
theorem cok_5 : cOK RX5 TX5 2 tyX5 (cV 5) := ⟨cin_5, tyX5_ok, nmX5, by decide +kernel, rfl, by decide +kernel⟩
theorem cok_6 : cOK RX6 TX6 4 tyX6 (cV 6) := ⟨cin_6, tyX6_ok, nmX6, by decide +kernel, rfl, by decide +kernel⟩
theorem cok_7 : cOK RX7 TX7 3 tyX7 (cV 7) := ⟨cin_7, tyX7_ok, nmX7, by decide +kernel, rfl, by decide +kernel⟩
theorem cok_8 : cOK RX8 TX8 6 tyX8 (cV 8) := ⟨cin_8, tyX8_ok, nmX8, by decide +kernel, rfl, by decide +kernel⟩
theorem cok_9 : cOK RX9 TX9 14 tyX9 (cV 9) := ⟨cin_9, tyX9_ok, nmX9, by decide +kernel, rfl, by decide +kernel⟩
theorem cok {ci : Nat} {q : vw_C} (h : vcl[ci]? = some q) : q = (cNm ci, cT ci, cN ci) ∧ cOK (cNm ci) (cT ci) (cN ci) (cY ci) (cV ci) := by
  match ci, h with
  | 0, h => cases h; exact ⟨rfl, cok_0⟩
  | 1, h => cases h; exact ⟨rfl, cok_1⟩
  | 2, h => cases h; exact ⟨rfl, cok_2⟩
  | 3, h => cases h; exact ⟨rfl, cok_3⟩
  | 4, h => cases h; exact ⟨rfl, cok_4⟩
  | 5, h => cases h; exact ⟨rfl, cok_5⟩
  | 6, h => cases h; exact ⟨rfl, cok_6⟩
  | 7, h => cases h; exact ⟨rfl, cok_7⟩
  | 8, h => cases h; exact ⟨rfl, cok_8⟩
  | 9, h => cases h; exact ⟨rfl, cok_9⟩
  | k + 10, h => simp [vcl] at h
def mOK (q : MI) : Bool := decide (q.1.cls ≠ "java/lang/invoke/MethodHandle") && decide (q.1.cls ≠ "java/lang/invoke/VarHandle") && plainName q.1.cls && decide (q.1.cls = cNm q.2.2.2.2.1) && decide ((parseMethodDescriptor q.1.desc).map (fun d => d.parameters.length) = some q.2.2.2.2.2.1)
theorem mOK0 : mtab0.all mOK = true := by decide +kernel
theorem mOK1 : mtab1.all mOK = true := by decide +kernel
theorem mOK2 : mtab2.all mOK = true := by decide +kernel
theorem mOK3 : mtab3.all mOK = true := by decide +kernel
theorem mOK4 : mtab4.all mOK = true := by decide +kernel
theorem mOK_all : ∀ q ∈ mtab, mOK q = true := by
  intro q h
  simp only [mtab, List.mem_append] at h
  rcases h with h | h | h | h | h
  · exact List.all_eq_true.mp mOK0 q h
  · exact List.all_eq_true.mp mOK1 q h
  · exact List.all_eq_true.mp mOK2 q h
  · exact List.all_eq_true.mp mOK3 q h
  · exact List.all_eq_true.mp mOK4 q h
theorem mOK_d : mOK m_d = true := by decide +kernel
theorem mOK_y (y : Nat) : mOK (mI y) = true := by
  unfold mI
  rw [List.getD_eq_getElem?_getD]
  cases h : mtab[y]? with
  | none => exact mOK_d
  | some q => exact mOK_all q (List.mem_of_getElem? h)
end
section
/-! a small machine over pure cells: what a method's bytecode does, as a function with fuel -/
abbrev AC : Type := (Nat × List Value) ⊕ ((Nat × Nat × (Nat → Int32)) ⊕ ((Nat × Nat × (Nat → Option Nat)) ⊕ (Nat × (Nat → Int32))))
abbrev Hp : Type := (Nat → Option AC) × (Nat × Nat)
abbrev cO (ci : Nat) (fs : List Value) : AC := .inl (ci, fs)
abbrev cI (t n : Nat) (f : Nat → Int32) : AC := .inr (.inl (t, n, f))
abbrev cQ (t n : Nat) (f : Nat → Option Nat) : AC := .inr (.inr (.inl (t, n, f)))
abbrev cS (n : Nat) (f : Nat → Int32) : AC := .inr (.inr (.inr (n, f)))
def hset (σ : Hp) (a : Nat) (x : AC) : Hp := (fun q => if q = a then some x else σ.1 q, σ.2)
def hnew (σ : Hp) (x : AC) (n : Nat) : Hp := (fun q => if q = σ.2.1 then some x else σ.1 q, (σ.2.1 + 1, σ.2.2 + n))
def inB (i : Int32) (n : Nat) : Bool := decide (¬ (i < 0 ∨ n ≤ i.toNatClampNeg))
def gF (σ : Hp) (a k : Nat) : Value := match σ.1 a with
  | some (.inl (_, fs)) => fs.getD k .null
  | _ => .null
def okF (σ : Hp) (a ci k : Nat) : Bool := match σ.1 a with
  | some (.inl (ci', fs)) => Nat.beq ci' ci && decide (k < fs.length)
  | _ => false
def okO (σ : Hp) (a ci : Nat) : Bool := match σ.1 a with
  | some (.inl (ci', _)) => Nat.beq ci' ci
  | _ => false
def pF (σ : Hp) (a k : Nat) (v : Value) : Hp := match σ.1 a with
  | some (.inl (ci, fs)) => hset σ a (.inl (ci, fs.set k v))
  | _ => σ
def gA (σ : Hp) (a : Nat) (i : Int32) : Int32 := match σ.1 a with
  | some (.inr (.inl (_, _, f))) => f i.toNatClampNeg
  | some (.inr (.inr (.inr (_, f)))) => f i.toNatClampNeg
  | _ => 0
def okA (σ : Hp) (t a : Nat) (i : Int32) : Bool := match σ.1 a with
  | some (.inr (.inl (t', n, _))) => Nat.beq t' t && inB i n
  | some (.inr (.inr (.inr (n, _)))) => Nat.beq t 0 && inB i n
  | _ => false
def okB (σ : Hp) (t a : Nat) (i : Int32) : Bool := match σ.1 a with
  | some (.inr (.inl (t', n, _))) => Nat.beq t' t && inB i n
  | _ => false
def pA (σ : Hp) (a : Nat) (i x : Int32) : Hp := match σ.1 a with
  | some (.inr (.inl (t, n, f))) => hset σ a (.inr (.inl (t, n, upd f i.toNatClampNeg x)))
  | _ => σ
def gQ (σ : Hp) (a : Nat) (i : Int32) : Option Nat := match σ.1 a with
  | some (.inr (.inr (.inl (_, _, f)))) => f i.toNatClampNeg
  | _ => none
def okQ (σ : Hp) (a : Nat) (i : Int32) : Bool := match σ.1 a with
  | some (.inr (.inr (.inl (t, n, _)))) => (Nat.beq t 2 || Nat.beq t 3) && inB i n
  | _ => false
def elC (t : Nat) : Nat := if t = 2 then 5 else 4
def okQw (σ : Hp) (a : Nat) (i : Int32) (v : Nat) : Bool := match σ.1 a with
  | some (.inr (.inr (.inl (t, n, _)))) => (Nat.beq t 2 || Nat.beq t 3) && inB i n && okO σ v (elC t)
  | _ => false
def pQ (σ : Hp) (a : Nat) (i : Int32) (v : Nat) : Hp := match σ.1 a with
  | some (.inr (.inr (.inl (t, n, f)))) => hset σ a (.inr (.inr (.inl (t, n, va_up f i.toNatClampNeg (some v)))))
  | _ => σ
def gL (σ : Hp) (a : Nat) : Int32 := match σ.1 a with
  | some (.inr (.inl (_, n, _))) => nI n
  | some (.inr (.inr (.inl (_, n, _)))) => nI n
  | some (.inr (.inr (.inr (n, _)))) => nI n
  | _ => 0
def okL (σ : Hp) (a : Nat) : Bool := match σ.1 a with
  | some (.inr (.inl (t, _, _))) => Nat.beq t 0 || Nat.beq t 1
  | some (.inr (.inr (.inl (t, _, _)))) => Nat.beq t 2 || Nat.beq t 3
  | some (.inr (.inr (.inr _))) => true
  | _ => false
/-- System.arraycopy between rows of ints -/
def okC (σ : Hp) (a : Nat) (sp : Int32) (b : Nat) (dp n : Int32) : Bool := match σ.1 a, σ.1 b with
  | some (.inr (.inl (t, n0, _))), some (.inr (.inl (t', n1, _))) => Nat.beq t 0 && Nat.beq t' 0 && decide (¬ sp < 0) && decide (¬ dp < 0) && decide (¬ n < 0) && decide (sp.toNatClampNeg + n.toNatClampNeg ≤ n0) && decide (dp.toNatClampNeg + n.toNatClampNeg ≤ n1)
  | _, _ => false
def pC (σ : Hp) (a : Nat) (sp : Int32) (b : Nat) (dp n : Int32) : Hp := match σ.1 a, σ.1 b with
  | some (.inr (.inl (_, _, f))), some (.inr (.inl (t', n1, g))) => hset σ b (.inr (.inl (t', n1, va_cpy f g sp.toNatClampNeg dp.toNatClampNeg n.toNatClampNeg)))
  | _, _ => σ
def okV : FieldType → Value → Bool
  | .int, .int _ => true
  | .boolean, .int x => x == 0 || x == 1
  | .object _, .ref _ => true
  | .array _, .ref _ => true
  | _, _ => false
def isD : Value → Bool
  | .double _ => true
  | _ => false
def isN : Value → Bool
  | .null => true
  | _ => false
def entL0 (as : List Value) : List Value := as.flatMap fun v => if v.category = 2 then [v, .double 0] else [v]
def entL (as : List Value) (n : Nat) : List Value := entL0 as ++ List.replicate (n - (entL0 as).length) .null
def pushO : Option Value → List Value → List Value
  | some v, r => v :: r
  | none, r => r
def ilen : Instr → Nat
  | .iload _ | .lload _ | .aload _ | .istore _ | .lstore _ | .astore _ | .bipush _ | .ldc _ | .newarray _ => 2
  | .sipush _ | .ldc2_w _ | .getfield _ | .putfield _ | .goto _ | .ifCond _ _ | .if_icmp _ _ | .iinc _ _ | .invokevirtual _ | .invokespecial _ | .invokestatic _ | .new _ | .anewarray _ => 3
  | _ => 1
def isSw : Instr → Bool
  | .tableswitch .. => true
  | .lookupswitch .. => true
  | _ => false
def ins (y pc : Nat) : Option Instr := match decode (mC y) pc with
  | .ok (i, n) => if isSw i || Nat.beq n (ilen i) then some i else none
  | .error _ => none
abbrev Rs : Type := Option ((Nat × List Value × List Value × Hp) ⊕ ((Nat × List Value × List Value) ⊕ Option Value))
def nx (pc : Nat) (ls st : List Value) (σ : Hp) : Rs := some (.inl (pc, ls, st, σ))
def jmp (pc : Nat) (off : Int) (ls st : List Value) (σ : Hp) : Rs := if 0 ≤ (pc : Int) + off then nx ((pc : Int) + off).toNat ls st σ else none
def rmOK (y z : Nat) (r : List Value) : Bool := decide (mF z + 1 ≤ mF y) && decide (19 + mL z + mW z ≤ mW y) && decide (r.length ≤ 4)
def rm0K (y w : Nat) (r : List Value) : Bool := decide (1 ≤ mF y) && decide (8 + w ≤ mW y) && decide (r.length ≤ 4)
def callZ (y z : Nat) (as r : List Value) : Rs := if rmOK y z r && decide ((entL0 as).length ≤ mL z) then some (.inr (.inl (z, as, r))) else none
def retOK : Option FieldType → Int32 → Bool
  | some .int, _ => true
  | some .boolean, v => v == 0 || v == 1
  | _, _ => false
def sto1 (pc' k : Nat) (v : Value) (ls r : List Value) (σ : Hp) : Rs := if decide (k < ls.length) && !(isD (ls.getD k .null)) then nx pc' (ls.set k v) r σ else none
def sto2 (pc' k : Nat) (v : Value) (ls r : List Value) (σ : Hp) : Rs := if decide (k + 1 < ls.length) && !(isD (ls.getD k .null)) then nx pc' ((ls.set k v).set (k + 1) (.double 0)) r σ else none
def ldI (pc' k : Nat) (ls st : List Value) (σ : Hp) : Rs := match ls.getD k .null with
  | .int x => nx pc' ls (.int x :: st) σ
  | _ => none
def ldL (pc' k : Nat) (ls st : List Value) (σ : Hp) : Rs := match ls.getD k .null with
  | .long x => nx pc' ls (.long x :: st) σ
  | _ => none
def ldA (pc' k : Nat) (ls st : List Value) (σ : Hp) : Rs := match ls.getD k .null with
  | .ref x => nx pc' ls (.ref x :: st) σ
  | _ => none
def stI (pc' k : Nat) (ls st : List Value) (σ : Hp) : Rs := match st with
  | .int x :: r => sto1 pc' k (.int x) ls r σ
  | _ => none
def stL (pc' k : Nat) (ls st : List Value) (σ : Hp) : Rs := match st with
  | .long x :: r => sto2 pc' k (.long x) ls r σ
  | _ => none
def stA (pc' k : Nat) (ls st : List Value) (σ : Hp) : Rs := match st with
  | .ref x :: r => sto1 pc' k (.ref x) ls r σ
  | _ => none
def bin (pc : Nat) (op : Int32 → Int32 → Int32) (ls st : List Value) (σ : Hp) : Rs := match st with
  | .int b :: .int a :: r => nx (pc + 1) ls (.int (op a b) :: r) σ
  | _ => none
def binL (pc : Nat) (op : Int64 → Int64 → Int64) (ls st : List Value) (σ : Hp) : Rs := match st with
  | .long b :: .long a :: r => nx (pc + 1) ls (.long (op a b) :: r) σ
  | _ => none
def cnd (k : ClassFile.Cond) (x y : Int32) : Bool := match k with
  | .eq => decide (x = y)
  | .ne => decide (¬ x = y)
  | .lt => decide (x < y)
  | .ge => decide (y ≤ x)
  | .gt => decide (y < x)
  | .le => decide (x ≤ y)
def swo (d lo hi : Int) (offs : Array Int) (x : Int) : Option Int := if x < lo ∨ hi < x then some d else offs[(x - lo).toNat]?
def stpI (y pc : Nat) (i : Instr) (ls st : List Value) (σ : Hp) : Rs := match i with
  | .iconst n => nx (pc + 1) ls (.int (Int32.ofInt n) :: st) σ
  | .bipush n => nx (pc + 2) ls (.int (Int8.ofInt n).toInt32 :: st) σ
  | .sipush n => nx (pc + 3) ls (.int (Int16.ofInt n).toInt32 :: st) σ
  | .lconst n => nx (pc + 1) ls (.long (Int64.ofNat (n : Nat)) :: st) σ
  | .ldc idx => match lk (mO y) idx with
    | some (14, _, _, v) => nx (pc + 2) ls (.int (Int32.ofInt v) :: st) σ
    | _ => none
  | .ldc2_w idx => match lk (mO y) idx with
    | some (15, _, _, v) => nx (pc + 3) ls (.long (Int64.ofInt v) :: st) σ
    | _ => none
  | .iload_n k => ldI (pc + 1) k ls st σ
  | .iload k => ldI (pc + 2) k ls st σ
  | .lload_n k => ldL (pc + 1) k ls st σ
  | .lload k => ldL (pc + 2) k ls st σ
  | .aload_n k => ldA (pc + 1) k ls st σ
  | .aload k => ldA (pc + 2) k ls st σ
  | .istore_n k => stI (pc + 1) k ls st σ
  | .istore k => stI (pc + 2) k ls st σ
  | .lstore_n k => stL (pc + 1) k ls st σ
  | .lstore k => stL (pc + 2) k ls st σ
  | .astore_n k => stA (pc + 1) k ls st σ
  | .astore k => stA (pc + 2) k ls st σ
  | .iinc k n => match ls.getD k .null with
    | .int x => nx (pc + 3) (ls.set k (.int (x + Int32.ofInt n))) st σ
    | _ => none
  | .iadd => bin pc (fun a b => a + b) ls st σ
  | .isub => bin pc (fun a b => a - b) ls st σ
  | .imul => bin pc (fun a b => a * b) ls st σ
  | .iand => bin pc (fun a b => a &&& b) ls st σ
  | .idiv => match st with
    | .int b :: .int a :: r => if b = 0 then none else nx (pc + 1) ls (.int (a / b) :: r) σ
    | _ => none
  | .irem => match st with
    | .int b :: .int a :: r => if b = 0 then none else nx (pc + 1) ls (.int (a - a / b * b) :: r) σ
    | _ => none
  | .land => binL pc (fun a b => a &&& b) ls st σ
  | .lor => binL pc (fun a b => a ||| b) ls st σ
  | .lshl => match st with
    | .int b :: .long a :: r => nx (pc + 1) ls (.long (a <<< (b.toInt64 &&& 63)) :: r) σ
    | _ => none
  | .lushr => match st with
    | .int b :: .long a :: r => nx (pc + 1) ls (.long (a.toUInt64 >>> (b.toInt64.toUInt64 &&& Int64.toUInt64 63)).toInt64 :: r) σ
    | _ => none
  | .i2l => match st with
    | .int a :: r => nx (pc + 1) ls (.long a.toInt64 :: r) σ
    | _ => none
  | .l2i => match st with
    | .long a :: r => nx (pc + 1) ls (.int a.toInt32 :: r) σ
    | _ => none
  | .lcmp => match st with
    | .long b :: .long a :: r => nx (pc + 1) ls (.int (lg_cmp a b) :: r) σ
    | _ => none
  | .dup => match st with
    | v :: r => if v.category = 1 then nx (pc + 1) ls (v :: v :: r) σ else none
    | _ => none
  | .dup2 => match st with
    | v :: w :: r => if v.category = 1 ∧ w.category = 1 then nx (pc + 1) ls (v :: w :: v :: w :: r) σ else none
    | _ => none
  | .pop => match st with
    | v :: r => if v.category = 1 then nx (pc + 1) ls r σ else none
    | _ => none
  | .ifCond k off => match st with
    | .int x :: r => if 0 ≤ (pc : Int) + off then (if cnd k x 0 = true then nx ((pc : Int) + off).toNat ls r σ else nx (pc + 3) ls r σ) else none
    | _ => none
  | .if_icmp k off => match st with
    | .int b :: .int a :: r => if 0 ≤ (pc : Int) + off then (if cnd k a b = true then nx ((pc : Int) + off).toNat ls r σ else nx (pc + 3) ls r σ) else none
    | _ => none
  | .goto off => jmp pc off ls st σ
  | .tableswitch d lo hi offs => match st with
    | .int x :: r => match swo d lo hi offs x.toInt with
      | some o => jmp pc o ls r σ
      | none => none
    | _ => none
  | .lookupswitch d ps => match st with
    | .int x :: r => if (ps.toList.zip (ps.toList.drop 1)).all (fun (a, next) => a.1 < next.1) then jmp pc (Op.lookupswitch.offset ps.toList d x.toInt) ls r σ else none
    | _ => none
  | .getfield idx => match lk (mO y) idx, st with
    | some (k, ci, f, _), .ref a :: r => if (Nat.beq k 10 || Nat.beq k 11) && decide (f < cN ci) && okF σ a ci f then nx (pc + 3) ls (gF σ a f :: r) σ else none
    | _, _ => none
  | .putfield idx => match lk (mO y) idx, st with
    | some (k, ci, f, _), v :: .ref a :: r => if (Nat.beq k 10 || Nat.beq k 11) && decide (f < cN ci) && okF σ a ci f && okV (cY ci f) v && (!((cT ci f).2.2.2) || (Nat.beq k 10 && decide ((mN y).name = "<init>") && Nat.beq (mO y) ci)) then nx (pc + 3) ls r (pF σ a f v) else none
    | _, _ => none
  | .iaload => match st with
    | .int j :: .ref a :: r => if okA σ 0 a j then nx (pc + 1) ls (.int (gA σ a j) :: r) σ else none
    | _ => none
  | .baload => match st with
    | .int j :: .ref a :: r => if okB σ 1 a j then nx (pc + 1) ls (.int (gA σ a j) :: r) σ else none
    | _ => none
  | .aaload => match st with
    | .int j :: .ref a :: r => if okQ σ a j then (match gQ σ a j with
      | some q => nx (pc + 1) ls (.ref q :: r) σ
      | none => none) else none
    | _ => none
  | .iastore => match st with
    | .int x :: .int j :: .ref a :: r => if okB σ 0 a j then nx (pc + 1) ls r (pA σ a j x) else none
    | _ => none
  | .bastore => match st with
    | .int x :: .int j :: .ref a :: r => if okB σ 1 a j && (x == 0 || x == 1) then nx (pc + 1) ls r (pA σ a j x) else none
    | _ => none
  | .aastore => match st with
    | .ref v :: .int j :: .ref a :: r => if okQw σ a j v then nx (pc + 1) ls r (pQ σ a j v) else none
    | _ => none
  | .arraylength => match st with
    | .ref a :: r => if okL σ a then nx (pc + 1) ls (.int (gL σ a) :: r) σ else none
    | _ => none
  | .new idx => match lk (mO y) idx with
    | some (12, ci, _, _) => if decide (ci < vcl.length) then nx (pc + 3) ls (.ref σ.2.1 :: st) (hnew σ (.inl (ci, cV ci)) (cN ci)) else none
    | _ => none
  | .newarray .int => match st with
    | .int n :: r => if decide (¬ n < 0) && decide (n.toNatClampNeg * 4 ≤ 536870912) then nx (pc + 2) ls (.ref σ.2.1 :: r) (hnew σ (.inr (.inl (0, n.toNatClampNeg, fun _ => 0))) n.toNatClampNeg) else none
    | _ => none
  | .newarray .boolean => match st with
    | .int n :: r => if decide (¬ n < 0) && decide (n.toNatClampNeg * 1 ≤ 536870912) then nx (pc + 2) ls (.ref σ.2.1 :: r) (hnew σ (.inr (.inl (1, n.toNatClampNeg, fun _ => 0))) n.toNatClampNeg) else none
    | _ => none
  | .anewarray idx => match lk (mO y) (idx + 100000), st with
    | some (13, ci, _, _), .int n :: r => if (Nat.beq ci 5 || Nat.beq ci 4) && decide (¬ n < 0) && decide (n.toNatClampNeg * 4 ≤ 536870912) then nx (pc + 3) ls (.ref σ.2.1 :: r) (hnew σ (.inr (.inr (.inl (if ci = 5 then 2 else 3, n.toNatClampNeg, fun _ => none)))) n.toNatClampNeg) else none
    | _, _ => none
  | .invokevirtual idx => match lk (mO y) idx with
    | some (k, z, _, _) => if Nat.ble k 1 && decide (mA z ≤ st.length) then (match st.drop (mA z) with
      | .ref b :: r => if okO σ b (mO z) then callZ y z (.ref b :: (st.take (mA z)).reverse) r else none
      | _ => none) else none
    | none => none
  | .invokespecial idx => match lk (mO y) idx with
    | some (6, _, _, _) => (match st with
      | .ref _ :: r => if rm0K y 12 r then nx (pc + 3) ls r σ else none
      | _ => none)
    | some (k, z, _, _) => if (Nat.beq k 4 || Nat.beq k 5) && decide (mA z ≤ st.length) && decide ((mN z).name = "<init>") && decide (mR z = none) then (match st.drop (mA z) with
      | .ref b :: r => callZ y z (.ref b :: (st.take (mA z)).reverse) r
      | _ => none) else none
    | none => none
  | .invokestatic idx => match lk (mO y) idx with
    | some (7, _, _, _) => (match st with
      | .int b :: .int a :: r => if rm0K y 13 r then nx (pc + 3) ls (.int (if a < b then b else a) :: r) σ else none
      | _ => none)
    | some (8, _, _, _) => (match st with
      | .int b :: .int a :: r => if rm0K y 13 r then nx (pc + 3) ls (.int (if b < a then b else a) :: r) σ else none
      | _ => none)
    | some (9, _, _, _) => (match st with
      | .int n :: .int dp :: .ref b :: .int sp :: .ref a :: r => if rm0K y 18 r && okC σ a sp b dp n then nx (pc + 3) ls r (pC σ a sp b dp n) else none
      | _ => none)
    | some (k, z, _, _) => if (Nat.beq k 2 || Nat.beq k 3) && decide (mA z ≤ st.length) then callZ y z (st.take (mA z)).reverse (st.drop (mA z)) else none
    | none => none
  | .ireturn => match st with
    | [.int v] => if retOK (mR y) v then some (.inr (.inr (some (.int v)))) else none
    | _ => none
  | .return_ => match st, mR y with
    | [], none => some (.inr (.inr none))
    | _, _ => none
  | .areturn => match st, mR y with
    | [.ref a], some (.object _) => some (.inr (.inr (some (.ref a))))
    | _, _ => none
  | _ => none
def stp (y pc : Nat) (ls st : List Value) (σ : Hp) : Rs := match ins y pc with
  | some i => stpI y pc i ls st σ
  | none => none
def exec : Nat → Nat → Nat → List Value → List Value → Hp → Option (Option Value × Hp)
  | 0, _, _, _, _, _ => none
  | n + 1, y, pc, ls, st, σ => match stp y pc ls st σ with
    | none => none
    | some (.inl (pc', ls', st', σ')) => exec n y pc' ls' st' σ'
    | some (.inr (.inl (z, as, r))) => (match exec n z 0 (entL as (mL z)) [] σ with
      | none => none
      | some (v, σ') => exec n y (pc + 3) ls (pushO v r) σ')
    | some (.inr (.inr v)) => some (v, σ)
theorem exec_more : ∀ (n : Nat) {y pc : Nat} {ls st : List Value} {σ : Hp} {q : Option Value × Hp}, exec n y pc ls st σ = some q → ∀ k, exec (n + k) y pc ls st σ = some q
  | 0, _, _, _, _, _, _, h, _ => by cases h
  | n + 1, y, pc, ls, st, σ, q, h, k => by
    rw [Nat.add_right_comm]
    unfold exec at h ⊢
    cases hs : stp y pc ls st σ with
    | none => rw [hs] at h; cases h
    | some o =>
      rw [hs] at h
      rcases o with ⟨pc', ls', st', σ'⟩ | ⟨z, as, r⟩ | v
      · exact exec_more n h k
      · dsimp only at h ⊢
        cases hz : exec n z 0 (entL as (mL z)) [] σ with
        | none => rw [hz] at h; cases h
        | some w =>
          rw [hz] at h
          rw [exec_more n hz k]
          exact exec_more n h k
      · exact h
theorem exec_det {n k y pc : Nat} {ls st : List Value} {σ : Hp} {q r : Option Value × Hp} (h : exec n y pc ls st σ = some q) (h2 : exec k y pc ls st σ = some r) : q = r := by
  have a := exec_more n h k
  have b := exec_more k h2 n
  rw [Nat.add_comm] at b
  exact Option.some.inj (a.symm.trans b)
/-- from here the method comes to an end for which K holds -/
def X (y pc : Nat) (ls st : List Value) (σ : Hp) (K : Option Value → Hp → Prop) : Prop := ∃ (n : Nat) (v : Option Value) (σ' : Hp), exec n y pc ls st σ = some (v, σ') ∧ K v σ'
theorem X_step {y pc pc' : Nat} {ls st ls' st' : List Value} {σ σ' : Hp} {K : Option Value → Hp → Prop} (h : stp y pc ls st σ = some (.inl (pc', ls', st', σ'))) : X y pc ls st σ K = X y pc' ls' st' σ' K := by
  refine propext ⟨fun ⟨n, v, w, e, k⟩ => ?_, fun ⟨n, v, w, e, k⟩ => ⟨n + 1, v, w, by rw [exec, h]; exact e, k⟩⟩
  cases n with
  | zero => cases e
  | succ n => rw [exec, h] at e; exact ⟨n, v, w, e, k⟩
theorem X_call {y pc z : Nat} {ls st as r : List Value} {σ : Hp} {K : Option Value → Hp → Prop} (h : stp y pc ls st σ = some (.inr (.inl (z, as, r)))) : X y pc ls st σ K = X z 0 (entL as (mL z)) [] σ (fun v σ' => X y (pc + 3) ls (pushO v r) σ' K) := by
  refine propext ⟨fun ⟨n, v, w, e, k⟩ => ?_, fun ⟨n, v, w, e, n2, v2, w2, e2, k⟩ => ⟨n + n2 + 1, v2, w2, ?_, k⟩⟩
  · cases n with
    | zero => cases e
    | succ n =>
      rw [exec, h] at e
      dsimp only at e
      cases hz : exec n z 0 (entL as (mL z)) [] σ with
      | none => rw [hz] at e; cases e
      | some q =>
        rw [hz] at e
        exact ⟨n, q.1, q.2, hz, n, v, w, e, k⟩
  · rw [exec, h]
    dsimp only
    rw [exec_more n e n2]
    dsimp only
    rw [Nat.add_comm]
    exact exec_more n2 e2 n
theorem X_ret {y pc : Nat} {ls st : List Value} {σ : Hp} {v : Option Value} {K : Option Value → Hp → Prop} (h : stp y pc ls st σ = some (.inr (.inr v))) : X y pc ls st σ K = K v σ := by
  refine propext ⟨fun ⟨n, v', w, e, k⟩ => ?_, fun k => ⟨1, v, σ, by rw [exec, h], k⟩⟩
  cases n with
  | zero => cases e
  | succ n => rw [exec, h] at e; cases e; exact k
theorem X_det {y pc : Nat} {ls st : List Value} {σ σ1 : Hp} {v : Option Value} (h : X y pc ls st σ (fun r t => r = v ∧ t = σ1)) (K : Option Value → Hp → Prop) : X y pc ls st σ K = K v σ1 := by
  obtain ⟨n, v', w, e, rfl, rfl⟩ := h
  refine propext ⟨fun ⟨n2, v2, w2, e2, k⟩ => ?_, fun k => ⟨n, _, _, e, k⟩⟩
  have := exec_det e e2
  cases this
  exact k
end
section
/-! the small machine is sound: rows with exact sizes, the picture of the cells, the locals -/
section SNDA
variable {p : Program} {l : Launch} {e : Env} {R : Room} {s : State} {m : MethodId} {args : Array Value} {below : List Frame} {meth : Method} {c : Code} {H : Heap} {locs : List Loc} {cells slots : Nat} {Q : State → Prop}
variable {cc : ByteArray} {pc : Nat} {ls : Array Slot} {rest : List Value} {D : va_G} {cl : List vw_C} {A : Nat → Prop} {a : Nat} {tys : List (ClassId × FieldType)} {H0 : Heap}
theorem sa_one {q : Nat × va_E} (h : va_at D cl q H) : va_P D cl [q] H := by
  intro k z hz
  match k, hz with
  | 0, hz => cases hz; exact h
  | k + 1, hz => simp at hz
theorem sa_put (hexec : p.tables.exec = Jvm.exec) (hb : c.code = cc) {own ref C host : String} {T : u_T} {N ci index : Nat} {Ts : List Cond} (hts : ∀ w ∈ Ts, w.before args s = true) (hin : ∀ w ∈ u_ws C T N, w ∈ Ts) (ty0 : Nat → FieldType) (hty : ∀ k, k < N → parseFieldDescriptor (T k).2.2.1 = some (ty0 k)) (hnm : ∀ a, a < N → ∀ b, b < N → a ≠ b → (T a).2.1 ≠ (T b).2.1) (hown : s.vm.findClass own = some m.cls) (hK : va_K D cl tys s) (hS0 : va_S A H0 H locs) {fs : List Value} (he : va_at D cl (a, .inr (ci, fs)) H) (hAa : A a) (hc : cl[ci]? = some (C, T, N)) (k : Nat) (hk : k < N)
    (hmode : ((Cond.fieldLink own index ref (T k).2.1 (T k).2.2.1).before args s = true ∧ ((T k).2.2.2 = false ∨ ((T k).2.2.2 = true ∧ meth.name = "<init>" ∧ (T k).1 = own))) ∨ ((Cond.fieldLinkNest own index ref (T k).2.1 (T k).2.2.1 host).before args s = true ∧ (T k).2.2.2 = false))
    (hsame : ∀ x, s.fieldFound? (T k).1 (T k).2.1 (T k).2.2.1 = some x → s.fieldFound? ref (T k).2.1 (T k).2.2.1 = some x) {ty : FieldType} {v : Value} (hd : parseFieldDescriptor (T k).2.2.1 = some ty) (hn : narrow ty v = v) (hfit : fits ty v = true) (hl : k < fs.length) (hdg : decode cc pc = .ok (.putfield index, 3))
    (kk : ∀ (H1 : Heap) (locs1 : List Loc), va_at D cl (a, .inr (ci, fs.set k v)) H1 → H1.size = H.size → (∀ q : Nat, q ≠ a → H1[q]? = H[q]?) → va_S A H0 H1 locs1 → W p l e R s m args below meth c H1 locs1 cells slots Q (F0 m (pc + 3) ls rest)) : W p l e R s m args below meth c H locs cells slots Q (F0 m pc ls (v :: .ref a :: rest)) := by
  have hap := va_apart (own := own) hts hin ty0 hty hnm hK hc
  obtain ⟨r, h1, cell, q1, q2, q3, q4⟩ := he
  have hr : r = (C, T, N) := Option.some.inj (h1.symm.trans hc)
  subst hr
  obtain ⟨hS, hfc, kC, hkC, hkind⟩ := hK.1 ci _ hc
  obtain ⟨cf, kf, fi, f, hi, hsl⟩ := hS k hk
  have hlay := hts _ (hin _ (u_in_lay hk))
  have hst := (u_facts hfc hkC (u_lays hts hin hk) hi).1
  have fin : ∀ H' : Heap, H'[a]? = some (cell.setSlot f.slot v) → H'.size = H.size → (∀ q, q ≠ a → H'[q]? = H[q]?) → W p l e R s m args below meth c H' (locs ++ [⟨a, f.slot⟩]) cells slots Q (F0 m (pc + 3) ls rest) := by
    intro H' e1 e2 e3
    rw [hsl] at e1 ⊢
    exact kk H' _ ⟨_, hc, t_OB.to (V := updV (vp_V fs) k v) ⟨_, e1, q2, q3, t_set q4 hap hk v⟩ (fun j _ => vp_updV_set hl v j)⟩ e2 e3 (hS0.put e2 e3 hAa)
  unfold u_lay at hlay
  rcases hmode with ⟨hlink, hf | ⟨hf, hin2, hdecl⟩⟩ | ⟨hlink, hf⟩
  · rw [if_neg (by rw [hf]; decide)] at hlay
    have h6 := u_store hfc hkC hkind hlay hi hd hn hfit
    exact W.putK hexec hb (f := f) ⟨hown, hlink, ⟨_, _, _, hsame _ hi⟩, hst⟩ (by rw [q2]; exact h6) q1 q3 (by rw [hsl]; exact k2_hasslot (q4 k hk)) rfl rfl hdg fin
  · rw [if_pos hf] at hlay
    have hcf : m.cls = cf := by
      obtain ⟨_, _, c', _, _, _, -, -, hf', -, -, -, hown2, -⟩ := Cond.laysFinal_spec hlay
      have e1 : c' = cf := by have := hi.symm.trans hf'; simp at this; exact this.1.symm
      rw [hdecl] at hown2
      rw [← e1]; exact Option.some.inj (hown.symm.trans hown2)
    have h6 := u_fits hfc hkC hkind (Or.inr hlay) hi hd hn hfit
    exact W.putFinK hexec hb hown hlink (hsame _ hi) hst hcf hin2 (by rw [q2]; exact h6) q1 q3 (by rw [hsl]; exact k2_hasslot (q4 k hk)) rfl rfl hdg fin
  · rw [if_neg (by rw [hf]; decide)] at hlay
    have h6 := u_store hfc hkC hkind hlay hi hd hn hfit
    exact va_WputK hexec hb (f := f) hown hlink (hsame _ hi) hst (by rw [q2]; exact h6) q1 q3 (by rw [hsl]; exact k2_hasslot (q4 k hk)) rfl rfl hdg fin
theorem sa_iast (hexec : p.tables.exec = Jvm.exec) (hb : c.code = cc) (hK : va_K D cl tys s) (hS : va_S A H0 H locs) (t0 : Nat) {cA : ClassId} {n : Nat} {f : Nat → Int32} (ha : va_at D cl (a, .inl (cA, n, .inl f)) H) (hAa : A a) (ht : tys[t0]? = some (cA, .int)) {i x : Int32} (hin : vp_in i n) (hdg : decode cc pc = .ok (.iastore, 1))
    (kk : ∀ (H1 : Heap) (locs1 : List Loc), va_at D cl (a, .inl (cA, n, .inl (upd f i.toNatClampNeg x))) H1 → H1.size = H.size → (∀ q : Nat, q ≠ a → H1[q]? = H[q]?) → va_S A H0 H1 locs1 → W p l e R s m args below meth c H1 locs1 cells slots Q (F0 m (pc + 1) ls rest)) : W p l e R s m args below meth c H locs cells slots Q (F0 m pc ls (.int x :: .int i :: .ref a :: rest)) := by
  refine W.iast hexec hb ha ((hK.2 t0 _ ht).1 n (fun j => .int (f j))) (fun q => by cases q) (by show ¬ (i < 0 ∨ (arrV _ _ _).slots.size ≤ _); rw [arrV_size]; exact hin) rfl rfl hdg fun H1 e z oq => ?_
  refine kk H1 _ ?_ z oq (hS.put z oq hAa)
  show H1[a]? = some (vp_cell _ _)
  rw [e, vp_cell_i, vp_cell_i, arrV_store]
  congr 2
  funext q
  by_cases hq : q = i.toNatClampNeg
  · subst hq
    simp [updV, upd]
  · simp [updV, upd, hq]
theorem sa_zast (hexec : p.tables.exec = Jvm.exec) (hb : c.code = cc) (hK : va_K D cl tys s) (hS : va_S A H0 H locs) (t0 : Nat) {cA : ClassId} {n : Nat} {f : Nat → Int32} (ha : va_at D cl (a, .inl (cA, n, .inl f)) H) (hAa : A a) (ht : tys[t0]? = some (cA, .boolean)) {i x : Int32} (hx : x = 0 ∨ x = 1) (hin : vp_in i n) (hdg : decode cc pc = .ok (.bastore, 1))
    (kk : ∀ (H1 : Heap) (locs1 : List Loc), va_at D cl (a, .inl (cA, n, .inl (upd f i.toNatClampNeg x))) H1 → H1.size = H.size → (∀ q : Nat, q ≠ a → H1[q]? = H[q]?) → va_S A H0 H1 locs1 → W p l e R s m args below meth c H1 locs1 cells slots Q (F0 m (pc + 1) ls rest)) : W p l e R s m args below meth c H locs cells slots Q (F0 m pc ls (.int x :: .int i :: .ref a :: rest)) := by
  refine W.zast hexec hb ha ((hK.2 t0 _ ht).1 n (fun j => .int (f j))) (fun q => by cases q) (by show ¬ (i < 0 ∨ (arrV _ _ _).slots.size ≤ _); rw [arrV_size]; exact hin) rfl rfl hdg fun H1 e z oq => ?_
  refine kk H1 _ ?_ z oq (hS.put z oq hAa)
  have hnx : narrow .boolean (.int x) = .int x := by rcases hx with rfl | rfl <;> decide +kernel
  rw [hnx] at e
  show H1[a]? = some (vp_cell _ _)
  rw [e, vp_cell_i, vp_cell_i, arrV_store]
  congr 2
  funext q
  by_cases hq : q = i.toNatClampNeg
  · subst hq
    simp [updV, upd]
  · simp [updV, upd, hq]
theorem sa_astq (hexec : p.tables.exec = Jvm.exec) (hb : c.code = cc) (hK : va_K D cl tys s) (hS : va_S A H0 H locs) (t0 ci : Nat) {cA : ClassId} {r : vw_C} {n v : Nat} {vs : List Value} {f : Nat → Option Nat} (ha : va_at D cl (a, .inl (cA, n, .inr (.inr (.inr (.inr f))))) H) (hAa : A a) (ht : tys[t0]? = some (cA, .object r.1)) (hv : va_at D cl (v, .inr (ci, vs)) H) (hc : cl[ci]? = some r) {i : Int32} (hin : vp_in i n) (hdg : decode cc pc = .ok (.aastore, 1))
    (kk : ∀ (H1 : Heap) (locs1 : List Loc), va_at D cl (a, .inl (cA, n, .inr (.inr (.inr (.inr (va_up f i.toNatClampNeg (some v))))))) H1 → H1.size = H.size → (∀ q : Nat, q ≠ a → H1[q]? = H[q]?) → va_S A H0 H1 locs1 → W p l e R s m args below meth c H1 locs1 cells slots Q (F0 m (pc + 1) ls rest)) : W p l e R s m args below meth c H locs cells slots Q (F0 m pc ls (.ref v :: .int i :: .ref a :: rest)) := by
  have hlt : i.toNatClampNeg < n := Nat.not_le.mp fun q => hin (Or.inr q)
  have h0 : ¬ i < 0 := fun q => hin (Or.inl q)
  obtain ⟨r', hr', cellV, g1, g2, g3, -⟩ := hv
  have hcls := (hK.1 ci r hc).2
  obtain ⟨kA, comp, k1, k2, k3, -⟩ := (hK.2 t0 _ ht).2
  have hcomp : comp = D.1 ci := Option.some.inj (k3.symm.trans hcls.1)
  subst hcomp
  obtain ⟨kC, hkC, -⟩ := hcls.2
  refine W.aast hexec hb ha (fun q h => by cases h) (fun h => by cases h) k1 k2 rfl hkC ⟨h0, by show _ < (arrV _ _ _).slots.size; rw [arrV_size]; exact hlt⟩ g1 (fun q h => by rw [g3] at h; cases h) (by rw [g2]; exact hkC) (by rw [g2]; exact va_assign hcls) rfl rfl hdg fun H1 e z oq => ?_
  refine kk H1 _ ?_ z oq (hS.put z oq hAa)
  show H1[a]? = some (vp_cell _ _)
  rw [e, vp_cell_q, vp_cell_q, arrV_store]
  congr 2
  funext q
  by_cases hq : q = i.toNatClampNeg
  · subst hq
    simp [updV, va_up, va_rf]
  · simp [updV, va_up, hq]
theorem sa_S {z1 : Nat} {H1 : Heap} (hS : va_S A H0 H locs) (hz : H1.size = H.size + 1) (o1 : ∀ q : Nat, q < H.size → H1[q]? = H[q]?) : va_S A H0 H1 locs := ⟨Nat.le_trans hS.1 (by omega), fun x h1 h2 => (o1 x (Nat.lt_of_lt_of_le h1 hS.1)).trans (hS.2.1 x h1 h2), hS.2.2⟩
theorem sa_new {c0 : Code} (hexec : p.tables.exec = Jvm.exec) (hb : c0.code = cc) {own C : String} {T : u_T} {N ci index : Nat} {Ts : List Cond} (hts : ∀ w ∈ Ts, w.before args s = true) (hin : ∀ w ∈ u_ws C T N, w ∈ Ts) (ty : Nat → FieldType) (hty : ∀ k, k < N → parseFieldDescriptor (T k).2.2.1 = some (ty k)) (hown : s.vm.findClass own = some m.cls) (hcl : (Cond.classLink own index C).before args s = true) (hinst : (Cond.instantiable C N).before args s = true) (hini : (Cond.initialized C).before args s = true)
    (hK : va_K D cl tys s) (hS : va_S A H0 H locs) (hc : cl[ci]? = some (C, T, N)) {fs : List Value} (hfs : ∀ j, j < N → defaultValue (ty j) = vp_V fs j) (hcells : cells + 1 ≤ R.cells) (hslots : slots + N ≤ R.slots) (hdg : decode cc pc = .ok (.new index, 3))
    (kk : ∀ (H1 : Heap), va_at D cl (H.size, .inr (ci, fs)) H1 → H1.size = H.size + 1 → (∀ q : Nat, q < H.size → H1[q]? = H[q]?) → va_S A H0 H1 locs →
      W p l e R s m args below meth c0 H1 locs (cells + 1) (slots + N) Q (F0 m (pc + 3) ls (.ref H.size :: rest))) : W p l e R s m args below meth c0 H locs cells slots Q (F0 m pc ls rest) := by
  have hKn := hK.1 ci _ hc
  refine W.newcK hexec hb hown hcl hinst hini rfl hdg hcells hslots hKn.2.1 rfl fun H1 kC hkC e1 z1 o1 => ?_
  exact kk H1 ⟨_, hc, (u_born ty hts hin hKn hkC e1 hty).to hfs⟩ z1 o1 (sa_S (z1 := 0) hS z1 o1)
theorem sa_newa (hexec : p.tables.exec = Jvm.exec) (hb : c.code = cc) {atype : ArrayType} (harr : (Cond.arrayClass (newarray.typeOf atype)).before args s = true) {ty : FieldType} (hty : newarray.typeOf atype = ty) (hS : va_S A H0 H locs)
    {n : Int32} {N' : Nat} (hn : ¬ n < 0) (hN : n.toNatClampNeg = N') (hbytes : N' * componentBytes ty ≤ 536870912) (hcells : cells + 1 ≤ R.cells) (hslots : slots + N' ≤ R.slots) (hdg : decode cc pc = .ok (.newarray atype, 2)) {cA : ClassId} (hcA : s.vm.findClass ("[" ++ ty.toString) = some cA)
    (kk : ∀ (H1 : Heap), H1[H.size]? = some (arrV cA N' (fun _ => defaultValue ty)) → H1.size = H.size + 1 → (∀ q : Nat, q < H.size → H1[q]? = H[q]?) → va_S A H0 H1 locs →
      W p l e R s m args below meth c H1 locs (cells + 1) (slots + N') Q (F0 m (pc + 2) ls (.ref H.size :: rest))) : W p l e R s m args below meth c H locs cells slots Q (F0 m pc ls (.int n :: rest)) := by
  subst hty
  refine va_newaK hexec hb harr rfl hdg rfl hn hN hbytes hcells hslots rfl fun H1 cA' e1 z1 o1 hAr hNm => ?_
  cases hcA.symm.trans hNm
  exact kk H1 e1 z1 o1 (sa_S (z1 := 0) hS z1 o1)
theorem sa_newq (hexec : p.tables.exec = Jvm.exec) (hb : c.code = cc) {own C : String} {index : Nat} (hown : s.vm.findClass own = some m.cls) (hclink : (Cond.classLink own index C).before args s = true) (hover : va_AO C s) (hS : va_S A H0 H locs)
    {n : Int32} {N' : Nat} (hn : ¬ n < 0) (hN : n.toNatClampNeg = N') (hbytes : N' * 4 ≤ 536870912) (hcells : cells + 1 ≤ R.cells) (hslots : slots + N' ≤ R.slots) (hdg : decode cc pc = .ok (.anewarray index, 3)) {cA : ClassId} (hcA : s.vm.findClass ("[" ++ (FieldType.object C).toString) = some cA)
    (kk : ∀ (H1 : Heap), H1[H.size]? = some (arrV cA N' (fun _ => .null)) → H1.size = H.size + 1 → (∀ q : Nat, q < H.size → H1[q]? = H[q]?) → va_S A H0 H1 locs →
      W p l e R s m args below meth c H1 locs (cells + 1) (slots + N') Q (F0 m (pc + 3) ls (.ref H.size :: rest))) : W p l e R s m args below meth c H locs cells slots Q (F0 m pc ls (.int n :: rest)) := by
  subst hN
  refine W.anew hexec hb hown hclink (va_AO.use hover) rfl hdg rfl hn hbytes hcells hslots fun cA' kA comp f1 f2 f3 f4 => ?_
  cases hcA.symm.trans f1
  generalize hH1 : H.push ({ cls := cA, slots := Array.replicate n.toNatClampNeg .null, vm := .none } : Cell) = H1
  have z1 : H1.size = H.size + 1 := by rw [← hH1, Array.size_push]
  have e1 : H1[H.size]? = some (arrV cA n.toNatClampNeg (fun _ => .null)) := by rw [← hH1, Array.getElem?_push_size, ← arrV_new]
  have o1 : ∀ q : Nat, q < H.size → H1[q]? = H[q]? := fun q hq => by rw [← hH1, Array.getElem?_push, if_neg (Nat.ne_of_lt hq)]
  exact kk H1 e1 z1 o1 (sa_S (z1 := 0) hS z1 o1)
theorem sa_copy (hexec : p.tables.exec = Jvm.exec) (hb : c.code = cc) (hml : c.maxLocals = ls.size) {own : String} {index : Nat} (hown : s.vm.findClass own = some m.cls) (hlink : (Cond.methodLink own index arraycopyName).before args s = true) (hnat : (Cond.native arraycopyName).before args s = true) (hstat : (Cond.static arraycopyName).before args s = true) (hini : (Cond.initialized "java/lang/System").before args s = true)
    (hK : va_K D cl tys s) (hS : va_S A H0 H locs) (t0 : Nat) {a0 : Nat} {c0 : ClassId} {n0 n1 : Nat} {f g : Nat → Int32} (ha0 : va_at D cl (a0, .inl (c0, n0, .inl f)) H) (ha1 : va_at D cl (a, .inl (c0, n1, .inl g)) H) (hAa : A a) (ht0 : tys[t0]? = some (c0, .int))
    {sp dp n : Int32} (h1 : ¬ sp < 0) (h2 : ¬ dp < 0) (h3 : ¬ n < 0) (h4 : sp.toNatClampNeg + n.toNatClampNeg ≤ n0) (h5 : dp.toNatClampNeg + n.toNatClampNeg ≤ n1)
    (hframes : 1 ≤ R.frames) (hlocals : (rest.map fun v => v.category).sum + (nativeFrameWords "java/lang/System" "arraycopy" 5 + 11) ≤ R.locals) (hdg : decode cc pc = .ok (.invokestatic index, 3))
    (kk : ∀ (H1 : Heap) (locs1 : List Loc), va_at D cl (a, .inl (c0, n1, .inl (va_cpy f g sp.toNatClampNeg dp.toNatClampNeg n.toNatClampNeg))) H1 → H1.size = H.size → (∀ q : Nat, q ≠ a → H1[q]? = H[q]?) → va_S A H0 H1 locs1 → W p l e R s m args below meth c H1 locs1 cells slots Q (F0 m (pc + 3) ls rest)) : W p l e R s m args below meth c H locs cells slots Q (F0 m pc ls (.int n :: .int dp :: .ref a :: .int sp :: .ref a0 :: rest)) := by
  have nn : ∀ z : Int32, ¬ z < 0 → z.toInt = (z.toNatClampNeg : Int) := by
    intro z hz
    have hz0 : (0 : Int) ≤ z.toInt := by
      have := Int32.not_lt.mp hz
      simpa using Int32.le_iff_toInt_le.mp this
    show z.toInt = ((z.toInt.toNat : Nat) : Int)
    omega
  intro T hT X
  have hc0 : H[a0]? = some (vp_cell c0 (n0, .inl f)) := ha0
  have hc1 : H[a]? = some (vp_cell c0 (n1, .inl g)) := ha1
  obtain ⟨-, k0, hk0, cm0, hkk0⟩ := (hK.2 t0 _ ht0).1 n0 (fun j => .int (f j))
  obtain ⟨-, k1, hk1, cm1, hkk1⟩ := (hK.2 t0 _ ht0).1 n1 (fun j => .int (g j))
  obtain ⟨vm', X', step⟩ := X.arraycopy hexec hown hlink hnat hstat hini (src := a0) (dst := a) (cs := vp_cell c0 (n0, .inl f)) (cd := vp_cell c0 (n1, .inl g)) (srcPos := sp) (destPos := dp) (n := n) (by rw [hT]; exact hc0) (by rw [hT]; exact hc1)
    (fun _ h => by cases h) (fun _ h => by cases h) (fun h => by cases h) (fun h => by cases h) hk0 hk1 hkk0 hkk1 (by simp [show refKind FieldType.int = false from rfl]) h1 h2 h3
    (by rw [nn sp h1, nn n h3]; show ¬ _ > ((arrV c0 n0 (fun j => .int (f j))).slots.size : Int); rw [arrV_size]; omega)
    (by rw [nn dp h2, nn n h3]; show ¬ _ > ((arrV c0 n1 (fun j => .int (g j))).slots.size : Int); rw [arrV_size]; omega)
    (fun vm₁ _ i hi => by
      have e : (vp_cell c0 (n0, .inl f)).slots.getD (sp.toNatClampNeg + i) .null = .int (f (sp.toNatClampNeg + i)) := by
        show (arrV c0 n0 (fun j => .int (f j))).slots.getD _ _ = _
        rw [Array.getD_eq_getD_getElem?, arrV_read _ _ (by omega)]
        rfl
      refine ⟨?_, ?_⟩
      · rw [e]
        rfl
      · rw [e]
        exact trivial)
    (g := F0 m pc ls (.int n :: .int dp :: .ref a :: .int sp :: .ref a0 :: rest)) rfl (by rw [hml]) (rest := rest) rfl (by rw [hb]; exact hdg) hframes (by show 2 * 0 + _ + _ ≤ _; omega)
  have e1 : copied (vp_cell c0 (n0, .inl f)) (vp_cell c0 (n1, .inl g)) sp dp n = vp_cell c0 (n1, .inl (va_cpy f g sp.toNatClampNeg dp.toNatClampNeg n.toNatClampNeg)) := va_copied (fun z => .int z) c0 c0 f g h4
  rw [e1] at X' step
  have hl : a < H.size := (Array.getElem?_eq_some_iff.mp hc1).1
  have hheap : ((T.setVm vm').setCell a (vp_cell c0 (n1, .inl (va_cpy f g sp.toNatClampNeg dp.toNatClampNeg n.toNatClampNeg)))).heap = H.setIfInBounds a (vp_cell c0 (n1, .inl (va_cpy f g sp.toNatClampNeg dp.toNatClampNeg n.toNatClampNeg))) := by rw [← hT]; rfl
  have oq : ∀ q : Nat, q ≠ a → (H.setIfInBounds a (vp_cell c0 (n1, .inl (va_cpy f g sp.toNatClampNeg dp.toNatClampNeg n.toNatClampNeg))))[q]? = H[q]? := fun q hq => by simp [Array.getElem?_setIfInBounds, Ne.symm hq]
  obtain ⟨t, a1, b1⟩ := kk _ _ (show (H.setIfInBounds a _)[a]? = some _ by simp [Array.getElem?_setIfInBounds, hl]) (by simp) oq ⟨by simp; exact hS.1, fun q g1 g2 => by
      rw [oq q (fun e => g2 (by rw [e]; exact hAa))]
      exact hS.2.1 q g1 g2, fun q hq => by
      rcases List.mem_append.mp hq with h | h
      · exact hS.2.2 q h
      · obtain ⟨z, -, hz⟩ := List.mem_map.mp h
        rw [← hz]
        exact hAa⟩ _ hheap X'
  exact ⟨t, step t a1, b1⟩
end SNDA
/-! locals -/
def al (ls : List Value) : List (Nat × Value) := (ls.zipIdx.map (fun q => (q.2, q.1))).filter (fun q => !(isN q.2) && !(isD q.2))
theorem al_mem {ls : List Value} {i : Nat} {v : Value} : (i, v) ∈ al ls ↔ ls[i]? = some v ∧ isN v = false ∧ isD v = false := by
  simp only [al, List.mem_filter, List.mem_map, Prod.exists, Prod.mk.injEq, Bool.and_eq_true, Bool.not_eq_true']
  constructor
  · rintro ⟨⟨x, j, hm, rfl, rfl⟩, h⟩
    exact ⟨List.mem_zipIdx_iff_getElem?.mp hm, h⟩
  · rintro ⟨h1, h⟩
    exact ⟨⟨v, i, List.mem_zipIdx_iff_getElem?.mpr h1, rfl, rfl⟩, h⟩
def LR (ls : List Value) (sl : Array Slot) (n : Nat) : Prop := lv_has sl n (al ls) ∧ ls.length = n ∧ ∀ (i : Nat) (x : Int64), ls[i]? = some (.long x) → ∃ b, ls[i + 1]? = some (.double b)
theorem getD_some {ls : List Value} {k : Nat} {v : Value} (h : ls.getD k .null = v) (hv : isN v = false) : ls[k]? = some v := by
  rw [List.getD_eq_getElem?_getD] at h
  cases hz : ls[k]? with
  | none => rw [hz] at h; subst h; cases hv
  | some w => rw [hz] at h; rw [show w = v from h]
theorem LR.get {ls : List Value} {sl : Array Slot} {n k : Nat} {v : Value} (h : LR ls sl n) (hg : ls.getD k .null = v) (h1 : isN v = false) (h2 : isD v = false) : sl[k]? = some (.val v) := h.1.2.2 (k, v) (al_mem.mpr ⟨getD_some hg h1, h1, h2⟩)
theorem lv_less {sl : Array Slot} {n : Nat} {l l' : List (Nat × Value)} (h : lv_has sl n l) (hs : ∀ q ∈ l', q ∈ l) : lv_has sl n l' := ⟨h.1, h.2.1, fun q hq => h.2.2 q (hs q hq)⟩
theorem LR.sto1 {ls : List Value} {sl sl2 : Array Slot} {n k : Nat} {v : Value} (h : LR ls sl n) (hk : k < ls.length) (hd : isD (ls.getD k .null) = false) (hv : ∀ x, v ≠ .long x) (h2 : lv_has sl2 n ((k, v) :: (al ls).filter (fun q => !(q.1 == k) && !(q.1 + 1 == k && q.2.category == 2)))) : LR (ls.set k v) sl2 n := by
  refine ⟨lv_less h2 ?_, by rw [List.length_set]; exact h.2.1, ?_⟩
  · rintro ⟨i, w⟩ hq
    obtain ⟨h1, h3, h4⟩ := al_mem.mp hq
    by_cases hi : i = k
    · subst hi
      rw [List.getElem?_set_self hk] at h1
      cases h1
      exact List.mem_cons_self
    · rw [List.getElem?_set_ne (Ne.symm hi)] at h1
      refine List.mem_cons_of_mem _ (List.mem_filter.mpr ⟨al_mem.mpr ⟨h1, h3, h4⟩, ?_⟩)
      simp only [Bool.and_eq_true, Bool.not_eq_true', beq_eq_false_iff_ne, ne_eq, hi, not_false_eq_true, true_and, Bool.and_eq_false_iff]
      by_cases hj : i + 1 = k
      · right
        intro hc
        cases w <;> simp [Value.category, isD] at hc h4
        obtain ⟨b, hb⟩ := h.2.2 i _ h1
        rw [hj] at hb
        rw [List.getD_eq_getElem?_getD, hb] at hd
        cases hd
      · exact Or.inl hj
  · intro i x hi
    by_cases hik : i = k
    · subst hik
      rw [List.getElem?_set_self hk] at hi
      exact absurd (Option.some.inj hi) (hv x)
    · rw [List.getElem?_set_ne (Ne.symm hik)] at hi
      obtain ⟨b, hb⟩ := h.2.2 i x hi
      by_cases hj : i + 1 = k
      · rw [hj] at hb
        rw [List.getD_eq_getElem?_getD, hb] at hd
        cases hd
      · exact ⟨b, by rw [List.getElem?_set_ne (Ne.symm hj)]; exact hb⟩
theorem LR.sto2 {ls : List Value} {sl sl2 : Array Slot} {n k : Nat} {v : Int64} (h : LR ls sl n) (hk : k + 1 < ls.length) (hd : isD (ls.getD k .null) = false) (h2 : lv_has sl2 n ((k, .long v) :: (al ls).filter (fun q => !(q.1 == k) && (!(q.1 == k + 1) && !(q.1 + 1 == k && q.2.category == 2))))) : LR ((ls.set k (.long v)).set (k + 1) (.double 0)) sl2 n := by
  have hget : ∀ i : Nat, ((ls.set k (.long v)).set (k + 1) (.double 0))[i]? = if i = k + 1 then some (.double 0) else if i = k then some (.long v) else ls[i]? := by
    intro i
    by_cases h1 : i = k + 1
    · rw [if_pos h1, h1, List.getElem?_set_self (by rw [List.length_set]; exact hk)]
    · rw [if_neg h1, List.getElem?_set_ne (Ne.symm h1)]
      by_cases h2 : i = k
      · rw [if_pos h2, h2, List.getElem?_set_self (by omega)]
      · rw [if_neg h2, List.getElem?_set_ne (Ne.symm h2)]
  refine ⟨lv_less h2 ?_, by rw [List.length_set, List.length_set]; exact h.2.1, ?_⟩
  · rintro ⟨i, w⟩ hq
    obtain ⟨h1, h3, h4⟩ := al_mem.mp hq
    rw [hget] at h1
    by_cases e1 : i = k + 1
    · rw [if_pos e1] at h1
      cases h1
      cases h4
    · rw [if_neg e1] at h1
      by_cases e2 : i = k
      · rw [if_pos e2] at h1
        cases h1
        subst e2
        exact List.mem_cons_self
      · rw [if_neg e2] at h1
        refine List.mem_cons_of_mem _ (List.mem_filter.mpr ⟨al_mem.mpr ⟨h1, h3, h4⟩, ?_⟩)
        simp only [Bool.and_eq_true, Bool.not_eq_true', beq_eq_false_iff_ne, ne_eq, e1, e2, not_false_eq_true, true_and, Bool.and_eq_false_iff]
        by_cases hj : i + 1 = k
        · right
          intro hc
          cases w <;> simp [Value.category, isD] at hc h4
          obtain ⟨b, hb⟩ := h.2.2 i _ h1
          rw [hj] at hb
          rw [List.getD_eq_getElem?_getD, hb] at hd
          cases hd
        · exact Or.inl hj
  · intro i x hi
    rw [hget] at hi
    rw [hget]
    by_cases e0 : i = k
    · exact ⟨0, by rw [e0, if_pos rfl]⟩
    · by_cases e1 : i = k + 1
      · rw [if_pos e1] at hi
        cases hi
      · rw [if_neg e1, if_neg e0] at hi
        obtain ⟨b, hb⟩ := h.2.2 i x hi
        by_cases e2 : i + 1 = k
        · rw [e2] at hb
          rw [List.getD_eq_getElem?_getD, hb] at hd
          cases hd
        · exact ⟨b, by rw [if_neg (by omega), if_neg e2]; exact hb⟩
theorem entL0_cons (v : Value) (as : List Value) : entL0 (v :: as) = (if v.category = 2 then [v, .double 0] else [v]) ++ entL0 as := by simp [entL0]
theorem ent_args : ∀ (as : List Value) (i j : Nat) (v : Value), (entL0 as)[j]? = some v → isN v = false → isD v = false → (i + j, v) ∈ lv_args i as
  | [], i, j, v, h, _, _ => by simp [entL0] at h
  | w :: as, i, j, v, h, h1, h2 => by
    rw [entL0_cons] at h
    unfold lv_args
    by_cases hc : w.category = 2
    · rw [if_pos hc] at h ⊢
      match j, h with
      | 0, h => simp at h; subst h; exact List.mem_cons_self
      | 1, h => simp at h; subst h; cases h2
      | j + 2, h =>
        have h' : (entL0 as)[j]? = some v := by simpa using h
        have := ent_args as (i + 2) j v h' h1 h2
        rw [show i + (j + 2) = i + 2 + j by omega]
        exact List.mem_cons_of_mem _ this
    · rw [if_neg hc] at h ⊢
      match j, h with
      | 0, h => simp at h; subst h; exact List.mem_cons_self
      | j + 1, h =>
        have h' : (entL0 as)[j]? = some v := by simpa using h
        have := ent_args as (i + 1) j v h' h1 h2
        rw [show i + (j + 1) = i + 1 + j by omega]
        exact List.mem_cons_of_mem _ this
theorem ent_long : ∀ (as : List Value) (j : Nat) (x : Int64), (entL0 as)[j]? = some (.long x) → (entL0 as)[j + 1]? = some (.double 0)
  | [], j, x, h => by simp [entL0] at h
  | w :: as, j, x, h => by
    rw [entL0_cons] at h ⊢
    by_cases hc : w.category = 2
    · rw [if_pos hc] at h ⊢
      match j, h with
      | 0, h => rfl
      | 1, h => simp at h
      | j + 2, h =>
        have h' : (entL0 as)[j]? = some (.long x) := by simpa using h
        simpa using ent_long as j x h'
    · rw [if_neg hc] at h ⊢
      match j, h with
      | 0, h =>
        simp at h
        subst h
        exact absurd rfl hc
      | j + 1, h =>
        have h' : (entL0 as)[j]? = some (.long x) := by simpa using h
        simpa using ent_long as j x h'
theorem ent_len : ∀ as : List Value, (lg_sl as).length = (entL0 as).length
  | [] => rfl
  | w :: as => by
    have := ent_len as
    rw [entL0_cons]
    unfold lg_sl at this ⊢
    rw [List.flatMap_cons, List.length_append, List.length_append, this]
    by_cases hc : w.category = 2 <;> simp [hc]
theorem LR.entry (as : List Value) {n : Nat} (h : (entL0 as).length ≤ n) : LR (entL as n) ((lg_sl as ++ List.replicate (n - (lg_sl as).length) Slot.unset).toArray) n := by
  have key : ∀ (j : Nat) (v : Value), (entL as n)[j]? = some v → isN v = false → (entL0 as)[j]? = some v := by
    intro j v hj hv
    unfold entL at hj
    by_cases hl : j < (entL0 as).length
    · rw [List.getElem?_append_left hl] at hj
      exact hj
    · rw [List.getElem?_append_right (by omega), List.getElem?_replicate] at hj
      split at hj
      · cases hj
        cases hv
      · cases hj
  refine ⟨lv_less (lv_entry as (n := n) (by rw [ent_len]; exact h)) ?_, by unfold entL; rw [List.length_append, List.length_replicate]; omega, ?_⟩
  · rintro ⟨i, v⟩ hq
    obtain ⟨h1, h3, h4⟩ := al_mem.mp hq
    have := ent_args as 0 i v (key i v h1 h3) h3 h4
    rwa [Nat.zero_add] at this
  · intro i x hi
    have h1 := ent_long as i x (key i _ hi rfl)
    refine ⟨0, ?_⟩
    unfold entL
    rw [List.getElem?_append_left (List.getElem?_eq_some_iff.mp h1).1]
    exact h1
end
section
/-! the picture of the cells, and one step -/
def tysL (cA : Nat → ClassId) : List (ClassId × FieldType) := [(cA 0, .int), (cA 1, .boolean), (cA 2, .object (cNm (elC 2))), (cA 3, .object (cNm (elC 3)))]
def rpc (D : va_G) (cA : Nat → ClassId) (lo : Nat) (U : State) (H : Heap) (a : Nat) : AC → Prop
  | .inl o => lo ≤ a ∧ va_at D vcl (a, .inr o) H
  | .inr (.inl (t, n, f)) => lo ≤ a ∧ va_at D vcl (a, .inl (cA t, n, .inl f)) H
  | .inr (.inr (.inl (t, n, f))) => lo ≤ a ∧ va_at D vcl (a, .inl (cA t, n, .inr (.inr (.inr (.inr f))))) H
  | .inr (.inr (.inr (n, f))) => a < lo ∧ va_X a n f U H
def Rp (D : va_G) (cA : Nat → ClassId) (lo : Nat) (σ : Hp) (U : State) (H : Heap) : Prop := (∀ a x, σ.1 a = some x → rpc D cA lo U H a x) ∧ σ.2.1 = H.size
theorem rpc.kept {D : va_G} {cA : Nat → ClassId} {lo : Nat} {U : State} {H H1 : Heap} {a : Nat} {x : AC} (h : rpc D cA lo U H a x) (hq : H1[a]? = H[a]?) : rpc D cA lo U H1 a x := by
  rcases x with o | ⟨t, n, f⟩ | ⟨t, n, f⟩ | ⟨n, f⟩
  · exact ⟨h.1, h.2.kept hq⟩
  · exact ⟨h.1, va_at.kept (H := H) h.2 hq⟩
  · exact ⟨h.1, va_at.kept (H := H) h.2 hq⟩
  · exact ⟨h.1, h.2.kept hq⟩
theorem rpc.lt {D : va_G} {cA : Nat → ClassId} {lo : Nat} {U : State} {H : Heap} {a : Nat} {x : AC} (h : rpc D cA lo U H a x) : a < H.size := by
  rcases x with o | ⟨t, n, f⟩ | ⟨t, n, f⟩ | ⟨n, f⟩
  · exact va_at.lt h.2
  · exact va_at.lt h.2
  · exact va_at.lt h.2
  · obtain ⟨-, scr, h1, -⟩ := h
    exact (Array.getElem?_eq_some_iff.mp h1).1
theorem rpc.moved {D : va_G} {cA : Nat → ClassId} {lo : Nat} {u U : State} {H : Heap} {a : Nat} {x : AC} (hvm : u.vm.Alike U.vm) (h : rpc D cA lo u H a x) : rpc D cA lo U H a x := by
  rcases x with o | ⟨t, n, f⟩ | ⟨t, n, f⟩ | ⟨n, f⟩
  · exact h
  · exact h
  · exact h
  · exact ⟨h.1, h.2.moved hvm⟩
theorem Rp.moved {D : va_G} {cA : Nat → ClassId} {lo : Nat} {σ : Hp} {u U : State} {H : Heap} (hvm : u.vm.Alike U.vm) (h : Rp D cA lo σ u H) : Rp D cA lo σ U H := ⟨fun a x ha => (h.1 a x ha).moved hvm, h.2⟩
theorem Rp.set {D : va_G} {cA : Nat → ClassId} {lo : Nat} {σ : Hp} {U : State} {H H1 : Heap} {a : Nat} {x : AC} (h : Rp D cA lo σ U H) (hx : rpc D cA lo U H1 a x) (hz : H1.size = H.size) (oq : ∀ q : Nat, q ≠ a → H1[q]? = H[q]?) : Rp D cA lo (hset σ a x) U H1 := by
  refine ⟨fun b y hb => ?_, by rw [hz]; exact h.2⟩
  by_cases hba : b = a
  · subst hba
    have : some x = some y := by simpa [hset] using hb
    cases this
    exact hx
  · have hb' : σ.1 b = some y := by simpa [hset, hba] using hb
    exact (h.1 b y hb').kept (oq b hba)
theorem Rp.new {D : va_G} {cA : Nat → ClassId} {lo : Nat} {σ : Hp} {U : State} {H H1 : Heap} {x : AC} {n : Nat} (h : Rp D cA lo σ U H) (hx : rpc D cA lo U H1 H.size x) (hz : H1.size = H.size + 1) (oq : ∀ q : Nat, q < H.size → H1[q]? = H[q]?) : Rp D cA lo (hnew σ x n) U H1 := by
  refine ⟨fun b y hb => ?_, by show σ.2.1 + 1 = _; rw [hz, h.2]⟩
  by_cases hba : b = σ.2.1
  · have : some x = some y := by simpa [hnew, hba] using hb
    cases this
    rw [hba, h.2]
    exact hx
  · have hb' : σ.1 b = some y := by simpa [hnew, hba] using hb
    exact (h.1 b y hb').kept (oq b (h.1 b y hb').lt)
theorem ins_dec {y pc : Nat} {i : Instr} (h : ins y pc = some i) : ∃ n, decode (mC y) pc = .ok (i, n) ∧ (isSw i = false → n = ilen i) := by
  unfold ins at h
  split at h
  · rename_i j n hd
    split at h
    · rename_i hc
      cases h
      refine ⟨n, hd, fun hs => ?_⟩
      rw [hs] at hc
      simp at hc
      exact hc
    · cases h
  · cases h
theorem ins_dec1 {y pc : Nat} {i : Instr} (h : ins y pc = some i) (hs : isSw i = false) : decode (mC y) pc = .ok (i, ilen i) := by
  obtain ⟨n, h1, h2⟩ := ins_dec h
  rw [h1, h2 hs]
/-- what holds throughout a method's run -/
def Cx (p : Program) (R : Room) (s : State) (m : MethodId) (args : Array Value) (meth : Method) (c : Code) (y : Nat) (D : va_G) (cA : Nat → ClassId) (lo : Nat) : Prop :=
  p.tables.exec = Jvm.exec ∧ c.code = mC y ∧ c.maxLocals = mL y ∧ s.vm.findClass (cNm (mO y)) = some m.cls ∧ (∀ w ∈ lw_tbl, okW w = true → w.before args s = true) ∧ va_K D vcl (tysL cA) s ∧ meth.name = (mN y).name ∧ lo ≤ s.heap.size ∧ mF y ≤ R.frames ∧ mW y ≤ R.locals
theorem jmp_inv {pc : Nat} {off : Int} {ls st : List Value} {σ : Hp} {r : Nat × List Value × List Value × Hp} (h : jmp pc off ls st σ = some (.inl r)) : (pc : Int) + off = (((pc : Int) + off).toNat : Nat) ∧ r = (((pc : Int) + off).toNat, ls, st, σ) := by
  unfold jmp at h
  split at h
  · cases h
    exact ⟨by omega, rfl⟩
  · cases h
theorem cat_sum : ∀ r : List Value, (r.map fun v => v.category).sum ≤ 2 * r.length
  | [] => by simp
  | v :: r => by
    have := cat_sum r
    rcases lv_cat v with h | h <;> simp [h] <;> omega
theorem okV_spec {ty : FieldType} {v : Value} (h : okV ty v = true) : narrow ty v = v ∧ fits ty v = true := by
  unfold okV at h
  split at h
  · exact ⟨rfl, rfl⟩
  · rename_i x
    simp only [Bool.or_eq_true, beq_iff_eq] at h
    rcases h with rfl | rfl <;> exact ⟨by decide +kernel, by decide +kernel⟩
  · exact ⟨rfl, rfl⟩
  · exact ⟨rfl, rfl⟩
  · cases h
theorem inB_in {i : Int32} {n : Nat} (h : inB i n = true) : vp_in i n := (of_decide_eq_true h : ¬ (i < 0 ∨ n ≤ i.toNatClampNeg))
def Lft (σ : Hp) (c0 s0 : Nat) (R : Room) : Prop := σ.2.1 - c0 ≤ R.cells ∧ σ.2.2 - s0 ≤ R.slots
def isPl : Instr → Bool
  | .iconst _ | .bipush _ | .sipush _ | .lconst _ | .ldc _ | .ldc2_w _ | .iload_n _ | .iload _ | .lload_n _ | .lload _ | .aload_n _ | .aload _ | .istore_n _ | .istore _ | .lstore_n _ | .lstore _ | .astore_n _ | .astore _ | .iinc _ _ => true
  | _ => false
def isAr : Instr → Bool
  | .iadd | .isub | .imul | .iand | .idiv | .irem | .land | .lor | .lshl | .lushr | .i2l | .l2i | .lcmp | .dup | .dup2 | .pop | .ifCond _ _ | .if_icmp _ _ | .goto _ | .tableswitch .. | .lookupswitch .. => true
  | _ => false
section STEP
variable {p : Program} {l : Launch} {e : Env} {R : Room} {s : State} {m : MethodId} {args : Array Value} {below : List Frame} {meth : Method} {c : Code} {H : Heap} {locs : List Loc} {cells slots : Nat} {Q : State → Prop}
variable {y pc pc1 : Nat} {D : va_G} {cA : Nat → ClassId} {lo : Nat} {ls ls1 st st1 : List Value} {σ σ1 : Hp} {sl : Array Slot} {c0 s0 : Nat}
theorem ldI_inv {k : Nat} {r : Nat × List Value × List Value × Hp} (h : ldI pc k ls st σ = some (.inl r)) : ∃ x, ls.getD k .null = .int x ∧ r = (pc, ls, .int x :: st, σ) := by
  unfold ldI at h
  split at h
  · cases h; exact ⟨_, by assumption, rfl⟩
  · cases h
theorem ldL_inv {k : Nat} {r : Nat × List Value × List Value × Hp} (h : ldL pc k ls st σ = some (.inl r)) : ∃ x, ls.getD k .null = .long x ∧ r = (pc, ls, .long x :: st, σ) := by
  unfold ldL at h
  split at h
  · cases h; exact ⟨_, by assumption, rfl⟩
  · cases h
theorem ldA_inv {k : Nat} {r : Nat × List Value × List Value × Hp} (h : ldA pc k ls st σ = some (.inl r)) : ∃ x, ls.getD k .null = .ref x ∧ r = (pc, ls, .ref x :: st, σ) := by
  unfold ldA at h
  split at h
  · cases h; exact ⟨_, by assumption, rfl⟩
  · cases h
theorem sto1_inv {k : Nat} {v : Value} {r : List Value} {q : Nat × List Value × List Value × Hp} (h : sto1 pc k v ls r σ = some (.inl q)) : k < ls.length ∧ isD (ls.getD k .null) = false ∧ q = (pc, ls.set k v, r, σ) := by
  unfold sto1 at h
  split at h
  · rename_i hc
    simp only [Bool.and_eq_true, decide_eq_true_eq, Bool.not_eq_true'] at hc
    cases h
    exact ⟨hc.1, hc.2, rfl⟩
  · cases h
theorem sto2_inv {k : Nat} {v : Value} {r : List Value} {q : Nat × List Value × List Value × Hp} (h : sto2 pc k v ls r σ = some (.inl q)) : k + 1 < ls.length ∧ isD (ls.getD k .null) = false ∧ q = (pc, (ls.set k v).set (k + 1) (.double 0), r, σ) := by
  unfold sto2 at h
  split at h
  · rename_i hc
    simp only [Bool.and_eq_true, decide_eq_true_eq, Bool.not_eq_true'] at hc
    cases h
    exact ⟨hc.1, hc.2, rfl⟩
  · cases h
theorem stI_inv {k : Nat} {q : Nat × List Value × List Value × Hp} (h : stI pc k ls st σ = some (.inl q)) : ∃ x r, st = .int x :: r ∧ k < ls.length ∧ isD (ls.getD k .null) = false ∧ q = (pc, ls.set k (.int x), r, σ) := by
  unfold stI at h
  split at h
  · exact ⟨_, _, rfl, sto1_inv h⟩
  · cases h
theorem stA_inv {k : Nat} {q : Nat × List Value × List Value × Hp} (h : stA pc k ls st σ = some (.inl q)) : ∃ x r, st = .ref x :: r ∧ k < ls.length ∧ isD (ls.getD k .null) = false ∧ q = (pc, ls.set k (.ref x), r, σ) := by
  unfold stA at h
  split at h
  · exact ⟨_, _, rfl, sto1_inv h⟩
  · cases h
theorem stL_inv {k : Nat} {q : Nat × List Value × List Value × Hp} (h : stL pc k ls st σ = some (.inl q)) : ∃ x r, st = .long x :: r ∧ k + 1 < ls.length ∧ isD (ls.getD k .null) = false ∧ q = (pc, (ls.set k (.long x)).set (k + 1) (.double 0), r, σ) := by
  unfold stL at h
  split at h
  · exact ⟨_, _, rfl, sto2_inv h⟩
  · cases h
theorem bin_inv {op : Int32 → Int32 → Int32} {q : Nat × List Value × List Value × Hp} (h : bin pc op ls st σ = some (.inl q)) : ∃ a b r, st = .int b :: .int a :: r ∧ q = (pc + 1, ls, .int (op a b) :: r, σ) := by
  unfold bin at h
  split at h
  · cases h; exact ⟨_, _, _, rfl, rfl⟩
  · cases h
theorem binL_inv {op : Int64 → Int64 → Int64} {q : Nat × List Value × List Value × Hp} (h : binL pc op ls st σ = some (.inl q)) : ∃ a b r, st = .long b :: .long a :: r ∧ q = (pc + 1, ls, .long (op a b) :: r, σ) := by
  unfold binL at h
  split at h
  · cases h; exact ⟨_, _, _, rfl, rfl⟩
  · cases h
set_option maxHeartbeats 4000000 in
/-- a step on locals and stack alone -/
theorem stp_plain (C : Cx p R s m args meth c y D cA lo) {i : Instr} (hi : ins y pc = some i) (h : stpI y pc i ls st σ = some (.inl (pc1, ls1, st1, σ1))) (hl : LR ls sl (mL y))
    (hz : isPl i = true)
    (kk : σ1 = σ → ∀ sl1, LR ls1 sl1 (mL y) → W p l e R s m args below meth c H locs cells slots Q (F0 m pc1 sl1 st1)) :
    W p l e R s m args below meth c H locs cells slots Q (F0 m pc sl st) := by
  obtain ⟨hx, hb, hml, hown, hts, hK, hnm, hlo, hF, hW⟩ := C
  have hd := ins_dec1 hi
  cases i <;> first | (exact absurd hz (by decide)) | (exact absurd hz Bool.false_ne_true) | skip
  case iconst n => cases h; exact lv_iconst hx hb (hd rfl) rfl (kk rfl sl hl)
  case bipush n => cases h; exact lv_bipush hx hb (hd rfl) rfl (kk rfl sl hl)
  case sipush n => cases h; exact lv_sipush hx hb (hd rfl) rfl (kk rfl sl hl)
  case lconst n => cases h; exact lv_lconst hx hb (hd rfl) rfl (kk rfl sl hl)
  case ldc idx =>
    simp only [stpI] at h
    split at h
    · rename_i a b v hlk
      cases h
      have hw := lcs_in (lk_in hlk) (.constant (cNm (mO y)) idx (Int32.ofInt v)) (by simp [lcs])
      exact lv_ldc hx hb hown (hts _ hw.1 hw.2) (hd rfl) (kk rfl sl hl)
    · cases h
  case ldc2_w idx =>
    simp only [stpI] at h
    split at h
    · rename_i a b v hlk
      cases h
      have hw := lcs_in (lk_in hlk) (.constantLong (cNm (mO y)) idx (Int64.ofInt v)) (by simp [lcs])
      exact lv_ldc2 hx hb hown (hts _ hw.1 hw.2) (hd rfl) (kk rfl sl hl)
    · cases h
  case iload_n k => obtain ⟨x, hg, e⟩ := ldI_inv h; cases e; exact lv_iload_n hx hb (hd rfl) rfl (hl.get hg rfl rfl) (kk rfl sl hl)
  case iload k => obtain ⟨x, hg, e⟩ := ldI_inv h; cases e; exact lv_iload hx hb (hd rfl) (hl.get hg rfl rfl) (kk rfl sl hl)
  case lload_n k => obtain ⟨x, hg, e⟩ := ldL_inv h; cases e; exact lv_lload_n hx hb (hd rfl) rfl (hl.get hg rfl rfl) (kk rfl sl hl)
  case lload k => obtain ⟨x, hg, e⟩ := ldL_inv h; cases e; exact lv_lload hx hb (hd rfl) (hl.get hg rfl rfl) (kk rfl sl hl)
  case aload_n k => obtain ⟨x, hg, e⟩ := ldA_inv h; cases e; exact lv_aload_n hx hb (hd rfl) rfl (hl.get hg rfl rfl) (kk rfl sl hl)
  case aload k => obtain ⟨x, hg, e⟩ := ldA_inv h; cases e; exact lv_aload hx hb (hd rfl) (hl.get hg rfl rfl) (kk rfl sl hl)
  case istore_n k => obtain ⟨x, r, rfl, hk, hg, e⟩ := stI_inv h; cases e; exact lv_istore_n hx hb (hd rfl) rfl hl.1 (by rw [← hl.2.1]; exact hk) rfl (fun sl2 h2 => kk rfl sl2 (hl.sto1 hk hg (fun x h => by cases h) h2))
  case istore k => obtain ⟨x, r, rfl, hk, hg, e⟩ := stI_inv h; cases e; exact lv_istore hx hb (hd rfl) hl.1 (by rw [← hl.2.1]; exact hk) rfl (fun sl2 h2 => kk rfl sl2 (hl.sto1 hk hg (fun x h => by cases h) h2))
  case astore_n k => obtain ⟨x, r, rfl, hk, hg, e⟩ := stA_inv h; cases e; exact lv_astore_n hx hb (hd rfl) rfl hl.1 (by rw [← hl.2.1]; exact hk) rfl (fun sl2 h2 => kk rfl sl2 (hl.sto1 hk hg (fun x h => by cases h) h2))
  case astore k => obtain ⟨x, r, rfl, hk, hg, e⟩ := stA_inv h; cases e; exact lv_astore hx hb (hd rfl) hl.1 (by rw [← hl.2.1]; exact hk) rfl (fun sl2 h2 => kk rfl sl2 (hl.sto1 hk hg (fun x h => by cases h) h2))
  case lstore_n k => obtain ⟨x, r, rfl, hk, hg, e⟩ := stL_inv h; cases e; exact lv_lstore_n hx hb (hd rfl) rfl hl.1 (by rw [← hl.2.1]; exact hk) rfl (fun sl2 h2 => kk rfl sl2 (hl.sto2 hk hg h2))
  case lstore k => obtain ⟨x, r, rfl, hk, hg, e⟩ := stL_inv h; cases e; exact lv_lstore hx hb (hd rfl) hl.1 (by rw [← hl.2.1]; exact hk) rfl (fun sl2 h2 => kk rfl sl2 (hl.sto2 hk hg h2))
  case iinc k n =>
    simp only [stpI] at h
    split at h
    · rename_i x hg
      cases h
      have hk : ls[k]? = some (.int x) := getD_some hg rfl
      have hkl : k < ls.length := (List.getElem?_eq_some_iff.mp hk).1
      obtain ⟨j, hj⟩ := List.getElem?_of_mem (al_mem.mpr ⟨hk, rfl, rfl⟩)
      exact lv_iinc hx hb (hd rfl) hl.1 hj rfl (by rw [← hl.2.1]; exact hkl) rfl (fun sl2 h2 => kk rfl sl2 (hl.sto1 hkl (by rw [hg]; rfl) (fun x h => by cases h) h2))
    · cases h
set_option maxHeartbeats 4000000 in
theorem stp_arith (C : Cx p R s m args meth c y D cA lo) {i : Instr} (hi : ins y pc = some i) (h : stpI y pc i ls st σ = some (.inl (pc1, ls1, st1, σ1)))
    (hz : isAr i = true)
    (kk : σ1 = σ → ls1 = ls → W p l e R s m args below meth c H locs cells slots Q (F0 m pc1 sl st1)) :
    W p l e R s m args below meth c H locs cells slots Q (F0 m pc sl st) := by
  obtain ⟨hx, hb, hml, hown, hts, hK, hnm, hlo, hF, hW⟩ := C
  have hd := ins_dec1 hi
  cases i <;> first | (exact absurd hz (by decide)) | (exact absurd hz Bool.false_ne_true) | skip
  case iadd => obtain ⟨a, b, r, rfl, e⟩ := bin_inv h; cases e; exact lv_iadd hx hb (hd rfl) (kk rfl rfl)
  case isub => obtain ⟨a, b, r, rfl, e⟩ := bin_inv h; cases e; exact lv_isub hx hb (hd rfl) (kk rfl rfl)
  case imul => obtain ⟨a, b, r, rfl, e⟩ := bin_inv h; cases e; exact lv_imul hx hb (hd rfl) (kk rfl rfl)
  case iand => obtain ⟨a, b, r, rfl, e⟩ := bin_inv h; cases e; exact lv_iand hx hb (hd rfl) (kk rfl rfl)
  case land => obtain ⟨a, b, r, rfl, e⟩ := binL_inv h; cases e; exact lv_land hx hb (hd rfl) (kk rfl rfl)
  case lor => obtain ⟨a, b, r, rfl, e⟩ := binL_inv h; cases e; exact lv_lor hx hb (hd rfl) (kk rfl rfl)
  case idiv =>
    simp only [stpI] at h
    split at h
    · rename_i b a r
      try dsimp only at h
      by_cases h0 : b = 0
      · rw [if_pos h0] at h; cases h
      · rw [if_neg h0] at h; cases h; exact lv_idiv hx hb (hd rfl) h0 (kk rfl rfl)
    · cases h
  case irem =>
    simp only [stpI] at h
    split at h
    · rename_i b a r
      try dsimp only at h
      by_cases h0 : b = 0
      · rw [if_pos h0] at h; cases h
      · rw [if_neg h0] at h; cases h; exact lv_irem hx hb (hd rfl) h0 (kk rfl rfl)
    · cases h
  case lshl =>
    simp only [stpI] at h
    split at h
    · cases h; exact lv_lshl hx hb (hd rfl) rfl (kk rfl rfl)
    · cases h
  case lushr =>
    simp only [stpI] at h
    split at h
    · cases h; exact lv_lushr hx hb (hd rfl) rfl (kk rfl rfl)
    · cases h
  case i2l =>
    simp only [stpI] at h
    split at h
    · cases h; exact lv_i2l hx hb (hd rfl) rfl (kk rfl rfl)
    · cases h
  case l2i =>
    simp only [stpI] at h
    split at h
    · cases h; exact lv_l2i hx hb (hd rfl) rfl (kk rfl rfl)
    · cases h
  case lcmp =>
    simp only [stpI] at h
    split at h
    · cases h; exact W.lcmp hx hb (hd rfl) (kk rfl rfl)
    · cases h
  case dup =>
    simp only [stpI] at h
    split at h
    · rename_i v r
      try dsimp only at h
      by_cases h0 : v.category = 1
      · rw [if_pos h0] at h; cases h; exact lv_dup hx hb (hd rfl) h0 (kk rfl rfl)
      · rw [if_neg h0] at h; cases h
    · cases h
  case dup2 =>
    simp only [stpI] at h
    split at h
    · rename_i v w r
      try dsimp only at h
      by_cases h0 : v.category = 1 ∧ w.category = 1
      · rw [if_pos h0] at h; cases h; exact lv_dup2_11 hx hb (hd rfl) h0.1 h0.2 (kk rfl rfl)
      · rw [if_neg h0] at h; cases h
    · cases h
  case pop =>
    simp only [stpI] at h
    split at h
    · rename_i v r
      try dsimp only at h
      by_cases h0 : v.category = 1
      · rw [if_pos h0] at h; cases h; exact lv_pop hx hb (hd rfl) h0 (kk rfl rfl)
      · rw [if_neg h0] at h; cases h
    · cases h
  case ifCond k off =>
    simp only [stpI] at h
    split at h
    · rename_i x r
      try dsimp only at h
      by_cases h0 : 0 ≤ (pc : Int) + off
      · rw [if_pos h0] at h
        have ht : (pc : Int) + off = ((((pc : Int) + off).toNat : Nat) : Int) := by omega
        have kt : cnd k x 0 = true → W p l e R s m args below meth c H locs cells slots Q (F0 m ((pc : Int) + off).toNat sl r) := by
          intro hc
          rw [if_pos hc] at h
          cases h
          exact kk rfl rfl
        have kf : ¬ cnd k x 0 = true → W p l e R s m args below meth c H locs cells slots Q (F0 m (pc + 3) sl r) := by
          intro hc
          rw [if_neg hc] at h
          cases h
          exact kk rfl rfl
        cases k <;> simp only [cnd, decide_eq_true_eq] at kt kf
        · exact lv_if_eq hx hb (hd rfl) ht kt kf
        · exact lv_if_ne hx hb (hd rfl) ht kt (fun q => kf (fun z => z q))
        · exact lv_if_lt hx hb (hd rfl) ht kt kf
        · exact lv_if_ge hx hb (hd rfl) ht kt kf
        · exact lv_if_gt hx hb (hd rfl) ht kt kf
        · exact lv_if_le hx hb (hd rfl) ht kt kf
      · rw [if_neg h0] at h; cases h
    · cases h
  case if_icmp k off =>
    simp only [stpI] at h
    split at h
    · rename_i b a r
      try dsimp only at h
      by_cases h0 : 0 ≤ (pc : Int) + off
      · rw [if_pos h0] at h
        have ht : (pc : Int) + off = ((((pc : Int) + off).toNat : Nat) : Int) := by omega
        have kt : cnd k a b = true → W p l e R s m args below meth c H locs cells slots Q (F0 m ((pc : Int) + off).toNat sl r) := by
          intro hc
          rw [if_pos hc] at h
          cases h
          exact kk rfl rfl
        have kf : ¬ cnd k a b = true → W p l e R s m args below meth c H locs cells slots Q (F0 m (pc + 3) sl r) := by
          intro hc
          rw [if_neg hc] at h
          cases h
          exact kk rfl rfl
        cases k <;> simp only [cnd, decide_eq_true_eq] at kt kf
        · exact lv_icmp_eq hx hb (hd rfl) ht kt kf
        · exact lv_icmp_ne hx hb (hd rfl) ht kt (fun q => kf (fun z => z q))
        · exact lv_icmp_lt hx hb (hd rfl) ht kt kf
        · exact lv_icmp_ge hx hb (hd rfl) ht kt kf
        · exact lv_icmp_gt hx hb (hd rfl) ht kt kf
        · exact lv_icmp_le hx hb (hd rfl) ht kt kf
      · rw [if_neg h0] at h; cases h
    · cases h
  case goto off =>
    obtain ⟨h1, h2⟩ := jmp_inv h
    cases h2
    exact lv_goto hx hb (hd rfl) h1 (kk rfl rfl)
  case tableswitch d lo1 hi1 offs =>
    obtain ⟨n, hd, -⟩ := ins_dec hi
    simp only [stpI] at h
    split at h
    · rename_i x r
      try dsimp only at h
      split at h
      · rename_i o ho
        obtain ⟨h1, h2⟩ := jmp_inv h
        cases h2
        unfold swo at ho
        by_cases hx1 : x.toInt < lo1 ∨ hi1 < x.toInt
        · rw [if_pos hx1] at ho
          cases ho
          exact lv_tableOut hx hb hd hx1 h1 (kk rfl rfl)
        · rw [if_neg hx1] at ho
          exact lv_tableIn hx hb hd (fun q => hx1 (Or.inl q)) (fun q => hx1 (Or.inr q)) ho h1 (kk rfl rfl)
      · cases h
    · cases h
  case lookupswitch d ps =>
    obtain ⟨n, hd, -⟩ := ins_dec hi
    simp only [stpI] at h
    split at h
    · rename_i x r
      try dsimp only at h
      by_cases h0 : (ps.toList.zip (ps.toList.drop 1)).all (fun (a, next) => a.1 < next.1) = true
      · rw [if_pos h0] at h
        obtain ⟨h1, h2⟩ := jmp_inv h
        cases h2
        exact lv_lookup hx hb hd h0 rfl h1 (kk rfl rfl)
      · rw [if_neg h0] at h; cases h
    · cases h
end STEP
end
section
theorem arrI_in : (Cond.arrayClass FieldType.int) ∈ lw_tbl := List.mem_of_getElem? (i := 112) (by decide +kernel)
theorem arrZ_in : (Cond.arrayClass FieldType.boolean) ∈ lw_tbl := List.mem_of_getElem? (i := 737) (by decide +kernel)
theorem arrS_in : (Cond.arrayOver (.object RX5)) ∈ lw_tbl := List.mem_of_getElem? (i := 165) (by decide +kernel)
theorem arrL_in : (Cond.arrayOver (.object RX4)) ∈ lw_tbl := List.mem_of_getElem? (i := 176) (by decide +kernel)
def isHp : Instr → Bool
  | .getfield _ | .putfield _ | .iaload | .baload | .aaload | .iastore | .bastore | .aastore | .arraylength | .new _ | .newarray _ | .anewarray _ => true
  | _ => false
theorem beq_or {k a b : Nat} (h : (Nat.beq k a || Nat.beq k b) = true) : k = a ∨ k = b := by
  rw [Bool.or_eq_true] at h
  exact h.imp Nat.eq_of_beq_eq_true Nat.eq_of_beq_eq_true
theorem okF_inv {σ : Hp} {a ci k : Nat} (h : okF σ a ci k = true) : ∃ fs, σ.1 a = some (.inl (ci, fs)) ∧ k < fs.length ∧ gF σ a k = fs.getD k .null ∧ ∀ v, pF σ a k v = hset σ a (.inl (ci, fs.set k v)) := by
  unfold okF at h
  split at h
  · rename_i ci' fs he
    rw [Bool.and_eq_true] at h
    have e1 : ci' = ci := Nat.eq_of_beq_eq_true h.1
    subst e1
    exact ⟨fs, he, of_decide_eq_true h.2, by unfold gF; rw [he], fun v => by unfold pF; rw [he]⟩
  · cases h
theorem okO_inv {σ : Hp} {a ci : Nat} (h : okO σ a ci = true) : ∃ fs, σ.1 a = some (.inl (ci, fs)) := by
  unfold okO at h
  split at h
  · rename_i ci' fs he
    have e1 : ci' = ci := Nat.eq_of_beq_eq_true h
    subst e1
    exact ⟨fs, he⟩
  · cases h
theorem okB_inv {σ : Hp} {t a : Nat} {i : Int32} (h : okB σ t a i = true) : ∃ n f, σ.1 a = some (.inr (.inl (t, n, f))) ∧ vp_in i n ∧ gA σ a i = f i.toNatClampNeg ∧ ∀ x, pA σ a i x = hset σ a (.inr (.inl (t, n, upd f i.toNatClampNeg x))) := by
  unfold okB at h
  split at h
  · rename_i t' n f he
    rw [Bool.and_eq_true] at h
    have e1 : t' = t := Nat.eq_of_beq_eq_true h.1
    subst e1
    exact ⟨n, f, he, inB_in h.2, by unfold gA; rw [he], fun v => by unfold pA; rw [he]⟩
  · cases h
theorem okA_inv {σ : Hp} {t a : Nat} {i : Int32} (h : okA σ t a i = true) : okB σ t a i = true ∨ (t = 0 ∧ ∃ n f, σ.1 a = some (.inr (.inr (.inr (n, f)))) ∧ vp_in i n ∧ gA σ a i = f i.toNatClampNeg) := by
  unfold okA at h
  split at h
  · rename_i t' n f he
    left
    unfold okB
    rw [he]
    exact h
  · rename_i n f he
    rw [Bool.and_eq_true] at h
    exact Or.inr ⟨Nat.eq_of_beq_eq_true h.1, n, f, he, inB_in h.2, by unfold gA; rw [he]⟩
  · cases h
section STEPH
variable {p : Program} {l : Launch} {e : Env} {R : Room} {s : State} {m : MethodId} {args : Array Value} {below : List Frame} {meth : Method} {c : Code} {H : Heap} {locs : List Loc} {cells slots : Nat} {Q : State → Prop}
variable {y pc pc1 : Nat} {D : va_G} {cA : Nat → ClassId} {lo : Nat} {ls ls1 st st1 : List Value} {σ σ1 : Hp} {sl : Array Slot} {c0 s0 : Nat}
set_option maxHeartbeats 4000000 in
theorem stp_heap (C : Cx p R s m args meth c y D cA lo) {i : Instr} (hi : ins y pc = some i) (h : stpI y pc i ls st σ = some (.inl (pc1, ls1, st1, σ1))) (hz : isHp i = true)
    (hR : Rp D cA lo σ s H) (hS : va_S (fun q => lo ≤ q) s.heap H locs) (hcap : Lft σ1 c0 s0 R) (hc0 : c0 ≤ σ.2.1 ∧ s0 ≤ σ.2.2) (hcs : cells = σ.2.1 - c0 ∧ slots = σ.2.2 - s0)
    (kk : ls1 = ls → ∀ (H1 : Heap) (locs1 : List Loc) (cells1 slots1 : Nat), Rp D cA lo σ1 s H1 → va_S (fun q => lo ≤ q) s.heap H1 locs1 → cells1 = σ1.2.1 - c0 → slots1 = σ1.2.2 - s0 → W p l e R s m args below meth c H1 locs1 cells1 slots1 Q (F0 m pc1 sl st1)) :
    W p l e R s m args below meth c H locs cells slots Q (F0 m pc sl st) := by
  obtain ⟨hx, hb, hml, hown, hts, hK, hnm, hlo, hF, hW⟩ := C
  have hd := ins_dec1 hi
  have htU : ∀ w ∈ lw_U, w.before args s = true := fun w hw => hts w (List.mem_filter.mp hw).1 (by unfold okW; rw [(List.mem_filter.mp hw).2]; rfl)
  have hK0 := hK.2 0 (cA 0, .int) rfl
  have hK1 := hK.2 1 (cA 1, .boolean) rfl
  have hK2 := hK.2 2 (cA 2, .object (cNm (elC 2))) rfl
  have hK3 := hK.2 3 (cA 3, .object (cNm (elC 3))) rfl
  cases i <;> first | (exact absurd hz (by decide)) | (exact absurd hz Bool.false_ne_true) | skip
  case getfield idx =>
    simp only [stpI] at h
    split at h
    · rename_i k ci f v0 a r hlk
      split at h
      · rename_i hc
        simp only [Bool.and_eq_true, decide_eq_true_eq] at hc
        obtain ⟨⟨hk, hf⟩, ho⟩ := hc
        cases h
        obtain ⟨fs, e1, e2, e3, -⟩ := okF_inv ho
        have hat := (hR.1 a _ e1).2
        obtain ⟨rr, hcl, -⟩ := id hat
        obtain ⟨er, o1, o2, o3, o4, -⟩ := cok hcl
        subst er
        have hv : fs[f]? = some (gF σ a f) := by rw [e3, List.getD_eq_getElem?_getD, List.getElem?_eq_getElem e2]; rfl
        have hsame : ∀ x, s.fieldFound? (cT ci f).1 (cT ci f).2.1 (cT ci f).2.2.1 = some x → s.fieldFound? (cNm ci) (cT ci f).2.1 (cT ci f).2.2.1 = some x := fun x hx => by rw [← o4 f hf]; exact hx
        rcases beq_or hk with rfl | rfl
        · have hw := lcs_in (lk_in hlk) (.fieldLink (cNm (mO y)) idx (cNm ci) (cT ci f).2.1 (cT ci f).2.2.1) (by simp [lcs])
          exact va_get hx hb htU o1 hown hK (sa_one hat) 0 rfl hcl f hf (hts _ hw.1 hw.2) hsame hv (hd rfl) (kk rfl H locs cells slots hR hS hcs.1 hcs.2)
        · have hw := lcs_in (lk_in hlk) (.fieldLinkNest (cNm (mO y)) idx (cNm ci) (cT ci f).2.1 (cT ci f).2.2.1 hostC) (by simp [lcs])
          exact va_getN hx hb htU o1 hown hK (sa_one hat) 0 rfl hcl f hf (hts _ hw.1 hw.2) hsame hv (hd rfl) (kk rfl H locs cells slots hR hS hcs.1 hcs.2)
      · cases h
    · cases h
  case putfield idx =>
    simp only [stpI] at h
    split at h
    · rename_i k ci f v0 v a r hlk
      split at h
      · rename_i hc
        simp only [Bool.and_eq_true, decide_eq_true_eq, Bool.or_eq_true, Bool.not_eq_true'] at hc
        obtain ⟨⟨⟨⟨hk, hf⟩, ho⟩, hv⟩, hfin⟩ := hc
        cases h
        obtain ⟨fs, e1, e2, -, e3⟩ := okF_inv ho
        have hat := (hR.1 a _ e1)
        obtain ⟨rr, hcl, -⟩ := id hat.2
        obtain ⟨er, o1, o2, o3, o4, -⟩ := cok hcl
        subst er
        have hsame : ∀ x, s.fieldFound? (cT ci f).1 (cT ci f).2.1 (cT ci f).2.2.1 = some x → s.fieldFound? (cNm ci) (cT ci f).2.1 (cT ci f).2.2.1 = some x := fun x hx => by rw [← o4 f hf]; exact hx
        obtain ⟨v1, v2⟩ := okV_spec hv
        have hk : k = 10 ∨ k = 11 := hk.imp Nat.eq_of_beq_eq_true Nat.eq_of_beq_eq_true
        have fin : ∀ (H1 : Heap) (locs1 : List Loc), va_at D vcl (a, .inr (ci, fs.set f v)) H1 → H1.size = H.size → (∀ q : Nat, q ≠ a → H1[q]? = H[q]?) → va_S (fun q => lo ≤ q) s.heap H1 locs1 → W p l e R s m args below meth c H1 locs1 cells slots Q (F0 m (pc + 3) sl st1) := by
          intro H1 locs1 a1 a2 a3 a4
          refine kk rfl H1 locs1 cells slots ?_ a4 ?_ ?_
          · rw [e3]
            exact hR.set ⟨hat.1, a1⟩ a2 a3
          · rw [e3]; exact hcs.1
          · rw [e3]; exact hcs.2
        rcases hk with rfl | rfl
        · have hw := lcs_in (lk_in hlk) (.fieldLink (cNm (mO y)) idx (cNm ci) (cT ci f).2.1 (cT ci f).2.2.1) (by simp [lcs])
          refine sa_put (host := hostC) hx hb htU o1 (cY ci) o2 o3 hown hK hS hat.2 hat.1 hcl f hf (Or.inl ⟨hts _ hw.1 hw.2, ?_⟩) hsame (o2 f hf) v1 v2 e2 (hd rfl) fin
          rcases hfin with hfin | ⟨⟨-, hfin⟩, hci⟩
          · exact Or.inl hfin
          · by_cases hff : (cT ci f).2.2.2 = true
            · have hci : mO y = ci := Nat.eq_of_beq_eq_true hci
              exact Or.inr ⟨hff, hnm.trans hfin, by rw [o4 f hf, hci]⟩
            · exact Or.inl (by simpa using hff)
        · have hw := lcs_in (lk_in hlk) (.fieldLinkNest (cNm (mO y)) idx (cNm ci) (cT ci f).2.1 (cT ci f).2.2.1 hostC) (by simp [lcs])
          refine sa_put (host := hostC) hx hb htU o1 (cY ci) o2 o3 hown hK hS hat.2 hat.1 hcl f hf (Or.inr ⟨hts _ hw.1 hw.2, ?_⟩) hsame (o2 f hf) v1 v2 e2 (hd rfl) fin
          rcases hfin with hfin | ⟨⟨hfin, -⟩, -⟩
          · exact hfin
          · exact absurd (Nat.eq_of_beq_eq_true hfin) (by decide)
      · cases h
    · cases h
  case iaload =>
    simp only [stpI] at h
    split at h
    · rename_i j a r
      split at h
      · rename_i ho
        cases h
        rcases okA_inv ho with ho | ⟨-, n, f, e1, e2, e3⟩
        · obtain ⟨n, f, e1, e2, e3, -⟩ := okB_inv ho
          have hat := (hR.1 a _ e1).2
          rw [e3] at kk
          exact va_iald hx hb hK (sa_one hat) 0 0 rfl rfl e2 (hd rfl) (kk rfl H locs cells slots hR hS hcs.1 hcs.2)
        · obtain ⟨scr, h1, h2, h3, h4, h5⟩ := (hR.1 a _ e1).2
          rw [e3] at kk
          have hlt : j.toNatClampNeg < n := Nat.not_le.mp fun q => e2 (Or.inr q)
          exact W.iald (v := .int (f j.toNatClampNeg)) hx hb h1 h2 h3 (by rw [h4]; exact e2) (h5 _ hlt) rfl rfl (hd rfl) (kk rfl H locs cells slots hR hS hcs.1 hcs.2)
      · cases h
    · cases h
  case baload =>
    simp only [stpI] at h
    split at h
    · rename_i j a r
      split at h
      · rename_i ho
        cases h
        obtain ⟨n, f, e1, e2, e3, -⟩ := okB_inv ho
        have hat := (hR.1 a _ e1).2
        rw [e3] at kk
        exact va_zald hx hb hK (sa_one hat) 0 1 rfl rfl e2 (hd rfl) (kk rfl H locs cells slots hR hS hcs.1 hcs.2)
      · cases h
    · cases h
  case aaload =>
    simp only [stpI] at h
    split at h
    · rename_i j a r
      split at h
      · rename_i ho
        unfold okQ at ho
        split at ho
        · rename_i t n f e1
          simp only [Bool.and_eq_true] at ho
          have e3 : gQ σ a j = f j.toNatClampNeg := by unfold gQ; rw [e1]
          rw [e3] at h
          have hat := (hR.1 a _ e1).2
          split at h
          · rename_i q hq
            cases h
            have hk2 : ∀ (u : Unit), W p l e R s m args below meth c H locs cells slots Q (F0 m (pc + 1) sl (va_rf (f j.toNatClampNeg) :: r)) := fun _ => by
              rw [hq]
              exact kk rfl H locs cells slots hR hS hcs.1 hcs.2
            rcases beq_or ho.1 with rfl | rfl
            · exact va_aldq hx hb hK (sa_one hat) 0 2 rfl rfl (inB_in ho.2) (hd rfl) (hk2 ())
            · exact va_aldq hx hb hK (sa_one hat) 0 3 rfl rfl (inB_in ho.2) (hd rfl) (hk2 ())
          · cases h
        · cases ho
      · cases h
    · cases h
  case iastore =>
    simp only [stpI] at h
    split at h
    · rename_i x j a r
      split at h
      · rename_i ho
        cases h
        obtain ⟨n, f, e1, e2, -, e3⟩ := okB_inv ho
        have hat := hR.1 a _ e1
        rw [e3] at kk
        exact sa_iast hx hb hK hS 0 hat.2 hat.1 rfl e2 (hd rfl) (fun H1 locs1 a1 a2 a3 a4 => kk rfl H1 locs1 cells slots (hR.set ⟨hat.1, a1⟩ a2 a3) a4 hcs.1 hcs.2)
      · cases h
    · cases h
  case bastore =>
    simp only [stpI] at h
    split at h
    · rename_i x j a r
      split at h
      · rename_i ho
        cases h
        simp only [Bool.and_eq_true, Bool.or_eq_true, beq_iff_eq] at ho
        obtain ⟨n, f, e1, e2, -, e3⟩ := okB_inv ho.1
        have hat := hR.1 a _ e1
        rw [e3] at kk
        exact sa_zast hx hb hK hS 1 hat.2 hat.1 rfl ho.2 e2 (hd rfl) (fun H1 locs1 a1 a2 a3 a4 => kk rfl H1 locs1 cells slots (hR.set ⟨hat.1, a1⟩ a2 a3) a4 hcs.1 hcs.2)
      · cases h
    · cases h
  case aastore =>
    simp only [stpI] at h
    split at h
    · rename_i v j a r
      split at h
      · rename_i ho
        cases h
        unfold okQw at ho
        split at ho
        · rename_i t n f e1
          simp only [Bool.and_eq_true] at ho
          have e3 : pQ σ a j v = hset σ a (.inr (.inr (.inl (t, n, va_up f j.toNatClampNeg (some v))))) := by unfold pQ; rw [e1]
          rw [e3] at kk
          have hat := hR.1 a _ e1
          obtain ⟨vs, ev⟩ := okO_inv ho.2
          have hvt := (hR.1 v _ ev).2
          obtain ⟨rr, hcl, -⟩ := id hvt
          obtain ⟨er, -⟩ := cok hcl
          subst er
          rcases beq_or ho.1.1 with rfl | rfl
          · exact sa_astq hx hb hK hS 2 (elC 2) hat.2 hat.1 rfl hvt hcl (inB_in ho.1.2) (hd rfl) (fun H1 locs1 a1 a2 a3 a4 => kk rfl H1 locs1 cells slots (hR.set ⟨hat.1, a1⟩ a2 a3) a4 hcs.1 hcs.2)
          · exact sa_astq hx hb hK hS 3 (elC 3) hat.2 hat.1 rfl hvt hcl (inB_in ho.1.2) (hd rfl) (fun H1 locs1 a1 a2 a3 a4 => kk rfl H1 locs1 cells slots (hR.set ⟨hat.1, a1⟩ a2 a3) a4 hcs.1 hcs.2)
        · cases ho
      · cases h
    · cases h
  case arraylength =>
    simp only [stpI] at h
    split at h
    · rename_i a r
      split at h
      · rename_i ho
        cases h
        unfold okL at ho
        split at ho
        · rename_i t n f e1
          have hat := (hR.1 a _ e1).2
          have e3 : gL σ a = nI n := by unfold gL; rw [e1]
          rw [e3] at kk
          rcases beq_or ho with rfl | rfl
          · exact va_alen hx hb hK (sa_one hat) 0 0 rfl rfl rfl (hd rfl) (kk rfl H locs cells slots hR hS hcs.1 hcs.2)
          · exact va_alen hx hb hK (sa_one hat) 0 1 rfl rfl rfl (hd rfl) (kk rfl H locs cells slots hR hS hcs.1 hcs.2)
        · rename_i t n f e1
          have hat := (hR.1 a _ e1).2
          have e3 : gL σ a = nI n := by unfold gL; rw [e1]
          rw [e3] at kk
          rcases beq_or ho with rfl | rfl
          · exact va_alen hx hb hK (sa_one hat) 0 2 rfl rfl rfl (hd rfl) (kk rfl H locs cells slots hR hS hcs.1 hcs.2)
          · exact va_alen hx hb hK (sa_one hat) 0 3 rfl rfl rfl (hd rfl) (kk rfl H locs cells slots hR hS hcs.1 hcs.2)
        · rename_i q e1
          obtain ⟨n, f⟩ := q
          obtain ⟨scr, h1, h2, h3, h4, h5⟩ := (hR.1 a _ e1).2
          have e3 : gL σ a = nI n := by unfold gL; rw [e1]
          rw [e3] at kk
          exact W.alen (n := nI n) hx hb h1 h2 (by rw [h4]; rfl) rfl rfl (hd rfl) (kk rfl H locs cells slots hR hS hcs.1 hcs.2)
        · cases ho
      · cases h
    · cases h
  case new idx =>
    simp only [stpI] at h
    split at h
    · rename_i ci b v0 hlk
      split at h
      · rename_i hci
        cases h
        have hci : ci < vcl.length := of_decide_eq_true hci
        have hcl : vcl[ci]? = some (vcl[ci]) := List.getElem?_eq_getElem hci
        obtain ⟨er, o1, o2, o3, o4, o5, o6⟩ := cok hcl
        rw [er] at hcl
        have w1 := lcs_in (lk_in hlk) (.classLink (cNm (mO y)) idx (cNm ci)) (by simp [lcs])
        have w2 := lcs_in (lk_in hlk) (.instantiable (cNm ci) (cN ci)) (by simp [lcs])
        have w3 := lcs_in (lk_in hlk) (.initialized (cNm ci)) (by simp [lcs])
        have g1 : σ.2.1 + 1 - c0 ≤ R.cells := hcap.1
        have g2 : σ.2.2 + cN ci - s0 ≤ R.slots := hcap.2
        rw [hR.2] at kk
        refine sa_new hx hb htU o1 (cY ci) o2 hown (hts _ w1.1 w1.2) (hts _ w2.1 w2.2) (hts _ w3.1 w3.2) hK hS hcl o6 (by omega) (by omega) (hd rfl) (fun H1 a1 a2 a3 a4 => ?_)
        refine kk rfl H1 locs (cells + 1) (slots + cN ci) (hR.new ⟨Nat.le_trans hlo hS.1, a1⟩ a2 a3) a4 ?_ ?_
        · show cells + 1 = σ.2.1 + 1 - c0
          omega
        · show slots + cN ci = σ.2.2 + cN ci - s0
          omega
      · cases h
    · cases h
  case newarray t =>
    cases t <;> simp only [stpI] at h <;> try (cases h; done)
    · split at h
      · rename_i n r
        split at h
        · rename_i hc
          simp only [Bool.and_eq_true, decide_eq_true_eq] at hc
          cases h
          have g1 : σ.2.1 + 1 - c0 ≤ R.cells := hcap.1
          have g2 : σ.2.2 + n.toNatClampNeg - s0 ≤ R.slots := hcap.2
          rw [hR.2] at kk
          have hw : (Cond.arrayClass FieldType.boolean) ∈ lw_tbl := arrZ_in
          refine sa_newa (atype := .boolean) hx hb (hts _ hw rfl) rfl hS hc.1 rfl hc.2 (by omega) (by omega) (hd rfl) hK1.2 (fun H1 a1 a2 a3 a4 => ?_)
          refine kk rfl H1 locs (cells + 1) (slots + n.toNatClampNeg) (hR.new (x := .inr (.inl (1, n.toNatClampNeg, fun _ => 0))) ⟨Nat.le_trans hlo hS.1, ?_⟩ a2 a3) a4 ?_ ?_
          · show H1[H.size]? = some (vp_cell (cA 1) (n.toNatClampNeg, .inl (fun _ => 0)))
            rw [vp_cell_i]
            exact a1
          · show cells + 1 = σ.2.1 + 1 - c0
            omega
          · show slots + n.toNatClampNeg = σ.2.2 + n.toNatClampNeg - s0
            omega
        · cases h
      · cases h
    · split at h
      · rename_i n r
        split at h
        · rename_i hc
          simp only [Bool.and_eq_true, decide_eq_true_eq] at hc
          cases h
          have g1 : σ.2.1 + 1 - c0 ≤ R.cells := hcap.1
          have g2 : σ.2.2 + n.toNatClampNeg - s0 ≤ R.slots := hcap.2
          rw [hR.2] at kk
          have hw : (Cond.arrayClass FieldType.int) ∈ lw_tbl := arrI_in
          refine sa_newa (atype := .int) hx hb (hts _ hw rfl) rfl hS hc.1 rfl hc.2 (by omega) (by omega) (hd rfl) hK0.2 (fun H1 a1 a2 a3 a4 => ?_)
          refine kk rfl H1 locs (cells + 1) (slots + n.toNatClampNeg) (hR.new (x := .inr (.inl (0, n.toNatClampNeg, fun _ => 0))) ⟨Nat.le_trans hlo hS.1, ?_⟩ a2 a3) a4 ?_ ?_
          · show H1[H.size]? = some (vp_cell (cA 0) (n.toNatClampNeg, .inl (fun _ => 0)))
            rw [vp_cell_i]
            exact a1
          · show cells + 1 = σ.2.1 + 1 - c0
            omega
          · show slots + n.toNatClampNeg = σ.2.2 + n.toNatClampNeg - s0
            omega
        · cases h
      · cases h
  case anewarray idx =>
    simp only [stpI] at h
    split at h
    · rename_i ci b v0 n r hlk
      split at h
      · rename_i hc
        simp only [Bool.and_eq_true, decide_eq_true_eq, Bool.or_eq_true] at hc
        cases h
        have g1 : σ.2.1 + 1 - c0 ≤ R.cells := hcap.1
        have g2 : σ.2.2 + n.toNatClampNeg - s0 ≤ R.slots := hcap.2
        rw [hR.2] at kk
        have w1 := lcs_in (lk_in hlk) (.classLink (cNm (mO y)) (idx + 100000 - 100000) (cNm ci)) (by simp [lcs])
        rw [Nat.add_sub_cancel] at w1
        have w2 := lcs_in (lk_in hlk) (.arrayOver (.object (cNm ci))) (by simp [lcs])
        have hci : ci = 5 ∨ ci = 4 := hc.1.1.imp Nat.eq_of_beq_eq_true Nat.eq_of_beq_eq_true
        have fin : ∀ (t : Nat) (H1 : Heap), (if ci = 5 then 2 else 3) = t → H1[H.size]? = some (arrV (cA t) n.toNatClampNeg (fun _ => .null)) → H1.size = H.size + 1 → (∀ q : Nat, q < H.size → H1[q]? = H[q]?) → va_S (fun q => lo ≤ q) s.heap H1 locs → W p l e R s m args below meth c H1 locs (cells + 1) (slots + n.toNatClampNeg) Q (F0 m (pc + 3) sl (.ref H.size :: r)) := by
          intro t H1 et a1 a2 a3 a4
          rw [et] at kk
          refine kk rfl H1 locs (cells + 1) (slots + n.toNatClampNeg) (hR.new (x := .inr (.inr (.inl (t, n.toNatClampNeg, fun _ => none)))) ⟨Nat.le_trans hlo hS.1, ?_⟩ a2 a3) a4 ?_ ?_
          · show H1[H.size]? = some (vp_cell (cA t) (n.toNatClampNeg, .inr (.inr (.inr (.inr (fun _ => none))))))
            rw [vp_cell_q]
            exact a1
          · show cells + 1 = σ.2.1 + 1 - c0
            omega
          · show slots + n.toNatClampNeg = σ.2.2 + n.toNatClampNeg - s0
            omega
        rcases hci with rfl | rfl
        · obtain ⟨kA, comp, -, -, -, hfc⟩ := hK2.2
          exact sa_newq hx hb hown (hts _ w1.1 w1.2) (va_AO.of (hts _ w2.1 w2.2)) hS hc.1.2 rfl hc.2 (by omega) (by omega) (hd rfl) hfc (fun H1 => fin 2 H1 rfl)
        · obtain ⟨kA, comp, -, -, -, hfc⟩ := hK3.2
          exact sa_newq hx hb hown (hts _ w1.1 w1.2) (va_AO.of (hts _ w2.1 w2.2)) hS hc.1.2 rfl hc.2 (by omega) (by omega) (hd rfl) hfc (fun H1 => fin 3 H1 rfl)
      · cases h
    · cases h
end STEPH
end
section
/-! calls, and the whole run -/
def Hle (σ σ1 : Hp) : Prop := σ.2.1 ≤ σ1.2.1 ∧ σ.2.2 ≤ σ1.2.2
theorem Hle.rf {σ : Hp} : Hle σ σ := ⟨Nat.le_refl _, Nat.le_refl _⟩
theorem Hle.tr {a b c : Hp} (h : Hle a b) (h2 : Hle b c) : Hle a c := ⟨Nat.le_trans h.1 h2.1, Nat.le_trans h.2 h2.2⟩
theorem Hle.nw {σ : Hp} {x : AC} {n : Nat} : Hle σ (hnew σ x n) := ⟨Nat.le_succ _, Nat.le_add_right _ _⟩
theorem pF_2 (σ : Hp) (a k : Nat) (v : Value) : (pF σ a k v).2 = σ.2 := by unfold pF; split <;> rfl
theorem pA_2 (σ : Hp) (a : Nat) (i x : Int32) : (pA σ a i x).2 = σ.2 := by unfold pA; split <;> rfl
theorem pQ_2 (σ : Hp) (a : Nat) (i : Int32) (v : Nat) : (pQ σ a i v).2 = σ.2 := by unfold pQ; split <;> rfl
theorem pC_2 (σ : Hp) (a : Nat) (sp : Int32) (b : Nat) (dp n : Int32) : (pC σ a sp b dp n).2 = σ.2 := by unfold pC; split <;> rfl
theorem Hle.of2 {σ σ1 : Hp} (h : σ1.2 = σ.2) : Hle σ σ1 := by unfold Hle; rw [h]; exact Hle.rf
def isIv : Instr → Bool
  | .invokevirtual _ | .invokespecial _ | .invokestatic _ => true
  | _ => false
set_option maxHeartbeats 4000000 in
theorem stpI_le {y pc : Nat} {i : Instr} {ls st : List Value} {σ : Hp} {pc1 : Nat} {ls1 st1 : List Value} {σ1 : Hp} (h : stpI y pc i ls st σ = some (.inl (pc1, ls1, st1, σ1))) : Hle σ σ1 := by
  cases i <;> first | (cases h; done) | skip
  all_goals
    simp only [stpI, nx, jmp, ldI, ldL, ldA, stI, stL, stA, sto1, sto2, bin, binL, callZ] at h
    repeat' split at h
    all_goals first
      | (cases h; done)
      | (cases h; exact Hle.rf)
      | (cases h; exact Hle.nw)
      | (cases h; exact Hle.of2 (pF_2 _ _ _ _))
      | (cases h; exact Hle.of2 (pA_2 _ _ _ _))
      | (cases h; exact Hle.of2 (pQ_2 _ _ _ _))
      | (cases h; exact Hle.of2 (pC_2 _ _ _ _ _ _))
theorem exec_le : ∀ (n : Nat) {y pc : Nat} {ls st : List Value} {σ : Hp} {v : Option Value} {σ1 : Hp}, exec n y pc ls st σ = some (v, σ1) → Hle σ σ1
  | 0, _, _, _, _, _, _, _, h => by cases h
  | n + 1, y, pc, ls, st, σ, v, σ1, h => by
    unfold exec at h
    cases hs : stp y pc ls st σ with
    | none => rw [hs] at h; cases h
    | some o =>
      rw [hs] at h
      rcases o with ⟨pc', ls', st', σ'⟩ | ⟨z, as, r⟩ | v
      · have h1 : Hle σ σ' := by
          unfold stp at hs
          split at hs
          · exact stpI_le hs
          · cases hs
        exact h1.tr (exec_le n h)
      · dsimp only at h
        cases hz : exec n z 0 (entL as (mL z)) [] σ with
        | none => rw [hz] at h; cases h
        | some w =>
          rw [hz] at h
          exact (exec_le n hz).tr (exec_le n h)
      · cases h
        exact Hle.rf
def nwS (U : State) : Prop := ∀ w ∈ lw_tbl, isNW w = true → va_Nw w U
theorem nw_alike {u U : State} (hW : u.WarmedH U.vm) (h : nwS u) : nwS U := by
  intro w hw hn
  have h1 := h w hw hn
  cases w <;> first | (exact absurd hn Bool.false_ne_true) | skip
  case fieldLinkNest => exact h1.warmF hW
  case methodLinkNest => exact h1.warmM hW
  case arrayOver ty =>
    cases ty <;> first | (exact absurd hn Bool.false_ne_true) | skip
    exact va_AO.moved hW.alike h1
theorem nw_same {u U : State} (hv : u.vm = U.vm) (h : nwS u) : nwS U := by
  intro w hw hn
  have h1 := h w hw hn
  cases w <;> first | (exact absurd hn Bool.false_ne_true) | skip
  case fieldLinkNest => exact va_Nw.same rfl hv h1
  case methodLinkNest => exact va_Nw.same rfl hv h1
  case arrayOver ty =>
    cases ty <;> first | (exact absurd hn Bool.false_ne_true) | skip
    exact va_AO.moved (by rw [hv]; exact Vm.Alike.refl U.vm) h1
theorem nw_use {s : State} {args : Array Value} {w : Cond} (hn : isNW w = true) (h : va_Nw w s) : w.before args s = true := by
  cases w <;> first | (exact absurd hn Bool.false_ne_true) | skip
  case fieldLinkNest => exact va_Nw.use rfl h
  case methodLinkNest => exact va_Nw.use rfl h
  case arrayOver ty =>
    cases ty <;> first | (exact absurd hn Bool.false_ne_true) | skip
    exact va_AO.use h
theorem nw_of {s : State} {args : Array Value} {w : Cond} (hn : isNW w = true) (h : w.before args s = true) : va_Nw w s := by
  cases w <;> first | (exact absurd hn Bool.false_ne_true) | skip
  case fieldLinkNest => exact va_Nw.of rfl h
  case methodLinkNest => exact va_Nw.of rfl h
  case arrayOver ty =>
    cases ty <;> first | (exact absurd hn Bool.false_ne_true) | skip
    exact va_AO.of h
def PB (D : va_G) (cA : Nat → ClassId) (lo : Nat) (σ : Hp) (U : State) : Prop := Rp D cA lo σ U U.heap ∧ va_K D vcl (tysL cA) U ∧ nwS U ∧ lo ≤ U.heap.size
def QB (D : va_G) (cA : Nat → ClassId) (lo : Nat) (σ1 : Hp) (v : Option Value) : Array Value → State → Outcome → State → Prop := fun _ st oc t => oc = .returned v ∧ Rp D cA lo σ1 t t.heap ∧ va_F (fun q => lo ≤ q) st t
theorem PB_blind (D : va_G) (cA : Nat → ClassId) (lo : Nat) (σ : Hp) (as : List Value) : FrameBlind (va_Pc as (PB D cA lo σ)) := by
  intro a U g mk ⟨h0, h1, h2, h3, h4⟩
  exact ⟨h0, Rp.moved (u := U) (U := U.calling g mk a) (Vm.Alike.refl U.vm) h1, va_K.moved (u := U) (U := U.calling g mk a) (Vm.Alike.refl U.vm) h2, nw_same (u := U) (U := U.calling g mk a) rfl h3, h4⟩
def Rt (y pc : Nat) (v : Option Value) : Prop := match v with
  | some (.int x) => ins y pc = some .ireturn ∧ retOK (mR y) x = true
  | some (.ref _) => ins y pc = some .areturn ∧ ∃ C, mR y = some (.object C)
  | none => ins y pc = some .return_ ∧ mR y = none
  | _ => False
abbrev rmZ (z mc ms : Nat) : Room := { frames := mF z, cells := mc, slots := ms, locals := mW z }
section CALLS
variable {p : Program} {l : Launch} {e : Env} {R : Room} {s : State} {m : MethodId} {args : Array Value} {below : List Frame} {meth : Method} {c : Code} {H : Heap} {locs : List Loc} {cells slots : Nat} {Q : State → Prop}
variable {y pc pc1 : Nat} {D : va_G} {cA : Nat → ClassId} {lo : Nat} {ls ls1 st st1 : List Value} {σ σ1 : Hp} {sl : Array Slot} {c0 s0 : Nat}
theorem run_fin {mc ms : Nat} {r : List Value} {v : Option Value} {a : Array Value} (hr : va_Run p l e R s m args below meth c H locs cells slots mc ms (F0 m pc sl st) r (QB D cA lo σ1 v a) (fun q => lo ≤ q)) (hS : va_S (fun q => lo ≤ q) s.heap H locs)
    (kk : ∀ (H1 : Heap) (locs1 : List Loc), Rp D cA lo σ1 s H1 → va_S (fun q => lo ≤ q) s.heap H1 locs1 → W p l e R s m args below meth c H1 locs1 (cells + mc) (slots + ms) Q (F0 m (pc + 3) sl (pushO v r))) : W p l e R s m args below meth c H locs cells slots Q (F0 m pc sl st) := by
  intro T hT X
  obtain ⟨v', st₀, t, T', L, h0, X', hL, e1, e2, ⟨hv, hRp, hz, hk⟩, hst⟩ := hr T hT X
  cases hv
  rw [h0] at hz hk
  have hal : t.vm.Alike s.vm := by rw [← e2]; exact X'.warmed.alike.symm
  obtain ⟨t2, a1, b1⟩ := kk T'.heap (locs ++ L) (by rw [e1]; exact hRp.moved hal) ⟨Nat.le_trans hS.1 (by rw [e1]; exact hz), fun q h1 h2 => by rw [e1, hk q (Nat.lt_of_lt_of_le h1 hS.1) h2]; exact hS.2.1 q h1 h2, fun q hq => by
      rcases List.mem_append.mp hq with h | h
      · exact hS.2.2 q h
      · exact hL q h⟩ T' rfl X'
  refine ⟨t2, hst t2 ?_, b1⟩
  cases v with
  | none => exact a1
  | some w => exact a1
theorem callZ_inv {z' z : Nat} {as as' r r' : List Value} (h : callZ y z' as' r' = some (.inr (.inl (z, as, r)))) : z' = z ∧ as' = as ∧ r' = r ∧ (mF z + 1 ≤ mF y ∧ 19 + mL z + mW z ≤ mW y ∧ r.length ≤ 4) ∧ (entL0 as).length ≤ mL z := by
  unfold callZ at h
  split at h
  · rename_i hc
    simp only [Bool.and_eq_true, rmOK, decide_eq_true_eq] at hc
    cases h
    exact ⟨rfl, rfl, rfl, ⟨hc.1.1.1, hc.1.1.2, hc.1.2⟩, hc.2⟩
  · cases h
theorem callZ_none {z' : Nat} {as' r' : List Value} {q : Nat × List Value × List Value × Hp} (h : callZ y z' as' r' = some (.inl q)) : False := by
  unfold callZ at h
  split at h <;> cases h
theorem code_good (z : Nat) (h : okW (cwd z) = true) : goodWord (cwd z) = true := by
  unfold okW at h
  rw [Bool.or_eq_true] at h
  rcases h with h | h
  · exact h
  · exact absurd h Bool.false_ne_true
theorem mOK_p (z : Nat) : ((mN z).cls ≠ "java/lang/invoke/MethodHandle" ∧ (mN z).cls ≠ "java/lang/invoke/VarHandle") ∧ plainName (mN z).cls = true ∧ (mN z).cls = cNm (mO z) ∧ ∀ sig, parseMethodDescriptor (mN z).desc = some sig → mA z = sig.parameters.length := by
  have h := mOK_y z
  simp only [mOK, Bool.and_eq_true, decide_eq_true_eq] at h
  obtain ⟨⟨⟨⟨h1, h2⟩, h3⟩, h4⟩, h5⟩ := h
  refine ⟨⟨h1, h2⟩, h3, h4, fun sig hs => ?_⟩
  have h5' : (parseMethodDescriptor (mN z).desc).map (fun d => d.parameters.length) = some (mA z) := h5
  rw [hs] at h5'
  exact (Option.some.inj h5').symm
theorem restW {r : List Value} (h : r.length ≤ 4) : (r.map fun v => v.category).sum ≤ 8 := by
  have := cat_sum r
  omega
set_option maxHeartbeats 4000000 in
/-- objects' own start, Math.max, Math.min, arraycopy -/
theorem stp_nat (C : Cx p R s m args meth c y D cA lo) {i : Instr} (hi : ins y pc = some i) (h : stpI y pc i ls st σ = some (.inl (pc1, ls1, st1, σ1))) (hz : isIv i = true) (hl : sl.size = mL y)
    (hR : Rp D cA lo σ s H) (hS : va_S (fun q => lo ≤ q) s.heap H locs) (hcap : cells ≤ R.cells ∧ slots ≤ R.slots)
    (kk : σ1.2 = σ.2 → ls1 = ls → ∀ (H1 : Heap) (locs1 : List Loc), Rp D cA lo σ1 s H1 → va_S (fun q => lo ≤ q) s.heap H1 locs1 → W p l e R s m args below meth c H1 locs1 cells slots Q (F0 m pc1 sl st1)) :
    W p l e R s m args below meth c H locs cells slots Q (F0 m pc sl st) := by
  obtain ⟨hx, hb, hml, hown, hts, hK, hnm, hlo, hF, hW⟩ := C
  have hd := ins_dec1 hi
  have hK0 := hK.2 0 (cA 0, .int) rfl
  cases i <;> first | (exact absurd hz (by decide)) | (exact absurd hz Bool.false_ne_true) | skip
  case invokevirtual idx =>
    exfalso
    simp only [stpI] at h
    repeat' split at h
    all_goals first | (cases h; done) | exact callZ_none h
  case invokespecial idx =>
    simp only [stpI] at h
    split at h
    · rename_i a0 b0 v0 hlk
      split at h
      · rename_i a r
        split at h
        · rename_i hc
          simp only [rm0K, Bool.and_eq_true, decide_eq_true_eq] at hc
          cases h
          have hrw := restW hc.2
          have w1 := lcs_in (lk_in hlk) (.methodLink (cNm (mO y)) idx objectInit) (by simp [lcs])
          have w2 := lcs_in (lk_in hlk) (.instanceMethod objectInit) (by simp [lcs])
          have w3 := lcs_in (lk_in hlk) (.code objectInit ⟨#[0xb1]⟩ 1 none) (by simp [lcs])
          exact W.objInit hx hb hown (hts _ w1.1 w1.2) (hts _ w2.1 w2.2) (hts _ w3.1 w3.2) rfl (by rw [hml]; exact hl) rfl (hd rfl) (by omega) (by show 2 * 0 + _ + 12 ≤ _; omega) (kk rfl rfl H locs hR hS)
        · cases h
      · cases h
    · exfalso
      repeat' split at h
      all_goals first | (cases h; done) | exact callZ_none h
    · cases h
  case invokestatic idx =>
    simp only [stpI] at h
    split at h
    · rename_i a0 b0 v0 hlk
      split at h
      · rename_i b a r
        split at h
        · rename_i hc
          simp only [rm0K, Bool.and_eq_true, decide_eq_true_eq] at hc
          cases h
          have hrw := restW hc.2
          have w1 := lcs_in (lk_in hlk) (.methodLink (cNm (mO y)) idx Lib.Math.max.name) (by simp [lcs])
          have w2 := lcs_in (lk_in hlk) (.static Lib.Math.max.name) (by simp [lcs])
          have w3 := lcs_in (lk_in hlk) (.initialized "java/lang/Math") (by simp [lcs])
          have w4 := lcs_in (lk_in hlk) (.code Lib.Math.max.name Lib.Math.max.code 2 (some .int)) (by simp [lcs])
          exact va_mmax hx hb (by rw [hml, hl]) hown (hts _ w1.1 w1.2) (hts _ w2.1 w2.2) (hts _ w3.1 w3.2) (hts _ w4.1 w4.2) (by omega) (by omega) hcap.1 hcap.2 (hd rfl) (kk rfl rfl H locs hR hS)
        · cases h
      · cases h
    · rename_i a0 b0 v0 hlk
      split at h
      · rename_i b a r
        split at h
        · rename_i hc
          simp only [rm0K, Bool.and_eq_true, decide_eq_true_eq] at hc
          cases h
          have hrw := restW hc.2
          have w1 := lcs_in (lk_in hlk) (.methodLink (cNm (mO y)) idx Lib.Math.min.name) (by simp [lcs])
          have w2 := lcs_in (lk_in hlk) (.static Lib.Math.min.name) (by simp [lcs])
          have w3 := lcs_in (lk_in hlk) (.initialized "java/lang/Math") (by simp [lcs])
          have w4 := lcs_in (lk_in hlk) (.code Lib.Math.min.name Lib.Math.min.code 2 (some .int)) (by simp [lcs])
          exact va_mmin hx hb (by rw [hml, hl]) hown (hts _ w1.1 w1.2) (hts _ w2.1 w2.2) (hts _ w3.1 w3.2) (hts _ w4.1 w4.2) (by omega) (by omega) hcap.1 hcap.2 (hd rfl) (kk rfl rfl H locs hR hS)
        · cases h
      · cases h
    · rename_i a0 b0 v0 hlk
      split at h
      · rename_i n dp b sp a r
        split at h
        · rename_i hc
          rw [Bool.and_eq_true] at hc
          obtain ⟨hc, hoc⟩ := hc
          simp only [rm0K, Bool.and_eq_true, decide_eq_true_eq] at hc
          cases h
          have hrw := restW hc.2
          have w1 := lcs_in (lk_in hlk) (.methodLink (cNm (mO y)) idx arraycopyName) (by simp [lcs])
          have w2 := lcs_in (lk_in hlk) (.native arraycopyName) (by simp [lcs])
          have w3 := lcs_in (lk_in hlk) (.static arraycopyName) (by simp [lcs])
          have w4 := lcs_in (lk_in hlk) (.initialized "java/lang/System") (by simp [lcs])
          unfold okC at hoc
          split at hoc
          · rename_i t n0 f t' n1 g ea eb
            simp only [Bool.and_eq_true, decide_eq_true_eq] at hoc
            obtain ⟨⟨⟨⟨⟨⟨q1, q2⟩, q3⟩, q4⟩, q5⟩, q6⟩, q7⟩ := hoc
            have q1 : t = 0 := Nat.eq_of_beq_eq_true q1
            have q2 : t' = 0 := Nat.eq_of_beq_eq_true q2
            subst q1; subst q2
            have e3 : pC σ a sp b dp n = hset σ b (.inr (.inl (0, n1, va_cpy f g sp.toNatClampNeg dp.toNatClampNeg n.toNatClampNeg))) := by unfold pC; rw [ea, eb]
            rw [e3] at kk
            have h1 := hR.1 a _ ea
            have h2 := hR.1 b _ eb
            exact sa_copy hx hb (by rw [hml, hl]) hown (hts _ w1.1 w1.2) (hts _ w2.1 w2.2) (hts _ w3.1 w3.2) (hts _ w4.1 w4.2) hK hS 0 h1.2 h2.2 h2.1 rfl q3 q4 q5 q6 q7 (by omega) (by rw [show nativeFrameWords "java/lang/System" "arraycopy" 5 = 7 by decide +kernel]; omega) (hd rfl) (fun H1 locs1 a1 a2 a3 a4 => kk rfl rfl H1 locs1 (hR.set ⟨h2.1, a1⟩ a2 a3) a4)
          · cases hoc
        · cases h
      · cases h
    · exfalso
      repeat' split at h
      all_goals first | (cases h; done) | exact callZ_none h
    · cases h
end CALLS
end
section
/-! the run of a method by its pure machine, sound -/
def Snd (l : Launch) (D : va_G) (cA : Nat → ClassId) (lo n : Nat) : Prop :=
  ∀ (y pc : Nat) (ls st : List Value) (σ : Hp) (v : Option Value) (σ1 : Hp), exec n y pc ls st σ = some (v, σ1) →
    ∀ (p : Program) (e : Env) (R : Room) (s : State) (m : MethodId) (args : Array Value) (below : List Frame) (meth : Method) (c : Code) (H : Heap) (locs : List Loc) (cells slots : Nat) (Q : State → Prop) (sl : Array Slot) (c0 s0 : Nat),
      Cx p R s m args meth c y D cA lo → nwS s → Rp D cA lo σ s H → va_S (fun q => lo ≤ q) s.heap H locs → LR ls sl (mL y) → Lft σ1 c0 s0 R → c0 ≤ σ.2.1 ∧ s0 ≤ σ.2.2 → cells = σ.2.1 - c0 ∧ slots = σ.2.2 - s0 →
      (∀ (pc' : Nat) (sl' : Array Slot) (H' : Heap) (locs' : List Loc), Rp D cA lo σ1 s H' → va_S (fun q => lo ≤ q) s.heap H' locs' → Rt y pc' v → W p l e R s m args below meth c H' locs' (σ1.2.1 - c0) (σ1.2.2 - s0) Q (F0 m pc' sl' v.toList)) →
      W p l e R s m args below meth c H locs cells slots Q (F0 m pc sl st)
theorem retOK_inv {t : Option FieldType} {k : Int32} (h : retOK t k = true) : t = some .int ∨ (t = some .boolean ∧ (k = 0 ∨ k = 1)) := by
  unfold retOK at h
  split at h
  · exact Or.inl rfl
  · simp only [Bool.or_eq_true, beq_iff_eq] at h
    exact Or.inr ⟨rfl, h⟩
  · cases h
theorem lwU_code {z : Nat} (hw : cwd z ∈ lw_tbl ∧ okW (cwd z) = true) : cwd z ∈ lw_U := List.mem_filter.mpr ⟨hw.1, code_good z hw.2⟩
set_option maxHeartbeats 4000000 in
theorem met_of {l : Launch} {D : va_G} {cA : Nat → ClassId} {lo n z : Nat} {as : List Value} {σ σ1 : Hp} {v : Option Value} (ih : Snd l D cA lo n) (hx : exec n z 0 (entL as (mL z)) [] σ = some (v, σ1)) (hlen : (entL0 as).length ≤ mL z) :
    Met l (mN z) (cwd z :: lw_U) (rmZ z (σ1.2.1 - σ.2.1) (σ1.2.2 - σ.2.2)) (va_Pc as (PB D cA lo σ)) (QB D cA lo σ1 v) (σ1.2.1 - σ.2.1) (σ1.2.2 - σ.2.2) (fun q => lo ≤ q) := by
  obtain ⟨-, hpl, hcl, -⟩ := mOK_p z
  refine Met.ofW (cc := mC z) (maxL := mL z) (ret := mR z) hpl rfl ?_
  intro p e s m args below meth c s₁ B hml hv
  obtain ⟨rfl, hRp, hK, hN, hlo⟩ := hv
  have hts := atoms_spec (ws := cwd z :: lw_U) B.pre
  have hown : s.vm.findClass (cNm (mO z)) = some m.cls := by rw [← hcl]; exact findClass_of_methodNamed B.named
  have hlocks := B.notSynchronized
  have hxx := B.exec
  have hb := B.bytes
  have hr := B.returns
  rw [lg_entry_eq]
  refine ih z 0 _ _ σ v σ1 hx p e _ s m _ below meth c s.heap [] 0 0 _ _ σ.2.1 σ.2.2 ⟨hxx, hb, hml, hown, fun w hw hok => ?_, hK, (name_of_methodNamed B.named B.method).1, hlo, Nat.le_refl _, Nat.le_refl _⟩ hN hRp va_S.rf (LR.entry as hlen) ⟨Nat.le_refl _, Nat.le_refl _⟩ ⟨Nat.le_refl _, Nat.le_refl _⟩ ⟨(Nat.sub_self _).symm, (Nat.sub_self _).symm⟩ ?_
  · unfold okW at hok
    rw [Bool.or_eq_true] at hok
    rcases hok with hg | hn
    · exact hts w (List.mem_cons_of_mem _ (List.mem_filter.mpr ⟨hw, hg⟩))
    · exact nw_use hn (hN w hw hn)
  · intro pc' sl' H' locs' hR' hS' hrt
    have fin : ∀ t : State, t.heap = H' → s.WarmedH t.vm → QB D cA lo σ1 v as.toArray s (.returned v) t := fun t ht hW => ⟨rfl, by rw [ht]; exact hR'.moved hW.alike, hS'.F ht⟩
    match v, hrt, fin with
    | none, hrt, fin =>
      exact W.vret hxx hb (hr.trans hrt.2) fin hS'.2.2 (ins_dec1 hrt.1 rfl)
    | some (.ref a), hrt, fin =>
      obtain ⟨h1, C, h2⟩ := hrt
      exact W.aret hxx hb (hr.trans h2) (Or.inl ⟨C, rfl⟩) (Or.inr ⟨a, rfl⟩) fin hS'.2.2 (ins_dec1 h1 rfl)
    | some (.int k), hrt, fin =>
      obtain ⟨h1, h2⟩ := hrt
      rcases retOK_inv h2 with hm | ⟨hm, h2⟩
      · exact W.iret hxx hb (hr.trans hm) fin hS'.2.2 (ins_dec1 h1 rfl)
      · have h3 : narrow .boolean (.int k) = .int k := by rcases h2 with rfl | rfl <;> decide +kernel
        exact W.zret hxx hb (hr.trans hm) h3 fin hS'.2.2 (ins_dec1 h1 rfl)
section CALLS2
variable {p : Program} {l : Launch} {e : Env} {R : Room} {s : State} {m : MethodId} {args : Array Value} {below : List Frame} {meth : Method} {c : Code} {H : Heap} {locs : List Loc} {cells slots : Nat} {Q : State → Prop}
variable {y pc : Nat} {D : va_G} {cA : Nat → ClassId} {lo : Nat} {ls st : List Value} {σ σ1 : Hp} {sl : Array Slot}
set_option maxHeartbeats 4000000 in
theorem stp_call {z mc ms : Nat} {as r : List Value} {v : Option Value} (C : Cx p R s m args meth c y D cA lo) (hN : nwS s) {i : Instr} (hi : ins y pc = some i) (h : stpI y pc i ls st σ = some (.inr (.inl (z, as, r)))) (hl : sl.size = mL y)
    (hR : Rp D cA lo σ s H) (hS : va_S (fun q => lo ≤ q) s.heap H locs) (hM : (entL0 as).length ≤ mL z → Met l (mN z) (cwd z :: lw_U) (rmZ z mc ms) (va_Pc as (PB D cA lo σ)) (QB D cA lo σ1 v) mc ms (fun q => lo ≤ q)) (hcap : cells + mc ≤ R.cells ∧ slots + ms ≤ R.slots)
    (kk : ∀ (H1 : Heap) (locs1 : List Loc), Rp D cA lo σ1 s H1 → va_S (fun q => lo ≤ q) s.heap H1 locs1 → W p l e R s m args below meth c H1 locs1 (cells + mc) (slots + ms) Q (F0 m (pc + 3) sl (pushO v r))) :
    W p l e R s m args below meth c H locs cells slots Q (F0 m pc sl st) := by
  obtain ⟨hx, hb, hml, hown, hts, hK, hnm, hlo, hF, hW⟩ := C
  have hd := ins_dec1 hi
  have htU : ∀ w ∈ lw_U, w.before args s = true := fun w hw => hts w (List.mem_filter.mp hw).1 (by unfold okW; rw [(List.mem_filter.mp hw).2]; rfl)
  have hfix : CallFix p m c (mC y) (mL y) s args lw_U (cNm (mO y)) := ⟨hx, hb, hml, hown, htU⟩
  have hpb : ∀ U : State, U.heap = H → s.WarmedH U.vm → va_Pc as (PB D cA lo σ) as.toArray U := fun U hU hWU => ⟨rfl, by rw [hU]; exact hR.moved hWU.alike, va_K.moved hWU.alike hK, nw_alike hWU hN, by rw [hU]; exact Nat.le_trans hlo hS.1⟩
  have good : ∀ w ∈ lcs (mO y, 0, 0, z, 0, 0), True := fun _ _ => trivial
  have wsGood : cwd z ∈ lw_U → ∀ w ∈ cwd z :: lw_U, ∀ (a' : Array Value) (U : State), s.WarmedH U.vm → w.before a' U = true := fun hc => pay_in htU (fun w hw => by
    rcases List.mem_cons.mp hw with rfl | hw
    · exact lw_goodIn _ hc
    · exact lw_goodIn _ hw)
  obtain ⟨hcls, hpl, hcl, hsig⟩ := mOK_p z
  have base : ∀ (hc : cwd z ∈ lw_U), mF z + 1 ≤ mF y → 19 + mL z + mW z ≤ mW y → (rmZ z mc ms).cells = mc ∧ (rmZ z mc ms).slots = ms ∧ (rmZ z mc ms).frames + 1 ≤ R.frames ∧ 8 + (mL z + 11) + (rmZ z mc ms).locals ≤ R.locals ∧ (∀ w ∈ cwd z :: lw_U, ∀ (a' : Array Value) (U : State), s.WarmedH U.vm → w.before a' U = true) ∧ Cond.code (mN z) (mC z) (mL z) (mR z) ∈ cwd z :: lw_U := fun hc f1 f2 =>
    ⟨rfl, rfl, by show mF z + 1 ≤ _; omega, by show 8 + (mL z + 11) + mW z ≤ _; omega, wsGood hc, List.mem_cons_self⟩
  cases i <;> first | (cases h; done) | skip
  case invokevirtual idx =>
    simp only [stpI] at h
    split at h
    · rename_i k z' b0 v0 hlk
      split at h
      · rename_i hc
        simp only [Bool.and_eq_true, decide_eq_true_eq] at hc
        obtain ⟨hk, hn⟩ := hc
        split at h
        · rename_i b r' hdr
          split at h
          · rename_i ho
            obtain ⟨rfl, e2, rfl, ⟨f1, f2, f3⟩, hlen⟩ := callZ_inv h
            subst e2
            obtain ⟨fs, hob⟩ := okO_inv ho
            have hat := (hR.1 b _ hob).2
            obtain ⟨rr, hcl2, -⟩ := id hat
            obtain ⟨er, -⟩ := cok hcl2
            subst er
            have hrec := va_recv (tys := tysL cA) hK (sa_one hat) (q0 := 0) hcl2 rfl
            have hst : st = ((st.take (mA z')).reverse).reverse ++ .ref b :: r' := by rw [List.reverse_reverse, ← hdr, List.take_append_drop]
            have hln : ((st.take (mA z')).reverse).length = mA z' := by rw [List.length_reverse, List.length_take]; omega
            have hp : PreV s H (cNm (mO z')) b (va_Pc (.ref b :: (st.take (mA z')).reverse) (PB D cA lo σ)) ((st.take (mA z')).reverse) := ⟨PB_blind D cA lo σ _, hrec, hpb⟩
            have hk : k = 0 ∨ k = 1 := by have := Nat.le_of_ble_eq_true hk; omega
            rcases hk with rfl | rfl
            · have w1 := lcs_in (lk_in hlk) (.methodLink (cNm (mO y)) idx (mN z')) (by simp [lcs])
              have w2 := lcs_in (lk_in hlk) (.instanceMethod (mN z')) (by simp [lcs])
              have w3 := lcs_in (lk_in hlk) (.selects (mN z').cls (mN z') (mN z')) (by simp [lcs])
              have w4 := lcs_in (lk_in hlk) (.initialized (mN z').cls) (by simp [lcs])
              have w5 := lcs_in (lk_in hlk) (cwd z') (by simp [lcs])
              obtain ⟨c1, c2, c3, c4, c5, c6⟩ := base (lwU_code w5) f1 f2
              have hsel := hts _ w3.1 w3.2
              rw [hcl] at hsel
              exact run_fin (va_runV hfix (hM hlen) ⟨⟨c1, c2, c3, c4, c5, c6, hts _ w5.1 w5.2, hts _ w4.1 w4.2, hcls, hsig, hts _ w1.1 w1.2⟩, hts _ w2.1 w2.2, hcl ▸ hsel⟩ hp rfl hln (by exact hl) hst (lv_room (restW f3)) (hd rfl) hcap) hS kk
            · have w1 := lcs_in (lk_in hlk) (.methodLinkNest (cNm (mO y)) idx (mN z') hostC) (by simp [lcs])
              have w2 := lcs_in (lk_in hlk) (.instanceMethod (mN z')) (by simp [lcs])
              have w3 := lcs_in (lk_in hlk) (.selects (mN z').cls (mN z') (mN z')) (by simp [lcs])
              have w4 := lcs_in (lk_in hlk) (.initialized (mN z').cls) (by simp [lcs])
              have w5 := lcs_in (lk_in hlk) (cwd z') (by simp [lcs])
              obtain ⟨c1, c2, c3, c4, c5, c6⟩ := base (lwU_code w5) f1 f2
              have hsel := hts _ w3.1 w3.2
              rw [hcl] at hsel
              exact run_fin (va_runVN hfix (hM hlen) ⟨⟨⟨c1, c2, c3, c4, c5, c6⟩, hts _ w5.1 w5.2, hts _ w4.1 w4.2, hcls, hsig, hts _ w1.1 w1.2⟩, hts _ w2.1 w2.2, hcl ▸ hsel⟩ hp rfl hln (by exact hl) hst (lv_room (restW f3)) (hd rfl) hcap) hS kk
          · cases h
        · cases h
      · cases h
    · cases h
  case invokespecial idx =>
    simp only [stpI] at h
    split at h
    · repeat' split at h
      all_goals cases h
    · rename_i k z' b0 v0 hlk hne
      split at h
      · rename_i hc
        simp only [Bool.and_eq_true, decide_eq_true_eq] at hc
        obtain ⟨⟨⟨hk, hn⟩, hini⟩, hret⟩ := hc
        split at h
        · rename_i b r' hdr
          obtain ⟨rfl, e2, rfl, ⟨f1, f2, f3⟩, hlen⟩ := callZ_inv h
          subst e2
          have hst : st = ((st.take (mA z')).reverse).reverse ++ .ref b :: r' := by rw [List.reverse_reverse, ← hdr, List.take_append_drop]
          have hln : ((st.take (mA z')).reverse).length = mA z' := by rw [List.length_reverse, List.length_take]; omega
          have hp : PreS s H (va_Pc (.ref b :: (st.take (mA z')).reverse) (PB D cA lo σ)) (.ref b :: (st.take (mA z')).reverse) := ⟨PB_blind D cA lo σ _, hpb⟩
          rcases beq_or hk with rfl | rfl
          · have w1 := lcs_in (lk_in hne) (.methodLink (cNm (mO y)) idx (mN z')) (by simp [lcs])
            have w2 := lcs_in (lk_in hne) (.instanceMethod (mN z')) (by simp [lcs])
            have w4 := lcs_in (lk_in hne) (.initialized (mN z').cls) (by simp [lcs])
            have w5 := lcs_in (lk_in hne) (cwd z') (by simp [lcs])
            obtain ⟨c1, c2, c3, c4, c5, c6⟩ := base (lwU_code w5) f1 f2
            have w5' := hts _ w5.1 w5.2
            unfold cwd at w5'
            rw [hret] at c6 w5'
            exact run_fin (va_runI hfix (hM hlen) ⟨⟨c1, c2, c3, c4, c5, c6, w5', hts _ w4.1 w4.2, hcls, hsig, hts _ w1.1 w1.2⟩, hini, hts _ w2.1 w2.2⟩ hp rfl hln (by exact hl) hst (lv_room (restW f3)) (hd rfl) hcap) hS kk
          · have w1 := lcs_in (lk_in hne) (.methodLinkNest (cNm (mO y)) idx (mN z') hostC) (by simp [lcs])
            have w2 := lcs_in (lk_in hne) (.instanceMethod (mN z')) (by simp [lcs])
            have w4 := lcs_in (lk_in hne) (.initialized (mN z').cls) (by simp [lcs])
            have w5 := lcs_in (lk_in hne) (cwd z') (by simp [lcs])
            obtain ⟨c1, c2, c3, c4, c5, c6⟩ := base (lwU_code w5) f1 f2
            have w5' := hts _ w5.1 w5.2
            unfold cwd at w5'
            rw [hret] at c6 w5'
            exact run_fin (va_runIN hfix (hM hlen) ⟨⟨⟨c1, c2, c3, c4, c5, c6⟩, w5', hts _ w4.1 w4.2, hcls, hsig, hts _ w1.1 w1.2⟩, hini, hts _ w2.1 w2.2⟩ hp rfl hln (by exact hl) hst (lv_room (restW f3)) (hd rfl) hcap) hS kk
        · cases h
      · cases h
    · cases h
  case invokestatic idx =>
    simp only [stpI] at h
    split at h
    · repeat' split at h
      all_goals cases h
    · repeat' split at h
      all_goals cases h
    · repeat' split at h
      all_goals cases h
    · rename_i k z' b0 v0 hn1 hn2 hn3 hlk
      split at h
      · rename_i hc
        simp only [Bool.and_eq_true, decide_eq_true_eq] at hc
        obtain ⟨hk, hn⟩ := hc
        obtain ⟨rfl, e2, e3, ⟨f1, f2, f3⟩, hlen⟩ := callZ_inv h
        subst e2
        subst e3
        have hst : st = ((st.take (mA z')).reverse).reverse ++ st.drop (mA z') := by rw [List.reverse_reverse, List.take_append_drop]
        have hln : ((st.take (mA z')).reverse).length = mA z' := by rw [List.length_reverse, List.length_take]; omega
        have hp : PreS s H (va_Pc ((st.take (mA z')).reverse) (PB D cA lo σ)) ((st.take (mA z')).reverse) := ⟨PB_blind D cA lo σ _, hpb⟩
        rcases beq_or hk with rfl | rfl
        · have w1 := lcs_in (lk_in hlk) (.methodLink (cNm (mO y)) idx (mN z')) (by simp [lcs])
          have w2 := lcs_in (lk_in hlk) (.static (mN z')) (by simp [lcs])
          have w4 := lcs_in (lk_in hlk) (.initialized (mN z').cls) (by simp [lcs])
          have w5 := lcs_in (lk_in hlk) (cwd z') (by simp [lcs])
          obtain ⟨c1, c2, c3, c4, c5, c6⟩ := base (lwU_code w5) f1 f2
          exact run_fin (va_runS hfix (hM hlen) ⟨⟨c1, c2, c3, c4, c5, c6, hts _ w5.1 w5.2, hts _ w4.1 w4.2, hcls, hsig, hts _ w1.1 w1.2⟩, hts _ w2.1 w2.2⟩ hp rfl hln (by exact hl) hst (lv_room (restW f3)) (hd rfl) hcap) hS kk
        · have w1 := lcs_in (lk_in hlk) (.methodLinkNest (cNm (mO y)) idx (mN z') hostC) (by simp [lcs])
          have w2 := lcs_in (lk_in hlk) (.static (mN z')) (by simp [lcs])
          have w4 := lcs_in (lk_in hlk) (.initialized (mN z').cls) (by simp [lcs])
          have w5 := lcs_in (lk_in hlk) (cwd z') (by simp [lcs])
          obtain ⟨c1, c2, c3, c4, c5, c6⟩ := base (lwU_code w5) f1 f2
          exact run_fin (va_runSN hfix (hM hlen) ⟨⟨⟨c1, c2, c3, c4, c5, c6⟩, hts _ w5.1 w5.2, hts _ w4.1 w4.2, hcls, hsig, hts _ w1.1 w1.2⟩, hts _ w2.1 w2.2, trivial⟩ hp rfl hln (by exact hl) hst (lv_room (restW f3)) (hd rfl) hcap) hS kk
      · cases h
    · cases h
  case newarray t =>
    exfalso
    cases t <;> simp only [stpI, nx] at h <;> (repeat' split at h) <;> cases h
  all_goals
    exfalso
    simp only [stpI, nx, jmp, ldI, ldL, ldA, stI, stL, stA, sto1, sto2, bin, binL] at h
    repeat' split at h
    all_goals (cases h; done)
end CALLS2
theorem stpI_ret {y pc : Nat} {i : Instr} {ls st : List Value} {σ : Hp} {v : Option Value} (hi : ins y pc = some i) (h : stpI y pc i ls st σ = some (.inr (.inr v))) : Rt y pc v ∧ st = v.toList := by
  cases i <;> first | (cases h; done) | skip
  case newarray t =>
    exfalso
    cases t <;> simp only [stpI, nx] at h <;> (repeat' split at h) <;> cases h
  case ireturn =>
    simp only [stpI] at h
    repeat' split at h
    all_goals first | (cases h; done) | skip
    cases h
    exact ⟨⟨hi, by assumption⟩, rfl⟩
  case return_ =>
    simp only [stpI] at h
    repeat' split at h
    all_goals first | (cases h; done) | skip
    cases h
    exact ⟨⟨hi, by assumption⟩, rfl⟩
  case areturn =>
    simp only [stpI] at h
    repeat' split at h
    all_goals first | (cases h; done) | skip
    cases h
    exact ⟨⟨hi, _, by assumption⟩, rfl⟩
  all_goals
    exfalso
    simp only [stpI, nx, jmp, ldI, ldL, ldA, stI, stL, stA, sto1, sto2, bin, binL, callZ] at h
    repeat' split at h
    all_goals (cases h; done)
theorem kind_of {y pc : Nat} {i : Instr} {ls st : List Value} {σ : Hp} {o : (Nat × List Value × List Value × Hp)} (h : stpI y pc i ls st σ = some (.inl o)) : isPl i = true ∨ isAr i = true ∨ isHp i = true ∨ isIv i = true := by
  cases i <;> first | (cases h; done) | exact Or.inl rfl | exact Or.inr (Or.inl rfl) | exact Or.inr (Or.inr (Or.inl rfl)) | exact Or.inr (Or.inr (Or.inr rfl)) | skip
  all_goals
    exfalso
    simp only [stpI] at h
    repeat' split at h
    all_goals cases h
set_option maxHeartbeats 4000000 in
theorem snd_all (l : Launch) (D : va_G) (cA : Nat → ClassId) (lo : Nat) : ∀ n, Snd l D cA lo n := by
  intro n
  induction n with
  | zero =>
    intro y pc ls st σ v σ1 h
    cases h
  | succ n ih =>
    intro y pc ls st σ v σ1 h p e R s m args below meth c H locs cells slots Q sl c0 s0 C hN hR hS hl hcap hc0 hcs kk
    unfold exec at h
    cases hs : stp y pc ls st σ with
    | none => rw [hs] at h; cases h
    | some o =>
      rw [hs] at h
      unfold stp at hs
      split at hs
      · rename_i i hi
        rcases o with ⟨pc', ls', st', σ'⟩ | ⟨z, as, r⟩ | v'
        · have hle := exec_le n h
          have hcap' : Lft σ' c0 s0 R := ⟨by have := hcap.1; have := hle.1; omega, by have := hcap.2; have := hle.2; omega⟩
          have hle0 := stpI_le hs
          rcases kind_of hs with hk | hk | hk | hk
          · refine stp_plain C hi hs hl hk (fun e1 sl1 hl1 => ?_)
            subst e1
            exact ih y pc' ls' st' _ v σ1 h p e R s m args below meth c H locs cells slots Q sl1 c0 s0 C hN hR hS hl1 hcap hc0 hcs kk
          · refine stp_arith C hi hs hk (fun e1 e2 => ?_)
            subst e1
            subst e2
            exact ih y pc' _ st' _ v σ1 h p e R s m args below meth c H locs cells slots Q sl c0 s0 C hN hR hS hl hcap hc0 hcs kk
          · refine stp_heap C hi hs hk hR hS hcap' hc0 hcs (fun e2 H1 locs1 cells1 slots1 hR1 hS1 g1 g2 => ?_)
            subst e2
            exact ih y pc' _ st' _ v σ1 h p e R s m args below meth c H1 locs1 cells1 slots1 Q sl c0 s0 C hN hR1 hS1 hl hcap ⟨Nat.le_trans hc0.1 hle0.1, Nat.le_trans hc0.2 hle0.2⟩ ⟨g1, g2⟩ kk
          · refine stp_nat C hi hs hk hl.1.1 hR hS ⟨by have := hcap'.1; have := hle0.1; omega, by have := hcap'.2; have := hle0.2; omega⟩ (fun e1 e2 H1 locs1 hR1 hS1 => ?_)
            subst e2
            exact ih y pc' _ st' _ v σ1 h p e R s m args below meth c H1 locs1 cells slots Q sl c0 s0 C hN hR1 hS1 hl hcap (by rw [e1]; exact hc0) (by rw [e1]; exact hcs) kk
        · dsimp only at h
          cases hz : exec n z 0 (entL as (mL z)) [] σ with
          | none => rw [hz] at h; cases h
          | some w =>
            obtain ⟨v2, σ2⟩ := w
            rw [hz] at h
            dsimp only at h
            have hle := exec_le n h
            have hle2 := exec_le n hz
            refine stp_call (mc := σ2.2.1 - σ.2.1) (ms := σ2.2.2 - σ.2.2) (σ1 := σ2) (v := v2) C hN hi hs hl.1.1 hR hS (fun hlen => met_of ih hz hlen) ⟨?_, ?_⟩ (fun H1 locs1 hR1 hS1 => ?_)
            · have := hcap.1; have := hle.1; have := hle2.1; omega
            · have := hcap.2; have := hle.2; have := hle2.2; omega
            · exact ih y (pc + 3) ls _ σ2 v σ1 h p e R s m args below meth c H1 locs1 _ _ Q sl c0 s0 C hN hR1 hS1 hl hcap ⟨Nat.le_trans hc0.1 hle2.1, Nat.le_trans hc0.2 hle2.2⟩ ⟨by have := hle2.1; omega, by have := hle2.2; omega⟩ kk
        · cases h
          obtain ⟨h1, h2⟩ := stpI_ret hi hs
          rw [h2, hcs.1, hcs.2]
          exact kk pc sl H locs hR hS h1
      · cases hs
end
section
-- ===== end of PART A; then your names; then what follows =====
/-! THE CLAIM OUT OF ONE WALK OF THE LAW'S BODY. Your part is whole_start (and what it stands on); all else here is the same for every law, but numbers. -/
def R_law : String := "HeavyGuestsLaw"
def lw_P (b : Addr) (xs : List Int32) (args : Array Value) (s : State) : Prop := args = #[.ref b] ∧ s.IntsAt b xs ∧ xs.length ≤ 2048 ∧ (Jvm.Cond.and given_1 narrow_1).before args s = true
def lw_Q (_ : Array Value) (s : State) (o : Outcome) (t : State) : Prop := o = .returned (some (.int 1)) ∧ Framed s o t [] 600000 7302250
def lw_Z (below : List Frame) (a : Array Value) (s : State) : State → Prop := fun t => ∃ o, t.status = .running ∧ Ended t below o ∧ lw_Q a s o t
/-- the law's own end, with 1 on the stack, nothing written that was there before, its room as the claim has it -/
theorem lw_ret {p : Program} {l : Launch} {e : Env} {s : State} {m : MethodId} {below : List Frame} {meth : Method} {c : Code} {b : Nat} (hx : p.tables.exec = Jvm.exec) (hb : c.code = code) (hr : meth.sig.returnType = ret) (hlocks : meth.locks = false) {pc : Nat} {H : Heap} {ls : Array Slot} (hdg : decode code pc = .ok (.ireturn, 1)) : W p l e room_1 s m #[Value.ref b] below meth c H [] 600000 7302250 (lw_Z below #[Value.ref b] s) (F0 m pc ls [.int 1]) := by
  intro T hT X
  obtain ⟨fs, hret, hrun, hended, hW, hframe⟩ := X.leave (v := some (.int 1)) (hlocks := hlocks) (fun h => by rw [hr] at h; cases h)
  have hmeth' : T.vm.method? m = some meth := X.method'
  refine ⟨T.setFrames fs, ?_, .returned (some (.int 1)), hrun, hended, rfl, ⟨_, rfl⟩, hW, hframe⟩
  jvm_step X.here [X.here.top, hx, hb, hdg, hmeth', hr, ret, narrow_b1]
  (try refine ⟨rfl, ?_⟩); (try refine ⟨rfl, ?_⟩)
  first | (intro acts; rw [hret _ acts rfl rfl rfl]) | rw [hret _ _ rfl rfl rfl]
  exact Steps.refl _
/-- what holds at the law's entry: the machine, the code, the tables' words (any of lw_tbl by 'hts w (by decide +kernel)'), the script of L ints xs at the cell b, what the Statement gives of the start (any of its parts by flat_of_before) -/
def lw_At (p : Program) (s : State) (m : MethodId) (meth : Method) (c : Code) (b L : Nat) (xs : Nat → Int32) : Prop :=
  p.tables.exec = Jvm.exec ∧ c.code = code ∧ meth.sig.returnType = ret ∧ c.maxLocals = 4 ∧ s.vm.findClass R_law = some m.cls ∧ (∀ w ∈ lw_tbl, w.before #[Value.ref b] s = true) ∧ va_X b L xs s s.heap ∧ b < s.heap.size ∧ meth.locks = false ∧ (Jvm.Cond.and given_1 narrow_1).before #[Value.ref b] s = true ∧ meth.name = x.name
theorem inst_0 : (Cond.instantiable RX0 2) ∈ lw_tbl := List.mem_of_getElem? (i := 159) (by decide +kernel)
theorem inst_1 : (Cond.instantiable RX1 6) ∈ lw_tbl := List.mem_of_getElem? (i := 207) (by decide +kernel)
theorem inst_2 : (Cond.instantiable RX2 2) ∈ lw_tbl := List.mem_of_getElem? (i := 193) (by decide +kernel)
theorem inst_3 : (Cond.instantiable RX3 5) ∈ lw_tbl := List.mem_of_getElem? (i := 88) (by decide +kernel)
theorem inst_4 : (Cond.instantiable RX4 2) ∈ lw_tbl := List.mem_of_getElem? (i := 177) (by decide +kernel)
theorem inst_5 : (Cond.instantiable RX5 2) ∈ lw_tbl := List.mem_of_getElem? (i := 76) (by decide +kernel)
theorem inst_6 : (Cond.instantiable RX6 4) ∈ lw_tbl := List.mem_of_getElem? (i := 82) (by decide +kernel)
theorem inst_7 : (Cond.instantiable RX7 3) ∈ lw_tbl := List.mem_of_getElem? (i := 114) (by decide +kernel)
theorem inst_8 : (Cond.instantiable RX8 6) ∈ lw_tbl := List.mem_of_getElem? (i := 68) (by decide +kernel)
theorem inst_9 : (Cond.instantiable RX9 14) ∈ lw_tbl := List.mem_of_getElem? (i := 689) (by decide +kernel)
theorem known_all {args : Array Value} {s : State} (hts : ∀ w ∈ lw_tbl, w.before args s = true) : ∃ (D : va_G), ∀ (k : Nat) (q : vw_C), vcl[k]? = some q → u_Kn s q.1 q.2.1 q.2.2 (D.1 k) (D.2 k) := by
  obtain ⟨c0, i0, h0⟩ := u_known (C := RX0) (T := TX0) (N := 2) (n := 2) hts (fun w hw => (List.mem_filter.mp (cin_0 w hw)).1) (hts _ inst_0)
  obtain ⟨c1, i1, h1⟩ := u_known (C := RX1) (T := TX1) (N := 6) (n := 6) hts (fun w hw => (List.mem_filter.mp (cin_1 w hw)).1) (hts _ inst_1)
  obtain ⟨c2, i2, h2⟩ := u_known (C := RX2) (T := TX2) (N := 2) (n := 2) hts (fun w hw => (List.mem_filter.mp (cin_2 w hw)).1) (hts _ inst_2)
  obtain ⟨c3, i3, h3⟩ := u_known (C := RX3) (T := TX3) (N := 5) (n := 5) hts (fun w hw => (List.mem_filter.mp (cin_3 w hw)).1) (hts _ inst_3)
  obtain ⟨c4, i4, h4⟩ := u_known (C := RX4) (T := TX4) (N := 2) (n := 2) hts (fun w hw => (List.mem_filter.mp (cin_4 w hw)).1) (hts _ inst_4)
  obtain ⟨c5, i5, h5⟩ := u_known (C := RX5) (T := TX5) (N := 2) (n := 2) hts (fun w hw => (List.mem_filter.mp (cin_5 w hw)).1) (hts _ inst_5)
  obtain ⟨c6, i6, h6⟩ := u_known (C := RX6) (T := TX6) (N := 4) (n := 4) hts (fun w hw => (List.mem_filter.mp (cin_6 w hw)).1) (hts _ inst_6)
  obtain ⟨c7, i7, h7⟩ := u_known (C := RX7) (T := TX7) (N := 3) (n := 3) hts (fun w hw => (List.mem_filter.mp (cin_7 w hw)).1) (hts _ inst_7)
  obtain ⟨c8, i8, h8⟩ := u_known (C := RX8) (T := TX8) (N := 6) (n := 6) hts (fun w hw => (List.mem_filter.mp (cin_8 w hw)).1) (hts _ inst_8)
  obtain ⟨c9, i9, h9⟩ := u_known (C := RX9) (T := TX9) (N := 14) (n := 14) hts (fun w hw => (List.mem_filter.mp (cin_9 w hw)).1) (hts _ inst_9)
  refine ⟨(fun k => match k with
    | 0 => c0
    | 1 => c1
    | 2 => c2
    | 3 => c3
    | 4 => c4
    | 5 => c5
    | 6 => c6
    | 7 => c7
    | 8 => c8
    | 9 => c9
    | _ => c0, fun k => match k with
    | 0 => i0
    | 1 => i1
    | 2 => i2
    | 3 => i3
    | 4 => i4
    | 5 => i5
    | 6 => i6
    | 7 => i7
    | 8 => i8
    | 9 => i9
    | _ => i0), ?_⟩
  intro k q hq
  match k, hq with
  | 0, hq => cases hq; exact h0
  | 1, hq => cases hq; exact h1
  | 2, hq => cases hq; exact h2
  | 3, hq => cases hq; exact h3
  | 4, hq => cases hq; exact h4
  | 5, hq => cases hq; exact h5
  | 6, hq => cases hq; exact h6
  | 7, hq => cases hq; exact h7
  | 8, hq => cases hq; exact h8
  | 9, hq => cases hq; exact h9
  | k + 10, hq => simp [vcl] at hq
theorem known_arr {args : Array Value} {s : State} (hts : ∀ w ∈ lw_tbl, w.before args s = true) : ∃ (cA : Nat → ClassId), ∀ (k : Nat) (q : ClassId × FieldType), (tysL cA)[k]? = some q → ArrOfT s q.1 q.2 ∧ va_RA s q.1 q.2 := by
  obtain ⟨c0, k0, m0, a1, a2, a3⟩ := Cond.arrayClass_spec (hts _ arrI_in)
  obtain ⟨c1, k1, m1, b1, b2, b3⟩ := Cond.arrayClass_spec (hts _ arrZ_in)
  obtain ⟨m2, c2, k2, d1, -, d2, d3, d4⟩ := Cond.arrayOver_spec (hts _ arrS_in)
  obtain ⟨m3, c3, k3, e1, -, e2, e3, e4⟩ := Cond.arrayOver_spec (hts _ arrL_in)
  refine ⟨fun k => match k with
    | 0 => c0
    | 1 => c1
    | 2 => c2
    | _ => c3, ?_⟩
  intro k q hq
  match k, hq with
  | 0, hq => cases hq; exact ⟨fun N z => ⟨(fun k h => by cases h), k0, a2, m0, a3⟩, a1⟩
  | 1, hq => cases hq; exact ⟨fun N z => ⟨(fun k h => by cases h), k1, b2, m1, b3⟩, b1⟩
  | 2, hq => cases hq; exact ⟨fun N z => ⟨(fun k h => by cases h), k2, d2, m2, d3⟩, k2, m2, d2, d3, d1, d4⟩
  | 3, hq => cases hq; exact ⟨fun N z => ⟨(fun k h => by cases h), k3, e2, m3, e3⟩, k3, m3, e2, e3, e1, e4⟩
  | k + 4, hq => simp [tysL] at hq
def lawH (N0 b L : Nat) (xs : Nat → Int32) : Hp := (fun q => if q = b then some (.inr (.inr (.inr (L, xs)))) else none, (N0, 0))
def lawX (N0 b L : Nat) (xs : Nat → Int32) : Prop := X 171 0 (entL [.ref b] 4) [] (lawH N0 b L xs) (fun v σ1 => v = some (.int 1) ∧ σ1.2.1 ≤ N0 + 600000 ∧ σ1.2.2 ≤ 7302250)
set_option maxHeartbeats 4000000 in
theorem law_bridge {p : Program} {e : Env} {s : State} {m : MethodId} {below : List Frame} {meth : Method} {c : Code} (l : Launch) {b L : Nat} {xs : Nat → Int32} (C0 : lw_At p s m meth c b L xs) (hX : lawX s.heap.size b L xs) : W p l e room_1 s m #[Value.ref b] below meth c s.heap [] 0 0 (lw_Z below #[Value.ref b] s) (entryFrame m ([Value.ref b] : List Value).toArray 4) := by
  obtain ⟨hx, hb, hr, hml, hown, hts, hXs, hbl, hlocks, hgv, hn0⟩ := id C0
  have hn : meth.name = (mN 171).name := hn0
  obtain ⟨D, hD⟩ := known_all hts
  obtain ⟨cA, hA⟩ := known_arr hts
  obtain ⟨n, v, σ1, hex, rfl, h1, h2⟩ := hX
  rw [lg_entry_eq]
  have hc : mC 171 = code := rfl
  have hm : mL 171 = 4 := rfl
  refine snd_all l D cA s.heap.size n 171 0 _ _ _ _ σ1 hex p e room_1 s m _ below meth c s.heap [] 0 0 _ _ s.heap.size 0 ⟨hx, hb.trans hc.symm, hml.trans hm.symm, hown, fun w hw _ => hts w hw, ⟨hD, hA⟩, hn, Nat.le_refl _, by decide +kernel, by decide +kernel⟩ (fun w hw hnw => nw_of hnw (hts w hw)) ⟨?_, rfl⟩ va_S.rf (LR.entry [.ref b] (n := 4) (by show 1 ≤ 4; decide)) ⟨?_, ?_⟩ ⟨Nat.le_refl _, Nat.le_refl _⟩ ⟨(Nat.sub_self _).symm, rfl⟩ ?_
  · intro a x ha
    by_cases hab : a = b
    · subst hab
      have : some (Sum.inr (Sum.inr (Sum.inr (L, xs)))) = some x := by simpa [lawH] using ha
      cases this
      exact ⟨hbl, hXs⟩
    · simp [lawH, hab] at ha
  · show σ1.2.1 - s.heap.size ≤ 600000
    omega
  · show σ1.2.2 - 0 ≤ 7302250
    omega
  · intro pc' sl' H' locs' hR' hS' hrt
    refine va_forget (fun q hq => hS'.2.2 q hq) ?_
    refine W.widen (k := 600000) (n := 7302250) (by omega) (by omega) ?_
    have hdg : decode (mC 171) pc' = .ok (.ireturn, 1) := ins_dec1 hrt.1 rfl
    rw [hc] at hdg
    exact lw_ret hx hb hr hlocks hdg
end
section
/-! one row an instruction, for any method -/
section XROW
variable {y pc tgt : Nat} {ls st r : List Value} {σ : Hp} {K : Option Value → Hp → Prop}
theorem stp_eq {i : Instr} (h : ins y pc = some i) : stp y pc ls st σ = stpI y pc i ls st σ := by unfold stp; rw [h]
theorem X_iconst {n : Int} {v : Int32} (h : ins y pc = some (.iconst n)) (hv : Int32.ofInt n = v) : X y pc ls st σ K = X y (pc + 1) ls (.int v :: st) σ K := by subst hv; exact X_step ((stp_eq h).trans rfl)
theorem X_bipush {n : Int} {v : Int32} (h : ins y pc = some (.bipush n)) (hv : (Int8.ofInt n).toInt32 = v) : X y pc ls st σ K = X y (pc + 2) ls (.int v :: st) σ K := by subst hv; exact X_step ((stp_eq h).trans rfl)
theorem X_sipush {n : Int} {v : Int32} (h : ins y pc = some (.sipush n)) (hv : (Int16.ofInt n).toInt32 = v) : X y pc ls st σ K = X y (pc + 3) ls (.int v :: st) σ K := by subst hv; exact X_step ((stp_eq h).trans rfl)
theorem X_lconst {n : Fin 2} {v : Int64} (h : ins y pc = some (.lconst n)) (hv : Int64.ofNat (n : Nat) = v) : X y pc ls st σ K = X y (pc + 1) ls (.long v :: st) σ K := by subst hv; exact X_step ((stp_eq h).trans rfl)
theorem X_ldc {idx a b : Nat} {w : Int} {v : Int32} (h : ins y pc = some (.ldc idx)) (hl : lk (mO y) idx = some (14, a, b, w)) (hv : Int32.ofInt w = v) : X y pc ls st σ K = X y (pc + 2) ls (.int v :: st) σ K := by
  subst hv
  refine X_step ((stp_eq h).trans ?_)
  simp only [stpI, hl]
  rfl
theorem X_ldc2 {idx a b : Nat} {w : Int} {v : Int64} (h : ins y pc = some (.ldc2_w idx)) (hl : lk (mO y) idx = some (15, a, b, w)) (hv : Int64.ofInt w = v) : X y pc ls st σ K = X y (pc + 3) ls (.long v :: st) σ K := by
  subst hv
  refine X_step ((stp_eq h).trans ?_)
  simp only [stpI, hl]
  rfl
theorem ldI_of {pc' k : Nat} {x : Int32} (h : ls.getD k .null = .int x) : ldI pc' k ls st σ = some (.inl (pc', ls, .int x :: st, σ)) := by unfold ldI; rw [h]; rfl
theorem ldL_of {pc' k : Nat} {x : Int64} (h : ls.getD k .null = .long x) : ldL pc' k ls st σ = some (.inl (pc', ls, .long x :: st, σ)) := by unfold ldL; rw [h]; rfl
theorem ldA_of {pc' k : Nat} {x : Nat} (h : ls.getD k .null = .ref x) : ldA pc' k ls st σ = some (.inl (pc', ls, .ref x :: st, σ)) := by unfold ldA; rw [h]; rfl
theorem X_iload_n {k : Fin 4} {x : Int32} (h : ins y pc = some (.iload_n k)) (hg : ls.getD k .null = .int x) : X y pc ls st σ K = X y (pc + 1) ls (.int x :: st) σ K := X_step ((stp_eq h).trans (ldI_of hg))
theorem X_iload {k : Nat} {x : Int32} (h : ins y pc = some (.iload k)) (hg : ls.getD k .null = .int x) : X y pc ls st σ K = X y (pc + 2) ls (.int x :: st) σ K := X_step ((stp_eq h).trans (ldI_of hg))
theorem X_lload_n {k : Fin 4} {x : Int64} (h : ins y pc = some (.lload_n k)) (hg : ls.getD k .null = .long x) : X y pc ls st σ K = X y (pc + 1) ls (.long x :: st) σ K := X_step ((stp_eq h).trans (ldL_of hg))
theorem X_lload {k : Nat} {x : Int64} (h : ins y pc = some (.lload k)) (hg : ls.getD k .null = .long x) : X y pc ls st σ K = X y (pc + 2) ls (.long x :: st) σ K := X_step ((stp_eq h).trans (ldL_of hg))
theorem X_aload_n {k : Fin 4} {x : Nat} (h : ins y pc = some (.aload_n k)) (hg : ls.getD k .null = .ref x) : X y pc ls st σ K = X y (pc + 1) ls (.ref x :: st) σ K := X_step ((stp_eq h).trans (ldA_of hg))
theorem X_aload {k : Nat} {x : Nat} (h : ins y pc = some (.aload k)) (hg : ls.getD k .null = .ref x) : X y pc ls st σ K = X y (pc + 2) ls (.ref x :: st) σ K := X_step ((stp_eq h).trans (ldA_of hg))
theorem sto1_of {pc' k : Nat} {v w : Value} (hk : k < ls.length) (hg : ls.getD k .null = w) (hw : isD w = false) : sto1 pc' k v ls r σ = some (.inl (pc', ls.set k v, r, σ)) := by
  subst hg
  unfold sto1
  rw [hw]
  simp [hk, nx]
theorem sto2_of {pc' k : Nat} {v w : Value} (hk : k + 1 < ls.length) (hg : ls.getD k .null = w) (hw : isD w = false) : sto2 pc' k v ls r σ = some (.inl (pc', (ls.set k v).set (k + 1) (.double 0), r, σ)) := by
  subst hg
  unfold sto2
  rw [hw]
  simp [hk, nx]
theorem X_istore_n {k : Fin 4} {x : Int32} {w : Value} (h : ins y pc = some (.istore_n k)) (hk : k < ls.length) (hg : ls.getD k .null = w) (hw : isD w = false) : X y pc ls (.int x :: r) σ K = X y (pc + 1) (ls.set k (.int x)) r σ K := X_step ((stp_eq h).trans (sto1_of hk hg hw))
theorem X_istore {k : Nat} {x : Int32} {w : Value} (h : ins y pc = some (.istore k)) (hk : k < ls.length) (hg : ls.getD k .null = w) (hw : isD w = false) : X y pc ls (.int x :: r) σ K = X y (pc + 2) (ls.set k (.int x)) r σ K := X_step ((stp_eq h).trans (sto1_of hk hg hw))
theorem X_astore_n {k : Fin 4} {x : Nat} {w : Value} (h : ins y pc = some (.astore_n k)) (hk : k < ls.length) (hg : ls.getD k .null = w) (hw : isD w = false) : X y pc ls (.ref x :: r) σ K = X y (pc + 1) (ls.set k (.ref x)) r σ K := X_step ((stp_eq h).trans (sto1_of hk hg hw))
theorem X_astore {k : Nat} {x : Nat} {w : Value} (h : ins y pc = some (.astore k)) (hk : k < ls.length) (hg : ls.getD k .null = w) (hw : isD w = false) : X y pc ls (.ref x :: r) σ K = X y (pc + 2) (ls.set k (.ref x)) r σ K := X_step ((stp_eq h).trans (sto1_of hk hg hw))
theorem X_lstore_n {k : Fin 4} {x : Int64} {w : Value} (h : ins y pc = some (.lstore_n k)) (hk : k + 1 < ls.length) (hg : ls.getD k .null = w) (hw : isD w = false) : X y pc ls (.long x :: r) σ K = X y (pc + 1) ((ls.set k (.long x)).set (k + 1) (.double 0)) r σ K := X_step ((stp_eq h).trans (sto2_of hk hg hw))
theorem X_lstore {k : Nat} {x : Int64} {w : Value} (h : ins y pc = some (.lstore k)) (hk : k + 1 < ls.length) (hg : ls.getD k .null = w) (hw : isD w = false) : X y pc ls (.long x :: r) σ K = X y (pc + 2) ((ls.set k (.long x)).set (k + 1) (.double 0)) r σ K := X_step ((stp_eq h).trans (sto2_of hk hg hw))
theorem X_iinc {k : Nat} {n : Int} {x : Int32} {d : Int32} (h : ins y pc = some (.iinc k n)) (hd : Int32.ofInt n = d) (hg : ls.getD k .null = .int x) : X y pc ls st σ K = X y (pc + 3) (ls.set k (.int (x + d))) st σ K := by
  subst hd
  refine X_step ((stp_eq h).trans ?_)
  simp only [stpI]
  rw [hg]
  rfl
theorem X_iadd {a b : Int32} (h : ins y pc = some .iadd) : X y pc ls (.int b :: .int a :: r) σ K = X y (pc + 1) ls (.int (a + b) :: r) σ K := X_step ((stp_eq h).trans rfl)
theorem X_isub {a b : Int32} (h : ins y pc = some .isub) : X y pc ls (.int b :: .int a :: r) σ K = X y (pc + 1) ls (.int (a - b) :: r) σ K := X_step ((stp_eq h).trans rfl)
theorem X_imul {a b : Int32} (h : ins y pc = some .imul) : X y pc ls (.int b :: .int a :: r) σ K = X y (pc + 1) ls (.int (a * b) :: r) σ K := X_step ((stp_eq h).trans rfl)
theorem X_iand {a b : Int32} (h : ins y pc = some .iand) : X y pc ls (.int b :: .int a :: r) σ K = X y (pc + 1) ls (.int (a &&& b) :: r) σ K := X_step ((stp_eq h).trans rfl)
theorem X_idiv {a b : Int32} (h : ins y pc = some .idiv) (hb : ¬ b = 0) : X y pc ls (.int b :: .int a :: r) σ K = X y (pc + 1) ls (.int (a / b) :: r) σ K := X_step ((stp_eq h).trans (by simp only [stpI]; rw [if_neg hb]; rfl))
theorem X_irem {a b : Int32} (h : ins y pc = some .irem) (hb : ¬ b = 0) : X y pc ls (.int b :: .int a :: r) σ K = X y (pc + 1) ls (.int (a - a / b * b) :: r) σ K := X_step ((stp_eq h).trans (by simp only [stpI]; rw [if_neg hb]; rfl))
theorem X_land {a b : Int64} (h : ins y pc = some .land) : X y pc ls (.long b :: .long a :: r) σ K = X y (pc + 1) ls (.long (a &&& b) :: r) σ K := X_step ((stp_eq h).trans rfl)
theorem X_lor {a b : Int64} (h : ins y pc = some .lor) : X y pc ls (.long b :: .long a :: r) σ K = X y (pc + 1) ls (.long (a ||| b) :: r) σ K := X_step ((stp_eq h).trans rfl)
theorem X_lshl {a : Int64} {b : Int32} (h : ins y pc = some .lshl) : X y pc ls (.int b :: .long a :: r) σ K = X y (pc + 1) ls (.long (a <<< (b.toInt64 &&& 63)) :: r) σ K := X_step ((stp_eq h).trans rfl)
theorem X_lushr {a : Int64} {b : Int32} (h : ins y pc = some .lushr) : X y pc ls (.int b :: .long a :: r) σ K = X y (pc + 1) ls (.long (a.toUInt64 >>> (b.toInt64.toUInt64 &&& Int64.toUInt64 63)).toInt64 :: r) σ K := X_step ((stp_eq h).trans rfl)
theorem X_i2l {a : Int32} (h : ins y pc = some .i2l) : X y pc ls (.int a :: r) σ K = X y (pc + 1) ls (.long a.toInt64 :: r) σ K := X_step ((stp_eq h).trans rfl)
theorem X_l2i {a : Int64} (h : ins y pc = some .l2i) : X y pc ls (.long a :: r) σ K = X y (pc + 1) ls (.int a.toInt32 :: r) σ K := X_step ((stp_eq h).trans rfl)
theorem X_lcmp {a b : Int64} (h : ins y pc = some .lcmp) : X y pc ls (.long b :: .long a :: r) σ K = X y (pc + 1) ls (.int (lg_cmp a b) :: r) σ K := X_step ((stp_eq h).trans rfl)
theorem X_dupI {x : Int32} (h : ins y pc = some .dup) : X y pc ls (.int x :: r) σ K = X y (pc + 1) ls (.int x :: .int x :: r) σ K := X_step ((stp_eq h).trans rfl)
theorem X_dupA {x : Nat} (h : ins y pc = some .dup) : X y pc ls (.ref x :: r) σ K = X y (pc + 1) ls (.ref x :: .ref x :: r) σ K := X_step ((stp_eq h).trans rfl)
theorem X_dup2 {x : Int32} {a : Nat} (h : ins y pc = some .dup2) : X y pc ls (.int x :: .ref a :: r) σ K = X y (pc + 1) ls (.int x :: .ref a :: .int x :: .ref a :: r) σ K := X_step ((stp_eq h).trans rfl)
theorem X_pop {x : Int32} (h : ins y pc = some .pop) : X y pc ls (.int x :: r) σ K = X y (pc + 1) ls r σ K := X_step ((stp_eq h).trans rfl)
theorem jmp_of {off : Int} (ht : (pc : Int) + off = (tgt : Int)) : jmp pc off ls st σ = some (.inl (tgt, ls, st, σ)) := by
  unfold jmp
  rw [ht, if_pos (by omega)]
  rfl
theorem X_goto {off : Int} (h : ins y pc = some (.goto off)) (ht : (pc : Int) + off = (tgt : Int)) : X y pc ls st σ K = X y tgt ls st σ K := X_step ((stp_eq h).trans (jmp_of ht))
theorem X_if {k : ClassFile.Cond} {off : Int} {x : Int32} (h : ins y pc = some (.ifCond k off)) (ht : (pc : Int) + off = (tgt : Int)) : X y pc ls (.int x :: r) σ K = if cnd k x 0 = true then X y tgt ls r σ K else X y (pc + 3) ls r σ K := by
  by_cases hc : cnd k x 0 = true
  · rw [if_pos hc]
    refine X_step ((stp_eq h).trans ?_)
    simp only [stpI]
    rw [ht, if_pos (by omega), if_pos hc]
    rfl
  · rw [if_neg hc]
    refine X_step ((stp_eq h).trans ?_)
    simp only [stpI]
    rw [ht, if_pos (by omega), if_neg hc]
    rfl
theorem X_ic {k : ClassFile.Cond} {off : Int} {a b : Int32} (h : ins y pc = some (.if_icmp k off)) (ht : (pc : Int) + off = (tgt : Int)) : X y pc ls (.int b :: .int a :: r) σ K = if cnd k a b = true then X y tgt ls r σ K else X y (pc + 3) ls r σ K := by
  by_cases hc : cnd k a b = true
  · rw [if_pos hc]
    refine X_step ((stp_eq h).trans ?_)
    simp only [stpI]
    rw [ht, if_pos (by omega), if_pos hc]
    rfl
  · rw [if_neg hc]
    refine X_step ((stp_eq h).trans ?_)
    simp only [stpI]
    rw [ht, if_pos (by omega), if_neg hc]
    rfl
theorem ite_c {α : Sort _} {p q : Prop} {_ : Decidable p} {_ : Decidable q} (h : p ↔ q) {a b : α} : (if p then a else b) = if q then a else b := by
  by_cases hp : p
  · rw [if_pos hp, if_pos (h.mp hp)]
  · rw [if_neg hp, if_neg (fun z => hp (h.mpr z))]
theorem ite_n {α : Sort _} {p q : Prop} {_ : Decidable p} {_ : Decidable q} (h : p ↔ ¬ q) {a b : α} : (if p then a else b) = if q then b else a := by
  by_cases hq : q
  · rw [if_neg (fun z => h.mp z hq), if_pos hq]
  · rw [if_pos (h.mpr hq), if_neg hq]
theorem X_if_eq {off : Int} {x : Int32} (h : ins y pc = some (.ifCond .eq off)) (ht : (pc : Int) + off = (tgt : Int)) : X y pc ls (.int x :: r) σ K = if x = 0 then X y tgt ls r σ K else X y (pc + 3) ls r σ K := (X_if h ht).trans (ite_c (by simp [cnd]))
theorem X_if_ne {off : Int} {x : Int32} (h : ins y pc = some (.ifCond .ne off)) (ht : (pc : Int) + off = (tgt : Int)) : X y pc ls (.int x :: r) σ K = if x = 0 then X y (pc + 3) ls r σ K else X y tgt ls r σ K := (X_if h ht).trans (ite_n (by simp [cnd]))
theorem X_if_lt {off : Int} {x : Int32} (h : ins y pc = some (.ifCond .lt off)) (ht : (pc : Int) + off = (tgt : Int)) : X y pc ls (.int x :: r) σ K = if x < 0 then X y tgt ls r σ K else X y (pc + 3) ls r σ K := (X_if h ht).trans (ite_c (by simp [cnd]))
theorem X_if_ge {off : Int} {x : Int32} (h : ins y pc = some (.ifCond .ge off)) (ht : (pc : Int) + off = (tgt : Int)) : X y pc ls (.int x :: r) σ K = if x < 0 then X y (pc + 3) ls r σ K else X y tgt ls r σ K := (X_if h ht).trans (ite_n (by simp [cnd, Int32.not_lt]))
theorem X_if_gt {off : Int} {x : Int32} (h : ins y pc = some (.ifCond .gt off)) (ht : (pc : Int) + off = (tgt : Int)) : X y pc ls (.int x :: r) σ K = if 0 < x then X y tgt ls r σ K else X y (pc + 3) ls r σ K := (X_if h ht).trans (ite_c (by simp [cnd]))
theorem X_if_le {off : Int} {x : Int32} (h : ins y pc = some (.ifCond .le off)) (ht : (pc : Int) + off = (tgt : Int)) : X y pc ls (.int x :: r) σ K = if 0 < x then X y (pc + 3) ls r σ K else X y tgt ls r σ K := (X_if h ht).trans (ite_n (by simp [cnd, Int32.not_lt]))
theorem X_ic_eq {off : Int} {a b : Int32} (h : ins y pc = some (.if_icmp .eq off)) (ht : (pc : Int) + off = (tgt : Int)) : X y pc ls (.int b :: .int a :: r) σ K = if a = b then X y tgt ls r σ K else X y (pc + 3) ls r σ K := (X_ic h ht).trans (ite_c (by simp [cnd]))
theorem X_ic_ne {off : Int} {a b : Int32} (h : ins y pc = some (.if_icmp .ne off)) (ht : (pc : Int) + off = (tgt : Int)) : X y pc ls (.int b :: .int a :: r) σ K = if a = b then X y (pc + 3) ls r σ K else X y tgt ls r σ K := (X_ic h ht).trans (ite_n (by simp [cnd]))
theorem X_ic_lt {off : Int} {a b : Int32} (h : ins y pc = some (.if_icmp .lt off)) (ht : (pc : Int) + off = (tgt : Int)) : X y pc ls (.int b :: .int a :: r) σ K = if a < b then X y tgt ls r σ K else X y (pc + 3) ls r σ K := (X_ic h ht).trans (ite_c (by simp [cnd]))
theorem X_ic_ge {off : Int} {a b : Int32} (h : ins y pc = some (.if_icmp .ge off)) (ht : (pc : Int) + off = (tgt : Int)) : X y pc ls (.int b :: .int a :: r) σ K = if a < b then X y (pc + 3) ls r σ K else X y tgt ls r σ K := (X_ic h ht).trans (ite_n (by simp [cnd, Int32.not_lt]))
theorem X_ic_gt {off : Int} {a b : Int32} (h : ins y pc = some (.if_icmp .gt off)) (ht : (pc : Int) + off = (tgt : Int)) : X y pc ls (.int b :: .int a :: r) σ K = if b < a then X y tgt ls r σ K else X y (pc + 3) ls r σ K := (X_ic h ht).trans (ite_c (by simp [cnd]))
theorem X_ic_le {off : Int} {a b : Int32} (h : ins y pc = some (.if_icmp .le off)) (ht : (pc : Int) + off = (tgt : Int)) : X y pc ls (.int b :: .int a :: r) σ K = if b < a then X y (pc + 3) ls r σ K else X y tgt ls r σ K := (X_ic h ht).trans (ite_n (by simp [cnd, Int32.not_lt]))
theorem X_ts {d lo hi o : Int} {offs : Array Int} {x : Int32} (h : ins y pc = some (.tableswitch d lo hi offs)) (hs : swo d lo hi offs x.toInt = some o) (ht : (pc : Int) + o = (tgt : Int)) : X y pc ls (.int x :: r) σ K = X y tgt ls r σ K := by
  refine X_step ((stp_eq h).trans ?_)
  simp only [stpI]
  rw [hs]
  exact jmp_of ht
theorem X_lsw {d o : Int} {ps : Array (Int × Int)} {x : Int32} (h : ins y pc = some (.lookupswitch d ps)) (hp : (ps.toList.zip (ps.toList.drop 1)).all (fun (a, next) => a.1 < next.1) = true) (hs : Op.lookupswitch.offset ps.toList d x.toInt = o) (ht : (pc : Int) + o = (tgt : Int)) : X y pc ls (.int x :: r) σ K = X y tgt ls r σ K := by
  subst hs
  refine X_step ((stp_eq h).trans ?_)
  simp only [stpI]
  rw [if_pos hp]
  exact jmp_of ht
theorem X_getf {idx k ci f a : Nat} {w : Int} (h : ins y pc = some (.getfield idx)) (hl : lk (mO y) idx = some (k, ci, f, w)) (hk : (Nat.beq k 10 || Nat.beq k 11) = true) (hf : f < cN ci) (ho : okF σ a ci f = true) : X y pc ls (.ref a :: r) σ K = X y (pc + 3) ls (gF σ a f :: r) σ K := by
  refine X_step ((stp_eq h).trans ?_)
  simp only [stpI, hl, hk, ho, hf]
  rfl
theorem X_putf {idx k ci f a : Nat} {w : Int} {v : Value} (h : ins y pc = some (.putfield idx)) (hl : lk (mO y) idx = some (k, ci, f, w)) (hk : (Nat.beq k 10 || Nat.beq k 11) = true) (hf : f < cN ci) (hv : okV (cY ci f) v = true) (hm : (!((cT ci f).2.2.2) || (Nat.beq k 10 && decide ((mN y).name = "<init>") && Nat.beq (mO y) ci)) = true) (ho : okF σ a ci f = true) : X y pc ls (v :: .ref a :: r) σ K = X y (pc + 3) ls r (pF σ a f v) K := by
  refine X_step ((stp_eq h).trans ?_)
  simp only [stpI, hl, hk, ho, hf, hv, hm]
  rfl
theorem X_iald {a : Nat} {j : Int32} (h : ins y pc = some .iaload) (ho : okA σ 0 a j = true) : X y pc ls (.int j :: .ref a :: r) σ K = X y (pc + 1) ls (.int (gA σ a j) :: r) σ K := X_step ((stp_eq h).trans (by simp only [stpI]; rw [if_pos ho]; rfl))
theorem X_zald {a : Nat} {j : Int32} (h : ins y pc = some .baload) (ho : okB σ 1 a j = true) : X y pc ls (.int j :: .ref a :: r) σ K = X y (pc + 1) ls (.int (gA σ a j) :: r) σ K := X_step ((stp_eq h).trans (by simp only [stpI]; rw [if_pos ho]; rfl))
theorem X_aald {a q : Nat} {j : Int32} (h : ins y pc = some .aaload) (ho : okQ σ a j = true) (hq : gQ σ a j = some q) : X y pc ls (.int j :: .ref a :: r) σ K = X y (pc + 1) ls (.ref q :: r) σ K := X_step ((stp_eq h).trans (by simp only [stpI]; rw [if_pos ho, hq]; rfl))
theorem X_iast {a : Nat} {j x : Int32} (h : ins y pc = some .iastore) (ho : okB σ 0 a j = true) : X y pc ls (.int x :: .int j :: .ref a :: r) σ K = X y (pc + 1) ls r (pA σ a j x) K := X_step ((stp_eq h).trans (by simp only [stpI]; rw [if_pos ho]; rfl))
theorem X_zast {a : Nat} {j x : Int32} (h : ins y pc = some .bastore) (ho : okB σ 1 a j = true) (hx : (x == 0 || x == 1) = true) : X y pc ls (.int x :: .int j :: .ref a :: r) σ K = X y (pc + 1) ls r (pA σ a j x) K := X_step ((stp_eq h).trans (by simp only [stpI, ho, hx]; rfl))
theorem X_aast {a v : Nat} {j : Int32} (h : ins y pc = some .aastore) (ho : okQw σ a j v = true) : X y pc ls (.ref v :: .int j :: .ref a :: r) σ K = X y (pc + 1) ls r (pQ σ a j v) K := X_step ((stp_eq h).trans (by simp only [stpI]; rw [if_pos ho]; rfl))
theorem X_alen {a : Nat} (h : ins y pc = some .arraylength) (ho : okL σ a = true) : X y pc ls (.ref a :: r) σ K = X y (pc + 1) ls (.int (gL σ a) :: r) σ K := X_step ((stp_eq h).trans (by simp only [stpI]; rw [if_pos ho]; rfl))
theorem X_new {idx ci b N : Nat} {w : Int} {vs : List Value} (h : ins y pc = some (.new idx)) (hl : lk (mO y) idx = some (12, ci, b, w)) (hc : ci < vcl.length) (hv : cV ci = vs) (hN : cN ci = N) : X y pc ls st σ K = X y (pc + 3) ls (.ref σ.2.1 :: st) (hnew σ (.inl (ci, vs)) N) K := by
  subst hv
  subst hN
  refine X_step ((stp_eq h).trans ?_)
  simp only [stpI, hl, hc]
  rfl
theorem X_newI {n : Int32} {N : Nat} (h : ins y pc = some (.newarray .int)) (hn : ¬ n < 0) (hN : n.toNatClampNeg = N) (hb : N * 4 ≤ 536870912) : X y pc ls (.int n :: r) σ K = X y (pc + 2) ls (.ref σ.2.1 :: r) (hnew σ (.inr (.inl (0, N, fun _ => 0))) N) K := by
  subst hN
  refine X_step ((stp_eq h).trans ?_)
  simp only [stpI, hn, hb]
  rfl
theorem X_newZ {n : Int32} {N : Nat} (h : ins y pc = some (.newarray .boolean)) (hn : ¬ n < 0) (hN : n.toNatClampNeg = N) (hb : N * 1 ≤ 536870912) : X y pc ls (.int n :: r) σ K = X y (pc + 2) ls (.ref σ.2.1 :: r) (hnew σ (.inr (.inl (1, N, fun _ => 0))) N) K := by
  subst hN
  refine X_step ((stp_eq h).trans ?_)
  simp only [stpI, hn, hb]
  rfl
theorem X_newQ {idx ci b t N : Nat} {w : Int} {n : Int32} (h : ins y pc = some (.anewarray idx)) (hl : lk (mO y) (idx + 100000) = some (13, ci, b, w)) (hc : (Nat.beq ci 5 || Nat.beq ci 4) = true) (ht : (if ci = 5 then 2 else 3) = t) (hn : ¬ n < 0) (hN : n.toNatClampNeg = N) (hb : N * 4 ≤ 536870912) : X y pc ls (.int n :: r) σ K = X y (pc + 3) ls (.ref σ.2.1 :: r) (hnew σ (.inr (.inr (.inl (t, N, fun _ => none)))) N) K := by
  subst hN
  subst ht
  refine X_step ((stp_eq h).trans ?_)
  simp only [stpI, hl, hc, hn, hb]
  rfl
theorem callZ_of {z : Nat} {as : List Value} (hm : mF z + 1 ≤ mF y ∧ 19 + mL z + mW z ≤ mW y) (h3 : (entL0 as).length ≤ mL z) (hr : r.length ≤ 4) : callZ y z as r = some (.inr (.inl (z, as, r))) := by
  unfold callZ rmOK
  rw [decide_eq_true hm.1, decide_eq_true hm.2, decide_eq_true h3, decide_eq_true hr]
  rfl
theorem X_invV {idx k z b n q : Nat} {w0 : Nat} {w : Int} {as en : List Value} (h : ins y pc = some (.invokevirtual idx)) (hl : lk (mO y) idx = some (k, z, w0, w)) (hk : Nat.ble k 1 = true) (hn : mA z = n) (hL : mL z = q) (hen : entL (.ref b :: as) q = en) (hla : as.length = n) (hm : mF z + 1 ≤ mF y ∧ 19 + mL z + mW z ≤ mW y) (h3 : (entL0 (.ref b :: as)).length ≤ q) (ho : okO σ b (mO z) = true) (hr : r.length ≤ 4) : X y pc ls (as.reverse ++ .ref b :: r) σ K = X z 0 en [] σ (fun v σ' => X y (pc + 3) ls (pushO v r) σ' K) := by
  rw [← hen, ← hL]
  refine X_call ((stp_eq h).trans ?_)
  have e1 : (as.reverse ++ .ref b :: r).drop (mA z) = .ref b :: r := by rw [hn, List.drop_append_of_le_length (by simp; omega)]; simp [← hla]
  have e2 : ((as.reverse ++ .ref b :: r).take (mA z)).reverse = as := by rw [hn, List.take_append_of_le_length (by simp; omega), List.take_of_length_le (by simp; omega), List.reverse_reverse]
  have e3 : decide (mA z ≤ (as.reverse ++ .ref b :: r).length) = true := by rw [hn]; simp; omega
  simp only [stpI, hl, hk, e3]
  rw [e1]
  simp only [ho, e2]
  exact callZ_of hm (by rw [hL]; exact h3) hr
theorem X_invI {idx k z b n q : Nat} {w0 : Nat} {w : Int} {as en : List Value} (h : ins y pc = some (.invokespecial idx)) (hl : lk (mO y) idx = some (k, z, w0, w)) (hk : k = 4 ∨ k = 5) (hn : mA z = n) (hni : (decide ((mN z).name = "<init>") && decide (mR z = none)) = true) (hL : mL z = q) (hen : entL (.ref b :: as) q = en) (hla : as.length = n) (hm : mF z + 1 ≤ mF y ∧ 19 + mL z + mW z ≤ mW y) (h3 : (entL0 (.ref b :: as)).length ≤ q) (hr : r.length ≤ 4) : X y pc ls (as.reverse ++ .ref b :: r) σ K = X z 0 en [] σ (fun v σ' => X y (pc + 3) ls (pushO v r) σ' K) := by
  rw [← hen, ← hL]
  refine X_call ((stp_eq h).trans ?_)
  have e1 : (as.reverse ++ .ref b :: r).drop (mA z) = .ref b :: r := by rw [hn, List.drop_append_of_le_length (by simp; omega)]; simp [← hla]
  have e2 : ((as.reverse ++ .ref b :: r).take (mA z)).reverse = as := by rw [hn, List.take_append_of_le_length (by simp; omega), List.take_of_length_le (by simp; omega), List.reverse_reverse]
  have e3 : decide (mA z ≤ (as.reverse ++ .ref b :: r).length) = true := by rw [hn]; simp; omega
  simp only [Bool.and_eq_true] at hni
  rcases hk with rfl | rfl
  · simp only [stpI, hl, e3, hni.1, hni.2]
    rw [e1]
    simp only [e2]
    exact callZ_of hm (by rw [hL]; exact h3) hr
  · simp only [stpI, hl, e3, hni.1, hni.2]
    rw [e1]
    simp only [e2]
    exact callZ_of hm (by rw [hL]; exact h3) hr
theorem X_invO {idx a w1 w2 : Nat} {w : Int} (h : ins y pc = some (.invokespecial idx)) (hl : lk (mO y) idx = some (6, w1, w2, w)) (hm : (decide (1 ≤ mF y) && decide (8 + 12 ≤ mW y)) = true) (hr : r.length ≤ 4) : X y pc ls (.ref a :: r) σ K = X y (pc + 3) ls r σ K := by
  refine X_step ((stp_eq h).trans ?_)
  simp only [stpI, hl, rm0K, hm, decide_eq_true hr]
  rfl
theorem X_invS {idx k z n q : Nat} {w0 : Nat} {w : Int} {as en : List Value} (h : ins y pc = some (.invokestatic idx)) (hl : lk (mO y) idx = some (k, z, w0, w)) (hk : k = 2 ∨ k = 3) (hn : mA z = n) (hL : mL z = q) (hen : entL as q = en) (hla : as.length = n) (hm : mF z + 1 ≤ mF y ∧ 19 + mL z + mW z ≤ mW y) (h3 : (entL0 as).length ≤ q) (hr : r.length ≤ 4) : X y pc ls (as.reverse ++ r) σ K = X z 0 en [] σ (fun v σ' => X y (pc + 3) ls (pushO v r) σ' K) := by
  rw [← hen, ← hL]
  refine X_call ((stp_eq h).trans ?_)
  have e1 : (as.reverse ++ r).drop (mA z) = r := by rw [hn, List.drop_append_of_le_length (by simp; omega)]; simp [← hla]
  have e2 : ((as.reverse ++ r).take (mA z)).reverse = as := by rw [hn, List.take_append_of_le_length (by simp; omega), List.take_of_length_le (by simp; omega), List.reverse_reverse]
  have e3 : decide (mA z ≤ (as.reverse ++ r).length) = true := by rw [hn]; simp; omega
  rcases hk with rfl | rfl
  · simp only [stpI, hl, e3]
    rw [e1, e2]
    exact callZ_of hm (by rw [hL]; exact h3) hr
  · simp only [stpI, hl, e3]
    rw [e1, e2]
    exact callZ_of hm (by rw [hL]; exact h3) hr
theorem X_max {idx w1 w2 : Nat} {w : Int} {a b : Int32} (h : ins y pc = some (.invokestatic idx)) (hl : lk (mO y) idx = some (7, w1, w2, w)) (hm : (decide (1 ≤ mF y) && decide (8 + 13 ≤ mW y)) = true) (hr : r.length ≤ 4) : X y pc ls (.int b :: .int a :: r) σ K = X y (pc + 3) ls (.int (if a < b then b else a) :: r) σ K := by
  refine X_step ((stp_eq h).trans ?_)
  simp only [stpI, hl, rm0K, hm, decide_eq_true hr]
  rfl
theorem X_min {idx w1 w2 : Nat} {w : Int} {a b : Int32} (h : ins y pc = some (.invokestatic idx)) (hl : lk (mO y) idx = some (8, w1, w2, w)) (hm : (decide (1 ≤ mF y) && decide (8 + 13 ≤ mW y)) = true) (hr : r.length ≤ 4) : X y pc ls (.int b :: .int a :: r) σ K = X y (pc + 3) ls (.int (if b < a then b else a) :: r) σ K := by
  refine X_step ((stp_eq h).trans ?_)
  simp only [stpI, hl, rm0K, hm, decide_eq_true hr]
  rfl
theorem X_cpy {idx w1 w2 a b : Nat} {w : Int} {sp dp n : Int32} (h : ins y pc = some (.invokestatic idx)) (hl : lk (mO y) idx = some (9, w1, w2, w)) (hm : (decide (1 ≤ mF y) && decide (8 + 18 ≤ mW y)) = true) (hr : r.length ≤ 4) (ho : okC σ a sp b dp n = true) : X y pc ls (.int n :: .int dp :: .ref b :: .int sp :: .ref a :: r) σ K = X y (pc + 3) ls r (pC σ a sp b dp n) K := by
  refine X_step ((stp_eq h).trans ?_)
  simp only [stpI, hl, rm0K, hm, decide_eq_true hr, ho]
  rfl
theorem X_iret {x : Int32} (h : ins y pc = some .ireturn) (hr : mR y = some .int) : X y pc ls [.int x] σ K = K (some (.int x)) σ := X_ret ((stp_eq h).trans (by simp only [stpI, hr, retOK]; rfl))
theorem X_zret {x : Int32} (h : ins y pc = some .ireturn) (hr : mR y = some .boolean) (hx : (x == 0 || x == 1) = true) : X y pc ls [.int x] σ K = K (some (.int x)) σ := X_ret ((stp_eq h).trans (by simp only [stpI, hr, retOK, hx]; rfl))
theorem X_vret (h : ins y pc = some .return_) (hr : mR y = none) : X y pc ls [] σ K = K none σ := X_ret ((stp_eq h).trans (by simp only [stpI, hr]))
theorem X_aret {a : Nat} {C : String} (h : ins y pc = some .areturn) (hr : mR y = some (.object C)) : X y pc ls [.ref a] σ K = K (some (.ref a)) σ := X_ret ((stp_eq h).trans (by simp only [stpI, hr]))
end XROW
theorem ts_out {lo hi : Int} {offs : Array Int} {d : Int} {x : Int} (h : x < lo ∨ hi < x) : swo d lo hi offs x = some d := by unfold swo; rw [if_pos h]
end
section
theorem x0_0 {x : Nat} {ls st : List Value} {σ : Hp} {K : Option Value → Hp → Prop} : X 0 0 (.ref x :: ls) (st) σ K = X 0 1 (.ref x :: ls) (.ref x :: st) σ K := X_aload_n (k := 0) (by decide +kernel) rfl
theorem x0_1 {ls st : List Value} {a : Nat} {σ : Hp} {K : Option Value → Hp → Prop} (hr : st.length ≤ 4) : X 0 1 (ls) (.ref a :: st) σ K = X 0 4 (ls) (st) σ K := X_invO (idx := 3) (w1 := 0) (w2 := 0) (w := 0) (by decide +kernel) (by decide +kernel) (by decide +kernel) hr
theorem x0_4 {x : Nat} {ls st : List Value} {σ : Hp} {K : Option Value → Hp → Prop} : X 0 4 (.ref x :: ls) (st) σ K = X 0 5 (.ref x :: ls) (.ref x :: st) σ K := X_aload_n (k := 0) (by decide +kernel) rfl
theorem x0_5 {ls st : List Value} {σ : Hp} {K : Option Value → Hp → Prop} : X 0 5 (ls) (st) σ K = X 0 7 (ls) (.int 6 :: st) σ K := X_bipush (n := 6) (by decide +kernel) (by decide +kernel)
theorem x0_7 {ls st : List Value} {n : Int32} {N : Nat} {σ : Hp} {K : Option Value → Hp → Prop} (hn : ¬ n < 0) (hN : n.toNatClampNeg = N) (hb : N * 4 ≤ 536870912) : X 0 7 (ls) (.int n :: st) σ K = X 0 10 (ls) (.ref σ.2.1 :: st) (hnew σ (.inr (.inr (.inl (2, N, fun _ => none)))) N) K := X_newQ (idx := 9) (ci := 5) (b := 0) (w := 0) (by decide +kernel) (by decide +kernel) rfl rfl hn hN hb
theorem x0_10 {ls st : List Value} {a : Nat} {x : Nat} {σ : Hp} {K : Option Value → Hp → Prop} (ho : okF σ a 0 0 = true) : X 0 10 (ls) (.ref x :: .ref a :: st) σ K = X 0 13 (ls) (st) (pF σ a 0 (.ref x)) K := X_putf (idx := 11) (k := 10) (ci := 0) (f := 0) (w := 0) (by decide +kernel) (by decide +kernel) rfl (by decide +kernel) rfl (by decide +kernel) ho
theorem x0_13 {ls st : List Value} {σ : Hp} {K : Option Value → Hp → Prop} : X 0 13 (ls) (st) σ K = X 0 14 (ls) (.int 0 :: st) σ K := X_iconst (n := 0) (by decide +kernel) (by decide +kernel)
theorem x0_14 {l0 w : Value} {x : Int32} {ls st : List Value} {σ : Hp} {K : Option Value → Hp → Prop} (hw : isD w = false) : X 0 14 (l0 :: w :: ls) (.int x :: st) σ K = X 0 15 (l0 :: .int x :: ls) (st) σ K := X_istore_n (k := 1) (by decide +kernel) (Nat.succ_lt_succ (Nat.zero_lt_succ _)) rfl hw
theorem x0_15 {l0 : Value} {x : Int32} {ls st : List Value} {σ : Hp} {K : Option Value → Hp → Prop} : X 0 15 (l0 :: .int x :: ls) (st) σ K = X 0 16 (l0 :: .int x :: ls) (.int x :: st) σ K := X_iload_n (k := 1) (by decide +kernel) rfl
theorem x0_16 {x : Nat} {ls st : List Value} {σ : Hp} {K : Option Value → Hp → Prop} : X 0 16 (.ref x :: ls) (st) σ K = X 0 17 (.ref x :: ls) (.ref x :: st) σ K := X_aload_n (k := 0) (by decide +kernel) rfl
theorem x0_17 {ls st : List Value} {a : Nat} {σ : Hp} {K : Option Value → Hp → Prop} (ho : okF σ a 0 0 = true) : X 0 17 (ls) (.ref a :: st) σ K = X 0 20 (ls) (gF σ a 0 :: st) σ K := X_getf (idx := 11) (k := 10) (ci := 0) (f := 0) (w := 0) (by decide +kernel) (by decide +kernel) rfl (by decide +kernel) ho
theorem x0_20 {ls st : List Value} {a : Nat} {σ : Hp} {K : Option Value → Hp → Prop} (ho : okL σ a = true) : X 0 20 (ls) (.ref a :: st) σ K = X 0 21 (ls) (.int (gL σ a) :: st) σ K := X_alen (by decide +kernel) ho
theorem x0_21 {ls st : List Value} {a b : Int32} {σ : Hp} {K : Option Value → Hp → Prop} : X 0 21 (ls) (.int b :: .int a :: st) σ K = if a < b then X 0 24 (ls) (st) σ K else X 0 43 (ls) (st) σ K := X_ic_ge (off := 22) (by decide +kernel) (by decide +kernel)
theorem x0_24 {x : Nat} {ls st : List Value} {σ : Hp} {K : Option Value → Hp → Prop} : X 0 24 (.ref x :: ls) (st) σ K = X 0 25 (.ref x :: ls) (.ref x :: st) σ K := X_aload_n (k := 0) (by decide +kernel) rfl
theorem x0_25 {ls st : List Value} {a : Nat} {σ : Hp} {K : Option Value → Hp → Prop} (ho : okF σ a 0 0 = true) : X 0 25 (ls) (.ref a :: st) σ K = X 0 28 (ls) (gF σ a 0 :: st) σ K := X_getf (idx := 11) (k := 10) (ci := 0) (f := 0) (w := 0) (by decide +kernel) (by decide +kernel) rfl (by decide +kernel) ho
theorem x0_28 {l0 : Value} {x : Int32} {ls st : List Value} {σ : Hp} {K : Option Value → Hp → Prop} : X 0 28 (l0 :: .int x :: ls) (st) σ K = X 0 29 (l0 :: .int x :: ls) (.int x :: st) σ K := X_iload_n (k := 1) (by decide +kernel) rfl
theorem x0_29 {ls st : List Value} {σ : Hp} {K : Option Value → Hp → Prop} : X 0 29 (ls) (st) σ K = X 0 32 (ls) (.ref σ.2.1 :: st) (hnew σ (.inl (5, [.null, .null])) 2) K := X_new (idx := 9) (b := 0) (w := 0) (by decide +kernel) (by decide +kernel) (by decide +kernel) rfl rfl
theorem x0_32 {ls st : List Value} {a : Nat} {σ : Hp} {K : Option Value → Hp → Prop} : X 0 32 (ls) (.ref a :: st) σ K = X 0 33 (ls) (.ref a :: .ref a :: st) σ K := X_dupA (by decide +kernel)
theorem x0_32i {ls st : List Value} {a : Int32} {σ : Hp} {K : Option Value → Hp → Prop} : X 0 32 (ls) (.int a :: st) σ K = X 0 33 (ls) (.int a :: .int a :: st) σ K := X_dupI (by decide +kernel)
theorem x0_33 {ls st : List Value} {b : Nat}  {σ : Hp} {K : Option Value → Hp → Prop} (hr : st.length ≤ 4) : X 0 33 (ls) (.ref b :: st) σ K = X 51 0 [.ref b] [] σ (fun v σ' => X 0 36 ls (pushO v st) σ' K) := X_invI (as := []) (idx := 17) (k := 5) (z := 51) (w0 := 0) (w := 0) (n := 0) (q := 1) (by decide +kernel) (by decide +kernel) (by decide +kernel) (by decide +kernel) (by decide +kernel) (by decide +kernel) rfl rfl (by decide +kernel) (Nat.le_of_ble_eq_true rfl) hr
theorem x0_36 {ls st : List Value} {a v : Nat} {j : Int32} {σ : Hp} {K : Option Value → Hp → Prop} (ho : okQw σ a j v = true) : X 0 36 (ls) (.ref v :: .int j :: .ref a :: st) σ K = X 0 37 (ls) (st) (pQ σ a j v) K := X_aast (by decide +kernel) ho
theorem x0_37 {l0 : Value} {x : Int32} {ls st : List Value} {σ : Hp} {K : Option Value → Hp → Prop} : X 0 37 (l0 :: .int x :: ls) (st) σ K = X 0 40 (l0 :: .int (x + 1) :: ls) (st) σ K := X_iinc (k := 1) (n := 1) (by decide +kernel) (by decide +kernel) rfl
theorem x0_40 {ls st : List Value} {σ : Hp} {K : Option Value → Hp → Prop} : X 0 40 (ls) (st) σ K = X 0 15 (ls) (st) σ K := X_goto (off := (-25)) (by decide +kernel) (by decide +kernel)
theorem x0_43 {ls : List Value} {σ : Hp} {K : Option Value → Hp → Prop} : X 0 43 (ls) ([]) σ K = K none σ := X_vret (by decide +kernel) (by decide +kernel)
theorem x1_0 {x : Nat} {ls st : List Value} {σ : Hp} {K : Option Value → Hp → Prop} : X 1 0 (.ref x :: ls) (st) σ K = X 1 1 (.ref x :: ls) (.ref x :: st) σ K := X_aload_n (k := 0) (by decide +kernel) rfl
theorem x1_1 {ls st : List Value} {a : Nat} {σ : Hp} {K : Option Value → Hp → Prop} (ho : okF σ a 0 1 = true) : X 1 1 (ls) (.ref a :: st) σ K = X 1 4 (ls) (gF σ a 1 :: st) σ K := X_getf (idx := 18) (k := 10) (ci := 0) (f := 1) (w := 0) (by decide +kernel) (by decide +kernel) rfl (by decide +kernel) ho
theorem x1_4 {x : Nat} {ls st : List Value} {σ : Hp} {K : Option Value → Hp → Prop} : X 1 4 (.ref x :: ls) (st) σ K = X 1 5 (.ref x :: ls) (.ref x :: st) σ K := X_aload_n (k := 0) (by decide +kernel) rfl
theorem x1_5 {ls st : List Value} {a : Nat} {σ : Hp} {K : Option Value → Hp → Prop} (ho : okF σ a 0 0 = true) : X 1 5 (ls) (.ref a :: st) σ K = X 1 8 (ls) (gF σ a 0 :: st) σ K := X_getf (idx := 11) (k := 10) (ci := 0) (f := 0) (w := 0) (by decide +kernel) (by decide +kernel) rfl (by decide +kernel) ho
theorem x1_8 {ls st : List Value} {a : Nat} {σ : Hp} {K : Option Value → Hp → Prop} (ho : okL σ a = true) : X 1 8 (ls) (.ref a :: st) σ K = X 1 9 (ls) (.int (gL σ a) :: st) σ K := X_alen (by decide +kernel) ho
theorem x1_9 {ls st : List Value} {a b : Int32} {σ : Hp} {K : Option Value → Hp → Prop} : X 1 9 (ls) (.int b :: .int a :: st) σ K = if a = b then X 1 12 (ls) (st) σ K else X 1 16 (ls) (st) σ K := X_ic_ne (off := 7) (by decide +kernel) (by decide +kernel)
theorem x1_12 {x : Nat} {ls st : List Value} {σ : Hp} {K : Option Value → Hp → Prop} : X 1 12 (.ref x :: ls) (st) σ K = X 1 13 (.ref x :: ls) (.ref x :: st) σ K := X_aload_n (k := 0) (by decide +kernel) rfl
theorem x1_13 {ls st : List Value} {b : Nat}  {σ : Hp} {K : Option Value → Hp → Prop} (ho : okO σ b 0 = true) (hr : st.length ≤ 4) : X 1 13 (ls) (.ref b :: st) σ K = X 3 0 [.ref b, .null, .null] [] σ (fun v σ' => X 1 16 ls (pushO v st) σ' K) := X_invV (as := []) (idx := 22) (k := 0) (z := 3) (w0 := 0) (w := 0) (n := 0) (q := 3) (by decide +kernel) (by decide +kernel) rfl (by decide +kernel) (by decide +kernel) rfl rfl (by decide +kernel) (Nat.le_of_ble_eq_true rfl) ho hr
theorem x1_16 {x : Nat} {ls st : List Value} {σ : Hp} {K : Option Value → Hp → Prop} : X 1 16 (.ref x :: ls) (st) σ K = X 1 17 (.ref x :: ls) (.ref x :: st) σ K := X_aload_n (k := 0) (by decide +kernel) rfl
theorem x1_17 {ls st : List Value} {a : Nat} {σ : Hp} {K : Option Value → Hp → Prop} (ho : okF σ a 0 1 = true) : X 1 17 (ls) (.ref a :: st) σ K = X 1 20 (ls) (gF σ a 1 :: st) σ K := X_getf (idx := 18) (k := 10) (ci := 0) (f := 1) (w := 0) (by decide +kernel) (by decide +kernel) rfl (by decide +kernel) ho
theorem x1_20 {ls st : List Value} {x : Int32} {σ : Hp} {K : Option Value → Hp → Prop} : X 1 20 (ls) (.int x :: st) σ K = if x < 0 then X 1 58 (ls) (st) σ K else X 1 23 (ls) (st) σ K := X_if_lt (off := 38) (by decide +kernel) (by decide +kernel)
theorem x1_23 {x : Nat} {ls st : List Value} {σ : Hp} {K : Option Value → Hp → Prop} : X 1 23 (.ref x :: ls) (st) σ K = X 1 24 (.ref x :: ls) (.ref x :: st) σ K := X_aload_n (k := 0) (by decide +kernel) rfl
theorem x1_24 {ls st : List Value} {a : Nat} {σ : Hp} {K : Option Value → Hp → Prop} (ho : okF σ a 0 1 = true) : X 1 24 (ls) (.ref a :: st) σ K = X 1 27 (ls) (gF σ a 1 :: st) σ K := X_getf (idx := 18) (k := 10) (ci := 0) (f := 1) (w := 0) (by decide +kernel) (by decide +kernel) rfl (by decide +kernel) ho
theorem x1_27 {x : Nat} {ls st : List Value} {σ : Hp} {K : Option Value → Hp → Prop} : X 1 27 (.ref x :: ls) (st) σ K = X 1 28 (.ref x :: ls) (.ref x :: st) σ K := X_aload_n (k := 0) (by decide +kernel) rfl
theorem x1_28 {ls st : List Value} {a : Nat} {σ : Hp} {K : Option Value → Hp → Prop} (ho : okF σ a 0 0 = true) : X 1 28 (ls) (.ref a :: st) σ K = X 1 31 (ls) (gF σ a 0 :: st) σ K := X_getf (idx := 11) (k := 10) (ci := 0) (f := 0) (w := 0) (by decide +kernel) (by decide +kernel) rfl (by decide +kernel) ho
theorem x1_31 {ls st : List Value} {a : Nat} {σ : Hp} {K : Option Value → Hp → Prop} (ho : okL σ a = true) : X 1 31 (ls) (.ref a :: st) σ K = X 1 32 (ls) (.int (gL σ a) :: st) σ K := X_alen (by decide +kernel) ho
theorem x1_32 {ls st : List Value} {a b : Int32} {σ : Hp} {K : Option Value → Hp → Prop} : X 1 32 (ls) (.int b :: .int a :: st) σ K = if a < b then X 1 35 (ls) (st) σ K else X 1 58 (ls) (st) σ K := X_ic_ge (off := 26) (by decide +kernel) (by decide +kernel)
theorem x1_35 {x : Nat} {ls st : List Value} {σ : Hp} {K : Option Value → Hp → Prop} : X 1 35 (.ref x :: ls) (st) σ K = X 1 36 (.ref x :: ls) (.ref x :: st) σ K := X_aload_n (k := 0) (by decide +kernel) rfl
theorem x1_36 {ls st : List Value} {a : Nat} {σ : Hp} {K : Option Value → Hp → Prop} (ho : okF σ a 0 0 = true) : X 1 36 (ls) (.ref a :: st) σ K = X 1 39 (ls) (gF σ a 0 :: st) σ K := X_getf (idx := 11) (k := 10) (ci := 0) (f := 0) (w := 0) (by decide +kernel) (by decide +kernel) rfl (by decide +kernel) ho
theorem x1_39 {x : Nat} {ls st : List Value} {σ : Hp} {K : Option Value → Hp → Prop} : X 1 39 (.ref x :: ls) (st) σ K = X 1 40 (.ref x :: ls) (.ref x :: st) σ K := X_aload_n (k := 0) (by decide +kernel) rfl
theorem x1_40 {ls st : List Value} {a : Nat} {σ : Hp} {K : Option Value → Hp → Prop} (ho : okF σ a 0 1 = true) : X 1 40 (ls) (.ref a :: st) σ K = X 1 43 (ls) (gF σ a 1 :: st) σ K := X_getf (idx := 18) (k := 10) (ci := 0) (f := 1) (w := 0) (by decide +kernel) (by decide +kernel) rfl (by decide +kernel) ho
theorem x1_43 {ls st : List Value} {a q : Nat} {j : Int32} {σ : Hp} {K : Option Value → Hp → Prop} (ho : okQ σ a j = true) (hq : gQ σ a j = some q) : X 1 43 (ls) (.int j :: .ref a :: st) σ K = X 1 44 (ls) (.ref q :: st) σ K := X_aald (by decide +kernel) ho hq
theorem x1_44 {l0 : Value} {x : Nat} {ls st : List Value} {σ : Hp} {K : Option Value → Hp → Prop} : X 1 44 (l0 :: .ref x :: ls) (st) σ K = X 1 45 (l0 :: .ref x :: ls) (.ref x :: st) σ K := X_aload_n (k := 1) (by decide +kernel) rfl
theorem x1_45 {ls st : List Value} {b : Nat} {a0 : Nat}  {σ : Hp} {K : Option Value → Hp → Prop} (ho : okO σ b 5 = true) (hr : st.length ≤ 4) : X 1 45 (ls) (.ref a0 :: .ref b :: st) σ K = X 52 0 [.ref b, .ref a0] [] σ (fun v σ' => X 1 48 ls (pushO v st) σ' K) := X_invV (as := [.ref a0]) (idx := 25) (k := 0) (z := 52) (w0 := 0) (w := 0) (n := 1) (q := 2) (by decide +kernel) (by decide +kernel) rfl (by decide +kernel) (by decide +kernel) rfl rfl (by decide +kernel) (Nat.le_of_ble_eq_true rfl) ho hr
theorem x1_48 {x : Nat} {ls st : List Value} {σ : Hp} {K : Option Value → Hp → Prop} : X 1 48 (.ref x :: ls) (st) σ K = X 1 49 (.ref x :: ls) (.ref x :: st) σ K := X_aload_n (k := 0) (by decide +kernel) rfl
theorem x1_49 {ls st : List Value} {a : Nat} {σ : Hp} {K : Option Value → Hp → Prop} : X 1 49 (ls) (.ref a :: st) σ K = X 1 50 (ls) (.ref a :: .ref a :: st) σ K := X_dupA (by decide +kernel)
theorem x1_49i {ls st : List Value} {a : Int32} {σ : Hp} {K : Option Value → Hp → Prop} : X 1 49 (ls) (.int a :: st) σ K = X 1 50 (ls) (.int a :: .int a :: st) σ K := X_dupI (by decide +kernel)
theorem x1_50 {ls st : List Value} {a : Nat} {σ : Hp} {K : Option Value → Hp → Prop} (ho : okF σ a 0 1 = true) : X 1 50 (ls) (.ref a :: st) σ K = X 1 53 (ls) (gF σ a 1 :: st) σ K := X_getf (idx := 18) (k := 10) (ci := 0) (f := 1) (w := 0) (by decide +kernel) (by decide +kernel) rfl (by decide +kernel) ho
theorem x1_53 {ls st : List Value} {σ : Hp} {K : Option Value → Hp → Prop} : X 1 53 (ls) (st) σ K = X 1 54 (ls) (.int 1 :: st) σ K := X_iconst (n := 1) (by decide +kernel) (by decide +kernel)
theorem x1_54 {ls st : List Value} {a b : Int32} {σ : Hp} {K : Option Value → Hp → Prop} : X 1 54 (ls) (.int b :: .int a :: st) σ K = X 1 55 (ls) (.int (a + b) :: st) σ K := X_iadd (by decide +kernel)
theorem x1_55 {ls st : List Value} {a : Nat} {x : Int32} {σ : Hp} {K : Option Value → Hp → Prop} (ho : okF σ a 0 1 = true) : X 1 55 (ls) (.int x :: .ref a :: st) σ K = X 1 58 (ls) (st) (pF σ a 1 (.int x)) K := X_putf (idx := 18) (k := 10) (ci := 0) (f := 1) (w := 0) (by decide +kernel) (by decide +kernel) rfl (by decide +kernel) rfl (by decide +kernel) ho
theorem x1_58 {ls : List Value} {σ : Hp} {K : Option Value → Hp → Prop} : X 1 58 (ls) ([]) σ K = K none σ := X_vret (by decide +kernel) (by decide +kernel)
theorem x2_0 {x : Nat} {ls st : List Value} {σ : Hp} {K : Option Value → Hp → Prop} : X 2 0 (.ref x :: ls) (st) σ K = X 2 1 (.ref x :: ls) (.ref x :: st) σ K := X_aload_n (k := 0) (by decide +kernel) rfl
theorem x2_1 {ls st : List Value} {a : Nat} {σ : Hp} {K : Option Value → Hp → Prop} (ho : okF σ a 0 1 = true) : X 2 1 (ls) (.ref a :: st) σ K = X 2 4 (ls) (gF σ a 1 :: st) σ K := X_getf (idx := 18) (k := 10) (ci := 0) (f := 1) (w := 0) (by decide +kernel) (by decide +kernel) rfl (by decide +kernel) ho
theorem x2_4 {ls st : List Value} {x : Int32} {σ : Hp} {K : Option Value → Hp → Prop} : X 2 4 (ls) (.int x :: st) σ K = if 0 < x then X 2 7 (ls) (st) σ K else X 2 42 (ls) (st) σ K := X_if_le (off := 38) (by decide +kernel) (by decide +kernel)
theorem x2_7 {x : Nat} {ls st : List Value} {σ : Hp} {K : Option Value → Hp → Prop} : X 2 7 (.ref x :: ls) (st) σ K = X 2 8 (.ref x :: ls) (.ref x :: st) σ K := X_aload_n (k := 0) (by decide +kernel) rfl
theorem x2_8 {ls st : List Value} {a : Nat} {σ : Hp} {K : Option Value → Hp → Prop} (ho : okF σ a 0 1 = true) : X 2 8 (ls) (.ref a :: st) σ K = X 2 11 (ls) (gF σ a 1 :: st) σ K := X_getf (idx := 18) (k := 10) (ci := 0) (f := 1) (w := 0) (by decide +kernel) (by decide +kernel) rfl (by decide +kernel) ho
theorem x2_11 {x : Nat} {ls st : List Value} {σ : Hp} {K : Option Value → Hp → Prop} : X 2 11 (.ref x :: ls) (st) σ K = X 2 12 (.ref x :: ls) (.ref x :: st) σ K := X_aload_n (k := 0) (by decide +kernel) rfl
theorem x2_12 {ls st : List Value} {a : Nat} {σ : Hp} {K : Option Value → Hp → Prop} (ho : okF σ a 0 0 = true) : X 2 12 (ls) (.ref a :: st) σ K = X 2 15 (ls) (gF σ a 0 :: st) σ K := X_getf (idx := 11) (k := 10) (ci := 0) (f := 0) (w := 0) (by decide +kernel) (by decide +kernel) rfl (by decide +kernel) ho
theorem x2_15 {ls st : List Value} {a : Nat} {σ : Hp} {K : Option Value → Hp → Prop} (ho : okL σ a = true) : X 2 15 (ls) (.ref a :: st) σ K = X 2 16 (ls) (.int (gL σ a) :: st) σ K := X_alen (by decide +kernel) ho
theorem x2_16 {ls st : List Value} {a b : Int32} {σ : Hp} {K : Option Value → Hp → Prop} : X 2 16 (ls) (.int b :: .int a :: st) σ K = if b < a then X 2 42 (ls) (st) σ K else X 2 19 (ls) (st) σ K := X_ic_gt (off := 26) (by decide +kernel) (by decide +kernel)
theorem x2_19 {x : Nat} {ls st : List Value} {σ : Hp} {K : Option Value → Hp → Prop} : X 2 19 (.ref x :: ls) (st) σ K = X 2 20 (.ref x :: ls) (.ref x :: st) σ K := X_aload_n (k := 0) (by decide +kernel) rfl
theorem x2_20 {ls st : List Value} {a : Nat} {σ : Hp} {K : Option Value → Hp → Prop} : X 2 20 (ls) (.ref a :: st) σ K = X 2 21 (ls) (.ref a :: .ref a :: st) σ K := X_dupA (by decide +kernel)
theorem x2_20i {ls st : List Value} {a : Int32} {σ : Hp} {K : Option Value → Hp → Prop} : X 2 20 (ls) (.int a :: st) σ K = X 2 21 (ls) (.int a :: .int a :: st) σ K := X_dupI (by decide +kernel)
theorem x2_21 {ls st : List Value} {a : Nat} {σ : Hp} {K : Option Value → Hp → Prop} (ho : okF σ a 0 1 = true) : X 2 21 (ls) (.ref a :: st) σ K = X 2 24 (ls) (gF σ a 1 :: st) σ K := X_getf (idx := 18) (k := 10) (ci := 0) (f := 1) (w := 0) (by decide +kernel) (by decide +kernel) rfl (by decide +kernel) ho
theorem x2_24 {ls st : List Value} {σ : Hp} {K : Option Value → Hp → Prop} : X 2 24 (ls) (st) σ K = X 2 25 (ls) (.int 1 :: st) σ K := X_iconst (n := 1) (by decide +kernel) (by decide +kernel)
theorem x2_25 {ls st : List Value} {a b : Int32} {σ : Hp} {K : Option Value → Hp → Prop} : X 2 25 (ls) (.int b :: .int a :: st) σ K = X 2 26 (ls) (.int (a - b) :: st) σ K := X_isub (by decide +kernel)
theorem x2_26 {ls st : List Value} {a : Nat} {x : Int32} {σ : Hp} {K : Option Value → Hp → Prop} (ho : okF σ a 0 1 = true) : X 2 26 (ls) (.int x :: .ref a :: st) σ K = X 2 29 (ls) (st) (pF σ a 1 (.int x)) K := X_putf (idx := 18) (k := 10) (ci := 0) (f := 1) (w := 0) (by decide +kernel) (by decide +kernel) rfl (by decide +kernel) rfl (by decide +kernel) ho
theorem x2_29 {l0 : Value} {x : Nat} {ls st : List Value} {σ : Hp} {K : Option Value → Hp → Prop} : X 2 29 (l0 :: .ref x :: ls) (st) σ K = X 2 30 (l0 :: .ref x :: ls) (.ref x :: st) σ K := X_aload_n (k := 1) (by decide +kernel) rfl
theorem x2_30 {x : Nat} {ls st : List Value} {σ : Hp} {K : Option Value → Hp → Prop} : X 2 30 (.ref x :: ls) (st) σ K = X 2 31 (.ref x :: ls) (.ref x :: st) σ K := X_aload_n (k := 0) (by decide +kernel) rfl
theorem x2_31 {ls st : List Value} {a : Nat} {σ : Hp} {K : Option Value → Hp → Prop} (ho : okF σ a 0 0 = true) : X 2 31 (ls) (.ref a :: st) σ K = X 2 34 (ls) (gF σ a 0 :: st) σ K := X_getf (idx := 11) (k := 10) (ci := 0) (f := 0) (w := 0) (by decide +kernel) (by decide +kernel) rfl (by decide +kernel) ho
theorem x2_34 {x : Nat} {ls st : List Value} {σ : Hp} {K : Option Value → Hp → Prop} : X 2 34 (.ref x :: ls) (st) σ K = X 2 35 (.ref x :: ls) (.ref x :: st) σ K := X_aload_n (k := 0) (by decide +kernel) rfl
theorem x2_35 {ls st : List Value} {a : Nat} {σ : Hp} {K : Option Value → Hp → Prop} (ho : okF σ a 0 1 = true) : X 2 35 (ls) (.ref a :: st) σ K = X 2 38 (ls) (gF σ a 1 :: st) σ K := X_getf (idx := 18) (k := 10) (ci := 0) (f := 1) (w := 0) (by decide +kernel) (by decide +kernel) rfl (by decide +kernel) ho
theorem x2_38 {ls st : List Value} {a q : Nat} {j : Int32} {σ : Hp} {K : Option Value → Hp → Prop} (ho : okQ σ a j = true) (hq : gQ σ a j = some q) : X 2 38 (ls) (.int j :: .ref a :: st) σ K = X 2 39 (ls) (.ref q :: st) σ K := X_aald (by decide +kernel) ho hq
theorem x2_39 {ls st : List Value} {b : Nat} {a0 : Nat}  {σ : Hp} {K : Option Value → Hp → Prop} (ho : okO σ b 5 = true) (hr : st.length ≤ 4) : X 2 39 (ls) (.ref a0 :: .ref b :: st) σ K = X 52 0 [.ref b, .ref a0] [] σ (fun v σ' => X 2 42 ls (pushO v st) σ' K) := X_invV (as := [.ref a0]) (idx := 25) (k := 0) (z := 52) (w0 := 0) (w := 0) (n := 1) (q := 2) (by decide +kernel) (by decide +kernel) rfl (by decide +kernel) (by decide +kernel) rfl rfl (by decide +kernel) (Nat.le_of_ble_eq_true rfl) ho hr
theorem x2_42 {ls : List Value} {σ : Hp} {K : Option Value → Hp → Prop} : X 2 42 (ls) ([]) σ K = K none σ := X_vret (by decide +kernel) (by decide +kernel)
theorem x3_0 {x : Nat} {ls st : List Value} {σ : Hp} {K : Option Value → Hp → Prop} : X 3 0 (.ref x :: ls) (st) σ K = X 3 1 (.ref x :: ls) (.ref x :: st) σ K := X_aload_n (k := 0) (by decide +kernel) rfl
theorem x3_1 {ls st : List Value} {a : Nat} {σ : Hp} {K : Option Value → Hp → Prop} (ho : okF σ a 0 0 = true) : X 3 1 (ls) (.ref a :: st) σ K = X 3 4 (ls) (gF σ a 0 :: st) σ K := X_getf (idx := 11) (k := 10) (ci := 0) (f := 0) (w := 0) (by decide +kernel) (by decide +kernel) rfl (by decide +kernel) ho
theorem x3_4 {ls st : List Value} {σ : Hp} {K : Option Value → Hp → Prop} : X 3 4 (ls) (st) σ K = X 3 5 (ls) (.int 0 :: st) σ K := X_iconst (n := 0) (by decide +kernel) (by decide +kernel)
theorem x3_5 {ls st : List Value} {a q : Nat} {j : Int32} {σ : Hp} {K : Option Value → Hp → Prop} (ho : okQ σ a j = true) (hq : gQ σ a j = some q) : X 3 5 (ls) (.int j :: .ref a :: st) σ K = X 3 6 (ls) (.ref q :: st) σ K := X_aald (by decide +kernel) ho hq
theorem x3_6 {l0 w : Value} {x : Nat} {ls st : List Value} {σ : Hp} {K : Option Value → Hp → Prop} (hw : isD w = false) : X 3 6 (l0 :: w :: ls) (.ref x :: st) σ K = X 3 7 (l0 :: .ref x :: ls) (st) σ K := X_astore_n (k := 1) (by decide +kernel) (Nat.succ_lt_succ (Nat.zero_lt_succ _)) rfl hw
theorem x3_7 {ls st : List Value} {σ : Hp} {K : Option Value → Hp → Prop} : X 3 7 (ls) (st) σ K = X 3 8 (ls) (.int 1 :: st) σ K := X_iconst (n := 1) (by decide +kernel) (by decide +kernel)
theorem x3_8 {l0 l1 w : Value} {x : Int32} {ls st : List Value} {σ : Hp} {K : Option Value → Hp → Prop} (hw : isD w = false) : X 3 8 (l0 :: l1 :: w :: ls) (.int x :: st) σ K = X 3 9 (l0 :: l1 :: .int x :: ls) (st) σ K := X_istore_n (k := 2) (by decide +kernel) (Nat.succ_lt_succ (Nat.succ_lt_succ (Nat.zero_lt_succ _))) rfl hw
theorem x3_9 {l0 l1 : Value} {x : Int32} {ls st : List Value} {σ : Hp} {K : Option Value → Hp → Prop} : X 3 9 (l0 :: l1 :: .int x :: ls) (st) σ K = X 3 10 (l0 :: l1 :: .int x :: ls) (.int x :: st) σ K := X_iload_n (k := 2) (by decide +kernel) rfl
theorem x3_10 {x : Nat} {ls st : List Value} {σ : Hp} {K : Option Value → Hp → Prop} : X 3 10 (.ref x :: ls) (st) σ K = X 3 11 (.ref x :: ls) (.ref x :: st) σ K := X_aload_n (k := 0) (by decide +kernel) rfl
theorem x3_11 {ls st : List Value} {a : Nat} {σ : Hp} {K : Option Value → Hp → Prop} (ho : okF σ a 0 0 = true) : X 3 11 (ls) (.ref a :: st) σ K = X 3 14 (ls) (gF σ a 0 :: st) σ K := X_getf (idx := 11) (k := 10) (ci := 0) (f := 0) (w := 0) (by decide +kernel) (by decide +kernel) rfl (by decide +kernel) ho
theorem x3_14 {ls st : List Value} {a : Nat} {σ : Hp} {K : Option Value → Hp → Prop} (ho : okL σ a = true) : X 3 14 (ls) (.ref a :: st) σ K = X 3 15 (ls) (.int (gL σ a) :: st) σ K := X_alen (by decide +kernel) ho
theorem x3_15 {ls st : List Value} {a b : Int32} {σ : Hp} {K : Option Value → Hp → Prop} : X 3 15 (ls) (.int b :: .int a :: st) σ K = if a < b then X 3 18 (ls) (st) σ K else X 3 38 (ls) (st) σ K := X_ic_ge (off := 23) (by decide +kernel) (by decide +kernel)
theorem x3_18 {x : Nat} {ls st : List Value} {σ : Hp} {K : Option Value → Hp → Prop} : X 3 18 (.ref x :: ls) (st) σ K = X 3 19 (.ref x :: ls) (.ref x :: st) σ K := X_aload_n (k := 0) (by decide +kernel) rfl
theorem x3_19 {ls st : List Value} {a : Nat} {σ : Hp} {K : Option Value → Hp → Prop} (ho : okF σ a 0 0 = true) : X 3 19 (ls) (.ref a :: st) σ K = X 3 22 (ls) (gF σ a 0 :: st) σ K := X_getf (idx := 11) (k := 10) (ci := 0) (f := 0) (w := 0) (by decide +kernel) (by decide +kernel) rfl (by decide +kernel) ho
theorem x3_22 {l0 l1 : Value} {x : Int32} {ls st : List Value} {σ : Hp} {K : Option Value → Hp → Prop} : X 3 22 (l0 :: l1 :: .int x :: ls) (st) σ K = X 3 23 (l0 :: l1 :: .int x :: ls) (.int x :: st) σ K := X_iload_n (k := 2) (by decide +kernel) rfl
theorem x3_23 {ls st : List Value} {σ : Hp} {K : Option Value → Hp → Prop} : X 3 23 (ls) (st) σ K = X 3 24 (ls) (.int 1 :: st) σ K := X_iconst (n := 1) (by decide +kernel) (by decide +kernel)
theorem x3_24 {ls st : List Value} {a b : Int32} {σ : Hp} {K : Option Value → Hp → Prop} : X 3 24 (ls) (.int b :: .int a :: st) σ K = X 3 25 (ls) (.int (a - b) :: st) σ K := X_isub (by decide +kernel)
theorem x3_25 {x : Nat} {ls st : List Value} {σ : Hp} {K : Option Value → Hp → Prop} : X 3 25 (.ref x :: ls) (st) σ K = X 3 26 (.ref x :: ls) (.ref x :: st) σ K := X_aload_n (k := 0) (by decide +kernel) rfl
theorem x3_26 {ls st : List Value} {a : Nat} {σ : Hp} {K : Option Value → Hp → Prop} (ho : okF σ a 0 0 = true) : X 3 26 (ls) (.ref a :: st) σ K = X 3 29 (ls) (gF σ a 0 :: st) σ K := X_getf (idx := 11) (k := 10) (ci := 0) (f := 0) (w := 0) (by decide +kernel) (by decide +kernel) rfl (by decide +kernel) ho
theorem x3_29 {l0 l1 : Value} {x : Int32} {ls st : List Value} {σ : Hp} {K : Option Value → Hp → Prop} : X 3 29 (l0 :: l1 :: .int x :: ls) (st) σ K = X 3 30 (l0 :: l1 :: .int x :: ls) (.int x :: st) σ K := X_iload_n (k := 2) (by decide +kernel) rfl
theorem x3_30 {ls st : List Value} {a q : Nat} {j : Int32} {σ : Hp} {K : Option Value → Hp → Prop} (ho : okQ σ a j = true) (hq : gQ σ a j = some q) : X 3 30 (ls) (.int j :: .ref a :: st) σ K = X 3 31 (ls) (.ref q :: st) σ K := X_aald (by decide +kernel) ho hq
theorem x3_31 {ls st : List Value} {a v : Nat} {j : Int32} {σ : Hp} {K : Option Value → Hp → Prop} (ho : okQw σ a j v = true) : X 3 31 (ls) (.ref v :: .int j :: .ref a :: st) σ K = X 3 32 (ls) (st) (pQ σ a j v) K := X_aast (by decide +kernel) ho
theorem x3_32 {l0 l1 : Value} {x : Int32} {ls st : List Value} {σ : Hp} {K : Option Value → Hp → Prop} : X 3 32 (l0 :: l1 :: .int x :: ls) (st) σ K = X 3 35 (l0 :: l1 :: .int (x + 1) :: ls) (st) σ K := X_iinc (k := 2) (n := 1) (by decide +kernel) (by decide +kernel) rfl
theorem x3_35 {ls st : List Value} {σ : Hp} {K : Option Value → Hp → Prop} : X 3 35 (ls) (st) σ K = X 3 9 (ls) (st) σ K := X_goto (off := (-26)) (by decide +kernel) (by decide +kernel)
theorem x3_38 {x : Nat} {ls st : List Value} {σ : Hp} {K : Option Value → Hp → Prop} : X 3 38 (.ref x :: ls) (st) σ K = X 3 39 (.ref x :: ls) (.ref x :: st) σ K := X_aload_n (k := 0) (by decide +kernel) rfl
theorem x3_39 {ls st : List Value} {a : Nat} {σ : Hp} {K : Option Value → Hp → Prop} (ho : okF σ a 0 0 = true) : X 3 39 (ls) (.ref a :: st) σ K = X 3 42 (ls) (gF σ a 0 :: st) σ K := X_getf (idx := 11) (k := 10) (ci := 0) (f := 0) (w := 0) (by decide +kernel) (by decide +kernel) rfl (by decide +kernel) ho
theorem x3_42 {x : Nat} {ls st : List Value} {σ : Hp} {K : Option Value → Hp → Prop} : X 3 42 (.ref x :: ls) (st) σ K = X 3 43 (.ref x :: ls) (.ref x :: st) σ K := X_aload_n (k := 0) (by decide +kernel) rfl
theorem x3_43 {ls st : List Value} {a : Nat} {σ : Hp} {K : Option Value → Hp → Prop} (ho : okF σ a 0 0 = true) : X 3 43 (ls) (.ref a :: st) σ K = X 3 46 (ls) (gF σ a 0 :: st) σ K := X_getf (idx := 11) (k := 10) (ci := 0) (f := 0) (w := 0) (by decide +kernel) (by decide +kernel) rfl (by decide +kernel) ho
theorem x3_46 {ls st : List Value} {a : Nat} {σ : Hp} {K : Option Value → Hp → Prop} (ho : okL σ a = true) : X 3 46 (ls) (.ref a :: st) σ K = X 3 47 (ls) (.int (gL σ a) :: st) σ K := X_alen (by decide +kernel) ho
theorem x3_47 {ls st : List Value} {σ : Hp} {K : Option Value → Hp → Prop} : X 3 47 (ls) (st) σ K = X 3 48 (ls) (.int 1 :: st) σ K := X_iconst (n := 1) (by decide +kernel) (by decide +kernel)
theorem x3_48 {ls st : List Value} {a b : Int32} {σ : Hp} {K : Option Value → Hp → Prop} : X 3 48 (ls) (.int b :: .int a :: st) σ K = X 3 49 (ls) (.int (a - b) :: st) σ K := X_isub (by decide +kernel)
theorem x3_49 {l0 : Value} {x : Nat} {ls st : List Value} {σ : Hp} {K : Option Value → Hp → Prop} : X 3 49 (l0 :: .ref x :: ls) (st) σ K = X 3 50 (l0 :: .ref x :: ls) (.ref x :: st) σ K := X_aload_n (k := 1) (by decide +kernel) rfl
theorem x3_50 {ls st : List Value} {a v : Nat} {j : Int32} {σ : Hp} {K : Option Value → Hp → Prop} (ho : okQw σ a j v = true) : X 3 50 (ls) (.ref v :: .int j :: .ref a :: st) σ K = X 3 51 (ls) (st) (pQ σ a j v) K := X_aast (by decide +kernel) ho
theorem x3_51 {x : Nat} {ls st : List Value} {σ : Hp} {K : Option Value → Hp → Prop} : X 3 51 (.ref x :: ls) (st) σ K = X 3 52 (.ref x :: ls) (.ref x :: st) σ K := X_aload_n (k := 0) (by decide +kernel) rfl
theorem x3_52 {ls st : List Value} {a : Nat} {σ : Hp} {K : Option Value → Hp → Prop} : X 3 52 (ls) (.ref a :: st) σ K = X 3 53 (ls) (.ref a :: .ref a :: st) σ K := X_dupA (by decide +kernel)
theorem x3_52i {ls st : List Value} {a : Int32} {σ : Hp} {K : Option Value → Hp → Prop} : X 3 52 (ls) (.int a :: st) σ K = X 3 53 (ls) (.int a :: .int a :: st) σ K := X_dupI (by decide +kernel)
theorem x3_53 {ls st : List Value} {a : Nat} {σ : Hp} {K : Option Value → Hp → Prop} (ho : okF σ a 0 1 = true) : X 3 53 (ls) (.ref a :: st) σ K = X 3 56 (ls) (gF σ a 1 :: st) σ K := X_getf (idx := 18) (k := 10) (ci := 0) (f := 1) (w := 0) (by decide +kernel) (by decide +kernel) rfl (by decide +kernel) ho
theorem x3_56 {ls st : List Value} {σ : Hp} {K : Option Value → Hp → Prop} : X 3 56 (ls) (st) σ K = X 3 57 (ls) (.int 1 :: st) σ K := X_iconst (n := 1) (by decide +kernel) (by decide +kernel)
theorem x3_57 {ls st : List Value} {a b : Int32} {σ : Hp} {K : Option Value → Hp → Prop} : X 3 57 (ls) (.int b :: .int a :: st) σ K = X 3 58 (ls) (.int (a - b) :: st) σ K := X_isub (by decide +kernel)
theorem x3_58 {ls st : List Value} {a : Nat} {x : Int32} {σ : Hp} {K : Option Value → Hp → Prop} (ho : okF σ a 0 1 = true) : X 3 58 (ls) (.int x :: .ref a :: st) σ K = X 3 61 (ls) (st) (pF σ a 1 (.int x)) K := X_putf (idx := 18) (k := 10) (ci := 0) (f := 1) (w := 0) (by decide +kernel) (by decide +kernel) rfl (by decide +kernel) rfl (by decide +kernel) ho
theorem x3_61 {ls : List Value} {σ : Hp} {K : Option Value → Hp → Prop} : X 3 61 (ls) ([]) σ K = K none σ := X_vret (by decide +kernel) (by decide +kernel)
theorem x4_0 {x : Nat} {ls st : List Value} {σ : Hp} {K : Option Value → Hp → Prop} : X 4 0 (.ref x :: ls) (st) σ K = X 4 1 (.ref x :: ls) (.ref x :: st) σ K := X_aload_n (k := 0) (by decide +kernel) rfl
theorem x4_1 {ls st : List Value} {a : Nat} {σ : Hp} {K : Option Value → Hp → Prop} (hr : st.length ≤ 4) : X 4 1 (ls) (.ref a :: st) σ K = X 4 4 (ls) (st) σ K := X_invO (idx := 3) (w1 := 0) (w2 := 0) (w := 0) (by decide +kernel) (by decide +kernel) (by decide +kernel) hr
theorem x4_4 {ls : List Value} {σ : Hp} {K : Option Value → Hp → Prop} : X 4 4 (ls) ([]) σ K = K none σ := X_vret (by decide +kernel) (by decide +kernel)
theorem x5_0 {x : Nat} {ls st : List Value} {σ : Hp} {K : Option Value → Hp → Prop} : X 5 0 (.ref x :: ls) (st) σ K = X 5 1 (.ref x :: ls) (.ref x :: st) σ K := X_aload_n (k := 0) (by decide +kernel) rfl
theorem x5_1 {ls st : List Value} {σ : Hp} {K : Option Value → Hp → Prop} : X 5 1 (ls) (st) σ K = X 5 2 (ls) (.int 0 :: st) σ K := X_iconst (n := 0) (by decide +kernel) (by decide +kernel)
theorem x5_2 {ls st : List Value} {a : Nat} {x : Int32} {σ : Hp} {K : Option Value → Hp → Prop} (ho : okF σ a 1 0 = true) : X 5 2 (ls) (.int x :: .ref a :: st) σ K = X 5 5 (ls) (st) (pF σ a 0 (.int x)) K := X_putf (idx := 11) (k := 10) (ci := 1) (f := 0) (w := 0) (by decide +kernel) (by decide +kernel) rfl (by decide +kernel) rfl (by decide +kernel) ho
theorem x5_5 {x : Nat} {ls st : List Value} {σ : Hp} {K : Option Value → Hp → Prop} : X 5 5 (.ref x :: ls) (st) σ K = X 5 6 (.ref x :: ls) (.ref x :: st) σ K := X_aload_n (k := 0) (by decide +kernel) rfl
theorem x5_6 {ls st : List Value} {σ : Hp} {K : Option Value → Hp → Prop} : X 5 6 (ls) (st) σ K = X 5 7 (ls) (.int 0 :: st) σ K := X_iconst (n := 0) (by decide +kernel) (by decide +kernel)
theorem x5_7 {ls st : List Value} {a : Nat} {x : Int32} {σ : Hp} {K : Option Value → Hp → Prop} (ho : okF σ a 1 1 = true) : X 5 7 (ls) (.int x :: .ref a :: st) σ K = X 5 10 (ls) (st) (pF σ a 1 (.int x)) K := X_putf (idx := 15) (k := 10) (ci := 1) (f := 1) (w := 0) (by decide +kernel) (by decide +kernel) rfl (by decide +kernel) rfl (by decide +kernel) ho
theorem x5_10 {x : Nat} {ls st : List Value} {σ : Hp} {K : Option Value → Hp → Prop} : X 5 10 (.ref x :: ls) (st) σ K = X 5 11 (.ref x :: ls) (.ref x :: st) σ K := X_aload_n (k := 0) (by decide +kernel) rfl
theorem x5_11 {ls st : List Value} {σ : Hp} {K : Option Value → Hp → Prop} : X 5 11 (ls) (st) σ K = X 5 12 (ls) (.int 0 :: st) σ K := X_iconst (n := 0) (by decide +kernel) (by decide +kernel)
theorem x5_12 {ls st : List Value} {a : Nat} {x : Int32} {σ : Hp} {K : Option Value → Hp → Prop} (ho : okF σ a 1 2 = true) : X 5 12 (ls) (.int x :: .ref a :: st) σ K = X 5 15 (ls) (st) (pF σ a 2 (.int x)) K := X_putf (idx := 18) (k := 10) (ci := 1) (f := 2) (w := 0) (by decide +kernel) (by decide +kernel) rfl (by decide +kernel) rfl (by decide +kernel) ho
theorem x5_15 {x : Nat} {ls st : List Value} {σ : Hp} {K : Option Value → Hp → Prop} : X 5 15 (.ref x :: ls) (st) σ K = X 5 16 (.ref x :: ls) (.ref x :: st) σ K := X_aload_n (k := 0) (by decide +kernel) rfl
theorem x5_16 {ls st : List Value} {σ : Hp} {K : Option Value → Hp → Prop} : X 5 16 (ls) (st) σ K = X 5 17 (ls) (.int 0 :: st) σ K := X_iconst (n := 0) (by decide +kernel) (by decide +kernel)
theorem x5_17 {ls st : List Value} {a : Nat} {x : Int32} {σ : Hp} {K : Option Value → Hp → Prop} (ho : okF σ a 1 3 = true) : X 5 17 (ls) (.int x :: .ref a :: st) σ K = X 5 20 (ls) (st) (pF σ a 3 (.int x)) K := X_putf (idx := 21) (k := 10) (ci := 1) (f := 3) (w := 0) (by decide +kernel) (by decide +kernel) rfl (by decide +kernel) rfl (by decide +kernel) ho
theorem x5_20 {x : Nat} {ls st : List Value} {σ : Hp} {K : Option Value → Hp → Prop} : X 5 20 (.ref x :: ls) (st) σ K = X 5 21 (.ref x :: ls) (.ref x :: st) σ K := X_aload_n (k := 0) (by decide +kernel) rfl
theorem x5_21 {ls st : List Value} {σ : Hp} {K : Option Value → Hp → Prop} : X 5 21 (ls) (st) σ K = X 5 22 (ls) (.int 0 :: st) σ K := X_iconst (n := 0) (by decide +kernel) (by decide +kernel)
theorem x5_22 {ls st : List Value} {a : Nat} {x : Int32} {σ : Hp} {K : Option Value → Hp → Prop} (ho : okF σ a 1 4 = true) : X 5 22 (ls) (.int x :: .ref a :: st) σ K = X 5 25 (ls) (st) (pF σ a 4 (.int x)) K := X_putf (idx := 24) (k := 10) (ci := 1) (f := 4) (w := 0) (by decide +kernel) (by decide +kernel) rfl (by decide +kernel) rfl (by decide +kernel) ho
theorem x5_25 {x : Nat} {ls st : List Value} {σ : Hp} {K : Option Value → Hp → Prop} : X 5 25 (.ref x :: ls) (st) σ K = X 5 26 (.ref x :: ls) (.ref x :: st) σ K := X_aload_n (k := 0) (by decide +kernel) rfl
theorem x5_26 {ls st : List Value} {σ : Hp} {K : Option Value → Hp → Prop} : X 5 26 (ls) (st) σ K = X 5 27 (ls) (.int 1 :: st) σ K := X_iconst (n := 1) (by decide +kernel) (by decide +kernel)
theorem x5_27 {ls st : List Value} {a : Nat} {x : Int32} {σ : Hp} {K : Option Value → Hp → Prop} (ho : okF σ a 1 5 = true) : X 5 27 (ls) (.int x :: .ref a :: st) σ K = X 5 30 (ls) (st) (pF σ a 5 (.int x)) K := X_putf (idx := 27) (k := 10) (ci := 1) (f := 5) (w := 0) (by decide +kernel) (by decide +kernel) rfl (by decide +kernel) rfl (by decide +kernel) ho
theorem x5_30 {ls : List Value} {σ : Hp} {K : Option Value → Hp → Prop} : X 5 30 (ls) ([]) σ K = K none σ := X_vret (by decide +kernel) (by decide +kernel)
theorem x6_0 {x : Nat} {ls st : List Value} {σ : Hp} {K : Option Value → Hp → Prop} : X 6 0 (.ref x :: ls) (st) σ K = X 6 1 (.ref x :: ls) (.ref x :: st) σ K := X_aload_n (k := 0) (by decide +kernel) rfl
theorem x6_1 {ls st : List Value} {a : Nat} {σ : Hp} {K : Option Value → Hp → Prop} (ho : okF σ a 1 0 = true) : X 6 1 (ls) (.ref a :: st) σ K = X 6 4 (ls) (gF σ a 0 :: st) σ K := X_getf (idx := 11) (k := 10) (ci := 1) (f := 0) (w := 0) (by decide +kernel) (by decide +kernel) rfl (by decide +kernel) ho
theorem x6_4 {ls st : List Value} {σ : Hp} {K : Option Value → Hp → Prop} : X 6 4 (ls) (st) σ K = X 6 5 (ls) (.int 2 :: st) σ K := X_iconst (n := 2) (by decide +kernel) (by decide +kernel)
theorem x6_5 {ls st : List Value} {a b : Int32} {σ : Hp} {K : Option Value → Hp → Prop} : X 6 5 (ls) (.int b :: .int a :: st) σ K = if a = b then X 6 25 (ls) (st) σ K else X 6 8 (ls) (st) σ K := X_ic_eq (off := 20) (by decide +kernel) (by decide +kernel)
theorem x6_8 {x : Nat} {ls st : List Value} {σ : Hp} {K : Option Value → Hp → Prop} : X 6 8 (.ref x :: ls) (st) σ K = X 6 9 (.ref x :: ls) (.ref x :: st) σ K := X_aload_n (k := 0) (by decide +kernel) rfl
theorem x6_9 {ls st : List Value} {a : Nat} {σ : Hp} {K : Option Value → Hp → Prop} (ho : okF σ a 1 0 = true) : X 6 9 (ls) (.ref a :: st) σ K = X 6 12 (ls) (gF σ a 0 :: st) σ K := X_getf (idx := 11) (k := 10) (ci := 1) (f := 0) (w := 0) (by decide +kernel) (by decide +kernel) rfl (by decide +kernel) ho
theorem x6_12 {ls st : List Value} {σ : Hp} {K : Option Value → Hp → Prop} : X 6 12 (ls) (st) σ K = X 6 13 (ls) (.int 4 :: st) σ K := X_iconst (n := 4) (by decide +kernel) (by decide +kernel)
theorem x6_13 {ls st : List Value} {a b : Int32} {σ : Hp} {K : Option Value → Hp → Prop} : X 6 13 (ls) (.int b :: .int a :: st) σ K = if a = b then X 6 25 (ls) (st) σ K else X 6 16 (ls) (st) σ K := X_ic_eq (off := 12) (by decide +kernel) (by decide +kernel)
theorem x6_16 {x : Nat} {ls st : List Value} {σ : Hp} {K : Option Value → Hp → Prop} : X 6 16 (.ref x :: ls) (st) σ K = X 6 17 (.ref x :: ls) (.ref x :: st) σ K := X_aload_n (k := 0) (by decide +kernel) rfl
theorem x6_17 {ls st : List Value} {a : Nat} {σ : Hp} {K : Option Value → Hp → Prop} (ho : okF σ a 1 0 = true) : X 6 17 (ls) (.ref a :: st) σ K = X 6 20 (ls) (gF σ a 0 :: st) σ K := X_getf (idx := 11) (k := 10) (ci := 1) (f := 0) (w := 0) (by decide +kernel) (by decide +kernel) rfl (by decide +kernel) ho
theorem x6_20 {ls st : List Value} {σ : Hp} {K : Option Value → Hp → Prop} : X 6 20 (ls) (st) σ K = X 6 22 (ls) (.int 6 :: st) σ K := X_bipush (n := 6) (by decide +kernel) (by decide +kernel)
theorem x6_22 {ls st : List Value} {a b : Int32} {σ : Hp} {K : Option Value → Hp → Prop} : X 6 22 (ls) (.int b :: .int a :: st) σ K = if a = b then X 6 25 (ls) (st) σ K else X 6 29 (ls) (st) σ K := X_ic_ne (off := 7) (by decide +kernel) (by decide +kernel)
theorem x6_25 {ls st : List Value} {σ : Hp} {K : Option Value → Hp → Prop} : X 6 25 (ls) (st) σ K = X 6 26 (ls) (.int 1 :: st) σ K := X_iconst (n := 1) (by decide +kernel) (by decide +kernel)
theorem x6_26 {ls st : List Value} {σ : Hp} {K : Option Value → Hp → Prop} : X 6 26 (ls) (st) σ K = X 6 30 (ls) (st) σ K := X_goto (off := 4) (by decide +kernel) (by decide +kernel)
theorem x6_29 {ls st : List Value} {σ : Hp} {K : Option Value → Hp → Prop} : X 6 29 (ls) (st) σ K = X 6 30 (ls) (.int 0 :: st) σ K := X_iconst (n := 0) (by decide +kernel) (by decide +kernel)
theorem x6_30 {ls : List Value} {x : Int32} {σ : Hp} {K : Option Value → Hp → Prop} (hx : (x == 0 || x == 1) = true) : X 6 30 (ls) ([.int x]) σ K = K (some (.int x)) σ := X_zret (by decide +kernel) (by decide +kernel) hx
theorem x7_0 {l0 : Value} {x : Int32} {ls st : List Value} {σ : Hp} {K : Option Value → Hp → Prop} : X 7 0 (l0 :: .int x :: ls) (st) σ K = X 7 1 (l0 :: .int x :: ls) (.int x :: st) σ K := X_iload_n (k := 1) (by decide +kernel) rfl
theorem x7_1 {ls st : List Value} {σ : Hp} {K : Option Value → Hp → Prop} : X 7 1 (ls) (st) σ K = X 7 3 (ls) (.int 59 :: st) σ K := X_bipush (n := 59) (by decide +kernel) (by decide +kernel)
theorem x7_3 {ls st : List Value} {a b : Int32} {σ : Hp} {K : Option Value → Hp → Prop} : X 7 3 (ls) (.int b :: .int a :: st) σ K = if a = b then X 7 6 (ls) (st) σ K else X 7 11 (ls) (st) σ K := X_ic_ne (off := 8) (by decide +kernel) (by decide +kernel)
theorem x7_6 {x : Nat} {ls st : List Value} {σ : Hp} {K : Option Value → Hp → Prop} : X 7 6 (.ref x :: ls) (st) σ K = X 7 7 (.ref x :: ls) (.ref x :: st) σ K := X_aload_n (k := 0) (by decide +kernel) rfl
theorem x7_7 {ls st : List Value} {b : Nat}  {σ : Hp} {K : Option Value → Hp → Prop} (ho : okO σ b 1 = true) (hr : st.length ≤ 4) : X 7 7 (ls) (.ref b :: st) σ K = X 8 0 [.ref b] [] σ (fun v σ' => X 7 10 ls (pushO v st) σ' K) := X_invV (as := []) (idx := 30) (k := 0) (z := 8) (w0 := 0) (w := 0) (n := 0) (q := 1) (by decide +kernel) (by decide +kernel) rfl (by decide +kernel) (by decide +kernel) rfl rfl (by decide +kernel) (Nat.le_of_ble_eq_true rfl) ho hr
theorem x7_10 {ls : List Value} {x : Int32} {σ : Hp} {K : Option Value → Hp → Prop} (hx : (x == 0 || x == 1) = true) : X 7 10 (ls) ([.int x]) σ K = K (some (.int x)) σ := X_zret (by decide +kernel) (by decide +kernel) hx
theorem x7_11 {x : Nat} {ls st : List Value} {σ : Hp} {K : Option Value → Hp → Prop} : X 7 11 (.ref x :: ls) (st) σ K = X 7 12 (.ref x :: ls) (.ref x :: st) σ K := X_aload_n (k := 0) (by decide +kernel) rfl
theorem x7_12 {ls st : List Value} {a : Nat} {σ : Hp} {K : Option Value → Hp → Prop} (ho : okF σ a 1 0 = true) : X 7 12 (ls) (.ref a :: st) σ K = X 7 15 (ls) (gF σ a 0 :: st) σ K := X_getf (idx := 11) (k := 10) (ci := 1) (f := 0) (w := 0) (by decide +kernel) (by decide +kernel) rfl (by decide +kernel) ho
theorem x7_15 {ls st : List Value} {x : Int32} {σ : Hp} {K : Option Value → Hp → Prop} : X 7 15 (ls) (.int x :: st) σ K = if x = 0 then X 7 52 (ls) (st) σ K else if x = 1 then X 7 58 (ls) (st) σ K else if x = 2 then X 7 64 (ls) (st) σ K else if x = 3 then X 7 83 (ls) (st) σ K else if x = 4 then X 7 89 (ls) (st) σ K else if x = 5 then X 7 95 (ls) (st) σ K else X 7 101 (ls) (st) σ K := by
  by_cases h0 : x = 0
  · subst h0
    rw [if_pos rfl]
    exact X_ts (d := 86) (lo := 0) (hi := 5) (offs := #[37, 43, 49, 68, 74, 80]) (o := 37) (by decide +kernel) (by decide +kernel) (by decide +kernel)
  rw [if_neg h0]
  by_cases h1 : x = 1
  · subst h1
    rw [if_pos rfl]
    exact X_ts (d := 86) (lo := 0) (hi := 5) (offs := #[37, 43, 49, 68, 74, 80]) (o := 43) (by decide +kernel) (by decide +kernel) (by decide +kernel)
  rw [if_neg h1]
  by_cases h2 : x = 2
  · subst h2
    rw [if_pos rfl]
    exact X_ts (d := 86) (lo := 0) (hi := 5) (offs := #[37, 43, 49, 68, 74, 80]) (o := 49) (by decide +kernel) (by decide +kernel) (by decide +kernel)
  rw [if_neg h2]
  by_cases h3 : x = 3
  · subst h3
    rw [if_pos rfl]
    exact X_ts (d := 86) (lo := 0) (hi := 5) (offs := #[37, 43, 49, 68, 74, 80]) (o := 68) (by decide +kernel) (by decide +kernel) (by decide +kernel)
  rw [if_neg h3]
  by_cases h4 : x = 4
  · subst h4
    rw [if_pos rfl]
    exact X_ts (d := 86) (lo := 0) (hi := 5) (offs := #[37, 43, 49, 68, 74, 80]) (o := 74) (by decide +kernel) (by decide +kernel) (by decide +kernel)
  rw [if_neg h4]
  by_cases h5 : x = 5
  · subst h5
    rw [if_pos rfl]
    exact X_ts (d := 86) (lo := 0) (hi := 5) (offs := #[37, 43, 49, 68, 74, 80]) (o := 80) (by decide +kernel) (by decide +kernel) (by decide +kernel)
  rw [if_neg h5]
  have g0 := lv_neT h0 (by decide +kernel : Int32.toInt 0 = 0)
  have g1 := lv_neT h1 (by decide +kernel : Int32.toInt 1 = 1)
  have g2 := lv_neT h2 (by decide +kernel : Int32.toInt 2 = 2)
  have g3 := lv_neT h3 (by decide +kernel : Int32.toInt 3 = 3)
  have g4 := lv_neT h4 (by decide +kernel : Int32.toInt 4 = 4)
  have g5 := lv_neT h5 (by decide +kernel : Int32.toInt 5 = 5)
  exact X_ts (d := 86) (lo := 0) (hi := 5) (offs := #[37, 43, 49, 68, 74, 80]) (o := 86) (by decide +kernel) (ts_out (by omega)) (by decide +kernel)
theorem x7_52 {x : Nat} {ls st : List Value} {σ : Hp} {K : Option Value → Hp → Prop} : X 7 52 (.ref x :: ls) (st) σ K = X 7 53 (.ref x :: ls) (.ref x :: st) σ K := X_aload_n (k := 0) (by decide +kernel) rfl
theorem x7_53 {l0 : Value} {x : Int32} {ls st : List Value} {σ : Hp} {K : Option Value → Hp → Prop} : X 7 53 (l0 :: .int x :: ls) (st) σ K = X 7 54 (l0 :: .int x :: ls) (.int x :: st) σ K := X_iload_n (k := 1) (by decide +kernel) rfl
theorem x7_54 {ls st : List Value} {b : Nat} {a0 : Int32}  {σ : Hp} {K : Option Value → Hp → Prop} (ho : okO σ b 1 = true) (hr : st.length ≤ 4) : X 7 54 (ls) (.int a0 :: .ref b :: st) σ K = X 9 0 [.ref b, .int a0] [] σ (fun v σ' => X 7 57 ls (pushO v st) σ' K) := X_invV (as := [.int a0]) (idx := 34) (k := 0) (z := 9) (w0 := 0) (w := 0) (n := 1) (q := 2) (by decide +kernel) (by decide +kernel) rfl (by decide +kernel) (by decide +kernel) rfl rfl (by decide +kernel) (Nat.le_of_ble_eq_true rfl) ho hr
theorem x7_57 {ls : List Value} {x : Int32} {σ : Hp} {K : Option Value → Hp → Prop} (hx : (x == 0 || x == 1) = true) : X 7 57 (ls) ([.int x]) σ K = K (some (.int x)) σ := X_zret (by decide +kernel) (by decide +kernel) hx
theorem x7_58 {x : Nat} {ls st : List Value} {σ : Hp} {K : Option Value → Hp → Prop} : X 7 58 (.ref x :: ls) (st) σ K = X 7 59 (.ref x :: ls) (.ref x :: st) σ K := X_aload_n (k := 0) (by decide +kernel) rfl
theorem x7_59 {l0 : Value} {x : Int32} {ls st : List Value} {σ : Hp} {K : Option Value → Hp → Prop} : X 7 59 (l0 :: .int x :: ls) (st) σ K = X 7 60 (l0 :: .int x :: ls) (.int x :: st) σ K := X_iload_n (k := 1) (by decide +kernel) rfl
theorem x7_60 {ls st : List Value} {b : Nat} {a0 : Int32}  {σ : Hp} {K : Option Value → Hp → Prop} (ho : okO σ b 1 = true) (hr : st.length ≤ 4) : X 7 60 (ls) (.int a0 :: .ref b :: st) σ K = X 10 0 [.ref b, .int a0] [] σ (fun v σ' => X 7 63 ls (pushO v st) σ' K) := X_invV (as := [.int a0]) (idx := 38) (k := 0) (z := 10) (w0 := 0) (w := 0) (n := 1) (q := 2) (by decide +kernel) (by decide +kernel) rfl (by decide +kernel) (by decide +kernel) rfl rfl (by decide +kernel) (Nat.le_of_ble_eq_true rfl) ho hr
theorem x7_63 {ls : List Value} {x : Int32} {σ : Hp} {K : Option Value → Hp → Prop} (hx : (x == 0 || x == 1) = true) : X 7 63 (ls) ([.int x]) σ K = K (some (.int x)) σ := X_zret (by decide +kernel) (by decide +kernel) hx
theorem x7_64 {l0 : Value} {x : Int32} {ls st : List Value} {σ : Hp} {K : Option Value → Hp → Prop} : X 7 64 (l0 :: .int x :: ls) (st) σ K = X 7 65 (l0 :: .int x :: ls) (.int x :: st) σ K := X_iload_n (k := 1) (by decide +kernel) rfl
theorem x7_65 {ls st : List Value} {σ : Hp} {K : Option Value → Hp → Prop} : X 7 65 (ls) (st) σ K = X 7 67 (ls) (.int 42 :: st) σ K := X_bipush (n := 42) (by decide +kernel) (by decide +kernel)
theorem x7_67 {ls st : List Value} {a b : Int32} {σ : Hp} {K : Option Value → Hp → Prop} : X 7 67 (ls) (.int b :: .int a :: st) σ K = if a = b then X 7 70 (ls) (st) σ K else X 7 77 (ls) (st) σ K := X_ic_ne (off := 10) (by decide +kernel) (by decide +kernel)
theorem x7_70 {x : Nat} {ls st : List Value} {σ : Hp} {K : Option Value → Hp → Prop} : X 7 70 (.ref x :: ls) (st) σ K = X 7 71 (.ref x :: ls) (.ref x :: st) σ K := X_aload_n (k := 0) (by decide +kernel) rfl
theorem x7_71 {ls st : List Value} {b : Nat}  {σ : Hp} {K : Option Value → Hp → Prop} (ho : okO σ b 1 = true) (hr : st.length ≤ 4) : X 7 71 (ls) (.ref b :: st) σ K = X 11 0 [.ref b] [] σ (fun v σ' => X 7 74 ls (pushO v st) σ' K) := X_invV (as := []) (idx := 41) (k := 0) (z := 11) (w0 := 0) (w := 0) (n := 0) (q := 1) (by decide +kernel) (by decide +kernel) rfl (by decide +kernel) (by decide +kernel) rfl rfl (by decide +kernel) (Nat.le_of_ble_eq_true rfl) ho hr
theorem x7_74 {ls st : List Value} {σ : Hp} {K : Option Value → Hp → Prop} : X 7 74 (ls) (st) σ K = X 7 82 (ls) (st) σ K := X_goto (off := 8) (by decide +kernel) (by decide +kernel)
theorem x7_77 {x : Nat} {ls st : List Value} {σ : Hp} {K : Option Value → Hp → Prop} : X 7 77 (.ref x :: ls) (st) σ K = X 7 78 (.ref x :: ls) (.ref x :: st) σ K := X_aload_n (k := 0) (by decide +kernel) rfl
theorem x7_78 {l0 : Value} {x : Int32} {ls st : List Value} {σ : Hp} {K : Option Value → Hp → Prop} : X 7 78 (l0 :: .int x :: ls) (st) σ K = X 7 79 (l0 :: .int x :: ls) (.int x :: st) σ K := X_iload_n (k := 1) (by decide +kernel) rfl
theorem x7_79 {ls st : List Value} {b : Nat} {a0 : Int32}  {σ : Hp} {K : Option Value → Hp → Prop} (ho : okO σ b 1 = true) (hr : st.length ≤ 4) : X 7 79 (ls) (.int a0 :: .ref b :: st) σ K = X 10 0 [.ref b, .int a0] [] σ (fun v σ' => X 7 82 ls (pushO v st) σ' K) := X_invV (as := [.int a0]) (idx := 38) (k := 0) (z := 10) (w0 := 0) (w := 0) (n := 1) (q := 2) (by decide +kernel) (by decide +kernel) rfl (by decide +kernel) (by decide +kernel) rfl rfl (by decide +kernel) (Nat.le_of_ble_eq_true rfl) ho hr
theorem x7_82 {ls : List Value} {x : Int32} {σ : Hp} {K : Option Value → Hp → Prop} (hx : (x == 0 || x == 1) = true) : X 7 82 (ls) ([.int x]) σ K = K (some (.int x)) σ := X_zret (by decide +kernel) (by decide +kernel) hx
theorem x7_83 {x : Nat} {ls st : List Value} {σ : Hp} {K : Option Value → Hp → Prop} : X 7 83 (.ref x :: ls) (st) σ K = X 7 84 (.ref x :: ls) (.ref x :: st) σ K := X_aload_n (k := 0) (by decide +kernel) rfl
theorem x7_84 {l0 : Value} {x : Int32} {ls st : List Value} {σ : Hp} {K : Option Value → Hp → Prop} : X 7 84 (l0 :: .int x :: ls) (st) σ K = X 7 85 (l0 :: .int x :: ls) (.int x :: st) σ K := X_iload_n (k := 1) (by decide +kernel) rfl
theorem x7_85 {ls st : List Value} {b : Nat} {a0 : Int32}  {σ : Hp} {K : Option Value → Hp → Prop} (ho : okO σ b 1 = true) (hr : st.length ≤ 4) : X 7 85 (ls) (.int a0 :: .ref b :: st) σ K = X 12 0 [.ref b, .int a0] [] σ (fun v σ' => X 7 88 ls (pushO v st) σ' K) := X_invV (as := [.int a0]) (idx := 44) (k := 0) (z := 12) (w0 := 0) (w := 0) (n := 1) (q := 2) (by decide +kernel) (by decide +kernel) rfl (by decide +kernel) (by decide +kernel) rfl rfl (by decide +kernel) (Nat.le_of_ble_eq_true rfl) ho hr
theorem x7_88 {ls : List Value} {x : Int32} {σ : Hp} {K : Option Value → Hp → Prop} (hx : (x == 0 || x == 1) = true) : X 7 88 (ls) ([.int x]) σ K = K (some (.int x)) σ := X_zret (by decide +kernel) (by decide +kernel) hx
theorem x7_89 {x : Nat} {ls st : List Value} {σ : Hp} {K : Option Value → Hp → Prop} : X 7 89 (.ref x :: ls) (st) σ K = X 7 90 (.ref x :: ls) (.ref x :: st) σ K := X_aload_n (k := 0) (by decide +kernel) rfl
theorem x7_90 {l0 : Value} {x : Int32} {ls st : List Value} {σ : Hp} {K : Option Value → Hp → Prop} : X 7 90 (l0 :: .int x :: ls) (st) σ K = X 7 91 (l0 :: .int x :: ls) (.int x :: st) σ K := X_iload_n (k := 1) (by decide +kernel) rfl
theorem x7_91 {ls st : List Value} {b : Nat} {a0 : Int32}  {σ : Hp} {K : Option Value → Hp → Prop} (ho : okO σ b 1 = true) (hr : st.length ≤ 4) : X 7 91 (ls) (.int a0 :: .ref b :: st) σ K = X 13 0 [.ref b, .int a0] [] σ (fun v σ' => X 7 94 ls (pushO v st) σ' K) := X_invV (as := [.int a0]) (idx := 47) (k := 0) (z := 13) (w0 := 0) (w := 0) (n := 1) (q := 2) (by decide +kernel) (by decide +kernel) rfl (by decide +kernel) (by decide +kernel) rfl rfl (by decide +kernel) (Nat.le_of_ble_eq_true rfl) ho hr
theorem x7_94 {ls : List Value} {x : Int32} {σ : Hp} {K : Option Value → Hp → Prop} (hx : (x == 0 || x == 1) = true) : X 7 94 (ls) ([.int x]) σ K = K (some (.int x)) σ := X_zret (by decide +kernel) (by decide +kernel) hx
theorem x7_95 {x : Nat} {ls st : List Value} {σ : Hp} {K : Option Value → Hp → Prop} : X 7 95 (.ref x :: ls) (st) σ K = X 7 96 (.ref x :: ls) (.ref x :: st) σ K := X_aload_n (k := 0) (by decide +kernel) rfl
theorem x7_96 {l0 : Value} {x : Int32} {ls st : List Value} {σ : Hp} {K : Option Value → Hp → Prop} : X 7 96 (l0 :: .int x :: ls) (st) σ K = X 7 97 (l0 :: .int x :: ls) (.int x :: st) σ K := X_iload_n (k := 1) (by decide +kernel) rfl
theorem x7_97 {ls st : List Value} {b : Nat} {a0 : Int32}  {σ : Hp} {K : Option Value → Hp → Prop} (ho : okO σ b 1 = true) (hr : st.length ≤ 4) : X 7 97 (ls) (.int a0 :: .ref b :: st) σ K = X 14 0 [.ref b, .int a0] [] σ (fun v σ' => X 7 100 ls (pushO v st) σ' K) := X_invV (as := [.int a0]) (idx := 50) (k := 0) (z := 14) (w0 := 0) (w := 0) (n := 1) (q := 2) (by decide +kernel) (by decide +kernel) rfl (by decide +kernel) (by decide +kernel) rfl rfl (by decide +kernel) (Nat.le_of_ble_eq_true rfl) ho hr
theorem x7_100 {ls : List Value} {x : Int32} {σ : Hp} {K : Option Value → Hp → Prop} (hx : (x == 0 || x == 1) = true) : X 7 100 (ls) ([.int x]) σ K = K (some (.int x)) σ := X_zret (by decide +kernel) (by decide +kernel) hx
theorem x7_101 {ls st : List Value} {σ : Hp} {K : Option Value → Hp → Prop} : X 7 101 (ls) (st) σ K = X 7 102 (ls) (.int 0 :: st) σ K := X_iconst (n := 0) (by decide +kernel) (by decide +kernel)
theorem x7_102 {ls : List Value} {x : Int32} {σ : Hp} {K : Option Value → Hp → Prop} (hx : (x == 0 || x == 1) = true) : X 7 102 (ls) ([.int x]) σ K = K (some (.int x)) σ := X_zret (by decide +kernel) (by decide +kernel) hx
theorem x8_0 {x : Nat} {ls st : List Value} {σ : Hp} {K : Option Value → Hp → Prop} : X 8 0 (.ref x :: ls) (st) σ K = X 8 1 (.ref x :: ls) (.ref x :: st) σ K := X_aload_n (k := 0) (by decide +kernel) rfl
theorem x8_1 {ls st : List Value} {b : Nat}  {σ : Hp} {K : Option Value → Hp → Prop} (ho : okO σ b 1 = true) (hr : st.length ≤ 4) : X 8 1 (ls) (.ref b :: st) σ K = X 6 0 [.ref b] [] σ (fun v σ' => X 8 4 ls (pushO v st) σ' K) := X_invV (as := []) (idx := 53) (k := 0) (z := 6) (w0 := 0) (w := 0) (n := 0) (q := 1) (by decide +kernel) (by decide +kernel) rfl (by decide +kernel) (by decide +kernel) rfl rfl (by decide +kernel) (Nat.le_of_ble_eq_true rfl) ho hr
theorem x8_4 {ls st : List Value} {x : Int32} {σ : Hp} {K : Option Value → Hp → Prop} : X 8 4 (ls) (.int x :: st) σ K = if x = 0 then X 8 7 (ls) (st) σ K else X 8 9 (ls) (st) σ K := X_if_ne (off := 5) (by decide +kernel) (by decide +kernel)
theorem x8_7 {ls st : List Value} {σ : Hp} {K : Option Value → Hp → Prop} : X 8 7 (ls) (st) σ K = X 8 8 (ls) (.int 0 :: st) σ K := X_iconst (n := 0) (by decide +kernel) (by decide +kernel)
theorem x8_8 {ls : List Value} {x : Int32} {σ : Hp} {K : Option Value → Hp → Prop} (hx : (x == 0 || x == 1) = true) : X 8 8 (ls) ([.int x]) σ K = K (some (.int x)) σ := X_zret (by decide +kernel) (by decide +kernel) hx
theorem x8_9 {x : Nat} {ls st : List Value} {σ : Hp} {K : Option Value → Hp → Prop} : X 8 9 (.ref x :: ls) (st) σ K = X 8 10 (.ref x :: ls) (.ref x :: st) σ K := X_aload_n (k := 0) (by decide +kernel) rfl
theorem x8_10 {ls st : List Value} {b : Nat}  {σ : Hp} {K : Option Value → Hp → Prop} (ho : okO σ b 1 = true) (hr : st.length ≤ 4) : X 8 10 (ls) (.ref b :: st) σ K = X 5 0 [.ref b] [] σ (fun v σ' => X 8 13 ls (pushO v st) σ' K) := X_invV (as := []) (idx := 56) (k := 0) (z := 5) (w0 := 0) (w := 0) (n := 0) (q := 1) (by decide +kernel) (by decide +kernel) rfl (by decide +kernel) (by decide +kernel) rfl rfl (by decide +kernel) (Nat.le_of_ble_eq_true rfl) ho hr
theorem x8_13 {ls st : List Value} {σ : Hp} {K : Option Value → Hp → Prop} : X 8 13 (ls) (st) σ K = X 8 14 (ls) (.int 1 :: st) σ K := X_iconst (n := 1) (by decide +kernel) (by decide +kernel)
theorem x8_14 {ls : List Value} {x : Int32} {σ : Hp} {K : Option Value → Hp → Prop} (hx : (x == 0 || x == 1) = true) : X 8 14 (ls) ([.int x]) σ K = K (some (.int x)) σ := X_zret (by decide +kernel) (by decide +kernel) hx
theorem x9_0 {l0 : Value} {x : Int32} {ls st : List Value} {σ : Hp} {K : Option Value → Hp → Prop} : X 9 0 (l0 :: .int x :: ls) (st) σ K = X 9 1 (l0 :: .int x :: ls) (.int x :: st) σ K := X_iload_n (k := 1) (by decide +kernel) rfl
theorem x9_1 {ls st : List Value} {x : Int32} {σ : Hp} {K : Option Value → Hp → Prop} : X 9 1 (ls) (.int x :: st) σ K = if x = 37 then X 9 48 (ls) (st) σ K else if x = 38 then X 9 60 (ls) (st) σ K else if x = 62 then X 9 36 (ls) (st) σ K else X 9 73 (ls) (st) σ K := by
  by_cases h0 : x = 37
  · subst h0
    rw [if_pos rfl]
    exact X_lsw (d := 72) (ps := #[(37, 47), (38, 59), (62, 35)]) (o := 47) (by decide +kernel) (by decide +kernel) (by decide +kernel) (by decide +kernel)
  rw [if_neg h0]
  by_cases h1 : x = 38
  · subst h1
    rw [if_pos rfl]
    exact X_lsw (d := 72) (ps := #[(37, 47), (38, 59), (62, 35)]) (o := 59) (by decide +kernel) (by decide +kernel) (by decide +kernel) (by decide +kernel)
  rw [if_neg h1]
  by_cases h2 : x = 62
  · subst h2
    rw [if_pos rfl]
    exact X_lsw (d := 72) (ps := #[(37, 47), (38, 59), (62, 35)]) (o := 35) (by decide +kernel) (by decide +kernel) (by decide +kernel) (by decide +kernel)
  rw [if_neg h2]
  exact X_lsw (d := 72) (ps := #[(37, 47), (38, 59), (62, 35)]) (o := 72) (by decide +kernel) (by decide +kernel) (by show Op.lookupswitch.offset [(37, 47), (38, 59), (62, 35)] 72 x.toInt = _; rw [lv_osw h0 (by decide +kernel)]; rw [lv_osw h1 (by decide +kernel)]; rw [lv_osw h2 (by decide +kernel)]; rfl) (by decide +kernel)
theorem x9_36 {x : Nat} {ls st : List Value} {σ : Hp} {K : Option Value → Hp → Prop} : X 9 36 (.ref x :: ls) (st) σ K = X 9 37 (.ref x :: ls) (.ref x :: st) σ K := X_aload_n (k := 0) (by decide +kernel) rfl
theorem x9_37 {ls st : List Value} {σ : Hp} {K : Option Value → Hp → Prop} : X 9 37 (ls) (st) σ K = X 9 38 (ls) (.int 1 :: st) σ K := X_iconst (n := 1) (by decide +kernel) (by decide +kernel)
theorem x9_38 {ls st : List Value} {a : Nat} {x : Int32} {σ : Hp} {K : Option Value → Hp → Prop} (ho : okF σ a 1 2 = true) : X 9 38 (ls) (.int x :: .ref a :: st) σ K = X 9 41 (ls) (st) (pF σ a 2 (.int x)) K := X_putf (idx := 18) (k := 10) (ci := 1) (f := 2) (w := 0) (by decide +kernel) (by decide +kernel) rfl (by decide +kernel) rfl (by decide +kernel) ho
theorem x9_41 {x : Nat} {ls st : List Value} {σ : Hp} {K : Option Value → Hp → Prop} : X 9 41 (.ref x :: ls) (st) σ K = X 9 42 (.ref x :: ls) (.ref x :: st) σ K := X_aload_n (k := 0) (by decide +kernel) rfl
theorem x9_42 {ls st : List Value} {σ : Hp} {K : Option Value → Hp → Prop} : X 9 42 (ls) (st) σ K = X 9 43 (ls) (.int 1 :: st) σ K := X_iconst (n := 1) (by decide +kernel) (by decide +kernel)
theorem x9_43 {ls st : List Value} {a : Nat} {x : Int32} {σ : Hp} {K : Option Value → Hp → Prop} (ho : okF σ a 1 0 = true) : X 9 43 (ls) (.int x :: .ref a :: st) σ K = X 9 46 (ls) (st) (pF σ a 0 (.int x)) K := X_putf (idx := 11) (k := 10) (ci := 1) (f := 0) (w := 0) (by decide +kernel) (by decide +kernel) rfl (by decide +kernel) rfl (by decide +kernel) ho
theorem x9_46 {ls st : List Value} {σ : Hp} {K : Option Value → Hp → Prop} : X 9 46 (ls) (st) σ K = X 9 47 (ls) (.int 1 :: st) σ K := X_iconst (n := 1) (by decide +kernel) (by decide +kernel)
theorem x9_47 {ls : List Value} {x : Int32} {σ : Hp} {K : Option Value → Hp → Prop} (hx : (x == 0 || x == 1) = true) : X 9 47 (ls) ([.int x]) σ K = K (some (.int x)) σ := X_zret (by decide +kernel) (by decide +kernel) hx
theorem x9_48 {x : Nat} {ls st : List Value} {σ : Hp} {K : Option Value → Hp → Prop} : X 9 48 (.ref x :: ls) (st) σ K = X 9 49 (.ref x :: ls) (.ref x :: st) σ K := X_aload_n (k := 0) (by decide +kernel) rfl
theorem x9_49 {ls st : List Value} {σ : Hp} {K : Option Value → Hp → Prop} : X 9 49 (ls) (st) σ K = X 9 50 (ls) (.int 1 :: st) σ K := X_iconst (n := 1) (by decide +kernel) (by decide +kernel)
theorem x9_50 {ls st : List Value} {a : Nat} {x : Int32} {σ : Hp} {K : Option Value → Hp → Prop} (ho : okF σ a 1 1 = true) : X 9 50 (ls) (.int x :: .ref a :: st) σ K = X 9 53 (ls) (st) (pF σ a 1 (.int x)) K := X_putf (idx := 15) (k := 10) (ci := 1) (f := 1) (w := 0) (by decide +kernel) (by decide +kernel) rfl (by decide +kernel) rfl (by decide +kernel) ho
theorem x9_53 {x : Nat} {ls st : List Value} {σ : Hp} {K : Option Value → Hp → Prop} : X 9 53 (.ref x :: ls) (st) σ K = X 9 54 (.ref x :: ls) (.ref x :: st) σ K := X_aload_n (k := 0) (by decide +kernel) rfl
theorem x9_54 {ls st : List Value} {σ : Hp} {K : Option Value → Hp → Prop} : X 9 54 (ls) (st) σ K = X 9 55 (ls) (.int 5 :: st) σ K := X_iconst (n := 5) (by decide +kernel) (by decide +kernel)
theorem x9_55 {ls st : List Value} {a : Nat} {x : Int32} {σ : Hp} {K : Option Value → Hp → Prop} (ho : okF σ a 1 0 = true) : X 9 55 (ls) (.int x :: .ref a :: st) σ K = X 9 58 (ls) (st) (pF σ a 0 (.int x)) K := X_putf (idx := 11) (k := 10) (ci := 1) (f := 0) (w := 0) (by decide +kernel) (by decide +kernel) rfl (by decide +kernel) rfl (by decide +kernel) ho
theorem x9_58 {ls st : List Value} {σ : Hp} {K : Option Value → Hp → Prop} : X 9 58 (ls) (st) σ K = X 9 59 (ls) (.int 1 :: st) σ K := X_iconst (n := 1) (by decide +kernel) (by decide +kernel)
theorem x9_59 {ls : List Value} {x : Int32} {σ : Hp} {K : Option Value → Hp → Prop} (hx : (x == 0 || x == 1) = true) : X 9 59 (ls) ([.int x]) σ K = K (some (.int x)) σ := X_zret (by decide +kernel) (by decide +kernel) hx
theorem x9_60 {x : Nat} {ls st : List Value} {σ : Hp} {K : Option Value → Hp → Prop} : X 9 60 (.ref x :: ls) (st) σ K = X 9 61 (.ref x :: ls) (.ref x :: st) σ K := X_aload_n (k := 0) (by decide +kernel) rfl
theorem x9_61 {ls st : List Value} {σ : Hp} {K : Option Value → Hp → Prop} : X 9 61 (ls) (st) σ K = X 9 62 (ls) (.int 2 :: st) σ K := X_iconst (n := 2) (by decide +kernel) (by decide +kernel)
theorem x9_62 {ls st : List Value} {a : Nat} {x : Int32} {σ : Hp} {K : Option Value → Hp → Prop} (ho : okF σ a 1 1 = true) : X 9 62 (ls) (.int x :: .ref a :: st) σ K = X 9 65 (ls) (st) (pF σ a 1 (.int x)) K := X_putf (idx := 15) (k := 10) (ci := 1) (f := 1) (w := 0) (by decide +kernel) (by decide +kernel) rfl (by decide +kernel) rfl (by decide +kernel) ho
theorem x9_65 {x : Nat} {ls st : List Value} {σ : Hp} {K : Option Value → Hp → Prop} : X 9 65 (.ref x :: ls) (st) σ K = X 9 66 (.ref x :: ls) (.ref x :: st) σ K := X_aload_n (k := 0) (by decide +kernel) rfl
theorem x9_66 {ls st : List Value} {σ : Hp} {K : Option Value → Hp → Prop} : X 9 66 (ls) (st) σ K = X 9 68 (ls) (.int 6 :: st) σ K := X_bipush (n := 6) (by decide +kernel) (by decide +kernel)
theorem x9_68 {ls st : List Value} {a : Nat} {x : Int32} {σ : Hp} {K : Option Value → Hp → Prop} (ho : okF σ a 1 0 = true) : X 9 68 (ls) (.int x :: .ref a :: st) σ K = X 9 71 (ls) (st) (pF σ a 0 (.int x)) K := X_putf (idx := 11) (k := 10) (ci := 1) (f := 0) (w := 0) (by decide +kernel) (by decide +kernel) rfl (by decide +kernel) rfl (by decide +kernel) ho
theorem x9_71 {ls st : List Value} {σ : Hp} {K : Option Value → Hp → Prop} : X 9 71 (ls) (st) σ K = X 9 72 (ls) (.int 1 :: st) σ K := X_iconst (n := 1) (by decide +kernel) (by decide +kernel)
theorem x9_72 {ls : List Value} {x : Int32} {σ : Hp} {K : Option Value → Hp → Prop} (hx : (x == 0 || x == 1) = true) : X 9 72 (ls) ([.int x]) σ K = K (some (.int x)) σ := X_zret (by decide +kernel) (by decide +kernel) hx
theorem x9_73 {x : Nat} {ls st : List Value} {σ : Hp} {K : Option Value → Hp → Prop} : X 9 73 (.ref x :: ls) (st) σ K = X 9 74 (.ref x :: ls) (.ref x :: st) σ K := X_aload_n (k := 0) (by decide +kernel) rfl
theorem x9_74 {l0 : Value} {x : Int32} {ls st : List Value} {σ : Hp} {K : Option Value → Hp → Prop} : X 9 74 (l0 :: .int x :: ls) (st) σ K = X 9 75 (l0 :: .int x :: ls) (.int x :: st) σ K := X_iload_n (k := 1) (by decide +kernel) rfl
theorem x9_75 {ls st : List Value} {b : Nat} {a0 : Int32}  {σ : Hp} {K : Option Value → Hp → Prop} (ho : okO σ b 1 = true) (hr : st.length ≤ 4) : X 9 75 (ls) (.int a0 :: .ref b :: st) σ K = X 10 0 [.ref b, .int a0] [] σ (fun v σ' => X 9 78 ls (pushO v st) σ' K) := X_invV (as := [.int a0]) (idx := 38) (k := 0) (z := 10) (w0 := 0) (w := 0) (n := 1) (q := 2) (by decide +kernel) (by decide +kernel) rfl (by decide +kernel) (by decide +kernel) rfl rfl (by decide +kernel) (Nat.le_of_ble_eq_true rfl) ho hr
theorem x9_78 {ls : List Value} {x : Int32} {σ : Hp} {K : Option Value → Hp → Prop} (hx : (x == 0 || x == 1) = true) : X 9 78 (ls) ([.int x]) σ K = K (some (.int x)) σ := X_zret (by decide +kernel) (by decide +kernel) hx
theorem x10_0 {l0 : Value} {x : Int32} {ls st : List Value} {σ : Hp} {K : Option Value → Hp → Prop} : X 10 0 (l0 :: .int x :: ls) (st) σ K = X 10 1 (l0 :: .int x :: ls) (.int x :: st) σ K := X_iload_n (k := 1) (by decide +kernel) rfl
theorem x10_1 {ls st : List Value} {σ : Hp} {K : Option Value → Hp → Prop} : X 10 1 (ls) (st) σ K = X 10 3 (ls) (.int 97 :: st) σ K := X_bipush (n := 97) (by decide +kernel) (by decide +kernel)
theorem x10_3 {ls st : List Value} {a b : Int32} {σ : Hp} {K : Option Value → Hp → Prop} : X 10 3 (ls) (.int b :: .int a :: st) σ K = if a < b then X 10 20 (ls) (st) σ K else X 10 6 (ls) (st) σ K := X_ic_lt (off := 17) (by decide +kernel) (by decide +kernel)
theorem x10_6 {l0 : Value} {x : Int32} {ls st : List Value} {σ : Hp} {K : Option Value → Hp → Prop} : X 10 6 (l0 :: .int x :: ls) (st) σ K = X 10 7 (l0 :: .int x :: ls) (.int x :: st) σ K := X_iload_n (k := 1) (by decide +kernel) rfl
theorem x10_7 {ls st : List Value} {σ : Hp} {K : Option Value → Hp → Prop} : X 10 7 (ls) (st) σ K = X 10 9 (ls) (.int 122 :: st) σ K := X_bipush (n := 122) (by decide +kernel) (by decide +kernel)
theorem x10_9 {ls st : List Value} {a b : Int32} {σ : Hp} {K : Option Value → Hp → Prop} : X 10 9 (ls) (.int b :: .int a :: st) σ K = if b < a then X 10 20 (ls) (st) σ K else X 10 12 (ls) (st) σ K := X_ic_gt (off := 11) (by decide +kernel) (by decide +kernel)
theorem x10_12 {x : Nat} {ls st : List Value} {σ : Hp} {K : Option Value → Hp → Prop} : X 10 12 (.ref x :: ls) (st) σ K = X 10 13 (.ref x :: ls) (.ref x :: st) σ K := X_aload_n (k := 0) (by decide +kernel) rfl
theorem x10_13 {ls st : List Value} {a : Nat} {σ : Hp} {K : Option Value → Hp → Prop} (ho : okF σ a 1 4 = true) : X 10 13 (ls) (.ref a :: st) σ K = X 10 16 (ls) (gF σ a 4 :: st) σ K := X_getf (idx := 24) (k := 10) (ci := 1) (f := 4) (w := 0) (by decide +kernel) (by decide +kernel) rfl (by decide +kernel) ho
theorem x10_16 {ls st : List Value} {σ : Hp} {K : Option Value → Hp → Prop} : X 10 16 (ls) (st) σ K = X 10 17 (ls) (.int 4 :: st) σ K := X_iconst (n := 4) (by decide +kernel) (by decide +kernel)
theorem x10_17 {ls st : List Value} {a b : Int32} {σ : Hp} {K : Option Value → Hp → Prop} : X 10 17 (ls) (.int b :: .int a :: st) σ K = if a < b then X 10 22 (ls) (st) σ K else X 10 20 (ls) (st) σ K := X_ic_lt (off := 5) (by decide +kernel) (by decide +kernel)
theorem x10_20 {ls st : List Value} {σ : Hp} {K : Option Value → Hp → Prop} : X 10 20 (ls) (st) σ K = X 10 21 (ls) (.int 0 :: st) σ K := X_iconst (n := 0) (by decide +kernel) (by decide +kernel)
theorem x10_21 {ls : List Value} {x : Int32} {σ : Hp} {K : Option Value → Hp → Prop} (hx : (x == 0 || x == 1) = true) : X 10 21 (ls) ([.int x]) σ K = K (some (.int x)) σ := X_zret (by decide +kernel) (by decide +kernel) hx
theorem x10_22 {x : Nat} {ls st : List Value} {σ : Hp} {K : Option Value → Hp → Prop} : X 10 22 (.ref x :: ls) (st) σ K = X 10 23 (.ref x :: ls) (.ref x :: st) σ K := X_aload_n (k := 0) (by decide +kernel) rfl
theorem x10_23 {ls st : List Value} {σ : Hp} {K : Option Value → Hp → Prop} : X 10 23 (ls) (st) σ K = X 10 25 (ls) (.int 27 :: st) σ K := X_bipush (n := 27) (by decide +kernel) (by decide +kernel)
theorem x10_25 {x : Nat} {ls st : List Value} {σ : Hp} {K : Option Value → Hp → Prop} : X 10 25 (.ref x :: ls) (st) σ K = X 10 26 (.ref x :: ls) (.ref x :: st) σ K := X_aload_n (k := 0) (by decide +kernel) rfl
theorem x10_26 {ls st : List Value} {a : Nat} {σ : Hp} {K : Option Value → Hp → Prop} (ho : okF σ a 1 3 = true) : X 10 26 (ls) (.ref a :: st) σ K = X 10 29 (ls) (gF σ a 3 :: st) σ K := X_getf (idx := 21) (k := 10) (ci := 1) (f := 3) (w := 0) (by decide +kernel) (by decide +kernel) rfl (by decide +kernel) ho
theorem x10_29 {ls st : List Value} {a b : Int32} {σ : Hp} {K : Option Value → Hp → Prop} : X 10 29 (ls) (.int b :: .int a :: st) σ K = X 10 30 (ls) (.int (a * b) :: st) σ K := X_imul (by decide +kernel)
theorem x10_30 {l0 : Value} {x : Int32} {ls st : List Value} {σ : Hp} {K : Option Value → Hp → Prop} : X 10 30 (l0 :: .int x :: ls) (st) σ K = X 10 31 (l0 :: .int x :: ls) (.int x :: st) σ K := X_iload_n (k := 1) (by decide +kernel) rfl
theorem x10_31 {ls st : List Value} {σ : Hp} {K : Option Value → Hp → Prop} : X 10 31 (ls) (st) σ K = X 10 33 (ls) (.int 97 :: st) σ K := X_bipush (n := 97) (by decide +kernel) (by decide +kernel)
theorem x10_33 {ls st : List Value} {a b : Int32} {σ : Hp} {K : Option Value → Hp → Prop} : X 10 33 (ls) (.int b :: .int a :: st) σ K = X 10 34 (ls) (.int (a - b) :: st) σ K := X_isub (by decide +kernel)
theorem x10_34 {ls st : List Value} {σ : Hp} {K : Option Value → Hp → Prop} : X 10 34 (ls) (st) σ K = X 10 35 (ls) (.int 1 :: st) σ K := X_iconst (n := 1) (by decide +kernel) (by decide +kernel)
theorem x10_35 {ls st : List Value} {a b : Int32} {σ : Hp} {K : Option Value → Hp → Prop} : X 10 35 (ls) (.int b :: .int a :: st) σ K = X 10 36 (ls) (.int (a + b) :: st) σ K := X_iadd (by decide +kernel)
theorem x10_36 {ls st : List Value} {a b : Int32} {σ : Hp} {K : Option Value → Hp → Prop} : X 10 36 (ls) (.int b :: .int a :: st) σ K = X 10 37 (ls) (.int (a + b) :: st) σ K := X_iadd (by decide +kernel)
theorem x10_37 {ls st : List Value} {a : Nat} {x : Int32} {σ : Hp} {K : Option Value → Hp → Prop} (ho : okF σ a 1 3 = true) : X 10 37 (ls) (.int x :: .ref a :: st) σ K = X 10 40 (ls) (st) (pF σ a 3 (.int x)) K := X_putf (idx := 21) (k := 10) (ci := 1) (f := 3) (w := 0) (by decide +kernel) (by decide +kernel) rfl (by decide +kernel) rfl (by decide +kernel) ho
theorem x10_40 {x : Nat} {ls st : List Value} {σ : Hp} {K : Option Value → Hp → Prop} : X 10 40 (.ref x :: ls) (st) σ K = X 10 41 (.ref x :: ls) (.ref x :: st) σ K := X_aload_n (k := 0) (by decide +kernel) rfl
theorem x10_41 {ls st : List Value} {a : Nat} {σ : Hp} {K : Option Value → Hp → Prop} : X 10 41 (ls) (.ref a :: st) σ K = X 10 42 (ls) (.ref a :: .ref a :: st) σ K := X_dupA (by decide +kernel)
theorem x10_41i {ls st : List Value} {a : Int32} {σ : Hp} {K : Option Value → Hp → Prop} : X 10 41 (ls) (.int a :: st) σ K = X 10 42 (ls) (.int a :: .int a :: st) σ K := X_dupI (by decide +kernel)
theorem x10_42 {ls st : List Value} {a : Nat} {σ : Hp} {K : Option Value → Hp → Prop} (ho : okF σ a 1 4 = true) : X 10 42 (ls) (.ref a :: st) σ K = X 10 45 (ls) (gF σ a 4 :: st) σ K := X_getf (idx := 24) (k := 10) (ci := 1) (f := 4) (w := 0) (by decide +kernel) (by decide +kernel) rfl (by decide +kernel) ho
theorem x10_45 {ls st : List Value} {σ : Hp} {K : Option Value → Hp → Prop} : X 10 45 (ls) (st) σ K = X 10 46 (ls) (.int 1 :: st) σ K := X_iconst (n := 1) (by decide +kernel) (by decide +kernel)
theorem x10_46 {ls st : List Value} {a b : Int32} {σ : Hp} {K : Option Value → Hp → Prop} : X 10 46 (ls) (.int b :: .int a :: st) σ K = X 10 47 (ls) (.int (a + b) :: st) σ K := X_iadd (by decide +kernel)
theorem x10_47 {ls st : List Value} {a : Nat} {x : Int32} {σ : Hp} {K : Option Value → Hp → Prop} (ho : okF σ a 1 4 = true) : X 10 47 (ls) (.int x :: .ref a :: st) σ K = X 10 50 (ls) (st) (pF σ a 4 (.int x)) K := X_putf (idx := 24) (k := 10) (ci := 1) (f := 4) (w := 0) (by decide +kernel) (by decide +kernel) rfl (by decide +kernel) rfl (by decide +kernel) ho
theorem x10_50 {x : Nat} {ls st : List Value} {σ : Hp} {K : Option Value → Hp → Prop} : X 10 50 (.ref x :: ls) (st) σ K = X 10 51 (.ref x :: ls) (.ref x :: st) σ K := X_aload_n (k := 0) (by decide +kernel) rfl
theorem x10_51 {ls st : List Value} {σ : Hp} {K : Option Value → Hp → Prop} : X 10 51 (ls) (st) σ K = X 10 52 (ls) (.int 2 :: st) σ K := X_iconst (n := 2) (by decide +kernel) (by decide +kernel)
theorem x10_52 {ls st : List Value} {a : Nat} {x : Int32} {σ : Hp} {K : Option Value → Hp → Prop} (ho : okF σ a 1 0 = true) : X 10 52 (ls) (.int x :: .ref a :: st) σ K = X 10 55 (ls) (st) (pF σ a 0 (.int x)) K := X_putf (idx := 11) (k := 10) (ci := 1) (f := 0) (w := 0) (by decide +kernel) (by decide +kernel) rfl (by decide +kernel) rfl (by decide +kernel) ho
theorem x10_55 {ls st : List Value} {σ : Hp} {K : Option Value → Hp → Prop} : X 10 55 (ls) (st) σ K = X 10 56 (ls) (.int 1 :: st) σ K := X_iconst (n := 1) (by decide +kernel) (by decide +kernel)
theorem x10_56 {ls : List Value} {x : Int32} {σ : Hp} {K : Option Value → Hp → Prop} (hx : (x == 0 || x == 1) = true) : X 10 56 (ls) ([.int x]) σ K = K (some (.int x)) σ := X_zret (by decide +kernel) (by decide +kernel) hx
theorem x11_0 {x : Nat} {ls st : List Value} {σ : Hp} {K : Option Value → Hp → Prop} : X 11 0 (.ref x :: ls) (st) σ K = X 11 1 (.ref x :: ls) (.ref x :: st) σ K := X_aload_n (k := 0) (by decide +kernel) rfl
theorem x11_1 {ls st : List Value} {σ : Hp} {K : Option Value → Hp → Prop} : X 11 1 (ls) (st) σ K = X 11 2 (ls) (.int 3 :: st) σ K := X_iconst (n := 3) (by decide +kernel) (by decide +kernel)
theorem x11_2 {ls st : List Value} {a : Nat} {x : Int32} {σ : Hp} {K : Option Value → Hp → Prop} (ho : okF σ a 1 0 = true) : X 11 2 (ls) (.int x :: .ref a :: st) σ K = X 11 5 (ls) (st) (pF σ a 0 (.int x)) K := X_putf (idx := 11) (k := 10) (ci := 1) (f := 0) (w := 0) (by decide +kernel) (by decide +kernel) rfl (by decide +kernel) rfl (by decide +kernel) ho
theorem x11_5 {ls st : List Value} {σ : Hp} {K : Option Value → Hp → Prop} : X 11 5 (ls) (st) σ K = X 11 6 (ls) (.int 1 :: st) σ K := X_iconst (n := 1) (by decide +kernel) (by decide +kernel)
theorem x11_6 {ls : List Value} {x : Int32} {σ : Hp} {K : Option Value → Hp → Prop} (hx : (x == 0 || x == 1) = true) : X 11 6 (ls) ([.int x]) σ K = K (some (.int x)) σ := X_zret (by decide +kernel) (by decide +kernel) hx
theorem x12_0 {l0 : Value} {x : Int32} {ls st : List Value} {σ : Hp} {K : Option Value → Hp → Prop} : X 12 0 (l0 :: .int x :: ls) (st) σ K = X 12 1 (l0 :: .int x :: ls) (.int x :: st) σ K := X_iload_n (k := 1) (by decide +kernel) rfl
theorem x12_1 {ls st : List Value} {a0 : Int32}  {σ : Hp} {K : Option Value → Hp → Prop} (hr : st.length ≤ 4) : X 12 1 (ls) (.int a0 :: st) σ K = X 15 0 [.int a0] [] σ (fun v σ' => X 12 4 ls (pushO v st) σ' K) := X_invS (as := [.int a0]) (idx := 59) (k := 2) (z := 15) (w0 := 0) (w := 0) (n := 1) (q := 1) (by decide +kernel) (by decide +kernel) (by decide +kernel) (by decide +kernel) (by decide +kernel) rfl rfl (by decide +kernel) (Nat.le_of_ble_eq_true rfl) hr
theorem x12_4 {ls st : List Value} {x : Int32} {σ : Hp} {K : Option Value → Hp → Prop} : X 12 4 (ls) (.int x :: st) σ K = if x = 0 then X 12 7 (ls) (st) σ K else X 12 9 (ls) (st) σ K := X_if_ne (off := 5) (by decide +kernel) (by decide +kernel)
theorem x12_7 {ls st : List Value} {σ : Hp} {K : Option Value → Hp → Prop} : X 12 7 (ls) (st) σ K = X 12 8 (ls) (.int 0 :: st) σ K := X_iconst (n := 0) (by decide +kernel) (by decide +kernel)
theorem x12_8 {ls : List Value} {x : Int32} {σ : Hp} {K : Option Value → Hp → Prop} (hx : (x == 0 || x == 1) = true) : X 12 8 (ls) ([.int x]) σ K = K (some (.int x)) σ := X_zret (by decide +kernel) (by decide +kernel) hx
theorem x12_9 {x : Nat} {ls st : List Value} {σ : Hp} {K : Option Value → Hp → Prop} : X 12 9 (.ref x :: ls) (st) σ K = X 12 10 (.ref x :: ls) (.ref x :: st) σ K := X_aload_n (k := 0) (by decide +kernel) rfl
theorem x12_10 {l0 : Value} {x : Int32} {ls st : List Value} {σ : Hp} {K : Option Value → Hp → Prop} : X 12 10 (l0 :: .int x :: ls) (st) σ K = X 12 11 (l0 :: .int x :: ls) (.int x :: st) σ K := X_iload_n (k := 1) (by decide +kernel) rfl
theorem x12_11 {ls st : List Value} {σ : Hp} {K : Option Value → Hp → Prop} : X 12 11 (ls) (st) σ K = X 12 13 (ls) (.int 48 :: st) σ K := X_bipush (n := 48) (by decide +kernel) (by decide +kernel)
theorem x12_13 {ls st : List Value} {a b : Int32} {σ : Hp} {K : Option Value → Hp → Prop} : X 12 13 (ls) (.int b :: .int a :: st) σ K = X 12 14 (ls) (.int (a - b) :: st) σ K := X_isub (by decide +kernel)
theorem x12_14 {ls st : List Value} {a : Nat} {x : Int32} {σ : Hp} {K : Option Value → Hp → Prop} (ho : okF σ a 1 5 = true) : X 12 14 (ls) (.int x :: .ref a :: st) σ K = X 12 17 (ls) (st) (pF σ a 5 (.int x)) K := X_putf (idx := 27) (k := 10) (ci := 1) (f := 5) (w := 0) (by decide +kernel) (by decide +kernel) rfl (by decide +kernel) rfl (by decide +kernel) ho
theorem x12_17 {x : Nat} {ls st : List Value} {σ : Hp} {K : Option Value → Hp → Prop} : X 12 17 (.ref x :: ls) (st) σ K = X 12 18 (.ref x :: ls) (.ref x :: st) σ K := X_aload_n (k := 0) (by decide +kernel) rfl
theorem x12_18 {ls st : List Value} {σ : Hp} {K : Option Value → Hp → Prop} : X 12 18 (ls) (st) σ K = X 12 19 (ls) (.int 4 :: st) σ K := X_iconst (n := 4) (by decide +kernel) (by decide +kernel)
theorem x12_19 {ls st : List Value} {a : Nat} {x : Int32} {σ : Hp} {K : Option Value → Hp → Prop} (ho : okF σ a 1 0 = true) : X 12 19 (ls) (.int x :: .ref a :: st) σ K = X 12 22 (ls) (st) (pF σ a 0 (.int x)) K := X_putf (idx := 11) (k := 10) (ci := 1) (f := 0) (w := 0) (by decide +kernel) (by decide +kernel) rfl (by decide +kernel) rfl (by decide +kernel) ho
theorem x12_22 {ls st : List Value} {σ : Hp} {K : Option Value → Hp → Prop} : X 12 22 (ls) (st) σ K = X 12 23 (ls) (.int 1 :: st) σ K := X_iconst (n := 1) (by decide +kernel) (by decide +kernel)
theorem x12_23 {ls : List Value} {x : Int32} {σ : Hp} {K : Option Value → Hp → Prop} (hx : (x == 0 || x == 1) = true) : X 12 23 (ls) ([.int x]) σ K = K (some (.int x)) σ := X_zret (by decide +kernel) (by decide +kernel) hx
theorem x13_0 {l0 : Value} {x : Int32} {ls st : List Value} {σ : Hp} {K : Option Value → Hp → Prop} : X 13 0 (l0 :: .int x :: ls) (st) σ K = X 13 1 (l0 :: .int x :: ls) (.int x :: st) σ K := X_iload_n (k := 1) (by decide +kernel) rfl
theorem x13_1 {ls st : List Value} {a0 : Int32}  {σ : Hp} {K : Option Value → Hp → Prop} (hr : st.length ≤ 4) : X 13 1 (ls) (.int a0 :: st) σ K = X 15 0 [.int a0] [] σ (fun v σ' => X 13 4 ls (pushO v st) σ' K) := X_invS (as := [.int a0]) (idx := 59) (k := 2) (z := 15) (w0 := 0) (w := 0) (n := 1) (q := 1) (by decide +kernel) (by decide +kernel) (by decide +kernel) (by decide +kernel) (by decide +kernel) rfl rfl (by decide +kernel) (Nat.le_of_ble_eq_true rfl) hr
theorem x13_4 {ls st : List Value} {x : Int32} {σ : Hp} {K : Option Value → Hp → Prop} : X 13 4 (ls) (.int x :: st) σ K = if x = 0 then X 13 32 (ls) (st) σ K else X 13 7 (ls) (st) σ K := X_if_eq (off := 28) (by decide +kernel) (by decide +kernel)
theorem x13_7 {x : Nat} {ls st : List Value} {σ : Hp} {K : Option Value → Hp → Prop} : X 13 7 (.ref x :: ls) (st) σ K = X 13 8 (.ref x :: ls) (.ref x :: st) σ K := X_aload_n (k := 0) (by decide +kernel) rfl
theorem x13_8 {ls st : List Value} {a : Nat} {σ : Hp} {K : Option Value → Hp → Prop} (ho : okF σ a 1 5 = true) : X 13 8 (ls) (.ref a :: st) σ K = X 13 11 (ls) (gF σ a 5 :: st) σ K := X_getf (idx := 27) (k := 10) (ci := 1) (f := 5) (w := 0) (by decide +kernel) (by decide +kernel) rfl (by decide +kernel) ho
theorem x13_11 {ls st : List Value} {x : Int32} {σ : Hp} {K : Option Value → Hp → Prop} : X 13 11 (ls) (.int x :: st) σ K = if x = 0 then X 13 32 (ls) (st) σ K else X 13 14 (ls) (st) σ K := X_if_eq (off := 21) (by decide +kernel) (by decide +kernel)
theorem x13_14 {ls st : List Value} {σ : Hp} {K : Option Value → Hp → Prop} : X 13 14 (ls) (st) σ K = X 13 16 (ls) (.int 10 :: st) σ K := X_bipush (n := 10) (by decide +kernel) (by decide +kernel)
theorem x13_16 {x : Nat} {ls st : List Value} {σ : Hp} {K : Option Value → Hp → Prop} : X 13 16 (.ref x :: ls) (st) σ K = X 13 17 (.ref x :: ls) (.ref x :: st) σ K := X_aload_n (k := 0) (by decide +kernel) rfl
theorem x13_17 {ls st : List Value} {a : Nat} {σ : Hp} {K : Option Value → Hp → Prop} (ho : okF σ a 1 5 = true) : X 13 17 (ls) (.ref a :: st) σ K = X 13 20 (ls) (gF σ a 5 :: st) σ K := X_getf (idx := 27) (k := 10) (ci := 1) (f := 5) (w := 0) (by decide +kernel) (by decide +kernel) rfl (by decide +kernel) ho
theorem x13_20 {ls st : List Value} {a b : Int32} {σ : Hp} {K : Option Value → Hp → Prop} : X 13 20 (ls) (.int b :: .int a :: st) σ K = X 13 21 (ls) (.int (a * b) :: st) σ K := X_imul (by decide +kernel)
theorem x13_21 {l0 : Value} {x : Int32} {ls st : List Value} {σ : Hp} {K : Option Value → Hp → Prop} : X 13 21 (l0 :: .int x :: ls) (st) σ K = X 13 22 (l0 :: .int x :: ls) (.int x :: st) σ K := X_iload_n (k := 1) (by decide +kernel) rfl
theorem x13_22 {ls st : List Value} {σ : Hp} {K : Option Value → Hp → Prop} : X 13 22 (ls) (st) σ K = X 13 24 (ls) (.int 48 :: st) σ K := X_bipush (n := 48) (by decide +kernel) (by decide +kernel)
theorem x13_24 {ls st : List Value} {a b : Int32} {σ : Hp} {K : Option Value → Hp → Prop} : X 13 24 (ls) (.int b :: .int a :: st) σ K = X 13 25 (ls) (.int (a - b) :: st) σ K := X_isub (by decide +kernel)
theorem x13_25 {ls st : List Value} {a b : Int32} {σ : Hp} {K : Option Value → Hp → Prop} : X 13 25 (ls) (.int b :: .int a :: st) σ K = X 13 26 (ls) (.int (a + b) :: st) σ K := X_iadd (by decide +kernel)
theorem x13_26 {ls st : List Value} {σ : Hp} {K : Option Value → Hp → Prop} : X 13 26 (ls) (st) σ K = X 13 29 (ls) (.int 999 :: st) σ K := X_sipush (n := 999) (by decide +kernel) (by decide +kernel)
theorem x13_29 {ls st : List Value} {a b : Int32} {σ : Hp} {K : Option Value → Hp → Prop} : X 13 29 (ls) (.int b :: .int a :: st) σ K = if b < a then X 13 32 (ls) (st) σ K else X 13 34 (ls) (st) σ K := X_ic_le (off := 5) (by decide +kernel) (by decide +kernel)
theorem x13_32 {ls st : List Value} {σ : Hp} {K : Option Value → Hp → Prop} : X 13 32 (ls) (st) σ K = X 13 33 (ls) (.int 0 :: st) σ K := X_iconst (n := 0) (by decide +kernel) (by decide +kernel)
theorem x13_33 {ls : List Value} {x : Int32} {σ : Hp} {K : Option Value → Hp → Prop} (hx : (x == 0 || x == 1) = true) : X 13 33 (ls) ([.int x]) σ K = K (some (.int x)) σ := X_zret (by decide +kernel) (by decide +kernel) hx
theorem x13_34 {x : Nat} {ls st : List Value} {σ : Hp} {K : Option Value → Hp → Prop} : X 13 34 (.ref x :: ls) (st) σ K = X 13 35 (.ref x :: ls) (.ref x :: st) σ K := X_aload_n (k := 0) (by decide +kernel) rfl
theorem x13_35 {ls st : List Value} {σ : Hp} {K : Option Value → Hp → Prop} : X 13 35 (ls) (st) σ K = X 13 37 (ls) (.int 10 :: st) σ K := X_bipush (n := 10) (by decide +kernel) (by decide +kernel)
theorem x13_37 {x : Nat} {ls st : List Value} {σ : Hp} {K : Option Value → Hp → Prop} : X 13 37 (.ref x :: ls) (st) σ K = X 13 38 (.ref x :: ls) (.ref x :: st) σ K := X_aload_n (k := 0) (by decide +kernel) rfl
theorem x13_38 {ls st : List Value} {a : Nat} {σ : Hp} {K : Option Value → Hp → Prop} (ho : okF σ a 1 5 = true) : X 13 38 (ls) (.ref a :: st) σ K = X 13 41 (ls) (gF σ a 5 :: st) σ K := X_getf (idx := 27) (k := 10) (ci := 1) (f := 5) (w := 0) (by decide +kernel) (by decide +kernel) rfl (by decide +kernel) ho
theorem x13_41 {ls st : List Value} {a b : Int32} {σ : Hp} {K : Option Value → Hp → Prop} : X 13 41 (ls) (.int b :: .int a :: st) σ K = X 13 42 (ls) (.int (a * b) :: st) σ K := X_imul (by decide +kernel)
theorem x13_42 {l0 : Value} {x : Int32} {ls st : List Value} {σ : Hp} {K : Option Value → Hp → Prop} : X 13 42 (l0 :: .int x :: ls) (st) σ K = X 13 43 (l0 :: .int x :: ls) (.int x :: st) σ K := X_iload_n (k := 1) (by decide +kernel) rfl
theorem x13_43 {ls st : List Value} {σ : Hp} {K : Option Value → Hp → Prop} : X 13 43 (ls) (st) σ K = X 13 45 (ls) (.int 48 :: st) σ K := X_bipush (n := 48) (by decide +kernel) (by decide +kernel)
theorem x13_45 {ls st : List Value} {a b : Int32} {σ : Hp} {K : Option Value → Hp → Prop} : X 13 45 (ls) (.int b :: .int a :: st) σ K = X 13 46 (ls) (.int (a - b) :: st) σ K := X_isub (by decide +kernel)
theorem x13_46 {ls st : List Value} {a b : Int32} {σ : Hp} {K : Option Value → Hp → Prop} : X 13 46 (ls) (.int b :: .int a :: st) σ K = X 13 47 (ls) (.int (a + b) :: st) σ K := X_iadd (by decide +kernel)
theorem x13_47 {ls st : List Value} {a : Nat} {x : Int32} {σ : Hp} {K : Option Value → Hp → Prop} (ho : okF σ a 1 5 = true) : X 13 47 (ls) (.int x :: .ref a :: st) σ K = X 13 50 (ls) (st) (pF σ a 5 (.int x)) K := X_putf (idx := 27) (k := 10) (ci := 1) (f := 5) (w := 0) (by decide +kernel) (by decide +kernel) rfl (by decide +kernel) rfl (by decide +kernel) ho
theorem x13_50 {ls st : List Value} {σ : Hp} {K : Option Value → Hp → Prop} : X 13 50 (ls) (st) σ K = X 13 51 (ls) (.int 1 :: st) σ K := X_iconst (n := 1) (by decide +kernel) (by decide +kernel)
theorem x13_51 {ls : List Value} {x : Int32} {σ : Hp} {K : Option Value → Hp → Prop} (hx : (x == 0 || x == 1) = true) : X 13 51 (ls) ([.int x]) σ K = K (some (.int x)) σ := X_zret (by decide +kernel) (by decide +kernel) hx
theorem x14_0 {l0 : Value} {x : Int32} {ls st : List Value} {σ : Hp} {K : Option Value → Hp → Prop} : X 14 0 (l0 :: .int x :: ls) (st) σ K = X 14 1 (l0 :: .int x :: ls) (.int x :: st) σ K := X_iload_n (k := 1) (by decide +kernel) rfl
theorem x14_1 {ls st : List Value} {σ : Hp} {K : Option Value → Hp → Prop} : X 14 1 (ls) (st) σ K = X 14 3 (ls) (.int 48 :: st) σ K := X_bipush (n := 48) (by decide +kernel) (by decide +kernel)
theorem x14_3 {ls st : List Value} {a b : Int32} {σ : Hp} {K : Option Value → Hp → Prop} : X 14 3 (ls) (.int b :: .int a :: st) σ K = if a = b then X 14 14 (ls) (st) σ K else X 14 6 (ls) (st) σ K := X_ic_eq (off := 11) (by decide +kernel) (by decide +kernel)
theorem x14_6 {l0 : Value} {x : Int32} {ls st : List Value} {σ : Hp} {K : Option Value → Hp → Prop} : X 14 6 (l0 :: .int x :: ls) (st) σ K = X 14 7 (l0 :: .int x :: ls) (.int x :: st) σ K := X_iload_n (k := 1) (by decide +kernel) rfl
theorem x14_7 {ls st : List Value} {σ : Hp} {K : Option Value → Hp → Prop} : X 14 7 (ls) (st) σ K = X 14 9 (ls) (.int 49 :: st) σ K := X_bipush (n := 49) (by decide +kernel) (by decide +kernel)
theorem x14_9 {ls st : List Value} {a b : Int32} {σ : Hp} {K : Option Value → Hp → Prop} : X 14 9 (ls) (.int b :: .int a :: st) σ K = if a = b then X 14 14 (ls) (st) σ K else X 14 12 (ls) (st) σ K := X_ic_eq (off := 5) (by decide +kernel) (by decide +kernel)
theorem x14_12 {ls st : List Value} {σ : Hp} {K : Option Value → Hp → Prop} : X 14 12 (ls) (st) σ K = X 14 13 (ls) (.int 0 :: st) σ K := X_iconst (n := 0) (by decide +kernel) (by decide +kernel)
theorem x14_13 {ls : List Value} {x : Int32} {σ : Hp} {K : Option Value → Hp → Prop} (hx : (x == 0 || x == 1) = true) : X 14 13 (ls) ([.int x]) σ K = K (some (.int x)) σ := X_zret (by decide +kernel) (by decide +kernel) hx
theorem x14_14 {x : Nat} {ls st : List Value} {σ : Hp} {K : Option Value → Hp → Prop} : X 14 14 (.ref x :: ls) (st) σ K = X 14 15 (.ref x :: ls) (.ref x :: st) σ K := X_aload_n (k := 0) (by decide +kernel) rfl
theorem x14_15 {l0 : Value} {x : Int32} {ls st : List Value} {σ : Hp} {K : Option Value → Hp → Prop} : X 14 15 (l0 :: .int x :: ls) (st) σ K = X 14 16 (l0 :: .int x :: ls) (.int x :: st) σ K := X_iload_n (k := 1) (by decide +kernel) rfl
theorem x14_16 {ls st : List Value} {σ : Hp} {K : Option Value → Hp → Prop} : X 14 16 (ls) (st) σ K = X 14 18 (ls) (.int 48 :: st) σ K := X_bipush (n := 48) (by decide +kernel) (by decide +kernel)
theorem x14_18 {ls st : List Value} {a b : Int32} {σ : Hp} {K : Option Value → Hp → Prop} : X 14 18 (ls) (.int b :: .int a :: st) σ K = X 14 19 (ls) (.int (a - b) :: st) σ K := X_isub (by decide +kernel)
theorem x14_19 {ls st : List Value} {a : Nat} {x : Int32} {σ : Hp} {K : Option Value → Hp → Prop} (ho : okF σ a 1 2 = true) : X 14 19 (ls) (.int x :: .ref a :: st) σ K = X 14 22 (ls) (st) (pF σ a 2 (.int x)) K := X_putf (idx := 18) (k := 10) (ci := 1) (f := 2) (w := 0) (by decide +kernel) (by decide +kernel) rfl (by decide +kernel) rfl (by decide +kernel) ho
theorem x14_22 {x : Nat} {ls st : List Value} {σ : Hp} {K : Option Value → Hp → Prop} : X 14 22 (.ref x :: ls) (st) σ K = X 14 23 (.ref x :: ls) (.ref x :: st) σ K := X_aload_n (k := 0) (by decide +kernel) rfl
theorem x14_23 {ls st : List Value} {σ : Hp} {K : Option Value → Hp → Prop} : X 14 23 (ls) (st) σ K = X 14 25 (ls) (.int 6 :: st) σ K := X_bipush (n := 6) (by decide +kernel) (by decide +kernel)
theorem x14_25 {ls st : List Value} {a : Nat} {x : Int32} {σ : Hp} {K : Option Value → Hp → Prop} (ho : okF σ a 1 0 = true) : X 14 25 (ls) (.int x :: .ref a :: st) σ K = X 14 28 (ls) (st) (pF σ a 0 (.int x)) K := X_putf (idx := 11) (k := 10) (ci := 1) (f := 0) (w := 0) (by decide +kernel) (by decide +kernel) rfl (by decide +kernel) rfl (by decide +kernel) ho
theorem x14_28 {ls st : List Value} {σ : Hp} {K : Option Value → Hp → Prop} : X 14 28 (ls) (st) σ K = X 14 29 (ls) (.int 1 :: st) σ K := X_iconst (n := 1) (by decide +kernel) (by decide +kernel)
theorem x14_29 {ls : List Value} {x : Int32} {σ : Hp} {K : Option Value → Hp → Prop} (hx : (x == 0 || x == 1) = true) : X 14 29 (ls) ([.int x]) σ K = K (some (.int x)) σ := X_zret (by decide +kernel) (by decide +kernel) hx
theorem x15_0 {x : Int32} {ls st : List Value} {σ : Hp} {K : Option Value → Hp → Prop} : X 15 0 (.int x :: ls) (st) σ K = X 15 1 (.int x :: ls) (.int x :: st) σ K := X_iload_n (k := 0) (by decide +kernel) rfl
theorem x15_1 {ls st : List Value} {σ : Hp} {K : Option Value → Hp → Prop} : X 15 1 (ls) (st) σ K = X 15 3 (ls) (.int 48 :: st) σ K := X_bipush (n := 48) (by decide +kernel) (by decide +kernel)
theorem x15_3 {ls st : List Value} {a b : Int32} {σ : Hp} {K : Option Value → Hp → Prop} : X 15 3 (ls) (.int b :: .int a :: st) σ K = if a < b then X 15 16 (ls) (st) σ K else X 15 6 (ls) (st) σ K := X_ic_lt (off := 13) (by decide +kernel) (by decide +kernel)
theorem x15_6 {x : Int32} {ls st : List Value} {σ : Hp} {K : Option Value → Hp → Prop} : X 15 6 (.int x :: ls) (st) σ K = X 15 7 (.int x :: ls) (.int x :: st) σ K := X_iload_n (k := 0) (by decide +kernel) rfl
theorem x15_7 {ls st : List Value} {σ : Hp} {K : Option Value → Hp → Prop} : X 15 7 (ls) (st) σ K = X 15 9 (ls) (.int 57 :: st) σ K := X_bipush (n := 57) (by decide +kernel) (by decide +kernel)
theorem x15_9 {ls st : List Value} {a b : Int32} {σ : Hp} {K : Option Value → Hp → Prop} : X 15 9 (ls) (.int b :: .int a :: st) σ K = if b < a then X 15 16 (ls) (st) σ K else X 15 12 (ls) (st) σ K := X_ic_gt (off := 7) (by decide +kernel) (by decide +kernel)
theorem x15_12 {ls st : List Value} {σ : Hp} {K : Option Value → Hp → Prop} : X 15 12 (ls) (st) σ K = X 15 13 (ls) (.int 1 :: st) σ K := X_iconst (n := 1) (by decide +kernel) (by decide +kernel)
theorem x15_13 {ls st : List Value} {σ : Hp} {K : Option Value → Hp → Prop} : X 15 13 (ls) (st) σ K = X 15 17 (ls) (st) σ K := X_goto (off := 4) (by decide +kernel) (by decide +kernel)
theorem x15_16 {ls st : List Value} {σ : Hp} {K : Option Value → Hp → Prop} : X 15 16 (ls) (st) σ K = X 15 17 (ls) (.int 0 :: st) σ K := X_iconst (n := 0) (by decide +kernel) (by decide +kernel)
theorem x15_17 {ls : List Value} {x : Int32} {σ : Hp} {K : Option Value → Hp → Prop} (hx : (x == 0 || x == 1) = true) : X 15 17 (ls) ([.int x]) σ K = K (some (.int x)) σ := X_zret (by decide +kernel) (by decide +kernel) hx
theorem x16_0 {x : Nat} {ls st : List Value} {σ : Hp} {K : Option Value → Hp → Prop} : X 16 0 (.ref x :: ls) (st) σ K = X 16 1 (.ref x :: ls) (.ref x :: st) σ K := X_aload_n (k := 0) (by decide +kernel) rfl
theorem x16_1 {ls st : List Value} {a : Nat} {σ : Hp} {K : Option Value → Hp → Prop} (hr : st.length ≤ 4) : X 16 1 (ls) (.ref a :: st) σ K = X 16 4 (ls) (st) σ K := X_invO (idx := 3) (w1 := 0) (w2 := 0) (w := 0) (by decide +kernel) (by decide +kernel) (by decide +kernel) hr
theorem x16_4 {x : Nat} {ls st : List Value} {σ : Hp} {K : Option Value → Hp → Prop} : X 16 4 (.ref x :: ls) (st) σ K = X 16 5 (.ref x :: ls) (.ref x :: st) σ K := X_aload_n (k := 0) (by decide +kernel) rfl
theorem x16_5 {ls st : List Value} {σ : Hp} {K : Option Value → Hp → Prop} : X 16 5 (ls) (st) σ K = X 16 7 (ls) (.int 80 :: st) σ K := X_bipush (n := 80) (by decide +kernel) (by decide +kernel)
theorem x16_7 {ls st : List Value} {n : Int32} {N : Nat} {σ : Hp} {K : Option Value → Hp → Prop} (hn : ¬ n < 0) (hN : n.toNatClampNeg = N) (hb : N * 4 ≤ 536870912) : X 16 7 (ls) (.int n :: st) σ K = X 16 9 (ls) (.ref σ.2.1 :: st) (hnew σ (.inr (.inl (0, N, fun _ => 0))) N) K := X_newI (by decide +kernel) hn hN hb
theorem x16_9 {ls st : List Value} {a : Nat} {x : Nat} {σ : Hp} {K : Option Value → Hp → Prop} (ho : okF σ a 2 0 = true) : X 16 9 (ls) (.ref x :: .ref a :: st) σ K = X 16 12 (ls) (st) (pF σ a 0 (.ref x)) K := X_putf (idx := 9) (k := 10) (ci := 2) (f := 0) (w := 0) (by decide +kernel) (by decide +kernel) rfl (by decide +kernel) rfl (by decide +kernel) ho
theorem x16_12 {ls : List Value} {σ : Hp} {K : Option Value → Hp → Prop} : X 16 12 (ls) ([]) σ K = K none σ := X_vret (by decide +kernel) (by decide +kernel)
theorem x17_0 {l0 : Value} {x : Int32} {ls st : List Value} {σ : Hp} {K : Option Value → Hp → Prop} : X 17 0 (l0 :: .int x :: ls) (st) σ K = X 17 1 (l0 :: .int x :: ls) (.int x :: st) σ K := X_iload_n (k := 1) (by decide +kernel) rfl
theorem x17_1 {ls st : List Value} {x : Int32} {σ : Hp} {K : Option Value → Hp → Prop} : X 17 1 (ls) (.int x :: st) σ K = if x < 0 then X 17 30 (ls) (st) σ K else X 17 4 (ls) (st) σ K := X_if_lt (off := 29) (by decide +kernel) (by decide +kernel)
theorem x17_4 {l0 : Value} {x : Int32} {ls st : List Value} {σ : Hp} {K : Option Value → Hp → Prop} : X 17 4 (l0 :: .int x :: ls) (st) σ K = X 17 5 (l0 :: .int x :: ls) (.int x :: st) σ K := X_iload_n (k := 1) (by decide +kernel) rfl
theorem x17_5 {x : Nat} {ls st : List Value} {σ : Hp} {K : Option Value → Hp → Prop} : X 17 5 (.ref x :: ls) (st) σ K = X 17 6 (.ref x :: ls) (.ref x :: st) σ K := X_aload_n (k := 0) (by decide +kernel) rfl
theorem x17_6 {ls st : List Value} {a : Nat} {σ : Hp} {K : Option Value → Hp → Prop} (ho : okF σ a 2 1 = true) : X 17 6 (ls) (.ref a :: st) σ K = X 17 9 (ls) (gF σ a 1 :: st) σ K := X_getf (idx := 15) (k := 10) (ci := 2) (f := 1) (w := 0) (by decide +kernel) (by decide +kernel) rfl (by decide +kernel) ho
theorem x17_9 {ls st : List Value} {a b : Int32} {σ : Hp} {K : Option Value → Hp → Prop} : X 17 9 (ls) (.int b :: .int a :: st) σ K = if a < b then X 17 12 (ls) (st) σ K else X 17 30 (ls) (st) σ K := X_ic_ge (off := 21) (by decide +kernel) (by decide +kernel)
theorem x17_12 {l0 : Value} {x : Int32} {ls st : List Value} {σ : Hp} {K : Option Value → Hp → Prop} : X 17 12 (l0 :: .int x :: ls) (st) σ K = X 17 13 (l0 :: .int x :: ls) (.int x :: st) σ K := X_iload_n (k := 1) (by decide +kernel) rfl
theorem x17_13 {x : Nat} {ls st : List Value} {σ : Hp} {K : Option Value → Hp → Prop} : X 17 13 (.ref x :: ls) (st) σ K = X 17 14 (.ref x :: ls) (.ref x :: st) σ K := X_aload_n (k := 0) (by decide +kernel) rfl
theorem x17_14 {ls st : List Value} {a : Nat} {σ : Hp} {K : Option Value → Hp → Prop} (ho : okF σ a 2 0 = true) : X 17 14 (ls) (.ref a :: st) σ K = X 17 17 (ls) (gF σ a 0 :: st) σ K := X_getf (idx := 9) (k := 10) (ci := 2) (f := 0) (w := 0) (by decide +kernel) (by decide +kernel) rfl (by decide +kernel) ho
theorem x17_17 {ls st : List Value} {a : Nat} {σ : Hp} {K : Option Value → Hp → Prop} (ho : okL σ a = true) : X 17 17 (ls) (.ref a :: st) σ K = X 17 18 (ls) (.int (gL σ a) :: st) σ K := X_alen (by decide +kernel) ho
theorem x17_18 {ls st : List Value} {a b : Int32} {σ : Hp} {K : Option Value → Hp → Prop} : X 17 18 (ls) (.int b :: .int a :: st) σ K = if a < b then X 17 21 (ls) (st) σ K else X 17 30 (ls) (st) σ K := X_ic_ge (off := 12) (by decide +kernel) (by decide +kernel)
theorem x17_21 {x : Nat} {ls st : List Value} {σ : Hp} {K : Option Value → Hp → Prop} : X 17 21 (.ref x :: ls) (st) σ K = X 17 22 (.ref x :: ls) (.ref x :: st) σ K := X_aload_n (k := 0) (by decide +kernel) rfl
theorem x17_22 {ls st : List Value} {a : Nat} {σ : Hp} {K : Option Value → Hp → Prop} (ho : okF σ a 2 0 = true) : X 17 22 (ls) (.ref a :: st) σ K = X 17 25 (ls) (gF σ a 0 :: st) σ K := X_getf (idx := 9) (k := 10) (ci := 2) (f := 0) (w := 0) (by decide +kernel) (by decide +kernel) rfl (by decide +kernel) ho
theorem x17_25 {l0 : Value} {x : Int32} {ls st : List Value} {σ : Hp} {K : Option Value → Hp → Prop} : X 17 25 (l0 :: .int x :: ls) (st) σ K = X 17 26 (l0 :: .int x :: ls) (.int x :: st) σ K := X_iload_n (k := 1) (by decide +kernel) rfl
theorem x17_26 {ls st : List Value} {a : Nat} {j : Int32} {σ : Hp} {K : Option Value → Hp → Prop} (ho : okA σ 0 a j = true) : X 17 26 (ls) (.int j :: .ref a :: st) σ K = X 17 27 (ls) (.int (gA σ a j) :: st) σ K := X_iald (by decide +kernel) ho
theorem x17_27 {ls st : List Value} {σ : Hp} {K : Option Value → Hp → Prop} : X 17 27 (ls) (st) σ K = X 17 31 (ls) (st) σ K := X_goto (off := 4) (by decide +kernel) (by decide +kernel)
theorem x17_30 {ls st : List Value} {σ : Hp} {K : Option Value → Hp → Prop} : X 17 30 (ls) (st) σ K = X 17 31 (ls) (.int 0 :: st) σ K := X_iconst (n := 0) (by decide +kernel) (by decide +kernel)
theorem x17_31 {ls : List Value} {x : Int32} {σ : Hp} {K : Option Value → Hp → Prop} : X 17 31 (ls) ([.int x]) σ K = K (some (.int x)) σ := X_iret (by decide +kernel) (by decide +kernel)
theorem x18_0 {x : Nat} {ls st : List Value} {σ : Hp} {K : Option Value → Hp → Prop} : X 18 0 (.ref x :: ls) (st) σ K = X 18 1 (.ref x :: ls) (.ref x :: st) σ K := X_aload_n (k := 0) (by decide +kernel) rfl
theorem x18_1 {ls st : List Value} {a : Nat} {σ : Hp} {K : Option Value → Hp → Prop} (ho : okF σ a 2 1 = true) : X 18 1 (ls) (.ref a :: st) σ K = X 18 4 (ls) (gF σ a 1 :: st) σ K := X_getf (idx := 15) (k := 10) (ci := 2) (f := 1) (w := 0) (by decide +kernel) (by decide +kernel) rfl (by decide +kernel) ho
theorem x18_4 {ls st : List Value} {x : Int32} {σ : Hp} {K : Option Value → Hp → Prop} : X 18 4 (ls) (.int x :: st) σ K = if x < 0 then X 18 39 (ls) (st) σ K else X 18 7 (ls) (st) σ K := X_if_lt (off := 35) (by decide +kernel) (by decide +kernel)
theorem x18_7 {x : Nat} {ls st : List Value} {σ : Hp} {K : Option Value → Hp → Prop} : X 18 7 (.ref x :: ls) (st) σ K = X 18 8 (.ref x :: ls) (.ref x :: st) σ K := X_aload_n (k := 0) (by decide +kernel) rfl
theorem x18_8 {ls st : List Value} {a : Nat} {σ : Hp} {K : Option Value → Hp → Prop} (ho : okF σ a 2 1 = true) : X 18 8 (ls) (.ref a :: st) σ K = X 18 11 (ls) (gF σ a 1 :: st) σ K := X_getf (idx := 15) (k := 10) (ci := 2) (f := 1) (w := 0) (by decide +kernel) (by decide +kernel) rfl (by decide +kernel) ho
theorem x18_11 {x : Nat} {ls st : List Value} {σ : Hp} {K : Option Value → Hp → Prop} : X 18 11 (.ref x :: ls) (st) σ K = X 18 12 (.ref x :: ls) (.ref x :: st) σ K := X_aload_n (k := 0) (by decide +kernel) rfl
theorem x18_12 {ls st : List Value} {a : Nat} {σ : Hp} {K : Option Value → Hp → Prop} (ho : okF σ a 2 0 = true) : X 18 12 (ls) (.ref a :: st) σ K = X 18 15 (ls) (gF σ a 0 :: st) σ K := X_getf (idx := 9) (k := 10) (ci := 2) (f := 0) (w := 0) (by decide +kernel) (by decide +kernel) rfl (by decide +kernel) ho
theorem x18_15 {ls st : List Value} {a : Nat} {σ : Hp} {K : Option Value → Hp → Prop} (ho : okL σ a = true) : X 18 15 (ls) (.ref a :: st) σ K = X 18 16 (ls) (.int (gL σ a) :: st) σ K := X_alen (by decide +kernel) ho
theorem x18_16 {ls st : List Value} {a b : Int32} {σ : Hp} {K : Option Value → Hp → Prop} : X 18 16 (ls) (.int b :: .int a :: st) σ K = if a < b then X 18 19 (ls) (st) σ K else X 18 39 (ls) (st) σ K := X_ic_ge (off := 23) (by decide +kernel) (by decide +kernel)
theorem x18_19 {x : Nat} {ls st : List Value} {σ : Hp} {K : Option Value → Hp → Prop} : X 18 19 (.ref x :: ls) (st) σ K = X 18 20 (.ref x :: ls) (.ref x :: st) σ K := X_aload_n (k := 0) (by decide +kernel) rfl
theorem x18_20 {ls st : List Value} {a : Nat} {σ : Hp} {K : Option Value → Hp → Prop} (ho : okF σ a 2 0 = true) : X 18 20 (ls) (.ref a :: st) σ K = X 18 23 (ls) (gF σ a 0 :: st) σ K := X_getf (idx := 9) (k := 10) (ci := 2) (f := 0) (w := 0) (by decide +kernel) (by decide +kernel) rfl (by decide +kernel) ho
theorem x18_23 {x : Nat} {ls st : List Value} {σ : Hp} {K : Option Value → Hp → Prop} : X 18 23 (.ref x :: ls) (st) σ K = X 18 24 (.ref x :: ls) (.ref x :: st) σ K := X_aload_n (k := 0) (by decide +kernel) rfl
theorem x18_24 {ls st : List Value} {a : Nat} {σ : Hp} {K : Option Value → Hp → Prop} (ho : okF σ a 2 1 = true) : X 18 24 (ls) (.ref a :: st) σ K = X 18 27 (ls) (gF σ a 1 :: st) σ K := X_getf (idx := 15) (k := 10) (ci := 2) (f := 1) (w := 0) (by decide +kernel) (by decide +kernel) rfl (by decide +kernel) ho
theorem x18_27 {l0 : Value} {x : Int32} {ls st : List Value} {σ : Hp} {K : Option Value → Hp → Prop} : X 18 27 (l0 :: .int x :: ls) (st) σ K = X 18 28 (l0 :: .int x :: ls) (.int x :: st) σ K := X_iload_n (k := 1) (by decide +kernel) rfl
theorem x18_28 {ls st : List Value} {a : Nat} {j x : Int32} {σ : Hp} {K : Option Value → Hp → Prop} (ho : okB σ 0 a j = true) : X 18 28 (ls) (.int x :: .int j :: .ref a :: st) σ K = X 18 29 (ls) (st) (pA σ a j x) K := X_iast (by decide +kernel) ho
theorem x18_29 {x : Nat} {ls st : List Value} {σ : Hp} {K : Option Value → Hp → Prop} : X 18 29 (.ref x :: ls) (st) σ K = X 18 30 (.ref x :: ls) (.ref x :: st) σ K := X_aload_n (k := 0) (by decide +kernel) rfl
theorem x18_30 {ls st : List Value} {a : Nat} {σ : Hp} {K : Option Value → Hp → Prop} : X 18 30 (ls) (.ref a :: st) σ K = X 18 31 (ls) (.ref a :: .ref a :: st) σ K := X_dupA (by decide +kernel)
theorem x18_30i {ls st : List Value} {a : Int32} {σ : Hp} {K : Option Value → Hp → Prop} : X 18 30 (ls) (.int a :: st) σ K = X 18 31 (ls) (.int a :: .int a :: st) σ K := X_dupI (by decide +kernel)
theorem x18_31 {ls st : List Value} {a : Nat} {σ : Hp} {K : Option Value → Hp → Prop} (ho : okF σ a 2 1 = true) : X 18 31 (ls) (.ref a :: st) σ K = X 18 34 (ls) (gF σ a 1 :: st) σ K := X_getf (idx := 15) (k := 10) (ci := 2) (f := 1) (w := 0) (by decide +kernel) (by decide +kernel) rfl (by decide +kernel) ho
theorem x18_34 {ls st : List Value} {σ : Hp} {K : Option Value → Hp → Prop} : X 18 34 (ls) (st) σ K = X 18 35 (ls) (.int 1 :: st) σ K := X_iconst (n := 1) (by decide +kernel) (by decide +kernel)
theorem x18_35 {ls st : List Value} {a b : Int32} {σ : Hp} {K : Option Value → Hp → Prop} : X 18 35 (ls) (.int b :: .int a :: st) σ K = X 18 36 (ls) (.int (a + b) :: st) σ K := X_iadd (by decide +kernel)
theorem x18_36 {ls st : List Value} {a : Nat} {x : Int32} {σ : Hp} {K : Option Value → Hp → Prop} (ho : okF σ a 2 1 = true) : X 18 36 (ls) (.int x :: .ref a :: st) σ K = X 18 39 (ls) (st) (pF σ a 1 (.int x)) K := X_putf (idx := 15) (k := 10) (ci := 2) (f := 1) (w := 0) (by decide +kernel) (by decide +kernel) rfl (by decide +kernel) rfl (by decide +kernel) ho
theorem x18_39 {ls : List Value} {σ : Hp} {K : Option Value → Hp → Prop} : X 18 39 (ls) ([]) σ K = K none σ := X_vret (by decide +kernel) (by decide +kernel)
theorem x19_0 {x : Nat} {ls st : List Value} {σ : Hp} {K : Option Value → Hp → Prop} : X 19 0 (.ref x :: ls) (st) σ K = X 19 1 (.ref x :: ls) (.ref x :: st) σ K := X_aload_n (k := 0) (by decide +kernel) rfl
theorem x19_1 {ls st : List Value} {a : Nat} {σ : Hp} {K : Option Value → Hp → Prop} (hr : st.length ≤ 4) : X 19 1 (ls) (.ref a :: st) σ K = X 19 4 (ls) (st) σ K := X_invO (idx := 3) (w1 := 0) (w2 := 0) (w := 0) (by decide +kernel) (by decide +kernel) (by decide +kernel) hr
theorem x19_4 {x : Nat} {ls st : List Value} {σ : Hp} {K : Option Value → Hp → Prop} : X 19 4 (.ref x :: ls) (st) σ K = X 19 5 (.ref x :: ls) (.ref x :: st) σ K := X_aload_n (k := 0) (by decide +kernel) rfl
theorem x19_5 {ls st : List Value} {σ : Hp} {K : Option Value → Hp → Prop} : X 19 5 (ls) (st) σ K = X 19 7 (ls) (.int 24 :: st) σ K := X_bipush (n := 24) (by decide +kernel) (by decide +kernel)
theorem x19_7 {ls st : List Value} {n : Int32} {N : Nat} {σ : Hp} {K : Option Value → Hp → Prop} (hn : ¬ n < 0) (hN : n.toNatClampNeg = N) (hb : N * 4 ≤ 536870912) : X 19 7 (ls) (.int n :: st) σ K = X 19 9 (ls) (.ref σ.2.1 :: st) (hnew σ (.inr (.inl (0, N, fun _ => 0))) N) K := X_newI (by decide +kernel) hn hN hb
theorem x19_9 {ls st : List Value} {a : Nat} {x : Nat} {σ : Hp} {K : Option Value → Hp → Prop} (ho : okF σ a 3 0 = true) : X 19 9 (ls) (.ref x :: .ref a :: st) σ K = X 19 12 (ls) (st) (pF σ a 0 (.ref x)) K := X_putf (idx := 9) (k := 10) (ci := 3) (f := 0) (w := 0) (by decide +kernel) (by decide +kernel) rfl (by decide +kernel) rfl (by decide +kernel) ho
theorem x19_12 {x : Nat} {ls st : List Value} {σ : Hp} {K : Option Value → Hp → Prop} : X 19 12 (.ref x :: ls) (st) σ K = X 19 13 (.ref x :: ls) (.ref x :: st) σ K := X_aload_n (k := 0) (by decide +kernel) rfl
theorem x19_13 {ls st : List Value} {σ : Hp} {K : Option Value → Hp → Prop} : X 19 13 (ls) (st) σ K = X 19 15 (ls) (.int 24 :: st) σ K := X_bipush (n := 24) (by decide +kernel) (by decide +kernel)
theorem x19_15 {ls st : List Value} {n : Int32} {N : Nat} {σ : Hp} {K : Option Value → Hp → Prop} (hn : ¬ n < 0) (hN : n.toNatClampNeg = N) (hb : N * 4 ≤ 536870912) : X 19 15 (ls) (.int n :: st) σ K = X 19 17 (ls) (.ref σ.2.1 :: st) (hnew σ (.inr (.inl (0, N, fun _ => 0))) N) K := X_newI (by decide +kernel) hn hN hb
theorem x19_17 {ls st : List Value} {a : Nat} {x : Nat} {σ : Hp} {K : Option Value → Hp → Prop} (ho : okF σ a 3 1 = true) : X 19 17 (ls) (.ref x :: .ref a :: st) σ K = X 19 20 (ls) (st) (pF σ a 1 (.ref x)) K := X_putf (idx := 15) (k := 10) (ci := 3) (f := 1) (w := 0) (by decide +kernel) (by decide +kernel) rfl (by decide +kernel) rfl (by decide +kernel) ho
theorem x19_20 {x : Nat} {ls st : List Value} {σ : Hp} {K : Option Value → Hp → Prop} : X 19 20 (.ref x :: ls) (st) σ K = X 19 21 (.ref x :: ls) (.ref x :: st) σ K := X_aload_n (k := 0) (by decide +kernel) rfl
theorem x19_21 {ls st : List Value} {σ : Hp} {K : Option Value → Hp → Prop} : X 19 21 (ls) (st) σ K = X 19 23 (ls) (.int 24 :: st) σ K := X_bipush (n := 24) (by decide +kernel) (by decide +kernel)
theorem x19_23 {ls st : List Value} {n : Int32} {N : Nat} {σ : Hp} {K : Option Value → Hp → Prop} (hn : ¬ n < 0) (hN : n.toNatClampNeg = N) (hb : N * 4 ≤ 536870912) : X 19 23 (ls) (.int n :: st) σ K = X 19 25 (ls) (.ref σ.2.1 :: st) (hnew σ (.inr (.inl (0, N, fun _ => 0))) N) K := X_newI (by decide +kernel) hn hN hb
theorem x19_25 {ls st : List Value} {a : Nat} {x : Nat} {σ : Hp} {K : Option Value → Hp → Prop} (ho : okF σ a 3 2 = true) : X 19 25 (ls) (.ref x :: .ref a :: st) σ K = X 19 28 (ls) (st) (pF σ a 2 (.ref x)) K := X_putf (idx := 18) (k := 10) (ci := 3) (f := 2) (w := 0) (by decide +kernel) (by decide +kernel) rfl (by decide +kernel) rfl (by decide +kernel) ho
theorem x19_28 {x : Nat} {ls st : List Value} {σ : Hp} {K : Option Value → Hp → Prop} : X 19 28 (.ref x :: ls) (st) σ K = X 19 29 (.ref x :: ls) (.ref x :: st) σ K := X_aload_n (k := 0) (by decide +kernel) rfl
theorem x19_29 {l0 : Value} {x : Int32} {ls st : List Value} {σ : Hp} {K : Option Value → Hp → Prop} : X 19 29 (l0 :: .int x :: ls) (st) σ K = X 19 30 (l0 :: .int x :: ls) (.int x :: st) σ K := X_iload_n (k := 1) (by decide +kernel) rfl
theorem x19_30 {ls st : List Value} {a : Nat} {x : Int32} {σ : Hp} {K : Option Value → Hp → Prop} (ho : okF σ a 3 3 = true) : X 19 30 (ls) (.int x :: .ref a :: st) σ K = X 19 33 (ls) (st) (pF σ a 3 (.int x)) K := X_putf (idx := 21) (k := 10) (ci := 3) (f := 3) (w := 0) (by decide +kernel) (by decide +kernel) rfl (by decide +kernel) rfl (by decide +kernel) ho
theorem x19_33 {ls : List Value} {σ : Hp} {K : Option Value → Hp → Prop} : X 19 33 (ls) ([]) σ K = K none σ := X_vret (by decide +kernel) (by decide +kernel)
theorem x20_0 {l0 : Value} {x : Nat} {ls st : List Value} {σ : Hp} {K : Option Value → Hp → Prop} : X 20 0 (l0 :: .ref x :: ls) (st) σ K = X 20 1 (l0 :: .ref x :: ls) (.ref x :: st) σ K := X_aload_n (k := 1) (by decide +kernel) rfl
theorem x20_1 {ls st : List Value} {a : Nat} {σ : Hp} {K : Option Value → Hp → Prop} (ho : okF σ a 3 0 = true) : X 20 1 (ls) (.ref a :: st) σ K = X 20 4 (ls) (gF σ a 0 :: st) σ K := X_getf (idx := 9) (k := 10) (ci := 3) (f := 0) (w := 0) (by decide +kernel) (by decide +kernel) rfl (by decide +kernel) ho
theorem x20_4 {ls st : List Value} {σ : Hp} {K : Option Value → Hp → Prop} : X 20 4 (ls) (st) σ K = X 20 5 (ls) (.int 0 :: st) σ K := X_iconst (n := 0) (by decide +kernel) (by decide +kernel)
theorem x20_5 {x : Nat} {ls st : List Value} {σ : Hp} {K : Option Value → Hp → Prop} : X 20 5 (.ref x :: ls) (st) σ K = X 20 6 (.ref x :: ls) (.ref x :: st) σ K := X_aload_n (k := 0) (by decide +kernel) rfl
theorem x20_6 {ls st : List Value} {a : Nat} {σ : Hp} {K : Option Value → Hp → Prop} (ho : okF σ a 3 0 = true) : X 20 6 (ls) (.ref a :: st) σ K = X 20 9 (ls) (gF σ a 0 :: st) σ K := X_getf (idx := 9) (k := 10) (ci := 3) (f := 0) (w := 0) (by decide +kernel) (by decide +kernel) rfl (by decide +kernel) ho
theorem x20_9 {ls st : List Value} {σ : Hp} {K : Option Value → Hp → Prop} : X 20 9 (ls) (st) σ K = X 20 10 (ls) (.int 0 :: st) σ K := X_iconst (n := 0) (by decide +kernel) (by decide +kernel)
theorem x20_10 {x : Nat} {ls st : List Value} {σ : Hp} {K : Option Value → Hp → Prop} : X 20 10 (.ref x :: ls) (st) σ K = X 20 11 (.ref x :: ls) (.ref x :: st) σ K := X_aload_n (k := 0) (by decide +kernel) rfl
theorem x20_11 {ls st : List Value} {a : Nat} {σ : Hp} {K : Option Value → Hp → Prop} (ho : okF σ a 3 0 = true) : X 20 11 (ls) (.ref a :: st) σ K = X 20 14 (ls) (gF σ a 0 :: st) σ K := X_getf (idx := 9) (k := 10) (ci := 3) (f := 0) (w := 0) (by decide +kernel) (by decide +kernel) rfl (by decide +kernel) ho
theorem x20_14 {ls st : List Value} {a : Nat} {σ : Hp} {K : Option Value → Hp → Prop} (ho : okL σ a = true) : X 20 14 (ls) (.ref a :: st) σ K = X 20 15 (ls) (.int (gL σ a) :: st) σ K := X_alen (by decide +kernel) ho
theorem x20_15 {ls st : List Value} {a b : Nat} {sp dp n : Int32} {σ : Hp} {K : Option Value → Hp → Prop} (ho : okC σ a sp b dp n = true) (hr : st.length ≤ 4) : X 20 15 (ls) (.int n :: .int dp :: .ref b :: .int sp :: .ref a :: st) σ K = X 20 18 (ls) (st) (pC σ a sp b dp n) K := X_cpy (idx := 25) (w1 := 0) (w2 := 0) (w := 0) (by decide +kernel) (by decide +kernel) (by decide +kernel) hr ho
theorem x20_18 {l0 : Value} {x : Nat} {ls st : List Value} {σ : Hp} {K : Option Value → Hp → Prop} : X 20 18 (l0 :: .ref x :: ls) (st) σ K = X 20 19 (l0 :: .ref x :: ls) (.ref x :: st) σ K := X_aload_n (k := 1) (by decide +kernel) rfl
theorem x20_19 {ls st : List Value} {a : Nat} {σ : Hp} {K : Option Value → Hp → Prop} (ho : okF σ a 3 1 = true) : X 20 19 (ls) (.ref a :: st) σ K = X 20 22 (ls) (gF σ a 1 :: st) σ K := X_getf (idx := 15) (k := 10) (ci := 3) (f := 1) (w := 0) (by decide +kernel) (by decide +kernel) rfl (by decide +kernel) ho
theorem x20_22 {ls st : List Value} {σ : Hp} {K : Option Value → Hp → Prop} : X 20 22 (ls) (st) σ K = X 20 23 (ls) (.int 0 :: st) σ K := X_iconst (n := 0) (by decide +kernel) (by decide +kernel)
theorem x20_23 {x : Nat} {ls st : List Value} {σ : Hp} {K : Option Value → Hp → Prop} : X 20 23 (.ref x :: ls) (st) σ K = X 20 24 (.ref x :: ls) (.ref x :: st) σ K := X_aload_n (k := 0) (by decide +kernel) rfl
theorem x20_24 {ls st : List Value} {a : Nat} {σ : Hp} {K : Option Value → Hp → Prop} (ho : okF σ a 3 1 = true) : X 20 24 (ls) (.ref a :: st) σ K = X 20 27 (ls) (gF σ a 1 :: st) σ K := X_getf (idx := 15) (k := 10) (ci := 3) (f := 1) (w := 0) (by decide +kernel) (by decide +kernel) rfl (by decide +kernel) ho
theorem x20_27 {ls st : List Value} {σ : Hp} {K : Option Value → Hp → Prop} : X 20 27 (ls) (st) σ K = X 20 28 (ls) (.int 0 :: st) σ K := X_iconst (n := 0) (by decide +kernel) (by decide +kernel)
theorem x20_28 {x : Nat} {ls st : List Value} {σ : Hp} {K : Option Value → Hp → Prop} : X 20 28 (.ref x :: ls) (st) σ K = X 20 29 (.ref x :: ls) (.ref x :: st) σ K := X_aload_n (k := 0) (by decide +kernel) rfl
theorem x20_29 {ls st : List Value} {a : Nat} {σ : Hp} {K : Option Value → Hp → Prop} (ho : okF σ a 3 1 = true) : X 20 29 (ls) (.ref a :: st) σ K = X 20 32 (ls) (gF σ a 1 :: st) σ K := X_getf (idx := 15) (k := 10) (ci := 3) (f := 1) (w := 0) (by decide +kernel) (by decide +kernel) rfl (by decide +kernel) ho
theorem x20_32 {ls st : List Value} {a : Nat} {σ : Hp} {K : Option Value → Hp → Prop} (ho : okL σ a = true) : X 20 32 (ls) (.ref a :: st) σ K = X 20 33 (ls) (.int (gL σ a) :: st) σ K := X_alen (by decide +kernel) ho
theorem x20_33 {ls st : List Value} {a b : Nat} {sp dp n : Int32} {σ : Hp} {K : Option Value → Hp → Prop} (ho : okC σ a sp b dp n = true) (hr : st.length ≤ 4) : X 20 33 (ls) (.int n :: .int dp :: .ref b :: .int sp :: .ref a :: st) σ K = X 20 36 (ls) (st) (pC σ a sp b dp n) K := X_cpy (idx := 25) (w1 := 0) (w2 := 0) (w := 0) (by decide +kernel) (by decide +kernel) (by decide +kernel) hr ho
theorem x20_36 {l0 : Value} {x : Nat} {ls st : List Value} {σ : Hp} {K : Option Value → Hp → Prop} : X 20 36 (l0 :: .ref x :: ls) (st) σ K = X 20 37 (l0 :: .ref x :: ls) (.ref x :: st) σ K := X_aload_n (k := 1) (by decide +kernel) rfl
theorem x20_37 {ls st : List Value} {a : Nat} {σ : Hp} {K : Option Value → Hp → Prop} (ho : okF σ a 3 2 = true) : X 20 37 (ls) (.ref a :: st) σ K = X 20 40 (ls) (gF σ a 2 :: st) σ K := X_getf (idx := 18) (k := 10) (ci := 3) (f := 2) (w := 0) (by decide +kernel) (by decide +kernel) rfl (by decide +kernel) ho
theorem x20_40 {ls st : List Value} {σ : Hp} {K : Option Value → Hp → Prop} : X 20 40 (ls) (st) σ K = X 20 41 (ls) (.int 0 :: st) σ K := X_iconst (n := 0) (by decide +kernel) (by decide +kernel)
theorem x20_41 {x : Nat} {ls st : List Value} {σ : Hp} {K : Option Value → Hp → Prop} : X 20 41 (.ref x :: ls) (st) σ K = X 20 42 (.ref x :: ls) (.ref x :: st) σ K := X_aload_n (k := 0) (by decide +kernel) rfl
theorem x20_42 {ls st : List Value} {a : Nat} {σ : Hp} {K : Option Value → Hp → Prop} (ho : okF σ a 3 2 = true) : X 20 42 (ls) (.ref a :: st) σ K = X 20 45 (ls) (gF σ a 2 :: st) σ K := X_getf (idx := 18) (k := 10) (ci := 3) (f := 2) (w := 0) (by decide +kernel) (by decide +kernel) rfl (by decide +kernel) ho
theorem x20_45 {ls st : List Value} {σ : Hp} {K : Option Value → Hp → Prop} : X 20 45 (ls) (st) σ K = X 20 46 (ls) (.int 0 :: st) σ K := X_iconst (n := 0) (by decide +kernel) (by decide +kernel)
theorem x20_46 {x : Nat} {ls st : List Value} {σ : Hp} {K : Option Value → Hp → Prop} : X 20 46 (.ref x :: ls) (st) σ K = X 20 47 (.ref x :: ls) (.ref x :: st) σ K := X_aload_n (k := 0) (by decide +kernel) rfl
theorem x20_47 {ls st : List Value} {a : Nat} {σ : Hp} {K : Option Value → Hp → Prop} (ho : okF σ a 3 2 = true) : X 20 47 (ls) (.ref a :: st) σ K = X 20 50 (ls) (gF σ a 2 :: st) σ K := X_getf (idx := 18) (k := 10) (ci := 3) (f := 2) (w := 0) (by decide +kernel) (by decide +kernel) rfl (by decide +kernel) ho
theorem x20_50 {ls st : List Value} {a : Nat} {σ : Hp} {K : Option Value → Hp → Prop} (ho : okL σ a = true) : X 20 50 (ls) (.ref a :: st) σ K = X 20 51 (ls) (.int (gL σ a) :: st) σ K := X_alen (by decide +kernel) ho
theorem x20_51 {ls st : List Value} {a b : Nat} {sp dp n : Int32} {σ : Hp} {K : Option Value → Hp → Prop} (ho : okC σ a sp b dp n = true) (hr : st.length ≤ 4) : X 20 51 (ls) (.int n :: .int dp :: .ref b :: .int sp :: .ref a :: st) σ K = X 20 54 (ls) (st) (pC σ a sp b dp n) K := X_cpy (idx := 25) (w1 := 0) (w2 := 0) (w := 0) (by decide +kernel) (by decide +kernel) (by decide +kernel) hr ho
theorem x20_54 {x : Nat} {ls st : List Value} {σ : Hp} {K : Option Value → Hp → Prop} : X 20 54 (.ref x :: ls) (st) σ K = X 20 55 (.ref x :: ls) (.ref x :: st) σ K := X_aload_n (k := 0) (by decide +kernel) rfl
theorem x20_55 {l0 : Value} {x : Nat} {ls st : List Value} {σ : Hp} {K : Option Value → Hp → Prop} : X 20 55 (l0 :: .ref x :: ls) (st) σ K = X 20 56 (l0 :: .ref x :: ls) (.ref x :: st) σ K := X_aload_n (k := 1) (by decide +kernel) rfl
theorem x20_56 {ls st : List Value} {a : Nat} {σ : Hp} {K : Option Value → Hp → Prop} (ho : okF σ a 3 3 = true) : X 20 56 (ls) (.ref a :: st) σ K = X 20 59 (ls) (gF σ a 3 :: st) σ K := X_getf (idx := 21) (k := 10) (ci := 3) (f := 3) (w := 0) (by decide +kernel) (by decide +kernel) rfl (by decide +kernel) ho
theorem x20_59 {ls st : List Value} {a : Nat} {x : Int32} {σ : Hp} {K : Option Value → Hp → Prop} (ho : okF σ a 3 3 = true) : X 20 59 (ls) (.int x :: .ref a :: st) σ K = X 20 62 (ls) (st) (pF σ a 3 (.int x)) K := X_putf (idx := 21) (k := 10) (ci := 3) (f := 3) (w := 0) (by decide +kernel) (by decide +kernel) rfl (by decide +kernel) rfl (by decide +kernel) ho
theorem x20_62 {x : Nat} {ls st : List Value} {σ : Hp} {K : Option Value → Hp → Prop} : X 20 62 (.ref x :: ls) (st) σ K = X 20 63 (.ref x :: ls) (.ref x :: st) σ K := X_aload_n (k := 0) (by decide +kernel) rfl
theorem x20_63 {l0 : Value} {x : Nat} {ls st : List Value} {σ : Hp} {K : Option Value → Hp → Prop} : X 20 63 (l0 :: .ref x :: ls) (st) σ K = X 20 64 (l0 :: .ref x :: ls) (.ref x :: st) σ K := X_aload_n (k := 1) (by decide +kernel) rfl
theorem x20_64 {ls st : List Value} {a : Nat} {σ : Hp} {K : Option Value → Hp → Prop} (ho : okF σ a 3 4 = true) : X 20 64 (ls) (.ref a :: st) σ K = X 20 67 (ls) (gF σ a 4 :: st) σ K := X_getf (idx := 31) (k := 10) (ci := 3) (f := 4) (w := 0) (by decide +kernel) (by decide +kernel) rfl (by decide +kernel) ho
theorem x20_67 {ls st : List Value} {a : Nat} {x : Int32} {σ : Hp} {K : Option Value → Hp → Prop} (ho : okF σ a 3 4 = true) : X 20 67 (ls) (.int x :: .ref a :: st) σ K = X 20 70 (ls) (st) (pF σ a 4 (.int x)) K := X_putf (idx := 31) (k := 10) (ci := 3) (f := 4) (w := 0) (by decide +kernel) (by decide +kernel) rfl (by decide +kernel) rfl (by decide +kernel) ho
theorem x20_70 {ls : List Value} {σ : Hp} {K : Option Value → Hp → Prop} : X 20 70 (ls) ([]) σ K = K none σ := X_vret (by decide +kernel) (by decide +kernel)
theorem x21_0 {l0 : Value} {x : Int32} {ls st : List Value} {σ : Hp} {K : Option Value → Hp → Prop} : X 21 0 (l0 :: .int x :: ls) (st) σ K = X 21 1 (l0 :: .int x :: ls) (.int x :: st) σ K := X_iload_n (k := 1) (by decide +kernel) rfl
theorem x21_1 {ls st : List Value} {x : Int32} {σ : Hp} {K : Option Value → Hp → Prop} : X 21 1 (ls) (.int x :: st) σ K = if x < 0 then X 21 25 (ls) (st) σ K else X 21 4 (ls) (st) σ K := X_if_lt (off := 24) (by decide +kernel) (by decide +kernel)
theorem x21_4 {l0 : Value} {x : Int32} {ls st : List Value} {σ : Hp} {K : Option Value → Hp → Prop} : X 21 4 (l0 :: .int x :: ls) (st) σ K = X 21 5 (l0 :: .int x :: ls) (.int x :: st) σ K := X_iload_n (k := 1) (by decide +kernel) rfl
theorem x21_5 {x : Nat} {ls st : List Value} {σ : Hp} {K : Option Value → Hp → Prop} : X 21 5 (.ref x :: ls) (st) σ K = X 21 6 (.ref x :: ls) (.ref x :: st) σ K := X_aload_n (k := 0) (by decide +kernel) rfl
theorem x21_6 {ls st : List Value} {a : Nat} {σ : Hp} {K : Option Value → Hp → Prop} (ho : okF σ a 3 4 = true) : X 21 6 (ls) (.ref a :: st) σ K = X 21 9 (ls) (gF σ a 4 :: st) σ K := X_getf (idx := 31) (k := 10) (ci := 3) (f := 4) (w := 0) (by decide +kernel) (by decide +kernel) rfl (by decide +kernel) ho
theorem x21_9 {ls st : List Value} {a b : Int32} {σ : Hp} {K : Option Value → Hp → Prop} : X 21 9 (ls) (.int b :: .int a :: st) σ K = if a < b then X 21 12 (ls) (st) σ K else X 21 25 (ls) (st) σ K := X_ic_ge (off := 16) (by decide +kernel) (by decide +kernel)
theorem x21_12 {l0 : Value} {x : Int32} {ls st : List Value} {σ : Hp} {K : Option Value → Hp → Prop} : X 21 12 (l0 :: .int x :: ls) (st) σ K = X 21 13 (l0 :: .int x :: ls) (.int x :: st) σ K := X_iload_n (k := 1) (by decide +kernel) rfl
theorem x21_13 {x : Nat} {ls st : List Value} {σ : Hp} {K : Option Value → Hp → Prop} : X 21 13 (.ref x :: ls) (st) σ K = X 21 14 (.ref x :: ls) (.ref x :: st) σ K := X_aload_n (k := 0) (by decide +kernel) rfl
theorem x21_14 {ls st : List Value} {a : Nat} {σ : Hp} {K : Option Value → Hp → Prop} (ho : okF σ a 3 0 = true) : X 21 14 (ls) (.ref a :: st) σ K = X 21 17 (ls) (gF σ a 0 :: st) σ K := X_getf (idx := 9) (k := 10) (ci := 3) (f := 0) (w := 0) (by decide +kernel) (by decide +kernel) rfl (by decide +kernel) ho
theorem x21_17 {ls st : List Value} {a : Nat} {σ : Hp} {K : Option Value → Hp → Prop} (ho : okL σ a = true) : X 21 17 (ls) (.ref a :: st) σ K = X 21 18 (ls) (.int (gL σ a) :: st) σ K := X_alen (by decide +kernel) ho
theorem x21_18 {ls st : List Value} {a b : Int32} {σ : Hp} {K : Option Value → Hp → Prop} : X 21 18 (ls) (.int b :: .int a :: st) σ K = if a < b then X 21 21 (ls) (st) σ K else X 21 25 (ls) (st) σ K := X_ic_ge (off := 7) (by decide +kernel) (by decide +kernel)
theorem x21_21 {ls st : List Value} {σ : Hp} {K : Option Value → Hp → Prop} : X 21 21 (ls) (st) σ K = X 21 22 (ls) (.int 1 :: st) σ K := X_iconst (n := 1) (by decide +kernel) (by decide +kernel)
theorem x21_22 {ls st : List Value} {σ : Hp} {K : Option Value → Hp → Prop} : X 21 22 (ls) (st) σ K = X 21 26 (ls) (st) σ K := X_goto (off := 4) (by decide +kernel) (by decide +kernel)
theorem x21_25 {ls st : List Value} {σ : Hp} {K : Option Value → Hp → Prop} : X 21 25 (ls) (st) σ K = X 21 26 (ls) (.int 0 :: st) σ K := X_iconst (n := 0) (by decide +kernel) (by decide +kernel)
theorem x21_26 {ls : List Value} {x : Int32} {σ : Hp} {K : Option Value → Hp → Prop} (hx : (x == 0 || x == 1) = true) : X 21 26 (ls) ([.int x]) σ K = K (some (.int x)) σ := X_zret (by decide +kernel) (by decide +kernel) hx
theorem x22_0 {l0 : Value} {x : Int32} {ls st : List Value} {σ : Hp} {K : Option Value → Hp → Prop} : X 22 0 (l0 :: .int x :: ls) (st) σ K = X 22 1 (l0 :: .int x :: ls) (.int x :: st) σ K := X_iload_n (k := 1) (by decide +kernel) rfl
theorem x22_1 {ls st : List Value} {x : Int32} {σ : Hp} {K : Option Value → Hp → Prop} : X 22 1 (ls) (.int x :: st) σ K = if x < 0 then X 22 30 (ls) (st) σ K else X 22 4 (ls) (st) σ K := X_if_lt (off := 29) (by decide +kernel) (by decide +kernel)
theorem x22_4 {l0 : Value} {x : Int32} {ls st : List Value} {σ : Hp} {K : Option Value → Hp → Prop} : X 22 4 (l0 :: .int x :: ls) (st) σ K = X 22 5 (l0 :: .int x :: ls) (.int x :: st) σ K := X_iload_n (k := 1) (by decide +kernel) rfl
theorem x22_5 {x : Nat} {ls st : List Value} {σ : Hp} {K : Option Value → Hp → Prop} : X 22 5 (.ref x :: ls) (st) σ K = X 22 6 (.ref x :: ls) (.ref x :: st) σ K := X_aload_n (k := 0) (by decide +kernel) rfl
theorem x22_6 {ls st : List Value} {a : Nat} {σ : Hp} {K : Option Value → Hp → Prop} (ho : okF σ a 3 4 = true) : X 22 6 (ls) (.ref a :: st) σ K = X 22 9 (ls) (gF σ a 4 :: st) σ K := X_getf (idx := 31) (k := 10) (ci := 3) (f := 4) (w := 0) (by decide +kernel) (by decide +kernel) rfl (by decide +kernel) ho
theorem x22_9 {ls st : List Value} {a b : Int32} {σ : Hp} {K : Option Value → Hp → Prop} : X 22 9 (ls) (.int b :: .int a :: st) σ K = if a < b then X 22 12 (ls) (st) σ K else X 22 30 (ls) (st) σ K := X_ic_ge (off := 21) (by decide +kernel) (by decide +kernel)
theorem x22_12 {l0 : Value} {x : Int32} {ls st : List Value} {σ : Hp} {K : Option Value → Hp → Prop} : X 22 12 (l0 :: .int x :: ls) (st) σ K = X 22 13 (l0 :: .int x :: ls) (.int x :: st) σ K := X_iload_n (k := 1) (by decide +kernel) rfl
theorem x22_13 {x : Nat} {ls st : List Value} {σ : Hp} {K : Option Value → Hp → Prop} : X 22 13 (.ref x :: ls) (st) σ K = X 22 14 (.ref x :: ls) (.ref x :: st) σ K := X_aload_n (k := 0) (by decide +kernel) rfl
theorem x22_14 {ls st : List Value} {a : Nat} {σ : Hp} {K : Option Value → Hp → Prop} (ho : okF σ a 3 0 = true) : X 22 14 (ls) (.ref a :: st) σ K = X 22 17 (ls) (gF σ a 0 :: st) σ K := X_getf (idx := 9) (k := 10) (ci := 3) (f := 0) (w := 0) (by decide +kernel) (by decide +kernel) rfl (by decide +kernel) ho
theorem x22_17 {ls st : List Value} {a : Nat} {σ : Hp} {K : Option Value → Hp → Prop} (ho : okL σ a = true) : X 22 17 (ls) (.ref a :: st) σ K = X 22 18 (ls) (.int (gL σ a) :: st) σ K := X_alen (by decide +kernel) ho
theorem x22_18 {ls st : List Value} {a b : Int32} {σ : Hp} {K : Option Value → Hp → Prop} : X 22 18 (ls) (.int b :: .int a :: st) σ K = if a < b then X 22 21 (ls) (st) σ K else X 22 30 (ls) (st) σ K := X_ic_ge (off := 12) (by decide +kernel) (by decide +kernel)
theorem x22_21 {x : Nat} {ls st : List Value} {σ : Hp} {K : Option Value → Hp → Prop} : X 22 21 (.ref x :: ls) (st) σ K = X 22 22 (.ref x :: ls) (.ref x :: st) σ K := X_aload_n (k := 0) (by decide +kernel) rfl
theorem x22_22 {ls st : List Value} {a : Nat} {σ : Hp} {K : Option Value → Hp → Prop} (ho : okF σ a 3 0 = true) : X 22 22 (ls) (.ref a :: st) σ K = X 22 25 (ls) (gF σ a 0 :: st) σ K := X_getf (idx := 9) (k := 10) (ci := 3) (f := 0) (w := 0) (by decide +kernel) (by decide +kernel) rfl (by decide +kernel) ho
theorem x22_25 {l0 : Value} {x : Int32} {ls st : List Value} {σ : Hp} {K : Option Value → Hp → Prop} : X 22 25 (l0 :: .int x :: ls) (st) σ K = X 22 26 (l0 :: .int x :: ls) (.int x :: st) σ K := X_iload_n (k := 1) (by decide +kernel) rfl
theorem x22_26 {ls st : List Value} {a : Nat} {j : Int32} {σ : Hp} {K : Option Value → Hp → Prop} (ho : okA σ 0 a j = true) : X 22 26 (ls) (.int j :: .ref a :: st) σ K = X 22 27 (ls) (.int (gA σ a j) :: st) σ K := X_iald (by decide +kernel) ho
theorem x22_27 {ls st : List Value} {σ : Hp} {K : Option Value → Hp → Prop} : X 22 27 (ls) (st) σ K = X 22 31 (ls) (st) σ K := X_goto (off := 4) (by decide +kernel) (by decide +kernel)
theorem x22_30 {ls st : List Value} {σ : Hp} {K : Option Value → Hp → Prop} : X 22 30 (ls) (st) σ K = X 22 31 (ls) (.int 0 :: st) σ K := X_iconst (n := 0) (by decide +kernel) (by decide +kernel)
theorem x22_31 {ls : List Value} {x : Int32} {σ : Hp} {K : Option Value → Hp → Prop} : X 22 31 (ls) ([.int x]) σ K = K (some (.int x)) σ := X_iret (by decide +kernel) (by decide +kernel)
theorem x23_0 {l0 : Value} {x : Int32} {ls st : List Value} {σ : Hp} {K : Option Value → Hp → Prop} : X 23 0 (l0 :: .int x :: ls) (st) σ K = X 23 1 (l0 :: .int x :: ls) (.int x :: st) σ K := X_iload_n (k := 1) (by decide +kernel) rfl
theorem x23_1 {ls st : List Value} {x : Int32} {σ : Hp} {K : Option Value → Hp → Prop} : X 23 1 (ls) (.int x :: st) σ K = if x < 0 then X 23 30 (ls) (st) σ K else X 23 4 (ls) (st) σ K := X_if_lt (off := 29) (by decide +kernel) (by decide +kernel)
theorem x23_4 {l0 : Value} {x : Int32} {ls st : List Value} {σ : Hp} {K : Option Value → Hp → Prop} : X 23 4 (l0 :: .int x :: ls) (st) σ K = X 23 5 (l0 :: .int x :: ls) (.int x :: st) σ K := X_iload_n (k := 1) (by decide +kernel) rfl
theorem x23_5 {x : Nat} {ls st : List Value} {σ : Hp} {K : Option Value → Hp → Prop} : X 23 5 (.ref x :: ls) (st) σ K = X 23 6 (.ref x :: ls) (.ref x :: st) σ K := X_aload_n (k := 0) (by decide +kernel) rfl
theorem x23_6 {ls st : List Value} {a : Nat} {σ : Hp} {K : Option Value → Hp → Prop} (ho : okF σ a 3 4 = true) : X 23 6 (ls) (.ref a :: st) σ K = X 23 9 (ls) (gF σ a 4 :: st) σ K := X_getf (idx := 31) (k := 10) (ci := 3) (f := 4) (w := 0) (by decide +kernel) (by decide +kernel) rfl (by decide +kernel) ho
theorem x23_9 {ls st : List Value} {a b : Int32} {σ : Hp} {K : Option Value → Hp → Prop} : X 23 9 (ls) (.int b :: .int a :: st) σ K = if a < b then X 23 12 (ls) (st) σ K else X 23 30 (ls) (st) σ K := X_ic_ge (off := 21) (by decide +kernel) (by decide +kernel)
theorem x23_12 {l0 : Value} {x : Int32} {ls st : List Value} {σ : Hp} {K : Option Value → Hp → Prop} : X 23 12 (l0 :: .int x :: ls) (st) σ K = X 23 13 (l0 :: .int x :: ls) (.int x :: st) σ K := X_iload_n (k := 1) (by decide +kernel) rfl
theorem x23_13 {x : Nat} {ls st : List Value} {σ : Hp} {K : Option Value → Hp → Prop} : X 23 13 (.ref x :: ls) (st) σ K = X 23 14 (.ref x :: ls) (.ref x :: st) σ K := X_aload_n (k := 0) (by decide +kernel) rfl
theorem x23_14 {ls st : List Value} {a : Nat} {σ : Hp} {K : Option Value → Hp → Prop} (ho : okF σ a 3 1 = true) : X 23 14 (ls) (.ref a :: st) σ K = X 23 17 (ls) (gF σ a 1 :: st) σ K := X_getf (idx := 15) (k := 10) (ci := 3) (f := 1) (w := 0) (by decide +kernel) (by decide +kernel) rfl (by decide +kernel) ho
theorem x23_17 {ls st : List Value} {a : Nat} {σ : Hp} {K : Option Value → Hp → Prop} (ho : okL σ a = true) : X 23 17 (ls) (.ref a :: st) σ K = X 23 18 (ls) (.int (gL σ a) :: st) σ K := X_alen (by decide +kernel) ho
theorem x23_18 {ls st : List Value} {a b : Int32} {σ : Hp} {K : Option Value → Hp → Prop} : X 23 18 (ls) (.int b :: .int a :: st) σ K = if a < b then X 23 21 (ls) (st) σ K else X 23 30 (ls) (st) σ K := X_ic_ge (off := 12) (by decide +kernel) (by decide +kernel)
theorem x23_21 {x : Nat} {ls st : List Value} {σ : Hp} {K : Option Value → Hp → Prop} : X 23 21 (.ref x :: ls) (st) σ K = X 23 22 (.ref x :: ls) (.ref x :: st) σ K := X_aload_n (k := 0) (by decide +kernel) rfl
theorem x23_22 {ls st : List Value} {a : Nat} {σ : Hp} {K : Option Value → Hp → Prop} (ho : okF σ a 3 1 = true) : X 23 22 (ls) (.ref a :: st) σ K = X 23 25 (ls) (gF σ a 1 :: st) σ K := X_getf (idx := 15) (k := 10) (ci := 3) (f := 1) (w := 0) (by decide +kernel) (by decide +kernel) rfl (by decide +kernel) ho
theorem x23_25 {l0 : Value} {x : Int32} {ls st : List Value} {σ : Hp} {K : Option Value → Hp → Prop} : X 23 25 (l0 :: .int x :: ls) (st) σ K = X 23 26 (l0 :: .int x :: ls) (.int x :: st) σ K := X_iload_n (k := 1) (by decide +kernel) rfl
theorem x23_26 {ls st : List Value} {a : Nat} {j : Int32} {σ : Hp} {K : Option Value → Hp → Prop} (ho : okA σ 0 a j = true) : X 23 26 (ls) (.int j :: .ref a :: st) σ K = X 23 27 (ls) (.int (gA σ a j) :: st) σ K := X_iald (by decide +kernel) ho
theorem x23_27 {ls st : List Value} {σ : Hp} {K : Option Value → Hp → Prop} : X 23 27 (ls) (st) σ K = X 23 31 (ls) (st) σ K := X_goto (off := 4) (by decide +kernel) (by decide +kernel)
theorem x23_30 {ls st : List Value} {σ : Hp} {K : Option Value → Hp → Prop} : X 23 30 (ls) (st) σ K = X 23 31 (ls) (.int 0 :: st) σ K := X_iconst (n := 0) (by decide +kernel) (by decide +kernel)
theorem x23_31 {ls : List Value} {x : Int32} {σ : Hp} {K : Option Value → Hp → Prop} : X 23 31 (ls) ([.int x]) σ K = K (some (.int x)) σ := X_iret (by decide +kernel) (by decide +kernel)
theorem x24_0 {l0 : Value} {x : Int32} {ls st : List Value} {σ : Hp} {K : Option Value → Hp → Prop} : X 24 0 (l0 :: .int x :: ls) (st) σ K = X 24 1 (l0 :: .int x :: ls) (.int x :: st) σ K := X_iload_n (k := 1) (by decide +kernel) rfl
theorem x24_1 {ls st : List Value} {x : Int32} {σ : Hp} {K : Option Value → Hp → Prop} : X 24 1 (ls) (.int x :: st) σ K = if x < 0 then X 24 30 (ls) (st) σ K else X 24 4 (ls) (st) σ K := X_if_lt (off := 29) (by decide +kernel) (by decide +kernel)
theorem x24_4 {l0 : Value} {x : Int32} {ls st : List Value} {σ : Hp} {K : Option Value → Hp → Prop} : X 24 4 (l0 :: .int x :: ls) (st) σ K = X 24 5 (l0 :: .int x :: ls) (.int x :: st) σ K := X_iload_n (k := 1) (by decide +kernel) rfl
theorem x24_5 {x : Nat} {ls st : List Value} {σ : Hp} {K : Option Value → Hp → Prop} : X 24 5 (.ref x :: ls) (st) σ K = X 24 6 (.ref x :: ls) (.ref x :: st) σ K := X_aload_n (k := 0) (by decide +kernel) rfl
theorem x24_6 {ls st : List Value} {a : Nat} {σ : Hp} {K : Option Value → Hp → Prop} (ho : okF σ a 3 4 = true) : X 24 6 (ls) (.ref a :: st) σ K = X 24 9 (ls) (gF σ a 4 :: st) σ K := X_getf (idx := 31) (k := 10) (ci := 3) (f := 4) (w := 0) (by decide +kernel) (by decide +kernel) rfl (by decide +kernel) ho
theorem x24_9 {ls st : List Value} {a b : Int32} {σ : Hp} {K : Option Value → Hp → Prop} : X 24 9 (ls) (.int b :: .int a :: st) σ K = if a < b then X 24 12 (ls) (st) σ K else X 24 30 (ls) (st) σ K := X_ic_ge (off := 21) (by decide +kernel) (by decide +kernel)
theorem x24_12 {l0 : Value} {x : Int32} {ls st : List Value} {σ : Hp} {K : Option Value → Hp → Prop} : X 24 12 (l0 :: .int x :: ls) (st) σ K = X 24 13 (l0 :: .int x :: ls) (.int x :: st) σ K := X_iload_n (k := 1) (by decide +kernel) rfl
theorem x24_13 {x : Nat} {ls st : List Value} {σ : Hp} {K : Option Value → Hp → Prop} : X 24 13 (.ref x :: ls) (st) σ K = X 24 14 (.ref x :: ls) (.ref x :: st) σ K := X_aload_n (k := 0) (by decide +kernel) rfl
theorem x24_14 {ls st : List Value} {a : Nat} {σ : Hp} {K : Option Value → Hp → Prop} (ho : okF σ a 3 2 = true) : X 24 14 (ls) (.ref a :: st) σ K = X 24 17 (ls) (gF σ a 2 :: st) σ K := X_getf (idx := 18) (k := 10) (ci := 3) (f := 2) (w := 0) (by decide +kernel) (by decide +kernel) rfl (by decide +kernel) ho
theorem x24_17 {ls st : List Value} {a : Nat} {σ : Hp} {K : Option Value → Hp → Prop} (ho : okL σ a = true) : X 24 17 (ls) (.ref a :: st) σ K = X 24 18 (ls) (.int (gL σ a) :: st) σ K := X_alen (by decide +kernel) ho
theorem x24_18 {ls st : List Value} {a b : Int32} {σ : Hp} {K : Option Value → Hp → Prop} : X 24 18 (ls) (.int b :: .int a :: st) σ K = if a < b then X 24 21 (ls) (st) σ K else X 24 30 (ls) (st) σ K := X_ic_ge (off := 12) (by decide +kernel) (by decide +kernel)
theorem x24_21 {x : Nat} {ls st : List Value} {σ : Hp} {K : Option Value → Hp → Prop} : X 24 21 (.ref x :: ls) (st) σ K = X 24 22 (.ref x :: ls) (.ref x :: st) σ K := X_aload_n (k := 0) (by decide +kernel) rfl
theorem x24_22 {ls st : List Value} {a : Nat} {σ : Hp} {K : Option Value → Hp → Prop} (ho : okF σ a 3 2 = true) : X 24 22 (ls) (.ref a :: st) σ K = X 24 25 (ls) (gF σ a 2 :: st) σ K := X_getf (idx := 18) (k := 10) (ci := 3) (f := 2) (w := 0) (by decide +kernel) (by decide +kernel) rfl (by decide +kernel) ho
theorem x24_25 {l0 : Value} {x : Int32} {ls st : List Value} {σ : Hp} {K : Option Value → Hp → Prop} : X 24 25 (l0 :: .int x :: ls) (st) σ K = X 24 26 (l0 :: .int x :: ls) (.int x :: st) σ K := X_iload_n (k := 1) (by decide +kernel) rfl
theorem x24_26 {ls st : List Value} {a : Nat} {j : Int32} {σ : Hp} {K : Option Value → Hp → Prop} (ho : okA σ 0 a j = true) : X 24 26 (ls) (.int j :: .ref a :: st) σ K = X 24 27 (ls) (.int (gA σ a j) :: st) σ K := X_iald (by decide +kernel) ho
theorem x24_27 {ls st : List Value} {σ : Hp} {K : Option Value → Hp → Prop} : X 24 27 (ls) (st) σ K = X 24 31 (ls) (st) σ K := X_goto (off := 4) (by decide +kernel) (by decide +kernel)
theorem x24_30 {ls st : List Value} {σ : Hp} {K : Option Value → Hp → Prop} : X 24 30 (ls) (st) σ K = X 24 31 (ls) (.int 0 :: st) σ K := X_iconst (n := 0) (by decide +kernel) (by decide +kernel)
theorem x24_31 {ls : List Value} {x : Int32} {σ : Hp} {K : Option Value → Hp → Prop} : X 24 31 (ls) ([.int x]) σ K = K (some (.int x)) σ := X_iret (by decide +kernel) (by decide +kernel)
theorem x25_0 {ls st : List Value} {σ : Hp} {K : Option Value → Hp → Prop} : X 25 0 (ls) (st) σ K = X 25 1 (ls) (.int 0 :: st) σ K := X_iconst (n := 0) (by decide +kernel) (by decide +kernel)
theorem x25_1 {l0 l1 w : Value} {x : Int32} {ls st : List Value} {σ : Hp} {K : Option Value → Hp → Prop} (hw : isD w = false) : X 25 1 (l0 :: l1 :: w :: ls) (.int x :: st) σ K = X 25 2 (l0 :: l1 :: .int x :: ls) (st) σ K := X_istore_n (k := 2) (by decide +kernel) (Nat.succ_lt_succ (Nat.succ_lt_succ (Nat.zero_lt_succ _))) rfl hw
theorem x25_2 {l0 l1 : Value} {x : Int32} {ls st : List Value} {σ : Hp} {K : Option Value → Hp → Prop} : X 25 2 (l0 :: l1 :: .int x :: ls) (st) σ K = X 25 3 (l0 :: l1 :: .int x :: ls) (.int x :: st) σ K := X_iload_n (k := 2) (by decide +kernel) rfl
theorem x25_3 {x : Nat} {ls st : List Value} {σ : Hp} {K : Option Value → Hp → Prop} : X 25 3 (.ref x :: ls) (st) σ K = X 25 4 (.ref x :: ls) (.ref x :: st) σ K := X_aload_n (k := 0) (by decide +kernel) rfl
theorem x25_4 {ls st : List Value} {a : Nat} {σ : Hp} {K : Option Value → Hp → Prop} (ho : okF σ a 3 4 = true) : X 25 4 (ls) (.ref a :: st) σ K = X 25 7 (ls) (gF σ a 4 :: st) σ K := X_getf (idx := 31) (k := 10) (ci := 3) (f := 4) (w := 0) (by decide +kernel) (by decide +kernel) rfl (by decide +kernel) ho
theorem x25_7 {ls st : List Value} {a b : Int32} {σ : Hp} {K : Option Value → Hp → Prop} : X 25 7 (ls) (.int b :: .int a :: st) σ K = if a < b then X 25 10 (ls) (st) σ K else X 25 27 (ls) (st) σ K := X_ic_ge (off := 20) (by decide +kernel) (by decide +kernel)
theorem x25_10 {x : Nat} {ls st : List Value} {σ : Hp} {K : Option Value → Hp → Prop} : X 25 10 (.ref x :: ls) (st) σ K = X 25 11 (.ref x :: ls) (.ref x :: st) σ K := X_aload_n (k := 0) (by decide +kernel) rfl
theorem x25_11 {l0 l1 : Value} {x : Int32} {ls st : List Value} {σ : Hp} {K : Option Value → Hp → Prop} : X 25 11 (l0 :: l1 :: .int x :: ls) (st) σ K = X 25 12 (l0 :: l1 :: .int x :: ls) (.int x :: st) σ K := X_iload_n (k := 2) (by decide +kernel) rfl
theorem x25_12 {ls st : List Value} {b : Nat} {a0 : Int32}  {σ : Hp} {K : Option Value → Hp → Prop} (ho : okO σ b 3 = true) (hr : st.length ≤ 4) : X 25 12 (ls) (.int a0 :: .ref b :: st) σ K = X 22 0 [.ref b, .int a0] [] σ (fun v σ' => X 25 15 ls (pushO v st) σ' K) := X_invV (as := [.int a0]) (idx := 34) (k := 0) (z := 22) (w0 := 0) (w := 0) (n := 1) (q := 2) (by decide +kernel) (by decide +kernel) rfl (by decide +kernel) (by decide +kernel) rfl rfl (by decide +kernel) (Nat.le_of_ble_eq_true rfl) ho hr
theorem x25_15 {l0 : Value} {x : Int32} {ls st : List Value} {σ : Hp} {K : Option Value → Hp → Prop} : X 25 15 (l0 :: .int x :: ls) (st) σ K = X 25 16 (l0 :: .int x :: ls) (.int x :: st) σ K := X_iload_n (k := 1) (by decide +kernel) rfl
theorem x25_16 {ls st : List Value} {a b : Int32} {σ : Hp} {K : Option Value → Hp → Prop} : X 25 16 (ls) (.int b :: .int a :: st) σ K = if a = b then X 25 19 (ls) (st) σ K else X 25 21 (ls) (st) σ K := X_ic_ne (off := 5) (by decide +kernel) (by decide +kernel)
theorem x25_19 {l0 l1 : Value} {x : Int32} {ls st : List Value} {σ : Hp} {K : Option Value → Hp → Prop} : X 25 19 (l0 :: l1 :: .int x :: ls) (st) σ K = X 25 20 (l0 :: l1 :: .int x :: ls) (.int x :: st) σ K := X_iload_n (k := 2) (by decide +kernel) rfl
theorem x25_20 {ls : List Value} {x : Int32} {σ : Hp} {K : Option Value → Hp → Prop} : X 25 20 (ls) ([.int x]) σ K = K (some (.int x)) σ := X_iret (by decide +kernel) (by decide +kernel)
theorem x25_21 {l0 l1 : Value} {x : Int32} {ls st : List Value} {σ : Hp} {K : Option Value → Hp → Prop} : X 25 21 (l0 :: l1 :: .int x :: ls) (st) σ K = X 25 24 (l0 :: l1 :: .int (x + 1) :: ls) (st) σ K := X_iinc (k := 2) (n := 1) (by decide +kernel) (by decide +kernel) rfl
theorem x25_24 {ls st : List Value} {σ : Hp} {K : Option Value → Hp → Prop} : X 25 24 (ls) (st) σ K = X 25 2 (ls) (st) σ K := X_goto (off := (-22)) (by decide +kernel) (by decide +kernel)
theorem x25_27 {ls st : List Value} {σ : Hp} {K : Option Value → Hp → Prop} : X 25 27 (ls) (st) σ K = X 25 29 (ls) (.int (-6) :: st) σ K := X_bipush (n := (-6)) (by decide +kernel) (by decide +kernel)
theorem x25_29 {ls : List Value} {x : Int32} {σ : Hp} {K : Option Value → Hp → Prop} : X 25 29 (ls) ([.int x]) σ K = K (some (.int x)) σ := X_iret (by decide +kernel) (by decide +kernel)
theorem x26_0 {x : Nat} {ls st : List Value} {σ : Hp} {K : Option Value → Hp → Prop} : X 26 0 (.ref x :: ls) (st) σ K = X 26 1 (.ref x :: ls) (.ref x :: st) σ K := X_aload_n (k := 0) (by decide +kernel) rfl
theorem x26_1 {l0 : Value} {x : Int32} {ls st : List Value} {σ : Hp} {K : Option Value → Hp → Prop} : X 26 1 (l0 :: .int x :: ls) (st) σ K = X 26 2 (l0 :: .int x :: ls) (.int x :: st) σ K := X_iload_n (k := 1) (by decide +kernel) rfl
theorem x26_2 {ls st : List Value} {b : Nat} {a0 : Int32}  {σ : Hp} {K : Option Value → Hp → Prop} (ho : okO σ b 3 = true) (hr : st.length ≤ 4) : X 26 2 (ls) (.int a0 :: .ref b :: st) σ K = X 25 0 [.ref b, .int a0, .null] [] σ (fun v σ' => X 26 5 ls (pushO v st) σ' K) := X_invV (as := [.int a0]) (idx := 38) (k := 0) (z := 25) (w0 := 0) (w := 0) (n := 1) (q := 3) (by decide +kernel) (by decide +kernel) rfl (by decide +kernel) (by decide +kernel) rfl rfl (by decide +kernel) (Nat.le_of_ble_eq_true rfl) ho hr
theorem x26_5 {l0 l1 w : Value} {x : Int32} {ls st : List Value} {σ : Hp} {K : Option Value → Hp → Prop} (hw : isD w = false) : X 26 5 (l0 :: l1 :: w :: ls) (.int x :: st) σ K = X 26 6 (l0 :: l1 :: .int x :: ls) (st) σ K := X_istore_n (k := 2) (by decide +kernel) (Nat.succ_lt_succ (Nat.succ_lt_succ (Nat.zero_lt_succ _))) rfl hw
theorem x26_6 {l0 l1 : Value} {x : Int32} {ls st : List Value} {σ : Hp} {K : Option Value → Hp → Prop} : X 26 6 (l0 :: l1 :: .int x :: ls) (st) σ K = X 26 7 (l0 :: l1 :: .int x :: ls) (.int x :: st) σ K := X_iload_n (k := 2) (by decide +kernel) rfl
theorem x26_7 {ls st : List Value} {σ : Hp} {K : Option Value → Hp → Prop} : X 26 7 (ls) (st) σ K = X 26 9 (ls) (.int (-6) :: st) σ K := X_bipush (n := (-6)) (by decide +kernel) (by decide +kernel)
theorem x26_9 {ls st : List Value} {a b : Int32} {σ : Hp} {K : Option Value → Hp → Prop} : X 26 9 (ls) (.int b :: .int a :: st) σ K = if a = b then X 26 12 (ls) (st) σ K else X 26 19 (ls) (st) σ K := X_ic_ne (off := 10) (by decide +kernel) (by decide +kernel)
theorem x26_12 {x : Nat} {ls st : List Value} {σ : Hp} {K : Option Value → Hp → Prop} : X 26 12 (.ref x :: ls) (st) σ K = X 26 13 (.ref x :: ls) (.ref x :: st) σ K := X_aload_n (k := 0) (by decide +kernel) rfl
theorem x26_13 {ls st : List Value} {b : Nat}  {σ : Hp} {K : Option Value → Hp → Prop} (ho : okO σ b 3 = true) (hr : st.length ≤ 4) : X 26 13 (ls) (.ref b :: st) σ K = X 29 0 [.ref b, .null, .null] [] σ (fun v σ' => X 26 16 ls (pushO v st) σ' K) := X_invV (as := []) (idx := 41) (k := 0) (z := 29) (w0 := 0) (w := 0) (n := 0) (q := 3) (by decide +kernel) (by decide +kernel) rfl (by decide +kernel) (by decide +kernel) rfl rfl (by decide +kernel) (Nat.le_of_ble_eq_true rfl) ho hr
theorem x26_16 {ls st : List Value} {σ : Hp} {K : Option Value → Hp → Prop} : X 26 16 (ls) (st) σ K = X 26 24 (ls) (st) σ K := X_goto (off := 8) (by decide +kernel) (by decide +kernel)
theorem x26_19 {x : Nat} {ls st : List Value} {σ : Hp} {K : Option Value → Hp → Prop} : X 26 19 (.ref x :: ls) (st) σ K = X 26 20 (.ref x :: ls) (.ref x :: st) σ K := X_aload_n (k := 0) (by decide +kernel) rfl
theorem x26_20 {l0 l1 : Value} {x : Int32} {ls st : List Value} {σ : Hp} {K : Option Value → Hp → Prop} : X 26 20 (l0 :: l1 :: .int x :: ls) (st) σ K = X 26 21 (l0 :: l1 :: .int x :: ls) (.int x :: st) σ K := X_iload_n (k := 2) (by decide +kernel) rfl
theorem x26_21 {ls st : List Value} {b : Nat} {a0 : Int32}  {σ : Hp} {K : Option Value → Hp → Prop} (ho : okO σ b 3 = true) (hr : st.length ≤ 4) : X 26 21 (ls) (.int a0 :: .ref b :: st) σ K = X 23 0 [.ref b, .int a0] [] σ (fun v σ' => X 26 24 ls (pushO v st) σ' K) := X_invV (as := [.int a0]) (idx := 45) (k := 0) (z := 23) (w0 := 0) (w := 0) (n := 1) (q := 2) (by decide +kernel) (by decide +kernel) rfl (by decide +kernel) (by decide +kernel) rfl rfl (by decide +kernel) (Nat.le_of_ble_eq_true rfl) ho hr
theorem x26_24 {ls : List Value} {x : Int32} {σ : Hp} {K : Option Value → Hp → Prop} : X 26 24 (ls) ([.int x]) σ K = K (some (.int x)) σ := X_iret (by decide +kernel) (by decide +kernel)
theorem x27_0 {x : Nat} {ls st : List Value} {σ : Hp} {K : Option Value → Hp → Prop} : X 27 0 (.ref x :: ls) (st) σ K = X 27 1 (.ref x :: ls) (.ref x :: st) σ K := X_aload_n (k := 0) (by decide +kernel) rfl
theorem x27_1 {x : Nat} {ls st : List Value} {σ : Hp} {K : Option Value → Hp → Prop} : X 27 1 (.ref x :: ls) (st) σ K = X 27 2 (.ref x :: ls) (.ref x :: st) σ K := X_aload_n (k := 0) (by decide +kernel) rfl
theorem x27_2 {l0 : Value} {x : Int32} {ls st : List Value} {σ : Hp} {K : Option Value → Hp → Prop} : X 27 2 (l0 :: .int x :: ls) (st) σ K = X 27 3 (l0 :: .int x :: ls) (.int x :: st) σ K := X_iload_n (k := 1) (by decide +kernel) rfl
theorem x27_3 {ls st : List Value} {b : Nat} {a0 : Int32}  {σ : Hp} {K : Option Value → Hp → Prop} (ho : okO σ b 3 = true) (hr : st.length ≤ 4) : X 27 3 (ls) (.int a0 :: .ref b :: st) σ K = X 25 0 [.ref b, .int a0, .null] [] σ (fun v σ' => X 27 6 ls (pushO v st) σ' K) := X_invV (as := [.int a0]) (idx := 38) (k := 0) (z := 25) (w0 := 0) (w := 0) (n := 1) (q := 3) (by decide +kernel) (by decide +kernel) rfl (by decide +kernel) (by decide +kernel) rfl rfl (by decide +kernel) (Nat.le_of_ble_eq_true rfl) ho hr
theorem x27_6 {ls st : List Value} {b : Nat} {a0 : Int32}  {σ : Hp} {K : Option Value → Hp → Prop} (ho : okO σ b 3 = true) (hr : st.length ≤ 4) : X 27 6 (ls) (.int a0 :: .ref b :: st) σ K = X 28 0 [.ref b, .int a0] [] σ (fun v σ' => X 27 9 ls (pushO v st) σ' K) := X_invV (as := [.int a0]) (idx := 48) (k := 0) (z := 28) (w0 := 0) (w := 0) (n := 1) (q := 2) (by decide +kernel) (by decide +kernel) rfl (by decide +kernel) (by decide +kernel) rfl rfl (by decide +kernel) (Nat.le_of_ble_eq_true rfl) ho hr
theorem x27_9 {ls : List Value} {x : Int32} {σ : Hp} {K : Option Value → Hp → Prop} : X 27 9 (ls) ([.int x]) σ K = K (some (.int x)) σ := X_iret (by decide +kernel) (by decide +kernel)
theorem x28_0 {x : Nat} {ls st : List Value} {σ : Hp} {K : Option Value → Hp → Prop} : X 28 0 (.ref x :: ls) (st) σ K = X 28 1 (.ref x :: ls) (.ref x :: st) σ K := X_aload_n (k := 0) (by decide +kernel) rfl
theorem x28_1 {l0 : Value} {x : Int32} {ls st : List Value} {σ : Hp} {K : Option Value → Hp → Prop} : X 28 1 (l0 :: .int x :: ls) (st) σ K = X 28 2 (l0 :: .int x :: ls) (.int x :: st) σ K := X_iload_n (k := 1) (by decide +kernel) rfl
theorem x28_2 {ls st : List Value} {b : Nat} {a0 : Int32}  {σ : Hp} {K : Option Value → Hp → Prop} (ho : okO σ b 3 = true) (hr : st.length ≤ 4) : X 28 2 (ls) (.int a0 :: .ref b :: st) σ K = X 23 0 [.ref b, .int a0] [] σ (fun v σ' => X 28 5 ls (pushO v st) σ' K) := X_invV (as := [.int a0]) (idx := 45) (k := 0) (z := 23) (w0 := 0) (w := 0) (n := 1) (q := 2) (by decide +kernel) (by decide +kernel) rfl (by decide +kernel) (by decide +kernel) rfl rfl (by decide +kernel) (Nat.le_of_ble_eq_true rfl) ho hr
theorem x28_5 {x : Nat} {ls st : List Value} {σ : Hp} {K : Option Value → Hp → Prop} : X 28 5 (.ref x :: ls) (st) σ K = X 28 6 (.ref x :: ls) (.ref x :: st) σ K := X_aload_n (k := 0) (by decide +kernel) rfl
theorem x28_6 {l0 : Value} {x : Int32} {ls st : List Value} {σ : Hp} {K : Option Value → Hp → Prop} : X 28 6 (l0 :: .int x :: ls) (st) σ K = X 28 7 (l0 :: .int x :: ls) (.int x :: st) σ K := X_iload_n (k := 1) (by decide +kernel) rfl
theorem x28_7 {ls st : List Value} {b : Nat} {a0 : Int32}  {σ : Hp} {K : Option Value → Hp → Prop} (ho : okO σ b 3 = true) (hr : st.length ≤ 4) : X 28 7 (ls) (.int a0 :: .ref b :: st) σ K = X 24 0 [.ref b, .int a0] [] σ (fun v σ' => X 28 10 ls (pushO v st) σ' K) := X_invV (as := [.int a0]) (idx := 51) (k := 0) (z := 24) (w0 := 0) (w := 0) (n := 1) (q := 2) (by decide +kernel) (by decide +kernel) rfl (by decide +kernel) (by decide +kernel) rfl rfl (by decide +kernel) (Nat.le_of_ble_eq_true rfl) ho hr
theorem x28_10 {ls st : List Value} {a b : Int32} {σ : Hp} {K : Option Value → Hp → Prop} : X 28 10 (ls) (.int b :: .int a :: st) σ K = X 28 11 (ls) (.int (a - b) :: st) σ K := X_isub (by decide +kernel)
theorem x28_11 {ls : List Value} {x : Int32} {σ : Hp} {K : Option Value → Hp → Prop} : X 28 11 (ls) ([.int x]) σ K = K (some (.int x)) σ := X_iret (by decide +kernel) (by decide +kernel)
theorem x29_0 {x : Nat} {ls st : List Value} {σ : Hp} {K : Option Value → Hp → Prop} : X 29 0 (.ref x :: ls) (st) σ K = X 29 1 (.ref x :: ls) (.ref x :: st) σ K := X_aload_n (k := 0) (by decide +kernel) rfl
theorem x29_1 {ls st : List Value} {a : Nat} {σ : Hp} {K : Option Value → Hp → Prop} (ho : okF σ a 3 4 = true) : X 29 1 (ls) (.ref a :: st) σ K = X 29 4 (ls) (gF σ a 4 :: st) σ K := X_getf (idx := 31) (k := 10) (ci := 3) (f := 4) (w := 0) (by decide +kernel) (by decide +kernel) rfl (by decide +kernel) ho
theorem x29_4 {x : Nat} {ls st : List Value} {σ : Hp} {K : Option Value → Hp → Prop} : X 29 4 (.ref x :: ls) (st) σ K = X 29 5 (.ref x :: ls) (.ref x :: st) σ K := X_aload_n (k := 0) (by decide +kernel) rfl
theorem x29_5 {ls st : List Value} {a : Nat} {σ : Hp} {K : Option Value → Hp → Prop} (ho : okF σ a 3 3 = true) : X 29 5 (ls) (.ref a :: st) σ K = X 29 8 (ls) (gF σ a 3 :: st) σ K := X_getf (idx := 21) (k := 10) (ci := 3) (f := 3) (w := 0) (by decide +kernel) (by decide +kernel) rfl (by decide +kernel) ho
theorem x29_8 {ls st : List Value} {a b : Int32} {σ : Hp} {K : Option Value → Hp → Prop} : X 29 8 (ls) (.int b :: .int a :: st) σ K = if a < b then X 29 11 (ls) (st) σ K else X 29 13 (ls) (st) σ K := X_ic_ge (off := 5) (by decide +kernel) (by decide +kernel)
theorem x29_11 {ls st : List Value} {σ : Hp} {K : Option Value → Hp → Prop} : X 29 11 (ls) (st) σ K = X 29 12 (ls) (.int 0 :: st) σ K := X_iconst (n := 0) (by decide +kernel) (by decide +kernel)
theorem x29_12 {ls : List Value} {x : Int32} {σ : Hp} {K : Option Value → Hp → Prop} : X 29 12 (ls) ([.int x]) σ K = K (some (.int x)) σ := X_iret (by decide +kernel) (by decide +kernel)
theorem x29_13 {x : Nat} {ls st : List Value} {σ : Hp} {K : Option Value → Hp → Prop} : X 29 13 (.ref x :: ls) (st) σ K = X 29 14 (.ref x :: ls) (.ref x :: st) σ K := X_aload_n (k := 0) (by decide +kernel) rfl
theorem x29_14 {ls st : List Value} {σ : Hp} {K : Option Value → Hp → Prop} : X 29 14 (ls) (st) σ K = X 29 15 (ls) (.int 0 :: st) σ K := X_iconst (n := 0) (by decide +kernel) (by decide +kernel)
theorem x29_15 {ls st : List Value} {b : Nat} {a0 : Int32}  {σ : Hp} {K : Option Value → Hp → Prop} (ho : okO σ b 3 = true) (hr : st.length ≤ 4) : X 29 15 (ls) (.int a0 :: .ref b :: st) σ K = X 23 0 [.ref b, .int a0] [] σ (fun v σ' => X 29 18 ls (pushO v st) σ' K) := X_invV (as := [.int a0]) (idx := 45) (k := 0) (z := 23) (w0 := 0) (w := 0) (n := 1) (q := 2) (by decide +kernel) (by decide +kernel) rfl (by decide +kernel) (by decide +kernel) rfl rfl (by decide +kernel) (Nat.le_of_ble_eq_true rfl) ho hr
theorem x29_18 {l0 w : Value} {x : Int32} {ls st : List Value} {σ : Hp} {K : Option Value → Hp → Prop} (hw : isD w = false) : X 29 18 (l0 :: w :: ls) (.int x :: st) σ K = X 29 19 (l0 :: .int x :: ls) (st) σ K := X_istore_n (k := 1) (by decide +kernel) (Nat.succ_lt_succ (Nat.zero_lt_succ _)) rfl hw
theorem x29_19 {ls st : List Value} {σ : Hp} {K : Option Value → Hp → Prop} : X 29 19 (ls) (st) σ K = X 29 20 (ls) (.int 1 :: st) σ K := X_iconst (n := 1) (by decide +kernel) (by decide +kernel)
theorem x29_20 {l0 l1 w : Value} {x : Int32} {ls st : List Value} {σ : Hp} {K : Option Value → Hp → Prop} (hw : isD w = false) : X 29 20 (l0 :: l1 :: w :: ls) (.int x :: st) σ K = X 29 21 (l0 :: l1 :: .int x :: ls) (st) σ K := X_istore_n (k := 2) (by decide +kernel) (Nat.succ_lt_succ (Nat.succ_lt_succ (Nat.zero_lt_succ _))) rfl hw
theorem x29_21 {l0 l1 : Value} {x : Int32} {ls st : List Value} {σ : Hp} {K : Option Value → Hp → Prop} : X 29 21 (l0 :: l1 :: .int x :: ls) (st) σ K = X 29 22 (l0 :: l1 :: .int x :: ls) (.int x :: st) σ K := X_iload_n (k := 2) (by decide +kernel) rfl
theorem x29_22 {x : Nat} {ls st : List Value} {σ : Hp} {K : Option Value → Hp → Prop} : X 29 22 (.ref x :: ls) (st) σ K = X 29 23 (.ref x :: ls) (.ref x :: st) σ K := X_aload_n (k := 0) (by decide +kernel) rfl
theorem x29_23 {ls st : List Value} {a : Nat} {σ : Hp} {K : Option Value → Hp → Prop} (ho : okF σ a 3 4 = true) : X 29 23 (ls) (.ref a :: st) σ K = X 29 26 (ls) (gF σ a 4 :: st) σ K := X_getf (idx := 31) (k := 10) (ci := 3) (f := 4) (w := 0) (by decide +kernel) (by decide +kernel) rfl (by decide +kernel) ho
theorem x29_26 {ls st : List Value} {a b : Int32} {σ : Hp} {K : Option Value → Hp → Prop} : X 29 26 (ls) (.int b :: .int a :: st) σ K = if a < b then X 29 29 (ls) (st) σ K else X 29 45 (ls) (st) σ K := X_ic_ge (off := 19) (by decide +kernel) (by decide +kernel)
theorem x29_29 {l0 : Value} {x : Int32} {ls st : List Value} {σ : Hp} {K : Option Value → Hp → Prop} : X 29 29 (l0 :: .int x :: ls) (st) σ K = X 29 30 (l0 :: .int x :: ls) (.int x :: st) σ K := X_iload_n (k := 1) (by decide +kernel) rfl
theorem x29_30 {x : Nat} {ls st : List Value} {σ : Hp} {K : Option Value → Hp → Prop} : X 29 30 (.ref x :: ls) (st) σ K = X 29 31 (.ref x :: ls) (.ref x :: st) σ K := X_aload_n (k := 0) (by decide +kernel) rfl
theorem x29_31 {l0 l1 : Value} {x : Int32} {ls st : List Value} {σ : Hp} {K : Option Value → Hp → Prop} : X 29 31 (l0 :: l1 :: .int x :: ls) (st) σ K = X 29 32 (l0 :: l1 :: .int x :: ls) (.int x :: st) σ K := X_iload_n (k := 2) (by decide +kernel) rfl
theorem x29_32 {ls st : List Value} {b : Nat} {a0 : Int32}  {σ : Hp} {K : Option Value → Hp → Prop} (ho : okO σ b 3 = true) (hr : st.length ≤ 4) : X 29 32 (ls) (.int a0 :: .ref b :: st) σ K = X 23 0 [.ref b, .int a0] [] σ (fun v σ' => X 29 35 ls (pushO v st) σ' K) := X_invV (as := [.int a0]) (idx := 45) (k := 0) (z := 23) (w0 := 0) (w := 0) (n := 1) (q := 2) (by decide +kernel) (by decide +kernel) rfl (by decide +kernel) (by decide +kernel) rfl rfl (by decide +kernel) (Nat.le_of_ble_eq_true rfl) ho hr
theorem x29_35 {ls st : List Value} {a b : Int32} {σ : Hp} {K : Option Value → Hp → Prop} (hr : st.length ≤ 4) : X 29 35 (ls) (.int b :: .int a :: st) σ K = X 29 38 (ls) (.int (if b < a then b else a) :: st) σ K := X_min (idx := 54) (w1 := 0) (w2 := 0) (w := 0) (by decide +kernel) (by decide +kernel) (by decide +kernel) hr
theorem x29_38 {l0 w : Value} {x : Int32} {ls st : List Value} {σ : Hp} {K : Option Value → Hp → Prop} (hw : isD w = false) : X 29 38 (l0 :: w :: ls) (.int x :: st) σ K = X 29 39 (l0 :: .int x :: ls) (st) σ K := X_istore_n (k := 1) (by decide +kernel) (Nat.succ_lt_succ (Nat.zero_lt_succ _)) rfl hw
theorem x29_39 {l0 l1 : Value} {x : Int32} {ls st : List Value} {σ : Hp} {K : Option Value → Hp → Prop} : X 29 39 (l0 :: l1 :: .int x :: ls) (st) σ K = X 29 42 (l0 :: l1 :: .int (x + 1) :: ls) (st) σ K := X_iinc (k := 2) (n := 1) (by decide +kernel) (by decide +kernel) rfl
theorem x29_42 {ls st : List Value} {σ : Hp} {K : Option Value → Hp → Prop} : X 29 42 (ls) (st) σ K = X 29 21 (ls) (st) σ K := X_goto (off := (-21)) (by decide +kernel) (by decide +kernel)
theorem x29_45 {l0 : Value} {x : Int32} {ls st : List Value} {σ : Hp} {K : Option Value → Hp → Prop} : X 29 45 (l0 :: .int x :: ls) (st) σ K = X 29 46 (l0 :: .int x :: ls) (.int x :: st) σ K := X_iload_n (k := 1) (by decide +kernel) rfl
theorem x29_46 {ls : List Value} {x : Int32} {σ : Hp} {K : Option Value → Hp → Prop} : X 29 46 (ls) ([.int x]) σ K = K (some (.int x)) σ := X_iret (by decide +kernel) (by decide +kernel)
theorem x30_0 {ls st : List Value} {σ : Hp} {K : Option Value → Hp → Prop} : X 30 0 (ls) (st) σ K = X 30 1 (ls) (.int 0 :: st) σ K := X_iconst (n := 0) (by decide +kernel) (by decide +kernel)
theorem x30_1 {l0 w : Value} {x : Int32} {ls st : List Value} {σ : Hp} {K : Option Value → Hp → Prop} (hw : isD w = false) : X 30 1 (l0 :: w :: ls) (.int x :: st) σ K = X 30 2 (l0 :: .int x :: ls) (st) σ K := X_istore_n (k := 1) (by decide +kernel) (Nat.succ_lt_succ (Nat.zero_lt_succ _)) rfl hw
theorem x30_2 {ls st : List Value} {σ : Hp} {K : Option Value → Hp → Prop} : X 30 2 (ls) (st) σ K = X 30 3 (ls) (.int 0 :: st) σ K := X_iconst (n := 0) (by decide +kernel) (by decide +kernel)
theorem x30_3 {l0 l1 w : Value} {x : Int32} {ls st : List Value} {σ : Hp} {K : Option Value → Hp → Prop} (hw : isD w = false) : X 30 3 (l0 :: l1 :: w :: ls) (.int x :: st) σ K = X 30 4 (l0 :: l1 :: .int x :: ls) (st) σ K := X_istore_n (k := 2) (by decide +kernel) (Nat.succ_lt_succ (Nat.succ_lt_succ (Nat.zero_lt_succ _))) rfl hw
theorem x30_4 {l0 l1 : Value} {x : Int32} {ls st : List Value} {σ : Hp} {K : Option Value → Hp → Prop} : X 30 4 (l0 :: l1 :: .int x :: ls) (st) σ K = X 30 5 (l0 :: l1 :: .int x :: ls) (.int x :: st) σ K := X_iload_n (k := 2) (by decide +kernel) rfl
theorem x30_5 {x : Nat} {ls st : List Value} {σ : Hp} {K : Option Value → Hp → Prop} : X 30 5 (.ref x :: ls) (st) σ K = X 30 6 (.ref x :: ls) (.ref x :: st) σ K := X_aload_n (k := 0) (by decide +kernel) rfl
theorem x30_6 {ls st : List Value} {a : Nat} {σ : Hp} {K : Option Value → Hp → Prop} (ho : okF σ a 3 4 = true) : X 30 6 (ls) (.ref a :: st) σ K = X 30 9 (ls) (gF σ a 4 :: st) σ K := X_getf (idx := 31) (k := 10) (ci := 3) (f := 4) (w := 0) (by decide +kernel) (by decide +kernel) rfl (by decide +kernel) ho
theorem x30_9 {ls st : List Value} {a b : Int32} {σ : Hp} {K : Option Value → Hp → Prop} : X 30 9 (ls) (.int b :: .int a :: st) σ K = if a < b then X 30 12 (ls) (st) σ K else X 30 26 (ls) (st) σ K := X_ic_ge (off := 17) (by decide +kernel) (by decide +kernel)
theorem x30_12 {l0 : Value} {x : Int32} {ls st : List Value} {σ : Hp} {K : Option Value → Hp → Prop} : X 30 12 (l0 :: .int x :: ls) (st) σ K = X 30 13 (l0 :: .int x :: ls) (.int x :: st) σ K := X_iload_n (k := 1) (by decide +kernel) rfl
theorem x30_13 {x : Nat} {ls st : List Value} {σ : Hp} {K : Option Value → Hp → Prop} : X 30 13 (.ref x :: ls) (st) σ K = X 30 14 (.ref x :: ls) (.ref x :: st) σ K := X_aload_n (k := 0) (by decide +kernel) rfl
theorem x30_14 {l0 l1 : Value} {x : Int32} {ls st : List Value} {σ : Hp} {K : Option Value → Hp → Prop} : X 30 14 (l0 :: l1 :: .int x :: ls) (st) σ K = X 30 15 (l0 :: l1 :: .int x :: ls) (.int x :: st) σ K := X_iload_n (k := 2) (by decide +kernel) rfl
theorem x30_15 {ls st : List Value} {b : Nat} {a0 : Int32}  {σ : Hp} {K : Option Value → Hp → Prop} (ho : okO σ b 3 = true) (hr : st.length ≤ 4) : X 30 15 (ls) (.int a0 :: .ref b :: st) σ K = X 23 0 [.ref b, .int a0] [] σ (fun v σ' => X 30 18 ls (pushO v st) σ' K) := X_invV (as := [.int a0]) (idx := 45) (k := 0) (z := 23) (w0 := 0) (w := 0) (n := 1) (q := 2) (by decide +kernel) (by decide +kernel) rfl (by decide +kernel) (by decide +kernel) rfl rfl (by decide +kernel) (Nat.le_of_ble_eq_true rfl) ho hr
theorem x30_18 {ls st : List Value} {a b : Int32} {σ : Hp} {K : Option Value → Hp → Prop} : X 30 18 (ls) (.int b :: .int a :: st) σ K = X 30 19 (ls) (.int (a + b) :: st) σ K := X_iadd (by decide +kernel)
theorem x30_19 {l0 w : Value} {x : Int32} {ls st : List Value} {σ : Hp} {K : Option Value → Hp → Prop} (hw : isD w = false) : X 30 19 (l0 :: w :: ls) (.int x :: st) σ K = X 30 20 (l0 :: .int x :: ls) (st) σ K := X_istore_n (k := 1) (by decide +kernel) (Nat.succ_lt_succ (Nat.zero_lt_succ _)) rfl hw
theorem x30_20 {l0 l1 : Value} {x : Int32} {ls st : List Value} {σ : Hp} {K : Option Value → Hp → Prop} : X 30 20 (l0 :: l1 :: .int x :: ls) (st) σ K = X 30 23 (l0 :: l1 :: .int (x + 1) :: ls) (st) σ K := X_iinc (k := 2) (n := 1) (by decide +kernel) (by decide +kernel) rfl
theorem x30_23 {ls st : List Value} {σ : Hp} {K : Option Value → Hp → Prop} : X 30 23 (ls) (st) σ K = X 30 4 (ls) (st) σ K := X_goto (off := (-19)) (by decide +kernel) (by decide +kernel)
theorem x30_26 {l0 : Value} {x : Int32} {ls st : List Value} {σ : Hp} {K : Option Value → Hp → Prop} : X 30 26 (l0 :: .int x :: ls) (st) σ K = X 30 27 (l0 :: .int x :: ls) (.int x :: st) σ K := X_iload_n (k := 1) (by decide +kernel) rfl
theorem x30_27 {ls : List Value} {x : Int32} {σ : Hp} {K : Option Value → Hp → Prop} : X 30 27 (ls) ([.int x]) σ K = K (some (.int x)) σ := X_iret (by decide +kernel) (by decide +kernel)
theorem x31_0 {ls st : List Value} {σ : Hp} {K : Option Value → Hp → Prop} : X 31 0 (ls) (st) σ K = X 31 1 (ls) (.int 0 :: st) σ K := X_iconst (n := 0) (by decide +kernel) (by decide +kernel)
theorem x31_1 {l0 w : Value} {x : Int32} {ls st : List Value} {σ : Hp} {K : Option Value → Hp → Prop} (hw : isD w = false) : X 31 1 (l0 :: w :: ls) (.int x :: st) σ K = X 31 2 (l0 :: .int x :: ls) (st) σ K := X_istore_n (k := 1) (by decide +kernel) (Nat.succ_lt_succ (Nat.zero_lt_succ _)) rfl hw
theorem x31_2 {ls st : List Value} {σ : Hp} {K : Option Value → Hp → Prop} : X 31 2 (ls) (st) σ K = X 31 3 (ls) (.int 0 :: st) σ K := X_iconst (n := 0) (by decide +kernel) (by decide +kernel)
theorem x31_3 {l0 l1 w : Value} {x : Int32} {ls st : List Value} {σ : Hp} {K : Option Value → Hp → Prop} (hw : isD w = false) : X 31 3 (l0 :: l1 :: w :: ls) (.int x :: st) σ K = X 31 4 (l0 :: l1 :: .int x :: ls) (st) σ K := X_istore_n (k := 2) (by decide +kernel) (Nat.succ_lt_succ (Nat.succ_lt_succ (Nat.zero_lt_succ _))) rfl hw
theorem x31_4 {l0 l1 : Value} {x : Int32} {ls st : List Value} {σ : Hp} {K : Option Value → Hp → Prop} : X 31 4 (l0 :: l1 :: .int x :: ls) (st) σ K = X 31 5 (l0 :: l1 :: .int x :: ls) (.int x :: st) σ K := X_iload_n (k := 2) (by decide +kernel) rfl
theorem x31_5 {x : Nat} {ls st : List Value} {σ : Hp} {K : Option Value → Hp → Prop} : X 31 5 (.ref x :: ls) (st) σ K = X 31 6 (.ref x :: ls) (.ref x :: st) σ K := X_aload_n (k := 0) (by decide +kernel) rfl
theorem x31_6 {ls st : List Value} {a : Nat} {σ : Hp} {K : Option Value → Hp → Prop} (ho : okF σ a 3 4 = true) : X 31 6 (ls) (.ref a :: st) σ K = X 31 9 (ls) (gF σ a 4 :: st) σ K := X_getf (idx := 31) (k := 10) (ci := 3) (f := 4) (w := 0) (by decide +kernel) (by decide +kernel) rfl (by decide +kernel) ho
theorem x31_9 {ls st : List Value} {a b : Int32} {σ : Hp} {K : Option Value → Hp → Prop} : X 31 9 (ls) (.int b :: .int a :: st) σ K = if a < b then X 31 12 (ls) (st) σ K else X 31 28 (ls) (st) σ K := X_ic_ge (off := 19) (by decide +kernel) (by decide +kernel)
theorem x31_12 {l0 : Value} {x : Int32} {ls st : List Value} {σ : Hp} {K : Option Value → Hp → Prop} : X 31 12 (l0 :: .int x :: ls) (st) σ K = X 31 13 (l0 :: .int x :: ls) (.int x :: st) σ K := X_iload_n (k := 1) (by decide +kernel) rfl
theorem x31_13 {x : Nat} {ls st : List Value} {σ : Hp} {K : Option Value → Hp → Prop} : X 31 13 (.ref x :: ls) (st) σ K = X 31 14 (.ref x :: ls) (.ref x :: st) σ K := X_aload_n (k := 0) (by decide +kernel) rfl
theorem x31_14 {l0 l1 : Value} {x : Int32} {ls st : List Value} {σ : Hp} {K : Option Value → Hp → Prop} : X 31 14 (l0 :: l1 :: .int x :: ls) (st) σ K = X 31 15 (l0 :: l1 :: .int x :: ls) (.int x :: st) σ K := X_iload_n (k := 2) (by decide +kernel) rfl
theorem x31_15 {ls st : List Value} {b : Nat} {a0 : Int32}  {σ : Hp} {K : Option Value → Hp → Prop} (ho : okO σ b 3 = true) (hr : st.length ≤ 4) : X 31 15 (ls) (.int a0 :: .ref b :: st) σ K = X 24 0 [.ref b, .int a0] [] σ (fun v σ' => X 31 18 ls (pushO v st) σ' K) := X_invV (as := [.int a0]) (idx := 51) (k := 0) (z := 24) (w0 := 0) (w := 0) (n := 1) (q := 2) (by decide +kernel) (by decide +kernel) rfl (by decide +kernel) (by decide +kernel) rfl rfl (by decide +kernel) (Nat.le_of_ble_eq_true rfl) ho hr
theorem x31_18 {ls st : List Value} {a b : Int32} {σ : Hp} {K : Option Value → Hp → Prop} (hr : st.length ≤ 4) : X 31 18 (ls) (.int b :: .int a :: st) σ K = X 31 21 (ls) (.int (if a < b then b else a) :: st) σ K := X_max (idx := 60) (w1 := 0) (w2 := 0) (w := 0) (by decide +kernel) (by decide +kernel) (by decide +kernel) hr
theorem x31_21 {l0 w : Value} {x : Int32} {ls st : List Value} {σ : Hp} {K : Option Value → Hp → Prop} (hw : isD w = false) : X 31 21 (l0 :: w :: ls) (.int x :: st) σ K = X 31 22 (l0 :: .int x :: ls) (st) σ K := X_istore_n (k := 1) (by decide +kernel) (Nat.succ_lt_succ (Nat.zero_lt_succ _)) rfl hw
theorem x31_22 {l0 l1 : Value} {x : Int32} {ls st : List Value} {σ : Hp} {K : Option Value → Hp → Prop} : X 31 22 (l0 :: l1 :: .int x :: ls) (st) σ K = X 31 25 (l0 :: l1 :: .int (x + 1) :: ls) (st) σ K := X_iinc (k := 2) (n := 1) (by decide +kernel) (by decide +kernel) rfl
theorem x31_25 {ls st : List Value} {σ : Hp} {K : Option Value → Hp → Prop} : X 31 25 (ls) (st) σ K = X 31 4 (ls) (st) σ K := X_goto (off := (-21)) (by decide +kernel) (by decide +kernel)
theorem x31_28 {l0 : Value} {x : Int32} {ls st : List Value} {σ : Hp} {K : Option Value → Hp → Prop} : X 31 28 (l0 :: .int x :: ls) (st) σ K = X 31 29 (l0 :: .int x :: ls) (.int x :: st) σ K := X_iload_n (k := 1) (by decide +kernel) rfl
theorem x31_29 {ls : List Value} {x : Int32} {σ : Hp} {K : Option Value → Hp → Prop} : X 31 29 (ls) ([.int x]) σ K = K (some (.int x)) σ := X_iret (by decide +kernel) (by decide +kernel)
theorem x32_0 {ls st : List Value} {σ : Hp} {K : Option Value → Hp → Prop} : X 32 0 (ls) (st) σ K = X 32 1 (ls) (.int 0 :: st) σ K := X_iconst (n := 0) (by decide +kernel) (by decide +kernel)
theorem x32_1 {l0 l1 w : Value} {x : Int32} {ls st : List Value} {σ : Hp} {K : Option Value → Hp → Prop} (hw : isD w = false) : X 32 1 (l0 :: l1 :: w :: ls) (.int x :: st) σ K = X 32 2 (l0 :: l1 :: .int x :: ls) (st) σ K := X_istore_n (k := 2) (by decide +kernel) (Nat.succ_lt_succ (Nat.succ_lt_succ (Nat.zero_lt_succ _))) rfl hw
theorem x32_2 {ls st : List Value} {σ : Hp} {K : Option Value → Hp → Prop} : X 32 2 (ls) (st) σ K = X 32 3 (ls) (.int 0 :: st) σ K := X_iconst (n := 0) (by decide +kernel) (by decide +kernel)
theorem x32_3 {l0 l1 l2 w : Value} {x : Int32} {ls st : List Value} {σ : Hp} {K : Option Value → Hp → Prop} (hw : isD w = false) : X 32 3 (l0 :: l1 :: l2 :: w :: ls) (.int x :: st) σ K = X 32 4 (l0 :: l1 :: l2 :: .int x :: ls) (st) σ K := X_istore_n (k := 3) (by decide +kernel) (Nat.succ_lt_succ (Nat.succ_lt_succ (Nat.succ_lt_succ (Nat.zero_lt_succ _)))) rfl hw
theorem x32_4 {l0 l1 l2 : Value} {x : Int32} {ls st : List Value} {σ : Hp} {K : Option Value → Hp → Prop} : X 32 4 (l0 :: l1 :: l2 :: .int x :: ls) (st) σ K = X 32 5 (l0 :: l1 :: l2 :: .int x :: ls) (.int x :: st) σ K := X_iload_n (k := 3) (by decide +kernel) rfl
theorem x32_5 {x : Nat} {ls st : List Value} {σ : Hp} {K : Option Value → Hp → Prop} : X 32 5 (.ref x :: ls) (st) σ K = X 32 6 (.ref x :: ls) (.ref x :: st) σ K := X_aload_n (k := 0) (by decide +kernel) rfl
theorem x32_6 {ls st : List Value} {a : Nat} {σ : Hp} {K : Option Value → Hp → Prop} (ho : okF σ a 3 4 = true) : X 32 6 (ls) (.ref a :: st) σ K = X 32 9 (ls) (gF σ a 4 :: st) σ K := X_getf (idx := 31) (k := 10) (ci := 3) (f := 4) (w := 0) (by decide +kernel) (by decide +kernel) rfl (by decide +kernel) ho
theorem x32_9 {ls st : List Value} {a b : Int32} {σ : Hp} {K : Option Value → Hp → Prop} : X 32 9 (ls) (.int b :: .int a :: st) σ K = if a < b then X 32 12 (ls) (st) σ K else X 32 33 (ls) (st) σ K := X_ic_ge (off := 24) (by decide +kernel) (by decide +kernel)
theorem x32_12 {ls st : List Value} {σ : Hp} {K : Option Value → Hp → Prop} : X 32 12 (ls) (st) σ K = X 32 14 (ls) (.int 100 :: st) σ K := X_bipush (n := 100) (by decide +kernel) (by decide +kernel)
theorem x32_14 {x : Nat} {ls st : List Value} {σ : Hp} {K : Option Value → Hp → Prop} : X 32 14 (.ref x :: ls) (st) σ K = X 32 15 (.ref x :: ls) (.ref x :: st) σ K := X_aload_n (k := 0) (by decide +kernel) rfl
theorem x32_15 {l0 l1 l2 : Value} {x : Int32} {ls st : List Value} {σ : Hp} {K : Option Value → Hp → Prop} : X 32 15 (l0 :: l1 :: l2 :: .int x :: ls) (st) σ K = X 32 16 (l0 :: l1 :: l2 :: .int x :: ls) (.int x :: st) σ K := X_iload_n (k := 3) (by decide +kernel) rfl
theorem x32_16 {ls st : List Value} {b : Nat} {a0 : Int32}  {σ : Hp} {K : Option Value → Hp → Prop} (ho : okO σ b 3 = true) (hr : st.length ≤ 4) : X 32 16 (ls) (.int a0 :: .ref b :: st) σ K = X 28 0 [.ref b, .int a0] [] σ (fun v σ' => X 32 19 ls (pushO v st) σ' K) := X_invV (as := [.int a0]) (idx := 48) (k := 0) (z := 28) (w0 := 0) (w := 0) (n := 1) (q := 2) (by decide +kernel) (by decide +kernel) rfl (by decide +kernel) (by decide +kernel) rfl rfl (by decide +kernel) (Nat.le_of_ble_eq_true rfl) ho hr
theorem x32_19 {ls st : List Value} {a b : Int32} {σ : Hp} {K : Option Value → Hp → Prop} : X 32 19 (ls) (.int b :: .int a :: st) σ K = X 32 20 (ls) (.int (a * b) :: st) σ K := X_imul (by decide +kernel)
theorem x32_20 {l0 : Value} {x : Int32} {ls st : List Value} {σ : Hp} {K : Option Value → Hp → Prop} : X 32 20 (l0 :: .int x :: ls) (st) σ K = X 32 21 (l0 :: .int x :: ls) (.int x :: st) σ K := X_iload_n (k := 1) (by decide +kernel) rfl
theorem x32_21 {ls st : List Value} {a b : Int32} {σ : Hp} {K : Option Value → Hp → Prop} : X 32 21 (ls) (.int b :: .int a :: st) σ K = if b < a then X 32 24 (ls) (st) σ K else X 32 27 (ls) (st) σ K := X_ic_le (off := 6) (by decide +kernel) (by decide +kernel)
theorem x32_24 {l0 l1 : Value} {x : Int32} {ls st : List Value} {σ : Hp} {K : Option Value → Hp → Prop} : X 32 24 (l0 :: l1 :: .int x :: ls) (st) σ K = X 32 27 (l0 :: l1 :: .int (x + 1) :: ls) (st) σ K := X_iinc (k := 2) (n := 1) (by decide +kernel) (by decide +kernel) rfl
theorem x32_27 {l0 l1 l2 : Value} {x : Int32} {ls st : List Value} {σ : Hp} {K : Option Value → Hp → Prop} : X 32 27 (l0 :: l1 :: l2 :: .int x :: ls) (st) σ K = X 32 30 (l0 :: l1 :: l2 :: .int (x + 1) :: ls) (st) σ K := X_iinc (k := 3) (n := 1) (by decide +kernel) (by decide +kernel) rfl
theorem x32_30 {ls st : List Value} {σ : Hp} {K : Option Value → Hp → Prop} : X 32 30 (ls) (st) σ K = X 32 4 (ls) (st) σ K := X_goto (off := (-26)) (by decide +kernel) (by decide +kernel)
theorem x32_33 {l0 l1 : Value} {x : Int32} {ls st : List Value} {σ : Hp} {K : Option Value → Hp → Prop} : X 32 33 (l0 :: l1 :: .int x :: ls) (st) σ K = X 32 34 (l0 :: l1 :: .int x :: ls) (.int x :: st) σ K := X_iload_n (k := 2) (by decide +kernel) rfl
theorem x32_34 {ls : List Value} {x : Int32} {σ : Hp} {K : Option Value → Hp → Prop} : X 32 34 (ls) ([.int x]) σ K = K (some (.int x)) σ := X_iret (by decide +kernel) (by decide +kernel)
theorem x33_0 {ls st : List Value} {σ : Hp} {K : Option Value → Hp → Prop} : X 33 0 (ls) (st) σ K = X 33 1 (ls) (.int 0 :: st) σ K := X_iconst (n := 0) (by decide +kernel) (by decide +kernel)
theorem x33_1 {l0 l1 w : Value} {x : Int32} {ls st : List Value} {σ : Hp} {K : Option Value → Hp → Prop} (hw : isD w = false) : X 33 1 (l0 :: l1 :: w :: ls) (.int x :: st) σ K = X 33 2 (l0 :: l1 :: .int x :: ls) (st) σ K := X_istore_n (k := 2) (by decide +kernel) (Nat.succ_lt_succ (Nat.succ_lt_succ (Nat.zero_lt_succ _))) rfl hw
theorem x33_2 {ls st : List Value} {σ : Hp} {K : Option Value → Hp → Prop} : X 33 2 (ls) (st) σ K = X 33 3 (ls) (.int 0 :: st) σ K := X_iconst (n := 0) (by decide +kernel) (by decide +kernel)
theorem x33_3 {l0 l1 l2 w : Value} {x : Int32} {ls st : List Value} {σ : Hp} {K : Option Value → Hp → Prop} (hw : isD w = false) : X 33 3 (l0 :: l1 :: l2 :: w :: ls) (.int x :: st) σ K = X 33 4 (l0 :: l1 :: l2 :: .int x :: ls) (st) σ K := X_istore_n (k := 3) (by decide +kernel) (Nat.succ_lt_succ (Nat.succ_lt_succ (Nat.succ_lt_succ (Nat.zero_lt_succ _)))) rfl hw
theorem x33_4 {l0 l1 l2 : Value} {x : Int32} {ls st : List Value} {σ : Hp} {K : Option Value → Hp → Prop} : X 33 4 (l0 :: l1 :: l2 :: .int x :: ls) (st) σ K = X 33 5 (l0 :: l1 :: l2 :: .int x :: ls) (.int x :: st) σ K := X_iload_n (k := 3) (by decide +kernel) rfl
theorem x33_5 {x : Nat} {ls st : List Value} {σ : Hp} {K : Option Value → Hp → Prop} : X 33 5 (.ref x :: ls) (st) σ K = X 33 6 (.ref x :: ls) (.ref x :: st) σ K := X_aload_n (k := 0) (by decide +kernel) rfl
theorem x33_6 {ls st : List Value} {a : Nat} {σ : Hp} {K : Option Value → Hp → Prop} (ho : okF σ a 3 4 = true) : X 33 6 (ls) (.ref a :: st) σ K = X 33 9 (ls) (gF σ a 4 :: st) σ K := X_getf (idx := 31) (k := 10) (ci := 3) (f := 4) (w := 0) (by decide +kernel) (by decide +kernel) rfl (by decide +kernel) ho
theorem x33_9 {ls st : List Value} {a b : Int32} {σ : Hp} {K : Option Value → Hp → Prop} : X 33 9 (ls) (.int b :: .int a :: st) σ K = if a < b then X 33 12 (ls) (st) σ K else X 33 33 (ls) (st) σ K := X_ic_ge (off := 24) (by decide +kernel) (by decide +kernel)
theorem x33_12 {ls st : List Value} {σ : Hp} {K : Option Value → Hp → Prop} : X 33 12 (ls) (st) σ K = X 33 14 (ls) (.int 100 :: st) σ K := X_bipush (n := 100) (by decide +kernel) (by decide +kernel)
theorem x33_14 {x : Nat} {ls st : List Value} {σ : Hp} {K : Option Value → Hp → Prop} : X 33 14 (.ref x :: ls) (st) σ K = X 33 15 (.ref x :: ls) (.ref x :: st) σ K := X_aload_n (k := 0) (by decide +kernel) rfl
theorem x33_15 {l0 l1 l2 : Value} {x : Int32} {ls st : List Value} {σ : Hp} {K : Option Value → Hp → Prop} : X 33 15 (l0 :: l1 :: l2 :: .int x :: ls) (st) σ K = X 33 16 (l0 :: l1 :: l2 :: .int x :: ls) (.int x :: st) σ K := X_iload_n (k := 3) (by decide +kernel) rfl
theorem x33_16 {ls st : List Value} {b : Nat} {a0 : Int32}  {σ : Hp} {K : Option Value → Hp → Prop} (ho : okO σ b 3 = true) (hr : st.length ≤ 4) : X 33 16 (ls) (.int a0 :: .ref b :: st) σ K = X 23 0 [.ref b, .int a0] [] σ (fun v σ' => X 33 19 ls (pushO v st) σ' K) := X_invV (as := [.int a0]) (idx := 45) (k := 0) (z := 23) (w0 := 0) (w := 0) (n := 1) (q := 2) (by decide +kernel) (by decide +kernel) rfl (by decide +kernel) (by decide +kernel) rfl rfl (by decide +kernel) (Nat.le_of_ble_eq_true rfl) ho hr
theorem x33_19 {ls st : List Value} {a b : Int32} {σ : Hp} {K : Option Value → Hp → Prop} : X 33 19 (ls) (.int b :: .int a :: st) σ K = X 33 20 (ls) (.int (a * b) :: st) σ K := X_imul (by decide +kernel)
theorem x33_20 {l0 : Value} {x : Int32} {ls st : List Value} {σ : Hp} {K : Option Value → Hp → Prop} : X 33 20 (l0 :: .int x :: ls) (st) σ K = X 33 21 (l0 :: .int x :: ls) (.int x :: st) σ K := X_iload_n (k := 1) (by decide +kernel) rfl
theorem x33_21 {ls st : List Value} {a b : Int32} {σ : Hp} {K : Option Value → Hp → Prop} : X 33 21 (ls) (.int b :: .int a :: st) σ K = if b < a then X 33 24 (ls) (st) σ K else X 33 27 (ls) (st) σ K := X_ic_le (off := 6) (by decide +kernel) (by decide +kernel)
theorem x33_24 {l0 l1 : Value} {x : Int32} {ls st : List Value} {σ : Hp} {K : Option Value → Hp → Prop} : X 33 24 (l0 :: l1 :: .int x :: ls) (st) σ K = X 33 27 (l0 :: l1 :: .int (x + 1) :: ls) (st) σ K := X_iinc (k := 2) (n := 1) (by decide +kernel) (by decide +kernel) rfl
theorem x33_27 {l0 l1 l2 : Value} {x : Int32} {ls st : List Value} {σ : Hp} {K : Option Value → Hp → Prop} : X 33 27 (l0 :: l1 :: l2 :: .int x :: ls) (st) σ K = X 33 30 (l0 :: l1 :: l2 :: .int (x + 1) :: ls) (st) σ K := X_iinc (k := 3) (n := 1) (by decide +kernel) (by decide +kernel) rfl
theorem x33_30 {ls st : List Value} {σ : Hp} {K : Option Value → Hp → Prop} : X 33 30 (ls) (st) σ K = X 33 4 (ls) (st) σ K := X_goto (off := (-26)) (by decide +kernel) (by decide +kernel)
theorem x33_33 {l0 l1 : Value} {x : Int32} {ls st : List Value} {σ : Hp} {K : Option Value → Hp → Prop} : X 33 33 (l0 :: l1 :: .int x :: ls) (st) σ K = X 33 34 (l0 :: l1 :: .int x :: ls) (.int x :: st) σ K := X_iload_n (k := 2) (by decide +kernel) rfl
theorem x33_34 {ls : List Value} {x : Int32} {σ : Hp} {K : Option Value → Hp → Prop} : X 33 34 (ls) ([.int x]) σ K = K (some (.int x)) σ := X_iret (by decide +kernel) (by decide +kernel)
theorem x34_0 {x : Nat} {ls st : List Value} {σ : Hp} {K : Option Value → Hp → Prop} : X 34 0 (.ref x :: ls) (st) σ K = X 34 1 (.ref x :: ls) (.ref x :: st) σ K := X_aload_n (k := 0) (by decide +kernel) rfl
theorem x34_1 {l0 : Value} {x : Int32} {ls st : List Value} {σ : Hp} {K : Option Value → Hp → Prop} : X 34 1 (l0 :: .int x :: ls) (st) σ K = X 34 2 (l0 :: .int x :: ls) (.int x :: st) σ K := X_iload_n (k := 1) (by decide +kernel) rfl
theorem x34_2 {ls st : List Value} {b : Nat} {a0 : Int32}  {σ : Hp} {K : Option Value → Hp → Prop} (ho : okO σ b 3 = true) (hr : st.length ≤ 4) : X 34 2 (ls) (.int a0 :: .ref b :: st) σ K = X 25 0 [.ref b, .int a0, .null] [] σ (fun v σ' => X 34 5 ls (pushO v st) σ' K) := X_invV (as := [.int a0]) (idx := 38) (k := 0) (z := 25) (w0 := 0) (w := 0) (n := 1) (q := 3) (by decide +kernel) (by decide +kernel) rfl (by decide +kernel) (by decide +kernel) rfl rfl (by decide +kernel) (Nat.le_of_ble_eq_true rfl) ho hr
theorem x34_5 {l0 l1 w : Value} {x : Int32} {ls st : List Value} {σ : Hp} {K : Option Value → Hp → Prop} (hw : isD w = false) : X 34 5 (l0 :: l1 :: w :: ls) (.int x :: st) σ K = X 34 6 (l0 :: l1 :: .int x :: ls) (st) σ K := X_istore_n (k := 2) (by decide +kernel) (Nat.succ_lt_succ (Nat.succ_lt_succ (Nat.zero_lt_succ _))) rfl hw
theorem x34_6 {l0 l1 : Value} {x : Int32} {ls st : List Value} {σ : Hp} {K : Option Value → Hp → Prop} : X 34 6 (l0 :: l1 :: .int x :: ls) (st) σ K = X 34 7 (l0 :: l1 :: .int x :: ls) (.int x :: st) σ K := X_iload_n (k := 2) (by decide +kernel) rfl
theorem x34_7 {ls st : List Value} {σ : Hp} {K : Option Value → Hp → Prop} : X 34 7 (ls) (st) σ K = X 34 9 (ls) (.int (-6) :: st) σ K := X_bipush (n := (-6)) (by decide +kernel) (by decide +kernel)
theorem x34_9 {ls st : List Value} {a b : Int32} {σ : Hp} {K : Option Value → Hp → Prop} : X 34 9 (ls) (.int b :: .int a :: st) σ K = if a = b then X 34 14 (ls) (st) σ K else X 34 12 (ls) (st) σ K := X_ic_eq (off := 5) (by decide +kernel) (by decide +kernel)
theorem x34_12 {l0 l1 : Value} {x : Int32} {ls st : List Value} {σ : Hp} {K : Option Value → Hp → Prop} : X 34 12 (l0 :: l1 :: .int x :: ls) (st) σ K = X 34 13 (l0 :: l1 :: .int x :: ls) (.int x :: st) σ K := X_iload_n (k := 2) (by decide +kernel) rfl
theorem x34_13 {ls : List Value} {x : Int32} {σ : Hp} {K : Option Value → Hp → Prop} : X 34 13 (ls) ([.int x]) σ K = K (some (.int x)) σ := X_iret (by decide +kernel) (by decide +kernel)
theorem x34_14 {x : Nat} {ls st : List Value} {σ : Hp} {K : Option Value → Hp → Prop} : X 34 14 (.ref x :: ls) (st) σ K = X 34 15 (.ref x :: ls) (.ref x :: st) σ K := X_aload_n (k := 0) (by decide +kernel) rfl
theorem x34_15 {ls st : List Value} {a : Nat} {σ : Hp} {K : Option Value → Hp → Prop} (ho : okF σ a 3 4 = true) : X 34 15 (ls) (.ref a :: st) σ K = X 34 18 (ls) (gF σ a 4 :: st) σ K := X_getf (idx := 31) (k := 10) (ci := 3) (f := 4) (w := 0) (by decide +kernel) (by decide +kernel) rfl (by decide +kernel) ho
theorem x34_18 {x : Nat} {ls st : List Value} {σ : Hp} {K : Option Value → Hp → Prop} : X 34 18 (.ref x :: ls) (st) σ K = X 34 19 (.ref x :: ls) (.ref x :: st) σ K := X_aload_n (k := 0) (by decide +kernel) rfl
theorem x34_19 {ls st : List Value} {a : Nat} {σ : Hp} {K : Option Value → Hp → Prop} (ho : okF σ a 3 3 = true) : X 34 19 (ls) (.ref a :: st) σ K = X 34 22 (ls) (gF σ a 3 :: st) σ K := X_getf (idx := 21) (k := 10) (ci := 3) (f := 3) (w := 0) (by decide +kernel) (by decide +kernel) rfl (by decide +kernel) ho
theorem x34_22 {ls st : List Value} {a b : Int32} {σ : Hp} {K : Option Value → Hp → Prop} : X 34 22 (ls) (.int b :: .int a :: st) σ K = if a < b then X 34 25 (ls) (st) σ K else X 34 32 (ls) (st) σ K := X_ic_ge (off := 10) (by decide +kernel) (by decide +kernel)
theorem x34_25 {x : Nat} {ls st : List Value} {σ : Hp} {K : Option Value → Hp → Prop} : X 34 25 (.ref x :: ls) (st) σ K = X 34 26 (.ref x :: ls) (.ref x :: st) σ K := X_aload_n (k := 0) (by decide +kernel) rfl
theorem x34_26 {ls st : List Value} {a : Nat} {σ : Hp} {K : Option Value → Hp → Prop} (ho : okF σ a 3 4 = true) : X 34 26 (ls) (.ref a :: st) σ K = X 34 29 (ls) (gF σ a 4 :: st) σ K := X_getf (idx := 31) (k := 10) (ci := 3) (f := 4) (w := 0) (by decide +kernel) (by decide +kernel) rfl (by decide +kernel) ho
theorem x34_29 {ls st : List Value} {σ : Hp} {K : Option Value → Hp → Prop} : X 34 29 (ls) (st) σ K = X 34 36 (ls) (st) σ K := X_goto (off := 7) (by decide +kernel) (by decide +kernel)
theorem x34_32 {x : Nat} {ls st : List Value} {σ : Hp} {K : Option Value → Hp → Prop} : X 34 32 (.ref x :: ls) (st) σ K = X 34 33 (.ref x :: ls) (.ref x :: st) σ K := X_aload_n (k := 0) (by decide +kernel) rfl
theorem x34_33 {ls st : List Value} {b : Nat}  {σ : Hp} {K : Option Value → Hp → Prop} (ho : okO σ b 3 = true) (hr : st.length ≤ 4) : X 34 33 (ls) (.ref b :: st) σ K = X 35 0 [.ref b, .null, .null] [] σ (fun v σ' => X 34 36 ls (pushO v st) σ' K) := X_invV (as := []) (idx := 63) (k := 0) (z := 35) (w0 := 0) (w := 0) (n := 0) (q := 3) (by decide +kernel) (by decide +kernel) rfl (by decide +kernel) (by decide +kernel) rfl rfl (by decide +kernel) (Nat.le_of_ble_eq_true rfl) ho hr
theorem x34_36 {ls : List Value} {x : Int32} {σ : Hp} {K : Option Value → Hp → Prop} : X 34 36 (ls) ([.int x]) σ K = K (some (.int x)) σ := X_iret (by decide +kernel) (by decide +kernel)
theorem x35_0 {ls st : List Value} {σ : Hp} {K : Option Value → Hp → Prop} : X 35 0 (ls) (st) σ K = X 35 1 (ls) (.int 0 :: st) σ K := X_iconst (n := 0) (by decide +kernel) (by decide +kernel)
theorem x35_1 {l0 w : Value} {x : Int32} {ls st : List Value} {σ : Hp} {K : Option Value → Hp → Prop} (hw : isD w = false) : X 35 1 (l0 :: w :: ls) (.int x :: st) σ K = X 35 2 (l0 :: .int x :: ls) (st) σ K := X_istore_n (k := 1) (by decide +kernel) (Nat.succ_lt_succ (Nat.zero_lt_succ _)) rfl hw
theorem x35_2 {ls st : List Value} {σ : Hp} {K : Option Value → Hp → Prop} : X 35 2 (ls) (st) σ K = X 35 3 (ls) (.int 1 :: st) σ K := X_iconst (n := 1) (by decide +kernel) (by decide +kernel)
theorem x35_3 {l0 l1 w : Value} {x : Int32} {ls st : List Value} {σ : Hp} {K : Option Value → Hp → Prop} (hw : isD w = false) : X 35 3 (l0 :: l1 :: w :: ls) (.int x :: st) σ K = X 35 4 (l0 :: l1 :: .int x :: ls) (st) σ K := X_istore_n (k := 2) (by decide +kernel) (Nat.succ_lt_succ (Nat.succ_lt_succ (Nat.zero_lt_succ _))) rfl hw
theorem x35_4 {l0 l1 : Value} {x : Int32} {ls st : List Value} {σ : Hp} {K : Option Value → Hp → Prop} : X 35 4 (l0 :: l1 :: .int x :: ls) (st) σ K = X 35 5 (l0 :: l1 :: .int x :: ls) (.int x :: st) σ K := X_iload_n (k := 2) (by decide +kernel) rfl
theorem x35_5 {x : Nat} {ls st : List Value} {σ : Hp} {K : Option Value → Hp → Prop} : X 35 5 (.ref x :: ls) (st) σ K = X 35 6 (.ref x :: ls) (.ref x :: st) σ K := X_aload_n (k := 0) (by decide +kernel) rfl
theorem x35_6 {ls st : List Value} {a : Nat} {σ : Hp} {K : Option Value → Hp → Prop} (ho : okF σ a 3 4 = true) : X 35 6 (ls) (.ref a :: st) σ K = X 35 9 (ls) (gF σ a 4 :: st) σ K := X_getf (idx := 31) (k := 10) (ci := 3) (f := 4) (w := 0) (by decide +kernel) (by decide +kernel) rfl (by decide +kernel) ho
theorem x35_9 {ls st : List Value} {a b : Int32} {σ : Hp} {K : Option Value → Hp → Prop} : X 35 9 (ls) (.int b :: .int a :: st) σ K = if a < b then X 35 12 (ls) (st) σ K else X 35 29 (ls) (st) σ K := X_ic_ge (off := 20) (by decide +kernel) (by decide +kernel)
theorem x35_12 {x : Nat} {ls st : List Value} {σ : Hp} {K : Option Value → Hp → Prop} : X 35 12 (.ref x :: ls) (st) σ K = X 35 13 (.ref x :: ls) (.ref x :: st) σ K := X_aload_n (k := 0) (by decide +kernel) rfl
theorem x35_13 {l0 l1 : Value} {x : Int32} {ls st : List Value} {σ : Hp} {K : Option Value → Hp → Prop} : X 35 13 (l0 :: l1 :: .int x :: ls) (st) σ K = X 35 14 (l0 :: l1 :: .int x :: ls) (.int x :: st) σ K := X_iload_n (k := 2) (by decide +kernel) rfl
theorem x35_14 {l0 : Value} {x : Int32} {ls st : List Value} {σ : Hp} {K : Option Value → Hp → Prop} : X 35 14 (l0 :: .int x :: ls) (st) σ K = X 35 15 (l0 :: .int x :: ls) (.int x :: st) σ K := X_iload_n (k := 1) (by decide +kernel) rfl
theorem x35_15 {ls st : List Value} {b : Nat} {a0 : Int32} {a1 : Int32}  {σ : Hp} {K : Option Value → Hp → Prop} (ho : okO σ b 3 = true) (hr : st.length ≤ 4) : X 35 15 (ls) (.int a1 :: .int a0 :: .ref b :: st) σ K = X 36 0 [.ref b, .int a0, .int a1] [] σ (fun v σ' => X 35 18 ls (pushO v st) σ' K) := X_invV (as := [.int a0, .int a1]) (idx := 66) (k := 0) (z := 36) (w0 := 0) (w := 0) (n := 2) (q := 3) (by decide +kernel) (by decide +kernel) rfl (by decide +kernel) (by decide +kernel) rfl rfl (by decide +kernel) (Nat.le_of_ble_eq_true rfl) ho hr
theorem x35_18 {ls st : List Value} {x : Int32} {σ : Hp} {K : Option Value → Hp → Prop} : X 35 18 (ls) (.int x :: st) σ K = if x = 0 then X 35 23 (ls) (st) σ K else X 35 21 (ls) (st) σ K := X_if_eq (off := 5) (by decide +kernel) (by decide +kernel)
theorem x35_21 {l0 l1 : Value} {x : Int32} {ls st : List Value} {σ : Hp} {K : Option Value → Hp → Prop} : X 35 21 (l0 :: l1 :: .int x :: ls) (st) σ K = X 35 22 (l0 :: l1 :: .int x :: ls) (.int x :: st) σ K := X_iload_n (k := 2) (by decide +kernel) rfl
theorem x35_22 {l0 w : Value} {x : Int32} {ls st : List Value} {σ : Hp} {K : Option Value → Hp → Prop} (hw : isD w = false) : X 35 22 (l0 :: w :: ls) (.int x :: st) σ K = X 35 23 (l0 :: .int x :: ls) (st) σ K := X_istore_n (k := 1) (by decide +kernel) (Nat.succ_lt_succ (Nat.zero_lt_succ _)) rfl hw
theorem x35_23 {l0 l1 : Value} {x : Int32} {ls st : List Value} {σ : Hp} {K : Option Value → Hp → Prop} : X 35 23 (l0 :: l1 :: .int x :: ls) (st) σ K = X 35 26 (l0 :: l1 :: .int (x + 1) :: ls) (st) σ K := X_iinc (k := 2) (n := 1) (by decide +kernel) (by decide +kernel) rfl
theorem x35_26 {ls st : List Value} {σ : Hp} {K : Option Value → Hp → Prop} : X 35 26 (ls) (st) σ K = X 35 4 (ls) (st) σ K := X_goto (off := (-22)) (by decide +kernel) (by decide +kernel)
theorem x35_29 {l0 : Value} {x : Int32} {ls st : List Value} {σ : Hp} {K : Option Value → Hp → Prop} : X 35 29 (l0 :: .int x :: ls) (st) σ K = X 35 30 (l0 :: .int x :: ls) (.int x :: st) σ K := X_iload_n (k := 1) (by decide +kernel) rfl
theorem x35_30 {ls : List Value} {x : Int32} {σ : Hp} {K : Option Value → Hp → Prop} : X 35 30 (ls) ([.int x]) σ K = K (some (.int x)) σ := X_iret (by decide +kernel) (by decide +kernel)
theorem x36_0 {x : Nat} {ls st : List Value} {σ : Hp} {K : Option Value → Hp → Prop} : X 36 0 (.ref x :: ls) (st) σ K = X 36 1 (.ref x :: ls) (.ref x :: st) σ K := X_aload_n (k := 0) (by decide +kernel) rfl
theorem x36_1 {l0 : Value} {x : Int32} {ls st : List Value} {σ : Hp} {K : Option Value → Hp → Prop} : X 36 1 (l0 :: .int x :: ls) (st) σ K = X 36 2 (l0 :: .int x :: ls) (.int x :: st) σ K := X_iload_n (k := 1) (by decide +kernel) rfl
theorem x36_2 {ls st : List Value} {b : Nat} {a0 : Int32}  {σ : Hp} {K : Option Value → Hp → Prop} (ho : okO σ b 3 = true) (hr : st.length ≤ 4) : X 36 2 (ls) (.int a0 :: .ref b :: st) σ K = X 23 0 [.ref b, .int a0] [] σ (fun v σ' => X 36 5 ls (pushO v st) σ' K) := X_invV (as := [.int a0]) (idx := 45) (k := 0) (z := 23) (w0 := 0) (w := 0) (n := 1) (q := 2) (by decide +kernel) (by decide +kernel) rfl (by decide +kernel) (by decide +kernel) rfl rfl (by decide +kernel) (Nat.le_of_ble_eq_true rfl) ho hr
theorem x36_5 {x : Nat} {ls st : List Value} {σ : Hp} {K : Option Value → Hp → Prop} : X 36 5 (.ref x :: ls) (st) σ K = X 36 6 (.ref x :: ls) (.ref x :: st) σ K := X_aload_n (k := 0) (by decide +kernel) rfl
theorem x36_6 {l0 l1 : Value} {x : Int32} {ls st : List Value} {σ : Hp} {K : Option Value → Hp → Prop} : X 36 6 (l0 :: l1 :: .int x :: ls) (st) σ K = X 36 7 (l0 :: l1 :: .int x :: ls) (.int x :: st) σ K := X_iload_n (k := 2) (by decide +kernel) rfl
theorem x36_7 {ls st : List Value} {b : Nat} {a0 : Int32}  {σ : Hp} {K : Option Value → Hp → Prop} (ho : okO σ b 3 = true) (hr : st.length ≤ 4) : X 36 7 (ls) (.int a0 :: .ref b :: st) σ K = X 23 0 [.ref b, .int a0] [] σ (fun v σ' => X 36 10 ls (pushO v st) σ' K) := X_invV (as := [.int a0]) (idx := 45) (k := 0) (z := 23) (w0 := 0) (w := 0) (n := 1) (q := 2) (by decide +kernel) (by decide +kernel) rfl (by decide +kernel) (by decide +kernel) rfl rfl (by decide +kernel) (Nat.le_of_ble_eq_true rfl) ho hr
theorem x36_10 {ls st : List Value} {a b : Int32} {σ : Hp} {K : Option Value → Hp → Prop} : X 36 10 (ls) (.int b :: .int a :: st) σ K = if a = b then X 36 32 (ls) (st) σ K else X 36 13 (ls) (st) σ K := X_ic_eq (off := 22) (by decide +kernel) (by decide +kernel)
theorem x36_13 {x : Nat} {ls st : List Value} {σ : Hp} {K : Option Value → Hp → Prop} : X 36 13 (.ref x :: ls) (st) σ K = X 36 14 (.ref x :: ls) (.ref x :: st) σ K := X_aload_n (k := 0) (by decide +kernel) rfl
theorem x36_14 {l0 : Value} {x : Int32} {ls st : List Value} {σ : Hp} {K : Option Value → Hp → Prop} : X 36 14 (l0 :: .int x :: ls) (st) σ K = X 36 15 (l0 :: .int x :: ls) (.int x :: st) σ K := X_iload_n (k := 1) (by decide +kernel) rfl
theorem x36_15 {ls st : List Value} {b : Nat} {a0 : Int32}  {σ : Hp} {K : Option Value → Hp → Prop} (ho : okO σ b 3 = true) (hr : st.length ≤ 4) : X 36 15 (ls) (.int a0 :: .ref b :: st) σ K = X 23 0 [.ref b, .int a0] [] σ (fun v σ' => X 36 18 ls (pushO v st) σ' K) := X_invV (as := [.int a0]) (idx := 45) (k := 0) (z := 23) (w0 := 0) (w := 0) (n := 1) (q := 2) (by decide +kernel) (by decide +kernel) rfl (by decide +kernel) (by decide +kernel) rfl rfl (by decide +kernel) (Nat.le_of_ble_eq_true rfl) ho hr
theorem x36_18 {x : Nat} {ls st : List Value} {σ : Hp} {K : Option Value → Hp → Prop} : X 36 18 (.ref x :: ls) (st) σ K = X 36 19 (.ref x :: ls) (.ref x :: st) σ K := X_aload_n (k := 0) (by decide +kernel) rfl
theorem x36_19 {l0 l1 : Value} {x : Int32} {ls st : List Value} {σ : Hp} {K : Option Value → Hp → Prop} : X 36 19 (l0 :: l1 :: .int x :: ls) (st) σ K = X 36 20 (l0 :: l1 :: .int x :: ls) (.int x :: st) σ K := X_iload_n (k := 2) (by decide +kernel) rfl
theorem x36_20 {ls st : List Value} {b : Nat} {a0 : Int32}  {σ : Hp} {K : Option Value → Hp → Prop} (ho : okO σ b 3 = true) (hr : st.length ≤ 4) : X 36 20 (ls) (.int a0 :: .ref b :: st) σ K = X 23 0 [.ref b, .int a0] [] σ (fun v σ' => X 36 23 ls (pushO v st) σ' K) := X_invV (as := [.int a0]) (idx := 45) (k := 0) (z := 23) (w0 := 0) (w := 0) (n := 1) (q := 2) (by decide +kernel) (by decide +kernel) rfl (by decide +kernel) (by decide +kernel) rfl rfl (by decide +kernel) (Nat.le_of_ble_eq_true rfl) ho hr
theorem x36_23 {ls st : List Value} {a b : Int32} {σ : Hp} {K : Option Value → Hp → Prop} : X 36 23 (ls) (.int b :: .int a :: st) σ K = if a < b then X 36 26 (ls) (st) σ K else X 36 30 (ls) (st) σ K := X_ic_ge (off := 7) (by decide +kernel) (by decide +kernel)
theorem x36_26 {ls st : List Value} {σ : Hp} {K : Option Value → Hp → Prop} : X 36 26 (ls) (st) σ K = X 36 27 (ls) (.int 1 :: st) σ K := X_iconst (n := 1) (by decide +kernel) (by decide +kernel)
theorem x36_27 {ls st : List Value} {σ : Hp} {K : Option Value → Hp → Prop} : X 36 27 (ls) (st) σ K = X 36 31 (ls) (st) σ K := X_goto (off := 4) (by decide +kernel) (by decide +kernel)
theorem x36_30 {ls st : List Value} {σ : Hp} {K : Option Value → Hp → Prop} : X 36 30 (ls) (st) σ K = X 36 31 (ls) (.int 0 :: st) σ K := X_iconst (n := 0) (by decide +kernel) (by decide +kernel)
theorem x36_31 {ls : List Value} {x : Int32} {σ : Hp} {K : Option Value → Hp → Prop} (hx : (x == 0 || x == 1) = true) : X 36 31 (ls) ([.int x]) σ K = K (some (.int x)) σ := X_zret (by decide +kernel) (by decide +kernel) hx
theorem x36_32 {x : Nat} {ls st : List Value} {σ : Hp} {K : Option Value → Hp → Prop} : X 36 32 (.ref x :: ls) (st) σ K = X 36 33 (.ref x :: ls) (.ref x :: st) σ K := X_aload_n (k := 0) (by decide +kernel) rfl
theorem x36_33 {l0 : Value} {x : Int32} {ls st : List Value} {σ : Hp} {K : Option Value → Hp → Prop} : X 36 33 (l0 :: .int x :: ls) (st) σ K = X 36 34 (l0 :: .int x :: ls) (.int x :: st) σ K := X_iload_n (k := 1) (by decide +kernel) rfl
theorem x36_34 {ls st : List Value} {b : Nat} {a0 : Int32}  {σ : Hp} {K : Option Value → Hp → Prop} (ho : okO σ b 3 = true) (hr : st.length ≤ 4) : X 36 34 (ls) (.int a0 :: .ref b :: st) σ K = X 24 0 [.ref b, .int a0] [] σ (fun v σ' => X 36 37 ls (pushO v st) σ' K) := X_invV (as := [.int a0]) (idx := 51) (k := 0) (z := 24) (w0 := 0) (w := 0) (n := 1) (q := 2) (by decide +kernel) (by decide +kernel) rfl (by decide +kernel) (by decide +kernel) rfl rfl (by decide +kernel) (Nat.le_of_ble_eq_true rfl) ho hr
theorem x36_37 {x : Nat} {ls st : List Value} {σ : Hp} {K : Option Value → Hp → Prop} : X 36 37 (.ref x :: ls) (st) σ K = X 36 38 (.ref x :: ls) (.ref x :: st) σ K := X_aload_n (k := 0) (by decide +kernel) rfl
theorem x36_38 {l0 l1 : Value} {x : Int32} {ls st : List Value} {σ : Hp} {K : Option Value → Hp → Prop} : X 36 38 (l0 :: l1 :: .int x :: ls) (st) σ K = X 36 39 (l0 :: l1 :: .int x :: ls) (.int x :: st) σ K := X_iload_n (k := 2) (by decide +kernel) rfl
theorem x36_39 {ls st : List Value} {b : Nat} {a0 : Int32}  {σ : Hp} {K : Option Value → Hp → Prop} (ho : okO σ b 3 = true) (hr : st.length ≤ 4) : X 36 39 (ls) (.int a0 :: .ref b :: st) σ K = X 24 0 [.ref b, .int a0] [] σ (fun v σ' => X 36 42 ls (pushO v st) σ' K) := X_invV (as := [.int a0]) (idx := 51) (k := 0) (z := 24) (w0 := 0) (w := 0) (n := 1) (q := 2) (by decide +kernel) (by decide +kernel) rfl (by decide +kernel) (by decide +kernel) rfl rfl (by decide +kernel) (Nat.le_of_ble_eq_true rfl) ho hr
theorem x36_42 {ls st : List Value} {a b : Int32} {σ : Hp} {K : Option Value → Hp → Prop} : X 36 42 (ls) (.int b :: .int a :: st) σ K = if b < a then X 36 45 (ls) (st) σ K else X 36 49 (ls) (st) σ K := X_ic_le (off := 7) (by decide +kernel) (by decide +kernel)
theorem x36_45 {ls st : List Value} {σ : Hp} {K : Option Value → Hp → Prop} : X 36 45 (ls) (st) σ K = X 36 46 (ls) (.int 1 :: st) σ K := X_iconst (n := 1) (by decide +kernel) (by decide +kernel)
theorem x36_46 {ls st : List Value} {σ : Hp} {K : Option Value → Hp → Prop} : X 36 46 (ls) (st) σ K = X 36 50 (ls) (st) σ K := X_goto (off := 4) (by decide +kernel) (by decide +kernel)
theorem x36_49 {ls st : List Value} {σ : Hp} {K : Option Value → Hp → Prop} : X 36 49 (ls) (st) σ K = X 36 50 (ls) (.int 0 :: st) σ K := X_iconst (n := 0) (by decide +kernel) (by decide +kernel)
theorem x36_50 {ls : List Value} {x : Int32} {σ : Hp} {K : Option Value → Hp → Prop} (hx : (x == 0 || x == 1) = true) : X 36 50 (ls) ([.int x]) σ K = K (some (.int x)) σ := X_zret (by decide +kernel) (by decide +kernel) hx
theorem x37_0 {x : Nat} {ls st : List Value} {σ : Hp} {K : Option Value → Hp → Prop} : X 37 0 (.ref x :: ls) (st) σ K = X 37 1 (.ref x :: ls) (.ref x :: st) σ K := X_aload_n (k := 0) (by decide +kernel) rfl
theorem x37_1 {l0 : Value} {x : Int32} {ls st : List Value} {σ : Hp} {K : Option Value → Hp → Prop} : X 37 1 (l0 :: .int x :: ls) (st) σ K = X 37 2 (l0 :: .int x :: ls) (.int x :: st) σ K := X_iload_n (k := 1) (by decide +kernel) rfl
theorem x37_2 {ls st : List Value} {b : Nat} {a0 : Int32}  {σ : Hp} {K : Option Value → Hp → Prop} (ho : okO σ b 3 = true) (hr : st.length ≤ 4) : X 37 2 (ls) (.int a0 :: .ref b :: st) σ K = X 23 0 [.ref b, .int a0] [] σ (fun v σ' => X 37 5 ls (pushO v st) σ' K) := X_invV (as := [.int a0]) (idx := 45) (k := 0) (z := 23) (w0 := 0) (w := 0) (n := 1) (q := 2) (by decide +kernel) (by decide +kernel) rfl (by decide +kernel) (by decide +kernel) rfl rfl (by decide +kernel) (Nat.le_of_ble_eq_true rfl) ho hr
theorem x37_5 {x : Nat} {ls st : List Value} {σ : Hp} {K : Option Value → Hp → Prop} : X 37 5 (.ref x :: ls) (st) σ K = X 37 6 (.ref x :: ls) (.ref x :: st) σ K := X_aload_n (k := 0) (by decide +kernel) rfl
theorem x37_6 {l0 l1 : Value} {x : Int32} {ls st : List Value} {σ : Hp} {K : Option Value → Hp → Prop} : X 37 6 (l0 :: l1 :: .int x :: ls) (st) σ K = X 37 7 (l0 :: l1 :: .int x :: ls) (.int x :: st) σ K := X_iload_n (k := 2) (by decide +kernel) rfl
theorem x37_7 {ls st : List Value} {b : Nat} {a0 : Int32}  {σ : Hp} {K : Option Value → Hp → Prop} (ho : okO σ b 3 = true) (hr : st.length ≤ 4) : X 37 7 (ls) (.int a0 :: .ref b :: st) σ K = X 23 0 [.ref b, .int a0] [] σ (fun v σ' => X 37 10 ls (pushO v st) σ' K) := X_invV (as := [.int a0]) (idx := 45) (k := 0) (z := 23) (w0 := 0) (w := 0) (n := 1) (q := 2) (by decide +kernel) (by decide +kernel) rfl (by decide +kernel) (by decide +kernel) rfl rfl (by decide +kernel) (Nat.le_of_ble_eq_true rfl) ho hr
theorem x37_10 {ls st : List Value} {a b : Int32} {σ : Hp} {K : Option Value → Hp → Prop} : X 37 10 (ls) (.int b :: .int a :: st) σ K = if a = b then X 37 32 (ls) (st) σ K else X 37 13 (ls) (st) σ K := X_ic_eq (off := 22) (by decide +kernel) (by decide +kernel)
theorem x37_13 {x : Nat} {ls st : List Value} {σ : Hp} {K : Option Value → Hp → Prop} : X 37 13 (.ref x :: ls) (st) σ K = X 37 14 (.ref x :: ls) (.ref x :: st) σ K := X_aload_n (k := 0) (by decide +kernel) rfl
theorem x37_14 {l0 : Value} {x : Int32} {ls st : List Value} {σ : Hp} {K : Option Value → Hp → Prop} : X 37 14 (l0 :: .int x :: ls) (st) σ K = X 37 15 (l0 :: .int x :: ls) (.int x :: st) σ K := X_iload_n (k := 1) (by decide +kernel) rfl
theorem x37_15 {ls st : List Value} {b : Nat} {a0 : Int32}  {σ : Hp} {K : Option Value → Hp → Prop} (ho : okO σ b 3 = true) (hr : st.length ≤ 4) : X 37 15 (ls) (.int a0 :: .ref b :: st) σ K = X 23 0 [.ref b, .int a0] [] σ (fun v σ' => X 37 18 ls (pushO v st) σ' K) := X_invV (as := [.int a0]) (idx := 45) (k := 0) (z := 23) (w0 := 0) (w := 0) (n := 1) (q := 2) (by decide +kernel) (by decide +kernel) rfl (by decide +kernel) (by decide +kernel) rfl rfl (by decide +kernel) (Nat.le_of_ble_eq_true rfl) ho hr
theorem x37_18 {x : Nat} {ls st : List Value} {σ : Hp} {K : Option Value → Hp → Prop} : X 37 18 (.ref x :: ls) (st) σ K = X 37 19 (.ref x :: ls) (.ref x :: st) σ K := X_aload_n (k := 0) (by decide +kernel) rfl
theorem x37_19 {l0 l1 : Value} {x : Int32} {ls st : List Value} {σ : Hp} {K : Option Value → Hp → Prop} : X 37 19 (l0 :: l1 :: .int x :: ls) (st) σ K = X 37 20 (l0 :: l1 :: .int x :: ls) (.int x :: st) σ K := X_iload_n (k := 2) (by decide +kernel) rfl
theorem x37_20 {ls st : List Value} {b : Nat} {a0 : Int32}  {σ : Hp} {K : Option Value → Hp → Prop} (ho : okO σ b 3 = true) (hr : st.length ≤ 4) : X 37 20 (ls) (.int a0 :: .ref b :: st) σ K = X 23 0 [.ref b, .int a0] [] σ (fun v σ' => X 37 23 ls (pushO v st) σ' K) := X_invV (as := [.int a0]) (idx := 45) (k := 0) (z := 23) (w0 := 0) (w := 0) (n := 1) (q := 2) (by decide +kernel) (by decide +kernel) rfl (by decide +kernel) (by decide +kernel) rfl rfl (by decide +kernel) (Nat.le_of_ble_eq_true rfl) ho hr
theorem x37_23 {ls st : List Value} {a b : Int32} {σ : Hp} {K : Option Value → Hp → Prop} : X 37 23 (ls) (.int b :: .int a :: st) σ K = if b < a then X 37 26 (ls) (st) σ K else X 37 30 (ls) (st) σ K := X_ic_le (off := 7) (by decide +kernel) (by decide +kernel)
theorem x37_26 {ls st : List Value} {σ : Hp} {K : Option Value → Hp → Prop} : X 37 26 (ls) (st) σ K = X 37 27 (ls) (.int 1 :: st) σ K := X_iconst (n := 1) (by decide +kernel) (by decide +kernel)
theorem x37_27 {ls st : List Value} {σ : Hp} {K : Option Value → Hp → Prop} : X 37 27 (ls) (st) σ K = X 37 31 (ls) (st) σ K := X_goto (off := 4) (by decide +kernel) (by decide +kernel)
theorem x37_30 {ls st : List Value} {σ : Hp} {K : Option Value → Hp → Prop} : X 37 30 (ls) (st) σ K = X 37 31 (ls) (.int 0 :: st) σ K := X_iconst (n := 0) (by decide +kernel) (by decide +kernel)
theorem x37_31 {ls : List Value} {x : Int32} {σ : Hp} {K : Option Value → Hp → Prop} (hx : (x == 0 || x == 1) = true) : X 37 31 (ls) ([.int x]) σ K = K (some (.int x)) σ := X_zret (by decide +kernel) (by decide +kernel) hx
theorem x37_32 {x : Nat} {ls st : List Value} {σ : Hp} {K : Option Value → Hp → Prop} : X 37 32 (.ref x :: ls) (st) σ K = X 37 33 (.ref x :: ls) (.ref x :: st) σ K := X_aload_n (k := 0) (by decide +kernel) rfl
theorem x37_33 {l0 : Value} {x : Int32} {ls st : List Value} {σ : Hp} {K : Option Value → Hp → Prop} : X 37 33 (l0 :: .int x :: ls) (st) σ K = X 37 34 (l0 :: .int x :: ls) (.int x :: st) σ K := X_iload_n (k := 1) (by decide +kernel) rfl
theorem x37_34 {ls st : List Value} {b : Nat} {a0 : Int32}  {σ : Hp} {K : Option Value → Hp → Prop} (ho : okO σ b 3 = true) (hr : st.length ≤ 4) : X 37 34 (ls) (.int a0 :: .ref b :: st) σ K = X 24 0 [.ref b, .int a0] [] σ (fun v σ' => X 37 37 ls (pushO v st) σ' K) := X_invV (as := [.int a0]) (idx := 51) (k := 0) (z := 24) (w0 := 0) (w := 0) (n := 1) (q := 2) (by decide +kernel) (by decide +kernel) rfl (by decide +kernel) (by decide +kernel) rfl rfl (by decide +kernel) (Nat.le_of_ble_eq_true rfl) ho hr
theorem x37_37 {x : Nat} {ls st : List Value} {σ : Hp} {K : Option Value → Hp → Prop} : X 37 37 (.ref x :: ls) (st) σ K = X 37 38 (.ref x :: ls) (.ref x :: st) σ K := X_aload_n (k := 0) (by decide +kernel) rfl
theorem x37_38 {l0 l1 : Value} {x : Int32} {ls st : List Value} {σ : Hp} {K : Option Value → Hp → Prop} : X 37 38 (l0 :: l1 :: .int x :: ls) (st) σ K = X 37 39 (l0 :: l1 :: .int x :: ls) (.int x :: st) σ K := X_iload_n (k := 2) (by decide +kernel) rfl
theorem x37_39 {ls st : List Value} {b : Nat} {a0 : Int32}  {σ : Hp} {K : Option Value → Hp → Prop} (ho : okO σ b 3 = true) (hr : st.length ≤ 4) : X 37 39 (ls) (.int a0 :: .ref b :: st) σ K = X 24 0 [.ref b, .int a0] [] σ (fun v σ' => X 37 42 ls (pushO v st) σ' K) := X_invV (as := [.int a0]) (idx := 51) (k := 0) (z := 24) (w0 := 0) (w := 0) (n := 1) (q := 2) (by decide +kernel) (by decide +kernel) rfl (by decide +kernel) (by decide +kernel) rfl rfl (by decide +kernel) (Nat.le_of_ble_eq_true rfl) ho hr
theorem x37_42 {ls st : List Value} {a b : Int32} {σ : Hp} {K : Option Value → Hp → Prop} : X 37 42 (ls) (.int b :: .int a :: st) σ K = if a = b then X 37 64 (ls) (st) σ K else X 37 45 (ls) (st) σ K := X_ic_eq (off := 22) (by decide +kernel) (by decide +kernel)
theorem x37_45 {x : Nat} {ls st : List Value} {σ : Hp} {K : Option Value → Hp → Prop} : X 37 45 (.ref x :: ls) (st) σ K = X 37 46 (.ref x :: ls) (.ref x :: st) σ K := X_aload_n (k := 0) (by decide +kernel) rfl
theorem x37_46 {l0 : Value} {x : Int32} {ls st : List Value} {σ : Hp} {K : Option Value → Hp → Prop} : X 37 46 (l0 :: .int x :: ls) (st) σ K = X 37 47 (l0 :: .int x :: ls) (.int x :: st) σ K := X_iload_n (k := 1) (by decide +kernel) rfl
theorem x37_47 {ls st : List Value} {b : Nat} {a0 : Int32}  {σ : Hp} {K : Option Value → Hp → Prop} (ho : okO σ b 3 = true) (hr : st.length ≤ 4) : X 37 47 (ls) (.int a0 :: .ref b :: st) σ K = X 24 0 [.ref b, .int a0] [] σ (fun v σ' => X 37 50 ls (pushO v st) σ' K) := X_invV (as := [.int a0]) (idx := 51) (k := 0) (z := 24) (w0 := 0) (w := 0) (n := 1) (q := 2) (by decide +kernel) (by decide +kernel) rfl (by decide +kernel) (by decide +kernel) rfl rfl (by decide +kernel) (Nat.le_of_ble_eq_true rfl) ho hr
theorem x37_50 {x : Nat} {ls st : List Value} {σ : Hp} {K : Option Value → Hp → Prop} : X 37 50 (.ref x :: ls) (st) σ K = X 37 51 (.ref x :: ls) (.ref x :: st) σ K := X_aload_n (k := 0) (by decide +kernel) rfl
theorem x37_51 {l0 l1 : Value} {x : Int32} {ls st : List Value} {σ : Hp} {K : Option Value → Hp → Prop} : X 37 51 (l0 :: l1 :: .int x :: ls) (st) σ K = X 37 52 (l0 :: l1 :: .int x :: ls) (.int x :: st) σ K := X_iload_n (k := 2) (by decide +kernel) rfl
theorem x37_52 {ls st : List Value} {b : Nat} {a0 : Int32}  {σ : Hp} {K : Option Value → Hp → Prop} (ho : okO σ b 3 = true) (hr : st.length ≤ 4) : X 37 52 (ls) (.int a0 :: .ref b :: st) σ K = X 24 0 [.ref b, .int a0] [] σ (fun v σ' => X 37 55 ls (pushO v st) σ' K) := X_invV (as := [.int a0]) (idx := 51) (k := 0) (z := 24) (w0 := 0) (w := 0) (n := 1) (q := 2) (by decide +kernel) (by decide +kernel) rfl (by decide +kernel) (by decide +kernel) rfl rfl (by decide +kernel) (Nat.le_of_ble_eq_true rfl) ho hr
theorem x37_55 {ls st : List Value} {a b : Int32} {σ : Hp} {K : Option Value → Hp → Prop} : X 37 55 (ls) (.int b :: .int a :: st) σ K = if a < b then X 37 58 (ls) (st) σ K else X 37 62 (ls) (st) σ K := X_ic_ge (off := 7) (by decide +kernel) (by decide +kernel)
theorem x37_58 {ls st : List Value} {σ : Hp} {K : Option Value → Hp → Prop} : X 37 58 (ls) (st) σ K = X 37 59 (ls) (.int 1 :: st) σ K := X_iconst (n := 1) (by decide +kernel) (by decide +kernel)
theorem x37_59 {ls st : List Value} {σ : Hp} {K : Option Value → Hp → Prop} : X 37 59 (ls) (st) σ K = X 37 63 (ls) (st) σ K := X_goto (off := 4) (by decide +kernel) (by decide +kernel)
theorem x37_62 {ls st : List Value} {σ : Hp} {K : Option Value → Hp → Prop} : X 37 62 (ls) (st) σ K = X 37 63 (ls) (.int 0 :: st) σ K := X_iconst (n := 0) (by decide +kernel) (by decide +kernel)
theorem x37_63 {ls : List Value} {x : Int32} {σ : Hp} {K : Option Value → Hp → Prop} (hx : (x == 0 || x == 1) = true) : X 37 63 (ls) ([.int x]) σ K = K (some (.int x)) σ := X_zret (by decide +kernel) (by decide +kernel) hx
theorem x37_64 {x : Nat} {ls st : List Value} {σ : Hp} {K : Option Value → Hp → Prop} : X 37 64 (.ref x :: ls) (st) σ K = X 37 65 (.ref x :: ls) (.ref x :: st) σ K := X_aload_n (k := 0) (by decide +kernel) rfl
theorem x37_65 {l0 : Value} {x : Int32} {ls st : List Value} {σ : Hp} {K : Option Value → Hp → Prop} : X 37 65 (l0 :: .int x :: ls) (st) σ K = X 37 66 (l0 :: .int x :: ls) (.int x :: st) σ K := X_iload_n (k := 1) (by decide +kernel) rfl
theorem x37_66 {ls st : List Value} {b : Nat} {a0 : Int32}  {σ : Hp} {K : Option Value → Hp → Prop} (ho : okO σ b 3 = true) (hr : st.length ≤ 4) : X 37 66 (ls) (.int a0 :: .ref b :: st) σ K = X 22 0 [.ref b, .int a0] [] σ (fun v σ' => X 37 69 ls (pushO v st) σ' K) := X_invV (as := [.int a0]) (idx := 34) (k := 0) (z := 22) (w0 := 0) (w := 0) (n := 1) (q := 2) (by decide +kernel) (by decide +kernel) rfl (by decide +kernel) (by decide +kernel) rfl rfl (by decide +kernel) (Nat.le_of_ble_eq_true rfl) ho hr
theorem x37_69 {x : Nat} {ls st : List Value} {σ : Hp} {K : Option Value → Hp → Prop} : X 37 69 (.ref x :: ls) (st) σ K = X 37 70 (.ref x :: ls) (.ref x :: st) σ K := X_aload_n (k := 0) (by decide +kernel) rfl
theorem x37_70 {l0 l1 : Value} {x : Int32} {ls st : List Value} {σ : Hp} {K : Option Value → Hp → Prop} : X 37 70 (l0 :: l1 :: .int x :: ls) (st) σ K = X 37 71 (l0 :: l1 :: .int x :: ls) (.int x :: st) σ K := X_iload_n (k := 2) (by decide +kernel) rfl
theorem x37_71 {ls st : List Value} {b : Nat} {a0 : Int32}  {σ : Hp} {K : Option Value → Hp → Prop} (ho : okO σ b 3 = true) (hr : st.length ≤ 4) : X 37 71 (ls) (.int a0 :: .ref b :: st) σ K = X 22 0 [.ref b, .int a0] [] σ (fun v σ' => X 37 74 ls (pushO v st) σ' K) := X_invV (as := [.int a0]) (idx := 34) (k := 0) (z := 22) (w0 := 0) (w := 0) (n := 1) (q := 2) (by decide +kernel) (by decide +kernel) rfl (by decide +kernel) (by decide +kernel) rfl rfl (by decide +kernel) (Nat.le_of_ble_eq_true rfl) ho hr
theorem x37_74 {ls st : List Value} {a b : Int32} {σ : Hp} {K : Option Value → Hp → Prop} : X 37 74 (ls) (.int b :: .int a :: st) σ K = if a < b then X 37 77 (ls) (st) σ K else X 37 81 (ls) (st) σ K := X_ic_ge (off := 7) (by decide +kernel) (by decide +kernel)
theorem x37_77 {ls st : List Value} {σ : Hp} {K : Option Value → Hp → Prop} : X 37 77 (ls) (st) σ K = X 37 78 (ls) (.int 1 :: st) σ K := X_iconst (n := 1) (by decide +kernel) (by decide +kernel)
theorem x37_78 {ls st : List Value} {σ : Hp} {K : Option Value → Hp → Prop} : X 37 78 (ls) (st) σ K = X 37 82 (ls) (st) σ K := X_goto (off := 4) (by decide +kernel) (by decide +kernel)
theorem x37_81 {ls st : List Value} {σ : Hp} {K : Option Value → Hp → Prop} : X 37 81 (ls) (st) σ K = X 37 82 (ls) (.int 0 :: st) σ K := X_iconst (n := 0) (by decide +kernel) (by decide +kernel)
theorem x37_82 {ls : List Value} {x : Int32} {σ : Hp} {K : Option Value → Hp → Prop} (hx : (x == 0 || x == 1) = true) : X 37 82 (ls) ([.int x]) σ K = K (some (.int x)) σ := X_zret (by decide +kernel) (by decide +kernel) hx
end
