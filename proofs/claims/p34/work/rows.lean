section
-- ===== PART A: goes FIRST, ahead of the names: the tables' words, and 'selects' of the private methods out of them =====
/-- a private method of a class that the tables say can be made, by its rows of tables_1 -/
def lw_okq (q : MethodName × Nat) : Prop := (q.1.cls ≠ "java/lang/invoke/MethodHandle" ∧ q.1.cls ≠ "java/lang/invoke/VarHandle") ∧ Cond.instantiable q.1.cls q.2 ∈ tables_1 ∧ Cond.privateMethod q.1 ∈ tables_1 ∧ Cond.instanceMethod q.1 ∈ tables_1
theorem lw_p0 : lw_okq (⟨"GuildCharter", "tapeNumber", "(I)V"⟩, 18) := ⟨⟨by decide +kernel, by decide +kernel⟩, List.mem_of_getElem? (i := 21) (by decide +kernel), List.mem_of_getElem? (i := 514) (by decide +kernel), List.mem_of_getElem? (i := 515) (by decide +kernel)⟩
theorem lw_p1 : lw_okq (⟨"GuildCharter$Tokens", "takeLetters", "()V"⟩, 10) := ⟨⟨by decide +kernel, by decide +kernel⟩, List.mem_of_getElem? (i := 35) (by decide +kernel), List.mem_of_getElem? (i := 546) (by decide +kernel), List.mem_of_getElem? (i := 547) (by decide +kernel)⟩
theorem lw_p2 : lw_okq (⟨"GuildCharter$Tokens", "takeDigits", "()V"⟩, 10) := ⟨⟨by decide +kernel, by decide +kernel⟩, List.mem_of_getElem? (i := 35) (by decide +kernel), List.mem_of_getElem? (i := 550) (by decide +kernel), List.mem_of_getElem? (i := 551) (by decide +kernel)⟩
theorem lw_p3 : lw_okq (⟨"GuildCharter$Parser", "readWord", "()Z"⟩, 4) := ⟨⟨by decide +kernel, by decide +kernel⟩, List.mem_of_getElem? (i := 29) (by decide +kernel), List.mem_of_getElem? (i := 558) (by decide +kernel), List.mem_of_getElem? (i := 559) (by decide +kernel)⟩
theorem lw_p4 : lw_okq (⟨"GuildCharter$Parser", "passFirst", "(Z)Z"⟩, 4) := ⟨⟨by decide +kernel, by decide +kernel⟩, List.mem_of_getElem? (i := 29) (by decide +kernel), List.mem_of_getElem? (i := 562) (by decide +kernel), List.mem_of_getElem? (i := 563) (by decide +kernel)⟩
theorem lw_p5 : lw_okq (⟨"GuildCharter$Parser", "pass", "(I)Z"⟩, 4) := ⟨⟨by decide +kernel, by decide +kernel⟩, List.mem_of_getElem? (i := 29) (by decide +kernel), List.mem_of_getElem? (i := 566) (by decide +kernel), List.mem_of_getElem? (i := 567) (by decide +kernel)⟩
theorem lw_p6 : lw_okq (⟨"GuildCharter$Parser", "passNewName", "()Z"⟩, 4) := ⟨⟨by decide +kernel, by decide +kernel⟩, List.mem_of_getElem? (i := 29) (by decide +kernel), List.mem_of_getElem? (i := 572) (by decide +kernel), List.mem_of_getElem? (i := 573) (by decide +kernel)⟩
theorem lw_p7 : lw_okq (⟨"GuildCharter$Parser", "readWorths", "([II)Z"⟩, 4) := ⟨⟨by decide +kernel, by decide +kernel⟩, List.mem_of_getElem? (i := 29) (by decide +kernel), List.mem_of_getElem? (i := 580) (by decide +kernel), List.mem_of_getElem? (i := 581) (by decide +kernel)⟩
theorem lw_p8 : lw_okq (⟨"GuildCharter$Parser", "passNumber", "(II)Z"⟩, 4) := ⟨⟨by decide +kernel, by decide +kernel⟩, List.mem_of_getElem? (i := 29) (by decide +kernel), List.mem_of_getElem? (i := 584) (by decide +kernel), List.mem_of_getElem? (i := 585) (by decide +kernel)⟩
theorem lw_p9 : lw_okq (⟨"GuildCharter$Parser", "readPair", "()Z"⟩, 4) := ⟨⟨by decide +kernel, by decide +kernel⟩, List.mem_of_getElem? (i := 29) (by decide +kernel), List.mem_of_getElem? (i := 588) (by decide +kernel), List.mem_of_getElem? (i := 589) (by decide +kernel)⟩
theorem lw_p10 : lw_okq (⟨"GuildCharter$Parser", "symbolAtHand", "()I"⟩, 4) := ⟨⟨by decide +kernel, by decide +kernel⟩, List.mem_of_getElem? (i := 29) (by decide +kernel), List.mem_of_getElem? (i := 592) (by decide +kernel), List.mem_of_getElem? (i := 593) (by decide +kernel)⟩
theorem lw_p11 : lw_okq (⟨"GuildCharter$Parser", "passPairName", "(IZ)Z"⟩, 4) := ⟨⟨by decide +kernel, by decide +kernel⟩, List.mem_of_getElem? (i := 29) (by decide +kernel), List.mem_of_getElem? (i := 596) (by decide +kernel), List.mem_of_getElem? (i := 597) (by decide +kernel)⟩
theorem lw_p12 : lw_okq (⟨"GuildCharter$Parser", "readRule", "()Z"⟩, 4) := ⟨⟨by decide +kernel, by decide +kernel⟩, List.mem_of_getElem? (i := 29) (by decide +kernel), List.mem_of_getElem? (i := 604) (by decide +kernel), List.mem_of_getElem? (i := 605) (by decide +kernel)⟩
theorem lw_p13 : lw_okq (⟨"GuildCharter$Parser", "readAlt", "()Z"⟩, 4) := ⟨⟨by decide +kernel, by decide +kernel⟩, List.mem_of_getElem? (i := 29) (by decide +kernel), List.mem_of_getElem? (i := 608) (by decide +kernel), List.mem_of_getElem? (i := 609) (by decide +kernel)⟩
theorem lw_p14 : lw_okq (⟨"GuildCharter$Parser", "readLength", "()Z"⟩, 4) := ⟨⟨by decide +kernel, by decide +kernel⟩, List.mem_of_getElem? (i := 29) (by decide +kernel), List.mem_of_getElem? (i := 612) (by decide +kernel), List.mem_of_getElem? (i := 613) (by decide +kernel)⟩
theorem lw_p15 : lw_okq (⟨"GuildCharter$Parser", "readTurns", "()Z"⟩, 4) := ⟨⟨by decide +kernel, by decide +kernel⟩, List.mem_of_getElem? (i := 29) (by decide +kernel), List.mem_of_getElem? (i := 616) (by decide +kernel), List.mem_of_getElem? (i := 617) (by decide +kernel)⟩
def lw_privs_1 : List (MethodName × Nat) := [(⟨"GuildCharter", "tapeNumber", "(I)V"⟩, 18), (⟨"GuildCharter$Tokens", "takeLetters", "()V"⟩, 10), (⟨"GuildCharter$Tokens", "takeDigits", "()V"⟩, 10), (⟨"GuildCharter$Parser", "readWord", "()Z"⟩, 4), (⟨"GuildCharter$Parser", "passFirst", "(Z)Z"⟩, 4), (⟨"GuildCharter$Parser", "pass", "(I)Z"⟩, 4), (⟨"GuildCharter$Parser", "passNewName", "()Z"⟩, 4), (⟨"GuildCharter$Parser", "readWorths", "([II)Z"⟩, 4), (⟨"GuildCharter$Parser", "passNumber", "(II)Z"⟩, 4), (⟨"GuildCharter$Parser", "readPair", "()Z"⟩, 4), (⟨"GuildCharter$Parser", "symbolAtHand", "()I"⟩, 4), (⟨"GuildCharter$Parser", "passPairName", "(IZ)Z"⟩, 4), (⟨"GuildCharter$Parser", "readRule", "()Z"⟩, 4), (⟨"GuildCharter$Parser", "readAlt", "()Z"⟩, 4), (⟨"GuildCharter$Parser", "readLength", "()Z"⟩, 4), (⟨"GuildCharter$Parser", "readTurns", "()Z"⟩, 4)]
theorem lw_r1 : ∀ q ∈ lw_privs_1, lw_okq q := List.forall_mem_cons.mpr ⟨lw_p0, List.forall_mem_cons.mpr ⟨lw_p1, List.forall_mem_cons.mpr ⟨lw_p2, List.forall_mem_cons.mpr ⟨lw_p3, List.forall_mem_cons.mpr ⟨lw_p4, List.forall_mem_cons.mpr ⟨lw_p5, List.forall_mem_cons.mpr ⟨lw_p6, List.forall_mem_cons.mpr ⟨lw_p7, List.forall_mem_cons.mpr ⟨lw_p8, List.forall_mem_cons.mpr ⟨lw_p9, List.forall_mem_cons.mpr ⟨lw_p10, List.forall_mem_cons.mpr ⟨lw_p11, List.forall_mem_cons.mpr ⟨lw_p12, List.forall_mem_cons.mpr ⟨lw_p13, List.forall_mem_cons.mpr ⟨lw_p14, List.forall_mem_cons.mpr ⟨lw_p15, fun _ h => absurd h List.not_mem_nil⟩⟩⟩⟩⟩⟩⟩⟩⟩⟩⟩⟩⟩⟩⟩⟩
theorem lw_p16 : lw_okq (⟨"GuildCharter$Parser", "bindParts", "()Z"⟩, 4) := ⟨⟨by decide +kernel, by decide +kernel⟩, List.mem_of_getElem? (i := 29) (by decide +kernel), List.mem_of_getElem? (i := 620) (by decide +kernel), List.mem_of_getElem? (i := 621) (by decide +kernel)⟩
theorem lw_p17 : lw_okq (⟨"GuildCharter$Parser", "bindAlt", "(II)Z"⟩, 4) := ⟨⟨by decide +kernel, by decide +kernel⟩, List.mem_of_getElem? (i := 29) (by decide +kernel), List.mem_of_getElem? (i := 624) (by decide +kernel), List.mem_of_getElem? (i := 625) (by decide +kernel)⟩
theorem lw_p18 : lw_okq (⟨"GuildCharter", "forgetOldPort", "()V"⟩, 18) := ⟨⟨by decide +kernel, by decide +kernel⟩, List.mem_of_getElem? (i := 21) (by decide +kernel), List.mem_of_getElem? (i := 628) (by decide +kernel), List.mem_of_getElem? (i := 629) (by decide +kernel)⟩
theorem lw_p19 : lw_okq (⟨"GuildCharter", "ownerInEarnest", "(I)I"⟩, 18) := ⟨⟨by decide +kernel, by decide +kernel⟩, List.mem_of_getElem? (i := 21) (by decide +kernel), List.mem_of_getElem? (i := 677) (by decide +kernel), List.mem_of_getElem? (i := 678) (by decide +kernel)⟩
theorem lw_p20 : lw_okq (⟨"GuildCharter", "nextInEarnest", "()I"⟩, 18) := ⟨⟨by decide +kernel, by decide +kernel⟩, List.mem_of_getElem? (i := 21) (by decide +kernel), List.mem_of_getElem? (i := 689) (by decide +kernel), List.mem_of_getElem? (i := 690) (by decide +kernel)⟩
theorem lw_p21 : lw_okq (⟨"GuildCharter$Reader", "fillColumn", "(LGuildCharter$Port;IIZ)V"⟩, 2) := ⟨⟨by decide +kernel, by decide +kernel⟩, List.mem_of_getElem? (i := 312) (by decide +kernel), List.mem_of_getElem? (i := 697) (by decide +kernel), List.mem_of_getElem? (i := 698) (by decide +kernel)⟩
theorem lw_p22 : lw_okq (⟨"GuildCharter$Reader", "beginColumn", "(IIZ)V"⟩, 2) := ⟨⟨by decide +kernel, by decide +kernel⟩, List.mem_of_getElem? (i := 312) (by decide +kernel), List.mem_of_getElem? (i := 701) (by decide +kernel), List.mem_of_getElem? (i := 702) (by decide +kernel)⟩
theorem lw_p23 : lw_okq (⟨"GuildCharter$Reader", "startsOfAlt", "(LGuildCharter$Port;II)J"⟩, 2) := ⟨⟨by decide +kernel, by decide +kernel⟩, List.mem_of_getElem? (i := 312) (by decide +kernel), List.mem_of_getElem? (i := 706) (by decide +kernel), List.mem_of_getElem? (i := 707) (by decide +kernel)⟩
theorem lw_p24 : lw_okq (⟨"GuildCharter$Earnest", "note", "(ZIII)V"⟩, 9) := ⟨⟨by decide +kernel, by decide +kernel⟩, List.mem_of_getElem? (i := 246) (by decide +kernel), List.mem_of_getElem? (i := 722) (by decide +kernel), List.mem_of_getElem? (i := 723) (by decide +kernel)⟩
theorem lw_p25 : lw_okq (⟨"GuildCharter$Earnest", "dropOldest", "()V"⟩, 9) := ⟨⟨by decide +kernel, by decide +kernel⟩, List.mem_of_getElem? (i := 246) (by decide +kernel), List.mem_of_getElem? (i := 726) (by decide +kernel), List.mem_of_getElem? (i := 727) (by decide +kernel)⟩
theorem lw_p26 : lw_okq (⟨"GuildCharter", "isUnwritten", "(I)Z"⟩, 18) := ⟨⟨by decide +kernel, by decide +kernel⟩, List.mem_of_getElem? (i := 21) (by decide +kernel), List.mem_of_getElem? (i := 738) (by decide +kernel), List.mem_of_getElem? (i := 739) (by decide +kernel)⟩
theorem lw_p27 : lw_okq (⟨"GuildCharter$Tally", "fillColumn", "(LGuildCharter$Port;I)V"⟩, 3) := ⟨⟨by decide +kernel, by decide +kernel⟩, List.mem_of_getElem? (i := 325) (by decide +kernel), List.mem_of_getElem? (i := 779) (by decide +kernel), List.mem_of_getElem? (i := 780) (by decide +kernel)⟩
theorem lw_p28 : lw_okq (⟨"GuildCharter$Tally", "waysOfAlt", "(LGuildCharter$Port;IIII)I"⟩, 3) := ⟨⟨by decide +kernel, by decide +kernel⟩, List.mem_of_getElem? (i := 325) (by decide +kernel), List.mem_of_getElem? (i := 783) (by decide +kernel), List.mem_of_getElem? (i := 784) (by decide +kernel)⟩
theorem lw_p29 : lw_okq (⟨"GuildCharter", "growEarnest", "()LGuildCharter$Tree;"⟩, 18) := ⟨⟨by decide +kernel, by decide +kernel⟩, List.mem_of_getElem? (i := 21) (by decide +kernel), List.mem_of_getElem? (i := 807) (by decide +kernel), List.mem_of_getElem? (i := 808) (by decide +kernel)⟩
theorem lw_p30 : lw_okq (⟨"GuildCharter$Tree", "addRoot", "(LGuildCharter$Port;[I)V"⟩, 11) := ⟨⟨by decide +kernel, by decide +kernel⟩, List.mem_of_getElem? (i := 377) (by decide +kernel), List.mem_of_getElem? (i := 815) (by decide +kernel), List.mem_of_getElem? (i := 816) (by decide +kernel)⟩
theorem lw_p31 : lw_okq (⟨"GuildCharter$Tree", "grow", "(LGuildCharter$Port;LGuildCharter$Reader;I)V"⟩, 11) := ⟨⟨by decide +kernel, by decide +kernel⟩, List.mem_of_getElem? (i := 377) (by decide +kernel), List.mem_of_getElem? (i := 821) (by decide +kernel), List.mem_of_getElem? (i := 822) (by decide +kernel)⟩
def lw_privs_2 : List (MethodName × Nat) := [(⟨"GuildCharter$Parser", "bindParts", "()Z"⟩, 4), (⟨"GuildCharter$Parser", "bindAlt", "(II)Z"⟩, 4), (⟨"GuildCharter", "forgetOldPort", "()V"⟩, 18), (⟨"GuildCharter", "ownerInEarnest", "(I)I"⟩, 18), (⟨"GuildCharter", "nextInEarnest", "()I"⟩, 18), (⟨"GuildCharter$Reader", "fillColumn", "(LGuildCharter$Port;IIZ)V"⟩, 2), (⟨"GuildCharter$Reader", "beginColumn", "(IIZ)V"⟩, 2), (⟨"GuildCharter$Reader", "startsOfAlt", "(LGuildCharter$Port;II)J"⟩, 2), (⟨"GuildCharter$Earnest", "note", "(ZIII)V"⟩, 9), (⟨"GuildCharter$Earnest", "dropOldest", "()V"⟩, 9), (⟨"GuildCharter", "isUnwritten", "(I)Z"⟩, 18), (⟨"GuildCharter$Tally", "fillColumn", "(LGuildCharter$Port;I)V"⟩, 3), (⟨"GuildCharter$Tally", "waysOfAlt", "(LGuildCharter$Port;IIII)I"⟩, 3), (⟨"GuildCharter", "growEarnest", "()LGuildCharter$Tree;"⟩, 18), (⟨"GuildCharter$Tree", "addRoot", "(LGuildCharter$Port;[I)V"⟩, 11), (⟨"GuildCharter$Tree", "grow", "(LGuildCharter$Port;LGuildCharter$Reader;I)V"⟩, 11)]
theorem lw_r2 : ∀ q ∈ lw_privs_2, lw_okq q := List.forall_mem_cons.mpr ⟨lw_p16, List.forall_mem_cons.mpr ⟨lw_p17, List.forall_mem_cons.mpr ⟨lw_p18, List.forall_mem_cons.mpr ⟨lw_p19, List.forall_mem_cons.mpr ⟨lw_p20, List.forall_mem_cons.mpr ⟨lw_p21, List.forall_mem_cons.mpr ⟨lw_p22, List.forall_mem_cons.mpr ⟨lw_p23, List.forall_mem_cons.mpr ⟨lw_p24, List.forall_mem_cons.mpr ⟨lw_p25, List.forall_mem_cons.mpr ⟨lw_p26, List.forall_mem_cons.mpr ⟨lw_p27, List.forall_mem_cons.mpr ⟨lw_p28, List.forall_mem_cons.mpr ⟨lw_p29, List.forall_mem_cons.mpr ⟨lw_p30, List.forall_mem_cons.mpr ⟨lw_p31, fun _ h => absurd h List.not_mem_nil⟩⟩⟩⟩⟩⟩⟩⟩⟩⟩⟩⟩⟩⟩⟩⟩
theorem lw_p32 : lw_okq (⟨"GuildCharter$Tree", "add", "(LGuildCharter$Port;II)V"⟩, 11) := ⟨⟨by decide +kernel, by decide +kernel⟩, List.mem_of_getElem? (i := 377) (by decide +kernel), List.mem_of_getElem? (i := 826) (by decide +kernel), List.mem_of_getElem? (i := 827) (by decide +kernel)⟩
theorem lw_p33 : lw_okq (⟨"GuildCharter$Tree", "growBehind", "(LGuildCharter$Port;LGuildCharter$Reader;II)V"⟩, 11) := ⟨⟨by decide +kernel, by decide +kernel⟩, List.mem_of_getElem? (i := 377) (by decide +kernel), List.mem_of_getElem? (i := 831) (by decide +kernel), List.mem_of_getElem? (i := 832) (by decide +kernel)⟩
theorem lw_p34 : lw_okq (⟨"GuildCharter", "ownAsInEarnest", "()V"⟩, 18) := ⟨⟨by decide +kernel, by decide +kernel⟩, List.mem_of_getElem? (i := 21) (by decide +kernel), List.mem_of_getElem? (i := 843) (by decide +kernel), List.mem_of_getElem? (i := 844) (by decide +kernel)⟩
theorem lw_p35 : lw_okq (⟨"GuildCharter$Play", "clearResults", "(II)V"⟩, 9) := ⟨⟨by decide +kernel, by decide +kernel⟩, List.mem_of_getElem? (i := 341) (by decide +kernel), List.mem_of_getElem? (i := 851) (by decide +kernel), List.mem_of_getElem? (i := 852) (by decide +kernel)⟩
theorem lw_p36 : lw_okq (⟨"GuildCharter$Play", "offer", "(LGuildCharter$Tree;II)V"⟩, 9) := ⟨⟨by decide +kernel, by decide +kernel⟩, List.mem_of_getElem? (i := 341) (by decide +kernel), List.mem_of_getElem? (i := 859) (by decide +kernel), List.mem_of_getElem? (i := 860) (by decide +kernel)⟩
theorem lw_p37 : lw_okq (⟨"GuildCharter$Play", "worthTo", "(LGuildCharter$Tree;II)I"⟩, 9) := ⟨⟨by decide +kernel, by decide +kernel⟩, List.mem_of_getElem? (i := 341) (by decide +kernel), List.mem_of_getElem? (i := 863) (by decide +kernel), List.mem_of_getElem? (i := 864) (by decide +kernel)⟩
theorem lw_p38 : lw_okq (⟨"GuildCharter$Play", "isBribed", "(LGuildCharter$Tree;I)Z"⟩, 9) := ⟨⟨by decide +kernel, by decide +kernel⟩, List.mem_of_getElem? (i := 341) (by decide +kernel), List.mem_of_getElem? (i := 867) (by decide +kernel), List.mem_of_getElem? (i := 868) (by decide +kernel)⟩
theorem lw_p39 : lw_okq (⟨"GuildCharter", "lay", "(LGuildCharter$Tree;I)V"⟩, 18) := ⟨⟨by decide +kernel, by decide +kernel⟩, List.mem_of_getElem? (i := 21) (by decide +kernel), List.mem_of_getElem? (i := 876) (by decide +kernel), List.mem_of_getElem? (i := 877) (by decide +kernel)⟩
theorem lw_p40 : lw_okq (⟨"GuildCharter", "sixShares", "(LGuildCharter$Tree;I)I"⟩, 18) := ⟨⟨by decide +kernel, by decide +kernel⟩, List.mem_of_getElem? (i := 21) (by decide +kernel), List.mem_of_getElem? (i := 903) (by decide +kernel), List.mem_of_getElem? (i := 904) (by decide +kernel)⟩
theorem lw_p41 : lw_okq (⟨"GuildCharter$Port", "sizeOfAlt", "(I[I)I"⟩, 16) := ⟨⟨by decide +kernel, by decide +kernel⟩, List.mem_of_getElem? (i := 138) (by decide +kernel), List.mem_of_getElem? (i := 937) (by decide +kernel), List.mem_of_getElem? (i := 938) (by decide +kernel)⟩
theorem lw_p42 : lw_okq (⟨"GuildCharter$Port", "rulesNextTo", "(I[I)I"⟩, 16) := ⟨⟨by decide +kernel, by decide +kernel⟩, List.mem_of_getElem? (i := 138) (by decide +kernel), List.mem_of_getElem? (i := 945) (by decide +kernel), List.mem_of_getElem? (i := 946) (by decide +kernel)⟩
theorem lw_p43 : lw_okq (⟨"GuildCharter", "growWhole", "()LGuildCharter$Tree;"⟩, 18) := ⟨⟨by decide +kernel, by decide +kernel⟩, List.mem_of_getElem? (i := 21) (by decide +kernel), List.mem_of_getElem? (i := 957) (by decide +kernel), List.mem_of_getElem? (i := 958) (by decide +kernel)⟩
theorem lw_p44 : lw_okq (⟨"GuildCharter", "growHoles", "()LGuildCharter$Tree;"⟩, 18) := ⟨⟨by decide +kernel, by decide +kernel⟩, List.mem_of_getElem? (i := 21) (by decide +kernel), List.mem_of_getElem? (i := 984) (by decide +kernel), List.mem_of_getElem? (i := 985) (by decide +kernel)⟩
theorem lw_p45 : lw_okq (⟨"GuildCharterModel", "clearBank", "()V"⟩, 71) := ⟨⟨by decide +kernel, by decide +kernel⟩, List.mem_of_getElem? (i := 1056) (by decide +kernel), List.mem_of_getElem? (i := 1062) (by decide +kernel), List.mem_of_getElem? (i := 1063) (by decide +kernel)⟩
theorem lw_p46 : lw_okq (⟨"GuildCharterModel", "begin", "()V"⟩, 71) := ⟨⟨by decide +kernel, by decide +kernel⟩, List.mem_of_getElem? (i := 1056) (by decide +kernel), List.mem_of_getElem? (i := 1066) (by decide +kernel), List.mem_of_getElem? (i := 1067) (by decide +kernel)⟩
theorem lw_p47 : lw_okq (⟨"GuildCharterModel", "toldTurn", "(I)I"⟩, 71) := ⟨⟨by decide +kernel, by decide +kernel⟩, List.mem_of_getElem? (i := 1056) (by decide +kernel), List.mem_of_getElem? (i := 1070) (by decide +kernel), List.mem_of_getElem? (i := 1071) (by decide +kernel)⟩
def lw_privs_3 : List (MethodName × Nat) := [(⟨"GuildCharter$Tree", "add", "(LGuildCharter$Port;II)V"⟩, 11), (⟨"GuildCharter$Tree", "growBehind", "(LGuildCharter$Port;LGuildCharter$Reader;II)V"⟩, 11), (⟨"GuildCharter", "ownAsInEarnest", "()V"⟩, 18), (⟨"GuildCharter$Play", "clearResults", "(II)V"⟩, 9), (⟨"GuildCharter$Play", "offer", "(LGuildCharter$Tree;II)V"⟩, 9), (⟨"GuildCharter$Play", "worthTo", "(LGuildCharter$Tree;II)I"⟩, 9), (⟨"GuildCharter$Play", "isBribed", "(LGuildCharter$Tree;I)Z"⟩, 9), (⟨"GuildCharter", "lay", "(LGuildCharter$Tree;I)V"⟩, 18), (⟨"GuildCharter", "sixShares", "(LGuildCharter$Tree;I)I"⟩, 18), (⟨"GuildCharter$Port", "sizeOfAlt", "(I[I)I"⟩, 16), (⟨"GuildCharter$Port", "rulesNextTo", "(I[I)I"⟩, 16), (⟨"GuildCharter", "growWhole", "()LGuildCharter$Tree;"⟩, 18), (⟨"GuildCharter", "growHoles", "()LGuildCharter$Tree;"⟩, 18), (⟨"GuildCharterModel", "clearBank", "()V"⟩, 71), (⟨"GuildCharterModel", "begin", "()V"⟩, 71), (⟨"GuildCharterModel", "toldTurn", "(I)I"⟩, 71)]
theorem lw_r3 : ∀ q ∈ lw_privs_3, lw_okq q := List.forall_mem_cons.mpr ⟨lw_p32, List.forall_mem_cons.mpr ⟨lw_p33, List.forall_mem_cons.mpr ⟨lw_p34, List.forall_mem_cons.mpr ⟨lw_p35, List.forall_mem_cons.mpr ⟨lw_p36, List.forall_mem_cons.mpr ⟨lw_p37, List.forall_mem_cons.mpr ⟨lw_p38, List.forall_mem_cons.mpr ⟨lw_p39, List.forall_mem_cons.mpr ⟨lw_p40, List.forall_mem_cons.mpr ⟨lw_p41, List.forall_mem_cons.mpr ⟨lw_p42, List.forall_mem_cons.mpr ⟨lw_p43, List.forall_mem_cons.mpr ⟨lw_p44, List.forall_mem_cons.mpr ⟨lw_p45, List.forall_mem_cons.mpr ⟨lw_p46, List.forall_mem_cons.mpr ⟨lw_p47, fun _ h => absurd h List.not_mem_nil⟩⟩⟩⟩⟩⟩⟩⟩⟩⟩⟩⟩⟩⟩⟩⟩
theorem lw_p48 : lw_okq (⟨"GuildCharterModel", "goOn", "()V"⟩, 71) := ⟨⟨by decide +kernel, by decide +kernel⟩, List.mem_of_getElem? (i := 1056) (by decide +kernel), List.mem_of_getElem? (i := 1292) (by decide +kernel), List.mem_of_getElem? (i := 1293) (by decide +kernel)⟩
theorem lw_p49 : lw_okq (⟨"GuildCharterModel", "sign", "(I)I"⟩, 71) := ⟨⟨by decide +kernel, by decide +kernel⟩, List.mem_of_getElem? (i := 1056) (by decide +kernel), List.mem_of_getElem? (i := 1296) (by decide +kernel), List.mem_of_getElem? (i := 1297) (by decide +kernel)⟩
theorem lw_p50 : lw_okq (⟨"GuildCharterModel", "isGood", "()Z"⟩, 71) := ⟨⟨by decide +kernel, by decide +kernel⟩, List.mem_of_getElem? (i := 1056) (by decide +kernel), List.mem_of_getElem? (i := 1315) (by decide +kernel), List.mem_of_getElem? (i := 1316) (by decide +kernel)⟩
theorem lw_p51 : lw_okq (⟨"GuildCharterModel", "readLine", "()V"⟩, 71) := ⟨⟨by decide +kernel, by decide +kernel⟩, List.mem_of_getElem? (i := 1056) (by decide +kernel), List.mem_of_getElem? (i := 1319) (by decide +kernel), List.mem_of_getElem? (i := 1320) (by decide +kernel)⟩
theorem lw_p52 : lw_okq (⟨"GuildCharterModel", "isFull", "()Z"⟩, 71) := ⟨⟨by decide +kernel, by decide +kernel⟩, List.mem_of_getElem? (i := 1056) (by decide +kernel), List.mem_of_getElem? (i := 1323) (by decide +kernel), List.mem_of_getElem? (i := 1324) (by decide +kernel)⟩
theorem lw_p53 : lw_okq (⟨"GuildCharterModel", "isWord", "(J)Z"⟩, 71) := ⟨⟨by decide +kernel, by decide +kernel⟩, List.mem_of_getElem? (i := 1056) (by decide +kernel), List.mem_of_getElem? (i := 1327) (by decide +kernel), List.mem_of_getElem? (i := 1328) (by decide +kernel)⟩
theorem lw_p54 : lw_okq (⟨"GuildCharterModel", "misplaced", "()V"⟩, 71) := ⟨⟨by decide +kernel, by decide +kernel⟩, List.mem_of_getElem? (i := 1056) (by decide +kernel), List.mem_of_getElem? (i := 1331) (by decide +kernel), List.mem_of_getElem? (i := 1332) (by decide +kernel)⟩
theorem lw_p55 : lw_okq (⟨"GuildCharterModel", "fails", "(II)V"⟩, 71) := ⟨⟨by decide +kernel, by decide +kernel⟩, List.mem_of_getElem? (i := 1056) (by decide +kernel), List.mem_of_getElem? (i := 1335) (by decide +kernel), List.mem_of_getElem? (i := 1336) (by decide +kernel)⟩
theorem lw_p56 : lw_okq (⟨"GuildCharterModel", "readWord", "()V"⟩, 71) := ⟨⟨by decide +kernel, by decide +kernel⟩, List.mem_of_getElem? (i := 1056) (by decide +kernel), List.mem_of_getElem? (i := 1339) (by decide +kernel), List.mem_of_getElem? (i := 1340) (by decide +kernel)⟩
theorem lw_p57 : lw_okq (⟨"GuildCharterModel", "fresh", "()J"⟩, 71) := ⟨⟨by decide +kernel, by decide +kernel⟩, List.mem_of_getElem? (i := 1056) (by decide +kernel), List.mem_of_getElem? (i := 1343) (by decide +kernel), List.mem_of_getElem? (i := 1344) (by decide +kernel)⟩
theorem lw_p58 : lw_okq (⟨"GuildCharterModel", "wordOf", "(J)I"⟩, 71) := ⟨⟨by decide +kernel, by decide +kernel⟩, List.mem_of_getElem? (i := 1056) (by decide +kernel), List.mem_of_getElem? (i := 1347) (by decide +kernel), List.mem_of_getElem? (i := 1348) (by decide +kernel)⟩
theorem lw_p59 : lw_okq (⟨"GuildCharterModel", "ruleOf", "(J)I"⟩, 71) := ⟨⟨by decide +kernel, by decide +kernel⟩, List.mem_of_getElem? (i := 1056) (by decide +kernel), List.mem_of_getElem? (i := 1351) (by decide +kernel), List.mem_of_getElem? (i := 1352) (by decide +kernel)⟩
theorem lw_p60 : lw_okq (⟨"GuildCharterModel", "numeral", "(II)I"⟩, 71) := ⟨⟨by decide +kernel, by decide +kernel⟩, List.mem_of_getElem? (i := 1056) (by decide +kernel), List.mem_of_getElem? (i := 1355) (by decide +kernel), List.mem_of_getElem? (i := 1356) (by decide +kernel)⟩
theorem lw_p61 : lw_okq (⟨"GuildCharterModel", "readPair", "()V"⟩, 71) := ⟨⟨by decide +kernel, by decide +kernel⟩, List.mem_of_getElem? (i := 1056) (by decide +kernel), List.mem_of_getElem? (i := 1359) (by decide +kernel), List.mem_of_getElem? (i := 1360) (by decide +kernel)⟩
theorem lw_p62 : lw_okq (⟨"GuildCharterModel", "known", "()I"⟩, 71) := ⟨⟨by decide +kernel, by decide +kernel⟩, List.mem_of_getElem? (i := 1056) (by decide +kernel), List.mem_of_getElem? (i := 1363) (by decide +kernel), List.mem_of_getElem? (i := 1364) (by decide +kernel)⟩
theorem lw_p63 : lw_okq (⟨"GuildCharterModel", "readRule", "()V"⟩, 71) := ⟨⟨by decide +kernel, by decide +kernel⟩, List.mem_of_getElem? (i := 1056) (by decide +kernel), List.mem_of_getElem? (i := 1367) (by decide +kernel), List.mem_of_getElem? (i := 1368) (by decide +kernel)⟩
def lw_privs_4 : List (MethodName × Nat) := [(⟨"GuildCharterModel", "goOn", "()V"⟩, 71), (⟨"GuildCharterModel", "sign", "(I)I"⟩, 71), (⟨"GuildCharterModel", "isGood", "()Z"⟩, 71), (⟨"GuildCharterModel", "readLine", "()V"⟩, 71), (⟨"GuildCharterModel", "isFull", "()Z"⟩, 71), (⟨"GuildCharterModel", "isWord", "(J)Z"⟩, 71), (⟨"GuildCharterModel", "misplaced", "()V"⟩, 71), (⟨"GuildCharterModel", "fails", "(II)V"⟩, 71), (⟨"GuildCharterModel", "readWord", "()V"⟩, 71), (⟨"GuildCharterModel", "fresh", "()J"⟩, 71), (⟨"GuildCharterModel", "wordOf", "(J)I"⟩, 71), (⟨"GuildCharterModel", "ruleOf", "(J)I"⟩, 71), (⟨"GuildCharterModel", "numeral", "(II)I"⟩, 71), (⟨"GuildCharterModel", "readPair", "()V"⟩, 71), (⟨"GuildCharterModel", "known", "()I"⟩, 71), (⟨"GuildCharterModel", "readRule", "()V"⟩, 71)]
theorem lw_r4 : ∀ q ∈ lw_privs_4, lw_okq q := List.forall_mem_cons.mpr ⟨lw_p48, List.forall_mem_cons.mpr ⟨lw_p49, List.forall_mem_cons.mpr ⟨lw_p50, List.forall_mem_cons.mpr ⟨lw_p51, List.forall_mem_cons.mpr ⟨lw_p52, List.forall_mem_cons.mpr ⟨lw_p53, List.forall_mem_cons.mpr ⟨lw_p54, List.forall_mem_cons.mpr ⟨lw_p55, List.forall_mem_cons.mpr ⟨lw_p56, List.forall_mem_cons.mpr ⟨lw_p57, List.forall_mem_cons.mpr ⟨lw_p58, List.forall_mem_cons.mpr ⟨lw_p59, List.forall_mem_cons.mpr ⟨lw_p60, List.forall_mem_cons.mpr ⟨lw_p61, List.forall_mem_cons.mpr ⟨lw_p62, List.forall_mem_cons.mpr ⟨lw_p63, fun _ h => absurd h List.not_mem_nil⟩⟩⟩⟩⟩⟩⟩⟩⟩⟩⟩⟩⟩⟩⟩⟩
theorem lw_p64 : lw_okq (⟨"GuildCharterModel", "isSignHere", "(I)Z"⟩, 71) := ⟨⟨by decide +kernel, by decide +kernel⟩, List.mem_of_getElem? (i := 1056) (by decide +kernel), List.mem_of_getElem? (i := 1371) (by decide +kernel), List.mem_of_getElem? (i := 1372) (by decide +kernel)⟩
theorem lw_p65 : lw_okq (⟨"GuildCharterModel", "must", "(Z)V"⟩, 71) := ⟨⟨by decide +kernel, by decide +kernel⟩, List.mem_of_getElem? (i := 1056) (by decide +kernel), List.mem_of_getElem? (i := 1375) (by decide +kernel), List.mem_of_getElem? (i := 1376) (by decide +kernel)⟩
theorem lw_p66 : lw_okq (⟨"GuildCharterModel", "readAlt", "()V"⟩, 71) := ⟨⟨by decide +kernel, by decide +kernel⟩, List.mem_of_getElem? (i := 1056) (by decide +kernel), List.mem_of_getElem? (i := 1379) (by decide +kernel), List.mem_of_getElem? (i := 1380) (by decide +kernel)⟩
theorem lw_p67 : lw_okq (⟨"GuildCharterModel", "readTurns", "()V"⟩, 71) := ⟨⟨by decide +kernel, by decide +kernel⟩, List.mem_of_getElem? (i := 1056) (by decide +kernel), List.mem_of_getElem? (i := 1383) (by decide +kernel), List.mem_of_getElem? (i := 1384) (by decide +kernel)⟩
theorem lw_p68 : lw_okq (⟨"GuildCharterModel", "settle", "()V"⟩, 71) := ⟨⟨by decide +kernel, by decide +kernel⟩, List.mem_of_getElem? (i := 1056) (by decide +kernel), List.mem_of_getElem? (i := 1387) (by decide +kernel), List.mem_of_getElem? (i := 1388) (by decide +kernel)⟩
theorem lw_p69 : lw_okq (⟨"GuildCharterModel", "isWordOf", "(I)Z"⟩, 71) := ⟨⟨by decide +kernel, by decide +kernel⟩, List.mem_of_getElem? (i := 1056) (by decide +kernel), List.mem_of_getElem? (i := 1399) (by decide +kernel), List.mem_of_getElem? (i := 1400) (by decide +kernel)⟩
theorem lw_p70 : lw_okq (⟨"GuildCharterModel", "pairOf", "(III)I"⟩, 71) := ⟨⟨by decide +kernel, by decide +kernel⟩, List.mem_of_getElem? (i := 1056) (by decide +kernel), List.mem_of_getElem? (i := 1414) (by decide +kernel), List.mem_of_getElem? (i := 1415) (by decide +kernel)⟩
theorem lw_p71 : lw_okq (⟨"GuildCharterModel", "isPlace", "(I)Z"⟩, 71) := ⟨⟨by decide +kernel, by decide +kernel⟩, List.mem_of_getElem? (i := 1056) (by decide +kernel), List.mem_of_getElem? (i := 1422) (by decide +kernel), List.mem_of_getElem? (i := 1423) (by decide +kernel)⟩
theorem lw_p72 : lw_okq (⟨"GuildCharterModel", "longOf", "()I"⟩, 71) := ⟨⟨by decide +kernel, by decide +kernel⟩, List.mem_of_getElem? (i := 1056) (by decide +kernel), List.mem_of_getElem? (i := 1426) (by decide +kernel), List.mem_of_getElem? (i := 1427) (by decide +kernel)⟩
theorem lw_p73 : lw_okq (⟨"GuildCharterModel", "canCome", "(I)Z"⟩, 71) := ⟨⟨by decide +kernel, by decide +kernel⟩, List.mem_of_getElem? (i := 1056) (by decide +kernel), List.mem_of_getElem? (i := 1438) (by decide +kernel), List.mem_of_getElem? (i := 1439) (by decide +kernel)⟩
theorem lw_p74 : lw_okq (⟨"GuildCharterModel", "tryRow", "()V"⟩, 71) := ⟨⟨by decide +kernel, by decide +kernel⟩, List.mem_of_getElem? (i := 1056) (by decide +kernel), List.mem_of_getElem? (i := 1442) (by decide +kernel), List.mem_of_getElem? (i := 1443) (by decide +kernel)⟩
theorem lw_p75 : lw_okq (⟨"GuildCharterModel", "canGoOn", "(I)Z"⟩, 71) := ⟨⟨by decide +kernel, by decide +kernel⟩, List.mem_of_getElem? (i := 1056) (by decide +kernel), List.mem_of_getElem? (i := 1446) (by decide +kernel), List.mem_of_getElem? (i := 1447) (by decide +kernel)⟩
theorem lw_p76 : lw_okq (⟨"GuildCharterModel", "isRead", "(I)Z"⟩, 71) := ⟨⟨by decide +kernel, by decide +kernel⟩, List.mem_of_getElem? (i := 1056) (by decide +kernel), List.mem_of_getElem? (i := 1450) (by decide +kernel), List.mem_of_getElem? (i := 1451) (by decide +kernel)⟩
theorem lw_p77 : lw_okq (⟨"GuildCharterModel", "layEnds", "(I)V"⟩, 71) := ⟨⟨by decide +kernel, by decide +kernel⟩, List.mem_of_getElem? (i := 1056) (by decide +kernel), List.mem_of_getElem? (i := 1454) (by decide +kernel), List.mem_of_getElem? (i := 1455) (by decide +kernel)⟩
theorem lw_p78 : lw_okq (⟨"GuildCharterModel", "doesRead", "(III)Z"⟩, 71) := ⟨⟨by decide +kernel, by decide +kernel⟩, List.mem_of_getElem? (i := 1056) (by decide +kernel), List.mem_of_getElem? (i := 1458) (by decide +kernel), List.mem_of_getElem? (i := 1459) (by decide +kernel)⟩
theorem lw_p79 : lw_okq (⟨"GuildCharterModel", "endsBy", "(II)I"⟩, 71) := ⟨⟨by decide +kernel, by decide +kernel⟩, List.mem_of_getElem? (i := 1056) (by decide +kernel), List.mem_of_getElem? (i := 1462) (by decide +kernel), List.mem_of_getElem? (i := 1463) (by decide +kernel)⟩
def lw_privs_5 : List (MethodName × Nat) := [(⟨"GuildCharterModel", "isSignHere", "(I)Z"⟩, 71), (⟨"GuildCharterModel", "must", "(Z)V"⟩, 71), (⟨"GuildCharterModel", "readAlt", "()V"⟩, 71), (⟨"GuildCharterModel", "readTurns", "()V"⟩, 71), (⟨"GuildCharterModel", "settle", "()V"⟩, 71), (⟨"GuildCharterModel", "isWordOf", "(I)Z"⟩, 71), (⟨"GuildCharterModel", "pairOf", "(III)I"⟩, 71), (⟨"GuildCharterModel", "isPlace", "(I)Z"⟩, 71), (⟨"GuildCharterModel", "longOf", "()I"⟩, 71), (⟨"GuildCharterModel", "canCome", "(I)Z"⟩, 71), (⟨"GuildCharterModel", "tryRow", "()V"⟩, 71), (⟨"GuildCharterModel", "canGoOn", "(I)Z"⟩, 71), (⟨"GuildCharterModel", "isRead", "(I)Z"⟩, 71), (⟨"GuildCharterModel", "layEnds", "(I)V"⟩, 71), (⟨"GuildCharterModel", "doesRead", "(III)Z"⟩, 71), (⟨"GuildCharterModel", "endsBy", "(II)I"⟩, 71)]
theorem lw_r5 : ∀ q ∈ lw_privs_5, lw_okq q := List.forall_mem_cons.mpr ⟨lw_p64, List.forall_mem_cons.mpr ⟨lw_p65, List.forall_mem_cons.mpr ⟨lw_p66, List.forall_mem_cons.mpr ⟨lw_p67, List.forall_mem_cons.mpr ⟨lw_p68, List.forall_mem_cons.mpr ⟨lw_p69, List.forall_mem_cons.mpr ⟨lw_p70, List.forall_mem_cons.mpr ⟨lw_p71, List.forall_mem_cons.mpr ⟨lw_p72, List.forall_mem_cons.mpr ⟨lw_p73, List.forall_mem_cons.mpr ⟨lw_p74, List.forall_mem_cons.mpr ⟨lw_p75, List.forall_mem_cons.mpr ⟨lw_p76, List.forall_mem_cons.mpr ⟨lw_p77, List.forall_mem_cons.mpr ⟨lw_p78, List.forall_mem_cons.mpr ⟨lw_p79, fun _ h => absurd h List.not_mem_nil⟩⟩⟩⟩⟩⟩⟩⟩⟩⟩⟩⟩⟩⟩⟩⟩
theorem lw_p80 : lw_okq (⟨"GuildCharterModel", "readingsOf", "(I)J"⟩, 71) := ⟨⟨by decide +kernel, by decide +kernel⟩, List.mem_of_getElem? (i := 1056) (by decide +kernel), List.mem_of_getElem? (i := 1470) (by decide +kernel), List.mem_of_getElem? (i := 1471) (by decide +kernel)⟩
theorem lw_p81 : lw_okq (⟨"GuildCharterModel", "waysBy", "(III)J"⟩, 71) := ⟨⟨by decide +kernel, by decide +kernel⟩, List.mem_of_getElem? (i := 1056) (by decide +kernel), List.mem_of_getElem? (i := 1474) (by decide +kernel), List.mem_of_getElem? (i := 1475) (by decide +kernel)⟩
theorem lw_p82 : lw_okq (⟨"GuildCharterModel", "meansOf", "(II)I"⟩, 71) := ⟨⟨by decide +kernel, by decide +kernel⟩, List.mem_of_getElem? (i := 1056) (by decide +kernel), List.mem_of_getElem? (i := 1486) (by decide +kernel), List.mem_of_getElem? (i := 1487) (by decide +kernel)⟩
theorem lw_p83 : lw_okq (⟨"GuildCharterModel", "keepAct", "(II)V"⟩, 71) := ⟨⟨by decide +kernel, by decide +kernel⟩, List.mem_of_getElem? (i := 1056) (by decide +kernel), List.mem_of_getElem? (i := 1494) (by decide +kernel), List.mem_of_getElem? (i := 1495) (by decide +kernel)⟩
theorem lw_p84 : lw_okq (⟨"GuildCharterModel", "exchange", "(Z)V"⟩, 71) := ⟨⟨by decide +kernel, by decide +kernel⟩, List.mem_of_getElem? (i := 1056) (by decide +kernel), List.mem_of_getElem? (i := 1506) (by decide +kernel), List.mem_of_getElem? (i := 1507) (by decide +kernel)⟩
theorem lw_p85 : lw_okq (⟨"GuildCharterModel", "layFromRow", "()Z"⟩, 71) := ⟨⟨by decide +kernel, by decide +kernel⟩, List.mem_of_getElem? (i := 1056) (by decide +kernel), List.mem_of_getElem? (i := 1526) (by decide +kernel), List.mem_of_getElem? (i := 1527) (by decide +kernel)⟩
theorem lw_p86 : lw_okq (⟨"GuildCharterModel", "layList", "(IZ)Z"⟩, 71) := ⟨⟨by decide +kernel, by decide +kernel⟩, List.mem_of_getElem? (i := 1056) (by decide +kernel), List.mem_of_getElem? (i := 1530) (by decide +kernel), List.mem_of_getElem? (i := 1531) (by decide +kernel)⟩
theorem lw_p87 : lw_okq (⟨"GuildCharterModel", "keyOf", "(IZ)J"⟩, 71) := ⟨⟨by decide +kernel, by decide +kernel⟩, List.mem_of_getElem? (i := 1056) (by decide +kernel), List.mem_of_getElem? (i := 1534) (by decide +kernel), List.mem_of_getElem? (i := 1535) (by decide +kernel)⟩
theorem lw_p88 : lw_okq (⟨"GuildCharterModel", "isOnPath", "(I)Z"⟩, 71) := ⟨⟨by decide +kernel, by decide +kernel⟩, List.mem_of_getElem? (i := 1056) (by decide +kernel), List.mem_of_getElem? (i := 1540) (by decide +kernel), List.mem_of_getElem? (i := 1541) (by decide +kernel)⟩
theorem lw_p89 : lw_okq (⟨"GuildCharterModel", "takeCharter", "()V"⟩, 71) := ⟨⟨by decide +kernel, by decide +kernel⟩, List.mem_of_getElem? (i := 1056) (by decide +kernel), List.mem_of_getElem? (i := 1544) (by decide +kernel), List.mem_of_getElem? (i := 1545) (by decide +kernel)⟩
theorem lw_p90 : lw_okq (⟨"GuildCharterModel", "packed", "()I"⟩, 71) := ⟨⟨by decide +kernel, by decide +kernel⟩, List.mem_of_getElem? (i := 1056) (by decide +kernel), List.mem_of_getElem? (i := 1548) (by decide +kernel), List.mem_of_getElem? (i := 1549) (by decide +kernel)⟩
theorem lw_p91 : lw_okq (⟨"GuildCharterModel", "turnsNow", "()V"⟩, 71) := ⟨⟨by decide +kernel, by decide +kernel⟩, List.mem_of_getElem? (i := 1056) (by decide +kernel), List.mem_of_getElem? (i := 1552) (by decide +kernel), List.mem_of_getElem? (i := 1553) (by decide +kernel)⟩
theorem lw_p92 : lw_okq (⟨"GuildCharterModel", "plays", "(I)I"⟩, 71) := ⟨⟨by decide +kernel, by decide +kernel⟩, List.mem_of_getElem? (i := 1056) (by decide +kernel), List.mem_of_getElem? (i := 1556) (by decide +kernel), List.mem_of_getElem? (i := 1557) (by decide +kernel)⟩
theorem lw_p93 : lw_okq (⟨"GuildCharterModel", "areGrouped", "(III)Z"⟩, 71) := ⟨⟨by decide +kernel, by decide +kernel⟩, List.mem_of_getElem? (i := 1056) (by decide +kernel), List.mem_of_getElem? (i := 1560) (by decide +kernel), List.mem_of_getElem? (i := 1561) (by decide +kernel)⟩
theorem lw_p94 : lw_okq (⟨"GuildCharterModel", "isBetter", "(IIII)Z"⟩, 71) := ⟨⟨by decide +kernel, by decide +kernel⟩, List.mem_of_getElem? (i := 1056) (by decide +kernel), List.mem_of_getElem? (i := 1564) (by decide +kernel), List.mem_of_getElem? (i := 1565) (by decide +kernel)⟩
theorem lw_p95 : lw_okq (⟨"GuildCharterModel", "gain", "(II)I"⟩, 71) := ⟨⟨by decide +kernel, by decide +kernel⟩, List.mem_of_getElem? (i := 1056) (by decide +kernel), List.mem_of_getElem? (i := 1568) (by decide +kernel), List.mem_of_getElem? (i := 1569) (by decide +kernel)⟩
def lw_privs_6 : List (MethodName × Nat) := [(⟨"GuildCharterModel", "readingsOf", "(I)J"⟩, 71), (⟨"GuildCharterModel", "waysBy", "(III)J"⟩, 71), (⟨"GuildCharterModel", "meansOf", "(II)I"⟩, 71), (⟨"GuildCharterModel", "keepAct", "(II)V"⟩, 71), (⟨"GuildCharterModel", "exchange", "(Z)V"⟩, 71), (⟨"GuildCharterModel", "layFromRow", "()Z"⟩, 71), (⟨"GuildCharterModel", "layList", "(IZ)Z"⟩, 71), (⟨"GuildCharterModel", "keyOf", "(IZ)J"⟩, 71), (⟨"GuildCharterModel", "isOnPath", "(I)Z"⟩, 71), (⟨"GuildCharterModel", "takeCharter", "()V"⟩, 71), (⟨"GuildCharterModel", "packed", "()I"⟩, 71), (⟨"GuildCharterModel", "turnsNow", "()V"⟩, 71), (⟨"GuildCharterModel", "plays", "(I)I"⟩, 71), (⟨"GuildCharterModel", "areGrouped", "(III)Z"⟩, 71), (⟨"GuildCharterModel", "isBetter", "(IIII)Z"⟩, 71), (⟨"GuildCharterModel", "gain", "(II)I"⟩, 71)]
theorem lw_r6 : ∀ q ∈ lw_privs_6, lw_okq q := List.forall_mem_cons.mpr ⟨lw_p80, List.forall_mem_cons.mpr ⟨lw_p81, List.forall_mem_cons.mpr ⟨lw_p82, List.forall_mem_cons.mpr ⟨lw_p83, List.forall_mem_cons.mpr ⟨lw_p84, List.forall_mem_cons.mpr ⟨lw_p85, List.forall_mem_cons.mpr ⟨lw_p86, List.forall_mem_cons.mpr ⟨lw_p87, List.forall_mem_cons.mpr ⟨lw_p88, List.forall_mem_cons.mpr ⟨lw_p89, List.forall_mem_cons.mpr ⟨lw_p90, List.forall_mem_cons.mpr ⟨lw_p91, List.forall_mem_cons.mpr ⟨lw_p92, List.forall_mem_cons.mpr ⟨lw_p93, List.forall_mem_cons.mpr ⟨lw_p94, List.forall_mem_cons.mpr ⟨lw_p95, fun _ h => absurd h List.not_mem_nil⟩⟩⟩⟩⟩⟩⟩⟩⟩⟩⟩⟩⟩⟩⟩⟩
theorem lw_p96 : lw_okq (⟨"GuildCharterModel", "wordIn", "(II)I"⟩, 71) := ⟨⟨by decide +kernel, by decide +kernel⟩, List.mem_of_getElem? (i := 1056) (by decide +kernel), List.mem_of_getElem? (i := 1572) (by decide +kernel), List.mem_of_getElem? (i := 1573) (by decide +kernel)⟩
theorem lw_p97 : lw_okq (⟨"GuildCharterModel", "gainOf", "(II)I"⟩, 71) := ⟨⟨by decide +kernel, by decide +kernel⟩, List.mem_of_getElem? (i := 1056) (by decide +kernel), List.mem_of_getElem? (i := 1576) (by decide +kernel), List.mem_of_getElem? (i := 1577) (by decide +kernel)⟩
theorem lw_p98 : lw_okq (⟨"GuildCharterModel", "lay", "(I)V"⟩, 71) := ⟨⟨by decide +kernel, by decide +kernel⟩, List.mem_of_getElem? (i := 1056) (by decide +kernel), List.mem_of_getElem? (i := 1580) (by decide +kernel), List.mem_of_getElem? (i := 1581) (by decide +kernel)⟩
theorem lw_p99 : lw_okq (⟨"GuildCharterModel", "heldBy", "(I)I"⟩, 71) := ⟨⟨by decide +kernel, by decide +kernel⟩, List.mem_of_getElem? (i := 1056) (by decide +kernel), List.mem_of_getElem? (i := 1588) (by decide +kernel), List.mem_of_getElem? (i := 1589) (by decide +kernel)⟩
theorem lw_p100 : lw_okq (⟨"GuildCharterModel", "layFromNone", "()Z"⟩, 71) := ⟨⟨by decide +kernel, by decide +kernel⟩, List.mem_of_getElem? (i := 1056) (by decide +kernel), List.mem_of_getElem? (i := 1614) (by decide +kernel), List.mem_of_getElem? (i := 1615) (by decide +kernel)⟩
theorem lw_p101 : lw_okq (⟨"GuildCharterModel", "turnsByOrder", "(I)V"⟩, 71) := ⟨⟨by decide +kernel, by decide +kernel⟩, List.mem_of_getElem? (i := 1056) (by decide +kernel), List.mem_of_getElem? (i := 1618) (by decide +kernel), List.mem_of_getElem? (i := 1619) (by decide +kernel)⟩
theorem lw_p102 : lw_okq (⟨"GuildCharterModel", "layShortest", "()V"⟩, 71) := ⟨⟨by decide +kernel, by decide +kernel⟩, List.mem_of_getElem? (i := 1056) (by decide +kernel), List.mem_of_getElem? (i := 1626) (by decide +kernel), List.mem_of_getElem? (i := 1627) (by decide +kernel)⟩
theorem lw_p103 : lw_okq (⟨"GuildCharterModel", "sumOf", "(I)I"⟩, 71) := ⟨⟨by decide +kernel, by decide +kernel⟩, List.mem_of_getElem? (i := 1056) (by decide +kernel), List.mem_of_getElem? (i := 1630) (by decide +kernel), List.mem_of_getElem? (i := 1631) (by decide +kernel)⟩
theorem lw_p104 : lw_okq (⟨"GuildCharterModel", "unpack", "(I)V"⟩, 71) := ⟨⟨by decide +kernel, by decide +kernel⟩, List.mem_of_getElem? (i := 1056) (by decide +kernel), List.mem_of_getElem? (i := 1643) (by decide +kernel), List.mem_of_getElem? (i := 1644) (by decide +kernel)⟩
theorem lw_p105 : lw_okq (⟨"GuildCharterModel", "tryWithout", "(I)V"⟩, 71) := ⟨⟨by decide +kernel, by decide +kernel⟩, List.mem_of_getElem? (i := 1056) (by decide +kernel), List.mem_of_getElem? (i := 1664) (by decide +kernel), List.mem_of_getElem? (i := 1665) (by decide +kernel)⟩
theorem lw_p106 : lw_okq (⟨"GuildCharterModel", "isSo", "(II)Z"⟩, 71) := ⟨⟨by decide +kernel, by decide +kernel⟩, List.mem_of_getElem? (i := 1056) (by decide +kernel), List.mem_of_getElem? (i := 1685) (by decide +kernel), List.mem_of_getElem? (i := 1686) (by decide +kernel)⟩
def lw_privs_7 : List (MethodName × Nat) := [(⟨"GuildCharterModel", "wordIn", "(II)I"⟩, 71), (⟨"GuildCharterModel", "gainOf", "(II)I"⟩, 71), (⟨"GuildCharterModel", "lay", "(I)V"⟩, 71), (⟨"GuildCharterModel", "heldBy", "(I)I"⟩, 71), (⟨"GuildCharterModel", "layFromNone", "()Z"⟩, 71), (⟨"GuildCharterModel", "turnsByOrder", "(I)V"⟩, 71), (⟨"GuildCharterModel", "layShortest", "()V"⟩, 71), (⟨"GuildCharterModel", "sumOf", "(I)I"⟩, 71), (⟨"GuildCharterModel", "unpack", "(I)V"⟩, 71), (⟨"GuildCharterModel", "tryWithout", "(I)V"⟩, 71), (⟨"GuildCharterModel", "isSo", "(II)Z"⟩, 71)]
theorem lw_r7 : ∀ q ∈ lw_privs_7, lw_okq q := List.forall_mem_cons.mpr ⟨lw_p96, List.forall_mem_cons.mpr ⟨lw_p97, List.forall_mem_cons.mpr ⟨lw_p98, List.forall_mem_cons.mpr ⟨lw_p99, List.forall_mem_cons.mpr ⟨lw_p100, List.forall_mem_cons.mpr ⟨lw_p101, List.forall_mem_cons.mpr ⟨lw_p102, List.forall_mem_cons.mpr ⟨lw_p103, List.forall_mem_cons.mpr ⟨lw_p104, List.forall_mem_cons.mpr ⟨lw_p105, List.forall_mem_cons.mpr ⟨lw_p106, fun _ h => absurd h List.not_mem_nil⟩⟩⟩⟩⟩⟩⟩⟩⟩⟩⟩
def lw_privs : List (MethodName × Nat) := lw_privs_1 ++ (lw_privs_2 ++ (lw_privs_3 ++ (lw_privs_4 ++ (lw_privs_5 ++ (lw_privs_6 ++ (lw_privs_7))))))
def lw_tbl : List Cond := k2_sels lw_privs ++ tables_1
theorem lw_privs_ok : ∀ q ∈ lw_privs, lw_okq q := by
  show ∀ q ∈ lw_privs_1 ++ (lw_privs_2 ++ (lw_privs_3 ++ (lw_privs_4 ++ (lw_privs_5 ++ (lw_privs_6 ++ (lw_privs_7)))))), lw_okq q
  exact List.forall_mem_append.mpr ⟨lw_r1, List.forall_mem_append.mpr ⟨lw_r2, List.forall_mem_append.mpr ⟨lw_r3, List.forall_mem_append.mpr ⟨lw_r4, List.forall_mem_append.mpr ⟨lw_r5, List.forall_mem_append.mpr ⟨lw_r6, lw_r7⟩⟩⟩⟩⟩⟩
end
section
def RX0 : String := "GuildCharter$Earnest"
def TX0 : u_T := fun k => match k with
  | 0 => ("GuildCharter$Earnest", "row", "[I", true)
  | 1 => ("GuildCharter$Earnest", "size", "I", false)
  | 2 => ("GuildCharter$Earnest", "sold", "[I", true)
  | 3 => ("GuildCharter$Earnest", "sales", "[Z", true)
  | 4 => ("GuildCharter$Earnest", "places", "[I", true)
  | 5 => ("GuildCharter$Earnest", "befores", "[I", true)
  | 6 => ("GuildCharter$Earnest", "afters", "[I", true)
  | 7 => ("GuildCharter$Earnest", "done", "I", false)
  | _ => ("GuildCharter$Earnest", "kept", "I", false)
def tyX0 : Nat → FieldType := fun k => match k with
  | 0 => .array .int
  | 1 => .int
  | 2 => .array .int
  | 3 => .array .boolean
  | 4 => .array .int
  | 5 => .array .int
  | 6 => .array .int
  | 7 => .int
  | _ => .int
abbrev wsX00 : List Cond := u_ws RX0 TX0 9
theorem nmX0 : ∀ a, a < 9 → ∀ b, b < 9 → a ≠ b → (TX0 a).2.1 ≠ (TX0 b).2.1 := by decide +kernel
theorem tyX0_ok : ∀ k, k < 9 → parseFieldDescriptor (TX0 k).2.2.1 = some (tyX0 k) := by decide +kernel
abbrev cX0_init : ByteArray := prog_2_method_1_code
def yX0_init : MethodName := ⟨RX0, "<init>", "()V"⟩
abbrev cX0_empty : ByteArray := prog_2_method_2_code
def yX0_empty : MethodName := ⟨RX0, "empty", "()V"⟩
abbrev cX0_forgetActs : ByteArray := prog_2_method_3_code
def yX0_forgetActs : MethodName := ⟨RX0, "forgetActs", "()V"⟩
abbrev cX0_putWord : ByteArray := prog_2_method_4_code
def yX0_putWord : MethodName := ⟨RX0, "putWord", "(I)V"⟩
abbrev cX0_putSale : ByteArray := prog_2_method_5_code
def yX0_putSale : MethodName := ⟨RX0, "putSale", "(II)V"⟩
abbrev cX0_note : ByteArray := prog_2_method_6_code
def yX0_note : MethodName := ⟨RX0, "note", "(ZIII)V"⟩
abbrev cX0_dropOldest : ByteArray := prog_2_method_7_code
def yX0_dropOldest : MethodName := ⟨RX0, "dropOldest", "()V"⟩
abbrev cX0_takeBack : ByteArray := prog_2_method_8_code
def yX0_takeBack : MethodName := ⟨RX0, "takeBack", "()Z"⟩
abbrev cX0_doAgain : ByteArray := prog_2_method_9_code
def yX0_doAgain : MethodName := ⟨RX0, "doAgain", "()Z"⟩
abbrev cX0_rowWithout : ByteArray := prog_2_method_10_code
def yX0_rowWithout : MethodName := ⟨RX0, "rowWithout", "(I[I)I"⟩
def RX1 : String := "GuildCharter$Image"
def TX1 : u_T := fun k => match k with
  | 0 => ("GuildCharter$Image", "full", "Z", false)
  | 1 => ("GuildCharter$Image", "row", "[I", true)
  | 2 => ("GuildCharter$Image", "size", "I", false)
  | _ => ("GuildCharter$Image", "sold", "[I", true)
def tyX1 : Nat → FieldType := fun k => match k with
  | 0 => .boolean
  | 1 => .array .int
  | 2 => .int
  | _ => .array .int
abbrev wsX10 : List Cond := u_ws RX1 TX1 4
theorem nmX1 : ∀ a, a < 4 → ∀ b, b < 4 → a ≠ b → (TX1 a).2.1 ≠ (TX1 b).2.1 := by decide +kernel
theorem tyX1_ok : ∀ k, k < 4 → parseFieldDescriptor (TX1 k).2.2.1 = some (tyX1 k) := by decide +kernel
abbrev cX1_init : ByteArray := prog_3_method_1_code
def yX1_init : MethodName := ⟨RX1, "<init>", "()V"⟩
abbrev cX1_keep : ByteArray := prog_3_method_2_code
def yX1_keep : MethodName := ⟨RX1, "keep", "(LGuildCharter$Earnest;)V"⟩
abbrev cX1_giveBack : ByteArray := prog_3_method_3_code
def yX1_giveBack : MethodName := ⟨RX1, "giveBack", "(LGuildCharter$Earnest;)V"⟩
def RX2 : String := "GuildCharter$Parser"
def TX2 : u_T := fun k => match k with
  | 0 => ("GuildCharter$Parser", "tokens", "LGuildCharter$Tokens;", true)
  | 1 => ("GuildCharter$Parser", "port", "LGuildCharter$Port;", false)
  | 2 => ("GuildCharter$Parser", "partNames", "[J", true)
  | _ => ("GuildCharter$Parser", "partPlaces", "[I", true)
def tyX2 : Nat → FieldType := fun k => match k with
  | 0 => .object "GuildCharter$Tokens"
  | 1 => .object "GuildCharter$Port"
  | 2 => .array .long
  | _ => .array .int
abbrev wsX20 : List Cond := u_ws RX2 TX2 4
theorem nmX2 : ∀ a, a < 4 → ∀ b, b < 4 → a ≠ b → (TX2 a).2.1 ≠ (TX2 b).2.1 := by decide +kernel
theorem tyX2_ok : ∀ k, k < 4 → parseFieldDescriptor (TX2 k).2.2.1 = some (tyX2 k) := by decide +kernel
abbrev cX2_init : ByteArray := prog_4_method_1_code
def yX2_init : MethodName := ⟨RX2, "<init>", "()V"⟩
abbrev cX2_readsInto : ByteArray := prog_4_method_2_code
def yX2_readsInto : MethodName := ⟨RX2, "readsInto", "(LGuildCharter$Port;[BI)Z"⟩
abbrev cX2_pass : ByteArray := prog_4_method_3_code
def yX2_pass : MethodName := ⟨RX2, "pass", "(I)Z"⟩
abbrev cX2_passFirst : ByteArray := prog_4_method_4_code
def yX2_passFirst : MethodName := ⟨RX2, "passFirst", "(Z)Z"⟩
abbrev cX2_readWord : ByteArray := prog_4_method_5_code
def yX2_readWord : MethodName := ⟨RX2, "readWord", "()Z"⟩
abbrev cX2_passNewName : ByteArray := prog_4_method_6_code
def yX2_passNewName : MethodName := ⟨RX2, "passNewName", "()Z"⟩
abbrev cX2_readWorths : ByteArray := prog_4_method_7_code
def yX2_readWorths : MethodName := ⟨RX2, "readWorths", "([II)Z"⟩
abbrev cX2_passNumber : ByteArray := prog_4_method_8_code
def yX2_passNumber : MethodName := ⟨RX2, "passNumber", "(II)Z"⟩
abbrev cX2_readPair : ByteArray := prog_4_method_9_code
def yX2_readPair : MethodName := ⟨RX2, "readPair", "()Z"⟩
abbrev cX2_symbolAtHand : ByteArray := prog_4_method_10_code
def yX2_symbolAtHand : MethodName := ⟨RX2, "symbolAtHand", "()I"⟩
abbrev cX2_passPairName : ByteArray := prog_4_method_11_code
def yX2_passPairName : MethodName := ⟨RX2, "passPairName", "(IZ)Z"⟩
abbrev cX2_readRule : ByteArray := prog_4_method_12_code
def yX2_readRule : MethodName := ⟨RX2, "readRule", "()Z"⟩
abbrev cX2_readAlt : ByteArray := prog_4_method_13_code
def yX2_readAlt : MethodName := ⟨RX2, "readAlt", "()Z"⟩
abbrev cX2_readLength : ByteArray := prog_4_method_14_code
def yX2_readLength : MethodName := ⟨RX2, "readLength", "()Z"⟩
abbrev cX2_readTurns : ByteArray := prog_4_method_15_code
def yX2_readTurns : MethodName := ⟨RX2, "readTurns", "()Z"⟩
abbrev cX2_bindParts : ByteArray := prog_4_method_16_code
def yX2_bindParts : MethodName := ⟨RX2, "bindParts", "()Z"⟩
abbrev cX2_bindAlt : ByteArray := prog_4_method_17_code
def yX2_bindAlt : MethodName := ⟨RX2, "bindAlt", "(II)Z"⟩
def RX3 : String := "GuildCharter$Play"
def TX3 : u_T := fun k => match k with
  | 0 => ("GuildCharter$Play", "owners", "[I", true)
  | 1 => ("GuildCharter$Play", "results", "[I", true)
  | 2 => ("GuildCharter$Play", "lotEnds", "[I", true)
  | 3 => ("GuildCharter$Play", "lotsKnown", "Z", false)
  | 4 => ("GuildCharter$Play", "bribed", "I", false)
  | 5 => ("GuildCharter$Play", "bribedPlace", "I", false)
  | 6 => ("GuildCharter$Play", "bribedWord", "I", false)
  | 7 => ("GuildCharter$Play", "bribe", "I", false)
  | _ => ("GuildCharter$Play", "nextBribe", "I", false)
def tyX3 : Nat → FieldType := fun k => match k with
  | 0 => .array .int
  | 1 => .array .int
  | 2 => .array .int
  | 3 => .boolean
  | 4 => .int
  | 5 => .int
  | 6 => .int
  | 7 => .int
  | _ => .int
abbrev wsX30 : List Cond := u_ws RX3 TX3 9
theorem nmX3 : ∀ a, a < 9 → ∀ b, b < 9 → a ≠ b → (TX3 a).2.1 ≠ (TX3 b).2.1 := by decide +kernel
theorem tyX3_ok : ∀ k, k < 9 → parseFieldDescriptor (TX3 k).2.2.1 = some (tyX3 k) := by decide +kernel
abbrev cX3_init : ByteArray := prog_5_method_1_code
def yX3_init : MethodName := ⟨RX3, "<init>", "()V"⟩
abbrev cX3_forget : ByteArray := prog_5_method_2_code
def yX3_forget : MethodName := ⟨RX3, "forget", "()V"⟩
abbrev cX3_findLotEnds : ByteArray := prog_5_method_3_code
def yX3_findLotEnds : MethodName := ⟨RX3, "findLotEnds", "(LGuildCharter$Tree;)V"⟩
abbrev cX3_endOf : ByteArray := prog_5_method_4_code
def yX3_endOf : MethodName := ⟨RX3, "endOf", "(LGuildCharter$Tree;)I"⟩
abbrev cX3_clearResults : ByteArray := prog_5_method_5_code
def yX3_clearResults : MethodName := ⟨RX3, "clearResults", "(II)V"⟩
abbrev cX3_offer : ByteArray := prog_5_method_6_code
def yX3_offer : MethodName := ⟨RX3, "offer", "(LGuildCharter$Tree;II)V"⟩
abbrev cX3_worthTo : ByteArray := prog_5_method_7_code
def yX3_worthTo : MethodName := ⟨RX3, "worthTo", "(LGuildCharter$Tree;II)I"⟩
abbrev cX3_isBribed : ByteArray := prog_5_method_8_code
def yX3_isBribed : MethodName := ⟨RX3, "isBribed", "(LGuildCharter$Tree;I)Z"⟩
abbrev cX3_leastBribe : ByteArray := prog_5_method_9_code
def yX3_leastBribe : MethodName := ⟨RX3, "leastBribe", "(LGuildCharter$Tree;II)I"⟩
abbrev cX3_firstSwap : ByteArray := prog_5_method_10_code
def yX3_firstSwap : MethodName := ⟨RX3, "firstSwap", "(LGuildCharter$Tree;I)I"⟩
abbrev cX3_meansMore : ByteArray := prog_5_method_11_code
def yX3_meansMore : MethodName := ⟨RX3, "meansMore", "(LGuildCharter$Tree;III)Z"⟩
abbrev cX3_heldBy : ByteArray := prog_5_method_12_code
def yX3_heldBy : MethodName := ⟨RX3, "heldBy", "(LGuildCharter$Tree;I)I"⟩
abbrev cX3_sumOf : ByteArray := prog_5_method_13_code
def yX3_sumOf : MethodName := ⟨RX3, "sumOf", "(LGuildCharter$Tree;II)I"⟩
abbrev cX3_better : ByteArray := prog_5_method_14_code
def yX3_better : MethodName := ⟨RX3, "better", "(IIZ)I"⟩
def RX4 : String := "GuildCharter$Port"
def TX4 : u_T := fun k => match k with
  | 0 => ("GuildCharter$Port", "words", "I", false)
  | 1 => ("GuildCharter$Port", "wordNames", "[J", true)
  | 2 => ("GuildCharter$Port", "worths", "[I", true)
  | 3 => ("GuildCharter$Port", "pairs", "I", false)
  | 4 => ("GuildCharter$Port", "paired", "[Z", true)
  | 5 => ("GuildCharter$Port", "pairWorths", "[I", true)
  | 6 => ("GuildCharter$Port", "rules", "I", false)
  | 7 => ("GuildCharter$Port", "ruleNames", "[J", true)
  | 8 => ("GuildCharter$Port", "firstAlts", "[I", true)
  | 9 => ("GuildCharter$Port", "alts", "I", false)
  | 10 => ("GuildCharter$Port", "altSizes", "[I", true)
  | 11 => ("GuildCharter$Port", "altParts", "[I", true)
  | 12 => ("GuildCharter$Port", "length", "I", false)
  | 13 => ("GuildCharter$Port", "lengthTold", "Z", false)
  | 14 => ("GuildCharter$Port", "turnCount", "I", false)
  | _ => ("GuildCharter$Port", "turns", "[I", true)
def tyX4 : Nat → FieldType := fun k => match k with
  | 0 => .int
  | 1 => .array .long
  | 2 => .array .int
  | 3 => .int
  | 4 => .array .boolean
  | 5 => .array .int
  | 6 => .int
  | 7 => .array .long
  | 8 => .array .int
  | 9 => .int
  | 10 => .array .int
  | 11 => .array .int
  | 12 => .int
  | 13 => .boolean
  | 14 => .int
  | _ => .array .int
abbrev wsX40 : List Cond := u_ws RX4 TX4 16
theorem nmX4 : ∀ a, a < 16 → ∀ b, b < 16 → a ≠ b → (TX4 a).2.1 ≠ (TX4 b).2.1 := by decide +kernel
theorem tyX4_ok : ∀ k, k < 16 → parseFieldDescriptor (TX4 k).2.2.1 = some (tyX4 k) := by decide +kernel
abbrev cX4_init : ByteArray := prog_6_method_1_code
def yX4_init : MethodName := ⟨RX4, "<init>", "()V"⟩
abbrev cX4_empty : ByteArray := prog_6_method_2_code
def yX4_empty : MethodName := ⟨RX4, "empty", "()V"⟩
abbrev cX4_hasWord : ByteArray := prog_6_method_3_code
def yX4_hasWord : MethodName := ⟨RX4, "hasWord", "(I)Z"⟩
abbrev cX4_hasPlace : ByteArray := prog_6_method_4_code
def yX4_hasPlace : MethodName := ⟨RX4, "hasPlace", "(I)Z"⟩
abbrev cX4_turnAt : ByteArray := prog_6_method_5_code
def yX4_turnAt : MethodName := ⟨RX4, "turnAt", "(I)I"⟩
abbrev cX4_symbolOf : ByteArray := prog_6_method_6_code
def yX4_symbolOf : MethodName := ⟨RX4, "symbolOf", "(J)I"⟩
abbrev cX4_meaningOf : ByteArray := prog_6_method_7_code
def yX4_meaningOf : MethodName := ⟨RX4, "meaningOf", "([III)I"⟩
abbrev cX4_meaningBehind : ByteArray := prog_6_method_8_code
def yX4_meaningBehind : MethodName := ⟨RX4, "meaningBehind", "(III)I"⟩
abbrev cX4_findShortest : ByteArray := prog_6_method_9_code
def yX4_findShortest : MethodName := ⟨RX4, "findShortest", "([I)V"⟩
abbrev cX4_sizeOfAlt : ByteArray := prog_6_method_10_code
def yX4_sizeOfAlt : MethodName := ⟨RX4, "sizeOfAlt", "(I[I)I"⟩
abbrev cX4_rulesOfUse : ByteArray := prog_6_method_11_code
def yX4_rulesOfUse : MethodName := ⟨RX4, "rulesOfUse", "([I)I"⟩
abbrev cX4_rulesNextTo : ByteArray := prog_6_method_12_code
def yX4_rulesNextTo : MethodName := ⟨RX4, "rulesNextTo", "(I[I)I"⟩
def RX5 : String := "GuildCharter$Reader"
def TX5 : u_T := fun k => match k with
  | 0 => ("GuildCharter$Reader", "columns", "[J", true)
  | _ => ("GuildCharter$Reader", "choices", "[J", true)
def tyX5 : Nat → FieldType := fun k => match k with
  | 0 => .array .long
  | _ => .array .long
abbrev wsX50 : List Cond := u_ws RX5 TX5 2
theorem nmX5 : ∀ a, a < 2 → ∀ b, b < 2 → a ≠ b → (TX5 a).2.1 ≠ (TX5 b).2.1 := by decide +kernel
theorem tyX5_ok : ∀ k, k < 2 → parseFieldDescriptor (TX5 k).2.2.1 = some (tyX5 k) := by decide +kernel
abbrev cX5_init : ByteArray := prog_7_method_1_code
def yX5_init : MethodName := ⟨RX5, "<init>", "()V"⟩
abbrev cX5_readBeginning : ByteArray := prog_7_method_2_code
def yX5_readBeginning : MethodName := ⟨RX5, "readBeginning", "(LGuildCharter$Port;[II)V"⟩
abbrev cX5_nextWords : ByteArray := prog_7_method_3_code
def yX5_nextWords : MethodName := ⟨RX5, "nextWords", "(LGuildCharter$Port;I)I"⟩
abbrev cX5_goOn : ByteArray := prog_7_method_4_code
def yX5_goOn : MethodName := ⟨RX5, "goOn", "(II)V"⟩
abbrev cX5_fillColumn : ByteArray := prog_7_method_5_code
def yX5_fillColumn : MethodName := ⟨RX5, "fillColumn", "(LGuildCharter$Port;IIZ)V"⟩
abbrev cX5_beginColumn : ByteArray := prog_7_method_6_code
def yX5_beginColumn : MethodName := ⟨RX5, "beginColumn", "(IIZ)V"⟩
abbrev cX5_startsOfAlt : ByteArray := prog_7_method_7_code
def yX5_startsOfAlt : MethodName := ⟨RX5, "startsOfAlt", "(LGuildCharter$Port;II)J"⟩
def RX6 : String := "GuildCharter$Sightings"
def TX6 : u_T := fun k => match k with
  | 0 => ("GuildCharter$Sightings", "count", "I", false)
  | 1 => ("GuildCharter$Sightings", "time", "I", false)
  | 2 => ("GuildCharter$Sightings", "places", "[I", true)
  | 3 => ("GuildCharter$Sightings", "words", "[I", true)
  | 4 => ("GuildCharter$Sightings", "stoods", "[Z", true)
  | 5 => ("GuildCharter$Sightings", "toldAt", "[I", true)
  | _ => ("GuildCharter$Sightings", "untoldAt", "[I", true)
def tyX6 : Nat → FieldType := fun k => match k with
  | 0 => .int
  | 1 => .int
  | 2 => .array .int
  | 3 => .array .int
  | 4 => .array .boolean
  | 5 => .array .int
  | _ => .array .int
abbrev wsX60 : List Cond := u_ws RX6 TX6 7
theorem nmX6 : ∀ a, a < 7 → ∀ b, b < 7 → a ≠ b → (TX6 a).2.1 ≠ (TX6 b).2.1 := by decide +kernel
theorem tyX6_ok : ∀ k, k < 7 → parseFieldDescriptor (TX6 k).2.2.1 = some (tyX6 k) := by decide +kernel
abbrev cX6_init : ByteArray := prog_8_method_1_code
def yX6_init : MethodName := ⟨RX6, "<init>", "()V"⟩
abbrev cX6_tell : ByteArray := prog_8_method_2_code
def yX6_tell : MethodName := ⟨RX6, "tell", "(IIZ)I"⟩
abbrev cX6_takeBack : ByteArray := prog_8_method_3_code
def yX6_takeBack : MethodName := ⟨RX6, "takeBack", "(I)Z"⟩
abbrev cX6_agree : ByteArray := prog_8_method_4_code
def yX6_agree : MethodName := ⟨RX6, "agree", "(LGuildCharter$Tree;II)Z"⟩
def RX7 : String := "GuildCharter$Tally"
def TX7 : u_T := fun k => match k with
  | 0 => ("GuildCharter$Tally", "row", "[I", true)
  | 1 => ("GuildCharter$Tally", "size", "I", false)
  | _ => ("GuildCharter$Tally", "ways", "[I", true)
def tyX7 : Nat → FieldType := fun k => match k with
  | 0 => .array .int
  | 1 => .int
  | _ => .array .int
abbrev wsX70 : List Cond := u_ws RX7 TX7 3
theorem nmX7 : ∀ a, a < 3 → ∀ b, b < 3 → a ≠ b → (TX7 a).2.1 ≠ (TX7 b).2.1 := by decide +kernel
theorem tyX7_ok : ∀ k, k < 3 → parseFieldDescriptor (TX7 k).2.2.1 = some (tyX7 k) := by decide +kernel
abbrev cX7_init : ByteArray := prog_9_method_1_code
def yX7_init : MethodName := ⟨RX7, "<init>", "()V"⟩
abbrev cX7_forget : ByteArray := prog_9_method_2_code
def yX7_forget : MethodName := ⟨RX7, "forget", "()V"⟩
abbrev cX7_countOf : ByteArray := prog_9_method_3_code
def yX7_countOf : MethodName := ⟨RX7, "countOf", "(LGuildCharter$Port;[II)I"⟩
abbrev cX7_fillColumn : ByteArray := prog_9_method_4_code
def yX7_fillColumn : MethodName := ⟨RX7, "fillColumn", "(LGuildCharter$Port;I)V"⟩
abbrev cX7_waysOfAlt : ByteArray := prog_9_method_5_code
def yX7_waysOfAlt : MethodName := ⟨RX7, "waysOfAlt", "(LGuildCharter$Port;IIII)I"⟩
def RX8 : String := "GuildCharter$Tokens"
def TX8 : u_T := fun k => match k with
  | 0 => ("GuildCharter$Tokens", "keyNames", "[J", true)
  | 1 => ("GuildCharter$Tokens", "text", "[B", false)
  | 2 => ("GuildCharter$Tokens", "size", "I", false)
  | 3 => ("GuildCharter$Tokens", "behind", "I", false)
  | 4 => ("GuildCharter$Tokens", "place", "I", false)
  | 5 => ("GuildCharter$Tokens", "kind", "I", false)
  | 6 => ("GuildCharter$Tokens", "name", "J", false)
  | 7 => ("GuildCharter$Tokens", "number", "I", false)
  | 8 => ("GuildCharter$Tokens", "fault", "I", false)
  | _ => ("GuildCharter$Tokens", "faultPlace", "I", false)
def tyX8 : Nat → FieldType := fun k => match k with
  | 0 => .array .long
  | 1 => .array .byte
  | 2 => .int
  | 3 => .int
  | 4 => .int
  | 5 => .int
  | 6 => .long
  | 7 => .int
  | 8 => .int
  | _ => .int
abbrev wsX80 : List Cond := u_ws RX8 TX8 10
theorem nmX8 : ∀ a, a < 10 → ∀ b, b < 10 → a ≠ b → (TX8 a).2.1 ≠ (TX8 b).2.1 := by decide +kernel
theorem tyX8_ok : ∀ k, k < 10 → parseFieldDescriptor (TX8 k).2.2.1 = some (tyX8 k) := by decide +kernel
abbrev cX8_init : ByteArray := prog_10_method_1_code
def yX8_init : MethodName := ⟨RX8, "<init>", "()V"⟩
abbrev cX8_packed : ByteArray := prog_10_method_2_code
def yX8_packed : MethodName := ⟨RX8, "packed", "(Ljava/lang/String;)J"⟩
abbrev cX8_begin : ByteArray := prog_10_method_3_code
def yX8_begin : MethodName := ⟨RX8, "begin", "([BI)V"⟩
abbrev cX8_refuse : ByteArray := prog_10_method_4_code
def yX8_refuse : MethodName := ⟨RX8, "refuse", "(I)Z"⟩
abbrev cX8_advance : ByteArray := prog_10_method_5_code
def yX8_advance : MethodName := ⟨RX8, "advance", "()V"⟩
abbrev cX8_takeLetters : ByteArray := prog_10_method_6_code
def yX8_takeLetters : MethodName := ⟨RX8, "takeLetters", "()V"⟩
abbrev cX8_takeDigits : ByteArray := prog_10_method_7_code
def yX8_takeDigits : MethodName := ⟨RX8, "takeDigits", "()V"⟩
def RX9 : String := "GuildCharter$Tree"
def TX9 : u_T := fun k => match k with
  | 0 => ("GuildCharter$Tree", "size", "I", false)
  | 1 => ("GuildCharter$Tree", "spent", "Z", false)
  | 2 => ("GuildCharter$Tree", "parents", "[I", true)
  | 3 => ("GuildCharter$Tree", "depths", "[I", true)
  | 4 => ("GuildCharter$Tree", "meanings", "[I", true)
  | 5 => ("GuildCharter$Tree", "rows", "[I", true)
  | 6 => ("GuildCharter$Tree", "length", "I", false)
  | 7 => ("GuildCharter$Tree", "grown", "Z", false)
  | 8 => ("GuildCharter$Tree", "rootRow", "I", false)
  | 9 => ("GuildCharter$Tree", "rootDepth", "I", false)
  | _ => ("GuildCharter$Tree", "holes", "I", false)
def tyX9 : Nat → FieldType := fun k => match k with
  | 0 => .int
  | 1 => .boolean
  | 2 => .array .int
  | 3 => .array .int
  | 4 => .array .int
  | 5 => .array .int
  | 6 => .int
  | 7 => .boolean
  | 8 => .int
  | 9 => .int
  | _ => .int
abbrev wsX90 : List Cond := u_ws RX9 TX9 11
theorem nmX9 : ∀ a, a < 11 → ∀ b, b < 11 → a ≠ b → (TX9 a).2.1 ≠ (TX9 b).2.1 := by decide +kernel
theorem tyX9_ok : ∀ k, k < 11 → parseFieldDescriptor (TX9 k).2.2.1 = some (tyX9 k) := by decide +kernel
abbrev cX9_init : ByteArray := prog_11_method_1_code
def yX9_init : MethodName := ⟨RX9, "<init>", "()V"⟩
abbrev cX9_forget : ByteArray := prog_11_method_2_code
def yX9_forget : MethodName := ⟨RX9, "forget", "()V"⟩
abbrev cX9_growFrom : ByteArray := prog_11_method_3_code
def yX9_growFrom : MethodName := ⟨RX9, "growFrom", "(LGuildCharter$Port;LGuildCharter$Reader;[III)V"⟩
abbrev cX9_addRoot : ByteArray := prog_11_method_4_code
def yX9_addRoot : MethodName := ⟨RX9, "addRoot", "(LGuildCharter$Port;[I)V"⟩
abbrev cX9_grow : ByteArray := prog_11_method_5_code
def yX9_grow : MethodName := ⟨RX9, "grow", "(LGuildCharter$Port;LGuildCharter$Reader;I)V"⟩
abbrev cX9_growBehind : ByteArray := prog_11_method_6_code
def yX9_growBehind : MethodName := ⟨RX9, "growBehind", "(LGuildCharter$Port;LGuildCharter$Reader;II)V"⟩
abbrev cX9_add : ByteArray := prog_11_method_7_code
def yX9_add : MethodName := ⟨RX9, "add", "(LGuildCharter$Port;II)V"⟩
abbrev cX9_hasCharters : ByteArray := prog_11_method_8_code
def yX9_hasCharters : MethodName := ⟨RX9, "hasCharters", "()Z"⟩
abbrev cX9_isCharter : ByteArray := prog_11_method_9_code
def yX9_isCharter : MethodName := ⟨RX9, "isCharter", "(I)Z"⟩
abbrev cX9_wordAt : ByteArray := prog_11_method_10_code
def yX9_wordAt : MethodName := ⟨RX9, "wordAt", "(II)I"⟩
abbrev cX9_wordsInto : ByteArray := prog_11_method_11_code
def yX9_wordsInto : MethodName := ⟨RX9, "wordsInto", "(I[I)V"⟩
def RX10 : String := "GuildCharter"
def TX10 : u_T := fun k => match k with
  | 0 => ("GuildCharter", "tape", "[B", true)
  | 1 => ("GuildCharter", "tapeSize", "I", false)
  | 2 => ("GuildCharter", "parser", "LGuildCharter$Parser;", true)
  | 3 => ("GuildCharter", "told", "LGuildCharter$Port;", false)
  | 4 => ("GuildCharter", "spare", "LGuildCharter$Port;", false)
  | 5 => ("GuildCharter", "earnest", "LGuildCharter$Earnest;", true)
  | 6 => ("GuildCharter", "boxes", "[LGuildCharter$Image;", true)
  | 7 => ("GuildCharter", "reader", "LGuildCharter$Reader;", true)
  | 8 => ("GuildCharter", "tally", "LGuildCharter$Tally;", true)
  | 9 => ("GuildCharter", "play", "LGuildCharter$Play;", true)
  | 10 => ("GuildCharter", "wholeTree", "LGuildCharter$Tree;", true)
  | 11 => ("GuildCharter", "earnestTree", "LGuildCharter$Tree;", true)
  | 12 => ("GuildCharter", "holeTree", "LGuildCharter$Tree;", true)
  | 13 => ("GuildCharter", "holes", "I", false)
  | 14 => ("GuildCharter", "sightings", "LGuildCharter$Sightings;", true)
  | 15 => ("GuildCharter", "lying", "[I", true)
  | 16 => ("GuildCharter", "lyingSize", "I", false)
  | _ => ("GuildCharter", "scratch", "[I", true)
def tyX10 : Nat → FieldType := fun k => match k with
  | 0 => .array .byte
  | 1 => .int
  | 2 => .object "GuildCharter$Parser"
  | 3 => .object "GuildCharter$Port"
  | 4 => .object "GuildCharter$Port"
  | 5 => .object "GuildCharter$Earnest"
  | 6 => .array (.object "GuildCharter$Image")
  | 7 => .object "GuildCharter$Reader"
  | 8 => .object "GuildCharter$Tally"
  | 9 => .object "GuildCharter$Play"
  | 10 => .object "GuildCharter$Tree"
  | 11 => .object "GuildCharter$Tree"
  | 12 => .object "GuildCharter$Tree"
  | 13 => .int
  | 14 => .object "GuildCharter$Sightings"
  | 15 => .array .int
  | 16 => .int
  | _ => .array .int
abbrev wsX100 : List Cond := u_ws RX10 TX10 18
theorem nmX10 : ∀ a, a < 18 → ∀ b, b < 18 → a ≠ b → (TX10 a).2.1 ≠ (TX10 b).2.1 := by decide +kernel
theorem tyX10_ok : ∀ k, k < 18 → parseFieldDescriptor (TX10 k).2.2.1 = some (tyX10 k) := by decide +kernel
abbrev cX10_init : ByteArray := prog_1_method_1_code
def yX10_init : MethodName := ⟨RX10, "<init>", "()V"⟩
abbrev cX10_feed : ByteArray := prog_1_method_2_code
def yX10_feed : MethodName := ⟨RX10, "feed", "(IIIII)I"⟩
abbrev cX10_tapeNumber : ByteArray := prog_1_method_3_code
def yX10_tapeNumber : MethodName := ⟨RX10, "tapeNumber", "(I)V"⟩
abbrev cX10_end : ByteArray := prog_1_method_4_code
def yX10_end : MethodName := ⟨RX10, "end", "(I)I"⟩
abbrev cX10_port : ByteArray := prog_1_method_5_code
def yX10_port : MethodName := ⟨RX10, "port", "()I"⟩
abbrev cX10_forgetOldPort : ByteArray := prog_1_method_6_code
def yX10_forgetOldPort : MethodName := ⟨RX10, "forgetOldPort", "()V"⟩
abbrev cX10_fault : ByteArray := prog_1_method_7_code
def yX10_fault : MethodName := ⟨RX10, "fault", "(I)I"⟩
abbrev cX10_worth : ByteArray := prog_1_method_8_code
def yX10_worth : MethodName := ⟨RX10, "worth", "(II)I"⟩
abbrev cX10_behind : ByteArray := prog_1_method_9_code
def yX10_behind : MethodName := ⟨RX10, "behind", "(III)I"⟩
abbrev cX10_turn : ByteArray := prog_1_method_10_code
def yX10_turn : MethodName := ⟨RX10, "turn", "(I)I"⟩
abbrev cX10_ownerInEarnest : ByteArray := prog_1_method_11_code
def yX10_ownerInEarnest : MethodName := ⟨RX10, "ownerInEarnest", "(I)I"⟩
abbrev cX10_isGuild : ByteArray := prog_1_method_12_code
def yX10_isGuild : MethodName := ⟨RX10, "isGuild", "(I)Z"⟩
abbrev cX10_write : ByteArray := prog_1_method_13_code
def yX10_write : MethodName := ⟨RX10, "write", "(I)I"⟩
abbrev cX10_sell : ByteArray := prog_1_method_14_code
def yX10_sell : MethodName := ⟨RX10, "sell", "(II)I"⟩
abbrev cX10_isUnwritten : ByteArray := prog_1_method_15_code
def yX10_isUnwritten : MethodName := ⟨RX10, "isUnwritten", "(I)Z"⟩
abbrev cX10_undo : ByteArray := prog_1_method_16_code
def yX10_undo : MethodName := ⟨RX10, "undo", "()Z"⟩
abbrev cX10_redo : ByteArray := prog_1_method_17_code
def yX10_redo : MethodName := ⟨RX10, "redo", "()Z"⟩
abbrev cX10_wipe : ByteArray := prog_1_method_18_code
def yX10_wipe : MethodName := ⟨RX10, "wipe", "()I"⟩
abbrev cX10_word : ByteArray := prog_1_method_19_code
def yX10_word : MethodName := ⟨RX10, "word", "(I)I"⟩
abbrev cX10_next : ByteArray := prog_1_method_20_code
def yX10_next : MethodName := ⟨RX10, "next", "()I"⟩
abbrev cX10_nextInEarnest : ByteArray := prog_1_method_21_code
def yX10_nextInEarnest : MethodName := ⟨RX10, "nextInEarnest", "()I"⟩
abbrev cX10_readings : ByteArray := prog_1_method_22_code
def yX10_readings : MethodName := ⟨RX10, "readings", "()I"⟩
abbrev cX10_means : ByteArray := prog_1_method_23_code
def yX10_means : MethodName := ⟨RX10, "means", "(I)I"⟩
abbrev cX10_written : ByteArray := prog_1_method_24_code
def yX10_written : MethodName := ⟨RX10, "written", "(I)I"⟩
abbrev cX10_growEarnest : ByteArray := prog_1_method_25_code
def yX10_growEarnest : MethodName := ⟨RX10, "growEarnest", "()LGuildCharter$Tree;"⟩
abbrev cX10_growWhole : ByteArray := prog_1_method_26_code
def yX10_growWhole : MethodName := ⟨RX10, "growWhole", "()LGuildCharter$Tree;"⟩
abbrev cX10_growHoles : ByteArray := prog_1_method_27_code
def yX10_growHoles : MethodName := ⟨RX10, "growHoles", "()LGuildCharter$Tree;"⟩
abbrev cX10_ownAsInEarnest : ByteArray := prog_1_method_28_code
def yX10_ownAsInEarnest : MethodName := ⟨RX10, "ownAsInEarnest", "()V"⟩
abbrev cX10_lay : ByteArray := prog_1_method_29_code
def yX10_lay : MethodName := ⟨RX10, "lay", "(LGuildCharter$Tree;I)V"⟩
abbrev cX10_held : ByteArray := prog_1_method_30_code
def yX10_held : MethodName := ⟨RX10, "held", "(I)I"⟩
abbrev cX10_share : ByteArray := prog_1_method_31_code
def yX10_share : MethodName := ⟨RX10, "share", "(II)I"⟩
abbrev cX10_sixShares : ByteArray := prog_1_method_32_code
def yX10_sixShares : MethodName := ⟨RX10, "sixShares", "(LGuildCharter$Tree;I)I"⟩
abbrev cX10_swap : ByteArray := prog_1_method_33_code
def yX10_swap : MethodName := ⟨RX10, "swap", "()I"⟩
abbrev cX10_bribe : ByteArray := prog_1_method_34_code
def yX10_bribe : MethodName := ⟨RX10, "bribe", "(II)I"⟩
abbrev cX10_used : ByteArray := prog_1_method_35_code
def yX10_used : MethodName := ⟨RX10, "used", "()I"⟩
abbrev cX10_shortest : ByteArray := prog_1_method_36_code
def yX10_shortest : MethodName := ⟨RX10, "shortest", "(I)I"⟩
abbrev cX10_doubtful : ByteArray := prog_1_method_37_code
def yX10_doubtful : MethodName := ⟨RX10, "doubtful", "()I"⟩
abbrev cX10_lots : ByteArray := prog_1_method_38_code
def yX10_lots : MethodName := ⟨RX10, "lots", "(I)I"⟩
abbrev cX10_hole : ByteArray := prog_1_method_39_code
def yX10_hole : MethodName := ⟨RX10, "hole", "(II)Z"⟩
abbrev cX10_fit : ByteArray := prog_1_method_40_code
def yX10_fit : MethodName := ⟨RX10, "fit", "()I"⟩
abbrev cX10_best : ByteArray := prog_1_method_41_code
def yX10_best : MethodName := ⟨RX10, "best", "(I)I"⟩
abbrev cX10_struck : ByteArray := prog_1_method_42_code
def yX10_struck : MethodName := ⟨RX10, "struck", "(I)I"⟩
abbrev cX10_lies : ByteArray := prog_1_method_43_code
def yX10_lies : MethodName := ⟨RX10, "lies", "(I)I"⟩
abbrev cX10_seen : ByteArray := prog_1_method_44_code
def yX10_seen : MethodName := ⟨RX10, "seen", "(IIZ)I"⟩
abbrev cX10_untell : ByteArray := prog_1_method_45_code
def yX10_untell : MethodName := ⟨RX10, "untell", "(I)Z"⟩
abbrev cX10_later : ByteArray := prog_1_method_46_code
def yX10_later : MethodName := ⟨RX10, "later", "(I)I"⟩
abbrev cX10_orders : ByteArray := prog_1_method_47_code
def yX10_orders : MethodName := ⟨RX10, "orders", "(I)I"⟩
abbrev cX10_image : ByteArray := prog_1_method_48_code
def yX10_image : MethodName := ⟨RX10, "image", "(I)I"⟩
abbrev cX10_back : ByteArray := prog_1_method_49_code
def yX10_back : MethodName := ⟨RX10, "back", "(I)I"⟩
abbrev cX10_about : ByteArray := prog_1_method_50_code
def yX10_about : MethodName := ⟨RX10, "about", "(I)I"⟩
def RX11 : String := "GuildCharterModel"
def TX11 : u_T := fun k => match k with
  | 0 => ("GuildCharterModel", "tape", "[B", true)
  | 1 => ("GuildCharterModel", "text", "[B", true)
  | 2 => ("GuildCharterModel", "taped", "I", false)
  | 3 => ("GuildCharterModel", "size", "I", false)
  | 4 => ("GuildCharterModel", "faultKind", "I", false)
  | 5 => ("GuildCharterModel", "faultPlace", "I", false)
  | 6 => ("GuildCharterModel", "at", "I", false)
  | 7 => ("GuildCharterModel", "end", "I", false)
  | 8 => ("GuildCharterModel", "token", "I", false)
  | 9 => ("GuildCharterModel", "number", "I", false)
  | 10 => ("GuildCharterModel", "name", "J", false)
  | 11 => ("GuildCharterModel", "words", "[I", true)
  | 12 => ("GuildCharterModel", "pairs", "[I", true)
  | 13 => ("GuildCharterModel", "rules", "[I", true)
  | 14 => ("GuildCharterModel", "alts", "[I", true)
  | 15 => ("GuildCharterModel", "length", "[I", true)
  | 16 => ("GuildCharterModel", "turnMany", "[I", true)
  | 17 => ("GuildCharterModel", "turnOf", "[I", true)
  | 18 => ("GuildCharterModel", "worthOf", "[I", true)
  | 19 => ("GuildCharterModel", "pairWorth", "[I", true)
  | 20 => ("GuildCharterModel", "altRule", "[I", true)
  | 21 => ("GuildCharterModel", "altMany", "[I", true)
  | 22 => ("GuildCharterModel", "altName", "[I", true)
  | 23 => ("GuildCharterModel", "altPlace", "[I", true)
  | 24 => ("GuildCharterModel", "isPair", "[Z", true)
  | 25 => ("GuildCharterModel", "isLength", "[Z", true)
  | 26 => ("GuildCharterModel", "wName", "[J", true)
  | 27 => ("GuildCharterModel", "rName", "[J", true)
  | 28 => ("GuildCharterModel", "altWord", "[J", true)
  | 29 => ("GuildCharterModel", "bank", "I", false)
  | 30 => ("GuildCharterModel", "rb", "I", false)
  | 31 => ("GuildCharterModel", "tried", "[I", true)
  | 32 => ("GuildCharterModel", "ends", "[I", true)
  | 33 => ("GuildCharterModel", "waysTo", "[J", true)
  | 34 => ("GuildCharterModel", "step", "[J", true)
  | 35 => ("GuildCharterModel", "stepNext", "[J", true)
  | 36 => ("GuildCharterModel", "row", "[I", true)
  | 37 => ("GuildCharterModel", "turnNow", "[I", true)
  | 38 => ("GuildCharterModel", "holes", "[I", true)
  | 39 => ("GuildCharterModel", "many", "I", false)
  | 40 => ("GuildCharterModel", "actPlace", "[I", true)
  | 41 => ("GuildCharterModel", "actWhat", "[I", true)
  | 42 => ("GuildCharterModel", "acts", "I", false)
  | 43 => ("GuildCharterModel", "undone", "I", false)
  | 44 => ("GuildCharterModel", "list", "[I", true)
  | 45 => ("GuildCharterModel", "meansTo", "[I", true)
  | 46 => ("GuildCharterModel", "left", "[I", true)
  | 47 => ("GuildCharterModel", "leftNext", "[I", true)
  | 48 => ("GuildCharterModel", "listMany", "I", false)
  | 49 => ("GuildCharterModel", "listFrom", "I", false)
  | 50 => ("GuildCharterModel", "rowsMet", "I", false)
  | 51 => ("GuildCharterModel", "listKey", "J", false)
  | 52 => ("GuildCharterModel", "path", "[I", true)
  | 53 => ("GuildCharterModel", "playTurn", "[I", true)
  | 54 => ("GuildCharterModel", "bribed", "I", false)
  | 55 => ("GuildCharterModel", "bribePlace", "I", false)
  | 56 => ("GuildCharterModel", "bribeWord", "I", false)
  | 57 => ("GuildCharterModel", "bribe", "I", false)
  | 58 => ("GuildCharterModel", "laidRow", "[I", true)
  | 59 => ("GuildCharterModel", "laid", "I", false)
  | 60 => ("GuildCharterModel", "shortestOf", "[I", true)
  | 61 => ("GuildCharterModel", "sPlace", "[I", true)
  | 62 => ("GuildCharterModel", "sWord", "[I", true)
  | 63 => ("GuildCharterModel", "sTold", "[I", true)
  | 64 => ("GuildCharterModel", "sUntold", "[I", true)
  | 65 => ("GuildCharterModel", "sStood", "[Z", true)
  | 66 => ("GuildCharterModel", "seenMany", "I", false)
  | 67 => ("GuildCharterModel", "time", "I", false)
  | 68 => ("GuildCharterModel", "boxMany", "[I", true)
  | 69 => ("GuildCharterModel", "boxRow", "[I", true)
  | _ => ("GuildCharterModel", "boxTurn", "[I", true)
def tyX11 : Nat → FieldType := fun k => match k with
  | 0 => .array .byte
  | 1 => .array .byte
  | 2 => .int
  | 3 => .int
  | 4 => .int
  | 5 => .int
  | 6 => .int
  | 7 => .int
  | 8 => .int
  | 9 => .int
  | 10 => .long
  | 11 => .array .int
  | 12 => .array .int
  | 13 => .array .int
  | 14 => .array .int
  | 15 => .array .int
  | 16 => .array .int
  | 17 => .array .int
  | 18 => .array .int
  | 19 => .array .int
  | 20 => .array .int
  | 21 => .array .int
  | 22 => .array .int
  | 23 => .array .int
  | 24 => .array .boolean
  | 25 => .array .boolean
  | 26 => .array .long
  | 27 => .array .long
  | 28 => .array .long
  | 29 => .int
  | 30 => .int
  | 31 => .array .int
  | 32 => .array .int
  | 33 => .array .long
  | 34 => .array .long
  | 35 => .array .long
  | 36 => .array .int
  | 37 => .array .int
  | 38 => .array .int
  | 39 => .int
  | 40 => .array .int
  | 41 => .array .int
  | 42 => .int
  | 43 => .int
  | 44 => .array .int
  | 45 => .array .int
  | 46 => .array .int
  | 47 => .array .int
  | 48 => .int
  | 49 => .int
  | 50 => .int
  | 51 => .long
  | 52 => .array .int
  | 53 => .array .int
  | 54 => .int
  | 55 => .int
  | 56 => .int
  | 57 => .int
  | 58 => .array .int
  | 59 => .int
  | 60 => .array .int
  | 61 => .array .int
  | 62 => .array .int
  | 63 => .array .int
  | 64 => .array .int
  | 65 => .array .boolean
  | 66 => .int
  | 67 => .int
  | 68 => .array .int
  | 69 => .array .int
  | _ => .array .int
abbrev wsX110 : List Cond := u_ws RX11 TX11 71
theorem nmX11 : ∀ a, a < 71 → ∀ b, b < 71 → a ≠ b → (TX11 a).2.1 ≠ (TX11 b).2.1 := by decide +kernel
theorem tyX11_ok : ∀ k, k < 71 → parseFieldDescriptor (TX11 k).2.2.1 = some (tyX11 k) := by decide +kernel
abbrev cX11_init : ByteArray := prog_13_method_1_code
def yX11_init : MethodName := ⟨RX11, "<init>", "()V"⟩
abbrev cX11_sign : ByteArray := prog_13_method_2_code
def yX11_sign : MethodName := ⟨RX11, "sign", "(I)I"⟩
abbrev cX11_isLetter : ByteArray := prog_13_method_3_code
def yX11_isLetter : MethodName := ⟨RX11, "isLetter", "(I)Z"⟩
abbrev cX11_isDigit : ByteArray := prog_13_method_4_code
def yX11_isDigit : MethodName := ⟨RX11, "isDigit", "(I)Z"⟩
abbrev cX11_fails : ByteArray := prog_13_method_5_code
def yX11_fails : MethodName := ⟨RX11, "fails", "(II)V"⟩
abbrev cX11_isGood : ByteArray := prog_13_method_6_code
def yX11_isGood : MethodName := ⟨RX11, "isGood", "()Z"⟩
abbrev cX11_isKept : ByteArray := prog_13_method_7_code
def yX11_isKept : MethodName := ⟨RX11, "isKept", "(J)Z"⟩
abbrev cX11_goOn : ByteArray := prog_13_method_8_code
def yX11_goOn : MethodName := ⟨RX11, "goOn", "()V"⟩
abbrev cX11_isSignHere : ByteArray := prog_13_method_9_code
def yX11_isSignHere : MethodName := ⟨RX11, "isSignHere", "(I)Z"⟩
abbrev cX11_isWord : ByteArray := prog_13_method_10_code
def yX11_isWord : MethodName := ⟨RX11, "isWord", "(J)Z"⟩
abbrev cX11_misplaced : ByteArray := prog_13_method_11_code
def yX11_misplaced : MethodName := ⟨RX11, "misplaced", "()V"⟩
abbrev cX11_must : ByteArray := prog_13_method_12_code
def yX11_must : MethodName := ⟨RX11, "must", "(Z)V"⟩
abbrev cX11_numeral : ByteArray := prog_13_method_13_code
def yX11_numeral : MethodName := ⟨RX11, "numeral", "(II)I"⟩
abbrev cX11_clearBank : ByteArray := prog_13_method_14_code
def yX11_clearBank : MethodName := ⟨RX11, "clearBank", "()V"⟩
abbrev cX11_port : ByteArray := prog_13_method_15_code
def yX11_port : MethodName := ⟨RX11, "port", "()I"⟩
abbrev cX11_isFull : ByteArray := prog_13_method_16_code
def yX11_isFull : MethodName := ⟨RX11, "isFull", "()Z"⟩
abbrev cX11_readLine : ByteArray := prog_13_method_17_code
def yX11_readLine : MethodName := ⟨RX11, "readLine", "()V"⟩
abbrev cX11_wordOf : ByteArray := prog_13_method_18_code
def yX11_wordOf : MethodName := ⟨RX11, "wordOf", "(J)I"⟩
abbrev cX11_ruleOf : ByteArray := prog_13_method_19_code
def yX11_ruleOf : MethodName := ⟨RX11, "ruleOf", "(J)I"⟩
abbrev cX11_fresh : ByteArray := prog_13_method_20_code
def yX11_fresh : MethodName := ⟨RX11, "fresh", "()J"⟩
abbrev cX11_readWord : ByteArray := prog_13_method_21_code
def yX11_readWord : MethodName := ⟨RX11, "readWord", "()V"⟩
abbrev cX11_known : ByteArray := prog_13_method_22_code
def yX11_known : MethodName := ⟨RX11, "known", "()I"⟩
abbrev cX11_readPair : ByteArray := prog_13_method_23_code
def yX11_readPair : MethodName := ⟨RX11, "readPair", "()V"⟩
abbrev cX11_readRule : ByteArray := prog_13_method_24_code
def yX11_readRule : MethodName := ⟨RX11, "readRule", "()V"⟩
abbrev cX11_readAlt : ByteArray := prog_13_method_25_code
def yX11_readAlt : MethodName := ⟨RX11, "readAlt", "()V"⟩
abbrev cX11_readTurns : ByteArray := prog_13_method_26_code
def yX11_readTurns : MethodName := ⟨RX11, "readTurns", "()V"⟩
abbrev cX11_settle : ByteArray := prog_13_method_27_code
def yX11_settle : MethodName := ⟨RX11, "settle", "()V"⟩
abbrev cX11_fault : ByteArray := prog_13_method_28_code
def yX11_fault : MethodName := ⟨RX11, "fault", "(I)I"⟩
abbrev cX11_isIn : ByteArray := prog_13_method_29_code
def yX11_isIn : MethodName := ⟨RX11, "isIn", "(III)Z"⟩
abbrev cX11_isWordOf : ByteArray := prog_13_method_30_code
def yX11_isWordOf : MethodName := ⟨RX11, "isWordOf", "(I)Z"⟩
abbrev cX11_isGuild : ByteArray := prog_13_method_31_code
def yX11_isGuild : MethodName := ⟨RX11, "isGuild", "(I)Z"⟩
abbrev cX11_longOf : ByteArray := prog_13_method_32_code
def yX11_longOf : MethodName := ⟨RX11, "longOf", "()I"⟩
abbrev cX11_isPlace : ByteArray := prog_13_method_33_code
def yX11_isPlace : MethodName := ⟨RX11, "isPlace", "(I)Z"⟩
abbrev cX11_worth : ByteArray := prog_13_method_34_code
def yX11_worth : MethodName := ⟨RX11, "worth", "(II)I"⟩
abbrev cX11_pairOf : ByteArray := prog_13_method_35_code
def yX11_pairOf : MethodName := ⟨RX11, "pairOf", "(III)I"⟩
abbrev cX11_behind : ByteArray := prog_13_method_36_code
def yX11_behind : MethodName := ⟨RX11, "behind", "(III)I"⟩
abbrev cX11_endsBy : ByteArray := prog_13_method_37_code
def yX11_endsBy : MethodName := ⟨RX11, "endsBy", "(II)I"⟩
abbrev cX11_doesRead : ByteArray := prog_13_method_38_code
def yX11_doesRead : MethodName := ⟨RX11, "doesRead", "(III)Z"⟩
abbrev cX11_layEnds : ByteArray := prog_13_method_39_code
def yX11_layEnds : MethodName := ⟨RX11, "layEnds", "(I)V"⟩
abbrev cX11_isRead : ByteArray := prog_13_method_40_code
def yX11_isRead : MethodName := ⟨RX11, "isRead", "(I)Z"⟩
abbrev cX11_readingsOf : ByteArray := prog_13_method_41_code
def yX11_readingsOf : MethodName := ⟨RX11, "readingsOf", "(I)J"⟩
abbrev cX11_atMost : ByteArray := prog_13_method_42_code
def yX11_atMost : MethodName := ⟨RX11, "atMost", "(J)J"⟩
abbrev cX11_waysBy : ByteArray := prog_13_method_43_code
def yX11_waysBy : MethodName := ⟨RX11, "waysBy", "(III)J"⟩
abbrev cX11_toldTurn : ByteArray := prog_13_method_44_code
def yX11_toldTurn : MethodName := ⟨RX11, "toldTurn", "(I)I"⟩
abbrev cX11_begin : ByteArray := prog_13_method_45_code
def yX11_begin : MethodName := ⟨RX11, "begin", "()V"⟩
abbrev cX11_canGoOn : ByteArray := prog_13_method_46_code
def yX11_canGoOn : MethodName := ⟨RX11, "canGoOn", "(I)Z"⟩
abbrev cX11_tryRow : ByteArray := prog_13_method_47_code
def yX11_tryRow : MethodName := ⟨RX11, "tryRow", "()V"⟩
abbrev cX11_canCome : ByteArray := prog_13_method_48_code
def yX11_canCome : MethodName := ⟨RX11, "canCome", "(I)Z"⟩
abbrev cX11_turn : ByteArray := prog_13_method_49_code
def yX11_turn : MethodName := ⟨RX11, "turn", "(I)I"⟩
abbrev cX11_word : ByteArray := prog_13_method_50_code
def yX11_word : MethodName := ⟨RX11, "word", "(I)I"⟩
abbrev cX11_next : ByteArray := prog_13_method_51_code
def yX11_next : MethodName := ⟨RX11, "next", "()I"⟩
abbrev cX11_readings : ByteArray := prog_13_method_52_code
def yX11_readings : MethodName := ⟨RX11, "readings", "()I"⟩
abbrev cX11_meansOf : ByteArray := prog_13_method_53_code
def yX11_meansOf : MethodName := ⟨RX11, "meansOf", "(II)I"⟩
abbrev cX11_means : ByteArray := prog_13_method_54_code
def yX11_means : MethodName := ⟨RX11, "means", "(I)I"⟩
abbrev cX11_keepAct : ByteArray := prog_13_method_55_code
def yX11_keepAct : MethodName := ⟨RX11, "keepAct", "(II)V"⟩
abbrev cX11_write : ByteArray := prog_13_method_56_code
def yX11_write : MethodName := ⟨RX11, "write", "(I)I"⟩
abbrev cX11_sell : ByteArray := prog_13_method_57_code
def yX11_sell : MethodName := ⟨RX11, "sell", "(II)I"⟩
abbrev cX11_exchange : ByteArray := prog_13_method_58_code
def yX11_exchange : MethodName := ⟨RX11, "exchange", "(Z)V"⟩
abbrev cX11_undo : ByteArray := prog_13_method_59_code
def yX11_undo : MethodName := ⟨RX11, "undo", "()Z"⟩
abbrev cX11_redo : ByteArray := prog_13_method_60_code
def yX11_redo : MethodName := ⟨RX11, "redo", "()Z"⟩
abbrev cX11_wipe : ByteArray := prog_13_method_61_code
def yX11_wipe : MethodName := ⟨RX11, "wipe", "()I"⟩
abbrev cX11_keyOf : ByteArray := prog_13_method_62_code
def yX11_keyOf : MethodName := ⟨RX11, "keyOf", "(IZ)J"⟩
abbrev cX11_packed : ByteArray := prog_13_method_63_code
def yX11_packed : MethodName := ⟨RX11, "packed", "()I"⟩
abbrev cX11_wordIn : ByteArray := prog_13_method_64_code
def yX11_wordIn : MethodName := ⟨RX11, "wordIn", "(II)I"⟩
abbrev cX11_unpack : ByteArray := prog_13_method_65_code
def yX11_unpack : MethodName := ⟨RX11, "unpack", "(I)V"⟩
abbrev cX11_layList : ByteArray := prog_13_method_66_code
def yX11_layList : MethodName := ⟨RX11, "layList", "(IZ)Z"⟩
abbrev cX11_isOnPath : ByteArray := prog_13_method_67_code
def yX11_isOnPath : MethodName := ⟨RX11, "isOnPath", "(I)Z"⟩
abbrev cX11_takeCharter : ByteArray := prog_13_method_68_code
def yX11_takeCharter : MethodName := ⟨RX11, "takeCharter", "()V"⟩
abbrev cX11_layFromRow : ByteArray := prog_13_method_69_code
def yX11_layFromRow : MethodName := ⟨RX11, "layFromRow", "()Z"⟩
abbrev cX11_layFromNone : ByteArray := prog_13_method_70_code
def yX11_layFromNone : MethodName := ⟨RX11, "layFromNone", "()Z"⟩
abbrev cX11_gain : ByteArray := prog_13_method_71_code
def yX11_gain : MethodName := ⟨RX11, "gain", "(II)I"⟩
abbrev cX11_gainOf : ByteArray := prog_13_method_72_code
def yX11_gainOf : MethodName := ⟨RX11, "gainOf", "(II)I"⟩
abbrev cX11_areGrouped : ByteArray := prog_13_method_73_code
def yX11_areGrouped : MethodName := ⟨RX11, "areGrouped", "(III)Z"⟩
abbrev cX11_isBetter : ByteArray := prog_13_method_74_code
def yX11_isBetter : MethodName := ⟨RX11, "isBetter", "(IIII)Z"⟩
abbrev cX11_plays : ByteArray := prog_13_method_75_code
def yX11_plays : MethodName := ⟨RX11, "plays", "(I)I"⟩
abbrev cX11_turnsNow : ByteArray := prog_13_method_76_code
def yX11_turnsNow : MethodName := ⟨RX11, "turnsNow", "()V"⟩
abbrev cX11_orderTurn : ByteArray := prog_13_method_77_code
def yX11_orderTurn : MethodName := ⟨RX11, "orderTurn", "(II)I"⟩
abbrev cX11_turnsByOrder : ByteArray := prog_13_method_78_code
def yX11_turnsByOrder : MethodName := ⟨RX11, "turnsByOrder", "(I)V"⟩
abbrev cX11_lay : ByteArray := prog_13_method_79_code
def yX11_lay : MethodName := ⟨RX11, "lay", "(I)V"⟩
abbrev cX11_lies : ByteArray := prog_13_method_80_code
def yX11_lies : MethodName := ⟨RX11, "lies", "(I)I"⟩
abbrev cX11_written : ByteArray := prog_13_method_81_code
def yX11_written : MethodName := ⟨RX11, "written", "(I)I"⟩
abbrev cX11_heldBy : ByteArray := prog_13_method_82_code
def yX11_heldBy : MethodName := ⟨RX11, "heldBy", "(I)I"⟩
abbrev cX11_held : ByteArray := prog_13_method_83_code
def yX11_held : MethodName := ⟨RX11, "held", "(I)I"⟩
abbrev cX11_common : ByteArray := prog_13_method_84_code
def yX11_common : MethodName := ⟨RX11, "common", "(II)I"⟩
abbrev cX11_share : ByteArray := prog_13_method_85_code
def yX11_share : MethodName := ⟨RX11, "share", "(II)I"⟩
abbrev cX11_swap : ByteArray := prog_13_method_86_code
def yX11_swap : MethodName := ⟨RX11, "swap", "()I"⟩
abbrev cX11_bribe : ByteArray := prog_13_method_87_code
def yX11_bribe : MethodName := ⟨RX11, "bribe", "(II)I"⟩
abbrev cX11_lots : ByteArray := prog_13_method_88_code
def yX11_lots : MethodName := ⟨RX11, "lots", "(I)I"⟩
abbrev cX11_layShortest : ByteArray := prog_13_method_89_code
def yX11_layShortest : MethodName := ⟨RX11, "layShortest", "()V"⟩
abbrev cX11_sumOf : ByteArray := prog_13_method_90_code
def yX11_sumOf : MethodName := ⟨RX11, "sumOf", "(I)I"⟩
abbrev cX11_used : ByteArray := prog_13_method_91_code
def yX11_used : MethodName := ⟨RX11, "used", "()I"⟩
abbrev cX11_shortest : ByteArray := prog_13_method_92_code
def yX11_shortest : MethodName := ⟨RX11, "shortest", "(I)I"⟩
abbrev cX11_doubtful : ByteArray := prog_13_method_93_code
def yX11_doubtful : MethodName := ⟨RX11, "doubtful", "()I"⟩
abbrev cX11_hole : ByteArray := prog_13_method_94_code
def yX11_hole : MethodName := ⟨RX11, "hole", "(II)Z"⟩
abbrev cX11_fit : ByteArray := prog_13_method_95_code
def yX11_fit : MethodName := ⟨RX11, "fit", "()I"⟩
abbrev cX11_best : ByteArray := prog_13_method_96_code
def yX11_best : MethodName := ⟨RX11, "best", "(I)I"⟩
abbrev cX11_tryWithout : ByteArray := prog_13_method_97_code
def yX11_tryWithout : MethodName := ⟨RX11, "tryWithout", "(I)V"⟩
abbrev cX11_struck : ByteArray := prog_13_method_98_code
def yX11_struck : MethodName := ⟨RX11, "struck", "(I)I"⟩
abbrev cX11_seen : ByteArray := prog_13_method_99_code
def yX11_seen : MethodName := ⟨RX11, "seen", "(IIZ)I"⟩
abbrev cX11_untell : ByteArray := prog_13_method_100_code
def yX11_untell : MethodName := ⟨RX11, "untell", "(I)Z"⟩
abbrev cX11_later : ByteArray := prog_13_method_101_code
def yX11_later : MethodName := ⟨RX11, "later", "(I)I"⟩
abbrev cX11_isSo : ByteArray := prog_13_method_102_code
def yX11_isSo : MethodName := ⟨RX11, "isSo", "(II)Z"⟩
abbrev cX11_orders : ByteArray := prog_13_method_103_code
def yX11_orders : MethodName := ⟨RX11, "orders", "(I)I"⟩
abbrev cX11_image : ByteArray := prog_13_method_104_code
def yX11_image : MethodName := ⟨RX11, "image", "(I)I"⟩
abbrev cX11_back : ByteArray := prog_13_method_105_code
def yX11_back : MethodName := ⟨RX11, "back", "(I)I"⟩
abbrev cX11_about : ByteArray := prog_13_method_106_code
def yX11_about : MethodName := ⟨RX11, "about", "(I)I"⟩
abbrev cX11_feed : ByteArray := prog_13_method_107_code
def yX11_feed : MethodName := ⟨RX11, "feed", "(IIIII)I"⟩
abbrev cX11_end : ByteArray := prog_13_method_108_code
def yX11_end : MethodName := ⟨RX11, "end", "(I)I"⟩
def RJx145de : String := "java/io/Serializable"
def TJx145de : u_T := fun k => match k with
  | _ => ("", "", "", false)
def tyJx145de : Nat → FieldType := fun k => match k with
  | _ => .int
def RJx9f9b0 : String := "java/lang/CharSequence"
def TJx9f9b0 : u_T := fun k => match k with
  | _ => ("", "", "", false)
def tyJx9f9b0 : Nat → FieldType := fun k => match k with
  | _ => .int
def RJxb160c : String := "java/lang/Comparable"
def TJxb160c : u_T := fun k => match k with
  | _ => ("", "", "", false)
def tyJxb160c : Nat → FieldType := fun k => match k with
  | _ => .int
def RJ9 : String := "java/lang/Math"
def TJ9 : u_T := fun k => match k with
  | _ => ("", "", "", false)
def tyJ9 : Nat → FieldType := fun k => match k with
  | _ => .int
abbrev cJ9_max_7cf53 : ByteArray := prog_14_method_65_code
def yJ9_max_7cf53 : MethodName := ⟨RJ9, "max", "(II)I"⟩
abbrev cJ9_min_7cf53 : ByteArray := prog_14_method_69_code
def yJ9_min_7cf53 : MethodName := ⟨RJ9, "min", "(II)I"⟩
abbrev cJ9_min_f86c9 : ByteArray := prog_14_method_70_code
def yJ9_min_f86c9 : MethodName := ⟨RJ9, "min", "(JJ)J"⟩
def RJ0 : String := "java/lang/String"
def TJ0 : u_T := fun k => match k with
  | _ => ("", "", "", false)
def tyJ0 : Nat → FieldType := fun k => match k with
  | _ => .int
abbrev cJ0_length_8abf5 : ByteArray := prog_15_method_54_code
def yJ0_length_8abf5 : MethodName := ⟨RJ0, "length", "()I"⟩
abbrev cJ0_charAt_5068e : ByteArray := prog_15_method_56_code
def yJ0_charAt_5068e : MethodName := ⟨RJ0, "charAt", "(I)C"⟩
abbrev cJ0_coder_7d493 : ByteArray := prog_15_method_152_code
def yJ0_coder_7d493 : MethodName := ⟨RJ0, "coder", "()B"⟩
abbrev cJ0_isLatin1_aae02 : ByteArray := prog_15_method_154_code
def yJ0_isLatin1_aae02 : MethodName := ⟨RJ0, "isLatin1", "()Z"⟩
abbrev cJ0_checkIndex_df160 : ByteArray := prog_15_method_155_code
def yJ0_checkIndex_df160 : MethodName := ⟨RJ0, "checkIndex", "(II)V"⟩
def RJ1 : String := "java/lang/StringLatin1"
def TJ1 : u_T := fun k => match k with
  | _ => ("", "", "", false)
def tyJ1 : Nat → FieldType := fun k => match k with
  | _ => .int
abbrev cJ1_charAt_3b067 : ByteArray := prog_16_method_2_code
def yJ1_charAt_3b067 : MethodName := ⟨RJ1, "charAt", "([BI)C"⟩
def RJ2 : String := "java/lang/StringUTF16"
def TJ2 : u_T := fun k => match k with
  | _ => ("", "", "", false)
def tyJ2 : Nat → FieldType := fun k => match k with
  | _ => .int
abbrev cJ2_getChar_3b067 : ByteArray := prog_17_method_5_code
def yJ2_getChar_3b067 : MethodName := ⟨RJ2, "getChar", "([BI)C"⟩
abbrev cJ2_length_9d52b : ByteArray := prog_17_method_6_code
def yJ2_length_9d52b : MethodName := ⟨RJ2, "length", "([B)I"⟩
abbrev cJ2_charAt_3b067 : ByteArray := prog_17_method_83_code
def yJ2_charAt_3b067 : MethodName := ⟨RJ2, "charAt", "([BI)C"⟩
abbrev cJ2_checkIndex_2214a : ByteArray := prog_17_method_91_code
def yJ2_checkIndex_2214a : MethodName := ⟨RJ2, "checkIndex", "(I[B)V"⟩
def RJ10 : String := "java/lang/System"
def TJ10 : u_T := fun k => match k with
  | _ => ("", "", "", false)
def tyJ10 : Nat → FieldType := fun k => match k with
  | _ => .int
def RJxfd54e : String := "java/lang/constant/Constable"
def TJxfd54e : u_T := fun k => match k with
  | _ => ("", "", "", false)
def tyJxfd54e : Nat → FieldType := fun k => match k with
  | _ => .int
def RJx3cf43 : String := "java/lang/constant/ConstantDesc"
def TJx3cf43 : u_T := fun k => match k with
  | _ => ("", "", "", false)
def tyJx3cf43 : Nat → FieldType := fun k => match k with
  | _ => .int
def RJ7 : String := "java/util/Arrays"
def TJ7 : u_T := fun k => match k with
  | _ => ("", "", "", false)
def tyJ7 : Nat → FieldType := fun k => match k with
  | _ => .int
abbrev cJ7_fill_53178 : ByteArray := prog_19_method_103_code
def yJ7_fill_53178 : MethodName := ⟨RJ7, "fill", "([II)V"⟩
def RJ3 : String := "jdk/internal/util/Preconditions"
def TJ3 : u_T := fun k => match k with
  | _ => ("", "", "", false)
def tyJ3 : Nat → FieldType := fun k => match k with
  | _ => .int
abbrev cJ3_checkIndex_8e157 : ByteArray := prog_20_method_11_code
def yJ3_checkIndex_8e157 : MethodName := ⟨RJ3, "checkIndex", "(IILjava/util/function/BiFunction;)I"⟩
def RL : String := "GuildCharterLaw"
abbrev cL_law : ByteArray := code
def yL_law : MethodName := ⟨RL, "law", "([I)Z"⟩
abbrev vwCl : List vw_C := [(RX0, TX0, 9), (RX1, TX1, 4), (RX2, TX2, 4), (RX3, TX3, 9), (RX4, TX4, 16), (RX5, TX5, 2), (RX6, TX6, 7), (RX7, TX7, 3), (RX8, TX8, 10), (RX9, TX9, 11), (RX10, TX10, 18), (RX11, TX11, 71)]
theorem mem_r {big ws : List Cond} (ps : List Nat) (hp : ws = ps.filterMap (fun i => big[i]?)) : ∀ w ∈ ws, w ∈ big := by
  intro w hw
  rw [hp] at hw
  obtain ⟨i, -, hi⟩ := List.mem_filterMap.mp hw
  first | exact List.mem_of_getElem? hi | exact List.getElem?_mem hi
set_option maxRecDepth 100000 in
theorem inX0 : ∀ w ∈ wsX00, w ∈ lw_tbl := mem_r [378, 380, 382, 384, 386, 388, 390, 392, 394] rfl
set_option maxRecDepth 100000 in
theorem inX1 : ∀ w ∈ wsX10, w ∈ lw_tbl := mem_r [409, 411, 413, 415] rfl
set_option maxRecDepth 100000 in
theorem inX2 : ∀ w ∈ wsX20, w ∈ lw_tbl := mem_r [341, 343, 345, 347] rfl
set_option maxRecDepth 100000 in
theorem inX3 : ∀ w ∈ wsX30, w ∈ lw_tbl := mem_r [464, 466, 468, 470, 472, 474, 476, 478, 480] rfl
set_option maxRecDepth 100000 in
theorem inX4 : ∀ w ∈ wsX40, w ∈ lw_tbl := mem_r [301, 303, 305, 307, 309, 311, 313, 315, 317, 319, 321, 323, 325, 327, 329, 331] rfl
set_option maxRecDepth 100000 in
theorem inX5 : ∀ w ∈ wsX50, w ∈ lw_tbl := mem_r [426, 428] rfl
set_option maxRecDepth 100000 in
theorem inX6 : ∀ w ∈ wsX60, w ∈ lw_tbl := mem_r [546, 548, 550, 552, 554, 556, 558] rfl
set_option maxRecDepth 100000 in
theorem inX7 : ∀ w ∈ wsX70, w ∈ lw_tbl := mem_r [440, 442, 444] rfl
set_option maxRecDepth 100000 in
theorem inX8 : ∀ w ∈ wsX80, w ∈ lw_tbl := mem_r [221, 223, 225, 227, 229, 231, 233, 235, 237, 239] rfl
set_option maxRecDepth 100000 in
theorem inX9 : ∀ w ∈ wsX90, w ∈ lw_tbl := mem_r [508, 510, 512, 514, 516, 518, 520, 522, 524, 526, 528] rfl
set_option maxRecDepth 100000 in
theorem inX10 : ∀ w ∈ wsX100, w ∈ lw_tbl := mem_r [579, 581, 583, 585, 587, 589, 591, 593, 595, 597, 599, 601, 603, 605, 607, 609, 611, 613] rfl
set_option maxRecDepth 100000 in
theorem inX11 : ∀ w ∈ wsX110, w ∈ lw_tbl := mem_r [1251, 1253, 1255, 1257, 1259, 1261, 1263, 1265, 1267, 1269, 1271, 1273, 1275, 1277, 1279, 1281, 1283, 1285, 1287, 1289, 1291, 1293, 1295, 1297, 1299, 1301, 1303, 1305, 1307, 1309, 1311, 1313, 1315, 1317, 1319, 1321, 1323, 1325, 1327, 1329, 1331, 1333, 1335, 1337, 1339, 1341, 1343, 1345, 1347, 1349, 1351, 1353, 1355, 1357, 1359, 1361, 1363, 1365, 1367, 1369, 1371, 1373, 1375, 1377, 1379, 1381, 1383, 1385, 1387, 1389, 1391] rfl
end
section
def pm_R : Nat → String := fun k => match k with
  | 0 => RX0
  | 1 => RX1
  | 2 => RX2
  | 3 => RX3
  | 4 => RX4
  | 5 => RX5
  | 6 => RX6
  | 7 => RX7
  | 8 => RX8
  | 9 => RX9
  | 10 => RX10
  | 11 => RX11
  | 12 => RJ9
  | 13 => RJ7
  | _ => RL
def pm_T : Nat → u_T := fun k => match k with
  | 0 => TX0
  | 1 => TX1
  | 2 => TX2
  | 3 => TX3
  | 4 => TX4
  | 5 => TX5
  | 6 => TX6
  | 7 => TX7
  | 8 => TX8
  | 9 => TX9
  | 10 => TX10
  | _ => TX11
def pm_N : Nat → Nat := fun k => match k with
  | 0 => 9
  | 1 => 4
  | 2 => 4
  | 3 => 9
  | 4 => 16
  | 5 => 2
  | 6 => 7
  | 7 => 3
  | 8 => 10
  | 9 => 11
  | 10 => 18
  | _ => 71
abbrev pm_Ins : Type := Nat × Nat × Nat × Int × Nat × Nat × Nat
abbrev pm_Me : Type := MethodName × ByteArray × Nat × Option FieldType × Nat × Nat × Bool
def pm_M : List pm_Me := [
  (yX0_doAgain, cX0_doAgain, 2, some (.boolean), 0, 0, false),
  (yX0_dropOldest, cX0_dropOldest, 2, none, 0, 0, false),
  (yX0_empty, cX0_empty, 1, none, 0, 0, false),
  (yX0_forgetActs, cX0_forgetActs, 1, none, 0, 0, false),
  (yX0_note, cX0_note, 5, none, 4, 0, false),
  (yX0_putSale, cX0_putSale, 3, none, 2, 0, false),
  (yX0_putWord, cX0_putWord, 2, none, 1, 0, false),
  (yX0_rowWithout, cX0_rowWithout, 5, some (.int), 2, 0, false),
  (yX0_takeBack, cX0_takeBack, 1, some (.boolean), 0, 0, false),
  (yX1_giveBack, cX1_giveBack, 2, none, 1, 1, false),
  (yX1_keep, cX1_keep, 2, none, 1, 1, false),
  (yX2_bindAlt, cX2_bindAlt, 7, some (.boolean), 2, 2, false),
  (yX2_bindParts, cX2_bindParts, 3, some (.boolean), 0, 2, false),
  (yX2_pass, cX2_pass, 2, some (.boolean), 1, 2, false),
  (yX2_passFirst, cX2_passFirst, 2, some (.boolean), 1, 2, false),
  (yX2_passNewName, cX2_passNewName, 1, some (.boolean), 0, 2, false),
  (yX2_passNumber, cX2_passNumber, 3, some (.boolean), 2, 2, false),
  (yX2_passPairName, cX2_passPairName, 3, some (.boolean), 2, 2, false),
  (yX2_readAlt, cX2_readAlt, 2, some (.boolean), 0, 2, false),
  (yX2_readLength, cX2_readLength, 2, some (.boolean), 0, 2, false),
  (yX2_readPair, cX2_readPair, 5, some (.boolean), 0, 2, false),
  (yX2_readRule, cX2_readRule, 5, some (.boolean), 0, 2, false),
  (yX2_readTurns, cX2_readTurns, 3, some (.boolean), 0, 2, false),
  (yX2_readWord, cX2_readWord, 3, some (.boolean), 0, 2, false),
  (yX2_readWorths, cX2_readWorths, 5, some (.boolean), 2, 2, false),
  (yX2_readsInto, cX2_readsInto, 6, some (.boolean), 3, 2, false),
  (yX2_symbolAtHand, cX2_symbolAtHand, 1, some (.int), 0, 2, false),
  (yX3_better, cX3_better, 3, some (.int), 3, 3, true),
  (yX3_clearResults, cX3_clearResults, 4, none, 2, 3, false),
  (yX3_endOf, cX3_endOf, 3, some (.int), 1, 3, false),
  (yX3_findLotEnds, cX3_findLotEnds, 4, none, 1, 3, false),
  (yX3_firstSwap, cX3_firstSwap, 9, some (.int), 2, 3, false),
  (yX3_forget, cX3_forget, 1, none, 0, 3, false),
  (yX3_heldBy, cX3_heldBy, 6, some (.int), 2, 3, false),
  (yX3_isBribed, cX3_isBribed, 3, some (.boolean), 2, 3, false),
  (yX3_leastBribe, cX3_leastBribe, 6, some (.int), 3, 3, false),
  (yX3_meansMore, cX3_meansMore, 4, some (.boolean), 4, 3, true),
  (yX3_offer, cX3_offer, 8, none, 3, 3, false),
  (yX3_sumOf, cX3_sumOf, 5, some (.int), 3, 3, true),
  (yX3_worthTo, cX3_worthTo, 5, some (.int), 3, 3, false),
  (yX4_empty, cX4_empty, 2, none, 0, 4, false),
  (yX4_findShortest, cX4_findShortest, 7, none, 1, 4, false),
  (yX4_hasPlace, cX4_hasPlace, 2, some (.boolean), 1, 4, false),
  (yX4_hasWord, cX4_hasWord, 2, some (.boolean), 1, 4, false),
  (yX4_meaningBehind, cX4_meaningBehind, 5, some (.int), 3, 4, false),
  (yX4_meaningOf, cX4_meaningOf, 6, some (.int), 3, 4, false),
  (yX4_rulesNextTo, cX4_rulesNextTo, 7, some (.int), 2, 4, false),
  (yX4_rulesOfUse, cX4_rulesOfUse, 5, some (.int), 1, 4, false),
  (yX4_sizeOfAlt, cX4_sizeOfAlt, 6, some (.int), 2, 4, false),
  (yX4_symbolOf, cX4_symbolOf, 4, some (.int), 1, 4, false),
  (yX4_turnAt, cX4_turnAt, 2, some (.int), 1, 4, false),
  (yX5_beginColumn, cX5_beginColumn, 9, none, 3, 5, false),
  (yX5_fillColumn, cX5_fillColumn, 12, none, 4, 5, false),
  (yX5_goOn, cX5_goOn, 5, none, 2, 5, false),
  (yX5_nextWords, cX5_nextWords, 5, some (.int), 2, 5, false),
  (yX5_readBeginning, cX5_readBeginning, 5, none, 3, 5, false),
  (yX5_startsOfAlt, cX5_startsOfAlt, 14, some (.long), 3, 5, false),
  (yX6_agree, cX6_agree, 7, some (.boolean), 3, 6, false),
  (yX6_takeBack, cX6_takeBack, 2, some (.boolean), 1, 6, false),
  (yX6_tell, cX6_tell, 4, some (.int), 3, 6, false),
  (yX7_countOf, cX7_countOf, 6, some (.int), 3, 7, false),
  (yX7_fillColumn, cX7_fillColumn, 9, none, 2, 7, false),
  (yX7_forget, cX7_forget, 1, none, 0, 7, false),
  (yX7_waysOfAlt, cX7_waysOfAlt, 12, some (.int), 5, 7, false),
  (yX8_advance, cX8_advance, 2, none, 0, 8, false),
  (yX8_begin, cX8_begin, 3, none, 2, 8, false),
  (yX8_refuse, cX8_refuse, 2, some (.boolean), 1, 8, false),
  (yX8_takeDigits, cX8_takeDigits, 2, none, 0, 8, false),
  (yX8_takeLetters, cX8_takeLetters, 2, none, 0, 8, false),
  (yX9_add, cX9_add, 6, none, 3, 9, false),
  (yX9_addRoot, cX9_addRoot, 4, none, 2, 9, false),
  (yX9_forget, cX9_forget, 1, none, 0, 9, false),
  (yX9_grow, cX9_grow, 8, none, 3, 9, false),
  (yX9_growBehind, cX9_growBehind, 5, none, 4, 9, false),
  (yX9_growFrom, cX9_growFrom, 8, none, 5, 9, false),
  (yX9_hasCharters, cX9_hasCharters, 1, some (.boolean), 0, 9, false),
  (yX9_isCharter, cX9_isCharter, 2, some (.boolean), 1, 9, false),
  (yX9_wordAt, cX9_wordAt, 3, some (.int), 2, 9, false),
  (yX9_wordsInto, cX9_wordsInto, 4, none, 2, 9, false),
  (yX10_about, cX10_about, 2, some (.int), 1, 10, false),
  (yX10_back, cX10_back, 2, some (.int), 1, 10, false),
  (yX10_behind, cX10_behind, 4, some (.int), 3, 10, false),
  (yX10_best, cX10_best, 5, some (.int), 1, 10, false),
  (yX10_bribe, cX10_bribe, 4, some (.int), 2, 10, false),
  (yX10_doubtful, cX10_doubtful, 4, some (.int), 0, 10, false),
  (yX10_end, cX10_end, 2, some (.int), 1, 10, false),
  (yX10_fault, cX10_fault, 2, some (.int), 1, 10, false),
  (yX10_feed, cX10_feed, 6, some (.int), 5, 10, false),
  (yX10_fit, cX10_fit, 4, some (.int), 0, 10, false),
  (yX10_forgetOldPort, cX10_forgetOldPort, 2, none, 0, 10, false),
  (yX10_growEarnest, cX10_growEarnest, 2, some (.object "GuildCharter$Tree"), 0, 10, false),
  (yX10_growHoles, cX10_growHoles, 2, some (.object "GuildCharter$Tree"), 0, 10, false),
  (yX10_growWhole, cX10_growWhole, 1, some (.object "GuildCharter$Tree"), 0, 10, false),
  (yX10_held, cX10_held, 3, some (.int), 1, 10, false),
  (yX10_hole, cX10_hole, 4, some (.boolean), 2, 10, false),
  (yX10_image, cX10_image, 2, some (.int), 1, 10, false),
  (yX10_isGuild, cX10_isGuild, 1, some (.boolean), 1, 10, true),
  (yX10_isUnwritten, cX10_isUnwritten, 2, some (.boolean), 1, 10, false),
  (yX10_later, cX10_later, 2, some (.int), 1, 10, false),
  (yX10_lay, cX10_lay, 4, none, 2, 10, false),
  (yX10_lies, cX10_lies, 2, some (.int), 1, 10, false),
  (yX10_lots, cX10_lots, 5, some (.int), 1, 10, false),
  (yX10_means, cX10_means, 2, some (.int), 1, 10, false),
  (yX10_next, cX10_next, 1, some (.int), 0, 10, false),
  (yX10_nextInEarnest, cX10_nextInEarnest, 1, some (.int), 0, 10, false),
  (yX10_orders, cX10_orders, 5, some (.int), 1, 10, false),
  (yX10_ownAsInEarnest, cX10_ownAsInEarnest, 2, none, 0, 10, false),
  (yX10_ownerInEarnest, cX10_ownerInEarnest, 2, some (.int), 1, 10, false),
  (yX10_port, cX10_port, 2, some (.int), 0, 10, false),
  (yX10_readings, cX10_readings, 1, some (.int), 0, 10, false),
  (yX10_redo, cX10_redo, 1, some (.boolean), 0, 10, false),
  (yX10_seen, cX10_seen, 4, some (.int), 3, 10, false),
  (yX10_sell, cX10_sell, 4, some (.int), 2, 10, false),
  (yX10_share, cX10_share, 6, some (.int), 2, 10, false),
  (yX10_shortest, cX10_shortest, 2, some (.int), 1, 10, false),
  (yX10_sixShares, cX10_sixShares, 7, some (.int), 2, 10, false),
  (yX10_struck, cX10_struck, 7, some (.int), 1, 10, false),
  (yX10_swap, cX10_swap, 2, some (.int), 0, 10, false),
  (yX10_tapeNumber, cX10_tapeNumber, 3, none, 1, 10, false),
  (yX10_turn, cX10_turn, 2, some (.int), 1, 10, false),
  (yX10_undo, cX10_undo, 1, some (.boolean), 0, 10, false),
  (yX10_untell, cX10_untell, 2, some (.boolean), 1, 10, false),
  (yX10_used, cX10_used, 1, some (.int), 0, 10, false),
  (yX10_wipe, cX10_wipe, 2, some (.int), 0, 10, false),
  (yX10_word, cX10_word, 2, some (.int), 1, 10, false),
  (yX10_worth, cX10_worth, 3, some (.int), 2, 10, false),
  (yX10_write, cX10_write, 2, some (.int), 1, 10, false),
  (yX10_written, cX10_written, 4, some (.int), 1, 10, false),
  (yX11_about, cX11_about, 2, some (.int), 1, 11, false),
  (yX11_areGrouped, cX11_areGrouped, 4, some (.boolean), 3, 11, false),
  (yX11_atMost, cX11_atMost, 2, some (.long), 1, 11, true),
  (yX11_back, cX11_back, 3, some (.int), 1, 11, false),
  (yX11_begin, cX11_begin, 2, none, 0, 11, false),
  (yX11_behind, cX11_behind, 4, some (.int), 3, 11, false),
  (yX11_best, cX11_best, 4, some (.int), 1, 11, false),
  (yX11_bribe, cX11_bribe, 3, some (.int), 2, 11, false),
  (yX11_canCome, cX11_canCome, 2, some (.boolean), 1, 11, false),
  (yX11_canGoOn, cX11_canGoOn, 3, some (.boolean), 1, 11, false),
  (yX11_clearBank, cX11_clearBank, 2, none, 0, 11, false),
  (yX11_common, cX11_common, 5, some (.int), 2, 11, true),
  (yX11_doesRead, cX11_doesRead, 8, some (.boolean), 3, 11, false),
  (yX11_doubtful, cX11_doubtful, 4, some (.int), 0, 11, false),
  (yX11_end, cX11_end, 2, some (.int), 1, 11, false),
  (yX11_endsBy, cX11_endsBy, 3, some (.int), 2, 11, false),
  (yX11_exchange, cX11_exchange, 3, none, 1, 11, false),
  (yX11_fails, cX11_fails, 3, none, 2, 11, false),
  (yX11_fault, cX11_fault, 2, some (.int), 1, 11, false),
  (yX11_feed, cX11_feed, 8, some (.int), 5, 11, false),
  (yX11_fit, cX11_fit, 1, some (.int), 0, 11, false),
  (yX11_fresh, cX11_fresh, 3, some (.long), 0, 11, false),
  (yX11_gain, cX11_gain, 3, some (.int), 2, 11, false),
  (yX11_gainOf, cX11_gainOf, 5, some (.int), 2, 11, false),
  (yX11_goOn, cX11_goOn, 3, none, 0, 11, false),
  (yX11_held, cX11_held, 2, some (.int), 1, 11, false),
  (yX11_heldBy, cX11_heldBy, 3, some (.int), 1, 11, false),
  (yX11_hole, cX11_hole, 3, some (.boolean), 2, 11, false),
  (yX11_image, cX11_image, 3, some (.int), 1, 11, false),
  (yX11_isBetter, cX11_isBetter, 6, some (.boolean), 4, 11, false),
  (yX11_isDigit, cX11_isDigit, 1, some (.boolean), 1, 11, true),
  (yX11_isFull, cX11_isFull, 1, some (.boolean), 0, 11, false),
  (yX11_isGood, cX11_isGood, 1, some (.boolean), 0, 11, false),
  (yX11_isGuild, cX11_isGuild, 1, some (.boolean), 1, 11, true),
  (yX11_isIn, cX11_isIn, 3, some (.boolean), 3, 11, true),
  (yX11_isKept, cX11_isKept, 2, some (.boolean), 1, 11, true),
  (yX11_isLetter, cX11_isLetter, 1, some (.boolean), 1, 11, true),
  (yX11_isOnPath, cX11_isOnPath, 3, some (.boolean), 1, 11, false),
  (yX11_isPlace, cX11_isPlace, 2, some (.boolean), 1, 11, false),
  (yX11_isRead, cX11_isRead, 2, some (.boolean), 1, 11, false),
  (yX11_isSignHere, cX11_isSignHere, 2, some (.boolean), 1, 11, false),
  (yX11_isSo, cX11_isSo, 4, some (.boolean), 2, 11, false),
  (yX11_isWord, cX11_isWord, 3, some (.boolean), 1, 11, false),
  (yX11_isWordOf, cX11_isWordOf, 2, some (.boolean), 1, 11, false),
  (yX11_keepAct, cX11_keepAct, 4, none, 2, 11, false),
  (yX11_keyOf, cX11_keyOf, 6, some (.long), 2, 11, false),
  (yX11_known, cX11_known, 2, some (.int), 0, 11, false),
  (yX11_later, cX11_later, 2, some (.int), 1, 11, false),
  (yX11_lay, cX11_lay, 3, none, 1, 11, false),
  (yX11_layEnds, cX11_layEnds, 5, none, 1, 11, false),
  (yX11_layFromNone, cX11_layFromNone, 1, some (.boolean), 0, 11, false),
  (yX11_layFromRow, cX11_layFromRow, 2, some (.boolean), 0, 11, false),
  (yX11_layList, cX11_layList, 6, some (.boolean), 2, 11, false),
  (yX11_layShortest, cX11_layShortest, 5, none, 0, 11, false),
  (yX11_lies, cX11_lies, 2, some (.int), 1, 11, false),
  (yX11_longOf, cX11_longOf, 1, some (.int), 0, 11, false),
  (yX11_lots, cX11_lots, 4, some (.int), 1, 11, false),
  (yX11_means, cX11_means, 2, some (.int), 1, 11, false),
  (yX11_meansOf, cX11_meansOf, 5, some (.int), 2, 11, false),
  (yX11_misplaced, cX11_misplaced, 1, none, 0, 11, false),
  (yX11_must, cX11_must, 2, none, 1, 11, false),
  (yX11_next, cX11_next, 3, some (.int), 0, 11, false),
  (yX11_numeral, cX11_numeral, 4, some (.int), 2, 11, false),
  (yX11_orderTurn, cX11_orderTurn, 6, some (.int), 2, 11, true),
  (yX11_orders, cX11_orders, 4, some (.int), 1, 11, false),
  (yX11_packed, cX11_packed, 3, some (.int), 0, 11, false),
  (yX11_pairOf, cX11_pairOf, 4, some (.int), 3, 11, false),
  (yX11_plays, cX11_plays, 6, some (.int), 1, 11, false),
  (yX11_port, cX11_port, 2, some (.int), 0, 11, false),
  (yX11_readAlt, cX11_readAlt, 2, none, 0, 11, false),
  (yX11_readLine, cX11_readLine, 3, none, 0, 11, false),
  (yX11_readPair, cX11_readPair, 6, none, 0, 11, false),
  (yX11_readRule, cX11_readRule, 2, none, 0, 11, false),
  (yX11_readTurns, cX11_readTurns, 2, none, 0, 11, false),
  (yX11_readWord, cX11_readWord, 3, none, 0, 11, false),
  (yX11_readings, cX11_readings, 1, some (.int), 0, 11, false),
  (yX11_readingsOf, cX11_readingsOf, 6, some (.long), 1, 11, false),
  (yX11_redo, cX11_redo, 1, some (.boolean), 0, 11, false),
  (yX11_ruleOf, cX11_ruleOf, 4, some (.int), 1, 11, false),
  (yX11_seen, cX11_seen, 4, some (.int), 3, 11, false),
  (yX11_sell, cX11_sell, 4, some (.int), 2, 11, false),
  (yX11_settle, cX11_settle, 5, none, 0, 11, false),
  (yX11_share, cX11_share, 7, some (.int), 2, 11, false),
  (yX11_shortest, cX11_shortest, 2, some (.int), 1, 11, false),
  (yX11_sign, cX11_sign, 2, some (.int), 1, 11, false),
  (yX11_struck, cX11_struck, 6, some (.int), 1, 11, false),
  (yX11_sumOf, cX11_sumOf, 5, some (.int), 1, 11, false),
  (yX11_swap, cX11_swap, 7, some (.int), 0, 11, false),
  (yX11_takeCharter, cX11_takeCharter, 2, none, 0, 11, false),
  (yX11_toldTurn, cX11_toldTurn, 2, some (.int), 1, 11, false),
  (yX11_tryRow, cX11_tryRow, 2, none, 0, 11, false),
  (yX11_tryWithout, cX11_tryWithout, 4, none, 1, 11, false),
  (yX11_turn, cX11_turn, 2, some (.int), 1, 11, false),
  (yX11_turnsByOrder, cX11_turnsByOrder, 3, none, 1, 11, false),
  (yX11_turnsNow, cX11_turnsNow, 2, none, 0, 11, false),
  (yX11_undo, cX11_undo, 1, some (.boolean), 0, 11, false),
  (yX11_unpack, cX11_unpack, 3, none, 1, 11, false),
  (yX11_untell, cX11_untell, 2, some (.boolean), 1, 11, false),
  (yX11_used, cX11_used, 5, some (.int), 0, 11, false),
  (yX11_waysBy, cX11_waysBy, 7, some (.long), 3, 11, false),
  (yX11_wipe, cX11_wipe, 2, some (.int), 0, 11, false),
  (yX11_word, cX11_word, 2, some (.int), 1, 11, false),
  (yX11_wordIn, cX11_wordIn, 3, some (.int), 2, 11, false),
  (yX11_wordOf, cX11_wordOf, 4, some (.int), 1, 11, false),
  (yX11_worth, cX11_worth, 3, some (.int), 2, 11, false),
  (yX11_write, cX11_write, 2, some (.int), 1, 11, false),
  (yX11_written, cX11_written, 3, some (.int), 1, 11, false),
  (yJ7_fill_53178, cJ7_fill_53178, 4, none, 2, 13, true),
  (yL_law, cL_law, 4, some .boolean, 1, 14, true)]
def pm_I0 : List (Nat × pm_Ins) := [(0, 4, 0, 1, 0, 0, 0, 0), (1, 24, 0, 3, 0, 7, 0, 44), (4, 4, 0, 1, 0, 0, 0, 0), (5, 24, 0, 3, 0, 8, 0, 47), (8, 22, 0, 3, 5, 13, 2, 0), (11, 0, 0, 1, 0, 0, 0, 0), (12, 39, 1, 1, 0, 0, 0, 0), (13, 4, 0, 1, 0, 0, 0, 0), (14, 26, 0, 3, 0, 4, 0, 22), (17, 4, 0, 1, 0, 0, 0, 0), (18, 24, 0, 3, 0, 7, 0, 44), (21, 32, 0, 1, 0, 0, 0, 0), (22, 5, 0, 1, 0, 1, 0, 0), (23, 4, 0, 1, 0, 0, 0, 0), (24, 26, 0, 3, 0, 3, 0, 18), (27, 4, 0, 1, 0, 0, 0, 0), (28, 24, 0, 3, 0, 7, 0, 44), (31, 33, 0, 1, 0, 0, 0, 0), (32, 21, 0, 3, 21, 53, 0, 0), (35, 4, 0, 1, 0, 0, 0, 0), (36, 26, 0, 3, 0, 2, 0, 15), (39, 2, 0, 1, 0, 1, 0, 0), (40, 4, 0, 1, 0, 0, 0, 0), (41, 26, 0, 3, 0, 6, 0, 28), (44, 4, 0, 1, 0, 0, 0, 0), (45, 24, 0, 3, 0, 7, 0, 44), (48, 32, 0, 1, 0, 0, 0, 0), (49, 36, 0, 1, 0, 0, 0, 0), (50, 20, 0, 3, 25, 75, 0, 0), (53, 4, 0, 1, 0, 0, 0, 0), (54, 26, 0, 3, 0, 0, 0, 9), (57, 2, 0, 1, 0, 1, 0, 0), (58, 4, 0, 1, 0, 0, 0, 0), (59, 26, 0, 3, 0, 6, 0, 28), (62, 4, 0, 1, 0, 0, 0, 0), (63, 24, 0, 3, 0, 7, 0, 44), (66, 32, 0, 1, 0, 0, 0, 0), (67, 36, 0, 1, 0, 0, 0, 0), (68, 4, 0, 1, 0, 0, 0, 0), (69, 2, 0, 1, 0, 1, 0, 0), (70, 0, 0, 1, 1, 0, 0, 0), (71, 9, 0, 1, 0, 0, 0, 0), (72, 27, 0, 3, 0, 1, 0, 37), (75, 4, 0, 1, 0, 0, 0, 0), (76, 17, 0, 1, 0, 0, 0, 0), (77, 24, 0, 3, 0, 7, 0, 44), (80, 0, 0, 1, 1, 0, 0, 0), (81, 9, 0, 1, 0, 0, 0, 0), (82, 27, 0, 3, 0, 7, 0, 44), (85, 0, 0, 1, 1, 0, 0, 0), (86, 39, 1, 1, 0, 0, 0, 0)]
def pm_I1 : List (Nat × pm_Ins) := [(0, 0, 0, 1, 1, 0, 0, 0), (1, 5, 0, 1, 0, 1, 0, 0), (2, 2, 0, 1, 0, 1, 0, 0), (3, 0, 1, 2, 40, 0, 0, 0), (5, 22, 0, 3, 65, 70, 3, 0), (8, 4, 0, 1, 0, 0, 0, 0), (9, 26, 0, 3, 0, 3, 0, 18), (12, 2, 0, 1, 0, 1, 0, 0), (13, 0, 0, 1, 1, 0, 0, 0), (14, 9, 0, 1, 0, 0, 1, 0), (15, 4, 0, 1, 0, 0, 0, 0), (16, 26, 0, 3, 0, 3, 0, 18), (19, 2, 0, 1, 0, 1, 0, 0), (20, 33, 0, 1, 0, 0, 0, 0), (21, 37, 0, 1, 0, 0, 0, 0), (22, 4, 0, 1, 0, 0, 0, 0), (23, 26, 0, 3, 0, 4, 0, 22), (26, 2, 0, 1, 0, 1, 0, 0), (27, 0, 0, 1, 1, 0, 0, 0), (28, 9, 0, 1, 0, 0, 1, 0), (29, 4, 0, 1, 0, 0, 0, 0), (30, 26, 0, 3, 0, 4, 0, 22), (33, 2, 0, 1, 0, 1, 0, 0), (34, 32, 0, 1, 0, 0, 0, 0), (35, 36, 0, 1, 0, 0, 0, 0), (36, 4, 0, 1, 0, 0, 0, 0), (37, 26, 0, 3, 0, 5, 0, 25), (40, 2, 0, 1, 0, 1, 0, 0), (41, 0, 0, 1, 1, 0, 0, 0), (42, 9, 0, 1, 0, 0, 1, 0), (43, 4, 0, 1, 0, 0, 0, 0), (44, 26, 0, 3, 0, 5, 0, 25), (47, 2, 0, 1, 0, 1, 0, 0), (48, 32, 0, 1, 0, 0, 0, 0), (49, 36, 0, 1, 0, 0, 0, 0), (50, 4, 0, 1, 0, 0, 0, 0), (51, 26, 0, 3, 0, 6, 0, 28), (54, 2, 0, 1, 0, 1, 0, 0), (55, 0, 0, 1, 1, 0, 0, 0), (56, 9, 0, 1, 0, 0, 1, 0), (57, 4, 0, 1, 0, 0, 0, 0), (58, 26, 0, 3, 0, 6, 0, 28), (61, 2, 0, 1, 0, 1, 0, 0), (62, 32, 0, 1, 0, 0, 0, 0), (63, 36, 0, 1, 0, 0, 0, 0), (64, 8, 0, 3, 1, 1, 0, 0), (67, 20, 0, 3, (-65), 2, 0, 0), (70, 4, 0, 1, 0, 0, 0, 0), (71, 0, 1, 2, 39, 0, 0, 0), (73, 27, 0, 3, 0, 7, 0, 44), (76, 42, 0, 1, 0, 0, 0, 0)]
def pm_I2 : List (Nat × pm_Ins) := [(0, 4, 0, 1, 0, 0, 0, 0), (1, 0, 0, 1, 0, 0, 0, 0), (2, 27, 0, 3, 0, 1, 0, 37), (5, 4, 0, 1, 0, 0, 0, 0), (6, 26, 0, 3, 0, 2, 0, 15), (9, 0, 0, 1, (-1), 0, 0, 0), (10, 44, 0, 3, 0, 235, 0, 31), (13, 4, 0, 1, 0, 0, 0, 0), (14, 43, 0, 3, 0, 3, 0, 41), (17, 42, 0, 1, 0, 0, 0, 0)]
def pm_I3 : List (Nat × pm_Ins) := [(0, 4, 0, 1, 0, 0, 0, 0), (1, 0, 0, 1, 0, 0, 0, 0), (2, 27, 0, 3, 0, 7, 0, 44), (5, 4, 0, 1, 0, 0, 0, 0), (6, 0, 0, 1, 0, 0, 0, 0), (7, 27, 0, 3, 0, 8, 0, 47), (10, 42, 0, 1, 0, 0, 0, 0)]
def pm_I4 : List (Nat × pm_Ins) := [(0, 4, 0, 1, 0, 0, 0, 0), (1, 24, 0, 3, 0, 7, 0, 44), (4, 0, 1, 2, 40, 0, 0, 0), (6, 22, 0, 3, 7, 13, 2, 0), (9, 4, 0, 1, 0, 0, 0, 0), (10, 43, 0, 3, 0, 1, 0, 58), (13, 4, 0, 1, 0, 0, 0, 0), (14, 26, 0, 3, 0, 3, 0, 18), (17, 4, 0, 1, 0, 0, 0, 0), (18, 24, 0, 3, 0, 7, 0, 44), (21, 2, 0, 1, 0, 1, 0, 0), (22, 37, 0, 1, 0, 0, 0, 0), (23, 4, 0, 1, 0, 0, 0, 0), (24, 26, 0, 3, 0, 4, 0, 22), (27, 4, 0, 1, 0, 0, 0, 0), (28, 24, 0, 3, 0, 7, 0, 44), (31, 2, 0, 1, 0, 2, 0, 0), (32, 36, 0, 1, 0, 0, 0, 0), (33, 4, 0, 1, 0, 0, 0, 0), (34, 26, 0, 3, 0, 5, 0, 25), (37, 4, 0, 1, 0, 0, 0, 0), (38, 24, 0, 3, 0, 7, 0, 44), (41, 2, 0, 1, 0, 3, 0, 0), (42, 36, 0, 1, 0, 0, 0, 0), (43, 4, 0, 1, 0, 0, 0, 0), (44, 26, 0, 3, 0, 6, 0, 28), (47, 4, 0, 1, 0, 0, 0, 0), (48, 24, 0, 3, 0, 7, 0, 44), (51, 2, 1, 2, 0, 4, 0, 0), (53, 36, 0, 1, 0, 0, 0, 0), (54, 4, 0, 1, 0, 0, 0, 0), (55, 4, 0, 1, 0, 0, 0, 0), (56, 24, 0, 3, 0, 7, 0, 44), (59, 0, 0, 1, 1, 0, 0, 0), (60, 9, 0, 1, 0, 0, 0, 0), (61, 27, 0, 3, 0, 8, 0, 47), (64, 42, 0, 1, 0, 0, 0, 0)]
def pm_I5 : List (Nat × pm_Ins) := [(0, 4, 0, 1, 0, 0, 0, 0), (1, 0, 0, 1, 1, 0, 0, 0), (2, 2, 0, 1, 0, 1, 0, 0), (3, 4, 0, 1, 0, 0, 0, 0), (4, 26, 0, 3, 0, 2, 0, 15), (7, 2, 0, 1, 0, 1, 0, 0), (8, 32, 0, 1, 0, 0, 0, 0), (9, 2, 0, 1, 0, 2, 0, 0), (10, 43, 0, 3, 0, 4, 0, 50), (13, 4, 0, 1, 0, 0, 0, 0), (14, 43, 0, 3, 0, 0, 0, 54), (17, 18, 0, 1, 0, 0, 0, 0), (18, 42, 0, 1, 0, 0, 0, 0)]
def pm_I6 : List (Nat × pm_Ins) := [(0, 4, 0, 1, 0, 0, 0, 0), (1, 0, 0, 1, 0, 0, 0, 0), (2, 4, 0, 1, 0, 0, 0, 0), (3, 24, 0, 3, 0, 1, 0, 37), (6, 0, 0, 1, (-1), 0, 0, 0), (7, 2, 0, 1, 0, 1, 0, 0), (8, 43, 0, 3, 0, 4, 0, 50), (11, 4, 0, 1, 0, 0, 0, 0), (12, 43, 0, 3, 0, 0, 0, 54), (15, 18, 0, 1, 0, 0, 0, 0), (16, 42, 0, 1, 0, 0, 0, 0)]
def pm_I7 : List (Nat × pm_Ins) := [(0, 0, 0, 1, 0, 0, 0, 0), (1, 5, 0, 1, 0, 3, 0, 0), (2, 0, 0, 1, 0, 0, 0, 0), (3, 5, 1, 2, 0, 4, 0, 0), (5, 2, 1, 2, 0, 4, 0, 0), (7, 4, 0, 1, 0, 0, 0, 0), (8, 24, 0, 3, 0, 1, 0, 37), (11, 22, 0, 3, 28, 39, 3, 0), (14, 2, 1, 2, 0, 4, 0, 0), (16, 2, 0, 1, 0, 1, 0, 0), (17, 22, 0, 3, 16, 33, 0, 0), (20, 4, 0, 1, 0, 2, 0, 0), (21, 2, 0, 1, 0, 3, 0, 0), (22, 4, 0, 1, 0, 0, 0, 0), (23, 26, 0, 3, 0, 0, 0, 9), (26, 2, 1, 2, 0, 4, 0, 0), (28, 32, 0, 1, 0, 0, 0, 0), (29, 36, 0, 1, 0, 0, 0, 0), (30, 8, 0, 3, 1, 3, 0, 0), (33, 8, 0, 3, 1, 4, 0, 0), (36, 20, 0, 3, (-31), 5, 0, 0), (39, 2, 0, 1, 0, 3, 0, 0), (40, 39, 0, 1, 0, 0, 0, 0)]
def pm_I8 : List (Nat × pm_Ins) := [(0, 4, 0, 1, 0, 0, 0, 0), (1, 24, 0, 3, 0, 7, 0, 44), (4, 21, 0, 3, 5, 9, 4, 0), (7, 0, 0, 1, 0, 0, 0, 0), (8, 39, 1, 1, 0, 0, 0, 0), (9, 4, 0, 1, 0, 0, 0, 0), (10, 17, 0, 1, 0, 0, 0, 0), (11, 24, 0, 3, 0, 7, 0, 44), (14, 0, 0, 1, 1, 0, 0, 0), (15, 9, 0, 1, 0, 0, 1, 0), (16, 27, 0, 3, 0, 7, 0, 44), (19, 4, 0, 1, 0, 0, 0, 0), (20, 26, 0, 3, 0, 3, 0, 18), (23, 4, 0, 1, 0, 0, 0, 0), (24, 24, 0, 3, 0, 7, 0, 44), (27, 33, 0, 1, 0, 0, 0, 0), (28, 21, 0, 3, 29, 57, 0, 0), (31, 4, 0, 1, 0, 0, 0, 0), (32, 26, 0, 3, 0, 2, 0, 15), (35, 4, 0, 1, 0, 0, 0, 0), (36, 26, 0, 3, 0, 4, 0, 22), (39, 4, 0, 1, 0, 0, 0, 0), (40, 24, 0, 3, 0, 7, 0, 44), (43, 32, 0, 1, 0, 0, 0, 0), (44, 4, 0, 1, 0, 0, 0, 0), (45, 26, 0, 3, 0, 5, 0, 25), (48, 4, 0, 1, 0, 0, 0, 0), (49, 24, 0, 3, 0, 7, 0, 44), (52, 32, 0, 1, 0, 0, 0, 0), (53, 36, 0, 1, 0, 0, 0, 0), (54, 20, 0, 3, 16, 70, 0, 0), (57, 4, 0, 1, 0, 0, 0, 0), (58, 4, 0, 1, 0, 0, 0, 0), (59, 26, 0, 3, 0, 4, 0, 22), (62, 4, 0, 1, 0, 0, 0, 0), (63, 24, 0, 3, 0, 7, 0, 44), (66, 32, 0, 1, 0, 0, 0, 0), (67, 27, 0, 3, 0, 1, 0, 37), (70, 0, 0, 1, 1, 0, 0, 0), (71, 39, 1, 1, 0, 0, 0, 0)]
def pm_I9 : List (Nat × pm_Ins) := [(0, 4, 0, 1, 0, 1, 0, 0), (1, 4, 0, 1, 0, 0, 0, 0), (2, 24, 0, 3, 0, 2, 1, 28), (5, 27, 0, 3, 0, 1, 0, 22), (8, 4, 0, 1, 0, 0, 0, 0), (9, 26, 0, 3, 0, 1, 1, 9), (12, 0, 0, 1, 0, 0, 0, 0), (13, 4, 0, 1, 0, 1, 0, 0), (14, 26, 0, 3, 0, 0, 0, 29), (17, 0, 0, 1, 0, 0, 0, 0), (18, 0, 1, 2, 6, 0, 0, 0), (20, 45, 0, 3, 0, 0, 0, 30), (23, 4, 0, 1, 0, 0, 0, 0), (24, 26, 0, 3, 0, 3, 1, 15), (27, 0, 0, 1, 0, 0, 0, 0), (28, 4, 0, 1, 0, 1, 0, 0), (29, 26, 0, 3, 0, 2, 0, 36), (32, 0, 0, 1, 0, 0, 0, 0), (33, 0, 1, 2, 6, 0, 0, 0), (35, 45, 0, 3, 0, 0, 0, 30), (38, 4, 0, 1, 0, 1, 0, 0), (39, 43, 0, 3, 0, 3, 0, 37), (42, 42, 0, 1, 0, 0, 0, 0)]
def pm_I10 : List (Nat × pm_Ins) := [(0, 4, 0, 1, 0, 0, 0, 0), (1, 0, 0, 1, 1, 0, 0, 0), (2, 27, 0, 3, 0, 0, 1, 18), (5, 4, 0, 1, 0, 0, 0, 0), (6, 4, 0, 1, 0, 1, 0, 0), (7, 24, 0, 3, 0, 1, 0, 22), (10, 27, 0, 3, 0, 2, 1, 28), (13, 4, 0, 1, 0, 1, 0, 0), (14, 26, 0, 3, 0, 0, 0, 29), (17, 0, 0, 1, 0, 0, 0, 0), (18, 4, 0, 1, 0, 0, 0, 0), (19, 26, 0, 3, 0, 1, 1, 9), (22, 0, 0, 1, 0, 0, 0, 0), (23, 0, 1, 2, 6, 0, 0, 0), (25, 45, 0, 3, 0, 0, 0, 30), (28, 4, 0, 1, 0, 1, 0, 0), (29, 26, 0, 3, 0, 2, 0, 36), (32, 0, 0, 1, 0, 0, 0, 0), (33, 4, 0, 1, 0, 0, 0, 0), (34, 26, 0, 3, 0, 3, 1, 15), (37, 0, 0, 1, 0, 0, 0, 0), (38, 0, 1, 2, 6, 0, 0, 0), (40, 45, 0, 3, 0, 0, 0, 30), (43, 42, 0, 1, 0, 0, 0, 0)]
def pm_I11 : List (Nat × pm_Ins) := [(0, 0, 0, 1, 0, 0, 0, 0), (1, 5, 0, 1, 0, 3, 0, 0), (2, 2, 0, 1, 0, 3, 0, 0), (3, 4, 0, 1, 0, 0, 0, 0), (4, 26, 0, 3, 0, 1, 2, 21), (7, 26, 0, 3, 0, 10, 4, 150), (10, 2, 0, 1, 0, 2, 0, 0), (11, 32, 0, 1, 0, 0, 0, 0), (12, 22, 0, 3, 125, 137, 3, 0), (15, 2, 0, 1, 0, 2, 0, 0), (16, 0, 0, 1, 4, 0, 0, 0), (17, 9, 0, 1, 0, 0, 2, 0), (18, 2, 0, 1, 0, 3, 0, 0), (19, 9, 0, 1, 0, 0, 0, 0), (20, 5, 1, 2, 0, 4, 0, 0), (22, 4, 0, 1, 0, 0, 0, 0), (23, 26, 0, 3, 0, 1, 2, 21), (26, 4, 0, 1, 0, 0, 0, 0), (27, 26, 0, 3, 0, 2, 2, 25), (30, 2, 1, 2, 0, 4, 0, 0), (32, 34, 0, 1, 0, 0, 0, 0), (33, 43, 0, 3, 0, 49, 0, 100), (36, 5, 1, 2, 0, 5, 0, 0), (38, 4, 0, 1, 0, 0, 0, 0), (39, 26, 0, 3, 0, 0, 2, 12), (42, 4, 0, 1, 0, 0, 0, 0), (43, 26, 0, 3, 0, 3, 2, 29), (46, 2, 1, 2, 0, 4, 0, 0), (48, 32, 0, 1, 0, 0, 0, 0), (49, 27, 0, 3, 0, 4, 8, 147), (52, 2, 1, 2, 0, 5, 0, 0), (54, 0, 0, 1, (-1), 0, 0, 0), (55, 22, 0, 3, 13, 68, 1, 0), (58, 4, 0, 1, 0, 0, 0, 0), (59, 26, 0, 3, 0, 0, 2, 12), (62, 0, 1, 2, 6, 0, 0, 0), (64, 43, 0, 3, 0, 66, 0, 63), (67, 39, 1, 1, 0, 0, 0, 0), (68, 4, 0, 1, 0, 0, 0, 0), (69, 26, 0, 3, 0, 1, 2, 21), (72, 26, 0, 3, 0, 10, 4, 150), (75, 2, 0, 1, 0, 2, 0, 0), (76, 32, 0, 1, 0, 0, 0, 0), (77, 0, 0, 1, 1, 0, 0, 0), (78, 22, 0, 3, 7, 85, 1, 0), (81, 0, 0, 1, 1, 0, 0, 0), (82, 20, 0, 3, 4, 86, 0, 0), (85, 0, 0, 1, 0, 0, 0, 0), (86, 5, 1, 2, 0, 6, 0, 0), (88, 2, 1, 2, 0, 6, 0, 0), (90, 21, 0, 3, 29, 119, 0, 0), (93, 2, 1, 2, 0, 5, 0, 0), (95, 0, 1, 2, 8, 0, 0, 0), (97, 22, 0, 3, 22, 119, 2, 0), (100, 2, 1, 2, 0, 5, 0, 0), (102, 0, 1, 2, 8, 0, 0, 0), (104, 9, 0, 1, 0, 0, 1, 0), (105, 2, 0, 1, 0, 1, 0, 0), (106, 22, 0, 3, 13, 119, 4, 0), (109, 4, 0, 1, 0, 0, 0, 0), (110, 26, 0, 3, 0, 0, 2, 12), (113, 0, 1, 2, 7, 0, 0, 0), (115, 43, 0, 3, 0, 66, 0, 63), (118, 39, 1, 1, 0, 0, 0, 0), (119, 4, 0, 1, 0, 0, 0, 0), (120, 26, 0, 3, 0, 1, 2, 21), (123, 26, 0, 3, 0, 11, 4, 169), (126, 2, 1, 2, 0, 4, 0, 0), (128, 2, 1, 2, 0, 5, 0, 0), (130, 36, 0, 1, 0, 0, 0, 0), (131, 8, 0, 3, 1, 3, 0, 0), (134, 20, 0, 3, (-132), 2, 0, 0), (137, 0, 0, 1, 1, 0, 0, 0), (138, 39, 1, 1, 0, 0, 0, 0)]
def pm_I12 : List (Nat × pm_Ins) := [(0, 0, 0, 1, 0, 0, 0, 0), (1, 5, 0, 1, 0, 1, 0, 0), (2, 2, 0, 1, 0, 1, 0, 0), (3, 4, 0, 1, 0, 0, 0, 0), (4, 26, 0, 3, 0, 1, 2, 21), (7, 24, 0, 3, 0, 6, 4, 132), (10, 22, 0, 3, 51, 61, 3, 0), (13, 4, 0, 1, 0, 0, 0, 0), (14, 26, 0, 3, 0, 1, 2, 21), (17, 26, 0, 3, 0, 8, 4, 141), (20, 2, 0, 1, 0, 1, 0, 0), (21, 32, 0, 1, 0, 0, 0, 0), (22, 5, 0, 1, 0, 2, 0, 0), (23, 2, 0, 1, 0, 2, 0, 0), (24, 4, 0, 1, 0, 0, 0, 0), (25, 26, 0, 3, 0, 1, 2, 21), (28, 26, 0, 3, 0, 8, 4, 141), (31, 2, 0, 1, 0, 1, 0, 0), (32, 0, 0, 1, 1, 0, 0, 0), (33, 9, 0, 1, 0, 0, 0, 0), (34, 32, 0, 1, 0, 0, 0, 0), (35, 22, 0, 3, 20, 55, 3, 0), (38, 4, 0, 1, 0, 0, 0, 0), (39, 2, 0, 1, 0, 1, 0, 0), (40, 2, 0, 1, 0, 2, 0, 0), (41, 43, 0, 3, 0, 11, 0, 166), (44, 21, 0, 3, 5, 49, 1, 0), (47, 0, 0, 1, 0, 0, 0, 0), (48, 39, 1, 1, 0, 0, 0, 0), (49, 8, 0, 3, 1, 2, 0, 0), (52, 20, 0, 3, (-29), 23, 0, 0), (55, 8, 0, 3, 1, 1, 0, 0), (58, 20, 0, 3, (-56), 2, 0, 0), (61, 0, 0, 1, 1, 0, 0, 0), (62, 39, 1, 1, 0, 0, 0, 0)]
def pm_I13 : List (Nat × pm_Ins) := [(0, 4, 0, 1, 0, 0, 0, 0), (1, 26, 0, 3, 0, 0, 2, 12), (4, 24, 0, 3, 0, 5, 8, 44), (7, 2, 0, 1, 0, 1, 0, 0), (8, 22, 0, 3, 12, 20, 0, 0), (11, 4, 0, 1, 0, 0, 0, 0), (12, 26, 0, 3, 0, 0, 2, 12), (15, 0, 0, 1, 2, 0, 0, 0), (16, 43, 0, 3, 0, 66, 0, 63), (19, 39, 1, 1, 0, 0, 0, 0), (20, 4, 0, 1, 0, 0, 0, 0), (21, 26, 0, 3, 0, 0, 2, 12), (24, 43, 0, 3, 0, 64, 0, 73), (27, 4, 0, 1, 0, 0, 0, 0), (28, 26, 0, 3, 0, 0, 2, 12), (31, 24, 0, 3, 0, 8, 8, 40), (34, 21, 0, 3, 7, 41, 1, 0), (37, 0, 0, 1, 1, 0, 0, 0), (38, 20, 0, 3, 4, 42, 0, 0), (41, 0, 0, 1, 0, 0, 0, 0), (42, 39, 1, 1, 0, 0, 0, 0)]
def pm_I14 : List (Nat × pm_Ins) := [(0, 2, 0, 1, 0, 1, 0, 0), (1, 21, 0, 3, 17, 18, 0, 0), (4, 4, 0, 1, 0, 0, 0, 0), (5, 4, 0, 1, 0, 0, 0, 0), (6, 26, 0, 3, 0, 0, 2, 12), (9, 24, 0, 3, 0, 5, 8, 44), (12, 43, 0, 3, 0, 13, 0, 67), (15, 20, 0, 3, 11, 26, 0, 0), (18, 4, 0, 1, 0, 0, 0, 0), (19, 26, 0, 3, 0, 0, 2, 12), (22, 0, 0, 1, 2, 0, 0, 0), (23, 43, 0, 3, 0, 66, 0, 63), (26, 39, 1, 1, 0, 0, 0, 0)]
def pm_I15 : List (Nat × pm_Ins) := [(0, 4, 0, 1, 0, 0, 0, 0), (1, 26, 0, 3, 0, 0, 2, 12), (4, 24, 0, 3, 0, 5, 8, 44), (7, 0, 0, 1, 5, 0, 0, 0), (8, 22, 0, 3, 30, 38, 1, 0), (11, 4, 0, 1, 0, 0, 0, 0), (12, 26, 0, 3, 0, 1, 2, 21), (15, 4, 0, 1, 0, 0, 0, 0), (16, 26, 0, 3, 0, 0, 2, 12), (19, 25, 0, 3, 0, 6, 8, 83), (22, 43, 0, 3, 0, 49, 0, 100), (25, 0, 0, 1, (-1), 0, 0, 0), (26, 22, 0, 3, 12, 38, 0, 0), (29, 4, 0, 1, 0, 0, 0, 0), (30, 26, 0, 3, 0, 0, 2, 12), (33, 0, 0, 1, 3, 0, 0, 0), (34, 43, 0, 3, 0, 66, 0, 63), (37, 39, 1, 1, 0, 0, 0, 0), (38, 4, 0, 1, 0, 0, 0, 0), (39, 0, 0, 1, 5, 0, 0, 0), (40, 43, 0, 3, 0, 13, 0, 67), (43, 39, 1, 1, 0, 0, 0, 0)]
def pm_I16 : List (Nat × pm_Ins) := [(0, 4, 0, 1, 0, 0, 0, 0), (1, 26, 0, 3, 0, 0, 2, 12), (4, 24, 0, 3, 0, 5, 8, 44), (7, 0, 0, 1, 4, 0, 0, 0), (8, 22, 0, 3, 12, 20, 0, 0), (11, 4, 0, 1, 0, 0, 0, 0), (12, 26, 0, 3, 0, 0, 2, 12), (15, 0, 0, 1, 2, 0, 0, 0), (16, 43, 0, 3, 0, 66, 0, 63), (19, 39, 1, 1, 0, 0, 0, 0), (20, 4, 0, 1, 0, 0, 0, 0), (21, 26, 0, 3, 0, 0, 2, 12), (24, 24, 0, 3, 0, 7, 8, 104), (27, 2, 0, 1, 0, 1, 0, 0), (28, 22, 0, 3, 14, 42, 2, 0), (31, 4, 0, 1, 0, 0, 0, 0), (32, 26, 0, 3, 0, 0, 2, 12), (35, 24, 0, 3, 0, 7, 8, 104), (38, 2, 0, 1, 0, 2, 0, 0), (39, 22, 0, 3, 12, 51, 5, 0), (42, 4, 0, 1, 0, 0, 0, 0), (43, 26, 0, 3, 0, 0, 2, 12), (46, 0, 0, 1, 4, 0, 0, 0), (47, 43, 0, 3, 0, 66, 0, 63), (50, 39, 1, 1, 0, 0, 0, 0), (51, 4, 0, 1, 0, 0, 0, 0), (52, 26, 0, 3, 0, 0, 2, 12), (55, 43, 0, 3, 0, 64, 0, 73), (58, 4, 0, 1, 0, 0, 0, 0), (59, 26, 0, 3, 0, 0, 2, 12), (62, 24, 0, 3, 0, 8, 8, 40), (65, 21, 0, 3, 7, 72, 1, 0), (68, 0, 0, 1, 1, 0, 0, 0), (69, 20, 0, 3, 4, 73, 0, 0), (72, 0, 0, 1, 0, 0, 0, 0), (73, 39, 1, 1, 0, 0, 0, 0)]
def pm_I17 : List (Nat × pm_Ins) := [(0, 4, 0, 1, 0, 0, 0, 0), (1, 26, 0, 3, 0, 0, 2, 12), (4, 24, 0, 3, 0, 5, 8, 44), (7, 0, 0, 1, 5, 0, 0, 0), (8, 22, 0, 3, 12, 20, 0, 0), (11, 4, 0, 1, 0, 0, 0, 0), (12, 26, 0, 3, 0, 0, 2, 12), (15, 0, 0, 1, 2, 0, 0, 0), (16, 43, 0, 3, 0, 66, 0, 63), (19, 39, 1, 1, 0, 0, 0, 0), (20, 2, 0, 1, 0, 2, 0, 0), (21, 21, 0, 3, 12, 33, 0, 0), (24, 4, 0, 1, 0, 0, 0, 0), (25, 26, 0, 3, 0, 0, 2, 12), (28, 0, 0, 1, 3, 0, 0, 0), (29, 43, 0, 3, 0, 66, 0, 63), (32, 39, 1, 1, 0, 0, 0, 0), (33, 4, 0, 1, 0, 0, 0, 0), (34, 26, 0, 3, 0, 1, 2, 21), (37, 2, 0, 1, 0, 1, 0, 0), (38, 43, 0, 3, 0, 43, 0, 122), (41, 21, 0, 3, 11, 52, 0, 0), (44, 4, 0, 1, 0, 0, 0, 0), (45, 0, 0, 1, 5, 0, 0, 0), (46, 43, 0, 3, 0, 13, 0, 67), (49, 20, 0, 3, 11, 60, 0, 0), (52, 4, 0, 1, 0, 0, 0, 0), (53, 26, 0, 3, 0, 0, 2, 12), (56, 0, 0, 1, 5, 0, 0, 0), (57, 43, 0, 3, 0, 66, 0, 63), (60, 39, 1, 1, 0, 0, 0, 0)]
def pm_I18 : List (Nat × pm_Ins) := [(0, 4, 0, 1, 0, 0, 0, 0), (1, 26, 0, 3, 0, 1, 2, 21), (4, 24, 0, 3, 0, 9, 4, 144), (7, 0, 1, 2, 24, 0, 0, 0), (9, 22, 0, 3, 14, 23, 3, 0), (12, 4, 0, 1, 0, 0, 0, 0), (13, 26, 0, 3, 0, 0, 2, 12), (16, 24, 0, 3, 0, 5, 8, 44), (19, 0, 0, 1, 5, 0, 0, 0), (20, 22, 0, 3, 12, 32, 0, 0), (23, 4, 0, 1, 0, 0, 0, 0), (24, 26, 0, 3, 0, 0, 2, 12), (27, 0, 0, 1, 2, 0, 0, 0), (28, 43, 0, 3, 0, 66, 0, 63), (31, 39, 1, 1, 0, 0, 0, 0), (32, 0, 0, 1, 0, 0, 0, 0), (33, 5, 0, 1, 0, 1, 0, 0), (34, 2, 0, 1, 0, 1, 0, 0), (35, 0, 0, 1, 4, 0, 0, 0), (36, 22, 0, 3, 76, 112, 3, 0), (39, 4, 0, 1, 0, 0, 0, 0), (40, 26, 0, 3, 0, 0, 2, 12), (43, 24, 0, 3, 0, 5, 8, 44), (46, 0, 0, 1, 5, 0, 0, 0), (47, 22, 0, 3, 65, 112, 1, 0), (50, 4, 0, 1, 0, 0, 0, 0), (51, 26, 0, 3, 0, 2, 2, 25), (54, 4, 0, 1, 0, 0, 0, 0), (55, 26, 0, 3, 0, 1, 2, 21), (58, 24, 0, 3, 0, 9, 4, 144), (61, 0, 0, 1, 4, 0, 0, 0), (62, 9, 0, 1, 0, 0, 2, 0), (63, 2, 0, 1, 0, 1, 0, 0), (64, 9, 0, 1, 0, 0, 0, 0), (65, 4, 0, 1, 0, 0, 0, 0), (66, 26, 0, 3, 0, 0, 2, 12), (69, 25, 0, 3, 0, 6, 8, 83), (72, 38, 0, 1, 0, 0, 0, 0), (73, 4, 0, 1, 0, 0, 0, 0), (74, 26, 0, 3, 0, 3, 2, 29), (77, 4, 0, 1, 0, 0, 0, 0), (78, 26, 0, 3, 0, 1, 2, 21), (81, 24, 0, 3, 0, 9, 4, 144), (84, 0, 0, 1, 4, 0, 0, 0), (85, 9, 0, 1, 0, 0, 2, 0), (86, 2, 0, 1, 0, 1, 0, 0), (87, 9, 0, 1, 0, 0, 0, 0), (88, 4, 0, 1, 0, 0, 0, 0), (89, 26, 0, 3, 0, 0, 2, 12), (92, 24, 0, 3, 0, 4, 8, 147), (95, 36, 0, 1, 0, 0, 0, 0), (96, 4, 0, 1, 0, 0, 0, 0), (97, 0, 0, 1, 5, 0, 0, 0), (98, 43, 0, 3, 0, 13, 0, 67), (101, 21, 0, 3, 5, 106, 1, 0), (104, 0, 0, 1, 0, 0, 0, 0), (105, 39, 1, 1, 0, 0, 0, 0), (106, 8, 0, 3, 1, 1, 0, 0), (109, 20, 0, 3, (-75), 34, 0, 0), (112, 4, 0, 1, 0, 0, 0, 0), (113, 26, 0, 3, 0, 1, 2, 21), (116, 26, 0, 3, 0, 10, 4, 150), (119, 4, 0, 1, 0, 0, 0, 0), (120, 26, 0, 3, 0, 1, 2, 21), (123, 24, 0, 3, 0, 9, 4, 144), (126, 2, 0, 1, 0, 1, 0, 0), (127, 36, 0, 1, 0, 0, 0, 0), (128, 4, 0, 1, 0, 0, 0, 0), (129, 26, 0, 3, 0, 1, 2, 21), (132, 17, 0, 1, 0, 0, 0, 0), (133, 24, 0, 3, 0, 9, 4, 144), (136, 0, 0, 1, 1, 0, 0, 0), (137, 9, 0, 1, 0, 0, 0, 0), (138, 27, 0, 3, 0, 9, 4, 144), (141, 4, 0, 1, 0, 0, 0, 0), (142, 26, 0, 3, 0, 0, 2, 12), (145, 24, 0, 3, 0, 5, 8, 44), (148, 0, 0, 1, 5, 0, 0, 0), (149, 22, 0, 3, 14, 163, 1, 0), (152, 4, 0, 1, 0, 0, 0, 0), (153, 26, 0, 3, 0, 0, 2, 12), (156, 0, 0, 1, 2, 0, 0, 0), (157, 43, 0, 3, 0, 66, 0, 63), (160, 21, 0, 3, 7, 167, 0, 0), (163, 0, 0, 1, 1, 0, 0, 0), (164, 20, 0, 3, 4, 168, 0, 0), (167, 0, 0, 1, 0, 0, 0, 0), (168, 39, 1, 1, 0, 0, 0, 0)]
def pm_I19 : List (Nat × pm_Ins) := [(0, 4, 0, 1, 0, 0, 0, 0), (1, 4, 0, 1, 0, 0, 0, 0), (2, 26, 0, 3, 0, 1, 2, 21), (5, 24, 0, 3, 0, 13, 4, 153), (8, 21, 0, 3, 7, 15, 1, 0), (11, 0, 0, 1, 1, 0, 0, 0), (12, 20, 0, 3, 4, 16, 0, 0), (15, 0, 0, 1, 0, 0, 0, 0), (16, 43, 0, 3, 0, 14, 0, 79), (19, 21, 0, 3, 5, 24, 1, 0), (22, 0, 0, 1, 0, 0, 0, 0), (23, 39, 1, 1, 0, 0, 0, 0), (24, 4, 0, 1, 0, 0, 0, 0), (25, 26, 0, 3, 0, 0, 2, 12), (28, 24, 0, 3, 0, 7, 8, 104), (31, 5, 0, 1, 0, 1, 0, 0), (32, 4, 0, 1, 0, 0, 0, 0), (33, 0, 0, 1, 1, 0, 0, 0), (34, 0, 1, 2, 6, 0, 0, 0), (36, 43, 0, 3, 0, 16, 0, 107), (39, 21, 0, 3, 5, 44, 1, 0), (42, 0, 0, 1, 0, 0, 0, 0), (43, 39, 1, 1, 0, 0, 0, 0), (44, 4, 0, 1, 0, 0, 0, 0), (45, 26, 0, 3, 0, 1, 2, 21), (48, 2, 0, 1, 0, 1, 0, 0), (49, 27, 0, 3, 0, 12, 4, 157), (52, 4, 0, 1, 0, 0, 0, 0), (53, 26, 0, 3, 0, 1, 2, 21), (56, 0, 0, 1, 1, 0, 0, 0), (57, 27, 0, 3, 0, 13, 4, 153), (60, 0, 0, 1, 1, 0, 0, 0), (61, 39, 1, 1, 0, 0, 0, 0)]
def pm_I20 : List (Nat × pm_Ins) := [(0, 4, 0, 1, 0, 0, 0, 0), (1, 4, 0, 1, 0, 0, 0, 0), (2, 26, 0, 3, 0, 1, 2, 21), (5, 24, 0, 3, 0, 3, 4, 111), (8, 0, 1, 2, 12, 0, 0, 0), (10, 22, 0, 3, 7, 17, 3, 0), (13, 0, 0, 1, 1, 0, 0, 0), (14, 20, 0, 3, 4, 18, 0, 0), (17, 0, 0, 1, 0, 0, 0, 0), (18, 43, 0, 3, 0, 14, 0, 79), (21, 21, 0, 3, 5, 26, 1, 0), (24, 0, 0, 1, 0, 0, 0, 0), (25, 39, 1, 1, 0, 0, 0, 0), (26, 4, 0, 1, 0, 0, 0, 0), (27, 43, 0, 3, 0, 26, 0, 114), (30, 5, 0, 1, 0, 1, 0, 0), (31, 4, 0, 1, 0, 0, 0, 0), (32, 2, 0, 1, 0, 1, 0, 0), (33, 0, 0, 1, 0, 0, 0, 0), (34, 43, 0, 3, 0, 17, 0, 118), (37, 21, 0, 3, 5, 42, 1, 0), (40, 0, 0, 1, 0, 0, 0, 0), (41, 39, 1, 1, 0, 0, 0, 0), (42, 4, 0, 1, 0, 0, 0, 0), (43, 43, 0, 3, 0, 26, 0, 114), (46, 5, 0, 1, 0, 2, 0, 0), (47, 2, 0, 1, 0, 1, 0, 0), (48, 0, 1, 2, 8, 0, 0, 0), (50, 9, 0, 1, 0, 0, 2, 0), (51, 2, 0, 1, 0, 2, 0, 0), (52, 9, 0, 1, 0, 0, 0, 0), (53, 5, 0, 1, 0, 3, 0, 0), (54, 4, 0, 1, 0, 0, 0, 0), (55, 26, 0, 3, 0, 1, 2, 21), (58, 2, 0, 1, 0, 2, 0, 0), (59, 43, 0, 3, 0, 43, 0, 122), (62, 21, 0, 3, 19, 81, 0, 0), (65, 4, 0, 1, 0, 0, 0, 0), (66, 26, 0, 3, 0, 1, 2, 21), (69, 26, 0, 3, 0, 4, 4, 125), (72, 2, 0, 1, 0, 3, 0, 0), (73, 33, 0, 1, 0, 0, 0, 0), (74, 21, 0, 3, 7, 81, 0, 0), (77, 0, 0, 1, 1, 0, 0, 0), (78, 20, 0, 3, 4, 82, 0, 0), (81, 0, 0, 1, 0, 0, 0, 0), (82, 5, 1, 2, 0, 4, 0, 0), (84, 4, 0, 1, 0, 0, 0, 0), (85, 2, 0, 1, 0, 2, 0, 0), (86, 2, 1, 2, 0, 4, 0, 0), (88, 43, 0, 3, 0, 17, 0, 118), (91, 21, 0, 3, 20, 111, 0, 0), (94, 4, 0, 1, 0, 0, 0, 0), (95, 4, 0, 1, 0, 0, 0, 0), (96, 26, 0, 3, 0, 1, 2, 21), (99, 26, 0, 3, 0, 5, 4, 129), (102, 2, 0, 1, 0, 3, 0, 0), (103, 0, 0, 1, 3, 0, 0, 0), (104, 9, 0, 1, 0, 0, 2, 0), (105, 43, 0, 3, 0, 24, 0, 93), (108, 21, 0, 3, 5, 113, 1, 0), (111, 0, 0, 1, 0, 0, 0, 0), (112, 39, 1, 1, 0, 0, 0, 0), (113, 4, 0, 1, 0, 0, 0, 0), (114, 26, 0, 3, 0, 1, 2, 21), (117, 26, 0, 3, 0, 4, 4, 125), (120, 2, 0, 1, 0, 3, 0, 0), (121, 0, 0, 1, 1, 0, 0, 0), (122, 37, 0, 1, 0, 0, 0, 0), (123, 4, 0, 1, 0, 0, 0, 0), (124, 26, 0, 3, 0, 1, 2, 21), (127, 17, 0, 1, 0, 0, 0, 0), (128, 24, 0, 3, 0, 3, 4, 111), (131, 0, 0, 1, 1, 0, 0, 0), (132, 9, 0, 1, 0, 0, 0, 0), (133, 27, 0, 3, 0, 3, 4, 111), (136, 0, 0, 1, 1, 0, 0, 0), (137, 39, 1, 1, 0, 0, 0, 0)]
def pm_I21 : List (Nat × pm_Ins) := [(0, 4, 0, 1, 0, 0, 0, 0), (1, 4, 0, 1, 0, 0, 0, 0), (2, 26, 0, 3, 0, 1, 2, 21), (5, 24, 0, 3, 0, 6, 4, 132), (8, 0, 1, 2, 8, 0, 0, 0), (10, 22, 0, 3, 7, 17, 3, 0), (13, 0, 0, 1, 1, 0, 0, 0), (14, 20, 0, 3, 4, 18, 0, 0), (17, 0, 0, 1, 0, 0, 0, 0), (18, 43, 0, 3, 0, 14, 0, 79), (21, 21, 0, 3, 5, 26, 1, 0), (24, 0, 0, 1, 0, 0, 0, 0), (25, 39, 1, 1, 0, 0, 0, 0), (26, 4, 0, 1, 0, 0, 0, 0), (27, 26, 0, 3, 0, 0, 2, 12), (30, 25, 0, 3, 0, 6, 8, 83), (33, 6, 0, 1, 0, 1, 0, 0), (34, 4, 0, 1, 0, 0, 0, 0), (35, 43, 0, 3, 0, 15, 0, 87), (38, 21, 0, 3, 11, 49, 0, 0), (41, 4, 0, 1, 0, 0, 0, 0), (42, 0, 0, 1, 3, 0, 0, 0), (43, 43, 0, 3, 0, 13, 0, 67), (46, 21, 0, 3, 5, 51, 1, 0), (49, 0, 0, 1, 0, 0, 0, 0), (50, 39, 1, 1, 0, 0, 0, 0), (51, 4, 0, 1, 0, 0, 0, 0), (52, 26, 0, 3, 0, 1, 2, 21), (55, 26, 0, 3, 0, 7, 4, 135), (58, 4, 0, 1, 0, 0, 0, 0), (59, 26, 0, 3, 0, 1, 2, 21), (62, 24, 0, 3, 0, 6, 4, 132), (65, 3, 0, 1, 0, 1, 0, 0), (66, 38, 0, 1, 0, 0, 0, 0), (67, 4, 0, 1, 0, 0, 0, 0), (68, 26, 0, 3, 0, 1, 2, 21), (71, 17, 0, 1, 0, 0, 0, 0), (72, 24, 0, 3, 0, 6, 4, 132), (75, 0, 0, 1, 1, 0, 0, 0), (76, 9, 0, 1, 0, 0, 0, 0), (77, 27, 0, 3, 0, 6, 4, 132), (80, 0, 0, 1, 1, 0, 0, 0), (81, 5, 0, 1, 0, 3, 0, 0), (82, 0, 0, 1, 0, 0, 0, 0), (83, 5, 1, 2, 0, 4, 0, 0), (85, 2, 1, 2, 0, 4, 0, 0), (87, 0, 1, 2, 24, 0, 0, 0), (89, 22, 0, 3, 55, 144, 4, 0), (92, 2, 0, 1, 0, 3, 0, 0), (93, 21, 0, 3, 51, 144, 0, 0), (96, 4, 0, 1, 0, 0, 0, 0), (97, 43, 0, 3, 0, 18, 0, 138), (100, 21, 0, 3, 5, 105, 1, 0), (103, 0, 0, 1, 0, 0, 0, 0), (104, 39, 1, 1, 0, 0, 0, 0), (105, 4, 0, 1, 0, 0, 0, 0), (106, 26, 0, 3, 0, 0, 2, 12), (109, 24, 0, 3, 0, 5, 8, 44), (112, 0, 1, 2, 9, 0, 0, 0), (114, 22, 0, 3, 7, 121, 1, 0), (117, 0, 0, 1, 1, 0, 0, 0), (118, 20, 0, 3, 4, 122, 0, 0), (121, 0, 0, 1, 0, 0, 0, 0), (122, 5, 0, 1, 0, 3, 0, 0), (123, 2, 0, 1, 0, 3, 0, 0), (124, 21, 0, 3, 14, 138, 0, 0), (127, 4, 0, 1, 0, 0, 0, 0), (128, 0, 1, 2, 9, 0, 0, 0), (130, 43, 0, 3, 0, 13, 0, 67), (133, 21, 0, 3, 5, 138, 1, 0), (136, 0, 0, 1, 0, 0, 0, 0), (137, 39, 1, 1, 0, 0, 0, 0), (138, 8, 0, 3, 1, 4, 0, 0), (141, 20, 0, 3, (-56), 85, 0, 0), (144, 4, 0, 1, 0, 0, 0, 0), (145, 26, 0, 3, 0, 1, 2, 21), (148, 26, 0, 3, 0, 8, 4, 141), (151, 4, 0, 1, 0, 0, 0, 0), (152, 26, 0, 3, 0, 1, 2, 21), (155, 24, 0, 3, 0, 6, 4, 132), (158, 4, 0, 1, 0, 0, 0, 0), (159, 26, 0, 3, 0, 1, 2, 21), (162, 24, 0, 3, 0, 9, 4, 144), (165, 36, 0, 1, 0, 0, 0, 0), (166, 0, 0, 1, 1, 0, 0, 0), (167, 39, 1, 1, 0, 0, 0, 0)]
def pm_I22 : List (Nat × pm_Ins) := [(0, 4, 0, 1, 0, 0, 0, 0), (1, 4, 0, 1, 0, 0, 0, 0), (2, 26, 0, 3, 0, 1, 2, 21), (5, 24, 0, 3, 0, 14, 4, 160), (8, 21, 0, 3, 7, 15, 1, 0), (11, 0, 0, 1, 1, 0, 0, 0), (12, 20, 0, 3, 4, 16, 0, 0), (15, 0, 0, 1, 0, 0, 0, 0), (16, 43, 0, 3, 0, 14, 0, 79), (19, 21, 0, 3, 14, 33, 0, 0), (22, 4, 0, 1, 0, 0, 0, 0), (23, 26, 0, 3, 0, 0, 2, 12), (26, 24, 0, 3, 0, 5, 8, 44), (29, 0, 0, 1, 4, 0, 0, 0), (30, 22, 0, 3, 12, 42, 0, 0), (33, 4, 0, 1, 0, 0, 0, 0), (34, 26, 0, 3, 0, 0, 2, 12), (37, 0, 0, 1, 2, 0, 0, 0), (38, 43, 0, 3, 0, 66, 0, 63), (41, 39, 1, 1, 0, 0, 0, 0), (42, 0, 0, 1, 0, 0, 0, 0), (43, 5, 0, 1, 0, 1, 0, 0), (44, 2, 0, 1, 0, 1, 0, 0), (45, 0, 1, 2, 6, 0, 0, 0), (47, 22, 0, 3, 59, 106, 3, 0), (50, 4, 0, 1, 0, 0, 0, 0), (51, 26, 0, 3, 0, 0, 2, 12), (54, 24, 0, 3, 0, 5, 8, 44), (57, 0, 0, 1, 4, 0, 0, 0), (58, 22, 0, 3, 48, 106, 1, 0), (61, 4, 0, 1, 0, 0, 0, 0), (62, 26, 0, 3, 0, 0, 2, 12), (65, 24, 0, 3, 0, 7, 8, 104), (68, 5, 0, 1, 0, 2, 0, 0), (69, 4, 0, 1, 0, 0, 0, 0), (70, 0, 0, 1, 0, 0, 0, 0), (71, 0, 0, 1, 2, 0, 0, 0), (72, 43, 0, 3, 0, 16, 0, 107), (75, 21, 0, 3, 5, 80, 1, 0), (78, 0, 0, 1, 0, 0, 0, 0), (79, 39, 1, 1, 0, 0, 0, 0), (80, 4, 0, 1, 0, 0, 0, 0), (81, 26, 0, 3, 0, 1, 2, 21), (84, 26, 0, 3, 0, 15, 4, 163), (87, 2, 0, 1, 0, 1, 0, 0), (88, 2, 0, 1, 0, 2, 0, 0), (89, 36, 0, 1, 0, 0, 0, 0), (90, 4, 0, 1, 0, 0, 0, 0), (91, 26, 0, 3, 0, 1, 2, 21), (94, 2, 0, 1, 0, 1, 0, 0), (95, 0, 0, 1, 1, 0, 0, 0), (96, 9, 0, 1, 0, 0, 0, 0), (97, 27, 0, 3, 0, 14, 4, 160), (100, 8, 0, 3, 1, 1, 0, 0), (103, 20, 0, 3, (-59), 44, 0, 0), (106, 0, 0, 1, 1, 0, 0, 0), (107, 39, 1, 1, 0, 0, 0, 0)]
def pm_I23 : List (Nat × pm_Ins) := [(0, 4, 0, 1, 0, 0, 0, 0), (1, 4, 0, 1, 0, 0, 0, 0), (2, 26, 0, 3, 0, 1, 2, 21), (5, 24, 0, 3, 0, 0, 4, 76), (8, 0, 1, 2, 8, 0, 0, 0), (10, 22, 0, 3, 7, 17, 3, 0), (13, 0, 0, 1, 1, 0, 0, 0), (14, 20, 0, 3, 4, 18, 0, 0), (17, 0, 0, 1, 0, 0, 0, 0), (18, 43, 0, 3, 0, 14, 0, 79), (21, 21, 0, 3, 5, 26, 1, 0), (24, 0, 0, 1, 0, 0, 0, 0), (25, 39, 1, 1, 0, 0, 0, 0), (26, 4, 0, 1, 0, 0, 0, 0), (27, 26, 0, 3, 0, 0, 2, 12), (30, 25, 0, 3, 0, 6, 8, 83), (33, 6, 0, 1, 0, 1, 0, 0), (34, 4, 0, 1, 0, 0, 0, 0), (35, 43, 0, 3, 0, 15, 0, 87), (38, 21, 0, 3, 26, 64, 0, 0), (41, 4, 0, 1, 0, 0, 0, 0), (42, 4, 0, 1, 0, 0, 0, 0), (43, 26, 0, 3, 0, 1, 2, 21), (46, 26, 0, 3, 0, 2, 4, 90), (49, 4, 0, 1, 0, 0, 0, 0), (50, 26, 0, 3, 0, 1, 2, 21), (53, 24, 0, 3, 0, 0, 4, 76), (56, 0, 0, 1, 3, 0, 0, 0), (57, 9, 0, 1, 0, 0, 2, 0), (58, 43, 0, 3, 0, 24, 0, 93), (61, 21, 0, 3, 5, 66, 1, 0), (64, 0, 0, 1, 0, 0, 0, 0), (65, 39, 1, 1, 0, 0, 0, 0), (66, 4, 0, 1, 0, 0, 0, 0), (67, 26, 0, 3, 0, 1, 2, 21), (70, 26, 0, 3, 0, 1, 4, 97), (73, 4, 0, 1, 0, 0, 0, 0), (74, 26, 0, 3, 0, 1, 2, 21), (77, 24, 0, 3, 0, 0, 4, 76), (80, 3, 0, 1, 0, 1, 0, 0), (81, 38, 0, 1, 0, 0, 0, 0), (82, 4, 0, 1, 0, 0, 0, 0), (83, 26, 0, 3, 0, 1, 2, 21), (86, 17, 0, 1, 0, 0, 0, 0), (87, 24, 0, 3, 0, 0, 4, 76), (90, 0, 0, 1, 1, 0, 0, 0), (91, 9, 0, 1, 0, 0, 0, 0), (92, 27, 0, 3, 0, 0, 4, 76), (95, 0, 0, 1, 1, 0, 0, 0), (96, 39, 1, 1, 0, 0, 0, 0)]
def pm_I24 : List (Nat × pm_Ins) := [(0, 0, 0, 1, 0, 0, 0, 0), (1, 5, 0, 1, 0, 3, 0, 0), (2, 2, 0, 1, 0, 3, 0, 0), (3, 0, 0, 1, 3, 0, 0, 0), (4, 22, 0, 3, 40, 44, 3, 0), (7, 4, 0, 1, 0, 0, 0, 0), (8, 26, 0, 3, 0, 0, 2, 12), (11, 24, 0, 3, 0, 7, 8, 104), (14, 5, 1, 2, 0, 4, 0, 0), (16, 4, 0, 1, 0, 0, 0, 0), (17, 0, 0, 1, 0, 0, 0, 0), (18, 0, 1, 2, 99, 0, 0, 0), (20, 43, 0, 3, 0, 16, 0, 107), (23, 21, 0, 3, 5, 28, 1, 0), (26, 0, 0, 1, 0, 0, 0, 0), (27, 39, 1, 1, 0, 0, 0, 0), (28, 4, 0, 1, 0, 1, 0, 0), (29, 2, 0, 1, 0, 2, 0, 0), (30, 2, 0, 1, 0, 3, 0, 0), (31, 9, 0, 1, 0, 0, 0, 0), (32, 2, 1, 2, 0, 4, 0, 0), (34, 0, 1, 2, 50, 0, 0, 0), (36, 9, 0, 1, 0, 0, 1, 0), (37, 36, 0, 1, 0, 0, 0, 0), (38, 8, 0, 3, 1, 3, 0, 0), (41, 20, 0, 3, (-39), 2, 0, 0), (44, 0, 0, 1, 1, 0, 0, 0), (45, 39, 1, 1, 0, 0, 0, 0)]
def pm_I25 : List (Nat × pm_Ins) := [(0, 4, 0, 1, 0, 0, 0, 0), (1, 4, 0, 1, 0, 1, 0, 0), (2, 29, 0, 3, 0, 1, 2, 21), (5, 4, 0, 1, 0, 0, 0, 0), (6, 26, 0, 3, 0, 1, 2, 21), (9, 43, 0, 3, 0, 40, 0, 33), (12, 4, 0, 1, 0, 0, 0, 0), (13, 26, 0, 3, 0, 0, 2, 12), (16, 4, 0, 1, 0, 2, 0, 0), (17, 2, 0, 1, 0, 3, 0, 0), (18, 43, 0, 3, 0, 65, 0, 36), (21, 4, 0, 1, 0, 0, 0, 0), (22, 26, 0, 3, 0, 0, 2, 12), (25, 24, 0, 3, 0, 8, 8, 40), (28, 21, 0, 3, 7, 35, 1, 0), (31, 0, 0, 1, 1, 0, 0, 0), (32, 20, 0, 3, 4, 36, 0, 0), (35, 0, 0, 1, 0, 0, 0, 0), (36, 5, 1, 2, 0, 4, 0, 0), (38, 0, 0, 1, 0, 0, 0, 0), (39, 5, 1, 2, 0, 5, 0, 0), (41, 2, 1, 2, 0, 5, 0, 0), (43, 0, 2, 3, 1600, 0, 0, 0), (46, 22, 0, 3, 143, 189, 3, 0), (49, 2, 1, 2, 0, 4, 0, 0), (51, 21, 0, 3, 138, 189, 0, 0), (54, 4, 0, 1, 0, 0, 0, 0), (55, 26, 0, 3, 0, 0, 2, 12), (58, 24, 0, 3, 0, 5, 8, 44), (61, 21, 0, 3, 128, 189, 0, 0), (64, 4, 0, 1, 0, 0, 0, 0), (65, 26, 0, 3, 0, 0, 2, 12), (68, 24, 0, 3, 0, 5, 8, 44), (71, 23, 0, 37, 0, 0, 0, 0), (108, 4, 0, 1, 0, 0, 0, 0), (109, 43, 0, 3, 0, 23, 0, 47), (112, 5, 1, 2, 0, 4, 0, 0), (114, 20, 0, 3, 49, 163, 0, 0), (117, 4, 0, 1, 0, 0, 0, 0), (118, 43, 0, 3, 0, 20, 0, 51), (121, 5, 1, 2, 0, 4, 0, 0), (123, 20, 0, 3, 40, 163, 0, 0), (126, 4, 0, 1, 0, 0, 0, 0), (127, 43, 0, 3, 0, 21, 0, 54), (130, 5, 1, 2, 0, 4, 0, 0), (132, 20, 0, 3, 31, 163, 0, 0), (135, 4, 0, 1, 0, 0, 0, 0), (136, 43, 0, 3, 0, 19, 0, 57), (139, 5, 1, 2, 0, 4, 0, 0), (141, 20, 0, 3, 22, 163, 0, 0), (144, 4, 0, 1, 0, 0, 0, 0), (145, 43, 0, 3, 0, 22, 0, 60), (148, 5, 1, 2, 0, 4, 0, 0), (150, 20, 0, 3, 13, 163, 0, 0), (153, 4, 0, 1, 0, 0, 0, 0), (154, 26, 0, 3, 0, 0, 2, 12), (157, 0, 0, 1, 2, 0, 0, 0), (158, 43, 0, 3, 0, 66, 0, 63), (161, 5, 1, 2, 0, 4, 0, 0), (163, 2, 1, 2, 0, 4, 0, 0), (165, 21, 0, 3, 15, 180, 0, 0), (168, 4, 0, 1, 0, 0, 0, 0), (169, 0, 0, 1, 2, 0, 0, 0), (170, 43, 0, 3, 0, 13, 0, 67), (173, 21, 0, 3, 7, 180, 0, 0), (176, 0, 0, 1, 1, 0, 0, 0), (177, 20, 0, 3, 4, 181, 0, 0), (180, 0, 0, 1, 0, 0, 0, 0), (181, 5, 1, 2, 0, 4, 0, 0), (183, 8, 0, 3, 1, 5, 0, 0), (186, 20, 0, 3, (-145), 41, 0, 0), (189, 2, 1, 2, 0, 4, 0, 0), (191, 21, 0, 3, 14, 205, 0, 0), (194, 4, 0, 1, 0, 0, 0, 0), (195, 43, 0, 3, 0, 12, 0, 70), (198, 21, 0, 3, 7, 205, 0, 0), (201, 0, 0, 1, 1, 0, 0, 0), (202, 20, 0, 3, 4, 206, 0, 0), (205, 0, 0, 1, 0, 0, 0, 0), (206, 39, 1, 1, 0, 0, 0, 0)]
def pm_I26 : List (Nat × pm_Ins) := [(0, 4, 0, 1, 0, 0, 0, 0), (1, 26, 0, 3, 0, 0, 2, 12), (4, 24, 0, 3, 0, 5, 8, 44), (7, 0, 0, 1, 5, 0, 0, 0), (8, 22, 0, 3, 20, 28, 1, 0), (11, 4, 0, 1, 0, 0, 0, 0), (12, 26, 0, 3, 0, 1, 2, 21), (15, 4, 0, 1, 0, 0, 0, 0), (16, 26, 0, 3, 0, 0, 2, 12), (19, 25, 0, 3, 0, 6, 8, 83), (22, 43, 0, 3, 0, 49, 0, 100), (25, 20, 0, 3, 4, 29, 0, 0), (28, 0, 0, 1, (-1), 0, 0, 0), (29, 39, 0, 1, 0, 0, 0, 0)]
def pm_I27 : List (Nat × pm_Ins) := [(0, 2, 0, 1, 0, 0, 0, 0), (1, 0, 3, 2, (-1000000), 0, 0, 98), (3, 22, 0, 3, 5, 8, 1, 0), (6, 2, 0, 1, 0, 1, 0, 0), (7, 39, 0, 1, 0, 0, 0, 0), (8, 2, 0, 1, 0, 2, 0, 0), (9, 21, 0, 3, 11, 20, 0, 0), (12, 2, 0, 1, 0, 0, 0, 0), (13, 2, 0, 1, 0, 1, 0, 0), (14, 46, 0, 3, 0, 0, 0, 106), (17, 20, 0, 3, 8, 25, 0, 0), (20, 2, 0, 1, 0, 0, 0, 0), (21, 2, 0, 1, 0, 1, 0, 0), (22, 46, 0, 3, 0, 0, 1, 76), (25, 39, 0, 1, 0, 0, 0, 0)]
def pm_I28 : List (Nat × pm_Ins) := [(0, 0, 0, 1, 0, 0, 0, 0), (1, 5, 0, 1, 0, 3, 0, 0), (2, 2, 0, 1, 0, 3, 0, 0), (3, 2, 0, 1, 0, 1, 0, 0), (4, 22, 0, 3, 16, 20, 3, 0), (7, 4, 0, 1, 0, 0, 0, 0), (8, 26, 0, 3, 0, 1, 3, 15), (11, 2, 0, 1, 0, 3, 0, 0), (12, 2, 0, 1, 0, 2, 0, 0), (13, 36, 0, 1, 0, 0, 0, 0), (14, 8, 0, 3, 1, 3, 0, 0), (17, 20, 0, 3, (-15), 2, 0, 0), (20, 42, 0, 1, 0, 0, 0, 0)]
def pm_I29 : List (Nat × pm_Ins) := [(0, 4, 0, 1, 0, 0, 0, 0), (1, 4, 0, 1, 0, 1, 0, 0), (2, 24, 0, 3, 0, 0, 9, 41), (5, 0, 0, 1, (-1), 0, 0, 0), (6, 43, 0, 3, 0, 28, 0, 44), (9, 4, 0, 1, 0, 1, 0, 0), (10, 24, 0, 3, 0, 0, 9, 41), (13, 0, 0, 1, 1, 0, 0, 0), (14, 9, 0, 1, 0, 0, 1, 0), (15, 5, 0, 1, 0, 2, 0, 0), (16, 2, 0, 1, 0, 2, 0, 0), (17, 21, 0, 3, 41, 58, 5, 0), (20, 4, 0, 1, 0, 1, 0, 0), (21, 2, 0, 1, 0, 2, 0, 0), (22, 43, 0, 3, 0, 76, 0, 48), (25, 21, 0, 3, 10, 35, 0, 0), (28, 4, 0, 1, 0, 0, 0, 0), (29, 26, 0, 3, 0, 1, 3, 15), (32, 2, 0, 1, 0, 2, 0, 0), (33, 2, 0, 1, 0, 2, 0, 0), (34, 36, 0, 1, 0, 0, 0, 0), (35, 4, 0, 1, 0, 0, 0, 0), (36, 4, 0, 1, 0, 1, 0, 0), (37, 4, 0, 1, 0, 1, 0, 0), (38, 26, 0, 3, 0, 2, 9, 52), (41, 2, 0, 1, 0, 2, 0, 0), (42, 32, 0, 1, 0, 0, 0, 0), (43, 4, 0, 1, 0, 0, 0, 0), (44, 26, 0, 3, 0, 1, 3, 15), (47, 2, 0, 1, 0, 2, 0, 0), (48, 32, 0, 1, 0, 0, 0, 0), (49, 43, 0, 3, 0, 37, 0, 55), (52, 8, 0, 3, (-1), 2, 0, 0), (55, 20, 0, 3, (-39), 16, 0, 0), (58, 4, 0, 1, 0, 0, 0, 0), (59, 26, 0, 3, 0, 1, 3, 15), (62, 0, 0, 1, 0, 0, 0, 0), (63, 32, 0, 1, 0, 0, 0, 0), (64, 0, 0, 1, (-1), 0, 0, 0), (65, 22, 0, 3, 7, 72, 1, 0), (68, 0, 0, 1, 0, 0, 0, 0), (69, 20, 0, 3, 9, 78, 0, 0), (72, 4, 0, 1, 0, 0, 0, 0), (73, 26, 0, 3, 0, 1, 3, 15), (76, 0, 0, 1, 0, 0, 0, 0), (77, 32, 0, 1, 0, 0, 0, 0), (78, 39, 0, 1, 0, 0, 0, 0)]
def pm_I30 : List (Nat × pm_Ins) := [(0, 0, 0, 1, 0, 0, 0, 0), (1, 5, 0, 1, 0, 2, 0, 0), (2, 2, 0, 1, 0, 2, 0, 0), (3, 0, 1, 2, 6, 0, 0, 0), (5, 22, 0, 3, 60, 65, 3, 0), (8, 4, 0, 1, 0, 0, 0, 0), (9, 24, 0, 3, 0, 3, 3, 25), (12, 21, 0, 3, 53, 65, 1, 0), (15, 0, 0, 1, 0, 0, 0, 0), (16, 5, 0, 1, 0, 3, 0, 0), (17, 2, 0, 1, 0, 3, 0, 0), (18, 4, 0, 1, 0, 1, 0, 0), (19, 24, 1, 3, 0, 6, 9, 29), (22, 22, 0, 3, 26, 48, 3, 0), (25, 4, 0, 1, 0, 0, 0, 0), (26, 26, 0, 3, 0, 0, 3, 9), (29, 2, 0, 1, 0, 3, 0, 0), (30, 30, 1, 3, 0, 0, 0, 34), (33, 2, 0, 1, 0, 2, 0, 0), (34, 0, 0, 1, 3, 0, 0, 0), (35, 9, 0, 1, 0, 0, 2, 0), (36, 2, 0, 1, 0, 3, 0, 0), (37, 0, 0, 1, 3, 0, 0, 0), (38, 9, 0, 1, 0, 0, 8, 0), (39, 9, 0, 1, 0, 0, 0, 0), (40, 32, 0, 1, 0, 0, 0, 0), (41, 36, 0, 1, 0, 0, 0, 0), (42, 8, 0, 3, 1, 3, 0, 0), (45, 20, 0, 3, (-28), 17, 0, 0), (48, 4, 0, 1, 0, 0, 0, 0), (49, 26, 0, 3, 0, 2, 3, 18), (52, 2, 0, 1, 0, 2, 0, 0), (53, 4, 0, 1, 0, 0, 0, 0), (54, 4, 0, 1, 0, 1, 0, 0), (55, 43, 0, 3, 0, 29, 0, 37), (58, 36, 0, 1, 0, 0, 0, 0), (59, 8, 0, 3, 1, 2, 0, 0), (62, 20, 0, 3, (-60), 2, 0, 0), (65, 4, 0, 1, 0, 0, 0, 0), (66, 0, 0, 1, 1, 0, 0, 0), (67, 27, 0, 3, 0, 3, 3, 25), (70, 42, 0, 1, 0, 0, 0, 0)]
def pm_I31 : List (Nat × pm_Ins) := [(0, 4, 0, 1, 0, 0, 0, 0), (1, 4, 0, 1, 0, 1, 0, 0), (2, 43, 0, 3, 0, 29, 0, 37), (5, 5, 0, 1, 0, 3, 0, 0), (6, 2, 0, 1, 0, 2, 0, 0), (7, 5, 1, 2, 0, 4, 0, 0), (9, 2, 1, 2, 0, 4, 0, 0), (11, 4, 0, 1, 0, 1, 0, 0), (12, 24, 1, 3, 0, 6, 9, 29), (15, 22, 0, 3, 131, 146, 3, 0), (18, 2, 1, 2, 0, 4, 0, 0), (20, 0, 0, 1, 1, 0, 0, 0), (21, 9, 0, 1, 0, 0, 0, 0), (22, 5, 1, 2, 0, 5, 0, 0), (24, 2, 1, 2, 0, 5, 0, 0), (26, 4, 0, 1, 0, 1, 0, 0), (27, 24, 1, 3, 0, 6, 9, 29), (30, 22, 0, 3, 110, 140, 3, 0), (33, 4, 0, 1, 0, 0, 0, 0), (34, 26, 0, 3, 0, 0, 3, 9), (37, 2, 1, 2, 0, 4, 0, 0), (39, 32, 0, 1, 0, 0, 0, 0), (40, 5, 1, 2, 0, 6, 0, 0), (42, 4, 0, 1, 0, 0, 0, 0), (43, 26, 0, 3, 0, 0, 3, 9), (46, 2, 1, 2, 0, 5, 0, 0), (48, 32, 0, 1, 0, 0, 0, 0), (49, 5, 1, 2, 0, 7, 0, 0), (51, 2, 1, 2, 0, 6, 0, 0), (53, 2, 1, 2, 0, 7, 0, 0), (55, 22, 0, 3, 79, 134, 0, 0), (58, 4, 0, 1, 0, 0, 0, 0), (59, 26, 0, 3, 0, 0, 3, 9), (62, 2, 1, 2, 0, 4, 0, 0), (64, 2, 1, 2, 0, 7, 0, 0), (66, 36, 0, 1, 0, 0, 0, 0), (67, 4, 0, 1, 0, 0, 0, 0), (68, 26, 0, 3, 0, 0, 3, 9), (71, 2, 1, 2, 0, 5, 0, 0), (73, 2, 1, 2, 0, 6, 0, 0), (75, 36, 0, 1, 0, 0, 0, 0), (76, 4, 0, 1, 0, 0, 0, 0), (77, 4, 0, 1, 0, 1, 0, 0), (78, 43, 0, 3, 0, 29, 0, 37), (81, 5, 1, 2, 0, 8, 0, 0), (83, 4, 0, 1, 0, 0, 0, 0), (84, 26, 0, 3, 0, 0, 3, 9), (87, 2, 1, 2, 0, 4, 0, 0), (89, 2, 1, 2, 0, 6, 0, 0), (91, 36, 0, 1, 0, 0, 0, 0), (92, 4, 0, 1, 0, 0, 0, 0), (93, 26, 0, 3, 0, 0, 3, 9), (96, 2, 1, 2, 0, 5, 0, 0), (98, 2, 1, 2, 0, 7, 0, 0), (100, 36, 0, 1, 0, 0, 0, 0), (101, 4, 0, 1, 0, 1, 0, 0), (102, 2, 1, 2, 0, 8, 0, 0), (104, 2, 0, 1, 0, 3, 0, 0), (105, 2, 1, 2, 0, 6, 0, 0), (107, 44, 0, 3, 0, 36, 0, 94), (110, 21, 0, 3, 24, 134, 0, 0), (113, 4, 0, 1, 0, 1, 0, 0), (114, 2, 1, 2, 0, 8, 0, 0), (116, 2, 0, 1, 0, 3, 0, 0), (117, 2, 1, 2, 0, 7, 0, 0), (119, 44, 0, 3, 0, 36, 0, 94), (122, 21, 0, 3, 12, 134, 0, 0), (125, 0, 1, 2, 10, 0, 0, 0), (127, 2, 1, 2, 0, 4, 0, 0), (129, 9, 0, 1, 0, 0, 2, 0), (130, 2, 1, 2, 0, 5, 0, 0), (132, 9, 0, 1, 0, 0, 0, 0), (133, 39, 0, 1, 0, 0, 0, 0), (134, 8, 0, 3, 1, 5, 0, 0), (137, 20, 0, 3, (-113), 24, 0, 0), (140, 8, 0, 3, 1, 4, 0, 0), (143, 20, 0, 3, (-134), 9, 0, 0), (146, 0, 0, 1, (-1), 0, 0, 0), (147, 39, 0, 1, 0, 0, 0, 0)]
def pm_I32 : List (Nat × pm_Ins) := [(0, 4, 0, 1, 0, 0, 0, 0), (1, 0, 0, 1, 0, 0, 0, 0), (2, 27, 0, 3, 0, 3, 3, 25), (5, 42, 0, 1, 0, 0, 0, 0)]
def pm_I33 : List (Nat × pm_Ins) := [(0, 4, 0, 1, 0, 0, 0, 0), (1, 4, 0, 1, 0, 1, 0, 0), (2, 24, 0, 3, 0, 0, 9, 41), (5, 0, 3, 2, (-1000000), 0, 0, 98), (7, 43, 0, 3, 0, 28, 0, 44), (10, 4, 0, 1, 0, 1, 0, 0), (11, 24, 0, 3, 0, 0, 9, 41), (14, 0, 0, 1, 1, 0, 0, 0), (15, 9, 0, 1, 0, 0, 1, 0), (16, 5, 0, 1, 0, 3, 0, 0), (17, 2, 0, 1, 0, 3, 0, 0), (18, 21, 0, 3, 92, 110, 2, 0), (21, 4, 0, 1, 0, 1, 0, 0), (22, 2, 0, 1, 0, 3, 0, 0), (23, 43, 0, 3, 0, 76, 0, 48), (26, 21, 0, 3, 15, 41, 0, 0), (29, 4, 0, 1, 0, 0, 0, 0), (30, 26, 0, 3, 0, 1, 3, 15), (33, 2, 0, 1, 0, 3, 0, 0), (34, 4, 0, 1, 0, 1, 0, 0), (35, 2, 0, 1, 0, 3, 0, 0), (36, 2, 0, 1, 0, 2, 0, 0), (37, 44, 0, 3, 0, 38, 0, 99), (40, 36, 0, 1, 0, 0, 0, 0), (41, 2, 0, 1, 0, 3, 0, 0), (42, 21, 0, 3, 62, 104, 5, 0), (45, 4, 0, 1, 0, 1, 0, 0), (46, 26, 0, 3, 0, 2, 9, 52), (49, 2, 0, 1, 0, 3, 0, 0), (50, 32, 0, 1, 0, 0, 0, 0), (51, 5, 1, 2, 0, 4, 0, 0), (53, 2, 0, 1, 0, 2, 0, 0), (54, 4, 0, 1, 0, 0, 0, 0), (55, 26, 0, 3, 0, 0, 3, 9), (58, 4, 0, 1, 0, 1, 0, 0), (59, 26, 0, 3, 0, 3, 9, 59), (62, 2, 1, 2, 0, 4, 0, 0), (64, 32, 0, 1, 0, 0, 0, 0), (65, 32, 0, 1, 0, 0, 0, 0), (66, 9, 0, 1, 0, 0, 7, 0), (67, 0, 0, 1, 1, 0, 0, 0), (68, 9, 0, 1, 0, 0, 3, 0), (69, 21, 0, 3, 7, 76, 0, 0), (72, 0, 0, 1, 1, 0, 0, 0), (73, 20, 0, 3, 4, 77, 0, 0), (76, 0, 0, 1, 0, 0, 0, 0), (77, 5, 1, 2, 0, 5, 0, 0), (79, 4, 0, 1, 0, 0, 0, 0), (80, 26, 0, 3, 0, 1, 3, 15), (83, 2, 1, 2, 0, 4, 0, 0), (85, 4, 0, 1, 0, 0, 0, 0), (86, 26, 0, 3, 0, 1, 3, 15), (89, 2, 1, 2, 0, 4, 0, 0), (91, 32, 0, 1, 0, 0, 0, 0), (92, 4, 0, 1, 0, 0, 0, 0), (93, 26, 0, 3, 0, 1, 3, 15), (96, 2, 0, 1, 0, 3, 0, 0), (97, 32, 0, 1, 0, 0, 0, 0), (98, 2, 1, 2, 0, 5, 0, 0), (100, 44, 0, 3, 0, 27, 0, 102), (103, 36, 0, 1, 0, 0, 0, 0), (104, 8, 0, 3, (-1), 3, 0, 0), (107, 20, 0, 3, (-90), 17, 0, 0), (110, 4, 0, 1, 0, 0, 0, 0), (111, 26, 0, 3, 0, 1, 3, 15), (114, 0, 0, 1, 0, 0, 0, 0), (115, 32, 0, 1, 0, 0, 0, 0), (116, 39, 0, 1, 0, 0, 0, 0)]
def pm_I34 : List (Nat × pm_Ins) := [(0, 4, 0, 1, 0, 1, 0, 0), (1, 2, 0, 1, 0, 2, 0, 0), (2, 4, 0, 1, 0, 0, 0, 0), (3, 24, 0, 3, 0, 5, 3, 85), (6, 43, 0, 3, 0, 77, 0, 88), (9, 4, 0, 1, 0, 0, 0, 0), (10, 24, 0, 3, 0, 6, 3, 91), (13, 22, 0, 3, 7, 20, 1, 0), (16, 0, 0, 1, 1, 0, 0, 0), (17, 20, 0, 3, 4, 21, 0, 0), (20, 0, 0, 1, 0, 0, 0, 0), (21, 39, 1, 1, 0, 0, 0, 0)]
def pm_I35 : List (Nat × pm_Ins) := [(0, 4, 0, 1, 0, 0, 0, 0), (1, 4, 0, 1, 0, 0, 0, 0), (2, 26, 0, 3, 0, 0, 3, 9), (5, 2, 0, 1, 0, 2, 0, 0), (6, 32, 0, 1, 0, 0, 0, 0), (7, 27, 0, 3, 0, 4, 3, 21), (10, 4, 0, 1, 0, 0, 0, 0), (11, 2, 0, 1, 0, 2, 0, 0), (12, 27, 0, 3, 0, 5, 3, 85), (15, 4, 0, 1, 0, 0, 0, 0), (16, 2, 0, 1, 0, 3, 0, 0), (17, 27, 0, 3, 0, 6, 3, 91), (20, 4, 0, 1, 0, 0, 0, 0), (21, 0, 0, 1, 0, 0, 0, 0), (22, 27, 0, 3, 0, 7, 3, 82), (25, 0, 0, 1, (-1), 0, 0, 0), (26, 5, 1, 2, 0, 4, 0, 0), (28, 0, 0, 1, 0, 0, 0, 0), (29, 5, 1, 2, 0, 5, 0, 0), (31, 2, 1, 2, 0, 5, 0, 0), (33, 0, 1, 2, 99, 0, 0, 0), (35, 22, 0, 3, 57, 92, 4, 0), (38, 4, 0, 1, 0, 0, 0, 0), (39, 24, 0, 3, 0, 7, 3, 82), (42, 0, 1, 2, 99, 0, 0, 0), (44, 22, 0, 3, 48, 92, 4, 0), (47, 2, 1, 2, 0, 4, 0, 0), (49, 0, 0, 1, (-1), 0, 0, 0), (50, 22, 0, 3, 42, 92, 1, 0), (53, 4, 0, 1, 0, 0, 0, 0), (54, 0, 1, 2, 100, 0, 0, 0), (56, 27, 0, 3, 0, 8, 3, 73), (59, 4, 0, 1, 0, 0, 0, 0), (60, 4, 0, 1, 0, 1, 0, 0), (61, 4, 0, 1, 0, 0, 0, 0), (62, 4, 0, 1, 0, 1, 0, 0), (63, 43, 0, 3, 0, 29, 0, 37), (66, 43, 0, 3, 0, 34, 0, 69), (69, 21, 0, 3, 9, 78, 0, 0), (72, 4, 0, 1, 0, 0, 0, 0), (73, 24, 0, 3, 0, 7, 3, 82), (76, 5, 1, 2, 0, 4, 0, 0), (78, 4, 0, 1, 0, 0, 0, 0), (79, 4, 0, 1, 0, 0, 0, 0), (80, 24, 0, 3, 0, 8, 3, 73), (83, 27, 0, 3, 0, 7, 3, 82), (86, 8, 0, 3, 1, 5, 0, 0), (89, 20, 0, 3, (-58), 31, 0, 0), (92, 4, 0, 1, 0, 0, 0, 0), (93, 0, 0, 1, (-1), 0, 0, 0), (94, 27, 0, 3, 0, 4, 3, 21), (97, 2, 1, 2, 0, 4, 0, 0), (99, 39, 0, 1, 0, 0, 0, 0)]
def pm_I36 : List (Nat × pm_Ins) := [(0, 4, 0, 1, 0, 0, 0, 0), (1, 26, 0, 3, 0, 4, 9, 66), (4, 2, 0, 1, 0, 1, 0, 0), (5, 0, 0, 1, 3, 0, 0, 0), (6, 9, 0, 1, 0, 0, 2, 0), (7, 2, 0, 1, 0, 3, 0, 0), (8, 9, 0, 1, 0, 0, 0, 0), (9, 32, 0, 1, 0, 0, 0, 0), (10, 4, 0, 1, 0, 0, 0, 0), (11, 26, 0, 3, 0, 4, 9, 66), (14, 2, 0, 1, 0, 2, 0, 0), (15, 0, 0, 1, 3, 0, 0, 0), (16, 9, 0, 1, 0, 0, 2, 0), (17, 2, 0, 1, 0, 3, 0, 0), (18, 9, 0, 1, 0, 0, 0, 0), (19, 32, 0, 1, 0, 0, 0, 0), (20, 22, 0, 3, 7, 27, 5, 0), (23, 0, 0, 1, 1, 0, 0, 0), (24, 20, 0, 3, 4, 28, 0, 0), (27, 0, 0, 1, 0, 0, 0, 0), (28, 39, 1, 1, 0, 0, 0, 0)]
def pm_I37 : List (Nat × pm_Ins) := [(0, 4, 0, 1, 0, 0, 0, 0), (1, 26, 0, 3, 0, 1, 3, 15), (4, 2, 0, 1, 0, 2, 0, 0), (5, 32, 0, 1, 0, 0, 0, 0), (6, 5, 1, 2, 0, 4, 0, 0), (8, 2, 1, 2, 0, 4, 0, 0), (10, 0, 0, 1, (-1), 0, 0, 0), (11, 22, 0, 3, 8, 19, 0, 0), (14, 2, 0, 1, 0, 3, 0, 0), (15, 0, 0, 1, (-1), 0, 0, 0), (16, 22, 0, 3, 22, 38, 1, 0), (19, 4, 0, 1, 0, 0, 0, 0), (20, 26, 0, 3, 0, 1, 3, 15), (23, 2, 0, 1, 0, 2, 0, 0), (24, 2, 1, 2, 0, 4, 0, 0), (26, 0, 0, 1, (-1), 0, 0, 0), (27, 22, 0, 3, 7, 34, 1, 0), (30, 2, 0, 1, 0, 3, 0, 0), (31, 20, 0, 3, 5, 36, 0, 0), (34, 2, 1, 2, 0, 4, 0, 0), (36, 36, 0, 1, 0, 0, 0, 0), (37, 42, 0, 1, 0, 0, 0, 0), (38, 4, 0, 1, 0, 0, 0, 0), (39, 26, 0, 3, 0, 0, 3, 9), (42, 4, 0, 1, 0, 1, 0, 0), (43, 26, 0, 3, 0, 3, 9, 59), (46, 2, 0, 1, 0, 2, 0, 0), (47, 32, 0, 1, 0, 0, 0, 0), (48, 32, 0, 1, 0, 0, 0, 0), (49, 5, 1, 2, 0, 5, 0, 0), (51, 4, 0, 1, 0, 0, 0, 0), (52, 4, 0, 1, 0, 1, 0, 0), (53, 2, 0, 1, 0, 3, 0, 0), (54, 2, 1, 2, 0, 5, 0, 0), (56, 43, 0, 3, 0, 39, 0, 62), (59, 4, 0, 1, 0, 0, 0, 0), (60, 4, 0, 1, 0, 1, 0, 0), (61, 2, 1, 2, 0, 4, 0, 0), (63, 2, 1, 2, 0, 5, 0, 0), (65, 43, 0, 3, 0, 39, 0, 62), (68, 22, 0, 3, 7, 75, 2, 0), (71, 0, 0, 1, 1, 0, 0, 0), (72, 20, 0, 3, 4, 76, 0, 0), (75, 0, 0, 1, 0, 0, 0, 0), (76, 5, 1, 2, 0, 6, 0, 0), (78, 2, 1, 2, 0, 5, 0, 0), (80, 4, 0, 1, 0, 0, 0, 0), (81, 24, 0, 3, 0, 4, 3, 21), (84, 22, 0, 3, 105, 189, 1, 0), (87, 4, 0, 1, 0, 1, 0, 0), (88, 26, 0, 3, 0, 4, 9, 66), (91, 2, 1, 2, 0, 4, 0, 0), (93, 0, 0, 1, 3, 0, 0, 0), (94, 9, 0, 1, 0, 0, 2, 0), (95, 2, 1, 2, 0, 5, 0, 0), (97, 9, 0, 1, 0, 0, 0, 0), (98, 32, 0, 1, 0, 0, 0, 0), (99, 4, 0, 1, 0, 1, 0, 0), (100, 26, 0, 3, 0, 4, 9, 66), (103, 2, 0, 1, 0, 3, 0, 0), (104, 0, 0, 1, 3, 0, 0, 0), (105, 9, 0, 1, 0, 0, 2, 0), (106, 2, 1, 2, 0, 5, 0, 0), (108, 9, 0, 1, 0, 0, 0, 0), (109, 32, 0, 1, 0, 0, 0, 0), (110, 9, 0, 1, 0, 0, 1, 0), (111, 5, 1, 2, 0, 7, 0, 0), (113, 2, 1, 2, 0, 6, 0, 0), (115, 21, 0, 3, 37, 152, 0, 0), (118, 4, 0, 1, 0, 0, 0, 0), (119, 4, 0, 1, 0, 1, 0, 0), (120, 2, 0, 1, 0, 3, 0, 0), (121, 43, 0, 3, 0, 34, 0, 69), (124, 21, 0, 3, 28, 152, 1, 0), (127, 4, 0, 1, 0, 0, 0, 0), (128, 4, 0, 1, 0, 1, 0, 0), (129, 2, 1, 2, 0, 4, 0, 0), (131, 43, 0, 3, 0, 34, 0, 69), (134, 21, 0, 3, 18, 152, 0, 0), (137, 4, 0, 1, 0, 0, 0, 0), (138, 4, 0, 1, 0, 0, 0, 0), (139, 24, 0, 3, 0, 8, 3, 73), (142, 0, 0, 1, 1, 0, 0, 0), (143, 2, 1, 2, 0, 7, 0, 0), (145, 9, 0, 1, 0, 0, 1, 0), (146, 46, 0, 3, 0, 0, 1, 76), (149, 27, 0, 3, 0, 8, 3, 73), (152, 2, 1, 2, 0, 6, 0, 0), (154, 21, 0, 3, 35, 189, 1, 0), (157, 4, 0, 1, 0, 0, 0, 0), (158, 4, 0, 1, 0, 1, 0, 0), (159, 2, 0, 1, 0, 3, 0, 0), (160, 43, 0, 3, 0, 34, 0, 69), (163, 21, 0, 3, 26, 189, 0, 0), (166, 4, 0, 1, 0, 0, 0, 0), (167, 4, 0, 1, 0, 1, 0, 0), (168, 2, 1, 2, 0, 4, 0, 0), (170, 43, 0, 3, 0, 34, 0, 69), (173, 21, 0, 3, 16, 189, 1, 0), (176, 4, 0, 1, 0, 0, 0, 0), (177, 4, 0, 1, 0, 0, 0, 0), (178, 24, 0, 3, 0, 8, 3, 73), (181, 2, 1, 2, 0, 7, 0, 0), (183, 46, 0, 3, 0, 0, 1, 76), (186, 27, 0, 3, 0, 8, 3, 73), (189, 2, 1, 2, 0, 6, 0, 0), (191, 21, 0, 3, 10, 201, 0, 0), (194, 4, 0, 1, 0, 0, 0, 0), (195, 26, 0, 3, 0, 1, 3, 15), (198, 2, 0, 1, 0, 2, 0, 0), (199, 2, 0, 1, 0, 3, 0, 0), (200, 36, 0, 1, 0, 0, 0, 0), (201, 42, 0, 1, 0, 0, 0, 0)]
def pm_I38 : List (Nat × pm_Ins) := [(0, 0, 0, 1, 0, 0, 0, 0), (1, 5, 0, 1, 0, 3, 0, 0), (2, 0, 0, 1, 0, 0, 0, 0), (3, 5, 1, 2, 0, 4, 0, 0), (5, 2, 1, 2, 0, 4, 0, 0), (7, 0, 0, 1, 3, 0, 0, 0), (8, 22, 0, 3, 32, 40, 3, 0), (11, 2, 0, 1, 0, 2, 0, 0), (12, 2, 1, 2, 0, 4, 0, 0), (14, 9, 0, 1, 0, 0, 7, 0), (15, 0, 0, 1, 1, 0, 0, 0), (16, 9, 0, 1, 0, 0, 3, 0), (17, 21, 0, 3, 17, 34, 0, 0), (20, 2, 0, 1, 0, 3, 0, 0), (21, 4, 0, 1, 0, 0, 0, 0), (22, 26, 0, 3, 0, 4, 9, 66), (25, 2, 0, 1, 0, 1, 0, 0), (26, 0, 0, 1, 3, 0, 0, 0), (27, 9, 0, 1, 0, 0, 2, 0), (28, 2, 1, 2, 0, 4, 0, 0), (30, 9, 0, 1, 0, 0, 0, 0), (31, 32, 0, 1, 0, 0, 0, 0), (32, 9, 0, 1, 0, 0, 0, 0), (33, 5, 0, 1, 0, 3, 0, 0), (34, 8, 0, 3, 1, 4, 0, 0), (37, 20, 0, 3, (-32), 5, 0, 0), (40, 2, 0, 1, 0, 3, 0, 0), (41, 39, 0, 1, 0, 0, 0, 0)]
def pm_I39 : List (Nat × pm_Ins) := [(0, 4, 0, 1, 0, 1, 0, 0), (1, 26, 0, 3, 0, 4, 9, 66), (4, 2, 0, 1, 0, 2, 0, 0), (5, 0, 0, 1, 3, 0, 0, 0), (6, 9, 0, 1, 0, 0, 2, 0), (7, 2, 0, 1, 0, 3, 0, 0), (8, 9, 0, 1, 0, 0, 0, 0), (9, 32, 0, 1, 0, 0, 0, 0), (10, 5, 1, 2, 0, 4, 0, 0), (12, 2, 0, 1, 0, 3, 0, 0), (13, 4, 0, 1, 0, 0, 0, 0), (14, 24, 0, 3, 0, 4, 3, 21), (17, 22, 0, 3, 22, 39, 1, 0), (20, 4, 0, 1, 0, 0, 0, 0), (21, 4, 0, 1, 0, 1, 0, 0), (22, 2, 0, 1, 0, 2, 0, 0), (23, 43, 0, 3, 0, 34, 0, 69), (26, 21, 0, 3, 13, 39, 0, 0), (29, 2, 1, 2, 0, 4, 0, 0), (31, 4, 0, 1, 0, 0, 0, 0), (32, 24, 0, 3, 0, 7, 3, 82), (35, 9, 0, 1, 0, 0, 0, 0), (36, 20, 0, 3, 5, 41, 0, 0), (39, 2, 1, 2, 0, 4, 0, 0), (41, 39, 0, 1, 0, 0, 0, 0)]
def pm_I40 : List (Nat × pm_Ins) := [(0, 4, 0, 1, 0, 0, 0, 0), (1, 0, 0, 1, 0, 0, 0, 0), (2, 27, 0, 3, 0, 0, 4, 45), (5, 4, 0, 1, 0, 0, 0, 0), (6, 0, 0, 1, 0, 0, 0, 0), (7, 27, 0, 3, 0, 3, 4, 48), (10, 4, 0, 1, 0, 0, 0, 0), (11, 26, 0, 3, 0, 5, 4, 23), (14, 0, 0, 1, 0, 0, 0, 0), (15, 44, 0, 3, 0, 235, 0, 51), (18, 0, 0, 1, 0, 0, 0, 0), (19, 5, 0, 1, 0, 1, 0, 0), (20, 2, 0, 1, 0, 1, 0, 0), (21, 4, 0, 1, 0, 0, 0, 0), (22, 26, 0, 3, 0, 4, 4, 19), (25, 31, 0, 1, 0, 0, 0, 0), (26, 22, 0, 3, 16, 42, 3, 0), (29, 4, 0, 1, 0, 0, 0, 0), (30, 26, 0, 3, 0, 4, 4, 19), (33, 2, 0, 1, 0, 1, 0, 0), (34, 0, 0, 1, 0, 0, 0, 0), (35, 37, 0, 1, 0, 0, 0, 0), (36, 8, 0, 3, 1, 1, 0, 0), (39, 20, 0, 3, (-19), 20, 0, 0), (42, 4, 0, 1, 0, 0, 0, 0), (43, 0, 0, 1, 0, 0, 0, 0), (44, 27, 0, 3, 0, 6, 4, 57), (47, 4, 0, 1, 0, 0, 0, 0), (48, 26, 0, 3, 0, 8, 4, 29), (51, 0, 0, 1, 0, 0, 0, 0), (52, 0, 0, 1, 0, 0, 0, 0), (53, 36, 0, 1, 0, 0, 0, 0), (54, 4, 0, 1, 0, 0, 0, 0), (55, 0, 0, 1, 0, 0, 0, 0), (56, 27, 0, 3, 0, 9, 4, 60), (59, 4, 0, 1, 0, 0, 0, 0), (60, 0, 0, 1, 3, 0, 0, 0), (61, 27, 0, 3, 0, 12, 4, 41), (64, 4, 0, 1, 0, 0, 0, 0), (65, 0, 0, 1, 0, 0, 0, 0), (66, 27, 0, 3, 0, 13, 4, 63), (69, 4, 0, 1, 0, 0, 0, 0), (70, 0, 0, 1, 0, 0, 0, 0), (71, 27, 0, 3, 0, 14, 4, 67), (74, 42, 0, 1, 0, 0, 0, 0)]
def pm_I41 : List (Nat × pm_Ins) := [(0, 0, 0, 1, 0, 0, 0, 0), (1, 5, 0, 1, 0, 2, 0, 0), (2, 2, 0, 1, 0, 2, 0, 0), (3, 0, 1, 2, 16, 0, 0, 0), (5, 22, 0, 3, 25, 30, 3, 0), (8, 4, 0, 1, 0, 1, 0, 0), (9, 2, 0, 1, 0, 2, 0, 0), (10, 2, 0, 1, 0, 2, 0, 0), (11, 4, 0, 1, 0, 0, 0, 0), (12, 24, 0, 3, 0, 0, 4, 45), (15, 22, 0, 3, 7, 22, 3, 0), (18, 0, 0, 1, 1, 0, 0, 0), (19, 20, 0, 3, 4, 23, 0, 0), (22, 0, 0, 1, 0, 0, 0, 0), (23, 36, 0, 1, 0, 0, 0, 0), (24, 8, 0, 3, 1, 2, 0, 0), (27, 20, 0, 3, (-25), 2, 0, 0), (30, 0, 0, 1, 0, 0, 0, 0), (31, 5, 0, 1, 0, 2, 0, 0), (32, 2, 0, 1, 0, 2, 0, 0), (33, 4, 0, 1, 0, 0, 0, 0), (34, 24, 0, 3, 0, 6, 4, 57), (37, 22, 0, 3, 94, 131, 3, 0), (40, 0, 0, 1, 0, 0, 0, 0), (41, 5, 0, 1, 0, 3, 0, 0), (42, 2, 0, 1, 0, 3, 0, 0), (43, 4, 0, 1, 0, 0, 0, 0), (44, 24, 0, 3, 0, 6, 4, 57), (47, 22, 0, 3, 78, 125, 3, 0), (50, 4, 0, 1, 0, 0, 0, 0), (51, 26, 0, 3, 0, 8, 4, 29), (54, 2, 0, 1, 0, 3, 0, 0), (55, 32, 0, 1, 0, 0, 0, 0), (56, 5, 1, 2, 0, 4, 0, 0), (58, 2, 1, 2, 0, 4, 0, 0), (60, 4, 0, 1, 0, 0, 0, 0), (61, 26, 0, 3, 0, 8, 4, 29), (64, 2, 0, 1, 0, 3, 0, 0), (65, 0, 0, 1, 1, 0, 0, 0), (66, 9, 0, 1, 0, 0, 0, 0), (67, 32, 0, 1, 0, 0, 0, 0), (68, 22, 0, 3, 51, 119, 3, 0), (71, 4, 0, 1, 0, 0, 0, 0), (72, 2, 1, 2, 0, 4, 0, 0), (74, 4, 0, 1, 0, 1, 0, 0), (75, 43, 0, 3, 0, 48, 0, 74), (78, 5, 1, 2, 0, 5, 0, 0), (80, 4, 0, 1, 0, 1, 0, 0), (81, 0, 1, 2, 8, 0, 0, 0), (83, 2, 0, 1, 0, 3, 0, 0), (84, 9, 0, 1, 0, 0, 0, 0), (85, 32, 0, 1, 0, 0, 0, 0), (86, 5, 1, 2, 0, 6, 0, 0), (88, 2, 1, 2, 0, 5, 0, 0), (90, 21, 0, 3, 23, 113, 5, 0), (93, 2, 1, 2, 0, 6, 0, 0), (95, 21, 0, 3, 10, 105, 0, 0), (98, 2, 1, 2, 0, 5, 0, 0), (100, 2, 1, 2, 0, 6, 0, 0), (102, 22, 0, 3, 11, 113, 3, 0), (105, 4, 0, 1, 0, 1, 0, 0), (106, 0, 1, 2, 8, 0, 0, 0), (108, 2, 0, 1, 0, 3, 0, 0), (109, 9, 0, 1, 0, 0, 0, 0), (110, 2, 1, 2, 0, 5, 0, 0), (112, 36, 0, 1, 0, 0, 0, 0), (113, 8, 0, 3, 1, 4, 0, 0), (116, 20, 0, 3, (-58), 58, 0, 0), (119, 8, 0, 3, 1, 3, 0, 0), (122, 20, 0, 3, (-80), 42, 0, 0), (125, 8, 0, 3, 1, 2, 0, 0), (128, 20, 0, 3, (-96), 32, 0, 0), (131, 42, 0, 1, 0, 0, 0, 0)]
def pm_I42 : List (Nat × pm_Ins) := [(0, 2, 0, 1, 0, 1, 0, 0), (1, 21, 0, 3, 15, 16, 2, 0), (4, 2, 0, 1, 0, 1, 0, 0), (5, 4, 0, 1, 0, 0, 0, 0), (6, 24, 0, 3, 0, 12, 4, 41), (9, 22, 0, 3, 7, 16, 3, 0), (12, 0, 0, 1, 1, 0, 0, 0), (13, 20, 0, 3, 4, 17, 0, 0), (16, 0, 0, 1, 0, 0, 0, 0), (17, 39, 1, 1, 0, 0, 0, 0)]
def pm_I43 : List (Nat × pm_Ins) := [(0, 2, 0, 1, 0, 1, 0, 0), (1, 21, 0, 3, 15, 16, 2, 0), (4, 2, 0, 1, 0, 1, 0, 0), (5, 4, 0, 1, 0, 0, 0, 0), (6, 24, 0, 3, 0, 0, 4, 45), (9, 22, 0, 3, 7, 16, 3, 0), (12, 0, 0, 1, 1, 0, 0, 0), (13, 20, 0, 3, 4, 17, 0, 0), (16, 0, 0, 1, 0, 0, 0, 0), (17, 39, 1, 1, 0, 0, 0, 0)]
def pm_I44 : List (Nat × pm_Ins) := [(0, 4, 0, 1, 0, 0, 0, 0), (1, 26, 0, 3, 0, 2, 4, 15), (4, 2, 0, 1, 0, 2, 0, 0), (5, 0, 0, 1, 3, 0, 0, 0), (6, 9, 0, 1, 0, 0, 2, 0), (7, 2, 0, 1, 0, 3, 0, 0), (8, 9, 0, 1, 0, 0, 0, 0), (9, 32, 0, 1, 0, 0, 0, 0), (10, 5, 1, 2, 0, 4, 0, 0), (12, 2, 0, 1, 0, 1, 0, 0), (13, 0, 0, 1, (-1), 0, 0, 0), (14, 22, 0, 3, 8, 22, 1, 0), (17, 2, 1, 2, 0, 4, 0, 0), (19, 20, 0, 3, 21, 40, 0, 0), (22, 2, 1, 2, 0, 4, 0, 0), (24, 4, 0, 1, 0, 0, 0, 0), (25, 26, 0, 3, 0, 5, 4, 23), (28, 2, 0, 1, 0, 1, 0, 0), (29, 0, 1, 2, 8, 0, 0, 0), (31, 9, 0, 1, 0, 0, 2, 0), (32, 2, 0, 1, 0, 2, 0, 0), (33, 9, 0, 1, 0, 0, 0, 0), (34, 0, 0, 1, 3, 0, 0, 0), (35, 9, 0, 1, 0, 0, 2, 0), (36, 2, 0, 1, 0, 3, 0, 0), (37, 9, 0, 1, 0, 0, 0, 0), (38, 32, 0, 1, 0, 0, 0, 0), (39, 9, 0, 1, 0, 0, 0, 0), (40, 39, 0, 1, 0, 0, 0, 0)]
def pm_I45 : List (Nat × pm_Ins) := [(0, 0, 0, 1, 0, 0, 0, 0), (1, 5, 1, 2, 0, 4, 0, 0), (3, 0, 0, 1, 0, 0, 0, 0), (4, 5, 1, 2, 0, 5, 0, 0), (6, 2, 1, 2, 0, 5, 0, 0), (8, 2, 0, 1, 0, 2, 0, 0), (9, 22, 0, 3, 38, 47, 3, 0), (12, 2, 1, 2, 0, 4, 0, 0), (14, 4, 0, 1, 0, 0, 0, 0), (15, 2, 1, 2, 0, 5, 0, 0), (17, 21, 0, 3, 12, 29, 5, 0), (20, 4, 0, 1, 0, 1, 0, 0), (21, 2, 1, 2, 0, 5, 0, 0), (23, 0, 0, 1, 1, 0, 0, 0), (24, 9, 0, 1, 0, 0, 1, 0), (25, 32, 0, 1, 0, 0, 0, 0), (26, 20, 0, 3, 4, 30, 0, 0), (29, 0, 0, 1, (-1), 0, 0, 0), (30, 4, 0, 1, 0, 1, 0, 0), (31, 2, 1, 2, 0, 5, 0, 0), (33, 32, 0, 1, 0, 0, 0, 0), (34, 2, 0, 1, 0, 3, 0, 0), (35, 43, 0, 3, 0, 44, 0, 70), (38, 9, 0, 1, 0, 0, 0, 0), (39, 5, 1, 2, 0, 4, 0, 0), (41, 8, 0, 3, 1, 5, 0, 0), (44, 20, 0, 3, (-38), 6, 0, 0), (47, 2, 1, 2, 0, 4, 0, 0), (49, 39, 0, 1, 0, 0, 0, 0)]
def pm_I46 : List (Nat × pm_Ins) := [(0, 0, 0, 1, 0, 0, 0, 0), (1, 5, 0, 1, 0, 3, 0, 0), (2, 4, 0, 1, 0, 0, 0, 0), (3, 26, 0, 3, 0, 8, 4, 29), (6, 2, 0, 1, 0, 1, 0, 0), (7, 32, 0, 1, 0, 0, 0, 0), (8, 5, 1, 2, 0, 4, 0, 0), (10, 2, 1, 2, 0, 4, 0, 0), (12, 4, 0, 1, 0, 0, 0, 0), (13, 26, 0, 3, 0, 8, 4, 29), (16, 2, 0, 1, 0, 1, 0, 0), (17, 0, 0, 1, 1, 0, 0, 0), (18, 9, 0, 1, 0, 0, 0, 0), (19, 32, 0, 1, 0, 0, 0, 0), (20, 22, 0, 3, 75, 95, 3, 0), (23, 4, 0, 1, 0, 0, 0, 0), (24, 2, 1, 2, 0, 4, 0, 0), (26, 4, 0, 1, 0, 2, 0, 0), (27, 43, 0, 3, 0, 48, 0, 74), (30, 21, 0, 3, 59, 89, 5, 0), (33, 0, 0, 1, 0, 0, 0, 0), (34, 5, 1, 2, 0, 5, 0, 0), (36, 2, 1, 2, 0, 5, 0, 0), (38, 4, 0, 1, 0, 0, 0, 0), (39, 26, 0, 3, 0, 10, 4, 32), (42, 2, 1, 2, 0, 4, 0, 0), (44, 32, 0, 1, 0, 0, 0, 0), (45, 22, 0, 3, 44, 89, 3, 0), (48, 4, 0, 1, 0, 0, 0, 0), (49, 26, 0, 3, 0, 11, 4, 35), (52, 2, 1, 2, 0, 4, 0, 0), (54, 0, 0, 1, 4, 0, 0, 0), (55, 9, 0, 1, 0, 0, 2, 0), (56, 2, 1, 2, 0, 5, 0, 0), (58, 9, 0, 1, 0, 0, 0, 0), (59, 32, 0, 1, 0, 0, 0, 0), (60, 5, 1, 2, 0, 6, 0, 0), (62, 2, 0, 1, 0, 3, 0, 0), (63, 2, 1, 2, 0, 6, 0, 0), (65, 0, 1, 2, 8, 0, 0, 0), (67, 22, 0, 3, 13, 80, 2, 0), (70, 0, 0, 1, 1, 0, 0, 0), (71, 2, 1, 2, 0, 6, 0, 0), (73, 0, 1, 2, 8, 0, 0, 0), (75, 9, 0, 1, 0, 0, 1, 0), (76, 9, 0, 1, 0, 0, 6, 0), (77, 20, 0, 3, 4, 81, 0, 0), (80, 0, 0, 1, 0, 0, 0, 0), (81, 9, 0, 1, 0, 0, 4, 0), (82, 5, 0, 1, 0, 3, 0, 0), (83, 8, 0, 3, 1, 5, 0, 0), (86, 20, 0, 3, (-50), 36, 0, 0), (89, 8, 0, 3, 1, 4, 0, 0), (92, 20, 0, 3, (-82), 10, 0, 0), (95, 2, 0, 1, 0, 3, 0, 0), (96, 39, 0, 1, 0, 0, 0, 0)]
def pm_I47 : List (Nat × pm_Ins) := [(0, 4, 0, 1, 0, 0, 0, 0), (1, 24, 0, 3, 0, 6, 4, 57), (4, 21, 0, 3, 14, 18, 5, 0), (7, 4, 0, 1, 0, 1, 0, 0), (8, 0, 1, 2, 8, 0, 0, 0), (10, 32, 0, 1, 0, 0, 0, 0), (11, 21, 0, 3, 7, 18, 5, 0), (14, 0, 0, 1, 1, 0, 0, 0), (15, 20, 0, 3, 4, 19, 0, 0), (18, 0, 0, 1, 0, 0, 0, 0), (19, 5, 0, 1, 0, 2, 0, 0), (20, 0, 0, 1, 0, 0, 0, 0), (21, 5, 0, 1, 0, 3, 0, 0), (22, 2, 0, 1, 0, 3, 0, 0), (23, 4, 0, 1, 0, 0, 0, 0), (24, 24, 0, 3, 0, 6, 4, 57), (27, 22, 0, 3, 46, 73, 3, 0), (30, 0, 0, 1, 0, 0, 0, 0), (31, 5, 1, 2, 0, 4, 0, 0), (33, 2, 1, 2, 0, 4, 0, 0), (35, 4, 0, 1, 0, 0, 0, 0), (36, 24, 0, 3, 0, 6, 4, 57), (39, 22, 0, 3, 28, 67, 3, 0), (42, 2, 0, 1, 0, 2, 0, 0), (43, 2, 1, 2, 0, 4, 0, 0), (45, 9, 0, 1, 0, 0, 7, 0), (46, 0, 0, 1, 1, 0, 0, 0), (47, 9, 0, 1, 0, 0, 3, 0), (48, 21, 0, 3, 13, 61, 0, 0), (51, 2, 0, 1, 0, 2, 0, 0), (52, 4, 0, 1, 0, 0, 0, 0), (53, 2, 1, 2, 0, 4, 0, 0), (55, 4, 0, 1, 0, 1, 0, 0), (56, 43, 0, 3, 0, 46, 0, 78), (59, 9, 0, 1, 0, 0, 4, 0), (60, 5, 0, 1, 0, 2, 0, 0), (61, 8, 0, 3, 1, 4, 0, 0), (64, 20, 0, 3, (-31), 33, 0, 0), (67, 8, 0, 3, 1, 3, 0, 0), (70, 20, 0, 3, (-48), 22, 0, 0), (73, 2, 0, 1, 0, 2, 0, 0), (74, 39, 0, 1, 0, 0, 0, 0)]
def pm_I48 : List (Nat × pm_Ins) := [(0, 0, 0, 1, 0, 0, 0, 0), (1, 5, 0, 1, 0, 3, 0, 0), (2, 0, 0, 1, 0, 0, 0, 0), (3, 5, 1, 2, 0, 4, 0, 0), (5, 2, 1, 2, 0, 4, 0, 0), (7, 4, 0, 1, 0, 0, 0, 0), (8, 26, 0, 3, 0, 10, 4, 32), (11, 2, 0, 1, 0, 1, 0, 0), (12, 32, 0, 1, 0, 0, 0, 0), (13, 22, 0, 3, 36, 49, 3, 0), (16, 4, 0, 1, 0, 2, 0, 0), (17, 4, 0, 1, 0, 0, 0, 0), (18, 26, 0, 3, 0, 11, 4, 35), (21, 2, 0, 1, 0, 1, 0, 0), (22, 0, 0, 1, 4, 0, 0, 0), (23, 9, 0, 1, 0, 0, 2, 0), (24, 2, 1, 2, 0, 4, 0, 0), (26, 9, 0, 1, 0, 0, 0, 0), (27, 32, 0, 1, 0, 0, 0, 0), (28, 32, 0, 1, 0, 0, 0, 0), (29, 5, 1, 2, 0, 5, 0, 0), (31, 2, 1, 2, 0, 5, 0, 0), (33, 21, 0, 3, 5, 38, 1, 0), (36, 0, 0, 1, 0, 0, 0, 0), (37, 39, 0, 1, 0, 0, 0, 0), (38, 2, 0, 1, 0, 3, 0, 0), (39, 2, 1, 2, 0, 5, 0, 0), (41, 9, 0, 1, 0, 0, 0, 0), (42, 5, 0, 1, 0, 3, 0, 0), (43, 8, 0, 3, 1, 4, 0, 0), (46, 20, 0, 3, (-41), 5, 0, 0), (49, 2, 0, 1, 0, 3, 0, 0), (50, 39, 0, 1, 0, 0, 0, 0)]
def pm_I49 : List (Nat × pm_Ins) := [(0, 0, 0, 1, 0, 0, 0, 0), (1, 5, 0, 1, 0, 3, 0, 0), (2, 2, 0, 1, 0, 3, 0, 0), (3, 4, 0, 1, 0, 0, 0, 0), (4, 24, 0, 3, 0, 0, 4, 45), (7, 22, 0, 3, 22, 29, 3, 0), (10, 4, 0, 1, 0, 0, 0, 0), (11, 26, 0, 3, 0, 1, 4, 9), (14, 2, 0, 1, 0, 3, 0, 0), (15, 34, 0, 1, 0, 0, 0, 0), (16, 3, 0, 1, 0, 1, 0, 0), (17, 13, 0, 1, 0, 0, 0, 0), (18, 21, 0, 3, 5, 23, 1, 0), (21, 2, 0, 1, 0, 3, 0, 0), (22, 39, 0, 1, 0, 0, 0, 0), (23, 8, 0, 3, 1, 3, 0, 0), (26, 20, 0, 3, (-24), 2, 0, 0), (29, 0, 0, 1, 0, 0, 0, 0), (30, 5, 0, 1, 0, 3, 0, 0), (31, 2, 0, 1, 0, 3, 0, 0), (32, 4, 0, 1, 0, 0, 0, 0), (33, 24, 0, 3, 0, 6, 4, 57), (36, 22, 0, 3, 25, 61, 3, 0), (39, 4, 0, 1, 0, 0, 0, 0), (40, 26, 0, 3, 0, 7, 4, 26), (43, 2, 0, 1, 0, 3, 0, 0), (44, 34, 0, 1, 0, 0, 0, 0), (45, 3, 0, 1, 0, 1, 0, 0), (46, 13, 0, 1, 0, 0, 0, 0), (47, 21, 0, 3, 8, 55, 1, 0), (50, 0, 1, 2, 8, 0, 0, 0), (52, 2, 0, 1, 0, 3, 0, 0), (53, 9, 0, 1, 0, 0, 0, 0), (54, 39, 0, 1, 0, 0, 0, 0), (55, 8, 0, 3, 1, 3, 0, 0), (58, 20, 0, 3, (-27), 31, 0, 0), (61, 0, 0, 1, (-1), 0, 0, 0), (62, 39, 0, 1, 0, 0, 0, 0)]
def pm_I50 : List (Nat × pm_Ins) := [(0, 4, 0, 1, 0, 0, 0, 0), (1, 24, 0, 3, 0, 14, 4, 67), (4, 21, 0, 3, 17, 21, 5, 0), (7, 4, 0, 1, 0, 0, 0, 0), (8, 26, 0, 3, 0, 15, 4, 38), (11, 2, 0, 1, 0, 1, 0, 0), (12, 4, 0, 1, 0, 0, 0, 0), (13, 24, 0, 3, 0, 14, 4, 67), (16, 9, 0, 1, 0, 0, 8, 0), (17, 32, 0, 1, 0, 0, 0, 0), (18, 20, 0, 3, 6, 24, 0, 0), (21, 2, 0, 1, 0, 1, 0, 0), (22, 0, 0, 1, 3, 0, 0, 0), (23, 9, 0, 1, 0, 0, 8, 0), (24, 39, 0, 1, 0, 0, 0, 0)]
def pm_I51 : List (Nat × pm_Ins) := [(0, 2, 0, 1, 0, 1, 0, 0), (1, 0, 0, 1, 1, 0, 0, 0), (2, 9, 0, 1, 0, 0, 1, 0), (3, 0, 1, 2, 8, 0, 0, 0), (5, 9, 0, 1, 0, 0, 2, 0), (6, 5, 1, 2, 0, 4, 0, 0), (8, 0, 0, 1, 0, 0, 0, 0), (9, 5, 1, 2, 0, 5, 0, 0), (11, 2, 1, 2, 0, 5, 0, 0), (13, 0, 1, 2, 16, 0, 0, 0), (15, 22, 0, 3, 74, 89, 3, 0), (18, 2, 1, 2, 0, 5, 0, 0), (20, 0, 1, 2, 8, 0, 0, 0), (22, 22, 0, 3, 16, 38, 3, 0), (25, 2, 0, 1, 0, 2, 0, 0), (26, 2, 1, 2, 0, 5, 0, 0), (28, 9, 0, 1, 0, 0, 7, 0), (29, 0, 0, 1, 1, 0, 0, 0), (30, 9, 0, 1, 0, 0, 3, 0), (31, 21, 0, 3, 7, 38, 0, 0), (34, 0, 0, 1, 1, 0, 0, 0), (35, 20, 0, 3, 4, 39, 0, 0), (38, 0, 0, 1, 0, 0, 0, 0), (39, 5, 1, 2, 0, 6, 0, 0), (41, 2, 0, 1, 0, 3, 0, 0), (42, 21, 0, 3, 10, 52, 0, 0), (45, 1, 0, 1, 1, 1, 0, 0), (46, 2, 1, 2, 0, 5, 0, 0), (48, 12, 0, 1, 0, 0, 0, 0), (49, 20, 0, 3, 6, 55, 0, 0), (52, 1, 1, 3, 255, 0, 0, 40), (55, 6, 1, 2, 0, 7, 0, 0), (57, 4, 0, 1, 0, 0, 0, 0), (58, 26, 0, 3, 0, 0, 5, 9), (61, 2, 0, 1, 0, 1, 0, 0), (62, 0, 1, 2, 16, 0, 0, 0), (64, 9, 0, 1, 0, 0, 2, 0), (65, 2, 1, 2, 0, 5, 0, 0), (67, 9, 0, 1, 0, 0, 0, 0), (68, 2, 1, 2, 0, 6, 0, 0), (70, 21, 0, 3, 11, 81, 0, 0), (73, 3, 1, 2, 0, 7, 0, 0), (75, 2, 1, 2, 0, 4, 0, 0), (77, 12, 0, 1, 0, 0, 0, 0), (78, 20, 0, 3, 4, 82, 0, 0), (81, 1, 0, 1, 0, 0, 0, 0), (82, 38, 0, 1, 0, 0, 0, 0), (83, 8, 0, 3, 1, 5, 0, 0), (86, 20, 0, 3, (-75), 11, 0, 0), (89, 42, 0, 1, 0, 0, 0, 0)]
def pm_I52 : List (Nat × pm_Ins) := [(0, 4, 0, 1, 0, 0, 0, 0), (1, 2, 0, 1, 0, 2, 0, 0), (2, 2, 0, 1, 0, 3, 0, 0), (3, 2, 1, 2, 0, 4, 0, 0), (5, 43, 0, 3, 0, 51, 0, 44), (8, 0, 0, 1, 1, 0, 0, 0), (9, 5, 1, 2, 0, 5, 0, 0), (11, 0, 0, 1, 0, 0, 0, 0), (12, 5, 1, 2, 0, 6, 0, 0), (14, 2, 1, 2, 0, 6, 0, 0), (16, 2, 0, 1, 0, 2, 0, 0), (17, 22, 0, 3, 131, 148, 3, 0), (20, 2, 1, 2, 0, 5, 0, 0), (22, 21, 0, 3, 126, 148, 0, 0), (25, 0, 0, 1, 0, 0, 0, 0), (26, 5, 1, 2, 0, 5, 0, 0), (28, 4, 0, 1, 0, 1, 0, 0), (29, 24, 0, 3, 0, 6, 4, 28), (32, 0, 0, 1, 1, 0, 0, 0), (33, 9, 0, 1, 0, 0, 1, 0), (34, 5, 1, 2, 0, 7, 0, 0), (36, 2, 1, 2, 0, 7, 0, 0), (38, 21, 0, 3, 104, 142, 2, 0), (41, 2, 0, 1, 0, 2, 0, 0), (42, 0, 1, 2, 16, 0, 0, 0), (44, 9, 0, 1, 0, 0, 2, 0), (45, 0, 1, 2, 8, 0, 0, 0), (47, 9, 0, 1, 0, 0, 0, 0), (48, 2, 1, 2, 0, 7, 0, 0), (50, 9, 0, 1, 0, 0, 0, 0), (51, 5, 1, 2, 0, 8, 0, 0), (53, 4, 0, 1, 0, 0, 0, 0), (54, 26, 0, 3, 0, 0, 5, 9), (57, 2, 1, 2, 0, 8, 0, 0), (59, 34, 0, 1, 0, 0, 0, 0), (60, 6, 1, 2, 0, 9, 0, 0), (62, 4, 0, 1, 0, 1, 0, 0), (63, 26, 0, 3, 0, 8, 4, 48), (66, 2, 1, 2, 0, 7, 0, 0), (68, 32, 0, 1, 0, 0, 0, 0), (69, 5, 1, 2, 0, 11, 0, 0), (71, 2, 1, 2, 0, 11, 0, 0), (73, 4, 0, 1, 0, 1, 0, 0), (74, 26, 0, 3, 0, 8, 4, 48), (77, 2, 1, 2, 0, 7, 0, 0), (79, 0, 0, 1, 1, 0, 0, 0), (80, 9, 0, 1, 0, 0, 0, 0), (81, 32, 0, 1, 0, 0, 0, 0), (82, 22, 0, 3, 22, 104, 3, 0), (85, 3, 1, 2, 0, 9, 0, 0), (87, 4, 0, 1, 0, 0, 0, 0), (88, 4, 0, 1, 0, 1, 0, 0), (89, 2, 1, 2, 0, 11, 0, 0), (91, 2, 0, 1, 0, 2, 0, 0), (92, 43, 0, 3, 0, 56, 0, 52), (95, 11, 0, 1, 0, 0, 3, 0), (96, 6, 1, 2, 0, 9, 0, 0), (98, 8, 0, 3, 1, 11, 0, 0), (101, 20, 0, 3, (-30), 71, 0, 0), (104, 2, 1, 2, 0, 5, 0, 0), (106, 3, 1, 2, 0, 9, 0, 0), (108, 4, 0, 1, 0, 0, 0, 0), (109, 26, 0, 3, 0, 0, 5, 9), (112, 2, 1, 2, 0, 8, 0, 0), (114, 34, 0, 1, 0, 0, 0, 0), (115, 13, 0, 1, 0, 0, 0, 0), (116, 21, 0, 3, 7, 123, 0, 0), (119, 0, 0, 1, 1, 0, 0, 0), (120, 20, 0, 3, 4, 124, 0, 0), (123, 0, 0, 1, 0, 0, 0, 0), (124, 9, 0, 1, 0, 0, 4, 0), (125, 5, 1, 2, 0, 5, 0, 0), (127, 4, 0, 1, 0, 0, 0, 0), (128, 26, 0, 3, 0, 0, 5, 9), (131, 2, 1, 2, 0, 8, 0, 0), (133, 3, 1, 2, 0, 9, 0, 0), (135, 38, 0, 1, 0, 0, 0, 0), (136, 8, 0, 3, (-1), 7, 0, 0), (139, 20, 0, 3, (-103), 36, 0, 0), (142, 8, 0, 3, 1, 6, 0, 0), (145, 20, 0, 3, (-131), 14, 0, 0), (148, 42, 0, 1, 0, 0, 0, 0)]
def pm_I53 : List (Nat × pm_Ins) := [(0, 0, 0, 1, 0, 0, 0, 0), (1, 5, 0, 1, 0, 3, 0, 0), (2, 2, 0, 1, 0, 3, 0, 0), (3, 0, 1, 2, 16, 0, 0, 0), (5, 22, 0, 3, 43, 48, 3, 0), (8, 2, 0, 1, 0, 1, 0, 0), (9, 0, 0, 1, 1, 0, 0, 0), (10, 9, 0, 1, 0, 0, 0, 0), (11, 0, 1, 2, 16, 0, 0, 0), (13, 9, 0, 1, 0, 0, 2, 0), (14, 2, 0, 1, 0, 3, 0, 0), (15, 9, 0, 1, 0, 0, 0, 0), (16, 5, 1, 2, 0, 4, 0, 0), (18, 4, 0, 1, 0, 0, 0, 0), (19, 26, 0, 3, 0, 0, 5, 9), (22, 2, 1, 2, 0, 4, 0, 0), (24, 4, 0, 1, 0, 0, 0, 0), (25, 26, 0, 3, 0, 1, 5, 15), (28, 2, 1, 2, 0, 4, 0, 0), (30, 34, 0, 1, 0, 0, 0, 0), (31, 2, 0, 1, 0, 2, 0, 0), (32, 12, 0, 1, 0, 0, 1, 0), (33, 1, 1, 3, 1103823438081, 0, 0, 42), (36, 11, 0, 1, 0, 0, 2, 0), (37, 1, 1, 3, 255, 0, 0, 40), (40, 11, 0, 1, 0, 0, 1, 0), (41, 38, 0, 1, 0, 0, 0, 0), (42, 8, 0, 3, 1, 3, 0, 0), (45, 20, 0, 3, (-43), 2, 0, 0), (48, 42, 0, 1, 0, 0, 0, 0)]
def pm_I54 : List (Nat × pm_Ins) := [(0, 2, 0, 1, 0, 2, 0, 0), (1, 4, 0, 1, 0, 1, 0, 0), (2, 24, 0, 3, 0, 12, 4, 22), (5, 22, 0, 3, 10, 15, 3, 0), (8, 4, 0, 1, 0, 1, 0, 0), (9, 24, 0, 3, 0, 6, 4, 28), (12, 21, 0, 3, 5, 17, 1, 0), (15, 0, 0, 1, 0, 0, 0, 0), (16, 39, 0, 1, 0, 0, 0, 0), (17, 0, 0, 1, 1, 0, 0, 0), (18, 4, 0, 1, 0, 1, 0, 0), (19, 24, 0, 3, 0, 0, 4, 31), (22, 9, 0, 1, 0, 0, 6, 0), (23, 0, 0, 1, 1, 0, 0, 0), (24, 9, 0, 1, 0, 0, 1, 0), (25, 5, 0, 1, 0, 3, 0, 0), (26, 4, 0, 1, 0, 0, 0, 0), (27, 4, 0, 1, 0, 1, 0, 0), (28, 2, 0, 1, 0, 2, 0, 0), (29, 0, 0, 1, 1, 0, 0, 0), (30, 9, 0, 1, 0, 0, 0, 0), (31, 2, 0, 1, 0, 3, 0, 0), (32, 0, 0, 1, 1, 0, 0, 0), (33, 43, 0, 3, 0, 52, 0, 18), (36, 4, 0, 1, 0, 0, 0, 0), (37, 26, 0, 3, 0, 0, 5, 9), (40, 2, 0, 1, 0, 2, 0, 0), (41, 0, 0, 1, 1, 0, 0, 0), (42, 9, 0, 1, 0, 0, 0, 0), (43, 0, 1, 2, 16, 0, 0, 0), (45, 9, 0, 1, 0, 0, 2, 0), (46, 4, 0, 1, 0, 0, 0, 0), (47, 26, 0, 3, 0, 1, 5, 15), (50, 2, 0, 1, 0, 2, 0, 0), (51, 0, 0, 1, 1, 0, 0, 0), (52, 9, 0, 1, 0, 0, 0, 0), (53, 0, 1, 2, 16, 0, 0, 0), (55, 9, 0, 1, 0, 0, 2, 0), (56, 0, 1, 2, 16, 0, 0, 0), (58, 45, 0, 3, 0, 0, 0, 34), (61, 2, 0, 1, 0, 2, 0, 0), (62, 0, 0, 1, 2, 0, 0, 0), (63, 9, 0, 1, 0, 0, 0, 0), (64, 5, 1, 2, 0, 4, 0, 0), (66, 2, 1, 2, 0, 4, 0, 0), (68, 4, 0, 1, 0, 1, 0, 0), (69, 24, 0, 3, 0, 12, 4, 22), (72, 22, 0, 3, 18, 90, 4, 0), (75, 4, 0, 1, 0, 0, 0, 0), (76, 4, 0, 1, 0, 1, 0, 0), (77, 2, 1, 2, 0, 4, 0, 0), (79, 2, 0, 1, 0, 3, 0, 0), (80, 0, 0, 1, 0, 0, 0, 0), (81, 43, 0, 3, 0, 52, 0, 18), (84, 8, 0, 3, 1, 4, 0, 0), (87, 20, 0, 3, (-21), 66, 0, 0), (90, 4, 0, 1, 0, 0, 0, 0), (91, 26, 0, 3, 0, 0, 5, 9), (94, 4, 0, 1, 0, 1, 0, 0), (95, 24, 0, 3, 0, 12, 4, 22), (98, 0, 1, 2, 16, 0, 0, 0), (100, 9, 0, 1, 0, 0, 2, 0), (101, 0, 1, 2, 8, 0, 0, 0), (103, 9, 0, 1, 0, 0, 0, 0), (104, 34, 0, 1, 0, 0, 0, 0), (105, 1, 1, 3, 255, 0, 0, 40), (108, 11, 0, 1, 0, 0, 2, 0), (109, 15, 0, 1, 0, 0, 0, 0), (110, 39, 0, 1, 0, 0, 0, 0)]
def pm_I55 : List (Nat × pm_Ins) := [(0, 0, 0, 1, 0, 0, 0, 0), (1, 5, 1, 2, 0, 4, 0, 0), (3, 2, 1, 2, 0, 4, 0, 0), (5, 2, 0, 1, 0, 3, 0, 0), (6, 22, 0, 3, 25, 31, 3, 0), (9, 4, 0, 1, 0, 0, 0, 0), (10, 4, 0, 1, 0, 1, 0, 0), (11, 2, 1, 2, 0, 4, 0, 0), (13, 0, 0, 1, 1, 0, 0, 0), (14, 9, 0, 1, 0, 0, 0, 0), (15, 0, 0, 1, 1, 0, 0, 0), (16, 4, 0, 1, 0, 2, 0, 0), (17, 2, 1, 2, 0, 4, 0, 0), (19, 32, 0, 1, 0, 0, 0, 0), (20, 9, 0, 1, 0, 0, 6, 0), (21, 0, 0, 1, 0, 0, 0, 0), (22, 43, 0, 3, 0, 52, 0, 18), (25, 8, 0, 3, 1, 4, 0, 0), (28, 20, 0, 3, (-25), 3, 0, 0), (31, 42, 0, 1, 0, 0, 0, 0)]
def pm_I56 : List (Nat × pm_Ins) := [(0, 4, 0, 1, 0, 1, 0, 0), (1, 26, 0, 3, 0, 10, 4, 56), (4, 2, 0, 1, 0, 2, 0, 0), (5, 32, 0, 1, 0, 0, 0, 0), (6, 0, 0, 1, 1, 0, 0, 0), (7, 9, 0, 1, 0, 0, 1, 0), (8, 5, 1, 2, 0, 4, 0, 0), (10, 4, 0, 1, 0, 0, 0, 0), (11, 26, 0, 3, 0, 0, 5, 9), (14, 2, 0, 1, 0, 3, 0, 0), (15, 0, 1, 2, 16, 0, 0, 0), (17, 9, 0, 1, 0, 0, 2, 0), (18, 4, 0, 1, 0, 1, 0, 0), (19, 26, 0, 3, 0, 11, 4, 59), (22, 2, 0, 1, 0, 2, 0, 0), (23, 0, 0, 1, 4, 0, 0, 0), (24, 9, 0, 1, 0, 0, 2, 0), (25, 2, 1, 2, 0, 4, 0, 0), (27, 9, 0, 1, 0, 0, 0, 0), (28, 32, 0, 1, 0, 0, 0, 0), (29, 9, 0, 1, 0, 0, 0, 0), (30, 34, 0, 1, 0, 0, 0, 0), (31, 6, 1, 2, 0, 5, 0, 0), (33, 2, 1, 2, 0, 4, 0, 0), (35, 0, 0, 1, 1, 0, 0, 0), (36, 9, 0, 1, 0, 0, 1, 0), (37, 5, 1, 2, 0, 7, 0, 0), (39, 2, 1, 2, 0, 7, 0, 0), (41, 21, 0, 3, 97, 138, 2, 0), (44, 3, 1, 2, 0, 5, 0, 0), (46, 1, 0, 1, 0, 0, 0, 0), (47, 13, 0, 1, 0, 0, 0, 0), (48, 21, 0, 3, 90, 138, 0, 0), (51, 4, 0, 1, 0, 1, 0, 0), (52, 26, 0, 3, 0, 11, 4, 59), (55, 2, 0, 1, 0, 2, 0, 0), (56, 0, 0, 1, 4, 0, 0, 0), (57, 9, 0, 1, 0, 0, 2, 0), (58, 2, 1, 2, 0, 7, 0, 0), (60, 9, 0, 1, 0, 0, 0, 0), (61, 32, 0, 1, 0, 0, 0, 0), (62, 5, 1, 2, 0, 8, 0, 0), (64, 1, 0, 1, 0, 0, 0, 0), (65, 6, 1, 2, 0, 9, 0, 0), (67, 0, 0, 1, 1, 0, 0, 0), (68, 5, 1, 2, 0, 11, 0, 0), (70, 2, 1, 2, 0, 11, 0, 0), (72, 2, 0, 1, 0, 3, 0, 0), (73, 22, 0, 3, 55, 128, 3, 0), (76, 3, 1, 2, 0, 5, 0, 0), (78, 2, 1, 2, 0, 11, 0, 0), (80, 0, 1, 2, 8, 0, 0, 0), (82, 9, 0, 1, 0, 0, 2, 0), (83, 12, 0, 1, 0, 0, 1, 0), (84, 1, 1, 3, 255, 0, 0, 40), (87, 11, 0, 1, 0, 0, 2, 0), (88, 6, 1, 2, 0, 12, 0, 0), (90, 3, 1, 2, 0, 12, 0, 0), (92, 1, 0, 1, 0, 0, 0, 0), (93, 13, 0, 1, 0, 0, 0, 0), (94, 21, 0, 3, 28, 122, 0, 0), (97, 3, 1, 2, 0, 9, 0, 0), (99, 4, 0, 1, 0, 0, 0, 0), (100, 26, 0, 3, 0, 0, 5, 9), (103, 2, 1, 2, 0, 11, 0, 0), (105, 0, 1, 2, 16, 0, 0, 0), (107, 9, 0, 1, 0, 0, 2, 0), (108, 2, 1, 2, 0, 8, 0, 0), (110, 9, 0, 1, 0, 0, 0, 0), (111, 34, 0, 1, 0, 0, 0, 0), (112, 3, 1, 2, 0, 12, 0, 0), (114, 1, 1, 3, 1103823438081, 0, 0, 42), (117, 11, 0, 1, 0, 0, 1, 0), (118, 11, 0, 1, 0, 0, 2, 0), (119, 11, 0, 1, 0, 0, 3, 0), (120, 6, 1, 2, 0, 9, 0, 0), (122, 8, 0, 3, 1, 11, 0, 0), (125, 20, 0, 3, (-55), 70, 0, 0), (128, 3, 1, 2, 0, 9, 0, 0), (130, 6, 1, 2, 0, 5, 0, 0), (132, 8, 0, 3, (-1), 7, 0, 0), (135, 20, 0, 3, (-96), 39, 0, 0), (138, 3, 1, 2, 0, 5, 0, 0), (140, 40, 0, 1, 0, 0, 0, 0)]
def pm_I57 : List (Nat × pm_Ins) := [(0, 0, 0, 1, 0, 0, 0, 0), (1, 5, 1, 2, 0, 4, 0, 0), (3, 2, 1, 2, 0, 4, 0, 0), (5, 4, 0, 1, 0, 0, 0, 0), (6, 24, 0, 3, 0, 0, 6, 28), (9, 22, 0, 3, 105, 114, 3, 0), (12, 4, 0, 1, 0, 0, 0, 0), (13, 26, 0, 3, 0, 6, 6, 25), (16, 2, 1, 2, 0, 4, 0, 0), (18, 32, 0, 1, 0, 0, 0, 0), (19, 0, 0, 1, (-1), 0, 0, 0), (20, 22, 0, 3, 18, 38, 0, 0), (23, 4, 0, 1, 0, 0, 0, 0), (24, 26, 0, 3, 0, 6, 6, 25), (27, 2, 1, 2, 0, 4, 0, 0), (29, 32, 0, 1, 0, 0, 0, 0), (30, 2, 0, 1, 0, 3, 0, 0), (31, 22, 0, 3, 7, 38, 4, 0), (34, 0, 0, 1, 1, 0, 0, 0), (35, 20, 0, 3, 4, 39, 0, 0), (38, 0, 0, 1, 0, 0, 0, 0), (39, 5, 1, 2, 0, 5, 0, 0), (41, 4, 0, 1, 0, 0, 0, 0), (42, 26, 0, 3, 0, 5, 6, 22), (45, 2, 1, 2, 0, 4, 0, 0), (47, 32, 0, 1, 0, 0, 0, 0), (48, 2, 0, 1, 0, 3, 0, 0), (49, 22, 0, 3, 12, 61, 4, 0), (52, 2, 1, 2, 0, 5, 0, 0), (54, 21, 0, 3, 7, 61, 1, 0), (57, 0, 0, 1, 1, 0, 0, 0), (58, 20, 0, 3, 4, 62, 0, 0), (61, 0, 0, 1, 0, 0, 0, 0), (62, 5, 1, 2, 0, 6, 0, 0), (64, 2, 1, 2, 0, 6, 0, 0), (66, 21, 0, 3, 42, 108, 0, 0), (69, 4, 0, 1, 0, 1, 0, 0), (70, 2, 0, 1, 0, 2, 0, 0), (71, 4, 0, 1, 0, 0, 0, 0), (72, 26, 0, 3, 0, 2, 6, 9), (75, 2, 1, 2, 0, 4, 0, 0), (77, 32, 0, 1, 0, 0, 0, 0), (78, 43, 0, 3, 0, 77, 0, 35), (81, 4, 0, 1, 0, 0, 0, 0), (82, 26, 0, 3, 0, 3, 6, 15), (85, 2, 1, 2, 0, 4, 0, 0), (87, 32, 0, 1, 0, 0, 0, 0), (88, 22, 0, 3, 7, 95, 1, 0), (91, 0, 0, 1, 1, 0, 0, 0), (92, 20, 0, 3, 4, 96, 0, 0), (95, 0, 0, 1, 0, 0, 0, 0), (96, 4, 0, 1, 0, 0, 0, 0), (97, 26, 0, 3, 0, 4, 6, 18), (100, 2, 1, 2, 0, 4, 0, 0), (102, 33, 0, 1, 0, 0, 0, 0), (103, 22, 0, 3, 5, 108, 0, 0), (106, 0, 0, 1, 0, 0, 0, 0), (107, 39, 1, 1, 0, 0, 0, 0), (108, 8, 0, 3, 1, 4, 0, 0), (111, 20, 0, 3, (-108), 3, 0, 0), (114, 0, 0, 1, 1, 0, 0, 0), (115, 39, 1, 1, 0, 0, 0, 0)]
def pm_I58 : List (Nat × pm_Ins) := [(0, 2, 0, 1, 0, 1, 0, 0), (1, 21, 0, 3, 21, 22, 2, 0), (4, 2, 0, 1, 0, 1, 0, 0), (5, 4, 0, 1, 0, 0, 0, 0), (6, 24, 0, 3, 0, 0, 6, 28), (9, 22, 0, 3, 13, 22, 3, 0), (12, 4, 0, 1, 0, 0, 0, 0), (13, 26, 0, 3, 0, 6, 6, 25), (16, 2, 0, 1, 0, 1, 0, 0), (17, 32, 0, 1, 0, 0, 0, 0), (18, 0, 0, 1, (-1), 0, 0, 0), (19, 22, 0, 3, 5, 24, 0, 0), (22, 0, 0, 1, 0, 0, 0, 0), (23, 39, 1, 1, 0, 0, 0, 0), (24, 4, 0, 1, 0, 0, 0, 0), (25, 26, 0, 3, 0, 6, 6, 25), (28, 2, 0, 1, 0, 1, 0, 0), (29, 4, 0, 1, 0, 0, 0, 0), (30, 24, 0, 3, 0, 1, 6, 32), (33, 36, 0, 1, 0, 0, 0, 0), (34, 0, 0, 1, 1, 0, 0, 0), (35, 39, 1, 1, 0, 0, 0, 0)]
def pm_I59 : List (Nat × pm_Ins) := [(0, 4, 0, 1, 0, 0, 0, 0), (1, 24, 0, 3, 0, 0, 6, 28), (4, 0, 1, 2, 30, 0, 0, 0), (6, 22, 0, 3, 5, 11, 2, 0), (9, 0, 0, 1, (-1), 0, 0, 0), (10, 39, 0, 1, 0, 0, 0, 0), (11, 4, 0, 1, 0, 0, 0, 0), (12, 26, 0, 3, 0, 2, 6, 9), (15, 4, 0, 1, 0, 0, 0, 0), (16, 24, 0, 3, 0, 0, 6, 28), (19, 2, 0, 1, 0, 1, 0, 0), (20, 36, 0, 1, 0, 0, 0, 0), (21, 4, 0, 1, 0, 0, 0, 0), (22, 26, 0, 3, 0, 3, 6, 15), (25, 4, 0, 1, 0, 0, 0, 0), (26, 24, 0, 3, 0, 0, 6, 28), (29, 2, 0, 1, 0, 2, 0, 0), (30, 36, 0, 1, 0, 0, 0, 0), (31, 4, 0, 1, 0, 0, 0, 0), (32, 26, 0, 3, 0, 4, 6, 18), (35, 4, 0, 1, 0, 0, 0, 0), (36, 24, 0, 3, 0, 0, 6, 28), (39, 2, 0, 1, 0, 3, 0, 0), (40, 37, 0, 1, 0, 0, 0, 0), (41, 4, 0, 1, 0, 0, 0, 0), (42, 26, 0, 3, 0, 5, 6, 22), (45, 4, 0, 1, 0, 0, 0, 0), (46, 24, 0, 3, 0, 0, 6, 28), (49, 4, 0, 1, 0, 0, 0, 0), (50, 24, 0, 3, 0, 1, 6, 32), (53, 36, 0, 1, 0, 0, 0, 0), (54, 4, 0, 1, 0, 0, 0, 0), (55, 26, 0, 3, 0, 6, 6, 25), (58, 4, 0, 1, 0, 0, 0, 0), (59, 24, 0, 3, 0, 0, 6, 28), (62, 0, 0, 1, (-1), 0, 0, 0), (63, 36, 0, 1, 0, 0, 0, 0), (64, 4, 0, 1, 0, 0, 0, 0), (65, 17, 0, 1, 0, 0, 0, 0), (66, 24, 0, 3, 0, 0, 6, 28), (69, 0, 0, 1, 1, 0, 0, 0), (70, 9, 0, 1, 0, 0, 0, 0), (71, 27, 0, 3, 0, 0, 6, 28), (74, 4, 0, 1, 0, 0, 0, 0), (75, 24, 0, 3, 0, 0, 6, 28), (78, 0, 0, 1, 1, 0, 0, 0), (79, 9, 0, 1, 0, 0, 1, 0), (80, 39, 0, 1, 0, 0, 0, 0)]
def pm_I60 : List (Nat × pm_Ins) := [(0, 0, 0, 1, 0, 0, 0, 0), (1, 5, 1, 2, 0, 4, 0, 0), (3, 2, 1, 2, 0, 4, 0, 0), (5, 4, 0, 1, 0, 0, 0, 0), (6, 24, 0, 3, 0, 1, 7, 18), (9, 22, 0, 3, 29, 38, 3, 0), (12, 2, 1, 2, 0, 4, 0, 0), (14, 2, 0, 1, 0, 3, 0, 0), (15, 22, 0, 3, 23, 38, 3, 0), (18, 4, 0, 1, 0, 0, 0, 0), (19, 26, 0, 3, 0, 0, 7, 9), (22, 2, 1, 2, 0, 4, 0, 0), (24, 32, 0, 1, 0, 0, 0, 0), (25, 4, 0, 1, 0, 2, 0, 0), (26, 2, 1, 2, 0, 4, 0, 0), (28, 32, 0, 1, 0, 0, 0, 0), (29, 22, 0, 3, 9, 38, 1, 0), (32, 8, 0, 3, 1, 4, 0, 0), (35, 20, 0, 3, (-32), 3, 0, 0), (38, 2, 1, 2, 0, 4, 0, 0), (40, 5, 1, 2, 0, 5, 0, 0), (42, 2, 1, 2, 0, 5, 0, 0), (44, 2, 0, 1, 0, 3, 0, 0), (45, 22, 0, 3, 29, 74, 3, 0), (48, 4, 0, 1, 0, 0, 0, 0), (49, 26, 0, 3, 0, 0, 7, 9), (52, 2, 1, 2, 0, 5, 0, 0), (54, 4, 0, 1, 0, 2, 0, 0), (55, 2, 1, 2, 0, 5, 0, 0), (57, 32, 0, 1, 0, 0, 0, 0), (58, 36, 0, 1, 0, 0, 0, 0), (59, 4, 0, 1, 0, 0, 0, 0), (60, 4, 0, 1, 0, 1, 0, 0), (61, 2, 1, 2, 0, 5, 0, 0), (63, 0, 0, 1, 1, 0, 0, 0), (64, 9, 0, 1, 0, 0, 0, 0), (65, 43, 0, 3, 0, 61, 0, 22), (68, 8, 0, 3, 1, 5, 0, 0), (71, 20, 0, 3, (-29), 42, 0, 0), (74, 4, 0, 1, 0, 0, 0, 0), (75, 2, 0, 1, 0, 3, 0, 0), (76, 27, 0, 3, 0, 1, 7, 18), (79, 2, 0, 1, 0, 3, 0, 0), (80, 21, 0, 3, 25, 105, 5, 0), (83, 4, 0, 1, 0, 1, 0, 0), (84, 24, 0, 3, 0, 6, 4, 26), (87, 21, 0, 3, 18, 105, 5, 0), (90, 4, 0, 1, 0, 0, 0, 0), (91, 26, 0, 3, 0, 2, 7, 15), (94, 2, 0, 1, 0, 3, 0, 0), (95, 0, 1, 2, 16, 0, 0, 0), (97, 9, 0, 1, 0, 0, 2, 0), (98, 0, 1, 2, 8, 0, 0, 0), (100, 9, 0, 1, 0, 0, 0, 0), (101, 32, 0, 1, 0, 0, 0, 0), (102, 20, 0, 3, 4, 106, 0, 0), (105, 0, 0, 1, 0, 0, 0, 0), (106, 39, 0, 1, 0, 0, 0, 0)]
def pm_I61 : List (Nat × pm_Ins) := [(0, 2, 0, 1, 0, 2, 0, 0), (1, 0, 0, 1, 1, 0, 0, 0), (2, 9, 0, 1, 0, 0, 1, 0), (3, 5, 0, 1, 0, 3, 0, 0), (4, 2, 0, 1, 0, 3, 0, 0), (5, 21, 0, 3, 158, 163, 2, 0), (8, 2, 0, 1, 0, 3, 0, 0), (9, 0, 1, 2, 7, 0, 0, 0), (11, 9, 0, 1, 0, 0, 2, 0), (12, 2, 0, 1, 0, 2, 0, 0), (13, 9, 0, 1, 0, 0, 0, 0), (14, 0, 1, 2, 16, 0, 0, 0), (16, 9, 0, 1, 0, 0, 2, 0), (17, 5, 1, 2, 0, 4, 0, 0), (19, 0, 0, 1, 0, 0, 0, 0), (20, 5, 1, 2, 0, 5, 0, 0), (22, 2, 1, 2, 0, 5, 0, 0), (24, 0, 1, 2, 8, 0, 0, 0), (26, 22, 0, 3, 42, 68, 3, 0), (29, 4, 0, 1, 0, 0, 0, 0), (30, 26, 0, 3, 0, 2, 7, 15), (33, 2, 1, 2, 0, 4, 0, 0), (35, 2, 1, 2, 0, 5, 0, 0), (37, 9, 0, 1, 0, 0, 0, 0), (38, 2, 0, 1, 0, 3, 0, 0), (39, 2, 0, 1, 0, 2, 0, 0), (40, 0, 0, 1, 1, 0, 0, 0), (41, 9, 0, 1, 0, 0, 1, 0), (42, 22, 0, 3, 18, 60, 1, 0), (45, 4, 0, 1, 0, 0, 0, 0), (46, 26, 0, 3, 0, 0, 7, 9), (49, 2, 0, 1, 0, 3, 0, 0), (50, 32, 0, 1, 0, 0, 0, 0), (51, 2, 1, 2, 0, 5, 0, 0), (53, 22, 0, 3, 7, 60, 1, 0), (56, 0, 0, 1, 1, 0, 0, 0), (57, 20, 0, 3, 4, 61, 0, 0), (60, 0, 0, 1, 0, 0, 0, 0), (61, 36, 0, 1, 0, 0, 0, 0), (62, 8, 0, 3, 1, 5, 0, 0), (65, 20, 0, 3, (-43), 22, 0, 0), (68, 4, 0, 1, 0, 1, 0, 0), (69, 24, 0, 3, 0, 6, 4, 26), (72, 0, 0, 1, 1, 0, 0, 0), (73, 9, 0, 1, 0, 0, 1, 0), (74, 5, 1, 2, 0, 5, 0, 0), (76, 2, 1, 2, 0, 5, 0, 0), (78, 21, 0, 3, 79, 157, 2, 0), (81, 1, 0, 1, 0, 0, 0, 0), (82, 6, 1, 2, 0, 6, 0, 0), (84, 4, 0, 1, 0, 1, 0, 0), (85, 26, 0, 3, 0, 8, 4, 31), (88, 2, 1, 2, 0, 5, 0, 0), (90, 32, 0, 1, 0, 0, 0, 0), (91, 5, 1, 2, 0, 8, 0, 0), (93, 2, 1, 2, 0, 8, 0, 0), (95, 4, 0, 1, 0, 1, 0, 0), (96, 26, 0, 3, 0, 8, 4, 31), (99, 2, 1, 2, 0, 5, 0, 0), (101, 0, 0, 1, 1, 0, 0, 0), (102, 9, 0, 1, 0, 0, 0, 0), (103, 32, 0, 1, 0, 0, 0, 0), (104, 22, 0, 3, 25, 129, 3, 0), (107, 3, 1, 2, 0, 6, 0, 0), (109, 4, 0, 1, 0, 0, 0, 0), (110, 4, 0, 1, 0, 1, 0, 0), (111, 2, 1, 2, 0, 8, 0, 0), (113, 0, 0, 1, 0, 0, 0, 0), (114, 2, 0, 1, 0, 3, 0, 0), (115, 2, 0, 1, 0, 2, 0, 0), (116, 43, 0, 3, 0, 63, 0, 34), (119, 14, 0, 1, 0, 0, 0, 0), (120, 11, 0, 1, 0, 0, 0, 0), (121, 6, 1, 2, 0, 6, 0, 0), (123, 8, 0, 3, 1, 8, 0, 0), (126, 20, 0, 3, (-33), 93, 0, 0), (129, 4, 0, 1, 0, 0, 0, 0), (130, 26, 0, 3, 0, 2, 7, 15), (133, 2, 1, 2, 0, 4, 0, 0), (135, 0, 1, 2, 8, 0, 0, 0), (137, 9, 0, 1, 0, 0, 0, 0), (138, 2, 1, 2, 0, 5, 0, 0), (140, 9, 0, 1, 0, 0, 0, 0), (141, 3, 1, 2, 0, 6, 0, 0), (143, 1, 1, 3, 1000000000, 0, 0, 38), (146, 46, 0, 3, 0, 0, 2, 40), (149, 15, 0, 1, 0, 0, 0, 0), (150, 36, 0, 1, 0, 0, 0, 0), (151, 8, 0, 3, (-1), 5, 0, 0), (154, 20, 0, 3, (-78), 76, 0, 0), (157, 8, 0, 3, (-1), 3, 0, 0), (160, 20, 0, 3, (-156), 4, 0, 0), (163, 42, 0, 1, 0, 0, 0, 0)]
def pm_I62 : List (Nat × pm_Ins) := [(0, 4, 0, 1, 0, 0, 0, 0), (1, 0, 0, 1, 0, 0, 0, 0), (2, 27, 0, 3, 0, 1, 7, 18), (5, 42, 0, 1, 0, 0, 0, 0)]
def pm_I63 : List (Nat × pm_Ins) := [(0, 4, 0, 1, 0, 1, 0, 0), (1, 26, 0, 3, 0, 11, 4, 46), (4, 2, 0, 1, 0, 2, 0, 0), (5, 0, 0, 1, 4, 0, 0, 0), (6, 9, 0, 1, 0, 0, 2, 0), (7, 2, 0, 1, 0, 3, 0, 0), (8, 9, 0, 1, 0, 0, 0, 0), (9, 32, 0, 1, 0, 0, 0, 0), (10, 5, 1, 2, 0, 6, 0, 0), (12, 2, 0, 1, 0, 3, 0, 0), (13, 4, 0, 1, 0, 1, 0, 0), (14, 26, 0, 3, 0, 10, 4, 49), (17, 2, 0, 1, 0, 2, 0, 0), (18, 32, 0, 1, 0, 0, 0, 0), (19, 0, 0, 1, 1, 0, 0, 0), (20, 9, 0, 1, 0, 0, 1, 0), (21, 22, 0, 3, 8, 29, 3, 0), (24, 2, 0, 1, 0, 3, 0, 0), (25, 0, 0, 1, 3, 0, 0, 0), (26, 22, 0, 3, 23, 49, 2, 0), (29, 4, 0, 1, 0, 0, 0, 0), (30, 26, 0, 3, 0, 2, 7, 15), (33, 2, 1, 2, 0, 4, 0, 0), (35, 0, 1, 2, 7, 0, 0, 0), (37, 9, 0, 1, 0, 0, 2, 0), (38, 2, 1, 2, 0, 5, 0, 0), (40, 9, 0, 1, 0, 0, 0, 0), (41, 0, 1, 2, 16, 0, 0, 0), (43, 9, 0, 1, 0, 0, 2, 0), (44, 2, 1, 2, 0, 6, 0, 0), (46, 9, 0, 1, 0, 0, 0, 0), (47, 32, 0, 1, 0, 0, 0, 0), (48, 39, 0, 1, 0, 0, 0, 0), (49, 1, 0, 1, 0, 0, 0, 0), (50, 6, 1, 2, 0, 7, 0, 0), (52, 2, 1, 2, 0, 4, 0, 0), (54, 0, 0, 1, 1, 0, 0, 0), (55, 9, 0, 1, 0, 0, 0, 0), (56, 5, 1, 2, 0, 9, 0, 0), (58, 2, 1, 2, 0, 9, 0, 0), (60, 2, 1, 2, 0, 5, 0, 0), (62, 22, 0, 3, 66, 128, 3, 0), (65, 4, 0, 1, 0, 0, 0, 0), (66, 26, 0, 3, 0, 2, 7, 15), (69, 2, 1, 2, 0, 4, 0, 0), (71, 0, 1, 2, 7, 0, 0, 0), (73, 9, 0, 1, 0, 0, 2, 0), (74, 2, 1, 2, 0, 9, 0, 0), (76, 9, 0, 1, 0, 0, 0, 0), (77, 0, 1, 2, 16, 0, 0, 0), (79, 9, 0, 1, 0, 0, 2, 0), (80, 2, 1, 2, 0, 6, 0, 0), (82, 9, 0, 1, 0, 0, 0, 0), (83, 32, 0, 1, 0, 0, 0, 0), (84, 14, 0, 1, 0, 0, 0, 0), (85, 6, 1, 2, 0, 10, 0, 0), (87, 3, 1, 2, 0, 10, 0, 0), (89, 1, 0, 1, 0, 0, 0, 0), (90, 13, 0, 1, 0, 0, 0, 0), (91, 21, 0, 3, 31, 122, 5, 0), (94, 3, 1, 2, 0, 7, 0, 0), (96, 3, 1, 2, 0, 10, 0, 0), (98, 4, 0, 1, 0, 0, 0, 0), (99, 4, 0, 1, 0, 1, 0, 0), (100, 2, 0, 1, 0, 2, 0, 0), (101, 2, 0, 1, 0, 3, 0, 0), (102, 0, 0, 1, 1, 0, 0, 0), (103, 9, 0, 1, 0, 0, 0, 0), (104, 2, 1, 2, 0, 9, 0, 0), (106, 2, 1, 2, 0, 5, 0, 0), (108, 43, 0, 3, 0, 63, 0, 34), (111, 14, 0, 1, 0, 0, 0, 0), (112, 11, 0, 1, 0, 0, 1, 0), (113, 11, 0, 1, 0, 0, 0, 0), (114, 1, 1, 3, 1000000000, 0, 0, 38), (117, 46, 0, 3, 0, 0, 2, 40), (120, 6, 1, 2, 0, 7, 0, 0), (122, 8, 0, 3, 1, 9, 0, 0), (125, 20, 0, 3, (-67), 58, 0, 0), (128, 3, 1, 2, 0, 7, 0, 0), (130, 15, 0, 1, 0, 0, 0, 0), (131, 39, 0, 1, 0, 0, 0, 0)]
def pm_I64 : List (Nat × pm_Ins) := [(0, 4, 0, 1, 0, 0, 0, 0), (1, 4, 0, 1, 0, 0, 0, 0), (2, 24, 0, 3, 0, 3, 8, 57), (5, 27, 0, 3, 0, 4, 8, 66), (8, 4, 0, 1, 0, 0, 0, 0), (9, 24, 0, 3, 0, 4, 8, 66), (12, 4, 0, 1, 0, 0, 0, 0), (13, 24, 0, 3, 0, 2, 8, 54), (16, 22, 0, 3, 44, 60, 3, 0), (19, 4, 0, 1, 0, 0, 0, 0), (20, 26, 0, 3, 0, 1, 8, 31), (23, 4, 0, 1, 0, 0, 0, 0), (24, 24, 0, 3, 0, 4, 8, 66), (27, 33, 0, 1, 0, 0, 0, 0), (28, 0, 1, 2, 32, 0, 0, 0), (30, 22, 0, 3, 17, 47, 0, 0), (33, 4, 0, 1, 0, 0, 0, 0), (34, 26, 0, 3, 0, 1, 8, 31), (37, 4, 0, 1, 0, 0, 0, 0), (38, 24, 0, 3, 0, 4, 8, 66), (41, 33, 0, 1, 0, 0, 0, 0), (42, 0, 1, 2, 10, 0, 0, 0), (44, 22, 0, 3, 16, 60, 1, 0), (47, 4, 0, 1, 0, 0, 0, 0), (48, 17, 0, 1, 0, 0, 0, 0), (49, 24, 0, 3, 0, 4, 8, 66), (52, 0, 0, 1, 1, 0, 0, 0), (53, 9, 0, 1, 0, 0, 0, 0), (54, 27, 0, 3, 0, 4, 8, 66), (57, 20, 0, 3, (-49), 8, 0, 0), (60, 4, 0, 1, 0, 0, 0, 0), (61, 4, 0, 1, 0, 0, 0, 0), (62, 24, 0, 3, 0, 4, 8, 66), (65, 27, 0, 3, 0, 3, 8, 57), (68, 4, 0, 1, 0, 0, 0, 0), (69, 24, 0, 3, 0, 4, 8, 66), (72, 4, 0, 1, 0, 0, 0, 0), (73, 24, 0, 3, 0, 2, 8, 54), (76, 22, 0, 3, 15, 91, 3, 0), (79, 4, 0, 1, 0, 0, 0, 0), (80, 26, 0, 3, 0, 1, 8, 31), (83, 4, 0, 1, 0, 0, 0, 0), (84, 24, 0, 3, 0, 4, 8, 66), (87, 33, 0, 1, 0, 0, 0, 0), (88, 20, 0, 3, 4, 92, 0, 0), (91, 0, 0, 1, 0, 0, 0, 0), (92, 5, 0, 1, 0, 1, 0, 0), (93, 4, 0, 1, 0, 0, 0, 0), (94, 24, 0, 3, 0, 4, 8, 66), (97, 4, 0, 1, 0, 0, 0, 0), (98, 24, 0, 3, 0, 2, 8, 54), (101, 22, 0, 3, 11, 112, 2, 0), (104, 4, 0, 1, 0, 0, 0, 0), (105, 0, 0, 1, 0, 0, 0, 0), (106, 27, 0, 3, 0, 5, 8, 69), (109, 20, 0, 3, 76, 185, 0, 0), (112, 2, 0, 1, 0, 1, 0, 0), (113, 0, 1, 2, 97, 0, 0, 0), (115, 22, 0, 3, 16, 131, 2, 0), (118, 2, 0, 1, 0, 1, 0, 0), (119, 0, 1, 2, 122, 0, 0, 0), (121, 22, 0, 3, 10, 131, 4, 0), (124, 4, 0, 1, 0, 0, 0, 0), (125, 43, 0, 3, 0, 68, 0, 72), (128, 20, 0, 3, 57, 185, 0, 0), (131, 2, 0, 1, 0, 1, 0, 0), (132, 0, 1, 2, 48, 0, 0, 0), (134, 22, 0, 3, 16, 150, 2, 0), (137, 2, 0, 1, 0, 1, 0, 0), (138, 0, 1, 2, 57, 0, 0, 0), (140, 22, 0, 3, 10, 150, 4, 0), (143, 4, 0, 1, 0, 0, 0, 0), (144, 43, 0, 3, 0, 67, 0, 75), (147, 20, 0, 3, 38, 185, 0, 0), (150, 4, 0, 1, 0, 0, 0, 0), (151, 2, 0, 1, 0, 1, 0, 0), (152, 0, 1, 2, 59, 0, 0, 0), (154, 22, 0, 3, 7, 161, 1, 0), (157, 0, 0, 1, 2, 0, 0, 0), (158, 20, 0, 3, 14, 172, 0, 0), (161, 2, 0, 1, 0, 1, 0, 0), (162, 0, 1, 2, 61, 0, 0, 0), (164, 22, 0, 3, 7, 171, 1, 0), (167, 0, 0, 1, 3, 0, 0, 0), (168, 20, 0, 3, 4, 172, 0, 0), (171, 0, 0, 1, 1, 0, 0, 0), (172, 27, 0, 3, 0, 5, 8, 69), (175, 4, 0, 1, 0, 0, 0, 0), (176, 4, 0, 1, 0, 0, 0, 0), (177, 24, 0, 3, 0, 4, 8, 66), (180, 0, 0, 1, 1, 0, 0, 0), (181, 9, 0, 1, 0, 0, 0, 0), (182, 27, 0, 3, 0, 3, 8, 57), (185, 4, 0, 1, 0, 0, 0, 0), (186, 24, 0, 3, 0, 5, 8, 69), (189, 0, 0, 1, 1, 0, 0, 0), (190, 22, 0, 3, 9, 199, 1, 0), (193, 4, 0, 1, 0, 0, 0, 0), (194, 0, 0, 1, 1, 0, 0, 0), (195, 43, 0, 3, 0, 66, 0, 78), (198, 18, 0, 1, 0, 0, 0, 0), (199, 42, 0, 1, 0, 0, 0, 0)]
def pm_I65 : List (Nat × pm_Ins) := [(0, 4, 0, 1, 0, 0, 0, 0), (1, 4, 0, 1, 0, 1, 0, 0), (2, 29, 0, 3, 0, 1, 8, 31), (5, 4, 0, 1, 0, 0, 0, 0), (6, 2, 0, 1, 0, 2, 0, 0), (7, 4, 0, 1, 0, 1, 0, 0), (8, 31, 0, 1, 0, 0, 0, 0), (9, 46, 0, 3, 0, 0, 1, 48), (12, 27, 0, 3, 0, 2, 8, 54), (15, 4, 0, 1, 0, 0, 0, 0), (16, 0, 0, 1, 0, 0, 0, 0), (17, 27, 0, 3, 0, 3, 8, 57), (20, 4, 0, 1, 0, 0, 0, 0), (21, 0, 0, 1, 0, 0, 0, 0), (22, 27, 0, 3, 0, 8, 8, 60), (25, 4, 0, 1, 0, 0, 0, 0), (26, 0, 0, 1, (-1), 0, 0, 0), (27, 27, 0, 3, 0, 9, 8, 35), (30, 4, 0, 1, 0, 0, 0, 0), (31, 43, 0, 3, 0, 64, 0, 63), (34, 42, 0, 1, 0, 0, 0, 0)]
def pm_I66 : List (Nat × pm_Ins) := [(0, 4, 0, 1, 0, 0, 0, 0), (1, 24, 0, 3, 0, 8, 8, 60), (4, 21, 0, 3, 16, 20, 1, 0), (7, 4, 0, 1, 0, 0, 0, 0), (8, 2, 0, 1, 0, 1, 0, 0), (9, 27, 0, 3, 0, 8, 8, 60), (12, 4, 0, 1, 0, 0, 0, 0), (13, 4, 0, 1, 0, 0, 0, 0), (14, 24, 0, 3, 0, 4, 8, 66), (17, 27, 0, 3, 0, 9, 8, 35), (20, 0, 0, 1, 0, 0, 0, 0), (21, 39, 1, 1, 0, 0, 0, 0)]
def pm_I67 : List (Nat × pm_Ins) := [(0, 4, 0, 1, 0, 0, 0, 0), (1, 0, 0, 1, 0, 0, 0, 0), (2, 27, 0, 3, 0, 7, 8, 86), (5, 4, 0, 1, 0, 0, 0, 0), (6, 24, 0, 3, 0, 3, 8, 57), (9, 4, 0, 1, 0, 0, 0, 0), (10, 24, 0, 3, 0, 2, 8, 54), (13, 22, 0, 3, 68, 81, 3, 0), (16, 4, 0, 1, 0, 0, 0, 0), (17, 26, 0, 3, 0, 1, 8, 31), (20, 4, 0, 1, 0, 0, 0, 0), (21, 24, 0, 3, 0, 3, 8, 57), (24, 33, 0, 1, 0, 0, 0, 0), (25, 0, 1, 2, 48, 0, 0, 0), (27, 22, 0, 3, 54, 81, 2, 0), (30, 4, 0, 1, 0, 0, 0, 0), (31, 26, 0, 3, 0, 1, 8, 31), (34, 4, 0, 1, 0, 0, 0, 0), (35, 24, 0, 3, 0, 3, 8, 57), (38, 33, 0, 1, 0, 0, 0, 0), (39, 0, 1, 2, 57, 0, 0, 0), (41, 22, 0, 3, 40, 81, 4, 0), (44, 4, 0, 1, 0, 0, 0, 0), (45, 4, 0, 1, 0, 0, 0, 0), (46, 24, 0, 3, 0, 7, 8, 86), (49, 0, 1, 2, 10, 0, 0, 0), (51, 9, 0, 1, 0, 0, 2, 0), (52, 4, 0, 1, 0, 0, 0, 0), (53, 26, 0, 3, 0, 1, 8, 31), (56, 4, 0, 1, 0, 0, 0, 0), (57, 24, 0, 3, 0, 3, 8, 57), (60, 33, 0, 1, 0, 0, 0, 0), (61, 9, 0, 1, 0, 0, 0, 0), (62, 0, 1, 2, 48, 0, 0, 0), (64, 9, 0, 1, 0, 0, 1, 0), (65, 27, 0, 3, 0, 7, 8, 86), (68, 4, 0, 1, 0, 0, 0, 0), (69, 17, 0, 1, 0, 0, 0, 0), (70, 24, 0, 3, 0, 3, 8, 57), (73, 0, 0, 1, 1, 0, 0, 0), (74, 9, 0, 1, 0, 0, 0, 0), (75, 27, 0, 3, 0, 3, 8, 57), (78, 20, 0, 3, (-73), 5, 0, 0), (81, 4, 0, 1, 0, 0, 0, 0), (82, 24, 0, 3, 0, 3, 8, 57), (85, 4, 0, 1, 0, 0, 0, 0), (86, 24, 0, 3, 0, 2, 8, 54), (89, 22, 0, 3, 35, 124, 3, 0), (92, 4, 0, 1, 0, 0, 0, 0), (93, 26, 0, 3, 0, 1, 8, 31), (96, 4, 0, 1, 0, 0, 0, 0), (97, 24, 0, 3, 0, 3, 8, 57), (100, 33, 0, 1, 0, 0, 0, 0), (101, 0, 1, 2, 97, 0, 0, 0), (103, 22, 0, 3, 21, 124, 2, 0), (106, 4, 0, 1, 0, 0, 0, 0), (107, 26, 0, 3, 0, 1, 8, 31), (110, 4, 0, 1, 0, 0, 0, 0), (111, 24, 0, 3, 0, 3, 8, 57), (114, 33, 0, 1, 0, 0, 0, 0), (115, 0, 1, 2, 122, 0, 0, 0), (117, 22, 0, 3, 7, 124, 4, 0), (120, 0, 0, 1, 1, 0, 0, 0), (121, 20, 0, 3, 4, 125, 0, 0), (124, 0, 0, 1, 0, 0, 0, 0), (125, 5, 0, 1, 0, 1, 0, 0), (126, 4, 0, 1, 0, 0, 0, 0), (127, 2, 0, 1, 0, 1, 0, 0), (128, 21, 0, 3, 16, 144, 1, 0), (131, 4, 0, 1, 0, 0, 0, 0), (132, 24, 0, 3, 0, 3, 8, 57), (135, 4, 0, 1, 0, 0, 0, 0), (136, 24, 0, 3, 0, 4, 8, 66), (139, 9, 0, 1, 0, 0, 1, 0), (140, 0, 0, 1, 4, 0, 0, 0), (141, 22, 0, 3, 7, 148, 5, 0), (144, 0, 0, 1, 1, 0, 0, 0), (145, 20, 0, 3, 4, 149, 0, 0), (148, 0, 0, 1, 4, 0, 0, 0), (149, 27, 0, 3, 0, 5, 8, 69), (152, 42, 0, 1, 0, 0, 0, 0)]
def pm_I68 : List (Nat × pm_Ins) := [(0, 4, 0, 1, 0, 0, 0, 0), (1, 1, 0, 1, 0, 0, 0, 0), (2, 28, 0, 3, 0, 6, 8, 82), (5, 4, 0, 1, 0, 0, 0, 0), (6, 24, 0, 3, 0, 3, 8, 57), (9, 4, 0, 1, 0, 0, 0, 0), (10, 24, 0, 3, 0, 2, 8, 54), (13, 22, 0, 3, 68, 81, 3, 0), (16, 4, 0, 1, 0, 0, 0, 0), (17, 26, 0, 3, 0, 1, 8, 31), (20, 4, 0, 1, 0, 0, 0, 0), (21, 24, 0, 3, 0, 3, 8, 57), (24, 33, 0, 1, 0, 0, 0, 0), (25, 0, 1, 2, 97, 0, 0, 0), (27, 22, 0, 3, 54, 81, 2, 0), (30, 4, 0, 1, 0, 0, 0, 0), (31, 26, 0, 3, 0, 1, 8, 31), (34, 4, 0, 1, 0, 0, 0, 0), (35, 24, 0, 3, 0, 3, 8, 57), (38, 33, 0, 1, 0, 0, 0, 0), (39, 0, 1, 2, 122, 0, 0, 0), (41, 22, 0, 3, 40, 81, 4, 0), (44, 4, 0, 1, 0, 0, 0, 0), (45, 4, 0, 1, 0, 0, 0, 0), (46, 25, 0, 3, 0, 6, 8, 82), (49, 0, 0, 1, 5, 0, 0, 0), (50, 12, 0, 1, 0, 0, 0, 0), (51, 4, 0, 1, 0, 0, 0, 0), (52, 26, 0, 3, 0, 1, 8, 31), (55, 4, 0, 1, 0, 0, 0, 0), (56, 24, 0, 3, 0, 3, 8, 57), (59, 33, 0, 1, 0, 0, 0, 0), (60, 0, 1, 2, 96, 0, 0, 0), (62, 9, 0, 1, 0, 0, 1, 0), (63, 14, 0, 1, 0, 0, 0, 0), (64, 11, 0, 1, 0, 0, 3, 0), (65, 28, 0, 3, 0, 6, 8, 82), (68, 4, 0, 1, 0, 0, 0, 0), (69, 17, 0, 1, 0, 0, 0, 0), (70, 24, 0, 3, 0, 3, 8, 57), (73, 0, 0, 1, 1, 0, 0, 0), (74, 9, 0, 1, 0, 0, 0, 0), (75, 27, 0, 3, 0, 3, 8, 57), (78, 20, 0, 3, (-73), 5, 0, 0), (81, 4, 0, 1, 0, 0, 0, 0), (82, 0, 0, 1, 5, 0, 0, 0), (83, 27, 0, 3, 0, 5, 8, 69), (86, 0, 0, 1, 0, 0, 0, 0), (87, 5, 0, 1, 0, 1, 0, 0), (88, 2, 0, 1, 0, 1, 0, 0), (89, 4, 0, 1, 0, 0, 0, 0), (90, 26, 0, 3, 0, 0, 8, 27), (93, 31, 0, 1, 0, 0, 0, 0), (94, 22, 0, 3, 31, 125, 3, 0), (97, 4, 0, 1, 0, 0, 0, 0), (98, 25, 0, 3, 0, 6, 8, 82), (101, 4, 0, 1, 0, 0, 0, 0), (102, 26, 0, 3, 0, 0, 8, 27), (105, 2, 0, 1, 0, 1, 0, 0), (106, 34, 0, 1, 0, 0, 0, 0), (107, 13, 0, 1, 0, 0, 0, 0), (108, 21, 0, 3, 11, 119, 1, 0), (111, 4, 0, 1, 0, 0, 0, 0), (112, 0, 1, 2, 6, 0, 0, 0), (114, 2, 0, 1, 0, 1, 0, 0), (115, 9, 0, 1, 0, 0, 0, 0), (116, 27, 0, 3, 0, 5, 8, 69), (119, 8, 0, 3, 1, 1, 0, 0), (122, 20, 0, 3, (-34), 88, 0, 0), (125, 4, 0, 1, 0, 0, 0, 0), (126, 24, 0, 3, 0, 3, 8, 57), (129, 4, 0, 1, 0, 0, 0, 0), (130, 24, 0, 3, 0, 4, 8, 66), (133, 9, 0, 1, 0, 0, 1, 0), (134, 0, 1, 2, 8, 0, 0, 0), (136, 22, 0, 3, 8, 144, 5, 0), (139, 4, 0, 1, 0, 0, 0, 0), (140, 0, 0, 1, 1, 0, 0, 0), (141, 27, 0, 3, 0, 5, 8, 69), (144, 42, 0, 1, 0, 0, 0, 0)]
def pm_I69 : List (Nat × pm_Ins) := [(0, 4, 0, 1, 0, 0, 0, 0), (1, 26, 0, 3, 0, 3, 9, 15), (4, 2, 0, 1, 0, 2, 0, 0), (5, 32, 0, 1, 0, 0, 0, 0), (6, 21, 0, 3, 15, 21, 5, 0), (9, 4, 0, 1, 0, 0, 0, 0), (10, 26, 0, 3, 0, 5, 9, 21), (13, 2, 0, 1, 0, 2, 0, 0), (14, 32, 0, 1, 0, 0, 0, 0), (15, 0, 1, 2, 7, 0, 0, 0), (17, 9, 0, 1, 0, 0, 3, 0), (18, 20, 0, 3, 4, 22, 0, 0), (21, 0, 0, 1, (-1), 0, 0, 0), (22, 5, 1, 2, 0, 4, 0, 0), (24, 4, 0, 1, 0, 0, 0, 0), (25, 26, 0, 3, 0, 2, 9, 9), (28, 4, 0, 1, 0, 0, 0, 0), (29, 24, 0, 3, 0, 0, 9, 61), (32, 2, 0, 1, 0, 2, 0, 0), (33, 36, 0, 1, 0, 0, 0, 0), (34, 4, 0, 1, 0, 0, 0, 0), (35, 26, 0, 3, 0, 3, 9, 15), (38, 4, 0, 1, 0, 0, 0, 0), (39, 24, 0, 3, 0, 0, 9, 61), (42, 4, 0, 1, 0, 0, 0, 0), (43, 26, 0, 3, 0, 3, 9, 15), (46, 2, 0, 1, 0, 2, 0, 0), (47, 32, 0, 1, 0, 0, 0, 0), (48, 0, 0, 1, 1, 0, 0, 0), (49, 9, 0, 1, 0, 0, 0, 0), (50, 36, 0, 1, 0, 0, 0, 0), (51, 4, 0, 1, 0, 0, 0, 0), (52, 26, 0, 3, 0, 5, 9, 21), (55, 4, 0, 1, 0, 0, 0, 0), (56, 24, 0, 3, 0, 0, 9, 61), (59, 4, 0, 1, 0, 0, 0, 0), (60, 26, 0, 3, 0, 5, 9, 21), (63, 2, 0, 1, 0, 2, 0, 0), (64, 32, 0, 1, 0, 0, 0, 0), (65, 0, 0, 1, 3, 0, 0, 0), (66, 9, 0, 1, 0, 0, 6, 0), (67, 2, 0, 1, 0, 3, 0, 0), (68, 9, 0, 1, 0, 0, 4, 0), (69, 36, 0, 1, 0, 0, 0, 0), (70, 0, 0, 1, 0, 0, 0, 0), (71, 5, 1, 2, 0, 5, 0, 0), (73, 2, 1, 2, 0, 5, 0, 0), (75, 0, 0, 1, 3, 0, 0, 0), (76, 22, 0, 3, 44, 120, 3, 0), (79, 4, 0, 1, 0, 0, 0, 0), (80, 26, 0, 3, 0, 4, 9, 18), (83, 4, 0, 1, 0, 0, 0, 0), (84, 24, 0, 3, 0, 0, 9, 61), (87, 0, 0, 1, 3, 0, 0, 0), (88, 9, 0, 1, 0, 0, 2, 0), (89, 2, 1, 2, 0, 5, 0, 0), (91, 9, 0, 1, 0, 0, 0, 0), (92, 4, 0, 1, 0, 0, 0, 0), (93, 26, 0, 3, 0, 4, 9, 18), (96, 2, 0, 1, 0, 2, 0, 0), (97, 0, 0, 1, 3, 0, 0, 0), (98, 9, 0, 1, 0, 0, 2, 0), (99, 2, 1, 2, 0, 5, 0, 0), (101, 9, 0, 1, 0, 0, 0, 0), (102, 32, 0, 1, 0, 0, 0, 0), (103, 4, 0, 1, 0, 1, 0, 0), (104, 2, 1, 2, 0, 4, 0, 0), (106, 2, 0, 1, 0, 3, 0, 0), (107, 2, 1, 2, 0, 5, 0, 0), (109, 43, 0, 3, 0, 44, 0, 87), (112, 9, 0, 1, 0, 0, 0, 0), (113, 36, 0, 1, 0, 0, 0, 0), (114, 8, 0, 3, 1, 5, 0, 0), (117, 20, 0, 3, (-44), 73, 0, 0), (120, 4, 0, 1, 0, 0, 0, 0), (121, 17, 0, 1, 0, 0, 0, 0), (122, 24, 0, 3, 0, 0, 9, 61), (125, 0, 0, 1, 1, 0, 0, 0), (126, 9, 0, 1, 0, 0, 0, 0), (127, 27, 0, 3, 0, 0, 9, 61), (130, 42, 0, 1, 0, 0, 0, 0)]
def pm_I70 : List (Nat × pm_Ins) := [(0, 4, 0, 1, 0, 0, 0, 0), (1, 0, 0, 1, 1, 0, 0, 0), (2, 27, 0, 3, 0, 0, 9, 61), (5, 4, 0, 1, 0, 0, 0, 0), (6, 26, 0, 3, 0, 2, 9, 9), (9, 0, 0, 1, 0, 0, 0, 0), (10, 0, 0, 1, (-1), 0, 0, 0), (11, 36, 0, 1, 0, 0, 0, 0), (12, 4, 0, 1, 0, 0, 0, 0), (13, 26, 0, 3, 0, 3, 9, 15), (16, 0, 0, 1, 0, 0, 0, 0), (17, 4, 0, 1, 0, 0, 0, 0), (18, 24, 0, 3, 0, 9, 9, 32), (21, 36, 0, 1, 0, 0, 0, 0), (22, 4, 0, 1, 0, 0, 0, 0), (23, 26, 0, 3, 0, 5, 9, 21), (26, 0, 0, 1, 0, 0, 0, 0), (27, 4, 0, 1, 0, 0, 0, 0), (28, 24, 0, 3, 0, 8, 9, 28), (31, 36, 0, 1, 0, 0, 0, 0), (32, 0, 0, 1, 0, 0, 0, 0), (33, 5, 0, 1, 0, 3, 0, 0), (34, 2, 0, 1, 0, 3, 0, 0), (35, 0, 0, 1, 3, 0, 0, 0), (36, 22, 0, 3, 25, 61, 3, 0), (39, 4, 0, 1, 0, 0, 0, 0), (40, 26, 0, 3, 0, 4, 9, 18), (43, 2, 0, 1, 0, 3, 0, 0), (44, 4, 0, 1, 0, 1, 0, 0), (45, 4, 0, 1, 0, 2, 0, 0), (46, 4, 0, 1, 0, 0, 0, 0), (47, 24, 0, 3, 0, 9, 9, 32), (50, 2, 0, 1, 0, 3, 0, 0), (51, 43, 0, 3, 0, 45, 0, 64), (54, 36, 0, 1, 0, 0, 0, 0), (55, 8, 0, 3, 1, 3, 0, 0), (58, 20, 0, 3, (-24), 34, 0, 0), (61, 42, 0, 1, 0, 0, 0, 0)]
def pm_I71 : List (Nat × pm_Ins) := [(0, 4, 0, 1, 0, 0, 0, 0), (1, 0, 0, 1, 0, 0, 0, 0), (2, 27, 0, 3, 0, 7, 9, 24), (5, 42, 0, 1, 0, 0, 0, 0)]
def pm_I72 : List (Nat × pm_Ins) := [(0, 4, 0, 1, 0, 0, 0, 0), (1, 26, 0, 3, 0, 3, 9, 15), (4, 2, 0, 1, 0, 3, 0, 0), (5, 32, 0, 1, 0, 0, 0, 0), (6, 5, 1, 2, 0, 4, 0, 0), (8, 4, 0, 1, 0, 2, 0, 0), (9, 4, 0, 1, 0, 1, 0, 0), (10, 2, 1, 2, 0, 4, 0, 0), (12, 43, 0, 3, 0, 54, 0, 68), (15, 5, 1, 2, 0, 5, 0, 0), (17, 4, 0, 1, 0, 0, 0, 0), (18, 24, 0, 3, 0, 10, 9, 35), (21, 2, 1, 2, 0, 4, 0, 0), (23, 0, 0, 1, 4, 0, 0, 0), (24, 9, 0, 1, 0, 0, 2, 0), (25, 9, 0, 1, 0, 0, 7, 0), (26, 0, 1, 2, 15, 0, 0, 0), (28, 9, 0, 1, 0, 0, 3, 0), (29, 0, 0, 1, 1, 0, 0, 0), (30, 9, 0, 1, 0, 0, 1, 0), (31, 5, 1, 2, 0, 6, 0, 0), (33, 0, 0, 1, 0, 0, 0, 0), (34, 5, 1, 2, 0, 7, 0, 0), (36, 2, 1, 2, 0, 7, 0, 0), (38, 4, 0, 1, 0, 1, 0, 0), (39, 24, 0, 3, 0, 0, 4, 72), (42, 22, 0, 3, 75, 117, 3, 0), (45, 4, 0, 1, 0, 0, 0, 0), (46, 24, 0, 3, 0, 1, 9, 44), (49, 21, 0, 3, 68, 117, 1, 0), (52, 2, 1, 2, 0, 6, 0, 0), (54, 0, 0, 1, (-1), 0, 0, 0), (55, 22, 0, 3, 10, 65, 0, 0), (58, 2, 1, 2, 0, 6, 0, 0), (60, 2, 1, 2, 0, 7, 0, 0), (62, 22, 0, 3, 49, 111, 1, 0), (65, 2, 1, 2, 0, 5, 0, 0), (67, 2, 1, 2, 0, 7, 0, 0), (69, 9, 0, 1, 0, 0, 7, 0), (70, 0, 0, 1, 1, 0, 0, 0), (71, 9, 0, 1, 0, 0, 3, 0), (72, 21, 0, 3, 39, 111, 0, 0), (75, 4, 0, 1, 0, 0, 0, 0), (76, 24, 0, 3, 0, 0, 9, 61), (79, 0, 2, 3, 3000, 0, 0, 0), (82, 22, 0, 3, 11, 93, 2, 0), (85, 4, 0, 1, 0, 0, 0, 0), (86, 0, 0, 1, 1, 0, 0, 0), (87, 27, 0, 3, 0, 1, 9, 44), (90, 20, 0, 3, 21, 111, 0, 0), (93, 4, 0, 1, 0, 0, 0, 0), (94, 4, 0, 1, 0, 1, 0, 0), (95, 2, 0, 1, 0, 3, 0, 0), (96, 2, 1, 2, 0, 7, 0, 0), (98, 43, 0, 3, 0, 69, 0, 75), (101, 4, 0, 1, 0, 0, 0, 0), (102, 4, 0, 1, 0, 1, 0, 0), (103, 4, 0, 1, 0, 2, 0, 0), (104, 2, 1, 2, 0, 4, 0, 0), (106, 2, 1, 2, 0, 7, 0, 0), (108, 43, 0, 3, 0, 73, 0, 79), (111, 8, 0, 3, 1, 7, 0, 0), (114, 20, 0, 3, (-78), 36, 0, 0), (117, 42, 0, 1, 0, 0, 0, 0)]
def pm_I73 : List (Nat × pm_Ins) := [(0, 2, 0, 1, 0, 3, 0, 0), (1, 0, 0, 1, 1, 0, 0, 0), (2, 9, 0, 1, 0, 0, 0, 0), (3, 4, 0, 1, 0, 0, 0, 0), (4, 24, 0, 3, 0, 6, 9, 43), (7, 22, 0, 3, 22, 29, 3, 0), (10, 4, 0, 1, 0, 2, 0, 0), (11, 2, 0, 1, 0, 3, 0, 0), (12, 2, 1, 2, 0, 4, 0, 0), (14, 43, 0, 3, 0, 53, 0, 83), (17, 4, 0, 1, 0, 0, 0, 0), (18, 4, 0, 1, 0, 1, 0, 0), (19, 4, 0, 1, 0, 2, 0, 0), (20, 4, 0, 1, 0, 0, 0, 0), (21, 24, 0, 3, 0, 0, 9, 61), (24, 0, 0, 1, 1, 0, 0, 0), (25, 9, 0, 1, 0, 0, 1, 0), (26, 43, 0, 3, 0, 72, 0, 57), (29, 42, 0, 1, 0, 0, 0, 0)]
def pm_I74 : List (Nat × pm_Ins) := [(0, 0, 0, 1, 0, 0, 0, 0), (1, 5, 1, 2, 0, 6, 0, 0), (3, 0, 0, 1, 0, 0, 0, 0), (4, 5, 1, 2, 0, 7, 0, 0), (6, 2, 1, 2, 0, 7, 0, 0), (8, 2, 1, 2, 0, 4, 0, 0), (10, 22, 0, 3, 20, 30, 3, 0), (13, 2, 1, 2, 0, 6, 0, 0), (15, 0, 0, 1, 3, 0, 0, 0), (16, 9, 0, 1, 0, 0, 6, 0), (17, 4, 0, 1, 0, 3, 0, 0), (18, 2, 1, 2, 0, 7, 0, 0), (20, 32, 0, 1, 0, 0, 0, 0), (21, 9, 0, 1, 0, 0, 4, 0), (22, 5, 1, 2, 0, 6, 0, 0), (24, 8, 0, 3, 1, 7, 0, 0), (27, 20, 0, 3, (-21), 6, 0, 0), (30, 4, 0, 1, 0, 0, 0, 0), (31, 24, 0, 3, 0, 7, 9, 24), (34, 21, 0, 3, 31, 65, 0, 0), (37, 2, 1, 2, 0, 6, 0, 0), (39, 4, 0, 1, 0, 0, 0, 0), (40, 24, 0, 3, 0, 8, 9, 28), (43, 22, 0, 3, 22, 65, 1, 0), (46, 2, 1, 2, 0, 4, 0, 0), (48, 4, 0, 1, 0, 0, 0, 0), (49, 24, 0, 3, 0, 9, 9, 32), (52, 22, 0, 3, 13, 65, 1, 0), (55, 2, 1, 2, 0, 5, 0, 0), (57, 4, 0, 1, 0, 0, 0, 0), (58, 24, 0, 3, 0, 10, 9, 35), (61, 22, 0, 3, 4, 65, 1, 0), (64, 42, 0, 1, 0, 0, 0, 0), (65, 4, 0, 1, 0, 0, 0, 0), (66, 0, 0, 1, 1, 0, 0, 0), (67, 27, 0, 3, 0, 7, 9, 24), (70, 4, 0, 1, 0, 0, 0, 0), (71, 2, 1, 2, 0, 6, 0, 0), (73, 27, 0, 3, 0, 8, 9, 28), (76, 4, 0, 1, 0, 0, 0, 0), (77, 2, 1, 2, 0, 4, 0, 0), (79, 27, 0, 3, 0, 9, 9, 32), (82, 4, 0, 1, 0, 0, 0, 0), (83, 2, 1, 2, 0, 5, 0, 0), (85, 27, 0, 3, 0, 10, 9, 35), (88, 4, 0, 1, 0, 0, 0, 0), (89, 4, 0, 1, 0, 1, 0, 0), (90, 24, 0, 3, 0, 12, 4, 38), (93, 27, 0, 3, 0, 6, 9, 43), (96, 4, 0, 1, 0, 0, 0, 0), (97, 0, 0, 1, 0, 0, 0, 0), (98, 27, 0, 3, 0, 1, 9, 44), (101, 4, 0, 1, 0, 0, 0, 0), (102, 4, 0, 1, 0, 1, 0, 0), (103, 4, 0, 1, 0, 3, 0, 0), (104, 43, 0, 3, 0, 70, 0, 47), (107, 4, 0, 1, 0, 2, 0, 0), (108, 4, 0, 1, 0, 1, 0, 0), (109, 4, 0, 1, 0, 3, 0, 0), (110, 2, 1, 2, 0, 4, 0, 0), (112, 43, 0, 3, 0, 55, 0, 51), (115, 4, 0, 1, 0, 0, 0, 0), (116, 4, 0, 1, 0, 1, 0, 0), (117, 4, 0, 1, 0, 2, 0, 0), (118, 0, 0, 1, 0, 0, 0, 0), (119, 43, 0, 3, 0, 72, 0, 57), (122, 4, 0, 1, 0, 0, 0, 0), (123, 24, 0, 3, 0, 0, 9, 61), (126, 0, 0, 1, 1, 0, 0, 0), (127, 22, 0, 3, 17, 144, 1, 0), (130, 2, 1, 2, 0, 4, 0, 0), (132, 4, 0, 1, 0, 0, 0, 0), (133, 24, 0, 3, 0, 6, 9, 43), (136, 22, 0, 3, 8, 144, 3, 0), (139, 4, 0, 1, 0, 0, 0, 0), (140, 0, 0, 1, 0, 0, 0, 0), (141, 27, 0, 3, 0, 0, 9, 61), (144, 42, 0, 1, 0, 0, 0, 0)]
def pm_I75 : List (Nat × pm_Ins) := [(0, 4, 0, 1, 0, 0, 0, 0), (1, 24, 0, 3, 0, 1, 9, 44), (4, 21, 0, 3, 14, 18, 1, 0), (7, 4, 0, 1, 0, 0, 0, 0), (8, 24, 0, 3, 0, 0, 9, 61), (11, 21, 0, 3, 7, 18, 5, 0), (14, 0, 0, 1, 1, 0, 0, 0), (15, 20, 0, 3, 4, 19, 0, 0), (18, 0, 0, 1, 0, 0, 0, 0), (19, 39, 1, 1, 0, 0, 0, 0)]
def pm_I76 : List (Nat × pm_Ins) := [(0, 4, 0, 1, 0, 0, 0, 0), (1, 26, 0, 3, 0, 3, 9, 15), (4, 2, 0, 1, 0, 1, 0, 0), (5, 32, 0, 1, 0, 0, 0, 0), (6, 4, 0, 1, 0, 0, 0, 0), (7, 24, 0, 3, 0, 6, 9, 43), (10, 22, 0, 3, 7, 17, 1, 0), (13, 0, 0, 1, 1, 0, 0, 0), (14, 20, 0, 3, 4, 18, 0, 0), (17, 0, 0, 1, 0, 0, 0, 0), (18, 39, 1, 1, 0, 0, 0, 0)]
def pm_I77 : List (Nat × pm_Ins) := [(0, 4, 0, 1, 0, 0, 0, 0), (1, 26, 0, 3, 0, 5, 9, 21), (4, 2, 0, 1, 0, 1, 0, 0), (5, 32, 0, 1, 0, 0, 0, 0), (6, 4, 0, 1, 0, 0, 0, 0), (7, 24, 0, 3, 0, 6, 9, 43), (10, 0, 0, 1, 1, 0, 0, 0), (11, 9, 0, 1, 0, 0, 1, 0), (12, 2, 0, 1, 0, 2, 0, 0), (13, 9, 0, 1, 0, 0, 1, 0), (14, 0, 0, 1, 3, 0, 0, 0), (15, 9, 0, 1, 0, 0, 2, 0), (16, 9, 0, 1, 0, 0, 7, 0), (17, 0, 1, 2, 7, 0, 0, 0), (19, 9, 0, 1, 0, 0, 3, 0), (20, 39, 0, 1, 0, 0, 0, 0)]
def pm_I78 : List (Nat × pm_Ins) := [(0, 0, 0, 1, 0, 0, 0, 0), (1, 5, 0, 1, 0, 3, 0, 0), (2, 2, 0, 1, 0, 3, 0, 0), (3, 4, 0, 1, 0, 0, 0, 0), (4, 24, 0, 3, 0, 6, 9, 43), (7, 22, 0, 3, 18, 25, 3, 0), (10, 4, 0, 1, 0, 2, 0, 0), (11, 2, 0, 1, 0, 3, 0, 0), (12, 4, 0, 1, 0, 0, 0, 0), (13, 2, 0, 1, 0, 1, 0, 0), (14, 2, 0, 1, 0, 3, 0, 0), (15, 43, 0, 3, 0, 77, 0, 91), (18, 36, 0, 1, 0, 0, 0, 0), (19, 8, 0, 3, 1, 3, 0, 0), (22, 20, 0, 3, (-20), 2, 0, 0), (25, 42, 0, 1, 0, 0, 0, 0)]
def pm_I79 : List (Nat × pm_Ins) := [(0, 2, 0, 1, 0, 1, 0, 0), (1, 23, 0, 63, 0, 1, 0, 0), (64, 4, 0, 1, 0, 0, 0, 0), (65, 26, 0, 3, 0, 3, 10, 23), (68, 24, 0, 3, 0, 0, 4, 107), (71, 39, 0, 1, 0, 0, 0, 0), (72, 4, 0, 1, 0, 0, 0, 0), (73, 26, 0, 3, 0, 3, 10, 23), (76, 24, 0, 3, 0, 3, 4, 325), (79, 39, 0, 1, 0, 0, 0, 0), (80, 4, 0, 1, 0, 0, 0, 0), (81, 26, 0, 3, 0, 3, 10, 23), (84, 24, 0, 3, 0, 6, 4, 273), (87, 39, 0, 1, 0, 0, 0, 0), (88, 4, 0, 1, 0, 0, 0, 0), (89, 26, 0, 3, 0, 3, 10, 23), (92, 24, 0, 3, 0, 9, 4, 328), (95, 39, 0, 1, 0, 0, 0, 0), (96, 4, 0, 1, 0, 0, 0, 0), (97, 26, 0, 3, 0, 3, 10, 23), (100, 24, 0, 3, 0, 12, 4, 238), (103, 39, 0, 1, 0, 0, 0, 0), (104, 4, 0, 1, 0, 0, 0, 0), (105, 26, 0, 3, 0, 5, 10, 33), (108, 24, 0, 3, 0, 1, 0, 177), (111, 39, 0, 1, 0, 0, 0, 0), (112, 4, 0, 1, 0, 0, 0, 0), (113, 26, 0, 3, 0, 5, 10, 33), (116, 24, 0, 3, 0, 7, 0, 331), (119, 39, 0, 1, 0, 0, 0, 0), (120, 4, 0, 1, 0, 0, 0, 0), (121, 26, 0, 3, 0, 5, 10, 33), (124, 24, 0, 3, 0, 8, 0, 334), (127, 4, 0, 1, 0, 0, 0, 0), (128, 26, 0, 3, 0, 5, 10, 33), (131, 24, 0, 3, 0, 7, 0, 331), (134, 9, 0, 1, 0, 0, 1, 0), (135, 39, 0, 1, 0, 0, 0, 0), (136, 4, 0, 1, 0, 0, 0, 0), (137, 26, 0, 3, 0, 14, 10, 81), (140, 24, 0, 3, 0, 0, 6, 125), (143, 39, 0, 1, 0, 0, 0, 0), (144, 4, 0, 1, 0, 0, 0, 0), (145, 26, 0, 3, 0, 14, 10, 81), (148, 24, 0, 3, 0, 1, 6, 310), (151, 39, 0, 1, 0, 0, 0, 0), (152, 4, 0, 1, 0, 0, 0, 0), (153, 24, 0, 3, 0, 1, 10, 92), (156, 39, 0, 1, 0, 0, 0, 0), (157, 4, 0, 1, 0, 0, 0, 0), (158, 24, 0, 3, 0, 16, 10, 128), (161, 39, 0, 1, 0, 0, 0, 0), (162, 0, 0, 1, (-1), 0, 0, 0), (163, 39, 0, 1, 0, 0, 0, 0)]
def pm_I80 : List (Nat × pm_Ins) := [(0, 2, 0, 1, 0, 1, 0, 0), (1, 21, 0, 3, 20, 21, 2, 0), (4, 2, 0, 1, 0, 1, 0, 0), (5, 0, 0, 1, 3, 0, 0, 0), (6, 22, 0, 3, 15, 21, 3, 0), (9, 4, 0, 1, 0, 0, 0, 0), (10, 26, 0, 3, 0, 6, 10, 40), (13, 2, 0, 1, 0, 1, 0, 0), (14, 35, 0, 1, 0, 0, 0, 0), (15, 24, 0, 3, 0, 0, 1, 113), (18, 21, 0, 3, 5, 23, 1, 0), (21, 0, 0, 1, (-1), 0, 0, 0), (22, 39, 0, 1, 0, 0, 0, 0), (23, 4, 0, 1, 0, 0, 0, 0), (24, 26, 0, 3, 0, 6, 10, 40), (27, 2, 0, 1, 0, 1, 0, 0), (28, 35, 0, 1, 0, 0, 0, 0), (29, 4, 0, 1, 0, 0, 0, 0), (30, 26, 0, 3, 0, 5, 10, 33), (33, 43, 0, 3, 0, 9, 0, 322), (36, 4, 0, 1, 0, 0, 0, 0), (37, 26, 0, 3, 0, 5, 10, 33), (40, 24, 0, 3, 0, 1, 0, 177), (43, 39, 0, 1, 0, 0, 0, 0)]
def pm_I81 : List (Nat × pm_Ins) := [(0, 4, 0, 1, 0, 0, 0, 0), (1, 26, 0, 3, 0, 3, 10, 23), (4, 2, 0, 1, 0, 1, 0, 0), (5, 43, 0, 3, 0, 43, 0, 143), (8, 21, 0, 3, 21, 29, 0, 0), (11, 4, 0, 1, 0, 0, 0, 0), (12, 26, 0, 3, 0, 3, 10, 23), (15, 2, 0, 1, 0, 2, 0, 0), (16, 43, 0, 3, 0, 43, 0, 143), (19, 21, 0, 3, 10, 29, 0, 0), (22, 2, 0, 1, 0, 3, 0, 0), (23, 44, 0, 3, 0, 96, 0, 147), (26, 21, 0, 3, 6, 32, 1, 0), (29, 0, 3, 2, (-1000000), 0, 0, 153), (31, 39, 0, 1, 0, 0, 0, 0), (32, 4, 0, 1, 0, 0, 0, 0), (33, 26, 0, 3, 0, 3, 10, 23), (36, 26, 0, 3, 0, 5, 4, 154), (39, 2, 0, 1, 0, 1, 0, 0), (40, 0, 1, 2, 8, 0, 0, 0), (42, 9, 0, 1, 0, 0, 2, 0), (43, 2, 0, 1, 0, 2, 0, 0), (44, 9, 0, 1, 0, 0, 0, 0), (45, 0, 0, 1, 3, 0, 0, 0), (46, 9, 0, 1, 0, 0, 2, 0), (47, 2, 0, 1, 0, 3, 0, 0), (48, 9, 0, 1, 0, 0, 0, 0), (49, 32, 0, 1, 0, 0, 0, 0), (50, 39, 0, 1, 0, 0, 0, 0)]
def pm_I82 : List (Nat × pm_Ins) := [(0, 4, 0, 1, 0, 0, 0, 0), (1, 0, 0, 1, 0, 0, 0, 0), (2, 27, 0, 3, 0, 16, 10, 128), (5, 4, 0, 1, 0, 0, 0, 0), (6, 43, 0, 3, 0, 91, 0, 297), (9, 7, 0, 1, 0, 2, 0, 0), (10, 2, 0, 1, 0, 1, 0, 0), (11, 44, 0, 3, 0, 96, 0, 147), (14, 21, 0, 3, 10, 24, 0, 0), (17, 4, 0, 1, 0, 2, 0, 0), (18, 24, 0, 3, 0, 1, 9, 279), (21, 21, 0, 3, 6, 27, 0, 0), (24, 0, 3, 2, (-1000000), 0, 0, 153), (26, 39, 0, 1, 0, 0, 0, 0), (27, 0, 3, 2, (-1000000), 0, 0, 153), (29, 5, 0, 1, 0, 3, 0, 0), (30, 0, 0, 1, 0, 0, 0, 0), (31, 5, 1, 2, 0, 4, 0, 0), (33, 2, 1, 2, 0, 4, 0, 0), (35, 4, 0, 1, 0, 2, 0, 0), (36, 24, 0, 3, 0, 0, 9, 282), (39, 22, 0, 3, 52, 91, 3, 0), (42, 4, 0, 1, 0, 2, 0, 0), (43, 2, 1, 2, 0, 4, 0, 0), (45, 43, 0, 3, 0, 76, 0, 283), (48, 21, 0, 3, 37, 85, 0, 0), (51, 4, 0, 1, 0, 2, 0, 0), (52, 26, 0, 3, 0, 4, 9, 231), (55, 2, 1, 2, 0, 4, 0, 0), (57, 0, 0, 1, 3, 0, 0, 0), (58, 9, 0, 1, 0, 0, 2, 0), (59, 2, 0, 1, 0, 1, 0, 0), (60, 9, 0, 1, 0, 0, 0, 0), (61, 32, 0, 1, 0, 0, 0, 0), (62, 2, 0, 1, 0, 3, 0, 0), (63, 22, 0, 3, 22, 85, 5, 0), (66, 4, 0, 1, 0, 2, 0, 0), (67, 26, 0, 3, 0, 4, 9, 231), (70, 2, 1, 2, 0, 4, 0, 0), (72, 0, 0, 1, 3, 0, 0, 0), (73, 9, 0, 1, 0, 0, 2, 0), (74, 2, 0, 1, 0, 1, 0, 0), (75, 9, 0, 1, 0, 0, 0, 0), (76, 32, 0, 1, 0, 0, 0, 0), (77, 5, 0, 1, 0, 3, 0, 0), (78, 4, 0, 1, 0, 0, 0, 0), (79, 4, 0, 1, 0, 2, 0, 0), (80, 2, 1, 2, 0, 4, 0, 0), (82, 43, 0, 3, 0, 99, 0, 227), (85, 8, 0, 3, 1, 4, 0, 0), (88, 20, 0, 3, (-55), 33, 0, 0), (91, 2, 0, 1, 0, 3, 0, 0), (92, 39, 0, 1, 0, 0, 0, 0)]
def pm_I83 : List (Nat × pm_Ins) := [(0, 4, 0, 1, 0, 0, 0, 0), (1, 2, 0, 1, 0, 1, 0, 0), (2, 43, 0, 3, 0, 97, 0, 180), (5, 21, 0, 3, 14, 19, 0, 0), (8, 4, 0, 1, 0, 0, 0, 0), (9, 26, 0, 3, 0, 3, 10, 23), (12, 2, 0, 1, 0, 2, 0, 0), (13, 43, 0, 3, 0, 43, 0, 143), (16, 21, 0, 3, 6, 22, 1, 0), (19, 0, 1, 2, (-2), 0, 0, 0), (21, 39, 0, 1, 0, 0, 0, 0), (22, 4, 0, 1, 0, 0, 0, 0), (23, 43, 0, 3, 0, 90, 0, 213), (26, 7, 0, 1, 0, 3, 0, 0), (27, 4, 0, 1, 0, 3, 0, 0), (28, 43, 0, 3, 0, 75, 0, 217), (31, 21, 0, 3, 5, 36, 1, 0), (34, 0, 0, 1, (-1), 0, 0, 0), (35, 39, 0, 1, 0, 0, 0, 0), (36, 4, 0, 1, 0, 0, 0, 0), (37, 43, 0, 3, 0, 106, 0, 220), (40, 4, 0, 1, 0, 0, 0, 0), (41, 26, 0, 3, 0, 9, 10, 61), (44, 4, 0, 1, 0, 3, 0, 0), (45, 2, 0, 1, 0, 1, 0, 0), (46, 2, 0, 1, 0, 2, 0, 0), (47, 43, 0, 3, 0, 35, 0, 261), (50, 39, 0, 1, 0, 0, 0, 0)]
def pm_I84 : List (Nat × pm_Ins) := [(0, 4, 0, 1, 0, 0, 0, 0), (1, 0, 0, 1, 0, 0, 0, 0), (2, 27, 0, 3, 0, 16, 10, 128), (5, 4, 0, 1, 0, 0, 0, 0), (6, 43, 0, 3, 0, 92, 0, 276), (9, 7, 0, 1, 0, 1, 0, 0), (10, 4, 0, 1, 0, 1, 0, 0), (11, 24, 0, 3, 0, 1, 9, 279), (14, 21, 0, 3, 6, 20, 0, 0), (17, 0, 1, 2, (-2), 0, 0, 0), (19, 39, 0, 1, 0, 0, 0, 0), (20, 0, 0, 1, 0, 0, 0, 0), (21, 5, 0, 1, 0, 2, 0, 0), (22, 2, 0, 1, 0, 2, 0, 0), (23, 4, 0, 1, 0, 1, 0, 0), (24, 24, 0, 3, 0, 0, 9, 282), (27, 22, 0, 3, 62, 89, 3, 0), (30, 4, 0, 1, 0, 1, 0, 0), (31, 2, 0, 1, 0, 2, 0, 0), (32, 43, 0, 3, 0, 76, 0, 283), (35, 21, 0, 3, 48, 83, 0, 0), (38, 4, 0, 1, 0, 1, 0, 0), (39, 2, 0, 1, 0, 2, 0, 0), (40, 4, 0, 1, 0, 0, 0, 0), (41, 26, 0, 3, 0, 17, 10, 89), (44, 43, 0, 3, 0, 78, 0, 286), (47, 4, 0, 1, 0, 0, 0, 0), (48, 26, 0, 3, 0, 8, 10, 54), (51, 4, 0, 1, 0, 0, 0, 0), (52, 26, 0, 3, 0, 3, 10, 23), (55, 4, 0, 1, 0, 0, 0, 0), (56, 26, 0, 3, 0, 17, 10, 89), (59, 4, 0, 1, 0, 0, 0, 0), (60, 26, 0, 3, 0, 3, 10, 23), (63, 24, 0, 3, 0, 12, 4, 238), (66, 43, 0, 3, 0, 60, 0, 205), (69, 5, 0, 1, 0, 3, 0, 0), (70, 2, 0, 1, 0, 3, 0, 0), (71, 0, 0, 1, 1, 0, 0, 0), (72, 22, 0, 3, 11, 83, 5, 0), (75, 4, 0, 1, 0, 0, 0, 0), (76, 4, 0, 1, 0, 1, 0, 0), (77, 2, 0, 1, 0, 2, 0, 0), (78, 43, 0, 3, 0, 99, 0, 227), (81, 2, 0, 1, 0, 3, 0, 0), (82, 39, 0, 1, 0, 0, 0, 0), (83, 8, 0, 3, 1, 2, 0, 0), (86, 20, 0, 3, (-64), 22, 0, 0), (89, 0, 0, 1, 0, 0, 0, 0), (90, 39, 0, 1, 0, 0, 0, 0)]
def pm_I85 : List (Nat × pm_Ins) := [(0, 2, 0, 1, 0, 1, 0, 0), (1, 21, 0, 3, 11, 12, 2, 0), (4, 2, 0, 1, 0, 1, 0, 0), (5, 4, 0, 1, 0, 0, 0, 0), (6, 24, 0, 3, 0, 1, 10, 92), (9, 22, 0, 3, 5, 14, 5, 0), (12, 0, 0, 1, (-1), 0, 0, 0), (13, 39, 0, 1, 0, 0, 0, 0), (14, 4, 0, 1, 0, 0, 0, 0), (15, 2, 0, 1, 0, 1, 0, 0), (16, 27, 0, 3, 0, 1, 10, 92), (19, 2, 0, 1, 0, 1, 0, 0), (20, 39, 0, 1, 0, 0, 0, 0)]
def pm_I86 : List (Nat × pm_Ins) := [(0, 2, 0, 1, 0, 1, 0, 0), (1, 21, 0, 3, 14, 15, 1, 0), (4, 4, 0, 1, 0, 0, 0, 0), (5, 26, 0, 3, 0, 2, 10, 16), (8, 26, 0, 3, 0, 0, 2, 131), (11, 24, 0, 3, 0, 8, 8, 135), (14, 39, 0, 1, 0, 0, 0, 0), (15, 2, 0, 1, 0, 1, 0, 0), (16, 0, 0, 1, 1, 0, 0, 0), (17, 22, 0, 3, 16, 33, 1, 0), (20, 4, 0, 1, 0, 0, 0, 0), (21, 26, 0, 3, 0, 2, 10, 16), (24, 26, 0, 3, 0, 0, 2, 131), (27, 24, 0, 3, 0, 9, 8, 140), (30, 20, 0, 3, 4, 34, 0, 0), (33, 0, 0, 1, (-1), 0, 0, 0), (34, 39, 0, 1, 0, 0, 0, 0)]
def pm_I87 : List (Nat × pm_Ins) := [(0, 4, 0, 1, 0, 0, 0, 0), (1, 24, 0, 3, 0, 1, 10, 92), (4, 0, 1, 2, 20, 0, 0, 0), (6, 9, 0, 1, 0, 0, 0, 0), (7, 0, 2, 3, 1600, 0, 0, 0), (10, 22, 0, 3, 5, 15, 5, 0), (13, 0, 0, 1, (-1), 0, 0, 0), (14, 39, 0, 1, 0, 0, 0, 0), (15, 4, 0, 1, 0, 0, 0, 0), (16, 2, 0, 1, 0, 1, 0, 0), (17, 43, 0, 3, 0, 118, 0, 96), (20, 4, 0, 1, 0, 0, 0, 0), (21, 2, 0, 1, 0, 2, 0, 0), (22, 43, 0, 3, 0, 118, 0, 96), (25, 4, 0, 1, 0, 0, 0, 0), (26, 2, 0, 1, 0, 3, 0, 0), (27, 43, 0, 3, 0, 118, 0, 96), (30, 4, 0, 1, 0, 0, 0, 0), (31, 2, 1, 2, 0, 4, 0, 0), (33, 43, 0, 3, 0, 118, 0, 96), (36, 4, 0, 1, 0, 0, 0, 0), (37, 2, 1, 2, 0, 5, 0, 0), (39, 43, 0, 3, 0, 118, 0, 96), (42, 4, 0, 1, 0, 0, 0, 0), (43, 24, 0, 3, 0, 1, 10, 92), (46, 39, 0, 1, 0, 0, 0, 0)]
def pm_I88 : List (Nat × pm_Ins) := [(0, 4, 0, 1, 0, 0, 0, 0), (1, 43, 0, 3, 0, 91, 0, 297), (4, 7, 0, 1, 0, 1, 0, 0), (5, 4, 0, 1, 0, 1, 0, 0), (6, 24, 0, 3, 0, 1, 9, 279), (9, 21, 0, 3, 6, 15, 0, 0), (12, 0, 1, 2, (-2), 0, 0, 0), (14, 39, 0, 1, 0, 0, 0, 0), (15, 0, 0, 1, 0, 0, 0, 0), (16, 5, 0, 1, 0, 2, 0, 0), (17, 0, 0, 1, 0, 0, 0, 0), (18, 5, 0, 1, 0, 3, 0, 0), (19, 2, 0, 1, 0, 3, 0, 0), (20, 4, 0, 1, 0, 1, 0, 0), (21, 24, 0, 3, 0, 0, 9, 282), (24, 22, 0, 3, 20, 44, 3, 0), (27, 4, 0, 1, 0, 1, 0, 0), (28, 2, 0, 1, 0, 3, 0, 0), (29, 43, 0, 3, 0, 76, 0, 283), (32, 21, 0, 3, 6, 38, 0, 0), (35, 8, 0, 3, 1, 2, 0, 0), (38, 8, 0, 3, 1, 3, 0, 0), (41, 20, 0, 3, (-22), 19, 0, 0), (44, 2, 0, 1, 0, 2, 0, 0), (45, 39, 0, 1, 0, 0, 0, 0)]
def pm_I89 : List (Nat × pm_Ins) := [(0, 4, 0, 1, 0, 0, 0, 0), (1, 26, 0, 3, 0, 5, 10, 33), (4, 43, 0, 3, 0, 2, 0, 110), (7, 0, 0, 1, 0, 0, 0, 0), (8, 5, 0, 1, 0, 1, 0, 0), (9, 2, 0, 1, 0, 1, 0, 0), (10, 0, 0, 1, 3, 0, 0, 0), (11, 22, 0, 3, 19, 30, 3, 0), (14, 4, 0, 1, 0, 0, 0, 0), (15, 26, 0, 3, 0, 6, 10, 40), (18, 2, 0, 1, 0, 1, 0, 0), (19, 35, 0, 1, 0, 0, 0, 0), (20, 0, 0, 1, 0, 0, 0, 0), (21, 27, 0, 3, 0, 0, 1, 113), (24, 8, 0, 3, 1, 1, 0, 0), (27, 20, 0, 3, (-18), 9, 0, 0), (30, 4, 0, 1, 0, 0, 0, 0), (31, 26, 0, 3, 0, 8, 10, 54), (34, 43, 0, 3, 0, 62, 0, 117), (37, 4, 0, 1, 0, 0, 0, 0), (38, 26, 0, 3, 0, 10, 10, 68), (41, 43, 0, 3, 0, 71, 0, 120), (44, 4, 0, 1, 0, 0, 0, 0), (45, 26, 0, 3, 0, 11, 10, 72), (48, 43, 0, 3, 0, 71, 0, 120), (51, 4, 0, 1, 0, 0, 0, 0), (52, 26, 0, 3, 0, 12, 10, 75), (55, 43, 0, 3, 0, 71, 0, 120), (58, 4, 0, 1, 0, 0, 0, 0), (59, 26, 0, 3, 0, 9, 10, 61), (62, 43, 0, 3, 0, 32, 0, 121), (65, 4, 0, 1, 0, 0, 0, 0), (66, 0, 0, 1, 0, 0, 0, 0), (67, 27, 0, 3, 0, 13, 10, 122), (70, 4, 0, 1, 0, 0, 0, 0), (71, 26, 0, 3, 0, 14, 10, 81), (74, 0, 0, 1, 0, 0, 0, 0), (75, 27, 0, 3, 0, 0, 6, 125), (78, 4, 0, 1, 0, 0, 0, 0), (79, 0, 0, 1, 0, 0, 0, 0), (80, 27, 0, 3, 0, 16, 10, 128), (83, 42, 0, 1, 0, 0, 0, 0)]
def pm_I90 : List (Nat × pm_Ins) := [(0, 4, 0, 1, 0, 0, 0, 0), (1, 26, 0, 3, 0, 5, 10, 33), (4, 24, 0, 3, 0, 1, 0, 177), (7, 21, 0, 3, 10, 17, 1, 0), (10, 4, 0, 1, 0, 0, 0, 0), (11, 26, 0, 3, 0, 10, 10, 68), (14, 20, 0, 3, 7, 21, 0, 0), (17, 4, 0, 1, 0, 0, 0, 0), (18, 26, 0, 3, 0, 11, 10, 72), (21, 7, 0, 1, 0, 1, 0, 0), (22, 4, 0, 1, 0, 1, 0, 0), (23, 4, 0, 1, 0, 0, 0, 0), (24, 26, 0, 3, 0, 3, 10, 23), (27, 4, 0, 1, 0, 0, 0, 0), (28, 26, 0, 3, 0, 7, 10, 47), (31, 4, 0, 1, 0, 0, 0, 0), (32, 26, 0, 3, 0, 5, 10, 33), (35, 26, 0, 3, 0, 0, 0, 194), (38, 4, 0, 1, 0, 0, 0, 0), (39, 26, 0, 3, 0, 5, 10, 33), (42, 24, 0, 3, 0, 1, 0, 177), (45, 0, 0, 1, 0, 0, 0, 0), (46, 43, 0, 3, 0, 74, 0, 234), (49, 4, 0, 1, 0, 1, 0, 0), (50, 41, 0, 1, 0, 0, 0, 0)]
def pm_I91 : List (Nat × pm_Ins) := [(0, 4, 0, 1, 0, 0, 0, 0), (1, 24, 0, 3, 0, 13, 10, 122), (4, 21, 0, 3, 10, 14, 1, 0), (7, 4, 0, 1, 0, 0, 0, 0), (8, 26, 0, 3, 0, 10, 10, 68), (11, 20, 0, 3, 7, 18, 0, 0), (14, 4, 0, 1, 0, 0, 0, 0), (15, 26, 0, 3, 0, 12, 10, 75), (18, 7, 0, 1, 0, 1, 0, 0), (19, 4, 0, 1, 0, 1, 0, 0), (20, 4, 0, 1, 0, 0, 0, 0), (21, 26, 0, 3, 0, 3, 10, 23), (24, 4, 0, 1, 0, 0, 0, 0), (25, 26, 0, 3, 0, 7, 10, 47), (28, 4, 0, 1, 0, 0, 0, 0), (29, 26, 0, 3, 0, 5, 10, 33), (32, 26, 0, 3, 0, 0, 0, 194), (35, 0, 0, 1, 0, 0, 0, 0), (36, 4, 0, 1, 0, 0, 0, 0), (37, 24, 0, 3, 0, 13, 10, 122), (40, 43, 0, 3, 0, 74, 0, 234), (43, 4, 0, 1, 0, 1, 0, 0), (44, 41, 0, 1, 0, 0, 0, 0)]
def pm_I92 : List (Nat × pm_Ins) := [(0, 4, 0, 1, 0, 0, 0, 0), (1, 26, 0, 3, 0, 10, 10, 68), (4, 4, 0, 1, 0, 0, 0, 0), (5, 26, 0, 3, 0, 3, 10, 23), (8, 4, 0, 1, 0, 0, 0, 0), (9, 26, 0, 3, 0, 7, 10, 47), (12, 4, 0, 1, 0, 0, 0, 0), (13, 26, 0, 3, 0, 5, 10, 33), (16, 26, 0, 3, 0, 0, 0, 194), (19, 0, 0, 1, 0, 0, 0, 0), (20, 0, 0, 1, 0, 0, 0, 0), (21, 43, 0, 3, 0, 74, 0, 234), (24, 4, 0, 1, 0, 0, 0, 0), (25, 26, 0, 3, 0, 10, 10, 68), (28, 41, 0, 1, 0, 0, 0, 0)]
def pm_I93 : List (Nat × pm_Ins) := [(0, 4, 0, 1, 0, 0, 0, 0), (1, 43, 0, 3, 0, 90, 0, 213), (4, 7, 0, 1, 0, 2, 0, 0), (5, 2, 0, 1, 0, 1, 0, 0), (6, 0, 0, 1, 1, 0, 0, 0), (7, 22, 0, 3, 16, 23, 2, 0), (10, 2, 0, 1, 0, 1, 0, 0), (11, 0, 1, 2, 7, 0, 0, 0), (13, 22, 0, 3, 10, 23, 4, 0), (16, 4, 0, 1, 0, 2, 0, 0), (17, 43, 0, 3, 0, 75, 0, 217), (20, 21, 0, 3, 6, 26, 1, 0), (23, 0, 3, 2, (-1000000), 0, 0, 153), (25, 39, 0, 1, 0, 0, 0, 0), (26, 4, 0, 1, 0, 0, 0, 0), (27, 43, 0, 3, 0, 106, 0, 220), (30, 4, 0, 1, 0, 0, 0, 0), (31, 26, 0, 3, 0, 9, 10, 61), (34, 4, 0, 1, 0, 2, 0, 0), (35, 2, 0, 1, 0, 1, 0, 0), (36, 43, 0, 3, 0, 33, 0, 248), (39, 39, 0, 1, 0, 0, 0, 0)]
def pm_I94 : List (Nat × pm_Ins) := [(0, 4, 0, 1, 0, 0, 0, 0), (1, 26, 0, 3, 0, 3, 10, 23), (4, 2, 0, 1, 0, 1, 0, 0), (5, 43, 0, 3, 0, 42, 0, 157), (8, 21, 0, 3, 19, 27, 0, 0), (11, 2, 0, 1, 0, 2, 0, 0), (12, 0, 0, 1, (-1), 0, 0, 0), (13, 22, 0, 3, 16, 29, 0, 0), (16, 4, 0, 1, 0, 0, 0, 0), (17, 26, 0, 3, 0, 3, 10, 23), (20, 2, 0, 1, 0, 2, 0, 0), (21, 43, 0, 3, 0, 43, 0, 143), (24, 21, 0, 3, 5, 29, 1, 0), (27, 0, 0, 1, 0, 0, 0, 0), (28, 39, 1, 1, 0, 0, 0, 0), (29, 2, 0, 1, 0, 1, 0, 0), (30, 0, 0, 1, 4, 0, 0, 0), (31, 9, 0, 1, 0, 0, 2, 0), (32, 5, 0, 1, 0, 3, 0, 0), (33, 4, 0, 1, 0, 0, 0, 0), (34, 4, 0, 1, 0, 0, 0, 0), (35, 24, 0, 3, 0, 13, 10, 122), (38, 0, 1, 2, 15, 0, 0, 0), (40, 2, 0, 1, 0, 3, 0, 0), (41, 9, 0, 1, 0, 0, 6, 0), (42, 0, 0, 1, (-1), 0, 0, 0), (43, 9, 0, 1, 0, 0, 5, 0), (44, 9, 0, 1, 0, 0, 3, 0), (45, 2, 0, 1, 0, 2, 0, 0), (46, 0, 0, 1, 1, 0, 0, 0), (47, 9, 0, 1, 0, 0, 0, 0), (48, 2, 0, 1, 0, 3, 0, 0), (49, 9, 0, 1, 0, 0, 6, 0), (50, 9, 0, 1, 0, 0, 4, 0), (51, 27, 0, 3, 0, 13, 10, 122), (54, 0, 0, 1, 1, 0, 0, 0), (55, 39, 1, 1, 0, 0, 0, 0)]
def pm_I95 : List (Nat × pm_Ins) := [(0, 2, 0, 1, 0, 1, 0, 0), (1, 21, 0, 3, 8, 9, 2, 0), (4, 2, 0, 1, 0, 1, 0, 0), (5, 0, 0, 1, 3, 0, 0, 0), (6, 22, 0, 3, 5, 11, 2, 0), (9, 0, 0, 1, (-1), 0, 0, 0), (10, 39, 0, 1, 0, 0, 0, 0), (11, 4, 0, 1, 0, 0, 0, 0), (12, 26, 0, 3, 0, 6, 10, 40), (15, 2, 0, 1, 0, 1, 0, 0), (16, 35, 0, 1, 0, 0, 0, 0), (17, 4, 0, 1, 0, 0, 0, 0), (18, 26, 0, 3, 0, 5, 10, 33), (21, 43, 0, 3, 0, 10, 0, 318), (24, 4, 0, 1, 0, 0, 0, 0), (25, 26, 0, 3, 0, 5, 10, 33), (28, 24, 0, 3, 0, 1, 0, 177), (31, 39, 0, 1, 0, 0, 0, 0)]
def pm_I96 : List (Nat × pm_Ins) := [(0, 2, 0, 1, 0, 0, 0, 0), (1, 21, 0, 3, 12, 13, 2, 0), (4, 2, 0, 1, 0, 0, 0, 0), (5, 0, 0, 1, 3, 0, 0, 0), (6, 22, 0, 3, 7, 13, 3, 0), (9, 0, 0, 1, 1, 0, 0, 0), (10, 20, 0, 3, 4, 14, 0, 0), (13, 0, 0, 1, 0, 0, 0, 0), (14, 39, 1, 1, 0, 0, 0, 0)]
def pm_I97 : List (Nat × pm_Ins) := [(0, 4, 0, 1, 0, 0, 0, 0), (1, 26, 0, 3, 0, 3, 10, 23), (4, 2, 0, 1, 0, 1, 0, 0), (5, 43, 0, 3, 0, 42, 0, 157), (8, 21, 0, 3, 18, 26, 0, 0), (11, 2, 0, 1, 0, 1, 0, 0), (12, 4, 0, 1, 0, 0, 0, 0), (13, 26, 0, 3, 0, 5, 10, 33), (16, 24, 0, 3, 0, 1, 0, 177), (19, 22, 0, 3, 7, 26, 2, 0), (22, 0, 0, 1, 1, 0, 0, 0), (23, 20, 0, 3, 4, 27, 0, 0), (26, 0, 0, 1, 0, 0, 0, 0), (27, 39, 1, 1, 0, 0, 0, 0)]
def pm_I98 : List (Nat × pm_Ins) := [(0, 2, 0, 1, 0, 1, 0, 0), (1, 21, 0, 3, 25, 26, 2, 0), (4, 2, 0, 1, 0, 1, 0, 0), (5, 0, 2, 3, 1000, 0, 0, 0), (8, 22, 0, 3, 18, 26, 4, 0), (11, 4, 0, 1, 0, 0, 0, 0), (12, 26, 0, 3, 0, 14, 10, 81), (15, 24, 0, 3, 0, 1, 6, 310), (18, 2, 0, 1, 0, 1, 0, 0), (19, 9, 0, 1, 0, 0, 0, 0), (20, 0, 4, 3, 100000, 0, 0, 313), (23, 22, 0, 3, 5, 28, 5, 0), (26, 0, 0, 1, (-1), 0, 0, 0), (27, 39, 0, 1, 0, 0, 0, 0), (28, 4, 0, 1, 0, 0, 0, 0), (29, 26, 0, 3, 0, 14, 10, 81), (32, 17, 0, 1, 0, 0, 0, 0), (33, 24, 0, 3, 0, 1, 6, 310), (36, 2, 0, 1, 0, 1, 0, 0), (37, 9, 0, 1, 0, 0, 0, 0), (38, 27, 0, 3, 0, 1, 6, 310), (41, 4, 0, 1, 0, 0, 0, 0), (42, 26, 0, 3, 0, 14, 10, 81), (45, 24, 0, 3, 0, 1, 6, 310), (48, 39, 0, 1, 0, 0, 0, 0)]
def pm_I99 : List (Nat × pm_Ins) := [(0, 4, 0, 1, 0, 0, 0, 0), (1, 4, 0, 1, 0, 0, 0, 0), (2, 26, 0, 3, 0, 3, 10, 23), (5, 24, 0, 3, 0, 12, 4, 238), (8, 27, 0, 3, 0, 16, 10, 128), (11, 0, 0, 1, 0, 0, 0, 0), (12, 5, 0, 1, 0, 3, 0, 0), (13, 2, 0, 1, 0, 3, 0, 0), (14, 4, 0, 1, 0, 0, 0, 0), (15, 24, 0, 3, 0, 16, 10, 128), (18, 22, 0, 3, 21, 39, 3, 0), (21, 4, 0, 1, 0, 0, 0, 0), (22, 26, 0, 3, 0, 15, 10, 85), (25, 2, 0, 1, 0, 3, 0, 0), (26, 4, 0, 1, 0, 1, 0, 0), (27, 2, 0, 1, 0, 2, 0, 0), (28, 2, 0, 1, 0, 3, 0, 0), (29, 43, 0, 3, 0, 77, 0, 244), (32, 36, 0, 1, 0, 0, 0, 0), (33, 8, 0, 3, 1, 3, 0, 0), (36, 20, 0, 3, (-23), 13, 0, 0), (39, 42, 0, 1, 0, 0, 0, 0)]
def pm_I100 : List (Nat × pm_Ins) := [(0, 2, 0, 1, 0, 1, 0, 0), (1, 21, 0, 3, 20, 21, 2, 0), (4, 2, 0, 1, 0, 1, 0, 0), (5, 4, 0, 1, 0, 0, 0, 0), (6, 24, 0, 3, 0, 16, 10, 128), (9, 22, 0, 3, 12, 21, 3, 0), (12, 4, 0, 1, 0, 0, 0, 0), (13, 26, 0, 3, 0, 15, 10, 85), (16, 2, 0, 1, 0, 1, 0, 0), (17, 32, 0, 1, 0, 0, 0, 0), (18, 20, 0, 3, 4, 22, 0, 0), (21, 0, 0, 1, (-1), 0, 0, 0), (22, 39, 0, 1, 0, 0, 0, 0)]
def pm_I101 : List (Nat × pm_Ins) := [(0, 4, 0, 1, 0, 0, 0, 0), (1, 43, 0, 3, 0, 92, 0, 276), (4, 7, 0, 1, 0, 2, 0, 0), (5, 2, 0, 1, 0, 1, 0, 0), (6, 44, 0, 3, 0, 96, 0, 147), (9, 21, 0, 3, 10, 19, 0, 0), (12, 4, 0, 1, 0, 2, 0, 0), (13, 43, 0, 3, 0, 75, 0, 217), (16, 21, 0, 3, 6, 22, 1, 0), (19, 0, 3, 2, (-1000000), 0, 0, 153), (21, 39, 0, 1, 0, 0, 0, 0), (22, 4, 0, 1, 0, 0, 0, 0), (23, 26, 0, 3, 0, 9, 10, 61), (26, 4, 0, 1, 0, 2, 0, 0), (27, 43, 0, 3, 0, 30, 0, 290), (30, 0, 0, 1, 0, 0, 0, 0), (31, 5, 0, 1, 0, 3, 0, 0), (32, 0, 0, 1, 0, 0, 0, 0), (33, 5, 1, 2, 0, 4, 0, 0), (35, 2, 1, 2, 0, 4, 0, 0), (37, 0, 1, 2, 6, 0, 0, 0), (39, 22, 0, 3, 31, 70, 3, 0), (42, 2, 0, 1, 0, 3, 0, 0), (43, 4, 0, 1, 0, 2, 0, 0), (44, 26, 0, 3, 0, 4, 9, 231), (47, 4, 0, 1, 0, 0, 0, 0), (48, 26, 0, 3, 0, 9, 10, 61), (51, 26, 0, 3, 0, 2, 3, 294), (54, 2, 1, 2, 0, 4, 0, 0), (56, 32, 0, 1, 0, 0, 0, 0), (57, 0, 0, 1, 3, 0, 0, 0), (58, 9, 0, 1, 0, 0, 2, 0), (59, 2, 0, 1, 0, 1, 0, 0), (60, 9, 0, 1, 0, 0, 0, 0), (61, 32, 0, 1, 0, 0, 0, 0), (62, 9, 0, 1, 0, 0, 0, 0), (63, 5, 0, 1, 0, 3, 0, 0), (64, 8, 0, 3, 1, 4, 0, 0), (67, 20, 0, 3, (-32), 35, 0, 0), (70, 2, 0, 1, 0, 3, 0, 0), (71, 39, 0, 1, 0, 0, 0, 0)]
def pm_I102 : List (Nat × pm_Ins) := [(0, 2, 0, 1, 0, 1, 0, 0), (1, 44, 0, 3, 0, 96, 0, 147), (4, 21, 0, 3, 28, 32, 0, 0), (7, 4, 0, 1, 0, 0, 0, 0), (8, 26, 0, 3, 0, 3, 10, 23), (11, 4, 0, 1, 0, 0, 0, 0), (12, 26, 0, 3, 0, 5, 10, 33), (15, 26, 0, 3, 0, 0, 0, 194), (18, 4, 0, 1, 0, 0, 0, 0), (19, 26, 0, 3, 0, 5, 10, 33), (22, 24, 0, 3, 0, 1, 0, 177), (25, 2, 0, 1, 0, 1, 0, 0), (26, 43, 0, 3, 0, 45, 0, 209), (29, 20, 0, 3, 5, 34, 0, 0), (32, 0, 3, 2, (-1000000), 0, 0, 153), (34, 39, 0, 1, 0, 0, 0, 0)]
def pm_I103 : List (Nat × pm_Ins) := [(0, 4, 0, 1, 0, 0, 0, 0), (1, 43, 0, 3, 0, 104, 0, 170), (4, 39, 0, 1, 0, 0, 0, 0)]
def pm_I104 : List (Nat × pm_Ins) := [(0, 4, 0, 1, 0, 0, 0, 0), (1, 26, 0, 3, 0, 7, 10, 47), (4, 4, 0, 1, 0, 0, 0, 0), (5, 26, 0, 3, 0, 3, 10, 23), (8, 4, 0, 1, 0, 0, 0, 0), (9, 26, 0, 3, 0, 5, 10, 33), (12, 26, 0, 3, 0, 0, 0, 194), (15, 4, 0, 1, 0, 0, 0, 0), (16, 26, 0, 3, 0, 5, 10, 33), (19, 24, 0, 3, 0, 1, 0, 177), (22, 43, 0, 3, 0, 55, 0, 197), (25, 4, 0, 1, 0, 0, 0, 0), (26, 26, 0, 3, 0, 7, 10, 47), (29, 4, 0, 1, 0, 0, 0, 0), (30, 26, 0, 3, 0, 3, 10, 23), (33, 4, 0, 1, 0, 0, 0, 0), (34, 26, 0, 3, 0, 5, 10, 33), (37, 24, 0, 3, 0, 1, 0, 177), (40, 43, 0, 3, 0, 54, 0, 201), (43, 39, 0, 1, 0, 0, 0, 0)]
def pm_I105 : List (Nat × pm_Ins) := [(0, 4, 0, 1, 0, 0, 0, 0), (1, 43, 0, 3, 0, 92, 0, 276), (4, 7, 0, 1, 0, 2, 0, 0), (5, 4, 0, 1, 0, 2, 0, 0), (6, 24, 0, 3, 0, 1, 9, 279), (9, 21, 0, 3, 6, 15, 0, 0), (12, 0, 1, 2, (-2), 0, 0, 0), (14, 39, 0, 1, 0, 0, 0, 0), (15, 4, 0, 1, 0, 2, 0, 0), (16, 43, 0, 3, 0, 75, 0, 217), (19, 21, 0, 3, 5, 24, 1, 0), (22, 0, 0, 1, 0, 0, 0, 0), (23, 39, 0, 1, 0, 0, 0, 0), (24, 4, 0, 1, 0, 0, 0, 0), (25, 26, 0, 3, 0, 9, 10, 61), (28, 4, 0, 1, 0, 2, 0, 0), (29, 43, 0, 3, 0, 30, 0, 290), (32, 0, 0, 1, 0, 0, 0, 0), (33, 5, 0, 1, 0, 3, 0, 0), (34, 0, 0, 1, 0, 0, 0, 0), (35, 5, 1, 2, 0, 4, 0, 0), (37, 2, 1, 2, 0, 4, 0, 0), (39, 0, 1, 2, 6, 0, 0, 0), (41, 22, 0, 3, 38, 79, 3, 0), (44, 4, 0, 1, 0, 0, 0, 0), (45, 26, 0, 3, 0, 14, 10, 81), (48, 4, 0, 1, 0, 2, 0, 0), (49, 4, 0, 1, 0, 0, 0, 0), (50, 26, 0, 3, 0, 9, 10, 61), (53, 26, 0, 3, 0, 2, 3, 294), (56, 2, 1, 2, 0, 4, 0, 0), (58, 32, 0, 1, 0, 0, 0, 0), (59, 2, 0, 1, 0, 1, 0, 0), (60, 43, 0, 3, 0, 57, 0, 314), (63, 21, 0, 3, 10, 73, 0, 0), (66, 2, 0, 1, 0, 3, 0, 0), (67, 0, 0, 1, 1, 0, 0, 0), (68, 2, 1, 2, 0, 4, 0, 0), (70, 9, 0, 1, 0, 0, 6, 0), (71, 9, 0, 1, 0, 0, 4, 0), (72, 5, 0, 1, 0, 3, 0, 0), (73, 8, 0, 3, 1, 4, 0, 0), (76, 20, 0, 3, (-39), 37, 0, 0), (79, 2, 0, 1, 0, 3, 0, 0), (80, 39, 0, 1, 0, 0, 0, 0)]
def pm_I106 : List (Nat × pm_Ins) := [(0, 0, 0, 1, 0, 0, 0, 0), (1, 5, 0, 1, 0, 1, 0, 0), (2, 2, 0, 1, 0, 1, 0, 0), (3, 4, 0, 1, 0, 0, 0, 0), (4, 26, 0, 3, 0, 3, 10, 23), (7, 24, 0, 3, 0, 12, 4, 238), (10, 22, 0, 3, 23, 33, 3, 0), (13, 4, 0, 1, 0, 0, 0, 0), (14, 26, 0, 3, 0, 9, 10, 61), (17, 26, 0, 3, 0, 0, 3, 241), (20, 2, 0, 1, 0, 1, 0, 0), (21, 4, 0, 1, 0, 0, 0, 0), (22, 2, 0, 1, 0, 1, 0, 0), (23, 43, 0, 3, 0, 107, 0, 160), (26, 36, 0, 1, 0, 0, 0, 0), (27, 8, 0, 3, 1, 1, 0, 0), (30, 20, 0, 3, (-28), 2, 0, 0), (33, 42, 0, 1, 0, 0, 0, 0)]
def pm_I107 : List (Nat × pm_Ins) := [(0, 4, 0, 1, 0, 0, 0, 0), (1, 26, 0, 3, 0, 5, 10, 33), (4, 26, 0, 3, 0, 2, 0, 164), (7, 2, 0, 1, 0, 1, 0, 0), (8, 32, 0, 1, 0, 0, 0, 0), (9, 0, 0, 1, (-1), 0, 0, 0), (10, 22, 0, 3, 15, 25, 0, 0), (13, 4, 0, 1, 0, 0, 0, 0), (14, 26, 0, 3, 0, 5, 10, 33), (17, 26, 0, 3, 0, 2, 0, 164), (20, 2, 0, 1, 0, 1, 0, 0), (21, 32, 0, 1, 0, 0, 0, 0), (22, 20, 0, 3, 11, 33, 0, 0), (25, 4, 0, 1, 0, 0, 0, 0), (26, 26, 0, 3, 0, 3, 10, 23), (29, 2, 0, 1, 0, 1, 0, 0), (30, 43, 0, 3, 0, 50, 0, 167), (33, 39, 0, 1, 0, 0, 0, 0)]
def pm_I108 : List (Nat × pm_Ins) := [(0, 4, 0, 1, 0, 0, 0, 0), (1, 26, 0, 3, 0, 2, 10, 16), (4, 4, 0, 1, 0, 0, 0, 0), (5, 26, 0, 3, 0, 4, 10, 27), (8, 4, 0, 1, 0, 0, 0, 0), (9, 26, 0, 3, 0, 0, 10, 9), (12, 4, 0, 1, 0, 0, 0, 0), (13, 24, 0, 3, 0, 1, 10, 92), (16, 43, 0, 3, 0, 25, 0, 100), (19, 21, 0, 3, 5, 24, 1, 0), (22, 0, 0, 1, (-1), 0, 0, 0), (23, 39, 0, 1, 0, 0, 0, 0), (24, 4, 0, 1, 0, 0, 0, 0), (25, 26, 0, 3, 0, 3, 10, 23), (28, 7, 0, 1, 0, 1, 0, 0), (29, 4, 0, 1, 0, 0, 0, 0), (30, 4, 0, 1, 0, 0, 0, 0), (31, 26, 0, 3, 0, 4, 10, 27), (34, 29, 0, 3, 0, 3, 10, 23), (37, 4, 0, 1, 0, 0, 0, 0), (38, 4, 0, 1, 0, 1, 0, 0), (39, 29, 0, 3, 0, 4, 10, 27), (42, 4, 0, 1, 0, 0, 0, 0), (43, 0, 0, 1, 0, 0, 0, 0), (44, 27, 0, 3, 0, 1, 10, 92), (47, 4, 0, 1, 0, 0, 0, 0), (48, 43, 0, 3, 0, 89, 0, 104), (51, 4, 0, 1, 0, 0, 0, 0), (52, 26, 0, 3, 0, 3, 10, 23), (55, 24, 0, 3, 0, 0, 4, 107), (58, 39, 0, 1, 0, 0, 0, 0)]
def pm_I109 : List (Nat × pm_Ins) := [(0, 4, 0, 1, 0, 0, 0, 0), (1, 26, 0, 3, 0, 8, 10, 54), (4, 4, 0, 1, 0, 0, 0, 0), (5, 26, 0, 3, 0, 3, 10, 23), (8, 4, 0, 1, 0, 0, 0, 0), (9, 26, 0, 3, 0, 5, 10, 33), (12, 26, 0, 3, 0, 0, 0, 194), (15, 4, 0, 1, 0, 0, 0, 0), (16, 26, 0, 3, 0, 5, 10, 33), (19, 24, 0, 3, 0, 1, 0, 177), (22, 43, 0, 3, 0, 60, 0, 205), (25, 39, 0, 1, 0, 0, 0, 0)]
def pm_I110 : List (Nat × pm_Ins) := [(0, 4, 0, 1, 0, 0, 0, 0), (1, 26, 0, 3, 0, 5, 10, 33), (4, 43, 0, 3, 0, 0, 0, 191), (7, 39, 1, 1, 0, 0, 0, 0)]
def pm_I111 : List (Nat × pm_Ins) := [(0, 4, 0, 1, 0, 0, 0, 0), (1, 26, 0, 3, 0, 3, 10, 23), (4, 2, 0, 1, 0, 1, 0, 0), (5, 43, 0, 3, 0, 42, 0, 157), (8, 21, 0, 3, 14, 22, 0, 0), (11, 4, 0, 1, 0, 0, 0, 0), (12, 26, 0, 3, 0, 3, 10, 23), (15, 2, 0, 1, 0, 2, 0, 0), (16, 43, 0, 3, 0, 43, 0, 143), (19, 21, 0, 3, 5, 24, 1, 0), (22, 0, 0, 1, (-1), 0, 0, 0), (23, 39, 0, 1, 0, 0, 0, 0), (24, 4, 0, 1, 0, 0, 0, 0), (25, 26, 0, 3, 0, 14, 10, 81), (28, 2, 0, 1, 0, 1, 0, 0), (29, 2, 0, 1, 0, 2, 0, 0), (30, 2, 0, 1, 0, 3, 0, 0), (31, 43, 0, 3, 0, 59, 0, 304), (34, 39, 0, 1, 0, 0, 0, 0)]
def pm_I112 : List (Nat × pm_Ins) := [(0, 4, 0, 1, 0, 0, 0, 0), (1, 2, 0, 1, 0, 1, 0, 0), (2, 43, 0, 3, 0, 97, 0, 180), (5, 21, 0, 3, 10, 15, 0, 0), (8, 2, 0, 1, 0, 2, 0, 0), (9, 44, 0, 3, 0, 96, 0, 147), (12, 21, 0, 3, 5, 17, 1, 0), (15, 0, 0, 1, (-1), 0, 0, 0), (16, 39, 0, 1, 0, 0, 0, 0), (17, 4, 0, 1, 0, 0, 0, 0), (18, 2, 0, 1, 0, 1, 0, 0), (19, 43, 0, 3, 0, 107, 0, 160), (22, 5, 0, 1, 0, 3, 0, 0), (23, 4, 0, 1, 0, 0, 0, 0), (24, 26, 0, 3, 0, 5, 10, 33), (27, 2, 0, 1, 0, 1, 0, 0), (28, 2, 0, 1, 0, 2, 0, 0), (29, 43, 0, 3, 0, 5, 0, 183), (32, 2, 0, 1, 0, 3, 0, 0), (33, 39, 0, 1, 0, 0, 0, 0)]
def pm_I113 : List (Nat × pm_Ins) := [(0, 4, 0, 1, 0, 0, 0, 0), (1, 43, 0, 3, 0, 90, 0, 213), (4, 7, 0, 1, 0, 3, 0, 0), (5, 2, 0, 1, 0, 1, 0, 0), (6, 44, 0, 3, 0, 96, 0, 147), (9, 21, 0, 3, 19, 28, 0, 0), (12, 2, 0, 1, 0, 2, 0, 0), (13, 21, 0, 3, 15, 28, 2, 0), (16, 2, 0, 1, 0, 2, 0, 0), (17, 0, 0, 1, 1, 0, 0, 0), (18, 22, 0, 3, 10, 28, 4, 0), (21, 4, 0, 1, 0, 3, 0, 0), (22, 43, 0, 3, 0, 75, 0, 217), (25, 21, 0, 3, 6, 31, 1, 0), (28, 0, 3, 2, (-1000000), 0, 0, 153), (30, 39, 0, 1, 0, 0, 0, 0), (31, 4, 0, 1, 0, 0, 0, 0), (32, 43, 0, 3, 0, 106, 0, 220), (35, 4, 0, 1, 0, 0, 0, 0), (36, 4, 0, 1, 0, 3, 0, 0), (37, 2, 0, 1, 0, 1, 0, 0), (38, 43, 0, 3, 0, 115, 0, 252), (41, 5, 1, 2, 0, 4, 0, 0), (43, 2, 1, 2, 0, 4, 0, 0), (45, 0, 1, 2, 6, 0, 0, 0), (47, 9, 0, 1, 0, 0, 8, 0), (48, 21, 0, 3, 8, 56, 1, 0), (51, 0, 1, 2, 6, 0, 0, 0), (53, 20, 0, 3, 26, 79, 0, 0), (56, 2, 1, 2, 0, 4, 0, 0), (58, 0, 0, 1, 3, 0, 0, 0), (59, 9, 0, 1, 0, 0, 8, 0), (60, 21, 0, 3, 7, 67, 1, 0), (63, 0, 0, 1, 3, 0, 0, 0), (64, 20, 0, 3, 15, 79, 0, 0), (67, 2, 1, 2, 0, 4, 0, 0), (69, 0, 0, 1, 2, 0, 0, 0), (70, 9, 0, 1, 0, 0, 8, 0), (71, 21, 0, 3, 7, 78, 1, 0), (74, 0, 0, 1, 2, 0, 0, 0), (75, 20, 0, 3, 4, 79, 0, 0), (78, 0, 0, 1, 1, 0, 0, 0), (79, 5, 1, 2, 0, 5, 0, 0), (81, 2, 0, 1, 0, 2, 0, 0), (82, 21, 0, 3, 11, 93, 1, 0), (85, 2, 1, 2, 0, 4, 0, 0), (87, 2, 1, 2, 0, 5, 0, 0), (89, 9, 0, 1, 0, 0, 9, 0), (90, 20, 0, 3, 8, 98, 0, 0), (93, 0, 1, 2, 6, 0, 0, 0), (95, 2, 1, 2, 0, 5, 0, 0), (97, 9, 0, 1, 0, 0, 9, 0), (98, 39, 0, 1, 0, 0, 0, 0)]
def pm_I114 : List (Nat × pm_Ins) := [(0, 2, 0, 1, 0, 1, 0, 0), (1, 21, 0, 3, 14, 15, 2, 0), (4, 2, 0, 1, 0, 1, 0, 0), (5, 4, 0, 1, 0, 0, 0, 0), (6, 26, 0, 3, 0, 3, 10, 23), (9, 24, 0, 3, 0, 6, 4, 273), (12, 22, 0, 3, 5, 17, 2, 0), (15, 0, 0, 1, (-1), 0, 0, 0), (16, 39, 0, 1, 0, 0, 0, 0), (17, 4, 0, 1, 0, 0, 0, 0), (18, 26, 0, 3, 0, 3, 10, 23), (21, 4, 0, 1, 0, 0, 0, 0), (22, 26, 0, 3, 0, 17, 10, 89), (25, 43, 0, 3, 0, 41, 0, 265), (28, 4, 0, 1, 0, 0, 0, 0), (29, 26, 0, 3, 0, 17, 10, 89), (32, 0, 1, 2, 8, 0, 0, 0), (34, 2, 0, 1, 0, 1, 0, 0), (35, 9, 0, 1, 0, 0, 0, 0), (36, 32, 0, 1, 0, 0, 0, 0), (37, 39, 0, 1, 0, 0, 0, 0)]
def pm_I115 : List (Nat × pm_Ins) := [(0, 4, 0, 1, 0, 0, 0, 0), (1, 26, 0, 3, 0, 17, 10, 89), (4, 0, 0, 1, 0, 0, 0, 0), (5, 0, 0, 1, 0, 0, 0, 0), (6, 36, 0, 1, 0, 0, 0, 0), (7, 0, 0, 1, 1, 0, 0, 0), (8, 5, 0, 1, 0, 3, 0, 0), (9, 2, 0, 1, 0, 3, 0, 0), (10, 0, 1, 2, 7, 0, 0, 0), (12, 22, 0, 3, 24, 36, 4, 0), (15, 4, 0, 1, 0, 0, 0, 0), (16, 26, 0, 3, 0, 17, 10, 89), (19, 2, 0, 1, 0, 3, 0, 0), (20, 4, 0, 1, 0, 0, 0, 0), (21, 26, 0, 3, 0, 9, 10, 61), (24, 4, 0, 1, 0, 1, 0, 0), (25, 2, 0, 1, 0, 3, 0, 0), (26, 43, 0, 3, 0, 33, 0, 248), (29, 36, 0, 1, 0, 0, 0, 0), (30, 8, 0, 3, 1, 3, 0, 0), (33, 20, 0, 3, (-24), 9, 0, 0), (36, 0, 0, 1, 0, 0, 0, 0), (37, 5, 0, 1, 0, 3, 0, 0), (38, 0, 0, 1, 0, 0, 0, 0), (39, 5, 1, 2, 0, 4, 0, 0), (41, 2, 1, 2, 0, 4, 0, 0), (43, 0, 1, 2, 6, 0, 0, 0), (45, 22, 0, 3, 82, 127, 3, 0), (48, 0, 0, 1, 0, 0, 0, 0), (49, 5, 1, 2, 0, 5, 0, 0), (51, 0, 0, 1, 0, 0, 0, 0), (52, 5, 1, 2, 0, 6, 0, 0), (54, 2, 1, 2, 0, 6, 0, 0), (56, 0, 0, 1, 3, 0, 0, 0), (57, 22, 0, 3, 42, 99, 3, 0), (60, 30, 0, 3, 0, 0, 0, 255), (63, 2, 1, 2, 0, 4, 0, 0), (65, 0, 0, 1, 3, 0, 0, 0), (66, 9, 0, 1, 0, 0, 2, 0), (67, 2, 1, 2, 0, 6, 0, 0), (69, 9, 0, 1, 0, 0, 0, 0), (70, 32, 0, 1, 0, 0, 0, 0), (71, 2, 0, 1, 0, 2, 0, 0), (72, 22, 0, 3, 27, 99, 0, 0), (75, 2, 1, 2, 0, 5, 0, 0), (77, 0, 0, 1, 1, 0, 0, 0), (78, 30, 0, 3, 0, 0, 0, 255), (81, 2, 1, 2, 0, 4, 0, 0), (83, 0, 0, 1, 3, 0, 0, 0), (84, 9, 0, 1, 0, 0, 2, 0), (85, 2, 1, 2, 0, 6, 0, 0), (87, 9, 0, 1, 0, 0, 0, 0), (88, 32, 0, 1, 0, 0, 0, 0), (89, 9, 0, 1, 0, 0, 6, 0), (90, 9, 0, 1, 0, 0, 4, 0), (91, 5, 1, 2, 0, 5, 0, 0), (93, 8, 0, 3, 1, 6, 0, 0), (96, 20, 0, 3, (-42), 54, 0, 0), (99, 2, 0, 1, 0, 3, 0, 0), (100, 4, 0, 1, 0, 0, 0, 0), (101, 26, 0, 3, 0, 17, 10, 89), (104, 2, 1, 2, 0, 5, 0, 0), (106, 0, 0, 1, 1, 0, 0, 0), (107, 2, 0, 1, 0, 2, 0, 0), (108, 9, 0, 1, 0, 0, 6, 0), (109, 9, 0, 1, 0, 0, 4, 0), (110, 32, 0, 1, 0, 0, 0, 0), (111, 4, 0, 1, 0, 0, 0, 0), (112, 26, 0, 3, 0, 17, 10, 89), (115, 2, 1, 2, 0, 5, 0, 0), (117, 32, 0, 1, 0, 0, 0, 0), (118, 9, 0, 1, 0, 0, 1, 0), (119, 9, 0, 1, 0, 0, 0, 0), (120, 5, 0, 1, 0, 3, 0, 0), (121, 8, 0, 3, 1, 4, 0, 0), (124, 20, 0, 3, (-83), 41, 0, 0), (127, 2, 0, 1, 0, 3, 0, 0), (128, 39, 0, 1, 0, 0, 0, 0)]
def pm_I116 : List (Nat × pm_Ins) := [(0, 2, 0, 1, 0, 1, 0, 0), (1, 44, 0, 3, 0, 96, 0, 147), (4, 21, 0, 3, 31, 35, 0, 0), (7, 4, 0, 1, 0, 0, 0, 0), (8, 26, 0, 3, 0, 8, 10, 54), (11, 4, 0, 1, 0, 0, 0, 0), (12, 26, 0, 3, 0, 3, 10, 23), (15, 4, 0, 1, 0, 0, 0, 0), (16, 26, 0, 3, 0, 5, 10, 33), (19, 26, 0, 3, 0, 0, 0, 194), (22, 4, 0, 1, 0, 0, 0, 0), (23, 26, 0, 3, 0, 5, 10, 33), (26, 24, 0, 3, 0, 1, 0, 177), (29, 43, 0, 3, 0, 60, 0, 205), (32, 21, 0, 3, 5, 37, 1, 0), (35, 0, 0, 1, (-1), 0, 0, 0), (36, 39, 0, 1, 0, 0, 0, 0), (37, 0, 3, 2, (-1000000), 0, 0, 153), (39, 5, 0, 1, 0, 2, 0, 0), (40, 0, 0, 1, (-1), 0, 0, 0), (41, 5, 0, 1, 0, 3, 0, 0), (42, 0, 0, 1, 0, 0, 0, 0), (43, 5, 1, 2, 0, 4, 0, 0), (45, 2, 1, 2, 0, 4, 0, 0), (47, 4, 0, 1, 0, 0, 0, 0), (48, 26, 0, 3, 0, 5, 10, 33), (51, 24, 0, 3, 0, 1, 0, 177), (54, 22, 0, 3, 72, 126, 3, 0), (57, 4, 0, 1, 0, 0, 0, 0), (58, 26, 0, 3, 0, 5, 10, 33), (61, 2, 1, 2, 0, 4, 0, 0), (63, 4, 0, 1, 0, 0, 0, 0), (64, 26, 0, 3, 0, 17, 10, 89), (67, 43, 0, 3, 0, 7, 0, 300), (70, 5, 1, 2, 0, 5, 0, 0), (72, 4, 0, 1, 0, 0, 0, 0), (73, 26, 0, 3, 0, 8, 10, 54), (76, 4, 0, 1, 0, 0, 0, 0), (77, 26, 0, 3, 0, 3, 10, 23), (80, 4, 0, 1, 0, 0, 0, 0), (81, 26, 0, 3, 0, 17, 10, 89), (84, 2, 1, 2, 0, 5, 0, 0), (86, 43, 0, 3, 0, 60, 0, 205), (89, 21, 0, 3, 31, 120, 5, 0), (92, 4, 0, 1, 0, 0, 0, 0), (93, 26, 0, 3, 0, 3, 10, 23), (96, 4, 0, 1, 0, 0, 0, 0), (97, 26, 0, 3, 0, 17, 10, 89), (100, 2, 1, 2, 0, 5, 0, 0), (102, 2, 0, 1, 0, 1, 0, 0), (103, 43, 0, 3, 0, 45, 0, 209), (106, 5, 1, 2, 0, 6, 0, 0), (108, 2, 1, 2, 0, 6, 0, 0), (110, 2, 0, 1, 0, 2, 0, 0), (111, 22, 0, 3, 9, 120, 5, 0), (114, 2, 1, 2, 0, 6, 0, 0), (116, 5, 0, 1, 0, 2, 0, 0), (117, 2, 1, 2, 0, 4, 0, 0), (119, 5, 0, 1, 0, 3, 0, 0), (120, 8, 0, 3, 1, 4, 0, 0), (123, 20, 0, 3, (-78), 45, 0, 0), (126, 2, 0, 1, 0, 3, 0, 0), (127, 39, 0, 1, 0, 0, 0, 0)]
def pm_I117 : List (Nat × pm_Ins) := [(0, 4, 0, 1, 0, 0, 0, 0), (1, 43, 0, 3, 0, 90, 0, 213), (4, 7, 0, 1, 0, 1, 0, 0), (5, 4, 0, 1, 0, 1, 0, 0), (6, 43, 0, 3, 0, 75, 0, 217), (9, 21, 0, 3, 5, 14, 1, 0), (12, 0, 0, 1, (-1), 0, 0, 0), (13, 39, 0, 1, 0, 0, 0, 0), (14, 4, 0, 1, 0, 0, 0, 0), (15, 43, 0, 3, 0, 106, 0, 220), (18, 4, 0, 1, 0, 0, 0, 0), (19, 26, 0, 3, 0, 9, 10, 61), (22, 4, 0, 1, 0, 1, 0, 0), (23, 4, 0, 1, 0, 0, 0, 0), (24, 26, 0, 3, 0, 5, 10, 33), (27, 24, 0, 3, 0, 1, 0, 177), (30, 43, 0, 3, 0, 31, 0, 258), (33, 39, 0, 1, 0, 0, 0, 0)]
def pm_I118 : List (Nat × pm_Ins) := [(0, 0, 1, 2, 24, 0, 0, 0), (2, 5, 0, 1, 0, 2, 0, 0), (3, 2, 0, 1, 0, 2, 0, 0), (4, 21, 0, 3, 42, 46, 2, 0), (7, 4, 0, 1, 0, 0, 0, 0), (8, 24, 0, 3, 0, 1, 10, 92), (11, 0, 2, 3, 1600, 0, 0, 0), (14, 22, 0, 3, 26, 40, 3, 0), (17, 4, 0, 1, 0, 0, 0, 0), (18, 26, 0, 3, 0, 0, 10, 9), (21, 4, 0, 1, 0, 0, 0, 0), (22, 24, 0, 3, 0, 1, 10, 92), (25, 2, 0, 1, 0, 1, 0, 0), (26, 2, 0, 1, 0, 2, 0, 0), (27, 9, 0, 1, 0, 0, 7, 0), (28, 16, 0, 1, 0, 0, 0, 0), (29, 37, 0, 1, 0, 0, 0, 0), (30, 4, 0, 1, 0, 0, 0, 0), (31, 17, 0, 1, 0, 0, 0, 0), (32, 24, 0, 3, 0, 1, 10, 92), (35, 0, 0, 1, 1, 0, 0, 0), (36, 9, 0, 1, 0, 0, 0, 0), (37, 27, 0, 3, 0, 1, 10, 92), (40, 8, 0, 3, (-8), 2, 0, 0), (43, 20, 0, 3, (-40), 3, 0, 0), (46, 42, 0, 1, 0, 0, 0, 0)]
def pm_I119 : List (Nat × pm_Ins) := [(0, 4, 0, 1, 0, 0, 0, 0), (1, 26, 0, 3, 0, 3, 10, 23), (4, 2, 0, 1, 0, 1, 0, 0), (5, 43, 0, 3, 0, 42, 0, 157), (8, 21, 0, 3, 11, 19, 0, 0), (11, 4, 0, 1, 0, 0, 0, 0), (12, 2, 0, 1, 0, 1, 0, 0), (13, 43, 0, 3, 0, 107, 0, 160), (16, 20, 0, 3, 4, 20, 0, 0), (19, 0, 0, 1, (-1), 0, 0, 0), (20, 39, 0, 1, 0, 0, 0, 0)]
def pm_I120 : List (Nat × pm_Ins) := [(0, 4, 0, 1, 0, 0, 0, 0), (1, 26, 0, 3, 0, 5, 10, 33), (4, 43, 0, 3, 0, 8, 0, 187), (7, 39, 1, 1, 0, 0, 0, 0)]
def pm_I121 : List (Nat × pm_Ins) := [(0, 4, 0, 1, 0, 0, 0, 0), (1, 26, 0, 3, 0, 14, 10, 81), (4, 2, 0, 1, 0, 1, 0, 0), (5, 43, 0, 3, 0, 58, 0, 308), (8, 39, 1, 1, 0, 0, 0, 0)]
def pm_I122 : List (Nat × pm_Ins) := [(0, 4, 0, 1, 0, 0, 0, 0), (1, 26, 0, 3, 0, 3, 10, 23), (4, 4, 0, 1, 0, 0, 0, 0), (5, 26, 0, 3, 0, 17, 10, 89), (8, 43, 0, 3, 0, 41, 0, 265), (11, 4, 0, 1, 0, 0, 0, 0), (12, 26, 0, 3, 0, 3, 10, 23), (15, 4, 0, 1, 0, 0, 0, 0), (16, 26, 0, 3, 0, 17, 10, 89), (19, 43, 0, 3, 0, 47, 0, 269), (22, 39, 0, 1, 0, 0, 0, 0)]
def pm_I123 : List (Nat × pm_Ins) := [(0, 4, 0, 1, 0, 0, 0, 0), (1, 26, 0, 3, 0, 5, 10, 33), (4, 24, 0, 3, 0, 1, 0, 177), (7, 5, 0, 1, 0, 1, 0, 0), (8, 4, 0, 1, 0, 0, 0, 0), (9, 26, 0, 3, 0, 5, 10, 33), (12, 43, 0, 3, 0, 2, 0, 110), (15, 2, 0, 1, 0, 1, 0, 0), (16, 39, 0, 1, 0, 0, 0, 0)]
def pm_I124 : List (Nat × pm_Ins) := [(0, 2, 0, 1, 0, 1, 0, 0), (1, 21, 0, 3, 26, 27, 2, 0), (4, 2, 0, 1, 0, 1, 0, 0), (5, 4, 0, 1, 0, 0, 0, 0), (6, 26, 0, 3, 0, 5, 10, 33), (9, 24, 0, 3, 0, 1, 0, 177), (12, 22, 0, 3, 15, 27, 3, 0), (15, 4, 0, 1, 0, 0, 0, 0), (16, 26, 0, 3, 0, 5, 10, 33), (19, 26, 0, 3, 0, 0, 0, 194), (22, 2, 0, 1, 0, 1, 0, 0), (23, 32, 0, 1, 0, 0, 0, 0), (24, 20, 0, 3, 4, 28, 0, 0), (27, 0, 0, 1, (-1), 0, 0, 0), (28, 39, 0, 1, 0, 0, 0, 0)]
def pm_I125 : List (Nat × pm_Ins) := [(0, 4, 0, 1, 0, 0, 0, 0), (1, 26, 0, 3, 0, 3, 10, 23), (4, 2, 0, 1, 0, 1, 0, 0), (5, 43, 0, 3, 0, 43, 0, 143), (8, 21, 0, 3, 26, 34, 0, 0), (11, 2, 0, 1, 0, 2, 0, 0), (12, 44, 0, 3, 0, 96, 0, 147), (15, 21, 0, 3, 19, 34, 0, 0), (18, 4, 0, 1, 0, 0, 0, 0), (19, 26, 0, 3, 0, 3, 10, 23), (22, 26, 0, 3, 0, 2, 4, 150), (25, 2, 0, 1, 0, 1, 0, 0), (26, 0, 0, 1, 3, 0, 0, 0), (27, 9, 0, 1, 0, 0, 2, 0), (28, 2, 0, 1, 0, 2, 0, 0), (29, 9, 0, 1, 0, 0, 0, 0), (30, 32, 0, 1, 0, 0, 0, 0), (31, 20, 0, 3, 5, 36, 0, 0), (34, 0, 3, 2, (-1000000), 0, 0, 153), (36, 39, 0, 1, 0, 0, 0, 0)]
def pm_I126 : List (Nat × pm_Ins) := [(0, 4, 0, 1, 0, 0, 0, 0), (1, 26, 0, 3, 0, 3, 10, 23), (4, 2, 0, 1, 0, 1, 0, 0), (5, 43, 0, 3, 0, 43, 0, 143), (8, 21, 0, 3, 14, 22, 0, 0), (11, 4, 0, 1, 0, 0, 0, 0), (12, 43, 0, 3, 0, 104, 0, 170), (15, 2, 0, 1, 0, 1, 0, 0), (16, 9, 0, 1, 0, 0, 7, 0), (17, 0, 0, 1, 1, 0, 0, 0), (18, 9, 0, 1, 0, 0, 3, 0), (19, 21, 0, 3, 5, 24, 1, 0), (22, 0, 0, 1, (-1), 0, 0, 0), (23, 39, 0, 1, 0, 0, 0, 0), (24, 4, 0, 1, 0, 0, 0, 0), (25, 26, 0, 3, 0, 5, 10, 33), (28, 2, 0, 1, 0, 1, 0, 0), (29, 43, 0, 3, 0, 6, 0, 174), (32, 4, 0, 1, 0, 0, 0, 0), (33, 26, 0, 3, 0, 5, 10, 33), (36, 24, 0, 3, 0, 1, 0, 177), (39, 39, 0, 1, 0, 0, 0, 0)]
def pm_I127 : List (Nat × pm_Ins) := [(0, 4, 0, 1, 0, 0, 0, 0), (1, 0, 0, 1, 0, 0, 0, 0), (2, 27, 0, 3, 0, 16, 10, 128), (5, 4, 0, 1, 0, 0, 0, 0), (6, 43, 0, 3, 0, 90, 0, 213), (9, 7, 0, 1, 0, 2, 0, 0), (10, 2, 0, 1, 0, 1, 0, 0), (11, 44, 0, 3, 0, 96, 0, 147), (14, 21, 0, 3, 10, 24, 0, 0), (17, 4, 0, 1, 0, 2, 0, 0), (18, 43, 0, 3, 0, 75, 0, 217), (21, 21, 0, 3, 6, 27, 1, 0), (24, 0, 3, 2, (-1000000), 0, 0, 153), (26, 39, 0, 1, 0, 0, 0, 0), (27, 4, 0, 1, 0, 0, 0, 0), (28, 43, 0, 3, 0, 106, 0, 220), (31, 4, 0, 1, 0, 0, 0, 0), (32, 26, 0, 3, 0, 9, 10, 61), (35, 4, 0, 1, 0, 2, 0, 0), (36, 43, 0, 3, 0, 29, 0, 223), (39, 5, 0, 1, 0, 3, 0, 0), (40, 4, 0, 1, 0, 0, 0, 0), (41, 4, 0, 1, 0, 2, 0, 0), (42, 2, 0, 1, 0, 3, 0, 0), (43, 43, 0, 3, 0, 99, 0, 227), (46, 4, 0, 1, 0, 2, 0, 0), (47, 26, 0, 3, 0, 4, 9, 231), (50, 2, 0, 1, 0, 3, 0, 0), (51, 0, 0, 1, 3, 0, 0, 0), (52, 9, 0, 1, 0, 0, 2, 0), (53, 2, 0, 1, 0, 1, 0, 0), (54, 9, 0, 1, 0, 0, 0, 0), (55, 32, 0, 1, 0, 0, 0, 0), (56, 39, 0, 1, 0, 0, 0, 0)]
def pm_I128 : List (Nat × pm_Ins) := [(0, 2, 0, 1, 0, 1, 0, 0), (1, 23, 0, 63, 0, 2, 0, 0), (64, 4, 0, 1, 0, 0, 0, 0), (65, 26, 0, 3, 0, 11, 11, 20), (68, 4, 0, 1, 0, 0, 0, 0), (69, 24, 0, 3, 0, 29, 11, 233), (72, 32, 0, 1, 0, 0, 0, 0), (73, 39, 0, 1, 0, 0, 0, 0), (74, 4, 0, 1, 0, 0, 0, 0), (75, 26, 0, 3, 0, 12, 11, 24), (78, 4, 0, 1, 0, 0, 0, 0), (79, 24, 0, 3, 0, 29, 11, 233), (82, 32, 0, 1, 0, 0, 0, 0), (83, 39, 0, 1, 0, 0, 0, 0), (84, 4, 0, 1, 0, 0, 0, 0), (85, 26, 0, 3, 0, 13, 11, 27), (88, 4, 0, 1, 0, 0, 0, 0), (89, 24, 0, 3, 0, 29, 11, 233), (92, 32, 0, 1, 0, 0, 0, 0), (93, 39, 0, 1, 0, 0, 0, 0), (94, 4, 0, 1, 0, 0, 0, 0), (95, 26, 0, 3, 0, 14, 11, 30), (98, 4, 0, 1, 0, 0, 0, 0), (99, 24, 0, 3, 0, 29, 11, 233), (102, 32, 0, 1, 0, 0, 0, 0), (103, 39, 0, 1, 0, 0, 0, 0), (104, 4, 0, 1, 0, 0, 0, 0), (105, 43, 0, 3, 0, 183, 0, 302), (108, 39, 0, 1, 0, 0, 0, 0), (109, 4, 0, 1, 0, 0, 0, 0), (110, 24, 0, 3, 0, 39, 11, 336), (113, 39, 0, 1, 0, 0, 0, 0), (114, 4, 0, 1, 0, 0, 0, 0), (115, 24, 0, 3, 0, 42, 11, 339), (118, 39, 0, 1, 0, 0, 0, 0), (119, 4, 0, 1, 0, 0, 0, 0), (120, 24, 0, 3, 0, 43, 11, 342), (123, 39, 0, 1, 0, 0, 0, 0), (124, 4, 0, 1, 0, 0, 0, 0), (125, 24, 0, 3, 0, 66, 11, 245), (128, 39, 0, 1, 0, 0, 0, 0), (129, 4, 0, 1, 0, 0, 0, 0), (130, 24, 0, 3, 0, 67, 11, 473), (133, 39, 0, 1, 0, 0, 0, 0), (134, 4, 0, 1, 0, 0, 0, 0), (135, 24, 0, 3, 0, 2, 11, 230), (138, 39, 0, 1, 0, 0, 0, 0), (139, 4, 0, 1, 0, 0, 0, 0), (140, 24, 0, 3, 0, 59, 11, 248), (143, 39, 0, 1, 0, 0, 0, 0), (144, 0, 0, 1, (-1), 0, 0, 0), (145, 39, 0, 1, 0, 0, 0, 0)]
def pm_I129 : List (Nat × pm_Ins) := [(0, 4, 0, 1, 0, 0, 0, 0), (1, 26, 0, 3, 0, 44, 11, 107), (4, 2, 0, 1, 0, 1, 0, 0), (5, 32, 0, 1, 0, 0, 0, 0), (6, 0, 0, 1, 3, 0, 0, 0), (7, 4, 0, 1, 0, 0, 0, 0), (8, 43, 0, 3, 0, 183, 0, 302), (11, 2, 0, 1, 0, 3, 0, 0), (12, 9, 0, 1, 0, 0, 1, 0), (13, 9, 0, 1, 0, 0, 2, 0), (14, 9, 0, 1, 0, 0, 7, 0), (15, 4, 0, 1, 0, 0, 0, 0), (16, 26, 0, 3, 0, 44, 11, 107), (19, 2, 0, 1, 0, 2, 0, 0), (20, 32, 0, 1, 0, 0, 0, 0), (21, 0, 0, 1, 3, 0, 0, 0), (22, 4, 0, 1, 0, 0, 0, 0), (23, 43, 0, 3, 0, 183, 0, 302), (26, 2, 0, 1, 0, 3, 0, 0), (27, 9, 0, 1, 0, 0, 1, 0), (28, 9, 0, 1, 0, 0, 2, 0), (29, 9, 0, 1, 0, 0, 7, 0), (30, 22, 0, 3, 7, 37, 1, 0), (33, 0, 0, 1, 1, 0, 0, 0), (34, 20, 0, 3, 4, 38, 0, 0), (37, 0, 0, 1, 0, 0, 0, 0), (38, 39, 1, 1, 0, 0, 0, 0)]
def pm_I130 : List (Nat × pm_Ins) := [(0, 3, 0, 1, 0, 0, 0, 0), (1, 1, 1, 3, 1000000000, 0, 0, 334), (4, 13, 0, 1, 0, 0, 0, 0), (5, 21, 0, 3, 9, 14, 5, 0), (8, 1, 1, 3, 1000000000, 0, 0, 334), (11, 20, 0, 3, 4, 15, 0, 0), (14, 3, 0, 1, 0, 0, 0, 0), (15, 40, 0, 1, 0, 0, 0, 0)]
def pm_I131 : List (Nat × pm_Ins) := [(0, 2, 0, 1, 0, 1, 0, 0), (1, 0, 0, 1, 0, 0, 0, 0), (2, 0, 0, 1, 2, 0, 0, 0), (3, 44, 0, 3, 0, 162, 0, 298), (6, 21, 0, 3, 12, 18, 0, 0), (9, 4, 0, 1, 0, 0, 0, 0), (10, 26, 0, 3, 0, 68, 11, 149), (13, 2, 0, 1, 0, 1, 0, 0), (14, 32, 0, 1, 0, 0, 0, 0), (15, 21, 0, 3, 5, 20, 3, 0), (18, 0, 0, 1, (-1), 0, 0, 0), (19, 39, 0, 1, 0, 0, 0, 0), (20, 4, 0, 1, 0, 0, 0, 0), (21, 43, 0, 3, 0, 132, 0, 161), (24, 0, 0, 1, 0, 0, 0, 0), (25, 5, 0, 1, 0, 2, 0, 0), (26, 2, 0, 1, 0, 2, 0, 0), (27, 0, 1, 2, 6, 0, 0, 0), (29, 22, 0, 3, 43, 72, 3, 0), (32, 4, 0, 1, 0, 0, 0, 0), (33, 26, 0, 3, 0, 36, 11, 92), (36, 2, 0, 1, 0, 2, 0, 0), (37, 4, 0, 1, 0, 0, 0, 0), (38, 26, 0, 3, 0, 69, 11, 152), (41, 0, 1, 2, 6, 0, 0, 0), (43, 2, 0, 1, 0, 1, 0, 0), (44, 9, 0, 1, 0, 0, 2, 0), (45, 2, 0, 1, 0, 2, 0, 0), (46, 9, 0, 1, 0, 0, 0, 0), (47, 32, 0, 1, 0, 0, 0, 0), (48, 36, 0, 1, 0, 0, 0, 0), (49, 4, 0, 1, 0, 0, 0, 0), (50, 26, 0, 3, 0, 37, 11, 95), (53, 2, 0, 1, 0, 2, 0, 0), (54, 4, 0, 1, 0, 0, 0, 0), (55, 26, 0, 3, 0, 70, 11, 155), (58, 0, 1, 2, 6, 0, 0, 0), (60, 2, 0, 1, 0, 1, 0, 0), (61, 9, 0, 1, 0, 0, 2, 0), (62, 2, 0, 1, 0, 2, 0, 0), (63, 9, 0, 1, 0, 0, 0, 0), (64, 32, 0, 1, 0, 0, 0, 0), (65, 36, 0, 1, 0, 0, 0, 0), (66, 8, 0, 3, 1, 2, 0, 0), (69, 20, 0, 3, (-43), 26, 0, 0), (72, 4, 0, 1, 0, 0, 0, 0), (73, 4, 0, 1, 0, 0, 0, 0), (74, 26, 0, 3, 0, 68, 11, 149), (77, 2, 0, 1, 0, 1, 0, 0), (78, 32, 0, 1, 0, 0, 0, 0), (79, 27, 0, 3, 0, 39, 11, 336), (82, 4, 0, 1, 0, 0, 0, 0), (83, 24, 0, 3, 0, 39, 11, 336), (86, 39, 0, 1, 0, 0, 0, 0)]
def pm_I132 : List (Nat × pm_Ins) := [(0, 4, 0, 1, 0, 0, 0, 0), (1, 0, 0, 1, 0, 0, 0, 0), (2, 27, 0, 3, 0, 39, 11, 336), (5, 4, 0, 1, 0, 0, 0, 0), (6, 0, 0, 1, 0, 0, 0, 0), (7, 27, 0, 3, 0, 42, 11, 339), (10, 4, 0, 1, 0, 0, 0, 0), (11, 0, 0, 1, 0, 0, 0, 0), (12, 27, 0, 3, 0, 43, 11, 342), (15, 0, 0, 1, 0, 0, 0, 0), (16, 5, 0, 1, 0, 1, 0, 0), (17, 2, 0, 1, 0, 1, 0, 0), (18, 0, 1, 2, 6, 0, 0, 0), (20, 22, 0, 3, 20, 40, 3, 0), (23, 4, 0, 1, 0, 0, 0, 0), (24, 26, 0, 3, 0, 37, 11, 95), (27, 2, 0, 1, 0, 1, 0, 0), (28, 4, 0, 1, 0, 0, 0, 0), (29, 2, 0, 1, 0, 1, 0, 0), (30, 43, 0, 3, 0, 217, 0, 345), (33, 36, 0, 1, 0, 0, 0, 0), (34, 8, 0, 3, 1, 1, 0, 0), (37, 20, 0, 3, (-20), 17, 0, 0), (40, 42, 0, 1, 0, 0, 0, 0)]
def pm_I133 : List (Nat × pm_Ins) := [(0, 4, 0, 1, 0, 0, 0, 0), (1, 2, 0, 1, 0, 1, 0, 0), (2, 43, 0, 3, 0, 171, 0, 305), (5, 21, 0, 3, 28, 33, 0, 0), (8, 4, 0, 1, 0, 0, 0, 0), (9, 2, 0, 1, 0, 2, 0, 0), (10, 43, 0, 3, 0, 171, 0, 305), (13, 21, 0, 3, 20, 33, 0, 0), (16, 2, 0, 1, 0, 3, 0, 0), (17, 44, 0, 3, 0, 161, 0, 308), (20, 21, 0, 3, 13, 33, 0, 0), (23, 4, 0, 1, 0, 0, 0, 0), (24, 2, 0, 1, 0, 1, 0, 0), (25, 2, 0, 1, 0, 2, 0, 0), (26, 2, 0, 1, 0, 3, 0, 0), (27, 43, 0, 3, 0, 194, 0, 312), (30, 20, 0, 3, 6, 36, 0, 0), (33, 0, 4, 3, (-1000000), 0, 0, 311), (36, 39, 0, 1, 0, 0, 0, 0)]
def pm_I134 : List (Nat × pm_Ins) := [(0, 4, 0, 1, 0, 0, 0, 0), (1, 0, 0, 1, 0, 0, 0, 0), (2, 27, 0, 3, 0, 59, 11, 248), (5, 2, 0, 1, 0, 1, 0, 0), (6, 44, 0, 3, 0, 161, 0, 308), (9, 21, 0, 3, 19, 28, 0, 0), (12, 4, 0, 1, 0, 0, 0, 0), (13, 0, 0, 1, 0, 0, 0, 0), (14, 0, 0, 1, 1, 0, 0, 0), (15, 43, 0, 3, 0, 180, 0, 405), (18, 21, 0, 3, 10, 28, 0, 0), (21, 4, 0, 1, 0, 0, 0, 0), (22, 24, 0, 3, 0, 48, 11, 390), (25, 21, 0, 3, 7, 32, 1, 0), (28, 0, 4, 3, (-1000000), 0, 0, 311), (31, 39, 0, 1, 0, 0, 0, 0), (32, 0, 0, 1, 0, 0, 0, 0), (33, 5, 0, 1, 0, 2, 0, 0), (34, 0, 0, 1, 1, 0, 0, 0), (35, 5, 0, 1, 0, 3, 0, 0), (36, 2, 0, 1, 0, 3, 0, 0), (37, 4, 0, 1, 0, 0, 0, 0), (38, 24, 0, 3, 0, 48, 11, 390), (41, 22, 0, 3, 34, 75, 3, 0), (44, 4, 0, 1, 0, 0, 0, 0), (45, 26, 0, 3, 0, 45, 11, 110), (48, 0, 0, 1, 3, 0, 0, 0), (49, 2, 0, 1, 0, 3, 0, 0), (50, 9, 0, 1, 0, 0, 2, 0), (51, 2, 0, 1, 0, 1, 0, 0), (52, 9, 0, 1, 0, 0, 0, 0), (53, 32, 0, 1, 0, 0, 0, 0), (54, 4, 0, 1, 0, 0, 0, 0), (55, 26, 0, 3, 0, 45, 11, 110), (58, 0, 0, 1, 3, 0, 0, 0), (59, 2, 0, 1, 0, 2, 0, 0), (60, 9, 0, 1, 0, 0, 2, 0), (61, 2, 0, 1, 0, 1, 0, 0), (62, 9, 0, 1, 0, 0, 0, 0), (63, 32, 0, 1, 0, 0, 0, 0), (64, 22, 0, 3, 5, 69, 5, 0), (67, 2, 0, 1, 0, 3, 0, 0), (68, 5, 0, 1, 0, 2, 0, 0), (69, 8, 0, 3, 1, 3, 0, 0), (72, 20, 0, 3, (-36), 36, 0, 0), (75, 4, 0, 1, 0, 0, 0, 0), (76, 2, 0, 1, 0, 2, 0, 0), (77, 43, 0, 3, 0, 176, 0, 443), (80, 4, 0, 1, 0, 0, 0, 0), (81, 26, 0, 3, 0, 45, 11, 110), (84, 0, 0, 1, 3, 0, 0, 0), (85, 2, 0, 1, 0, 2, 0, 0), (86, 9, 0, 1, 0, 0, 2, 0), (87, 2, 0, 1, 0, 1, 0, 0), (88, 9, 0, 1, 0, 0, 0, 0), (89, 32, 0, 1, 0, 0, 0, 0), (90, 39, 0, 1, 0, 0, 0, 0)]
def pm_I135 : List (Nat × pm_Ins) := [(0, 2, 0, 1, 0, 1, 0, 0), (1, 4, 0, 1, 0, 0, 0, 0), (2, 24, 0, 3, 0, 39, 11, 336), (5, 4, 0, 1, 0, 0, 0, 0), (6, 43, 0, 3, 0, 183, 0, 302), (9, 0, 0, 1, 1, 0, 0, 0), (10, 9, 0, 1, 0, 0, 1, 0), (11, 44, 0, 3, 0, 162, 0, 298), (14, 21, 0, 3, 11, 25, 0, 0), (17, 4, 0, 1, 0, 0, 0, 0), (18, 2, 0, 1, 0, 2, 0, 0), (19, 43, 0, 3, 0, 171, 0, 305), (22, 21, 0, 3, 6, 28, 1, 0), (25, 0, 1, 2, (-2), 0, 0, 0), (27, 39, 0, 1, 0, 0, 0, 0), (28, 4, 0, 1, 0, 0, 0, 0), (29, 43, 0, 3, 0, 179, 0, 434), (32, 21, 0, 3, 10, 42, 0, 0), (35, 4, 0, 1, 0, 0, 0, 0), (36, 24, 0, 3, 0, 48, 11, 390), (39, 21, 0, 3, 5, 44, 1, 0), (42, 0, 0, 1, (-1), 0, 0, 0), (43, 39, 0, 1, 0, 0, 0, 0), (44, 4, 0, 1, 0, 0, 0, 0), (45, 43, 0, 3, 0, 222, 0, 437), (48, 4, 0, 1, 0, 0, 0, 0), (49, 4, 0, 1, 0, 0, 0, 0), (50, 26, 0, 3, 0, 37, 11, 95), (53, 2, 0, 1, 0, 1, 0, 0), (54, 32, 0, 1, 0, 0, 0, 0), (55, 27, 0, 3, 0, 54, 11, 125), (58, 4, 0, 1, 0, 0, 0, 0), (59, 2, 0, 1, 0, 1, 0, 0), (60, 27, 0, 3, 0, 55, 11, 409), (63, 4, 0, 1, 0, 0, 0, 0), (64, 2, 0, 1, 0, 2, 0, 0), (65, 27, 0, 3, 0, 56, 11, 412), (68, 4, 0, 1, 0, 0, 0, 0), (69, 0, 0, 1, 0, 0, 0, 0), (70, 27, 0, 3, 0, 57, 11, 415), (73, 4, 0, 1, 0, 0, 0, 0), (74, 24, 0, 3, 0, 57, 11, 415), (77, 0, 1, 2, 99, 0, 0, 0), (79, 22, 0, 3, 35, 114, 4, 0), (82, 4, 0, 1, 0, 0, 0, 0), (83, 4, 0, 1, 0, 0, 0, 0), (84, 26, 0, 3, 0, 44, 11, 107), (87, 4, 0, 1, 0, 0, 0, 0), (88, 0, 0, 1, 0, 0, 0, 0), (89, 43, 0, 3, 0, 195, 0, 440), (92, 32, 0, 1, 0, 0, 0, 0), (93, 2, 0, 1, 0, 1, 0, 0), (94, 43, 0, 3, 0, 230, 0, 380), (97, 2, 0, 1, 0, 2, 0, 0), (98, 22, 0, 3, 16, 114, 0, 0), (101, 4, 0, 1, 0, 0, 0, 0), (102, 17, 0, 1, 0, 0, 0, 0), (103, 24, 0, 3, 0, 57, 11, 415), (106, 0, 0, 1, 1, 0, 0, 0), (107, 9, 0, 1, 0, 0, 0, 0), (108, 27, 0, 3, 0, 57, 11, 415), (111, 20, 0, 3, (-38), 73, 0, 0), (114, 4, 0, 1, 0, 0, 0, 0), (115, 0, 0, 1, (-1), 0, 0, 0), (116, 27, 0, 3, 0, 54, 11, 125), (119, 4, 0, 1, 0, 0, 0, 0), (120, 24, 0, 3, 0, 57, 11, 415), (123, 0, 1, 2, 99, 0, 0, 0), (125, 22, 0, 3, 7, 132, 5, 0), (128, 0, 0, 1, (-1), 0, 0, 0), (129, 20, 0, 3, 7, 136, 0, 0), (132, 4, 0, 1, 0, 0, 0, 0), (133, 24, 0, 3, 0, 57, 11, 415), (136, 39, 0, 1, 0, 0, 0, 0)]
def pm_I136 : List (Nat × pm_Ins) := [(0, 4, 0, 1, 0, 0, 0, 0), (1, 24, 0, 3, 0, 39, 11, 336), (4, 4, 0, 1, 0, 0, 0, 0), (5, 43, 0, 3, 0, 183, 0, 302), (8, 22, 0, 3, 5, 13, 1, 0), (11, 0, 0, 1, 0, 0, 0, 0), (12, 39, 1, 1, 0, 0, 0, 0), (13, 4, 0, 1, 0, 0, 0, 0), (14, 43, 0, 3, 0, 218, 0, 351), (17, 4, 0, 1, 0, 0, 0, 0), (18, 26, 0, 3, 0, 31, 11, 77), (21, 4, 0, 1, 0, 0, 0, 0), (22, 24, 0, 3, 0, 39, 11, 336), (25, 2, 0, 1, 0, 1, 0, 0), (26, 36, 0, 1, 0, 0, 0, 0), (27, 4, 0, 1, 0, 0, 0, 0), (28, 4, 0, 1, 0, 0, 0, 0), (29, 24, 0, 3, 0, 39, 11, 336), (32, 0, 0, 1, 1, 0, 0, 0), (33, 9, 0, 1, 0, 0, 0, 0), (34, 43, 0, 3, 0, 137, 0, 354), (37, 39, 1, 1, 0, 0, 0, 0)]
def pm_I137 : List (Nat × pm_Ins) := [(0, 2, 0, 1, 0, 1, 0, 0), (1, 5, 0, 1, 0, 2, 0, 0), (2, 2, 0, 1, 0, 2, 0, 0), (3, 4, 0, 1, 0, 0, 0, 0), (4, 43, 0, 3, 0, 183, 0, 302), (7, 22, 0, 3, 16, 23, 3, 0), (10, 4, 0, 1, 0, 0, 0, 0), (11, 26, 0, 3, 0, 31, 11, 77), (14, 2, 0, 1, 0, 2, 0, 0), (15, 0, 0, 1, (-1), 0, 0, 0), (16, 36, 0, 1, 0, 0, 0, 0), (17, 8, 0, 3, 1, 2, 0, 0), (20, 20, 0, 3, (-18), 2, 0, 0), (23, 2, 0, 1, 0, 1, 0, 0), (24, 4, 0, 1, 0, 0, 0, 0), (25, 43, 0, 3, 0, 183, 0, 302), (28, 22, 0, 3, 18, 46, 4, 0), (31, 4, 0, 1, 0, 0, 0, 0), (32, 4, 0, 1, 0, 0, 0, 0), (33, 43, 0, 3, 0, 183, 0, 302), (36, 43, 0, 3, 0, 167, 0, 348), (39, 21, 0, 3, 7, 46, 0, 0), (42, 0, 0, 1, 1, 0, 0, 0), (43, 20, 0, 3, 4, 47, 0, 0), (46, 0, 0, 1, 0, 0, 0, 0), (47, 39, 1, 1, 0, 0, 0, 0)]
def pm_I138 : List (Nat × pm_Ins) := [(0, 4, 0, 1, 0, 0, 0, 0), (1, 26, 0, 3, 0, 11, 11, 20), (4, 4, 0, 1, 0, 0, 0, 0), (5, 24, 0, 3, 0, 30, 11, 227), (8, 0, 0, 1, 0, 0, 0, 0), (9, 36, 0, 1, 0, 0, 0, 0), (10, 4, 0, 1, 0, 0, 0, 0), (11, 26, 0, 3, 0, 12, 11, 24), (14, 4, 0, 1, 0, 0, 0, 0), (15, 24, 0, 3, 0, 30, 11, 227), (18, 0, 0, 1, 0, 0, 0, 0), (19, 36, 0, 1, 0, 0, 0, 0), (20, 4, 0, 1, 0, 0, 0, 0), (21, 26, 0, 3, 0, 13, 11, 27), (24, 4, 0, 1, 0, 0, 0, 0), (25, 24, 0, 3, 0, 30, 11, 227), (28, 0, 0, 1, 0, 0, 0, 0), (29, 36, 0, 1, 0, 0, 0, 0), (30, 4, 0, 1, 0, 0, 0, 0), (31, 26, 0, 3, 0, 14, 11, 30), (34, 4, 0, 1, 0, 0, 0, 0), (35, 24, 0, 3, 0, 30, 11, 227), (38, 0, 0, 1, 0, 0, 0, 0), (39, 36, 0, 1, 0, 0, 0, 0), (40, 4, 0, 1, 0, 0, 0, 0), (41, 26, 0, 3, 0, 15, 11, 33), (44, 4, 0, 1, 0, 0, 0, 0), (45, 24, 0, 3, 0, 30, 11, 227), (48, 0, 0, 1, 3, 0, 0, 0), (49, 36, 0, 1, 0, 0, 0, 0), (50, 4, 0, 1, 0, 0, 0, 0), (51, 26, 0, 3, 0, 16, 11, 36), (54, 4, 0, 1, 0, 0, 0, 0), (55, 24, 0, 3, 0, 30, 11, 227), (58, 0, 0, 1, 0, 0, 0, 0), (59, 36, 0, 1, 0, 0, 0, 0), (60, 4, 0, 1, 0, 0, 0, 0), (61, 26, 0, 3, 0, 25, 11, 64), (64, 4, 0, 1, 0, 0, 0, 0), (65, 24, 0, 3, 0, 30, 11, 227), (68, 0, 0, 1, 0, 0, 0, 0), (69, 37, 0, 1, 0, 0, 0, 0), (70, 0, 1, 2, 64, 0, 0, 0), (72, 4, 0, 1, 0, 0, 0, 0), (73, 24, 0, 3, 0, 30, 11, 227), (76, 9, 0, 1, 0, 0, 2, 0), (77, 5, 0, 1, 0, 1, 0, 0), (78, 2, 0, 1, 0, 1, 0, 0), (79, 0, 1, 2, 64, 0, 0, 0), (81, 4, 0, 1, 0, 0, 0, 0), (82, 24, 0, 3, 0, 30, 11, 227), (85, 9, 0, 1, 0, 0, 2, 0), (86, 0, 1, 2, 64, 0, 0, 0), (88, 9, 0, 1, 0, 0, 0, 0), (89, 22, 0, 3, 16, 105, 3, 0), (92, 4, 0, 1, 0, 0, 0, 0), (93, 26, 0, 3, 0, 24, 11, 60), (96, 2, 0, 1, 0, 1, 0, 0), (97, 0, 0, 1, 0, 0, 0, 0), (98, 37, 0, 1, 0, 0, 0, 0), (99, 8, 0, 3, 1, 1, 0, 0), (102, 20, 0, 3, (-24), 78, 0, 0), (105, 42, 0, 1, 0, 0, 0, 0)]
def pm_I139 : List (Nat × pm_Ins) := [(0, 2, 0, 1, 0, 0, 0, 0), (1, 21, 0, 3, 8, 9, 3, 0), (4, 2, 0, 1, 0, 0, 0, 0), (5, 10, 0, 1, 0, 0, 0, 0), (6, 20, 0, 3, 4, 10, 0, 0), (9, 2, 0, 1, 0, 0, 0, 0), (10, 5, 0, 1, 0, 2, 0, 0), (11, 2, 0, 1, 0, 1, 0, 0), (12, 5, 0, 1, 0, 3, 0, 0), (13, 2, 0, 1, 0, 3, 0, 0), (14, 21, 0, 3, 16, 30, 0, 0), (17, 2, 0, 1, 0, 2, 0, 0), (18, 2, 0, 1, 0, 3, 0, 0), (19, 9, 0, 1, 0, 0, 8, 0), (20, 5, 1, 2, 0, 4, 0, 0), (22, 2, 0, 1, 0, 3, 0, 0), (23, 5, 0, 1, 0, 2, 0, 0), (24, 2, 1, 2, 0, 4, 0, 0), (26, 5, 0, 1, 0, 3, 0, 0), (27, 20, 0, 3, (-14), 13, 0, 0), (30, 2, 0, 1, 0, 2, 0, 0), (31, 39, 0, 1, 0, 0, 0, 0)]
def pm_I140 : List (Nat × pm_Ins) := [(0, 0, 0, 1, 1, 0, 0, 0), (1, 2, 0, 1, 0, 2, 0, 0), (2, 9, 0, 1, 0, 0, 6, 0), (3, 5, 1, 2, 0, 4, 0, 0), (5, 0, 0, 1, 4, 0, 0, 0), (6, 2, 0, 1, 0, 1, 0, 0), (7, 9, 0, 1, 0, 0, 2, 0), (8, 5, 1, 2, 0, 5, 0, 0), (10, 2, 1, 2, 0, 5, 0, 0), (12, 0, 0, 1, 4, 0, 0, 0), (13, 2, 0, 1, 0, 1, 0, 0), (14, 9, 0, 1, 0, 0, 2, 0), (15, 4, 0, 1, 0, 0, 0, 0), (16, 26, 0, 3, 0, 21, 11, 51), (19, 2, 0, 1, 0, 1, 0, 0), (20, 32, 0, 1, 0, 0, 0, 0), (21, 9, 0, 1, 0, 0, 0, 0), (22, 22, 0, 3, 60, 82, 3, 0), (25, 0, 0, 1, 0, 0, 0, 0), (26, 5, 1, 2, 0, 6, 0, 0), (28, 2, 0, 1, 0, 2, 0, 0), (29, 5, 1, 2, 0, 7, 0, 0), (31, 2, 1, 2, 0, 7, 0, 0), (33, 2, 0, 1, 0, 3, 0, 0), (34, 22, 0, 3, 38, 72, 3, 0), (37, 2, 1, 2, 0, 4, 0, 0), (39, 2, 1, 2, 0, 7, 0, 0), (41, 9, 0, 1, 0, 0, 7, 0), (42, 0, 0, 1, 1, 0, 0, 0), (43, 9, 0, 1, 0, 0, 3, 0), (44, 0, 0, 1, 1, 0, 0, 0), (45, 22, 0, 3, 21, 66, 1, 0), (48, 2, 1, 2, 0, 6, 0, 0), (50, 4, 0, 1, 0, 0, 0, 0), (51, 4, 0, 1, 0, 0, 0, 0), (52, 26, 0, 3, 0, 22, 11, 54), (55, 2, 1, 2, 0, 5, 0, 0), (57, 32, 0, 1, 0, 0, 0, 0), (58, 2, 1, 2, 0, 7, 0, 0), (60, 43, 0, 3, 0, 143, 0, 316), (63, 9, 0, 1, 0, 0, 4, 0), (64, 5, 1, 2, 0, 6, 0, 0), (66, 8, 0, 3, 1, 7, 0, 0), (69, 20, 0, 3, (-38), 31, 0, 0), (72, 2, 1, 2, 0, 6, 0, 0), (74, 5, 1, 2, 0, 4, 0, 0), (76, 8, 0, 3, 1, 5, 0, 0), (79, 20, 0, 3, (-69), 10, 0, 0), (82, 2, 1, 2, 0, 4, 0, 0), (84, 2, 0, 1, 0, 3, 0, 0), (85, 9, 0, 1, 0, 0, 7, 0), (86, 0, 0, 1, 1, 0, 0, 0), (87, 9, 0, 1, 0, 0, 3, 0), (88, 0, 0, 1, 1, 0, 0, 0), (89, 22, 0, 3, 7, 96, 1, 0), (92, 0, 0, 1, 1, 0, 0, 0), (93, 20, 0, 3, 4, 97, 0, 0), (96, 0, 0, 1, 0, 0, 0, 0), (97, 39, 1, 1, 0, 0, 0, 0)]
def pm_I141 : List (Nat × pm_Ins) := [(0, 4, 0, 1, 0, 0, 0, 0), (1, 0, 0, 1, 0, 0, 0, 0), (2, 27, 0, 3, 0, 59, 11, 248), (5, 4, 0, 1, 0, 0, 0, 0), (6, 43, 0, 3, 0, 178, 0, 452), (9, 21, 0, 3, 6, 15, 1, 0), (12, 0, 1, 2, (-2), 0, 0, 0), (14, 39, 0, 1, 0, 0, 0, 0), (15, 0, 0, 1, 0, 0, 0, 0), (16, 5, 0, 1, 0, 1, 0, 0), (17, 2, 0, 1, 0, 1, 0, 0), (18, 4, 0, 1, 0, 0, 0, 0), (19, 24, 0, 3, 0, 48, 11, 390), (22, 22, 0, 3, 47, 69, 3, 0), (25, 4, 0, 1, 0, 0, 0, 0), (26, 4, 0, 1, 0, 0, 0, 0), (27, 26, 0, 3, 0, 44, 11, 107), (30, 2, 0, 1, 0, 1, 0, 0), (31, 32, 0, 1, 0, 0, 0, 0), (32, 43, 0, 3, 0, 224, 0, 465), (35, 4, 0, 1, 0, 0, 0, 0), (36, 4, 0, 1, 0, 0, 0, 0), (37, 43, 0, 3, 0, 183, 0, 302), (40, 43, 0, 3, 0, 204, 0, 363), (43, 6, 0, 1, 0, 2, 0, 0), (44, 3, 0, 1, 0, 2, 0, 0), (45, 1, 1, 3, 2, 0, 0, 468), (48, 13, 0, 1, 0, 0, 0, 0), (49, 21, 0, 3, 6, 55, 3, 0), (52, 20, 0, 3, 11, 63, 0, 0), (55, 4, 0, 1, 0, 0, 0, 0), (56, 2, 0, 1, 0, 1, 0, 0), (57, 43, 0, 3, 0, 176, 0, 443), (60, 3, 0, 1, 0, 2, 0, 0), (61, 15, 0, 1, 0, 0, 0, 0), (62, 39, 0, 1, 0, 0, 0, 0), (63, 8, 0, 3, 1, 1, 0, 0), (66, 20, 0, 3, (-49), 17, 0, 0), (69, 0, 0, 1, 0, 0, 0, 0), (70, 39, 0, 1, 0, 0, 0, 0)]
def pm_I142 : List (Nat × pm_Ins) := [(0, 2, 0, 1, 0, 1, 0, 0), (1, 21, 0, 3, 11, 12, 2, 0), (4, 2, 0, 1, 0, 1, 0, 0), (5, 4, 0, 1, 0, 0, 0, 0), (6, 24, 0, 3, 0, 2, 11, 230), (9, 22, 0, 3, 5, 14, 5, 0), (12, 0, 0, 1, (-1), 0, 0, 0), (13, 39, 0, 1, 0, 0, 0, 0), (14, 4, 0, 1, 0, 0, 0, 0), (15, 2, 0, 1, 0, 1, 0, 0), (16, 27, 0, 3, 0, 2, 11, 230), (19, 2, 0, 1, 0, 1, 0, 0), (20, 39, 0, 1, 0, 0, 0, 0)]
def pm_I143 : List (Nat × pm_Ins) := [(0, 2, 0, 1, 0, 1, 0, 0), (1, 0, 1, 2, 8, 0, 0, 0), (3, 22, 0, 3, 18, 21, 2, 0), (6, 4, 0, 1, 0, 0, 0, 0), (7, 26, 0, 3, 0, 32, 11, 80), (10, 0, 1, 2, 7, 0, 0, 0), (12, 2, 0, 1, 0, 1, 0, 0), (13, 0, 1, 2, 8, 0, 0, 0), (15, 9, 0, 1, 0, 0, 1, 0), (16, 9, 0, 1, 0, 0, 2, 0), (17, 2, 0, 1, 0, 2, 0, 0), (18, 9, 0, 1, 0, 0, 0, 0), (19, 32, 0, 1, 0, 0, 0, 0), (20, 39, 0, 1, 0, 0, 0, 0), (21, 4, 0, 1, 0, 0, 0, 0), (22, 26, 0, 3, 0, 31, 11, 77), (25, 2, 0, 1, 0, 2, 0, 0), (26, 32, 0, 1, 0, 0, 0, 0), (27, 0, 0, 1, (-1), 0, 0, 0), (28, 22, 0, 3, 13, 41, 0, 0), (31, 4, 0, 1, 0, 0, 0, 0), (32, 26, 0, 3, 0, 31, 11, 77), (35, 2, 0, 1, 0, 2, 0, 0), (36, 32, 0, 1, 0, 0, 0, 0), (37, 2, 0, 1, 0, 1, 0, 0), (38, 22, 0, 3, 11, 49, 1, 0), (41, 0, 0, 1, 1, 0, 0, 0), (42, 2, 0, 1, 0, 2, 0, 0), (43, 0, 0, 1, 1, 0, 0, 0), (44, 9, 0, 1, 0, 0, 0, 0), (45, 9, 0, 1, 0, 0, 6, 0), (46, 20, 0, 3, 4, 50, 0, 0), (49, 0, 0, 1, 0, 0, 0, 0), (50, 39, 0, 1, 0, 0, 0, 0)]
def pm_I144 : List (Nat × pm_Ins) := [(0, 4, 0, 1, 0, 0, 0, 0), (1, 26, 0, 3, 0, 40, 11, 101), (4, 4, 0, 1, 0, 0, 0, 0), (5, 24, 0, 3, 0, 42, 11, 339), (8, 32, 0, 1, 0, 0, 0, 0), (9, 0, 0, 1, (-1), 0, 0, 0), (10, 22, 0, 3, 44, 54, 1, 0), (13, 2, 0, 1, 0, 1, 0, 0), (14, 21, 0, 3, 21, 35, 1, 0), (17, 4, 0, 1, 0, 0, 0, 0), (18, 26, 0, 3, 0, 36, 11, 92), (21, 4, 0, 1, 0, 0, 0, 0), (22, 24, 0, 3, 0, 39, 11, 336), (25, 4, 0, 1, 0, 0, 0, 0), (26, 26, 0, 3, 0, 41, 11, 104), (29, 4, 0, 1, 0, 0, 0, 0), (30, 24, 0, 3, 0, 42, 11, 339), (33, 32, 0, 1, 0, 0, 0, 0), (34, 36, 0, 1, 0, 0, 0, 0), (35, 4, 0, 1, 0, 0, 0, 0), (36, 17, 0, 1, 0, 0, 0, 0), (37, 24, 0, 3, 0, 39, 11, 336), (40, 2, 0, 1, 0, 1, 0, 0), (41, 21, 0, 3, 7, 48, 0, 0), (44, 0, 0, 1, (-1), 0, 0, 0), (45, 20, 0, 3, 4, 49, 0, 0), (48, 0, 0, 1, 1, 0, 0, 0), (49, 9, 0, 1, 0, 0, 0, 0), (50, 27, 0, 3, 0, 39, 11, 336), (53, 42, 0, 1, 0, 0, 0, 0), (54, 4, 0, 1, 0, 0, 0, 0), (55, 26, 0, 3, 0, 37, 11, 95), (58, 4, 0, 1, 0, 0, 0, 0), (59, 26, 0, 3, 0, 40, 11, 101), (62, 4, 0, 1, 0, 0, 0, 0), (63, 24, 0, 3, 0, 42, 11, 339), (66, 32, 0, 1, 0, 0, 0, 0), (67, 32, 0, 1, 0, 0, 0, 0), (68, 5, 0, 1, 0, 2, 0, 0), (69, 4, 0, 1, 0, 0, 0, 0), (70, 26, 0, 3, 0, 37, 11, 95), (73, 4, 0, 1, 0, 0, 0, 0), (74, 26, 0, 3, 0, 40, 11, 101), (77, 4, 0, 1, 0, 0, 0, 0), (78, 24, 0, 3, 0, 42, 11, 339), (81, 32, 0, 1, 0, 0, 0, 0), (82, 4, 0, 1, 0, 0, 0, 0), (83, 26, 0, 3, 0, 41, 11, 104), (86, 4, 0, 1, 0, 0, 0, 0), (87, 24, 0, 3, 0, 42, 11, 339), (90, 32, 0, 1, 0, 0, 0, 0), (91, 36, 0, 1, 0, 0, 0, 0), (92, 4, 0, 1, 0, 0, 0, 0), (93, 26, 0, 3, 0, 41, 11, 104), (96, 4, 0, 1, 0, 0, 0, 0), (97, 24, 0, 3, 0, 42, 11, 339), (100, 2, 0, 1, 0, 2, 0, 0), (101, 36, 0, 1, 0, 0, 0, 0), (102, 42, 0, 1, 0, 0, 0, 0)]
def pm_I145 : List (Nat × pm_Ins) := [(0, 4, 0, 1, 0, 0, 0, 0), (1, 24, 0, 3, 0, 4, 11, 167), (4, 21, 0, 3, 4, 8, 5, 0), (7, 42, 0, 1, 0, 0, 0, 0), (8, 4, 0, 1, 0, 0, 0, 0), (9, 2, 0, 1, 0, 1, 0, 0), (10, 27, 0, 3, 0, 4, 11, 167), (13, 4, 0, 1, 0, 0, 0, 0), (14, 2, 0, 1, 0, 2, 0, 0), (15, 27, 0, 3, 0, 5, 11, 16), (18, 42, 0, 1, 0, 0, 0, 0)]
def pm_I146 : List (Nat × pm_Ins) := [(0, 2, 0, 1, 0, 1, 0, 0), (1, 21, 0, 3, 10, 11, 1, 0), (4, 4, 0, 1, 0, 0, 0, 0), (5, 24, 0, 3, 0, 4, 11, 167), (8, 20, 0, 3, 16, 24, 0, 0), (11, 2, 0, 1, 0, 1, 0, 0), (12, 0, 0, 1, 1, 0, 0, 0), (13, 22, 0, 3, 10, 23, 1, 0), (16, 4, 0, 1, 0, 0, 0, 0), (17, 24, 0, 3, 0, 5, 11, 16), (20, 20, 0, 3, 4, 24, 0, 0), (23, 0, 0, 1, (-1), 0, 0, 0), (24, 39, 0, 1, 0, 0, 0, 0)]
def pm_I147 : List (Nat × pm_Ins) := [(0, 4, 0, 1, 0, 0, 0, 0), (1, 24, 0, 3, 0, 2, 11, 230), (4, 0, 1, 2, 20, 0, 0, 0), (6, 9, 0, 1, 0, 0, 0, 0), (7, 0, 2, 3, 1600, 0, 0, 0), (10, 22, 0, 3, 5, 15, 5, 0), (13, 0, 0, 1, (-1), 0, 0, 0), (14, 39, 0, 1, 0, 0, 0, 0), (15, 0, 0, 1, 0, 0, 0, 0), (16, 5, 1, 2, 0, 6, 0, 0), (18, 2, 1, 2, 0, 6, 0, 0), (20, 0, 1, 2, 20, 0, 0, 0), (22, 22, 0, 3, 83, 105, 3, 0), (25, 2, 1, 2, 0, 6, 0, 0), (27, 0, 0, 1, 4, 0, 0, 0), (28, 22, 0, 3, 7, 35, 3, 0), (31, 2, 0, 1, 0, 1, 0, 0), (32, 20, 0, 3, 39, 71, 0, 0), (35, 2, 1, 2, 0, 6, 0, 0), (37, 0, 1, 2, 8, 0, 0, 0), (39, 22, 0, 3, 7, 46, 3, 0), (42, 2, 0, 1, 0, 2, 0, 0), (43, 20, 0, 3, 28, 71, 0, 0), (46, 2, 1, 2, 0, 6, 0, 0), (48, 0, 1, 2, 12, 0, 0, 0), (50, 22, 0, 3, 7, 57, 3, 0), (53, 2, 0, 1, 0, 3, 0, 0), (54, 20, 0, 3, 17, 71, 0, 0), (57, 2, 1, 2, 0, 6, 0, 0), (59, 0, 1, 2, 16, 0, 0, 0), (61, 22, 0, 3, 8, 69, 3, 0), (64, 2, 1, 2, 0, 4, 0, 0), (66, 20, 0, 3, 5, 71, 0, 0), (69, 2, 1, 2, 0, 5, 0, 0), (71, 5, 1, 2, 0, 7, 0, 0), (73, 4, 0, 1, 0, 0, 0, 0), (74, 26, 0, 3, 0, 0, 11, 7), (77, 4, 0, 1, 0, 0, 0, 0), (78, 24, 0, 3, 0, 2, 11, 230), (81, 2, 1, 2, 0, 6, 0, 0), (83, 9, 0, 1, 0, 0, 0, 0), (84, 2, 1, 2, 0, 7, 0, 0), (86, 0, 1, 2, 24, 0, 0, 0), (88, 0, 1, 2, 8, 0, 0, 0), (90, 2, 1, 2, 0, 6, 0, 0), (92, 0, 0, 1, 3, 0, 0, 0), (93, 9, 0, 1, 0, 0, 3, 0), (94, 9, 0, 1, 0, 0, 2, 0), (95, 9, 0, 1, 0, 0, 1, 0), (96, 9, 0, 1, 0, 0, 7, 0), (97, 16, 0, 1, 0, 0, 0, 0), (98, 37, 0, 1, 0, 0, 0, 0), (99, 8, 0, 3, 1, 6, 0, 0), (102, 20, 0, 3, (-84), 18, 0, 0), (105, 4, 0, 1, 0, 0, 0, 0), (106, 17, 0, 1, 0, 0, 0, 0), (107, 24, 0, 3, 0, 2, 11, 230), (110, 0, 1, 2, 20, 0, 0, 0), (112, 9, 0, 1, 0, 0, 0, 0), (113, 27, 0, 3, 0, 2, 11, 230), (116, 4, 0, 1, 0, 0, 0, 0), (117, 24, 0, 3, 0, 2, 11, 230), (120, 39, 0, 1, 0, 0, 0, 0)]
def pm_I148 : List (Nat × pm_Ins) := [(0, 4, 0, 1, 0, 0, 0, 0), (1, 0, 0, 1, 0, 0, 0, 0), (2, 0, 0, 1, 1, 0, 0, 0), (3, 43, 0, 3, 0, 180, 0, 405), (6, 21, 0, 3, 10, 16, 0, 0), (9, 4, 0, 1, 0, 0, 0, 0), (10, 24, 0, 3, 0, 48, 11, 390), (13, 20, 0, 3, 5, 18, 0, 0), (16, 0, 1, 2, (-2), 0, 0, 0), (18, 39, 0, 1, 0, 0, 0, 0)]
def pm_I149 : List (Nat × pm_Ins) := [(0, 4, 0, 1, 0, 0, 0, 0), (1, 43, 0, 3, 0, 160, 0, 217), (4, 21, 0, 3, 5, 9, 1, 0), (7, 1, 0, 1, 0, 0, 0, 0), (8, 40, 0, 1, 0, 0, 0, 0), (9, 4, 0, 1, 0, 0, 0, 0), (10, 24, 0, 3, 0, 8, 11, 192), (13, 0, 0, 1, 2, 0, 0, 0), (14, 22, 0, 3, 10, 24, 0, 0), (17, 4, 0, 1, 0, 0, 0, 0), (18, 43, 0, 3, 0, 187, 0, 224), (21, 20, 0, 3, 34, 55, 0, 0), (24, 4, 0, 1, 0, 0, 0, 0), (25, 4, 0, 1, 0, 0, 0, 0), (26, 25, 0, 3, 0, 10, 11, 199), (29, 43, 0, 3, 0, 231, 0, 280), (32, 21, 0, 3, 14, 46, 3, 0), (35, 4, 0, 1, 0, 0, 0, 0), (36, 4, 0, 1, 0, 0, 0, 0), (37, 25, 0, 3, 0, 10, 11, 199), (40, 43, 0, 3, 0, 206, 0, 284), (43, 21, 0, 3, 12, 55, 2, 0), (46, 4, 0, 1, 0, 0, 0, 0), (47, 0, 0, 1, 3, 0, 0, 0), (48, 4, 0, 1, 0, 0, 0, 0), (49, 24, 0, 3, 0, 6, 11, 185), (52, 43, 0, 3, 0, 145, 0, 213), (55, 4, 0, 1, 0, 0, 0, 0), (56, 25, 0, 3, 0, 10, 11, 199), (59, 6, 0, 1, 0, 1, 0, 0), (60, 4, 0, 1, 0, 0, 0, 0), (61, 43, 0, 3, 0, 160, 0, 217), (64, 21, 0, 3, 7, 71, 0, 0), (67, 4, 0, 1, 0, 0, 0, 0), (68, 43, 0, 3, 0, 152, 0, 221), (71, 3, 0, 1, 0, 1, 0, 0), (72, 40, 0, 1, 0, 0, 0, 0)]
def pm_I150 : List (Nat × pm_Ins) := [(0, 4, 0, 1, 0, 0, 0, 0), (1, 26, 0, 3, 0, 45, 11, 110), (4, 0, 0, 1, 3, 0, 0, 0), (5, 2, 0, 1, 0, 1, 0, 0), (6, 9, 0, 1, 0, 0, 2, 0), (7, 2, 0, 1, 0, 2, 0, 0), (8, 9, 0, 1, 0, 0, 0, 0), (9, 32, 0, 1, 0, 0, 0, 0), (10, 2, 0, 1, 0, 2, 0, 0), (11, 4, 0, 1, 0, 0, 0, 0), (12, 24, 0, 3, 0, 54, 11, 125), (15, 22, 0, 3, 31, 46, 1, 0), (18, 4, 0, 1, 0, 0, 0, 0), (19, 4, 0, 1, 0, 0, 0, 0), (20, 26, 0, 3, 0, 44, 11, 107), (23, 2, 0, 1, 0, 1, 0, 0), (24, 32, 0, 1, 0, 0, 0, 0), (25, 4, 0, 1, 0, 0, 0, 0), (26, 24, 0, 3, 0, 55, 11, 409), (29, 43, 0, 3, 0, 230, 0, 380), (32, 4, 0, 1, 0, 0, 0, 0), (33, 24, 0, 3, 0, 56, 11, 412), (36, 22, 0, 3, 10, 46, 1, 0), (39, 4, 0, 1, 0, 0, 0, 0), (40, 24, 0, 3, 0, 57, 11, 415), (43, 20, 0, 3, 4, 47, 0, 0), (46, 0, 0, 1, 0, 0, 0, 0), (47, 9, 0, 1, 0, 0, 0, 0), (48, 39, 0, 1, 0, 0, 0, 0)]
def pm_I151 : List (Nat × pm_Ins) := [(0, 0, 0, 1, 0, 0, 0, 0), (1, 5, 0, 1, 0, 3, 0, 0), (2, 0, 0, 1, 0, 0, 0, 0), (3, 5, 1, 2, 0, 4, 0, 0), (5, 2, 1, 2, 0, 4, 0, 0), (7, 0, 0, 1, 3, 0, 0, 0), (8, 22, 0, 3, 37, 45, 3, 0), (11, 2, 0, 1, 0, 3, 0, 0), (12, 2, 0, 1, 0, 2, 0, 0), (13, 2, 1, 2, 0, 4, 0, 0), (15, 9, 0, 1, 0, 0, 7, 0), (16, 0, 0, 1, 1, 0, 0, 0), (17, 9, 0, 1, 0, 0, 3, 0), (18, 0, 0, 1, 1, 0, 0, 0), (19, 22, 0, 3, 17, 36, 1, 0), (22, 4, 0, 1, 0, 0, 0, 0), (23, 26, 0, 3, 0, 45, 11, 110), (26, 0, 0, 1, 3, 0, 0, 0), (27, 2, 0, 1, 0, 1, 0, 0), (28, 9, 0, 1, 0, 0, 2, 0), (29, 2, 1, 2, 0, 4, 0, 0), (31, 9, 0, 1, 0, 0, 0, 0), (32, 32, 0, 1, 0, 0, 0, 0), (33, 20, 0, 3, 4, 37, 0, 0), (36, 0, 0, 1, 0, 0, 0, 0), (37, 9, 0, 1, 0, 0, 0, 0), (38, 5, 0, 1, 0, 3, 0, 0), (39, 8, 0, 3, 1, 4, 0, 0), (42, 20, 0, 3, (-37), 5, 0, 0), (45, 2, 0, 1, 0, 3, 0, 0), (46, 39, 0, 1, 0, 0, 0, 0)]
def pm_I152 : List (Nat × pm_Ins) := [(0, 4, 0, 1, 0, 0, 0, 0), (1, 4, 0, 1, 0, 0, 0, 0), (2, 24, 0, 3, 0, 7, 11, 182), (5, 27, 0, 3, 0, 6, 11, 185), (8, 4, 0, 1, 0, 0, 0, 0), (9, 24, 0, 3, 0, 6, 11, 185), (12, 4, 0, 1, 0, 0, 0, 0), (13, 24, 0, 3, 0, 3, 11, 164), (16, 22, 0, 3, 42, 58, 3, 0), (19, 4, 0, 1, 0, 0, 0, 0), (20, 4, 0, 1, 0, 0, 0, 0), (21, 24, 0, 3, 0, 6, 11, 185), (24, 43, 0, 3, 0, 212, 0, 188), (27, 0, 1, 2, 32, 0, 0, 0), (29, 22, 0, 3, 16, 45, 0, 0), (32, 4, 0, 1, 0, 0, 0, 0), (33, 4, 0, 1, 0, 0, 0, 0), (34, 24, 0, 3, 0, 6, 11, 185), (37, 43, 0, 3, 0, 212, 0, 188), (40, 0, 1, 2, 10, 0, 0, 0), (42, 22, 0, 3, 16, 58, 1, 0), (45, 4, 0, 1, 0, 0, 0, 0), (46, 17, 0, 1, 0, 0, 0, 0), (47, 24, 0, 3, 0, 6, 11, 185), (50, 0, 0, 1, 1, 0, 0, 0), (51, 9, 0, 1, 0, 0, 0, 0), (52, 27, 0, 3, 0, 6, 11, 185), (55, 20, 0, 3, (-47), 8, 0, 0), (58, 4, 0, 1, 0, 0, 0, 0), (59, 4, 0, 1, 0, 0, 0, 0), (60, 24, 0, 3, 0, 6, 11, 185), (63, 43, 0, 3, 0, 212, 0, 188), (66, 5, 0, 1, 0, 1, 0, 0), (67, 4, 0, 1, 0, 0, 0, 0), (68, 4, 0, 1, 0, 0, 0, 0), (69, 24, 0, 3, 0, 6, 11, 185), (72, 0, 0, 1, 1, 0, 0, 0), (73, 9, 0, 1, 0, 0, 0, 0), (74, 27, 0, 3, 0, 7, 11, 182), (77, 4, 0, 1, 0, 0, 0, 0), (78, 24, 0, 3, 0, 6, 11, 185), (81, 4, 0, 1, 0, 0, 0, 0), (82, 24, 0, 3, 0, 3, 11, 164), (85, 22, 0, 3, 27, 112, 2, 0), (88, 4, 0, 1, 0, 0, 0, 0), (89, 0, 0, 1, 0, 0, 0, 0), (90, 27, 0, 3, 0, 8, 11, 192), (93, 4, 0, 1, 0, 0, 0, 0), (94, 4, 0, 1, 0, 0, 0, 0), (95, 24, 0, 3, 0, 3, 11, 164), (98, 27, 0, 3, 0, 6, 11, 185), (101, 4, 0, 1, 0, 0, 0, 0), (102, 4, 0, 1, 0, 0, 0, 0), (103, 24, 0, 3, 0, 3, 11, 164), (106, 27, 0, 3, 0, 7, 11, 182), (109, 20, 0, 3, 273, 382, 0, 0), (112, 2, 0, 1, 0, 1, 0, 0), (113, 44, 0, 3, 0, 164, 0, 195), (116, 21, 0, 3, 123, 239, 0, 0), (119, 4, 0, 1, 0, 0, 0, 0), (120, 4, 0, 1, 0, 0, 0, 0), (121, 24, 0, 3, 0, 7, 11, 182), (124, 43, 0, 3, 0, 212, 0, 188), (127, 44, 0, 3, 0, 164, 0, 195), (130, 21, 0, 3, 16, 146, 0, 0), (133, 4, 0, 1, 0, 0, 0, 0), (134, 17, 0, 1, 0, 0, 0, 0), (135, 24, 0, 3, 0, 7, 11, 182), (138, 0, 0, 1, 1, 0, 0, 0), (139, 9, 0, 1, 0, 0, 0, 0), (140, 27, 0, 3, 0, 7, 11, 182), (143, 20, 0, 3, (-24), 119, 0, 0), (146, 4, 0, 1, 0, 0, 0, 0), (147, 1, 0, 1, 0, 0, 0, 0), (148, 28, 0, 3, 0, 10, 11, 199), (151, 4, 0, 1, 0, 0, 0, 0), (152, 24, 0, 3, 0, 6, 11, 185), (155, 5, 0, 1, 0, 2, 0, 0), (156, 2, 0, 1, 0, 2, 0, 0), (157, 4, 0, 1, 0, 0, 0, 0), (158, 24, 0, 3, 0, 7, 11, 182), (161, 22, 0, 3, 38, 199, 3, 0), (164, 2, 0, 1, 0, 2, 0, 0), (165, 4, 0, 1, 0, 0, 0, 0), (166, 24, 0, 3, 0, 6, 11, 185), (169, 0, 1, 2, 8, 0, 0, 0), (171, 9, 0, 1, 0, 0, 0, 0), (172, 22, 0, 3, 27, 199, 3, 0), (175, 4, 0, 1, 0, 0, 0, 0), (176, 4, 0, 1, 0, 0, 0, 0), (177, 25, 0, 3, 0, 10, 11, 199), (180, 0, 1, 2, 8, 0, 0, 0), (182, 12, 0, 1, 0, 0, 0, 0), (183, 4, 0, 1, 0, 0, 0, 0), (184, 2, 0, 1, 0, 2, 0, 0), (185, 43, 0, 3, 0, 212, 0, 188), (188, 14, 0, 1, 0, 0, 0, 0), (189, 11, 0, 1, 0, 0, 3, 0), (190, 28, 0, 3, 0, 10, 11, 199), (193, 8, 0, 3, 1, 2, 0, 0), (196, 20, 0, 3, (-40), 156, 0, 0), (199, 4, 0, 1, 0, 0, 0, 0), (200, 4, 0, 1, 0, 0, 0, 0), (201, 24, 0, 3, 0, 7, 11, 182), (204, 4, 0, 1, 0, 0, 0, 0), (205, 24, 0, 3, 0, 6, 11, 185), (208, 9, 0, 1, 0, 0, 1, 0), (209, 0, 1, 2, 8, 0, 0, 0), (211, 22, 0, 3, 7, 218, 5, 0), (214, 0, 0, 1, 1, 0, 0, 0), (215, 20, 0, 3, 18, 233, 0, 0), (218, 4, 0, 1, 0, 0, 0, 0), (219, 25, 0, 3, 0, 10, 11, 199), (222, 44, 0, 3, 0, 163, 0, 203), (225, 21, 0, 3, 7, 232, 0, 0), (228, 0, 0, 1, 3, 0, 0, 0), (229, 20, 0, 3, 4, 233, 0, 0), (232, 0, 0, 1, 2, 0, 0, 0), (233, 27, 0, 3, 0, 8, 11, 192), (236, 20, 0, 3, 146, 382, 0, 0), (239, 2, 0, 1, 0, 1, 0, 0), (240, 44, 0, 3, 0, 158, 0, 207), (243, 21, 0, 3, 118, 361, 0, 0), (246, 4, 0, 1, 0, 0, 0, 0), (247, 0, 0, 1, 0, 0, 0, 0), (248, 27, 0, 3, 0, 9, 11, 210), (251, 4, 0, 1, 0, 0, 0, 0), (252, 4, 0, 1, 0, 0, 0, 0), (253, 24, 0, 3, 0, 6, 11, 185), (256, 27, 0, 3, 0, 7, 11, 182), (259, 4, 0, 1, 0, 0, 0, 0), (260, 4, 0, 1, 0, 0, 0, 0), (261, 24, 0, 3, 0, 7, 11, 182), (264, 43, 0, 3, 0, 212, 0, 188), (267, 44, 0, 3, 0, 158, 0, 207), (270, 21, 0, 3, 52, 322, 0, 0), (273, 4, 0, 1, 0, 0, 0, 0), (274, 24, 0, 3, 0, 7, 11, 182), (277, 4, 0, 1, 0, 0, 0, 0), (278, 24, 0, 3, 0, 6, 11, 185), (281, 9, 0, 1, 0, 0, 1, 0), (282, 0, 0, 1, 4, 0, 0, 0), (283, 22, 0, 3, 26, 309, 3, 0), (286, 4, 0, 1, 0, 0, 0, 0), (287, 0, 1, 2, 10, 0, 0, 0), (289, 4, 0, 1, 0, 0, 0, 0), (290, 24, 0, 3, 0, 9, 11, 210), (293, 9, 0, 1, 0, 0, 2, 0), (294, 4, 0, 1, 0, 0, 0, 0), (295, 4, 0, 1, 0, 0, 0, 0), (296, 24, 0, 3, 0, 7, 11, 182), (299, 43, 0, 3, 0, 212, 0, 188), (302, 9, 0, 1, 0, 0, 0, 0), (303, 0, 1, 2, 48, 0, 0, 0), (305, 9, 0, 1, 0, 0, 1, 0), (306, 27, 0, 3, 0, 9, 11, 210), (309, 4, 0, 1, 0, 0, 0, 0), (310, 17, 0, 1, 0, 0, 0, 0), (311, 24, 0, 3, 0, 7, 11, 182), (314, 0, 0, 1, 1, 0, 0, 0), (315, 9, 0, 1, 0, 0, 0, 0), (316, 27, 0, 3, 0, 7, 11, 182), (319, 20, 0, 3, (-60), 259, 0, 0), (322, 4, 0, 1, 0, 0, 0, 0), (323, 4, 0, 1, 0, 0, 0, 0), (324, 24, 0, 3, 0, 7, 11, 182), (327, 4, 0, 1, 0, 0, 0, 0), (328, 24, 0, 3, 0, 6, 11, 185), (331, 9, 0, 1, 0, 0, 1, 0), (332, 0, 0, 1, 4, 0, 0, 0), (333, 22, 0, 3, 17, 350, 4, 0), (336, 4, 0, 1, 0, 0, 0, 0), (337, 4, 0, 1, 0, 0, 0, 0), (338, 24, 0, 3, 0, 7, 11, 182), (341, 43, 0, 3, 0, 212, 0, 188), (344, 44, 0, 3, 0, 164, 0, 195), (347, 21, 0, 3, 7, 354, 0, 0), (350, 0, 0, 1, 1, 0, 0, 0), (351, 20, 0, 3, 4, 355, 0, 0), (354, 0, 0, 1, 4, 0, 0, 0), (355, 27, 0, 3, 0, 8, 11, 192), (358, 20, 0, 3, 24, 382, 0, 0), (361, 4, 0, 1, 0, 0, 0, 0), (362, 2, 0, 1, 0, 1, 0, 0), (363, 0, 1, 2, 59, 0, 0, 0), (365, 22, 0, 3, 9, 374, 0, 0), (368, 2, 0, 1, 0, 1, 0, 0), (369, 0, 1, 2, 61, 0, 0, 0), (371, 22, 0, 3, 7, 378, 1, 0), (374, 0, 0, 1, 5, 0, 0, 0), (375, 20, 0, 3, 4, 379, 0, 0), (378, 0, 0, 1, 1, 0, 0, 0), (379, 27, 0, 3, 0, 8, 11, 192), (382, 42, 0, 1, 0, 0, 0, 0)]
def pm_I153 : List (Nat × pm_Ins) := [(0, 2, 0, 1, 0, 1, 0, 0), (1, 0, 0, 1, 1, 0, 0, 0), (2, 0, 1, 2, 7, 0, 0, 0), (4, 44, 0, 3, 0, 162, 0, 298), (7, 21, 0, 3, 17, 24, 0, 0), (10, 4, 0, 1, 0, 0, 0, 0), (11, 43, 0, 3, 0, 179, 0, 434), (14, 21, 0, 3, 10, 24, 0, 0), (17, 4, 0, 1, 0, 0, 0, 0), (18, 24, 0, 3, 0, 48, 11, 390), (21, 21, 0, 3, 7, 28, 1, 0), (24, 0, 4, 3, (-1000000), 0, 0, 311), (27, 39, 0, 1, 0, 0, 0, 0), (28, 4, 0, 1, 0, 0, 0, 0), (29, 43, 0, 3, 0, 222, 0, 437), (32, 4, 0, 1, 0, 0, 0, 0), (33, 2, 0, 1, 0, 1, 0, 0), (34, 43, 0, 3, 0, 154, 0, 446), (37, 39, 0, 1, 0, 0, 0, 0)]
def pm_I154 : List (Nat × pm_Ins) := [(0, 4, 0, 1, 0, 0, 0, 0), (1, 2, 0, 1, 0, 1, 0, 0), (2, 43, 0, 3, 0, 195, 0, 440), (5, 5, 0, 1, 0, 2, 0, 0), (6, 4, 0, 1, 0, 0, 0, 0), (7, 2, 0, 1, 0, 2, 0, 0), (8, 2, 0, 1, 0, 1, 0, 0), (9, 43, 0, 3, 0, 151, 0, 421), (12, 39, 0, 1, 0, 0, 0, 0)]
def pm_I155 : List (Nat × pm_Ins) := [(0, 4, 0, 1, 0, 0, 0, 0), (1, 2, 0, 1, 0, 1, 0, 0), (2, 43, 0, 3, 0, 166, 0, 357), (5, 21, 0, 3, 16, 21, 0, 0), (8, 2, 0, 1, 0, 2, 0, 0), (9, 0, 0, 1, (-1), 0, 0, 0), (10, 22, 0, 3, 13, 23, 0, 0), (13, 4, 0, 1, 0, 0, 0, 0), (14, 2, 0, 1, 0, 2, 0, 0), (15, 43, 0, 3, 0, 171, 0, 305), (18, 21, 0, 3, 5, 23, 1, 0), (21, 0, 0, 1, 0, 0, 0, 0), (22, 39, 1, 1, 0, 0, 0, 0), (23, 4, 0, 1, 0, 0, 0, 0), (24, 26, 0, 3, 0, 38, 11, 98), (27, 2, 0, 1, 0, 1, 0, 0), (28, 2, 0, 1, 0, 2, 0, 0), (29, 36, 0, 1, 0, 0, 0, 0), (30, 0, 0, 1, 1, 0, 0, 0), (31, 39, 1, 1, 0, 0, 0, 0)]
def pm_I156 : List (Nat × pm_Ins) := [(0, 2, 0, 1, 0, 1, 0, 0), (1, 0, 0, 1, 0, 0, 0, 0), (2, 0, 0, 1, 2, 0, 0, 0), (3, 44, 0, 3, 0, 162, 0, 298), (6, 21, 0, 3, 5, 11, 1, 0), (9, 0, 0, 1, (-1), 0, 0, 0), (10, 39, 0, 1, 0, 0, 0, 0), (11, 0, 0, 1, 0, 0, 0, 0), (12, 5, 0, 1, 0, 2, 0, 0), (13, 2, 0, 1, 0, 2, 0, 0), (14, 0, 1, 2, 6, 0, 0, 0), (16, 22, 0, 3, 43, 59, 3, 0), (19, 4, 0, 1, 0, 0, 0, 0), (20, 26, 0, 3, 0, 69, 11, 152), (23, 0, 1, 2, 6, 0, 0, 0), (25, 2, 0, 1, 0, 1, 0, 0), (26, 9, 0, 1, 0, 0, 2, 0), (27, 2, 0, 1, 0, 2, 0, 0), (28, 9, 0, 1, 0, 0, 0, 0), (29, 4, 0, 1, 0, 0, 0, 0), (30, 26, 0, 3, 0, 36, 11, 92), (33, 2, 0, 1, 0, 2, 0, 0), (34, 32, 0, 1, 0, 0, 0, 0), (35, 36, 0, 1, 0, 0, 0, 0), (36, 4, 0, 1, 0, 0, 0, 0), (37, 26, 0, 3, 0, 70, 11, 155), (40, 0, 1, 2, 6, 0, 0, 0), (42, 2, 0, 1, 0, 1, 0, 0), (43, 9, 0, 1, 0, 0, 2, 0), (44, 2, 0, 1, 0, 2, 0, 0), (45, 9, 0, 1, 0, 0, 0, 0), (46, 4, 0, 1, 0, 0, 0, 0), (47, 26, 0, 3, 0, 37, 11, 95), (50, 2, 0, 1, 0, 2, 0, 0), (51, 32, 0, 1, 0, 0, 0, 0), (52, 36, 0, 1, 0, 0, 0, 0), (53, 8, 0, 3, 1, 2, 0, 0), (56, 20, 0, 3, (-43), 13, 0, 0), (59, 4, 0, 1, 0, 0, 0, 0), (60, 26, 0, 3, 0, 68, 11, 149), (63, 2, 0, 1, 0, 1, 0, 0), (64, 4, 0, 1, 0, 0, 0, 0), (65, 24, 0, 3, 0, 39, 11, 336), (68, 36, 0, 1, 0, 0, 0, 0), (69, 4, 0, 1, 0, 0, 0, 0), (70, 24, 0, 3, 0, 39, 11, 336), (73, 39, 0, 1, 0, 0, 0, 0)]
def pm_I157 : List (Nat × pm_Ins) := [(0, 2, 1, 2, 0, 4, 0, 0), (2, 21, 0, 3, 34, 36, 1, 0), (5, 4, 0, 1, 0, 0, 0, 0), (6, 2, 0, 1, 0, 1, 0, 0), (7, 4, 0, 1, 0, 0, 0, 0), (8, 26, 0, 3, 0, 53, 11, 122), (11, 2, 0, 1, 0, 3, 0, 0), (12, 32, 0, 1, 0, 0, 0, 0), (13, 43, 0, 3, 0, 150, 0, 418), (16, 4, 0, 1, 0, 0, 0, 0), (17, 2, 0, 1, 0, 2, 0, 0), (18, 4, 0, 1, 0, 0, 0, 0), (19, 26, 0, 3, 0, 53, 11, 122), (22, 2, 0, 1, 0, 3, 0, 0), (23, 32, 0, 1, 0, 0, 0, 0), (24, 43, 0, 3, 0, 150, 0, 418), (27, 22, 0, 3, 7, 34, 5, 0), (30, 0, 0, 1, 1, 0, 0, 0), (31, 20, 0, 3, 4, 35, 0, 0), (34, 0, 0, 1, 0, 0, 0, 0), (35, 39, 1, 1, 0, 0, 0, 0), (36, 2, 1, 2, 0, 4, 0, 0), (38, 4, 0, 1, 0, 0, 0, 0), (39, 26, 0, 3, 0, 53, 11, 122), (42, 2, 0, 1, 0, 3, 0, 0), (43, 32, 0, 1, 0, 0, 0, 0), (44, 9, 0, 1, 0, 0, 7, 0), (45, 0, 0, 1, 1, 0, 0, 0), (46, 9, 0, 1, 0, 0, 3, 0), (47, 0, 0, 1, 1, 0, 0, 0), (48, 22, 0, 3, 7, 55, 1, 0), (51, 0, 0, 1, 1, 0, 0, 0), (52, 20, 0, 3, 4, 56, 0, 0), (55, 0, 0, 1, 0, 0, 0, 0), (56, 5, 1, 2, 0, 5, 0, 0), (58, 2, 1, 2, 0, 5, 0, 0), (60, 21, 0, 3, 28, 88, 0, 0), (63, 4, 0, 1, 0, 0, 0, 0), (64, 2, 0, 1, 0, 1, 0, 0), (65, 2, 1, 2, 0, 4, 0, 0), (67, 43, 0, 3, 0, 151, 0, 421), (70, 4, 0, 1, 0, 0, 0, 0), (71, 2, 0, 1, 0, 2, 0, 0), (72, 2, 1, 2, 0, 4, 0, 0), (74, 43, 0, 3, 0, 151, 0, 421), (77, 22, 0, 3, 7, 84, 5, 0), (80, 0, 0, 1, 1, 0, 0, 0), (81, 20, 0, 3, 29, 110, 0, 0), (84, 0, 0, 1, 0, 0, 0, 0), (85, 20, 0, 3, 25, 110, 0, 0), (88, 4, 0, 1, 0, 0, 0, 0), (89, 2, 0, 1, 0, 1, 0, 0), (90, 2, 1, 2, 0, 4, 0, 0), (92, 43, 0, 3, 0, 151, 0, 421), (95, 4, 0, 1, 0, 0, 0, 0), (96, 2, 0, 1, 0, 2, 0, 0), (97, 2, 1, 2, 0, 4, 0, 0), (99, 43, 0, 3, 0, 151, 0, 421), (102, 22, 0, 3, 7, 109, 3, 0), (105, 0, 0, 1, 1, 0, 0, 0), (106, 20, 0, 3, 4, 110, 0, 0), (109, 0, 0, 1, 0, 0, 0, 0), (110, 39, 1, 1, 0, 0, 0, 0)]
def pm_I158 : List (Nat × pm_Ins) := [(0, 2, 0, 1, 0, 0, 0, 0), (1, 0, 1, 2, 48, 0, 0, 0), (3, 22, 0, 3, 13, 16, 2, 0), (6, 2, 0, 1, 0, 0, 0, 0), (7, 0, 1, 2, 57, 0, 0, 0), (9, 22, 0, 3, 7, 16, 4, 0), (12, 0, 0, 1, 1, 0, 0, 0), (13, 20, 0, 3, 4, 17, 0, 0), (16, 0, 0, 1, 0, 0, 0, 0), (17, 39, 1, 1, 0, 0, 0, 0)]
def pm_I159 : List (Nat × pm_Ins) := [(0, 4, 0, 1, 0, 0, 0, 0), (1, 1, 1, 3, 2003792484, 0, 0, 170), (4, 43, 0, 3, 0, 170, 0, 251), (7, 21, 0, 3, 23, 30, 0, 0), (10, 4, 0, 1, 0, 0, 0, 0), (11, 26, 0, 3, 0, 11, 11, 20), (14, 4, 0, 1, 0, 0, 0, 0), (15, 24, 0, 3, 0, 30, 11, 227), (18, 32, 0, 1, 0, 0, 0, 0), (19, 0, 1, 2, 8, 0, 0, 0), (21, 22, 0, 3, 7, 28, 1, 0), (24, 0, 0, 1, 1, 0, 0, 0), (25, 20, 0, 3, 4, 29, 0, 0), (28, 0, 0, 1, 0, 0, 0, 0), (29, 39, 1, 1, 0, 0, 0, 0), (30, 4, 0, 1, 0, 0, 0, 0), (31, 1, 1, 3, 1885432178, 0, 0, 172), (34, 43, 0, 3, 0, 170, 0, 251), (37, 21, 0, 3, 23, 60, 0, 0), (40, 4, 0, 1, 0, 0, 0, 0), (41, 26, 0, 3, 0, 12, 11, 24), (44, 4, 0, 1, 0, 0, 0, 0), (45, 24, 0, 3, 0, 30, 11, 227), (48, 32, 0, 1, 0, 0, 0, 0), (49, 0, 1, 2, 12, 0, 0, 0), (51, 22, 0, 3, 7, 58, 1, 0), (54, 0, 0, 1, 1, 0, 0, 0), (55, 20, 0, 3, 4, 59, 0, 0), (58, 0, 0, 1, 0, 0, 0, 0), (59, 39, 1, 1, 0, 0, 0, 0), (60, 4, 0, 1, 0, 0, 0, 0), (61, 1, 1, 3, 1920298085, 0, 0, 174), (64, 43, 0, 3, 0, 170, 0, 251), (67, 21, 0, 3, 23, 90, 0, 0), (70, 4, 0, 1, 0, 0, 0, 0), (71, 26, 0, 3, 0, 13, 11, 27), (74, 4, 0, 1, 0, 0, 0, 0), (75, 24, 0, 3, 0, 30, 11, 227), (78, 32, 0, 1, 0, 0, 0, 0), (79, 0, 1, 2, 8, 0, 0, 0), (81, 22, 0, 3, 7, 88, 1, 0), (84, 0, 0, 1, 1, 0, 0, 0), (85, 20, 0, 3, 4, 89, 0, 0), (88, 0, 0, 1, 0, 0, 0, 0), (89, 39, 1, 1, 0, 0, 0, 0), (90, 4, 0, 1, 0, 0, 0, 0), (91, 1, 1, 3, 119182899770472, 0, 0, 178), (94, 43, 0, 3, 0, 170, 0, 251), (97, 21, 0, 3, 13, 110, 0, 0), (100, 4, 0, 1, 0, 0, 0, 0), (101, 26, 0, 3, 0, 25, 11, 64), (104, 4, 0, 1, 0, 0, 0, 0), (105, 24, 0, 3, 0, 30, 11, 227), (108, 33, 0, 1, 0, 0, 0, 0), (109, 39, 1, 1, 0, 0, 0, 0), (110, 4, 0, 1, 0, 0, 0, 0), (111, 1, 1, 3, 500186639987, 0, 0, 180), (114, 43, 0, 3, 0, 170, 0, 251), (117, 21, 0, 3, 15, 132, 0, 0), (120, 4, 0, 1, 0, 0, 0, 0), (121, 26, 0, 3, 0, 16, 11, 36), (124, 4, 0, 1, 0, 0, 0, 0), (125, 24, 0, 3, 0, 30, 11, 227), (128, 32, 0, 1, 0, 0, 0, 0), (129, 21, 0, 3, 7, 136, 5, 0), (132, 0, 0, 1, 1, 0, 0, 0), (133, 20, 0, 3, 4, 137, 0, 0), (136, 0, 0, 1, 0, 0, 0, 0), (137, 39, 1, 1, 0, 0, 0, 0)]
def pm_I160 : List (Nat × pm_Ins) := [(0, 4, 0, 1, 0, 0, 0, 0), (1, 24, 0, 3, 0, 4, 11, 167), (4, 21, 0, 3, 7, 11, 1, 0), (7, 0, 0, 1, 1, 0, 0, 0), (8, 20, 0, 3, 4, 12, 0, 0), (11, 0, 0, 1, 0, 0, 0, 0), (12, 39, 1, 1, 0, 0, 0, 0)]
def pm_I161 : List (Nat × pm_Ins) := [(0, 2, 0, 1, 0, 0, 0, 0), (1, 0, 0, 1, 0, 0, 0, 0), (2, 0, 0, 1, 2, 0, 0, 0), (3, 44, 0, 3, 0, 162, 0, 298), (6, 39, 1, 1, 0, 0, 0, 0)]
def pm_I162 : List (Nat × pm_Ins) := [(0, 2, 0, 1, 0, 0, 0, 0), (1, 2, 0, 1, 0, 1, 0, 0), (2, 22, 0, 3, 12, 14, 2, 0), (5, 2, 0, 1, 0, 0, 0, 0), (6, 2, 0, 1, 0, 2, 0, 0), (7, 22, 0, 3, 7, 14, 4, 0), (10, 0, 0, 1, 1, 0, 0, 0), (11, 20, 0, 3, 4, 15, 0, 0), (14, 0, 0, 1, 0, 0, 0, 0), (15, 39, 1, 1, 0, 0, 0, 0)]
def pm_I163 : List (Nat × pm_Ins) := [(0, 3, 0, 1, 0, 0, 0, 0), (1, 1, 1, 3, 2003792484, 0, 0, 170), (4, 13, 0, 1, 0, 0, 0, 0), (5, 21, 0, 3, 43, 48, 0, 0), (8, 3, 0, 1, 0, 0, 0, 0), (9, 1, 1, 3, 1885432178, 0, 0, 172), (12, 13, 0, 1, 0, 0, 0, 0), (13, 21, 0, 3, 35, 48, 0, 0), (16, 3, 0, 1, 0, 0, 0, 0), (17, 1, 1, 3, 1920298085, 0, 0, 174), (20, 13, 0, 1, 0, 0, 0, 0), (21, 21, 0, 3, 27, 48, 0, 0), (24, 3, 0, 1, 0, 0, 0, 0), (25, 1, 1, 3, 28530, 0, 0, 176), (28, 13, 0, 1, 0, 0, 0, 0), (29, 21, 0, 3, 19, 48, 0, 0), (32, 3, 0, 1, 0, 0, 0, 0), (33, 1, 1, 3, 119182899770472, 0, 0, 178), (36, 13, 0, 1, 0, 0, 0, 0), (37, 21, 0, 3, 11, 48, 0, 0), (40, 3, 0, 1, 0, 0, 0, 0), (41, 1, 1, 3, 500186639987, 0, 0, 180), (44, 13, 0, 1, 0, 0, 0, 0), (45, 21, 0, 3, 7, 52, 1, 0), (48, 0, 0, 1, 1, 0, 0, 0), (49, 20, 0, 3, 4, 53, 0, 0), (52, 0, 0, 1, 0, 0, 0, 0), (53, 39, 1, 1, 0, 0, 0, 0)]
def pm_I164 : List (Nat × pm_Ins) := [(0, 2, 0, 1, 0, 0, 0, 0), (1, 0, 1, 2, 97, 0, 0, 0), (3, 22, 0, 3, 13, 16, 2, 0), (6, 2, 0, 1, 0, 0, 0, 0), (7, 0, 1, 2, 122, 0, 0, 0), (9, 22, 0, 3, 7, 16, 4, 0), (12, 0, 0, 1, 1, 0, 0, 0), (13, 20, 0, 3, 4, 17, 0, 0), (16, 0, 0, 1, 0, 0, 0, 0), (17, 39, 1, 1, 0, 0, 0, 0)]
def pm_I165 : List (Nat × pm_Ins) := [(0, 0, 0, 1, 0, 0, 0, 0), (1, 5, 0, 1, 0, 2, 0, 0), (2, 2, 0, 1, 0, 2, 0, 0), (3, 2, 0, 1, 0, 1, 0, 0), (4, 22, 0, 3, 21, 25, 3, 0), (7, 4, 0, 1, 0, 0, 0, 0), (8, 26, 0, 3, 0, 31, 11, 77), (11, 2, 0, 1, 0, 2, 0, 0), (12, 4, 0, 1, 0, 0, 0, 0), (13, 26, 0, 3, 0, 52, 11, 119), (16, 2, 0, 1, 0, 2, 0, 0), (17, 32, 0, 1, 0, 0, 0, 0), (18, 36, 0, 1, 0, 0, 0, 0), (19, 8, 0, 3, 1, 2, 0, 0), (22, 20, 0, 3, (-20), 2, 0, 0), (25, 4, 0, 1, 0, 0, 0, 0), (26, 2, 0, 1, 0, 1, 0, 0), (27, 43, 0, 3, 0, 137, 0, 354), (30, 39, 1, 1, 0, 0, 0, 0)]
def pm_I166 : List (Nat × pm_Ins) := [(0, 2, 0, 1, 0, 1, 0, 0), (1, 0, 0, 1, 0, 0, 0, 0), (2, 4, 0, 1, 0, 0, 0, 0), (3, 43, 0, 3, 0, 183, 0, 302), (6, 0, 0, 1, 1, 0, 0, 0), (7, 9, 0, 1, 0, 0, 1, 0), (8, 44, 0, 3, 0, 162, 0, 298), (11, 39, 1, 1, 0, 0, 0, 0)]
def pm_I167 : List (Nat × pm_Ins) := [(0, 4, 0, 1, 0, 0, 0, 0), (1, 26, 0, 3, 0, 13, 11, 27), (4, 4, 0, 1, 0, 0, 0, 0), (5, 24, 0, 3, 0, 29, 11, 233), (8, 32, 0, 1, 0, 0, 0, 0), (9, 21, 0, 3, 7, 16, 0, 0), (12, 2, 0, 1, 0, 1, 0, 0), (13, 21, 0, 3, 5, 18, 1, 0), (16, 0, 0, 1, 0, 0, 0, 0), (17, 39, 1, 1, 0, 0, 0, 0), (18, 4, 0, 1, 0, 0, 0, 0), (19, 2, 0, 1, 0, 1, 0, 0), (20, 43, 0, 3, 0, 177, 0, 322), (23, 4, 0, 1, 0, 0, 0, 0), (24, 26, 0, 3, 0, 32, 11, 80), (27, 0, 0, 1, 0, 0, 0, 0), (28, 32, 0, 1, 0, 0, 0, 0), (29, 2, 0, 1, 0, 1, 0, 0), (30, 9, 0, 1, 0, 0, 7, 0), (31, 0, 0, 1, 1, 0, 0, 0), (32, 9, 0, 1, 0, 0, 3, 0), (33, 0, 0, 1, 1, 0, 0, 0), (34, 22, 0, 3, 7, 41, 1, 0), (37, 0, 0, 1, 1, 0, 0, 0), (38, 20, 0, 3, 4, 42, 0, 0), (41, 0, 0, 1, 0, 0, 0, 0), (42, 39, 1, 1, 0, 0, 0, 0)]
def pm_I168 : List (Nat × pm_Ins) := [(0, 4, 0, 1, 0, 0, 0, 0), (1, 24, 0, 3, 0, 8, 11, 192), (4, 0, 0, 1, 5, 0, 0, 0), (5, 22, 0, 3, 19, 24, 1, 0), (8, 4, 0, 1, 0, 0, 0, 0), (9, 4, 0, 1, 0, 0, 0, 0), (10, 24, 0, 3, 0, 6, 11, 185), (13, 43, 0, 3, 0, 212, 0, 188), (16, 2, 0, 1, 0, 1, 0, 0), (17, 22, 0, 3, 7, 24, 1, 0), (20, 0, 0, 1, 1, 0, 0, 0), (21, 20, 0, 3, 4, 25, 0, 0), (24, 0, 0, 1, 0, 0, 0, 0), (25, 39, 1, 1, 0, 0, 0, 0)]
def pm_I169 : List (Nat × pm_Ins) := [(0, 0, 0, 1, 0, 0, 0, 0), (1, 5, 0, 1, 0, 3, 0, 0), (2, 2, 0, 1, 0, 3, 0, 0), (3, 4, 0, 1, 0, 0, 0, 0), (4, 24, 0, 3, 0, 66, 11, 245), (7, 22, 0, 3, 79, 86, 3, 0), (10, 4, 0, 1, 0, 0, 0, 0), (11, 26, 0, 3, 0, 63, 11, 140), (14, 2, 0, 1, 0, 3, 0, 0), (15, 32, 0, 1, 0, 0, 0, 0), (16, 2, 0, 1, 0, 2, 0, 0), (17, 22, 0, 3, 63, 80, 4, 0), (20, 4, 0, 1, 0, 0, 0, 0), (21, 26, 0, 3, 0, 64, 11, 143), (24, 2, 0, 1, 0, 3, 0, 0), (25, 32, 0, 1, 0, 0, 0, 0), (26, 21, 0, 3, 13, 39, 2, 0), (29, 4, 0, 1, 0, 0, 0, 0), (30, 26, 0, 3, 0, 64, 11, 143), (33, 2, 0, 1, 0, 3, 0, 0), (34, 32, 0, 1, 0, 0, 0, 0), (35, 2, 0, 1, 0, 2, 0, 0), (36, 22, 0, 3, 44, 80, 5, 0), (39, 4, 0, 1, 0, 0, 0, 0), (40, 4, 0, 1, 0, 0, 0, 0), (41, 26, 0, 3, 0, 44, 11, 107), (44, 2, 0, 1, 0, 1, 0, 0), (45, 32, 0, 1, 0, 0, 0, 0), (46, 4, 0, 1, 0, 0, 0, 0), (47, 26, 0, 3, 0, 61, 11, 134), (50, 2, 0, 1, 0, 3, 0, 0), (51, 32, 0, 1, 0, 0, 0, 0), (52, 43, 0, 3, 0, 230, 0, 380), (55, 4, 0, 1, 0, 0, 0, 0), (56, 26, 0, 3, 0, 62, 11, 137), (59, 2, 0, 1, 0, 3, 0, 0), (60, 32, 0, 1, 0, 0, 0, 0), (61, 22, 0, 3, 7, 68, 1, 0), (64, 0, 0, 1, 1, 0, 0, 0), (65, 20, 0, 3, 4, 69, 0, 0), (68, 0, 0, 1, 0, 0, 0, 0), (69, 4, 0, 1, 0, 0, 0, 0), (70, 26, 0, 3, 0, 65, 11, 146), (73, 2, 0, 1, 0, 3, 0, 0), (74, 33, 0, 1, 0, 0, 0, 0), (75, 22, 0, 3, 5, 80, 0, 0), (78, 0, 0, 1, 0, 0, 0, 0), (79, 39, 1, 1, 0, 0, 0, 0), (80, 8, 0, 3, 1, 3, 0, 0), (83, 20, 0, 3, (-81), 2, 0, 0), (86, 0, 0, 1, 1, 0, 0, 0), (87, 39, 1, 1, 0, 0, 0, 0)]
def pm_I170 : List (Nat × pm_Ins) := [(0, 4, 0, 1, 0, 0, 0, 0), (1, 24, 0, 3, 0, 8, 11, 192), (4, 0, 0, 1, 3, 0, 0, 0), (5, 22, 0, 3, 16, 21, 1, 0), (8, 4, 0, 1, 0, 0, 0, 0), (9, 25, 0, 3, 0, 10, 11, 199), (12, 3, 0, 1, 0, 1, 0, 0), (13, 13, 0, 1, 0, 0, 0, 0), (14, 21, 0, 3, 7, 21, 1, 0), (17, 0, 0, 1, 1, 0, 0, 0), (18, 20, 0, 3, 4, 22, 0, 0), (21, 0, 0, 1, 0, 0, 0, 0), (22, 39, 1, 1, 0, 0, 0, 0)]
def pm_I171 : List (Nat × pm_Ins) := [(0, 2, 0, 1, 0, 1, 0, 0), (1, 0, 0, 1, 0, 0, 0, 0), (2, 4, 0, 1, 0, 0, 0, 0), (3, 26, 0, 3, 0, 11, 11, 20), (6, 4, 0, 1, 0, 0, 0, 0), (7, 24, 0, 3, 0, 29, 11, 233), (10, 32, 0, 1, 0, 0, 0, 0), (11, 0, 0, 1, 1, 0, 0, 0), (12, 9, 0, 1, 0, 0, 1, 0), (13, 44, 0, 3, 0, 162, 0, 298), (16, 39, 1, 1, 0, 0, 0, 0)]
def pm_I172 : List (Nat × pm_Ins) := [(0, 4, 0, 1, 0, 0, 0, 0), (1, 24, 0, 3, 0, 42, 11, 339), (4, 0, 1, 2, 40, 0, 0, 0), (6, 22, 0, 3, 55, 61, 1, 0), (9, 0, 0, 1, 1, 0, 0, 0), (10, 5, 0, 1, 0, 3, 0, 0), (11, 2, 0, 1, 0, 3, 0, 0), (12, 0, 1, 2, 40, 0, 0, 0), (14, 22, 0, 3, 37, 51, 3, 0), (17, 4, 0, 1, 0, 0, 0, 0), (18, 26, 0, 3, 0, 40, 11, 101), (21, 2, 0, 1, 0, 3, 0, 0), (22, 0, 0, 1, 1, 0, 0, 0), (23, 9, 0, 1, 0, 0, 1, 0), (24, 4, 0, 1, 0, 0, 0, 0), (25, 26, 0, 3, 0, 40, 11, 101), (28, 2, 0, 1, 0, 3, 0, 0), (29, 32, 0, 1, 0, 0, 0, 0), (30, 36, 0, 1, 0, 0, 0, 0), (31, 4, 0, 1, 0, 0, 0, 0), (32, 26, 0, 3, 0, 41, 11, 104), (35, 2, 0, 1, 0, 3, 0, 0), (36, 0, 0, 1, 1, 0, 0, 0), (37, 9, 0, 1, 0, 0, 1, 0), (38, 4, 0, 1, 0, 0, 0, 0), (39, 26, 0, 3, 0, 41, 11, 104), (42, 2, 0, 1, 0, 3, 0, 0), (43, 32, 0, 1, 0, 0, 0, 0), (44, 36, 0, 1, 0, 0, 0, 0), (45, 8, 0, 3, 1, 3, 0, 0), (48, 20, 0, 3, (-37), 11, 0, 0), (51, 4, 0, 1, 0, 0, 0, 0), (52, 17, 0, 1, 0, 0, 0, 0), (53, 24, 0, 3, 0, 42, 11, 339), (56, 0, 0, 1, 1, 0, 0, 0), (57, 9, 0, 1, 0, 0, 1, 0), (58, 27, 0, 3, 0, 42, 11, 339), (61, 4, 0, 1, 0, 0, 0, 0), (62, 26, 0, 3, 0, 40, 11, 101), (65, 4, 0, 1, 0, 0, 0, 0), (66, 24, 0, 3, 0, 42, 11, 339), (69, 2, 0, 1, 0, 1, 0, 0), (70, 36, 0, 1, 0, 0, 0, 0), (71, 4, 0, 1, 0, 0, 0, 0), (72, 26, 0, 3, 0, 41, 11, 104), (75, 4, 0, 1, 0, 0, 0, 0), (76, 24, 0, 3, 0, 42, 11, 339), (79, 2, 0, 1, 0, 2, 0, 0), (80, 36, 0, 1, 0, 0, 0, 0), (81, 4, 0, 1, 0, 0, 0, 0), (82, 17, 0, 1, 0, 0, 0, 0), (83, 24, 0, 3, 0, 42, 11, 339), (86, 0, 0, 1, 1, 0, 0, 0), (87, 9, 0, 1, 0, 0, 0, 0), (88, 27, 0, 3, 0, 42, 11, 339), (91, 4, 0, 1, 0, 0, 0, 0), (92, 0, 0, 1, 0, 0, 0, 0), (93, 27, 0, 3, 0, 43, 11, 342), (96, 42, 0, 1, 0, 0, 0, 0)]
def pm_I173 : List (Nat × pm_Ins) := [(0, 2, 0, 1, 0, 2, 0, 0), (1, 21, 0, 3, 9, 10, 0, 0), (4, 1, 1, 3, 8, 0, 0, 376), (7, 20, 0, 3, 7, 14, 0, 0), (10, 1, 0, 1, 1, 1, 0, 0), (11, 2, 0, 1, 0, 1, 0, 0), (12, 14, 0, 1, 0, 0, 0, 0), (13, 11, 0, 1, 0, 0, 0, 0), (14, 6, 0, 1, 0, 3, 0, 0), (15, 0, 0, 1, 0, 0, 0, 0), (16, 5, 1, 2, 0, 5, 0, 0), (18, 2, 1, 2, 0, 5, 0, 0), (20, 0, 1, 2, 6, 0, 0, 0), (22, 22, 0, 3, 52, 74, 3, 0), (25, 3, 0, 1, 0, 3, 0, 0), (26, 1, 1, 3, 10, 0, 0, 378), (29, 11, 0, 1, 0, 0, 1, 0), (30, 2, 0, 1, 0, 2, 0, 0), (31, 21, 0, 3, 15, 46, 0, 0), (34, 0, 0, 1, 1, 0, 0, 0), (35, 4, 0, 1, 0, 0, 0, 0), (36, 26, 0, 3, 0, 38, 11, 98), (39, 2, 1, 2, 0, 5, 0, 0), (41, 32, 0, 1, 0, 0, 0, 0), (42, 9, 0, 1, 0, 0, 0, 0), (43, 20, 0, 3, 22, 65, 0, 0), (46, 2, 1, 2, 0, 5, 0, 0), (48, 2, 0, 1, 0, 1, 0, 0), (49, 22, 0, 3, 15, 64, 3, 0), (52, 0, 0, 1, 1, 0, 0, 0), (53, 4, 0, 1, 0, 0, 0, 0), (54, 26, 0, 3, 0, 52, 11, 119), (57, 2, 1, 2, 0, 5, 0, 0), (59, 32, 0, 1, 0, 0, 0, 0), (60, 9, 0, 1, 0, 0, 0, 0), (61, 20, 0, 3, 4, 65, 0, 0), (64, 0, 0, 1, 0, 0, 0, 0), (65, 14, 0, 1, 0, 0, 0, 0), (66, 11, 0, 1, 0, 0, 0, 0), (67, 6, 0, 1, 0, 3, 0, 0), (68, 8, 0, 3, 1, 5, 0, 0), (71, 20, 0, 3, (-53), 18, 0, 0), (74, 3, 0, 1, 0, 3, 0, 0), (75, 40, 0, 1, 0, 0, 0, 0)]
def pm_I174 : List (Nat × pm_Ins) := [(0, 4, 0, 1, 0, 0, 0, 0), (1, 43, 0, 3, 0, 160, 0, 217), (4, 21, 0, 3, 5, 9, 1, 0), (7, 0, 0, 1, 0, 0, 0, 0), (8, 39, 0, 1, 0, 0, 0, 0), (9, 4, 0, 1, 0, 0, 0, 0), (10, 4, 0, 1, 0, 0, 0, 0), (11, 25, 0, 3, 0, 10, 11, 199), (14, 43, 0, 3, 0, 231, 0, 280), (17, 5, 0, 1, 0, 1, 0, 0), (18, 4, 0, 1, 0, 0, 0, 0), (19, 24, 0, 3, 0, 8, 11, 192), (22, 0, 0, 1, 2, 0, 0, 0), (23, 22, 0, 3, 10, 33, 0, 0), (26, 4, 0, 1, 0, 0, 0, 0), (27, 43, 0, 3, 0, 187, 0, 224), (30, 20, 0, 3, 16, 46, 0, 0), (33, 2, 0, 1, 0, 1, 0, 0), (34, 21, 0, 3, 12, 46, 3, 0), (37, 4, 0, 1, 0, 0, 0, 0), (38, 0, 0, 1, 5, 0, 0, 0), (39, 4, 0, 1, 0, 0, 0, 0), (40, 24, 0, 3, 0, 6, 11, 185), (43, 43, 0, 3, 0, 145, 0, 213), (46, 4, 0, 1, 0, 0, 0, 0), (47, 43, 0, 3, 0, 160, 0, 217), (50, 21, 0, 3, 7, 57, 0, 0), (53, 4, 0, 1, 0, 0, 0, 0), (54, 43, 0, 3, 0, 152, 0, 221), (57, 2, 0, 1, 0, 1, 0, 0), (58, 21, 0, 3, 7, 65, 3, 0), (61, 0, 0, 1, 0, 0, 0, 0), (62, 20, 0, 3, 4, 66, 0, 0), (65, 2, 0, 1, 0, 1, 0, 0), (66, 39, 0, 1, 0, 0, 0, 0)]
def pm_I175 : List (Nat × pm_Ins) := [(0, 2, 0, 1, 0, 1, 0, 0), (1, 0, 0, 1, 0, 0, 0, 0), (2, 0, 2, 3, 1000, 0, 0, 0), (5, 44, 0, 3, 0, 162, 0, 298), (8, 21, 0, 3, 15, 23, 0, 0), (11, 4, 0, 1, 0, 0, 0, 0), (12, 24, 0, 3, 0, 67, 11, 473), (15, 2, 0, 1, 0, 1, 0, 0), (16, 9, 0, 1, 0, 0, 0, 0), (17, 0, 4, 3, 100000, 0, 0, 476), (20, 22, 0, 3, 5, 25, 5, 0), (23, 0, 0, 1, (-1), 0, 0, 0), (24, 39, 0, 1, 0, 0, 0, 0), (25, 4, 0, 1, 0, 0, 0, 0), (26, 17, 0, 1, 0, 0, 0, 0), (27, 24, 0, 3, 0, 67, 11, 473), (30, 2, 0, 1, 0, 1, 0, 0), (31, 9, 0, 1, 0, 0, 0, 0), (32, 27, 0, 3, 0, 67, 11, 473), (35, 4, 0, 1, 0, 0, 0, 0), (36, 24, 0, 3, 0, 67, 11, 473), (39, 39, 0, 1, 0, 0, 0, 0)]
def pm_I176 : List (Nat × pm_Ins) := [(0, 0, 0, 1, 0, 0, 0, 0), (1, 5, 0, 1, 0, 2, 0, 0), (2, 2, 0, 1, 0, 2, 0, 0), (3, 4, 0, 1, 0, 0, 0, 0), (4, 43, 0, 3, 0, 183, 0, 302), (7, 22, 0, 3, 26, 33, 3, 0), (10, 4, 0, 1, 0, 0, 0, 0), (11, 26, 0, 3, 0, 58, 11, 128), (14, 2, 0, 1, 0, 2, 0, 0), (15, 4, 0, 1, 0, 0, 0, 0), (16, 4, 0, 1, 0, 0, 0, 0), (17, 26, 0, 3, 0, 44, 11, 107), (20, 2, 0, 1, 0, 1, 0, 0), (21, 32, 0, 1, 0, 0, 0, 0), (22, 2, 0, 1, 0, 2, 0, 0), (23, 43, 0, 3, 0, 230, 0, 380), (26, 36, 0, 1, 0, 0, 0, 0), (27, 8, 0, 3, 1, 2, 0, 0), (30, 20, 0, 3, (-28), 2, 0, 0), (33, 4, 0, 1, 0, 0, 0, 0), (34, 4, 0, 1, 0, 0, 0, 0), (35, 43, 0, 3, 0, 183, 0, 302), (38, 27, 0, 3, 0, 59, 11, 248), (41, 42, 0, 1, 0, 0, 0, 0)]
def pm_I177 : List (Nat × pm_Ins) := [(0, 0, 0, 1, 0, 0, 0, 0), (1, 5, 0, 1, 0, 2, 0, 0), (2, 2, 0, 1, 0, 2, 0, 0), (3, 0, 1, 2, 56, 0, 0, 0), (5, 22, 0, 3, 16, 21, 3, 0), (8, 4, 0, 1, 0, 0, 0, 0), (9, 26, 0, 3, 0, 32, 11, 80), (12, 2, 0, 1, 0, 2, 0, 0), (13, 0, 0, 1, 0, 0, 0, 0), (14, 36, 0, 1, 0, 0, 0, 0), (15, 8, 0, 3, 1, 2, 0, 0), (18, 20, 0, 3, (-16), 2, 0, 0), (21, 0, 0, 1, 1, 0, 0, 0), (22, 5, 0, 1, 0, 2, 0, 0), (23, 2, 0, 1, 0, 2, 0, 0), (24, 2, 0, 1, 0, 1, 0, 0), (25, 22, 0, 3, 101, 126, 4, 0), (28, 0, 0, 1, 0, 0, 0, 0), (29, 5, 0, 1, 0, 3, 0, 0), (30, 2, 0, 1, 0, 3, 0, 0), (31, 2, 0, 1, 0, 2, 0, 0), (32, 9, 0, 1, 0, 0, 0, 0), (33, 2, 0, 1, 0, 1, 0, 0), (34, 22, 0, 3, 86, 120, 4, 0), (37, 0, 1, 2, 24, 0, 0, 0), (39, 4, 0, 1, 0, 0, 0, 0), (40, 24, 0, 3, 0, 29, 11, 233), (43, 9, 0, 1, 0, 0, 2, 0), (44, 4, 0, 1, 0, 0, 0, 0), (45, 26, 0, 3, 0, 14, 11, 30), (48, 4, 0, 1, 0, 0, 0, 0), (49, 24, 0, 3, 0, 29, 11, 233), (52, 32, 0, 1, 0, 0, 0, 0), (53, 9, 0, 1, 0, 0, 0, 0), (54, 0, 0, 1, 1, 0, 0, 0), (55, 9, 0, 1, 0, 0, 1, 0), (56, 5, 1, 2, 0, 4, 0, 0), (58, 2, 1, 2, 0, 4, 0, 0), (60, 0, 1, 2, 24, 0, 0, 0), (62, 4, 0, 1, 0, 0, 0, 0), (63, 24, 0, 3, 0, 29, 11, 233), (66, 9, 0, 1, 0, 0, 2, 0), (67, 22, 0, 3, 47, 114, 2, 0), (70, 4, 0, 1, 0, 0, 0, 0), (71, 2, 1, 2, 0, 4, 0, 0), (73, 2, 0, 1, 0, 3, 0, 0), (74, 2, 0, 1, 0, 3, 0, 0), (75, 2, 0, 1, 0, 2, 0, 0), (76, 9, 0, 1, 0, 0, 0, 0), (77, 43, 0, 3, 0, 140, 0, 319), (80, 21, 0, 3, 28, 108, 0, 0), (83, 4, 0, 1, 0, 0, 0, 0), (84, 26, 0, 3, 0, 32, 11, 80), (87, 0, 1, 2, 7, 0, 0, 0), (89, 4, 0, 1, 0, 0, 0, 0), (90, 26, 0, 3, 0, 20, 11, 48), (93, 2, 1, 2, 0, 4, 0, 0), (95, 32, 0, 1, 0, 0, 0, 0), (96, 9, 0, 1, 0, 0, 2, 0), (97, 2, 0, 1, 0, 3, 0, 0), (98, 9, 0, 1, 0, 0, 0, 0), (99, 19, 0, 1, 0, 0, 0, 0), (100, 32, 0, 1, 0, 0, 0, 0), (101, 0, 0, 1, 1, 0, 0, 0), (102, 2, 0, 1, 0, 3, 0, 0), (103, 2, 0, 1, 0, 2, 0, 0), (104, 9, 0, 1, 0, 0, 0, 0), (105, 9, 0, 1, 0, 0, 6, 0), (106, 9, 0, 1, 0, 0, 4, 0), (107, 36, 0, 1, 0, 0, 0, 0), (108, 8, 0, 3, (-1), 4, 0, 0), (111, 20, 0, 3, (-53), 58, 0, 0), (114, 8, 0, 3, 1, 3, 0, 0), (117, 20, 0, 3, (-87), 30, 0, 0), (120, 8, 0, 3, 1, 2, 0, 0), (123, 20, 0, 3, (-100), 23, 0, 0), (126, 42, 0, 1, 0, 0, 0, 0)]
def pm_I178 : List (Nat × pm_Ins) := [(0, 4, 0, 1, 0, 0, 0, 0), (1, 0, 0, 1, 0, 0, 0, 0), (2, 0, 0, 1, 0, 0, 0, 0), (3, 43, 0, 3, 0, 180, 0, 405), (6, 39, 1, 1, 0, 0, 0, 0)]
def pm_I179 : List (Nat × pm_Ins) := [(0, 0, 0, 1, 0, 0, 0, 0), (1, 5, 0, 1, 0, 1, 0, 0), (2, 2, 0, 1, 0, 1, 0, 0), (3, 4, 0, 1, 0, 0, 0, 0), (4, 24, 0, 3, 0, 39, 11, 336), (7, 22, 0, 3, 21, 28, 3, 0), (10, 4, 0, 1, 0, 0, 0, 0), (11, 26, 0, 3, 0, 52, 11, 119), (14, 2, 0, 1, 0, 1, 0, 0), (15, 4, 0, 1, 0, 0, 0, 0), (16, 26, 0, 3, 0, 36, 11, 92), (19, 2, 0, 1, 0, 1, 0, 0), (20, 32, 0, 1, 0, 0, 0, 0), (21, 36, 0, 1, 0, 0, 0, 0), (22, 8, 0, 3, 1, 1, 0, 0), (25, 20, 0, 3, (-23), 2, 0, 0), (28, 4, 0, 1, 0, 0, 0, 0), (29, 4, 0, 1, 0, 0, 0, 0), (30, 24, 0, 3, 0, 39, 11, 336), (33, 0, 0, 1, 0, 0, 0, 0), (34, 43, 0, 3, 0, 180, 0, 405), (37, 39, 1, 1, 0, 0, 0, 0)]
def pm_I180 : List (Nat × pm_Ins) := [(0, 4, 0, 1, 0, 0, 0, 0), (1, 2, 0, 1, 0, 1, 0, 0), (2, 2, 0, 1, 0, 2, 0, 0), (3, 43, 0, 3, 0, 173, 0, 383), (6, 6, 0, 1, 0, 3, 0, 0), (7, 3, 0, 1, 0, 3, 0, 0), (8, 4, 0, 1, 0, 0, 0, 0), (9, 25, 0, 3, 0, 51, 11, 242), (12, 13, 0, 1, 0, 0, 0, 0), (13, 21, 0, 3, 19, 32, 1, 0), (16, 4, 0, 1, 0, 0, 0, 0), (17, 24, 0, 3, 0, 50, 11, 387), (20, 0, 2, 3, 3000, 0, 0, 0), (23, 22, 0, 3, 7, 30, 4, 0), (26, 0, 0, 1, 1, 0, 0, 0), (27, 20, 0, 3, 4, 31, 0, 0), (30, 0, 0, 1, 0, 0, 0, 0), (31, 39, 1, 1, 0, 0, 0, 0), (32, 4, 0, 1, 0, 0, 0, 0), (33, 3, 0, 1, 0, 3, 0, 0), (34, 28, 0, 3, 0, 51, 11, 242), (37, 4, 0, 1, 0, 0, 0, 0), (38, 0, 0, 1, 0, 0, 0, 0), (39, 27, 0, 3, 0, 48, 11, 390), (42, 4, 0, 1, 0, 0, 0, 0), (43, 0, 0, 1, 0, 0, 0, 0), (44, 27, 0, 3, 0, 50, 11, 387), (47, 4, 0, 1, 0, 0, 0, 0), (48, 2, 0, 1, 0, 1, 0, 0), (49, 27, 0, 3, 0, 49, 11, 393), (52, 4, 0, 1, 0, 0, 0, 0), (53, 2, 0, 1, 0, 1, 0, 0), (54, 43, 0, 3, 0, 165, 0, 396), (57, 21, 0, 3, 5, 62, 1, 0), (60, 0, 0, 1, 1, 0, 0, 0), (61, 39, 1, 1, 0, 0, 0, 0), (62, 2, 0, 1, 0, 1, 0, 0), (63, 5, 1, 2, 0, 5, 0, 0), (65, 4, 0, 1, 0, 0, 0, 0), (66, 0, 0, 1, 1, 0, 0, 0), (67, 27, 0, 3, 0, 50, 11, 387), (70, 2, 1, 2, 0, 5, 0, 0), (72, 4, 0, 1, 0, 0, 0, 0), (73, 43, 0, 3, 0, 183, 0, 302), (76, 22, 0, 3, 7, 83, 1, 0), (79, 4, 0, 1, 0, 0, 0, 0), (80, 43, 0, 3, 0, 216, 0, 399), (83, 4, 0, 1, 0, 0, 0, 0), (84, 26, 0, 3, 0, 52, 11, 119), (87, 2, 1, 2, 0, 5, 0, 0), (89, 0, 0, 1, (-1), 0, 0, 0), (90, 36, 0, 1, 0, 0, 0, 0), (91, 2, 1, 2, 0, 5, 0, 0), (93, 2, 0, 1, 0, 1, 0, 0), (94, 22, 0, 3, 140, 234, 2, 0), (97, 4, 0, 1, 0, 0, 0, 0), (98, 24, 0, 3, 0, 50, 11, 387), (101, 0, 2, 3, 3000, 0, 0, 0), (104, 22, 0, 3, 130, 234, 4, 0), (107, 4, 0, 1, 0, 0, 0, 0), (108, 26, 0, 3, 0, 52, 11, 119), (111, 2, 1, 2, 0, 5, 0, 0), (113, 19, 0, 1, 0, 0, 0, 0), (114, 32, 0, 1, 0, 0, 0, 0), (115, 0, 0, 1, 1, 0, 0, 0), (116, 9, 0, 1, 0, 0, 0, 0), (117, 36, 0, 1, 0, 0, 0, 0), (118, 2, 1, 2, 0, 5, 0, 0), (120, 4, 0, 1, 0, 0, 0, 0), (121, 43, 0, 3, 0, 183, 0, 302), (124, 22, 0, 3, 22, 146, 0, 0), (127, 4, 0, 1, 0, 0, 0, 0), (128, 26, 0, 3, 0, 52, 11, 119), (131, 2, 1, 2, 0, 5, 0, 0), (133, 32, 0, 1, 0, 0, 0, 0), (134, 4, 0, 1, 0, 0, 0, 0), (135, 26, 0, 3, 0, 11, 11, 20), (138, 4, 0, 1, 0, 0, 0, 0), (139, 24, 0, 3, 0, 29, 11, 233), (142, 32, 0, 1, 0, 0, 0, 0), (143, 22, 0, 3, 9, 152, 2, 0), (146, 8, 0, 3, (-1), 5, 0, 0), (149, 20, 0, 3, (-58), 91, 0, 0), (152, 2, 0, 1, 0, 2, 0, 0), (153, 21, 0, 3, 30, 183, 0, 0), (156, 4, 0, 1, 0, 0, 0, 0), (157, 26, 0, 3, 0, 38, 11, 98), (160, 2, 1, 2, 0, 5, 0, 0), (162, 32, 0, 1, 0, 0, 0, 0), (163, 21, 0, 3, 20, 183, 2, 0), (166, 4, 0, 1, 0, 0, 0, 0), (167, 26, 0, 3, 0, 38, 11, 98), (170, 2, 1, 2, 0, 5, 0, 0), (172, 32, 0, 1, 0, 0, 0, 0), (173, 4, 0, 1, 0, 0, 0, 0), (174, 26, 0, 3, 0, 52, 11, 119), (177, 2, 1, 2, 0, 5, 0, 0), (179, 32, 0, 1, 0, 0, 0, 0), (180, 22, 0, 3, (-89), 91, 1, 0), (183, 4, 0, 1, 0, 0, 0, 0), (184, 2, 1, 2, 0, 5, 0, 0), (186, 0, 0, 1, 1, 0, 0, 0), (187, 9, 0, 1, 0, 0, 0, 0), (188, 43, 0, 3, 0, 165, 0, 396), (191, 21, 0, 3, 6, 197, 1, 0), (194, 20, 0, 3, (-103), 91, 0, 0), (197, 4, 0, 1, 0, 0, 0, 0), (198, 17, 0, 1, 0, 0, 0, 0), (199, 24, 0, 3, 0, 50, 11, 387), (202, 0, 0, 1, 1, 0, 0, 0), (203, 9, 0, 1, 0, 0, 0, 0), (204, 27, 0, 3, 0, 50, 11, 387), (207, 8, 0, 3, 1, 5, 0, 0), (210, 4, 0, 1, 0, 0, 0, 0), (211, 26, 0, 3, 0, 52, 11, 119), (214, 2, 1, 2, 0, 5, 0, 0), (216, 0, 0, 1, (-1), 0, 0, 0), (217, 36, 0, 1, 0, 0, 0, 0), (218, 2, 1, 2, 0, 5, 0, 0), (220, 4, 0, 1, 0, 0, 0, 0), (221, 43, 0, 3, 0, 183, 0, 302), (224, 22, 0, 3, (-133), 91, 1, 0), (227, 4, 0, 1, 0, 0, 0, 0), (228, 43, 0, 3, 0, 216, 0, 399), (231, 20, 0, 3, (-140), 91, 0, 0), (234, 4, 0, 1, 0, 0, 0, 0), (235, 24, 0, 3, 0, 50, 11, 387), (238, 0, 2, 3, 3000, 0, 0, 0), (241, 22, 0, 3, 7, 248, 4, 0), (244, 0, 0, 1, 1, 0, 0, 0), (245, 20, 0, 3, 4, 249, 0, 0), (248, 0, 0, 1, 0, 0, 0, 0), (249, 39, 1, 1, 0, 0, 0, 0)]
def pm_I181 : List (Nat × pm_Ins) := [(0, 0, 0, 1, 0, 0, 0, 0), (1, 5, 0, 1, 0, 1, 0, 0), (2, 2, 0, 1, 0, 1, 0, 0), (3, 0, 1, 2, 8, 0, 0, 0), (5, 22, 0, 3, 16, 21, 3, 0), (8, 4, 0, 1, 0, 0, 0, 0), (9, 26, 0, 3, 0, 60, 11, 131), (12, 2, 0, 1, 0, 1, 0, 0), (13, 0, 0, 1, 0, 0, 0, 0), (14, 36, 0, 1, 0, 0, 0, 0), (15, 8, 0, 3, 1, 1, 0, 0), (18, 20, 0, 3, (-16), 2, 0, 0), (21, 0, 0, 1, 1, 0, 0, 0), (22, 5, 0, 1, 0, 1, 0, 0), (23, 2, 0, 1, 0, 1, 0, 0), (24, 21, 0, 3, 95, 119, 0, 0), (27, 0, 0, 1, 0, 0, 0, 0), (28, 5, 0, 1, 0, 1, 0, 0), (29, 0, 1, 2, 24, 0, 0, 0), (31, 4, 0, 1, 0, 0, 0, 0), (32, 24, 0, 3, 0, 29, 11, 233), (35, 9, 0, 1, 0, 0, 2, 0), (36, 5, 0, 1, 0, 2, 0, 0), (37, 2, 0, 1, 0, 2, 0, 0), (38, 0, 1, 2, 24, 0, 0, 0), (40, 4, 0, 1, 0, 0, 0, 0), (41, 24, 0, 3, 0, 29, 11, 233), (44, 9, 0, 1, 0, 0, 2, 0), (45, 4, 0, 1, 0, 0, 0, 0), (46, 26, 0, 3, 0, 14, 11, 30), (49, 4, 0, 1, 0, 0, 0, 0), (50, 24, 0, 3, 0, 29, 11, 233), (53, 32, 0, 1, 0, 0, 0, 0), (54, 9, 0, 1, 0, 0, 0, 0), (55, 22, 0, 3, 61, 116, 3, 0), (58, 4, 0, 1, 0, 0, 0, 0), (59, 2, 0, 1, 0, 2, 0, 0), (60, 43, 0, 3, 0, 214, 0, 458), (63, 5, 0, 1, 0, 3, 0, 0), (64, 4, 0, 1, 0, 0, 0, 0), (65, 26, 0, 3, 0, 20, 11, 48), (68, 2, 0, 1, 0, 2, 0, 0), (69, 32, 0, 1, 0, 0, 0, 0), (70, 5, 1, 2, 0, 4, 0, 0), (72, 2, 0, 1, 0, 3, 0, 0), (73, 21, 0, 3, 37, 110, 0, 0), (76, 4, 0, 1, 0, 0, 0, 0), (77, 26, 0, 3, 0, 60, 11, 131), (80, 2, 1, 2, 0, 4, 0, 0), (82, 32, 0, 1, 0, 0, 0, 0), (83, 21, 0, 3, 17, 100, 5, 0), (86, 4, 0, 1, 0, 0, 0, 0), (87, 26, 0, 3, 0, 60, 11, 131), (90, 2, 1, 2, 0, 4, 0, 0), (92, 32, 0, 1, 0, 0, 0, 0), (93, 2, 0, 1, 0, 3, 0, 0), (94, 22, 0, 3, 6, 100, 4, 0), (97, 20, 0, 3, 13, 110, 0, 0), (100, 4, 0, 1, 0, 0, 0, 0), (101, 26, 0, 3, 0, 60, 11, 131), (104, 2, 1, 2, 0, 4, 0, 0), (106, 2, 0, 1, 0, 3, 0, 0), (107, 36, 0, 1, 0, 0, 0, 0), (108, 0, 0, 1, 1, 0, 0, 0), (109, 5, 0, 1, 0, 1, 0, 0), (110, 8, 0, 3, 1, 2, 0, 0), (113, 20, 0, 3, (-76), 37, 0, 0), (116, 20, 0, 3, (-93), 23, 0, 0), (119, 42, 0, 1, 0, 0, 0, 0)]
def pm_I182 : List (Nat × pm_Ins) := [(0, 2, 0, 1, 0, 1, 0, 0), (1, 0, 0, 1, 0, 0, 0, 0), (2, 4, 0, 1, 0, 0, 0, 0), (3, 24, 0, 3, 0, 59, 11, 248), (6, 0, 0, 1, 1, 0, 0, 0), (7, 9, 0, 1, 0, 0, 1, 0), (8, 44, 0, 3, 0, 162, 0, 298), (11, 21, 0, 3, 12, 23, 0, 0), (14, 4, 0, 1, 0, 0, 0, 0), (15, 26, 0, 3, 0, 58, 11, 128), (18, 2, 0, 1, 0, 1, 0, 0), (19, 32, 0, 1, 0, 0, 0, 0), (20, 20, 0, 3, 4, 24, 0, 0), (23, 0, 0, 1, (-1), 0, 0, 0), (24, 39, 0, 1, 0, 0, 0, 0)]
def pm_I183 : List (Nat × pm_Ins) := [(0, 4, 0, 1, 0, 0, 0, 0), (1, 26, 0, 3, 0, 15, 11, 33), (4, 4, 0, 1, 0, 0, 0, 0), (5, 24, 0, 3, 0, 29, 11, 233), (8, 32, 0, 1, 0, 0, 0, 0), (9, 39, 0, 1, 0, 0, 0, 0)]
def pm_I184 : List (Nat × pm_Ins) := [(0, 2, 0, 1, 0, 1, 0, 0), (1, 44, 0, 3, 0, 161, 0, 308), (4, 21, 0, 3, 17, 21, 0, 0), (7, 4, 0, 1, 0, 0, 0, 0), (8, 43, 0, 3, 0, 178, 0, 452), (11, 21, 0, 3, 10, 21, 0, 0), (14, 4, 0, 1, 0, 0, 0, 0), (15, 24, 0, 3, 0, 48, 11, 390), (18, 21, 0, 3, 7, 25, 1, 0), (21, 0, 4, 3, (-1000000), 0, 0, 311), (24, 39, 0, 1, 0, 0, 0, 0), (25, 0, 0, 1, 0, 0, 0, 0), (26, 5, 0, 1, 0, 2, 0, 0), (27, 0, 0, 1, 0, 0, 0, 0), (28, 5, 0, 1, 0, 3, 0, 0), (29, 2, 0, 1, 0, 3, 0, 0), (30, 0, 1, 2, 6, 0, 0, 0), (32, 22, 0, 3, 31, 63, 3, 0), (35, 4, 0, 1, 0, 0, 0, 0), (36, 2, 0, 1, 0, 3, 0, 0), (37, 43, 0, 3, 0, 221, 0, 455), (40, 2, 0, 1, 0, 2, 0, 0), (41, 4, 0, 1, 0, 0, 0, 0), (42, 26, 0, 3, 0, 45, 11, 110), (45, 0, 0, 1, 3, 0, 0, 0), (46, 4, 0, 1, 0, 0, 0, 0), (47, 0, 0, 1, 0, 0, 0, 0), (48, 43, 0, 3, 0, 195, 0, 440), (51, 9, 0, 1, 0, 0, 2, 0), (52, 2, 0, 1, 0, 1, 0, 0), (53, 9, 0, 1, 0, 0, 0, 0), (54, 32, 0, 1, 0, 0, 0, 0), (55, 9, 0, 1, 0, 0, 0, 0), (56, 5, 0, 1, 0, 2, 0, 0), (57, 8, 0, 3, 1, 3, 0, 0), (60, 20, 0, 3, (-31), 29, 0, 0), (63, 2, 0, 1, 0, 2, 0, 0), (64, 39, 0, 1, 0, 0, 0, 0)]
def pm_I185 : List (Nat × pm_Ins) := [(0, 2, 0, 1, 0, 1, 0, 0), (1, 44, 0, 3, 0, 161, 0, 308), (4, 21, 0, 3, 7, 11, 1, 0), (7, 0, 4, 3, (-1000000), 0, 0, 311), (10, 39, 0, 1, 0, 0, 0, 0), (11, 4, 0, 1, 0, 0, 0, 0), (12, 43, 0, 3, 0, 218, 0, 351), (15, 4, 0, 1, 0, 0, 0, 0), (16, 4, 0, 1, 0, 0, 0, 0), (17, 24, 0, 3, 0, 39, 11, 336), (20, 2, 0, 1, 0, 1, 0, 0), (21, 43, 0, 3, 0, 186, 0, 367), (24, 39, 0, 1, 0, 0, 0, 0)]
def pm_I186 : List (Nat × pm_Ins) := [(0, 0, 0, 1, 0, 0, 0, 0), (1, 5, 0, 1, 0, 3, 0, 0), (2, 0, 0, 1, 0, 0, 0, 0), (3, 5, 1, 2, 0, 4, 0, 0), (5, 2, 1, 2, 0, 4, 0, 0), (7, 2, 0, 1, 0, 1, 0, 0), (8, 22, 0, 3, 67, 75, 3, 0), (11, 2, 0, 1, 0, 3, 0, 0), (12, 4, 0, 1, 0, 0, 0, 0), (13, 26, 0, 3, 0, 18, 11, 42), (16, 0, 0, 1, 3, 0, 0, 0), (17, 0, 1, 2, 8, 0, 0, 0), (19, 4, 0, 1, 0, 0, 0, 0), (20, 24, 0, 3, 0, 29, 11, 233), (23, 9, 0, 1, 0, 0, 2, 0), (24, 4, 0, 1, 0, 0, 0, 0), (25, 26, 0, 3, 0, 31, 11, 77), (28, 2, 1, 2, 0, 4, 0, 0), (30, 32, 0, 1, 0, 0, 0, 0), (31, 9, 0, 1, 0, 0, 0, 0), (32, 9, 0, 1, 0, 0, 2, 0), (33, 2, 0, 1, 0, 2, 0, 0), (34, 9, 0, 1, 0, 0, 0, 0), (35, 32, 0, 1, 0, 0, 0, 0), (36, 2, 1, 2, 0, 4, 0, 0), (38, 21, 0, 3, 27, 65, 5, 0), (41, 4, 0, 1, 0, 0, 0, 0), (42, 4, 0, 1, 0, 0, 0, 0), (43, 26, 0, 3, 0, 31, 11, 77), (46, 2, 1, 2, 0, 4, 0, 0), (48, 0, 0, 1, 1, 0, 0, 0), (49, 9, 0, 1, 0, 0, 1, 0), (50, 32, 0, 1, 0, 0, 0, 0), (51, 4, 0, 1, 0, 0, 0, 0), (52, 26, 0, 3, 0, 31, 11, 77), (55, 2, 1, 2, 0, 4, 0, 0), (57, 32, 0, 1, 0, 0, 0, 0), (58, 2, 0, 1, 0, 2, 0, 0), (59, 43, 0, 3, 0, 194, 0, 312), (62, 20, 0, 3, 4, 66, 0, 0), (65, 0, 0, 1, 0, 0, 0, 0), (66, 9, 0, 1, 0, 0, 0, 0), (67, 9, 0, 1, 0, 0, 0, 0), (68, 5, 0, 1, 0, 3, 0, 0), (69, 8, 0, 3, 1, 4, 0, 0), (72, 20, 0, 3, (-67), 5, 0, 0), (75, 2, 0, 1, 0, 3, 0, 0), (76, 39, 0, 1, 0, 0, 0, 0)]
def pm_I187 : List (Nat × pm_Ins) := [(0, 4, 0, 1, 0, 0, 0, 0), (1, 4, 0, 1, 0, 0, 0, 0), (2, 24, 0, 3, 0, 8, 11, 192), (5, 0, 0, 1, 1, 0, 0, 0), (6, 22, 0, 3, 7, 13, 1, 0), (9, 0, 0, 1, 1, 0, 0, 0), (10, 20, 0, 3, 4, 14, 0, 0), (13, 0, 0, 1, 2, 0, 0, 0), (14, 4, 0, 1, 0, 0, 0, 0), (15, 24, 0, 3, 0, 6, 11, 185), (18, 43, 0, 3, 0, 145, 0, 213), (21, 42, 0, 1, 0, 0, 0, 0)]
def pm_I188 : List (Nat × pm_Ins) := [(0, 4, 0, 1, 0, 0, 0, 0), (1, 43, 0, 3, 0, 160, 0, 217), (4, 21, 0, 3, 4, 8, 1, 0), (7, 42, 0, 1, 0, 0, 0, 0), (8, 2, 0, 1, 0, 1, 0, 0), (9, 21, 0, 3, 10, 19, 0, 0), (12, 4, 0, 1, 0, 0, 0, 0), (13, 43, 0, 3, 0, 152, 0, 221), (16, 20, 0, 3, 7, 23, 0, 0), (19, 4, 0, 1, 0, 0, 0, 0), (20, 43, 0, 3, 0, 187, 0, 224), (23, 42, 0, 1, 0, 0, 0, 0)]
def pm_I189 : List (Nat × pm_Ins) := [(0, 0, 0, 1, 0, 0, 0, 0), (1, 5, 0, 1, 0, 1, 0, 0), (2, 0, 0, 1, 0, 0, 0, 0), (3, 5, 0, 1, 0, 2, 0, 0), (4, 2, 0, 1, 0, 2, 0, 0), (5, 4, 0, 1, 0, 0, 0, 0), (6, 26, 0, 3, 0, 11, 11, 20), (9, 4, 0, 1, 0, 0, 0, 0), (10, 24, 0, 3, 0, 29, 11, 233), (13, 32, 0, 1, 0, 0, 0, 0), (14, 22, 0, 3, 27, 41, 3, 0), (17, 2, 0, 1, 0, 1, 0, 0), (18, 4, 0, 1, 0, 0, 0, 0), (19, 2, 0, 1, 0, 2, 0, 0), (20, 43, 0, 3, 0, 136, 0, 360), (23, 21, 0, 3, 9, 32, 0, 0), (26, 0, 0, 1, 1, 0, 0, 0), (27, 2, 0, 1, 0, 2, 0, 0), (28, 9, 0, 1, 0, 0, 6, 0), (29, 20, 0, 3, 4, 33, 0, 0), (32, 0, 0, 1, 0, 0, 0, 0), (33, 9, 0, 1, 0, 0, 4, 0), (34, 5, 0, 1, 0, 1, 0, 0), (35, 8, 0, 3, 1, 2, 0, 0), (38, 20, 0, 3, (-34), 4, 0, 0), (41, 2, 0, 1, 0, 1, 0, 0), (42, 39, 0, 1, 0, 0, 0, 0)]
def pm_I190 : List (Nat × pm_Ins) := [(0, 4, 0, 1, 0, 0, 0, 0), (1, 43, 0, 3, 0, 160, 0, 217), (4, 21, 0, 3, 5, 9, 1, 0), (7, 2, 0, 1, 0, 1, 0, 0), (8, 39, 0, 1, 0, 0, 0, 0), (9, 4, 0, 1, 0, 0, 0, 0), (10, 24, 0, 3, 0, 8, 11, 192), (13, 0, 0, 1, 4, 0, 0, 0), (14, 22, 0, 3, 7, 21, 0, 0), (17, 4, 0, 1, 0, 0, 0, 0), (18, 43, 0, 3, 0, 187, 0, 224), (21, 4, 0, 1, 0, 0, 0, 0), (22, 43, 0, 3, 0, 160, 0, 217), (25, 21, 0, 3, 28, 53, 0, 0), (28, 4, 0, 1, 0, 0, 0, 0), (29, 24, 0, 3, 0, 9, 11, 210), (32, 2, 0, 1, 0, 1, 0, 0), (33, 22, 0, 3, 11, 44, 2, 0), (36, 4, 0, 1, 0, 0, 0, 0), (37, 24, 0, 3, 0, 9, 11, 210), (40, 2, 0, 1, 0, 2, 0, 0), (41, 22, 0, 3, 12, 53, 5, 0), (44, 4, 0, 1, 0, 0, 0, 0), (45, 0, 0, 1, 4, 0, 0, 0), (46, 4, 0, 1, 0, 0, 0, 0), (47, 24, 0, 3, 0, 6, 11, 185), (50, 43, 0, 3, 0, 145, 0, 213), (53, 4, 0, 1, 0, 0, 0, 0), (54, 24, 0, 3, 0, 9, 11, 210), (57, 5, 0, 1, 0, 3, 0, 0), (58, 4, 0, 1, 0, 0, 0, 0), (59, 43, 0, 3, 0, 160, 0, 217), (62, 21, 0, 3, 7, 69, 0, 0), (65, 4, 0, 1, 0, 0, 0, 0), (66, 43, 0, 3, 0, 152, 0, 221), (69, 4, 0, 1, 0, 0, 0, 0), (70, 43, 0, 3, 0, 160, 0, 217), (73, 21, 0, 3, 7, 80, 0, 0), (76, 2, 0, 1, 0, 3, 0, 0), (77, 20, 0, 3, 4, 81, 0, 0), (80, 2, 0, 1, 0, 1, 0, 0), (81, 39, 0, 1, 0, 0, 0, 0)]
def pm_I191 : List (Nat × pm_Ins) := [(0, 2, 0, 1, 0, 0, 0, 0), (1, 0, 0, 1, 2, 0, 0, 0), (2, 9, 0, 1, 0, 0, 9, 0), (3, 5, 0, 1, 0, 2, 0, 0), (4, 2, 0, 1, 0, 2, 0, 0), (5, 21, 0, 3, 7, 12, 1, 0), (8, 0, 0, 1, 1, 0, 0, 0), (9, 20, 0, 3, 4, 13, 0, 0), (12, 0, 0, 1, 0, 0, 0, 0), (13, 5, 0, 1, 0, 3, 0, 0), (14, 0, 0, 1, 3, 0, 0, 0), (15, 2, 0, 1, 0, 2, 0, 0), (16, 9, 0, 1, 0, 0, 1, 0), (17, 2, 0, 1, 0, 3, 0, 0), (18, 9, 0, 1, 0, 0, 1, 0), (19, 5, 1, 2, 0, 4, 0, 0), (21, 2, 0, 1, 0, 1, 0, 0), (22, 0, 0, 1, 3, 0, 0, 0), (23, 9, 0, 1, 0, 0, 8, 0), (24, 5, 1, 2, 0, 5, 0, 0), (26, 2, 1, 2, 0, 5, 0, 0), (28, 21, 0, 3, 5, 33, 1, 0), (31, 2, 0, 1, 0, 2, 0, 0), (32, 39, 0, 1, 0, 0, 0, 0), (33, 2, 1, 2, 0, 5, 0, 0), (35, 0, 0, 1, 1, 0, 0, 0), (36, 22, 0, 3, 7, 43, 1, 0), (39, 0, 0, 1, 1, 0, 0, 0), (40, 20, 0, 3, 4, 44, 0, 0), (43, 0, 0, 1, 0, 0, 0, 0), (44, 2, 0, 1, 0, 0, 0, 0), (45, 0, 0, 1, 2, 0, 0, 0), (46, 9, 0, 1, 0, 0, 8, 0), (47, 21, 0, 3, 7, 54, 1, 0), (50, 0, 0, 1, 1, 0, 0, 0), (51, 20, 0, 3, 4, 55, 0, 0), (54, 0, 0, 1, 0, 0, 0, 0), (55, 22, 0, 3, 7, 62, 1, 0), (58, 2, 0, 1, 0, 3, 0, 0), (59, 20, 0, 3, 5, 64, 0, 0), (62, 2, 1, 2, 0, 4, 0, 0), (64, 39, 0, 1, 0, 0, 0, 0)]
def pm_I192 : List (Nat × pm_Ins) := [(0, 4, 0, 1, 0, 0, 0, 0), (1, 43, 0, 3, 0, 178, 0, 452), (4, 21, 0, 3, 6, 10, 1, 0), (7, 0, 1, 2, (-2), 0, 0, 0), (9, 39, 0, 1, 0, 0, 0, 0), (10, 0, 0, 1, 0, 0, 0, 0), (11, 5, 0, 1, 0, 2, 0, 0), (12, 0, 0, 1, 0, 0, 0, 0), (13, 5, 0, 1, 0, 3, 0, 0), (14, 2, 0, 1, 0, 3, 0, 0), (15, 0, 1, 2, 6, 0, 0, 0), (17, 22, 0, 3, 44, 61, 3, 0), (20, 4, 0, 1, 0, 0, 0, 0), (21, 24, 0, 3, 0, 48, 11, 390), (24, 21, 0, 3, 37, 61, 5, 0), (27, 4, 0, 1, 0, 0, 0, 0), (28, 2, 0, 1, 0, 3, 0, 0), (29, 43, 0, 3, 0, 221, 0, 455), (32, 2, 0, 1, 0, 2, 0, 0), (33, 4, 0, 1, 0, 0, 0, 0), (34, 4, 0, 1, 0, 0, 0, 0), (35, 0, 0, 1, 0, 0, 0, 0), (36, 43, 0, 3, 0, 195, 0, 440), (39, 2, 0, 1, 0, 1, 0, 0), (40, 43, 0, 3, 0, 169, 0, 477), (43, 21, 0, 3, 9, 52, 0, 0), (46, 0, 0, 1, 1, 0, 0, 0), (47, 2, 0, 1, 0, 3, 0, 0), (48, 9, 0, 1, 0, 0, 6, 0), (49, 20, 0, 3, 4, 53, 0, 0), (52, 0, 0, 1, 0, 0, 0, 0), (53, 9, 0, 1, 0, 0, 4, 0), (54, 5, 0, 1, 0, 2, 0, 0), (55, 8, 0, 3, 1, 3, 0, 0), (58, 20, 0, 3, (-44), 14, 0, 0), (61, 2, 0, 1, 0, 2, 0, 0), (62, 39, 0, 1, 0, 0, 0, 0)]
def pm_I193 : List (Nat × pm_Ins) := [(0, 0, 0, 1, 0, 0, 0, 0), (1, 5, 0, 1, 0, 1, 0, 0), (2, 0, 0, 1, 0, 0, 0, 0), (3, 5, 0, 1, 0, 2, 0, 0), (4, 2, 0, 1, 0, 2, 0, 0), (5, 4, 0, 1, 0, 0, 0, 0), (6, 43, 0, 3, 0, 183, 0, 302), (9, 22, 0, 3, 20, 29, 3, 0), (12, 2, 0, 1, 0, 1, 0, 0), (13, 0, 0, 1, 3, 0, 0, 0), (14, 9, 0, 1, 0, 0, 6, 0), (15, 4, 0, 1, 0, 0, 0, 0), (16, 26, 0, 3, 0, 31, 11, 77), (19, 2, 0, 1, 0, 2, 0, 0), (20, 32, 0, 1, 0, 0, 0, 0), (21, 9, 0, 1, 0, 0, 4, 0), (22, 5, 0, 1, 0, 1, 0, 0), (23, 8, 0, 3, 1, 2, 0, 0), (26, 20, 0, 3, (-22), 4, 0, 0), (29, 2, 0, 1, 0, 1, 0, 0), (30, 39, 0, 1, 0, 0, 0, 0)]
def pm_I194 : List (Nat × pm_Ins) := [(0, 4, 0, 1, 0, 0, 0, 0), (1, 26, 0, 3, 0, 24, 11, 60), (4, 0, 1, 2, 64, 0, 0, 0), (6, 4, 0, 1, 0, 0, 0, 0), (7, 24, 0, 3, 0, 29, 11, 233), (10, 9, 0, 1, 0, 0, 2, 0), (11, 0, 1, 2, 8, 0, 0, 0), (13, 2, 0, 1, 0, 1, 0, 0), (14, 9, 0, 1, 0, 0, 2, 0), (15, 9, 0, 1, 0, 0, 0, 0), (16, 2, 0, 1, 0, 2, 0, 0), (17, 9, 0, 1, 0, 0, 0, 0), (18, 33, 0, 1, 0, 0, 0, 0), (19, 21, 0, 3, 29, 48, 0, 0), (22, 4, 0, 1, 0, 0, 0, 0), (23, 26, 0, 3, 0, 19, 11, 45), (26, 0, 0, 1, 3, 0, 0, 0), (27, 0, 1, 2, 64, 0, 0, 0), (29, 4, 0, 1, 0, 0, 0, 0), (30, 24, 0, 3, 0, 29, 11, 233), (33, 9, 0, 1, 0, 0, 2, 0), (34, 0, 1, 2, 8, 0, 0, 0), (36, 2, 0, 1, 0, 1, 0, 0), (37, 9, 0, 1, 0, 0, 2, 0), (38, 9, 0, 1, 0, 0, 0, 0), (39, 2, 0, 1, 0, 2, 0, 0), (40, 9, 0, 1, 0, 0, 0, 0), (41, 9, 0, 1, 0, 0, 2, 0), (42, 2, 0, 1, 0, 3, 0, 0), (43, 9, 0, 1, 0, 0, 0, 0), (44, 32, 0, 1, 0, 0, 0, 0), (45, 20, 0, 3, 4, 49, 0, 0), (48, 0, 0, 1, 0, 0, 0, 0), (49, 39, 0, 1, 0, 0, 0, 0)]
def pm_I195 : List (Nat × pm_Ins) := [(0, 4, 0, 1, 0, 0, 0, 0), (1, 24, 0, 3, 0, 48, 11, 390), (4, 5, 0, 1, 0, 2, 0, 0), (5, 0, 0, 1, 0, 0, 0, 0), (6, 5, 0, 1, 0, 3, 0, 0), (7, 2, 0, 1, 0, 3, 0, 0), (8, 2, 0, 1, 0, 2, 0, 0), (9, 22, 0, 3, 16, 25, 3, 0), (12, 4, 0, 1, 0, 0, 0, 0), (13, 26, 0, 3, 0, 46, 11, 113), (16, 2, 0, 1, 0, 3, 0, 0), (17, 2, 0, 1, 0, 3, 0, 0), (18, 36, 0, 1, 0, 0, 0, 0), (19, 8, 0, 3, 1, 3, 0, 0), (22, 20, 0, 3, (-15), 7, 0, 0), (25, 4, 0, 1, 0, 0, 0, 0), (26, 43, 0, 3, 0, 183, 0, 302), (29, 0, 0, 1, 1, 0, 0, 0), (30, 9, 0, 1, 0, 0, 1, 0), (31, 5, 0, 1, 0, 3, 0, 0), (32, 2, 0, 1, 0, 3, 0, 0), (33, 4, 0, 1, 0, 0, 0, 0), (34, 24, 0, 3, 0, 49, 11, 393), (37, 22, 0, 3, 149, 186, 2, 0), (40, 0, 0, 1, 0, 0, 0, 0), (41, 5, 1, 2, 0, 4, 0, 0), (43, 0, 0, 1, 0, 0, 0, 0), (44, 5, 1, 2, 0, 5, 0, 0), (46, 2, 1, 2, 0, 5, 0, 0), (48, 2, 0, 1, 0, 2, 0, 0), (49, 22, 0, 3, 99, 148, 3, 0), (52, 2, 1, 2, 0, 4, 0, 0), (54, 21, 0, 3, 71, 125, 5, 0), (57, 4, 0, 1, 0, 0, 0, 0), (58, 4, 0, 1, 0, 0, 0, 0), (59, 26, 0, 3, 0, 46, 11, 113), (62, 2, 1, 2, 0, 5, 0, 0), (64, 32, 0, 1, 0, 0, 0, 0), (65, 4, 0, 1, 0, 0, 0, 0), (66, 26, 0, 3, 0, 47, 11, 116), (69, 2, 1, 2, 0, 4, 0, 0), (71, 0, 0, 1, 1, 0, 0, 0), (72, 9, 0, 1, 0, 0, 1, 0), (73, 32, 0, 1, 0, 0, 0, 0), (74, 2, 0, 1, 0, 3, 0, 0), (75, 43, 0, 3, 0, 129, 0, 424), (78, 21, 0, 3, 47, 125, 0, 0), (81, 4, 0, 1, 0, 0, 0, 0), (82, 4, 0, 1, 0, 0, 0, 0), (83, 26, 0, 3, 0, 46, 11, 113), (86, 2, 1, 2, 0, 5, 0, 0), (88, 32, 0, 1, 0, 0, 0, 0), (89, 4, 0, 1, 0, 0, 0, 0), (90, 26, 0, 3, 0, 47, 11, 116), (93, 2, 1, 2, 0, 4, 0, 0), (95, 0, 0, 1, 1, 0, 0, 0), (96, 9, 0, 1, 0, 0, 1, 0), (97, 32, 0, 1, 0, 0, 0, 0), (98, 2, 0, 1, 0, 3, 0, 0), (99, 2, 0, 1, 0, 1, 0, 0), (100, 43, 0, 3, 0, 157, 0, 427), (103, 21, 0, 3, 39, 142, 0, 0), (106, 4, 0, 1, 0, 0, 0, 0), (107, 26, 0, 3, 0, 47, 11, 116), (110, 2, 1, 2, 0, 4, 0, 0), (112, 0, 0, 1, 1, 0, 0, 0), (113, 9, 0, 1, 0, 0, 1, 0), (114, 4, 0, 1, 0, 0, 0, 0), (115, 26, 0, 3, 0, 46, 11, 113), (118, 2, 1, 2, 0, 5, 0, 0), (120, 32, 0, 1, 0, 0, 0, 0), (121, 36, 0, 1, 0, 0, 0, 0), (122, 20, 0, 3, 20, 142, 0, 0), (125, 4, 0, 1, 0, 0, 0, 0), (126, 26, 0, 3, 0, 47, 11, 116), (129, 2, 1, 2, 0, 4, 0, 0), (131, 4, 0, 1, 0, 0, 0, 0), (132, 26, 0, 3, 0, 46, 11, 113), (135, 2, 1, 2, 0, 5, 0, 0), (137, 32, 0, 1, 0, 0, 0, 0), (138, 36, 0, 1, 0, 0, 0, 0), (139, 8, 0, 3, 1, 4, 0, 0), (142, 8, 0, 3, 1, 5, 0, 0), (145, 20, 0, 3, (-99), 46, 0, 0), (148, 2, 1, 2, 0, 4, 0, 0), (150, 5, 0, 1, 0, 2, 0, 0), (151, 0, 0, 1, 0, 0, 0, 0), (152, 5, 1, 2, 0, 5, 0, 0), (154, 2, 1, 2, 0, 5, 0, 0), (156, 2, 0, 1, 0, 2, 0, 0), (157, 22, 0, 3, 23, 180, 3, 0), (160, 4, 0, 1, 0, 0, 0, 0), (161, 26, 0, 3, 0, 46, 11, 113), (164, 2, 1, 2, 0, 5, 0, 0), (166, 4, 0, 1, 0, 0, 0, 0), (167, 26, 0, 3, 0, 47, 11, 116), (170, 2, 1, 2, 0, 5, 0, 0), (172, 32, 0, 1, 0, 0, 0, 0), (173, 36, 0, 1, 0, 0, 0, 0), (174, 8, 0, 3, 1, 5, 0, 0), (177, 20, 0, 3, (-23), 154, 0, 0), (180, 8, 0, 3, (-1), 3, 0, 0), (183, 20, 0, 3, (-151), 32, 0, 0), (186, 2, 0, 1, 0, 2, 0, 0), (187, 21, 0, 3, 7, 194, 1, 0), (190, 0, 0, 1, (-1), 0, 0, 0), (191, 20, 0, 3, 9, 200, 0, 0), (194, 4, 0, 1, 0, 0, 0, 0), (195, 26, 0, 3, 0, 46, 11, 113), (198, 0, 0, 1, 0, 0, 0, 0), (199, 32, 0, 1, 0, 0, 0, 0), (200, 39, 0, 1, 0, 0, 0, 0)]
def pm_I196 : List (Nat × pm_Ins) := [(0, 4, 0, 1, 0, 0, 0, 0), (1, 0, 0, 1, 0, 0, 0, 0), (2, 27, 0, 3, 0, 4, 11, 167), (5, 4, 0, 1, 0, 0, 0, 0), (6, 0, 0, 1, (-1), 0, 0, 0), (7, 27, 0, 3, 0, 5, 11, 16), (10, 4, 0, 1, 0, 0, 0, 0), (11, 4, 0, 1, 0, 0, 0, 0), (12, 24, 0, 3, 0, 2, 11, 230), (15, 27, 0, 3, 0, 3, 11, 164), (18, 0, 0, 1, 0, 0, 0, 0), (19, 5, 0, 1, 0, 1, 0, 0), (20, 2, 0, 1, 0, 1, 0, 0), (21, 4, 0, 1, 0, 0, 0, 0), (22, 24, 0, 3, 0, 3, 11, 164), (25, 22, 0, 3, 21, 46, 3, 0), (28, 4, 0, 1, 0, 0, 0, 0), (29, 26, 0, 3, 0, 1, 11, 13), (32, 2, 0, 1, 0, 1, 0, 0), (33, 4, 0, 1, 0, 0, 0, 0), (34, 26, 0, 3, 0, 0, 11, 7), (37, 2, 0, 1, 0, 1, 0, 0), (38, 33, 0, 1, 0, 0, 0, 0), (39, 37, 0, 1, 0, 0, 0, 0), (40, 8, 0, 3, 1, 1, 0, 0), (43, 20, 0, 3, (-23), 20, 0, 0), (46, 4, 0, 1, 0, 0, 0, 0), (47, 0, 0, 1, 0, 0, 0, 0), (48, 27, 0, 3, 0, 2, 11, 230), (51, 4, 0, 1, 0, 0, 0, 0), (52, 0, 0, 1, 0, 0, 0, 0), (53, 27, 0, 3, 0, 7, 11, 182), (56, 4, 0, 1, 0, 0, 0, 0), (57, 0, 0, 1, 1, 0, 0, 0), (58, 4, 0, 1, 0, 0, 0, 0), (59, 24, 0, 3, 0, 29, 11, 233), (62, 9, 0, 1, 0, 0, 1, 0), (63, 27, 0, 3, 0, 30, 11, 227), (66, 4, 0, 1, 0, 0, 0, 0), (67, 43, 0, 3, 0, 138, 0, 158), (70, 4, 0, 1, 0, 0, 0, 0), (71, 43, 0, 3, 0, 152, 0, 221), (74, 4, 0, 1, 0, 0, 0, 0), (75, 43, 0, 3, 0, 160, 0, 217), (78, 21, 0, 3, 17, 95, 0, 0), (81, 4, 0, 1, 0, 0, 0, 0), (82, 24, 0, 3, 0, 8, 11, 192), (85, 21, 0, 3, 10, 95, 0, 0), (88, 4, 0, 1, 0, 0, 0, 0), (89, 43, 0, 3, 0, 198, 0, 236), (92, 20, 0, 3, (-18), 74, 0, 0), (95, 4, 0, 1, 0, 0, 0, 0), (96, 43, 0, 3, 0, 160, 0, 217), (99, 21, 0, 3, 7, 106, 0, 0), (102, 4, 0, 1, 0, 0, 0, 0), (103, 43, 0, 3, 0, 209, 0, 239), (106, 4, 0, 1, 0, 0, 0, 0), (107, 43, 0, 3, 0, 160, 0, 217), (110, 21, 0, 3, 5, 115, 1, 0), (113, 0, 0, 1, (-1), 0, 0, 0), (114, 39, 0, 1, 0, 0, 0, 0), (115, 4, 0, 1, 0, 0, 0, 0), (116, 4, 0, 1, 0, 0, 0, 0), (117, 24, 0, 3, 0, 30, 11, 227), (120, 27, 0, 3, 0, 29, 11, 233), (123, 4, 0, 1, 0, 0, 0, 0), (124, 1, 0, 1, 0, 0, 0, 0), (125, 28, 0, 3, 0, 51, 11, 242), (128, 4, 0, 1, 0, 0, 0, 0), (129, 43, 0, 3, 0, 132, 0, 161), (132, 0, 0, 1, 0, 0, 0, 0), (133, 5, 0, 1, 0, 1, 0, 0), (134, 2, 0, 1, 0, 1, 0, 0), (135, 0, 1, 2, 6, 0, 0, 0), (137, 22, 0, 3, 16, 153, 3, 0), (140, 4, 0, 1, 0, 0, 0, 0), (141, 26, 0, 3, 0, 38, 11, 98), (144, 2, 0, 1, 0, 1, 0, 0), (145, 0, 0, 1, (-1), 0, 0, 0), (146, 36, 0, 1, 0, 0, 0, 0), (147, 8, 0, 3, 1, 1, 0, 0), (150, 20, 0, 3, (-16), 134, 0, 0), (153, 4, 0, 1, 0, 0, 0, 0), (154, 0, 0, 1, 0, 0, 0, 0), (155, 27, 0, 3, 0, 66, 11, 245), (158, 4, 0, 1, 0, 0, 0, 0), (159, 0, 0, 1, 0, 0, 0, 0), (160, 27, 0, 3, 0, 59, 11, 248), (163, 0, 0, 1, 0, 0, 0, 0), (164, 5, 0, 1, 0, 1, 0, 0), (165, 2, 0, 1, 0, 1, 0, 0), (166, 0, 0, 1, 3, 0, 0, 0), (167, 22, 0, 3, 16, 183, 3, 0), (170, 4, 0, 1, 0, 0, 0, 0), (171, 26, 0, 3, 0, 68, 11, 149), (174, 2, 0, 1, 0, 1, 0, 0), (175, 0, 0, 1, (-1), 0, 0, 0), (176, 36, 0, 1, 0, 0, 0, 0), (177, 8, 0, 3, 1, 1, 0, 0), (180, 20, 0, 3, (-15), 165, 0, 0), (183, 4, 0, 1, 0, 0, 0, 0), (184, 26, 0, 3, 0, 11, 11, 20), (187, 4, 0, 1, 0, 0, 0, 0), (188, 24, 0, 3, 0, 29, 11, 233), (191, 32, 0, 1, 0, 0, 0, 0), (192, 39, 0, 1, 0, 0, 0, 0)]
def pm_I197 : List (Nat × pm_Ins) := [(0, 4, 0, 1, 0, 0, 0, 0), (1, 24, 0, 3, 0, 8, 11, 192), (4, 0, 0, 1, 2, 0, 0, 0), (5, 22, 0, 3, 17, 22, 1, 0), (8, 4, 0, 1, 0, 0, 0, 0), (9, 26, 0, 3, 0, 14, 11, 30), (12, 4, 0, 1, 0, 0, 0, 0), (13, 24, 0, 3, 0, 30, 11, 227), (16, 32, 0, 1, 0, 0, 0, 0), (17, 0, 1, 2, 24, 0, 0, 0), (19, 22, 0, 3, 7, 26, 1, 0), (22, 4, 0, 1, 0, 0, 0, 0), (23, 43, 0, 3, 0, 187, 0, 224), (26, 4, 0, 1, 0, 0, 0, 0), (27, 43, 0, 3, 0, 160, 0, 217), (30, 21, 0, 3, 4, 34, 1, 0), (33, 42, 0, 1, 0, 0, 0, 0), (34, 0, 1, 2, 24, 0, 0, 0), (36, 4, 0, 1, 0, 0, 0, 0), (37, 24, 0, 3, 0, 30, 11, 227), (40, 9, 0, 1, 0, 0, 2, 0), (41, 4, 0, 1, 0, 0, 0, 0), (42, 26, 0, 3, 0, 14, 11, 30), (45, 4, 0, 1, 0, 0, 0, 0), (46, 24, 0, 3, 0, 30, 11, 227), (49, 32, 0, 1, 0, 0, 0, 0), (50, 9, 0, 1, 0, 0, 0, 0), (51, 5, 0, 1, 0, 1, 0, 0), (52, 4, 0, 1, 0, 0, 0, 0), (53, 26, 0, 3, 0, 20, 11, 48), (56, 2, 0, 1, 0, 1, 0, 0), (57, 4, 0, 1, 0, 0, 0, 0), (58, 26, 0, 3, 0, 13, 11, 27), (61, 4, 0, 1, 0, 0, 0, 0), (62, 24, 0, 3, 0, 30, 11, 227), (65, 32, 0, 1, 0, 0, 0, 0), (66, 36, 0, 1, 0, 0, 0, 0), (67, 4, 0, 1, 0, 0, 0, 0), (68, 26, 0, 3, 0, 21, 11, 51), (71, 2, 0, 1, 0, 1, 0, 0), (72, 0, 0, 1, 0, 0, 0, 0), (73, 36, 0, 1, 0, 0, 0, 0), (74, 4, 0, 1, 0, 0, 0, 0), (75, 26, 0, 3, 0, 14, 11, 30), (78, 4, 0, 1, 0, 0, 0, 0), (79, 24, 0, 3, 0, 30, 11, 227), (82, 19, 0, 1, 0, 0, 0, 0), (83, 32, 0, 1, 0, 0, 0, 0), (84, 0, 0, 1, 1, 0, 0, 0), (85, 9, 0, 1, 0, 0, 0, 0), (86, 36, 0, 1, 0, 0, 0, 0), (87, 4, 0, 1, 0, 0, 0, 0), (88, 43, 0, 3, 0, 160, 0, 217), (91, 21, 0, 3, 81, 172, 0, 0), (94, 4, 0, 1, 0, 0, 0, 0), (95, 24, 0, 3, 0, 8, 11, 192), (98, 0, 0, 1, 2, 0, 0, 0), (99, 22, 0, 3, 73, 172, 1, 0), (102, 4, 0, 1, 0, 0, 0, 0), (103, 26, 0, 3, 0, 21, 11, 51), (106, 2, 0, 1, 0, 1, 0, 0), (107, 32, 0, 1, 0, 0, 0, 0), (108, 0, 0, 1, 4, 0, 0, 0), (109, 22, 0, 3, 8, 117, 1, 0), (112, 4, 0, 1, 0, 0, 0, 0), (113, 43, 0, 3, 0, 187, 0, 224), (116, 42, 0, 1, 0, 0, 0, 0), (117, 4, 0, 1, 0, 0, 0, 0), (118, 26, 0, 3, 0, 28, 11, 74), (121, 0, 0, 1, 4, 0, 0, 0), (122, 2, 0, 1, 0, 1, 0, 0), (123, 9, 0, 1, 0, 0, 2, 0), (124, 4, 0, 1, 0, 0, 0, 0), (125, 26, 0, 3, 0, 21, 11, 51), (128, 2, 0, 1, 0, 1, 0, 0), (129, 32, 0, 1, 0, 0, 0, 0), (130, 9, 0, 1, 0, 0, 0, 0), (131, 4, 0, 1, 0, 0, 0, 0), (132, 25, 0, 3, 0, 10, 11, 199), (135, 38, 0, 1, 0, 0, 0, 0), (136, 4, 0, 1, 0, 0, 0, 0), (137, 26, 0, 3, 0, 23, 11, 57), (140, 0, 0, 1, 4, 0, 0, 0), (141, 2, 0, 1, 0, 1, 0, 0), (142, 9, 0, 1, 0, 0, 2, 0), (143, 4, 0, 1, 0, 0, 0, 0), (144, 26, 0, 3, 0, 21, 11, 51), (147, 2, 0, 1, 0, 1, 0, 0), (148, 32, 0, 1, 0, 0, 0, 0), (149, 9, 0, 1, 0, 0, 0, 0), (150, 4, 0, 1, 0, 0, 0, 0), (151, 24, 0, 3, 0, 6, 11, 185), (154, 36, 0, 1, 0, 0, 0, 0), (155, 4, 0, 1, 0, 0, 0, 0), (156, 26, 0, 3, 0, 21, 11, 51), (159, 2, 0, 1, 0, 1, 0, 0), (160, 19, 0, 1, 0, 0, 0, 0), (161, 32, 0, 1, 0, 0, 0, 0), (162, 0, 0, 1, 1, 0, 0, 0), (163, 9, 0, 1, 0, 0, 0, 0), (164, 36, 0, 1, 0, 0, 0, 0), (165, 4, 0, 1, 0, 0, 0, 0), (166, 43, 0, 3, 0, 152, 0, 221), (169, 20, 0, 3, (-82), 87, 0, 0), (172, 42, 0, 1, 0, 0, 0, 0)]
def pm_I198 : List (Nat × pm_Ins) := [(0, 4, 0, 1, 0, 0, 0, 0), (1, 25, 0, 3, 0, 10, 11, 199), (4, 6, 0, 1, 0, 1, 0, 0), (5, 4, 0, 1, 0, 0, 0, 0), (6, 24, 0, 3, 0, 8, 11, 192), (9, 0, 0, 1, 3, 0, 0, 0), (10, 22, 0, 3, 10, 20, 1, 0), (13, 4, 0, 1, 0, 0, 0, 0), (14, 43, 0, 3, 0, 159, 0, 254), (17, 21, 0, 3, 7, 24, 0, 0), (20, 4, 0, 1, 0, 0, 0, 0), (21, 43, 0, 3, 0, 187, 0, 224), (24, 4, 0, 1, 0, 0, 0, 0), (25, 43, 0, 3, 0, 160, 0, 217), (28, 21, 0, 3, 4, 32, 1, 0), (31, 42, 0, 1, 0, 0, 0, 0), (32, 4, 0, 1, 0, 0, 0, 0), (33, 43, 0, 3, 0, 152, 0, 221), (36, 3, 0, 1, 0, 1, 0, 0), (37, 1, 1, 3, 2003792484, 0, 0, 170), (40, 13, 0, 1, 0, 0, 0, 0), (41, 21, 0, 3, 7, 48, 1, 0), (44, 4, 0, 1, 0, 0, 0, 0), (45, 43, 0, 3, 0, 202, 0, 257), (48, 3, 0, 1, 0, 1, 0, 0), (49, 1, 1, 3, 1885432178, 0, 0, 172), (52, 13, 0, 1, 0, 0, 0, 0), (53, 21, 0, 3, 7, 60, 1, 0), (56, 4, 0, 1, 0, 0, 0, 0), (57, 43, 0, 3, 0, 199, 0, 260), (60, 3, 0, 1, 0, 1, 0, 0), (61, 1, 1, 3, 1920298085, 0, 0, 174), (64, 13, 0, 1, 0, 0, 0, 0), (65, 21, 0, 3, 7, 72, 1, 0), (68, 4, 0, 1, 0, 0, 0, 0), (69, 43, 0, 3, 0, 200, 0, 263), (72, 3, 0, 1, 0, 1, 0, 0), (73, 1, 1, 3, 119182899770472, 0, 0, 178), (76, 13, 0, 1, 0, 0, 0, 0), (77, 21, 0, 3, 29, 106, 1, 0), (80, 4, 0, 1, 0, 0, 0, 0), (81, 26, 0, 3, 0, 25, 11, 64), (84, 4, 0, 1, 0, 0, 0, 0), (85, 24, 0, 3, 0, 30, 11, 227), (88, 0, 0, 1, 1, 0, 0, 0), (89, 37, 0, 1, 0, 0, 0, 0), (90, 4, 0, 1, 0, 0, 0, 0), (91, 26, 0, 3, 0, 15, 11, 33), (94, 4, 0, 1, 0, 0, 0, 0), (95, 24, 0, 3, 0, 30, 11, 227), (98, 4, 0, 1, 0, 0, 0, 0), (99, 0, 0, 1, 1, 0, 0, 0), (100, 0, 1, 2, 6, 0, 0, 0), (102, 43, 0, 3, 0, 190, 0, 266), (105, 36, 0, 1, 0, 0, 0, 0), (106, 3, 0, 1, 0, 1, 0, 0), (107, 1, 1, 3, 500186639987, 0, 0, 180), (110, 13, 0, 1, 0, 0, 0, 0), (111, 21, 0, 3, 7, 118, 1, 0), (114, 4, 0, 1, 0, 0, 0, 0), (115, 43, 0, 3, 0, 201, 0, 270), (118, 4, 0, 1, 0, 0, 0, 0), (119, 4, 0, 1, 0, 0, 0, 0), (120, 0, 1, 2, 59, 0, 0, 0), (122, 43, 0, 3, 0, 168, 0, 273), (125, 43, 0, 3, 0, 188, 0, 276), (128, 42, 0, 1, 0, 0, 0, 0)]
def pm_I199 : List (Nat × pm_Ins) := [(0, 4, 0, 1, 0, 0, 0, 0), (1, 43, 0, 3, 0, 174, 0, 291), (4, 5, 0, 1, 0, 1, 0, 0), (5, 4, 0, 1, 0, 0, 0, 0), (6, 24, 0, 3, 0, 6, 11, 185), (9, 5, 0, 1, 0, 2, 0, 0), (10, 4, 0, 1, 0, 0, 0, 0), (11, 43, 0, 3, 0, 174, 0, 291), (14, 5, 0, 1, 0, 3, 0, 0), (15, 0, 1, 2, 64, 0, 0, 0), (17, 4, 0, 1, 0, 0, 0, 0), (18, 24, 0, 3, 0, 30, 11, 227), (21, 9, 0, 1, 0, 0, 2, 0), (22, 0, 1, 2, 8, 0, 0, 0), (24, 2, 0, 1, 0, 1, 0, 0), (25, 9, 0, 1, 0, 0, 2, 0), (26, 9, 0, 1, 0, 0, 0, 0), (27, 2, 0, 1, 0, 3, 0, 0), (28, 9, 0, 1, 0, 0, 0, 0), (29, 5, 1, 2, 0, 4, 0, 0), (31, 4, 0, 1, 0, 0, 0, 0), (32, 43, 0, 3, 0, 160, 0, 217), (35, 21, 0, 3, 19, 54, 0, 0), (38, 4, 0, 1, 0, 0, 0, 0), (39, 26, 0, 3, 0, 24, 11, 60), (42, 2, 1, 2, 0, 4, 0, 0), (44, 33, 0, 1, 0, 0, 0, 0), (45, 21, 0, 3, 9, 54, 0, 0), (48, 4, 0, 1, 0, 0, 0, 0), (49, 0, 0, 1, 3, 0, 0, 0), (50, 2, 0, 1, 0, 2, 0, 0), (51, 43, 0, 3, 0, 145, 0, 213), (54, 0, 0, 1, 0, 0, 0, 0), (55, 5, 1, 2, 0, 5, 0, 0), (57, 2, 1, 2, 0, 5, 0, 0), (59, 0, 0, 1, 3, 0, 0, 0), (60, 22, 0, 3, 31, 91, 3, 0), (63, 4, 0, 1, 0, 0, 0, 0), (64, 26, 0, 3, 0, 19, 11, 45), (67, 0, 0, 1, 3, 0, 0, 0), (68, 2, 1, 2, 0, 4, 0, 0), (70, 9, 0, 1, 0, 0, 2, 0), (71, 2, 1, 2, 0, 5, 0, 0), (73, 9, 0, 1, 0, 0, 0, 0), (74, 4, 0, 1, 0, 0, 0, 0), (75, 0, 0, 1, 0, 0, 0, 0), (76, 0, 1, 2, 99, 0, 0, 0), (78, 43, 0, 3, 0, 190, 0, 266), (81, 0, 1, 2, 50, 0, 0, 0), (83, 9, 0, 1, 0, 0, 1, 0), (84, 36, 0, 1, 0, 0, 0, 0), (85, 8, 0, 3, 1, 5, 0, 0), (88, 20, 0, 3, (-31), 57, 0, 0), (91, 4, 0, 1, 0, 0, 0, 0), (92, 43, 0, 3, 0, 160, 0, 217), (95, 21, 0, 3, 4, 99, 1, 0), (98, 42, 0, 1, 0, 0, 0, 0), (99, 4, 0, 1, 0, 0, 0, 0), (100, 26, 0, 3, 0, 24, 11, 60), (103, 2, 1, 2, 0, 4, 0, 0), (105, 0, 0, 1, 1, 0, 0, 0), (106, 37, 0, 1, 0, 0, 0, 0), (107, 4, 0, 1, 0, 0, 0, 0), (108, 26, 0, 3, 0, 12, 11, 24), (111, 4, 0, 1, 0, 0, 0, 0), (112, 24, 0, 3, 0, 30, 11, 227), (115, 19, 0, 1, 0, 0, 0, 0), (116, 32, 0, 1, 0, 0, 0, 0), (117, 0, 0, 1, 1, 0, 0, 0), (118, 9, 0, 1, 0, 0, 0, 0), (119, 36, 0, 1, 0, 0, 0, 0), (120, 42, 0, 1, 0, 0, 0, 0)]
def pm_I200 : List (Nat × pm_Ins) := [(0, 4, 0, 1, 0, 0, 0, 0), (1, 26, 0, 3, 0, 27, 11, 71), (4, 0, 1, 2, 8, 0, 0, 0), (6, 4, 0, 1, 0, 0, 0, 0), (7, 24, 0, 3, 0, 30, 11, 227), (10, 9, 0, 1, 0, 0, 2, 0), (11, 4, 0, 1, 0, 0, 0, 0), (12, 26, 0, 3, 0, 13, 11, 27), (15, 4, 0, 1, 0, 0, 0, 0), (16, 24, 0, 3, 0, 30, 11, 227), (19, 32, 0, 1, 0, 0, 0, 0), (20, 9, 0, 1, 0, 0, 0, 0), (21, 4, 0, 1, 0, 0, 0, 0), (22, 43, 0, 3, 0, 149, 0, 287), (25, 38, 0, 1, 0, 0, 0, 0), (26, 4, 0, 1, 0, 0, 0, 0), (27, 4, 0, 1, 0, 0, 0, 0), (28, 0, 1, 2, 61, 0, 0, 0), (30, 43, 0, 3, 0, 168, 0, 273), (33, 43, 0, 3, 0, 188, 0, 276), (36, 0, 0, 1, 1, 0, 0, 0), (37, 5, 0, 1, 0, 1, 0, 0), (38, 4, 0, 1, 0, 0, 0, 0), (39, 43, 0, 3, 0, 160, 0, 217), (42, 21, 0, 3, 45, 87, 0, 0), (45, 2, 0, 1, 0, 1, 0, 0), (46, 21, 0, 3, 41, 87, 0, 0), (49, 4, 0, 1, 0, 0, 0, 0), (50, 43, 0, 3, 0, 197, 0, 295), (53, 4, 0, 1, 0, 0, 0, 0), (54, 43, 0, 3, 0, 160, 0, 217), (57, 21, 0, 3, 17, 74, 0, 0), (60, 4, 0, 1, 0, 0, 0, 0), (61, 1, 1, 3, 28530, 0, 0, 176), (64, 43, 0, 3, 0, 170, 0, 251), (67, 21, 0, 3, 7, 74, 0, 0), (70, 0, 0, 1, 1, 0, 0, 0), (71, 20, 0, 3, 4, 75, 0, 0), (74, 0, 0, 1, 0, 0, 0, 0), (75, 5, 0, 1, 0, 1, 0, 0), (76, 2, 0, 1, 0, 1, 0, 0), (77, 21, 0, 3, (-39), 38, 0, 0), (80, 4, 0, 1, 0, 0, 0, 0), (81, 43, 0, 3, 0, 152, 0, 221), (84, 20, 0, 3, (-46), 38, 0, 0), (87, 4, 0, 1, 0, 0, 0, 0), (88, 26, 0, 3, 0, 13, 11, 27), (91, 4, 0, 1, 0, 0, 0, 0), (92, 24, 0, 3, 0, 30, 11, 227), (95, 19, 0, 1, 0, 0, 0, 0), (96, 32, 0, 1, 0, 0, 0, 0), (97, 0, 0, 1, 1, 0, 0, 0), (98, 9, 0, 1, 0, 0, 0, 0), (99, 36, 0, 1, 0, 0, 0, 0), (100, 42, 0, 1, 0, 0, 0, 0)]
def pm_I201 : List (Nat × pm_Ins) := [(0, 4, 0, 1, 0, 0, 0, 0), (1, 26, 0, 3, 0, 16, 11, 36), (4, 4, 0, 1, 0, 0, 0, 0), (5, 24, 0, 3, 0, 30, 11, 227), (8, 32, 0, 1, 0, 0, 0, 0), (9, 0, 1, 2, 6, 0, 0, 0), (11, 22, 0, 3, 7, 18, 1, 0), (14, 4, 0, 1, 0, 0, 0, 0), (15, 43, 0, 3, 0, 187, 0, 224), (18, 4, 0, 1, 0, 0, 0, 0), (19, 0, 0, 1, 0, 0, 0, 0), (20, 0, 0, 1, 2, 0, 0, 0), (21, 43, 0, 3, 0, 190, 0, 266), (24, 5, 0, 1, 0, 1, 0, 0), (25, 4, 0, 1, 0, 0, 0, 0), (26, 43, 0, 3, 0, 160, 0, 217), (29, 21, 0, 3, 4, 33, 1, 0), (32, 42, 0, 1, 0, 0, 0, 0), (33, 4, 0, 1, 0, 0, 0, 0), (34, 26, 0, 3, 0, 17, 11, 39), (37, 0, 1, 2, 6, 0, 0, 0), (39, 4, 0, 1, 0, 0, 0, 0), (40, 24, 0, 3, 0, 30, 11, 227), (43, 9, 0, 1, 0, 0, 2, 0), (44, 4, 0, 1, 0, 0, 0, 0), (45, 26, 0, 3, 0, 16, 11, 36), (48, 4, 0, 1, 0, 0, 0, 0), (49, 24, 0, 3, 0, 30, 11, 227), (52, 32, 0, 1, 0, 0, 0, 0), (53, 9, 0, 1, 0, 0, 0, 0), (54, 2, 0, 1, 0, 1, 0, 0), (55, 36, 0, 1, 0, 0, 0, 0), (56, 4, 0, 1, 0, 0, 0, 0), (57, 26, 0, 3, 0, 16, 11, 36), (60, 4, 0, 1, 0, 0, 0, 0), (61, 24, 0, 3, 0, 30, 11, 227), (64, 19, 0, 1, 0, 0, 0, 0), (65, 32, 0, 1, 0, 0, 0, 0), (66, 0, 0, 1, 1, 0, 0, 0), (67, 9, 0, 1, 0, 0, 0, 0), (68, 36, 0, 1, 0, 0, 0, 0), (69, 4, 0, 1, 0, 0, 0, 0), (70, 24, 0, 3, 0, 8, 11, 192), (73, 0, 0, 1, 4, 0, 0, 0), (74, 22, 0, 3, (-74), 0, 0, 0), (77, 42, 0, 1, 0, 0, 0, 0)]
def pm_I202 : List (Nat × pm_Ins) := [(0, 0, 1, 2, 8, 0, 0, 0), (2, 4, 0, 1, 0, 0, 0, 0), (3, 24, 0, 3, 0, 30, 11, 227), (6, 9, 0, 1, 0, 0, 2, 0), (7, 4, 0, 1, 0, 0, 0, 0), (8, 26, 0, 3, 0, 11, 11, 20), (11, 4, 0, 1, 0, 0, 0, 0), (12, 24, 0, 3, 0, 30, 11, 227), (15, 32, 0, 1, 0, 0, 0, 0), (16, 9, 0, 1, 0, 0, 0, 0), (17, 5, 0, 1, 0, 1, 0, 0), (18, 4, 0, 1, 0, 0, 0, 0), (19, 26, 0, 3, 0, 26, 11, 67), (22, 2, 0, 1, 0, 1, 0, 0), (23, 4, 0, 1, 0, 0, 0, 0), (24, 43, 0, 3, 0, 149, 0, 287), (27, 38, 0, 1, 0, 0, 0, 0), (28, 0, 0, 1, 0, 0, 0, 0), (29, 5, 0, 1, 0, 2, 0, 0), (30, 2, 0, 1, 0, 2, 0, 0), (31, 0, 0, 1, 3, 0, 0, 0), (32, 22, 0, 3, 29, 61, 3, 0), (35, 4, 0, 1, 0, 0, 0, 0), (36, 26, 0, 3, 0, 18, 11, 42), (39, 0, 0, 1, 3, 0, 0, 0), (40, 2, 0, 1, 0, 1, 0, 0), (41, 9, 0, 1, 0, 0, 2, 0), (42, 2, 0, 1, 0, 2, 0, 0), (43, 9, 0, 1, 0, 0, 0, 0), (44, 4, 0, 1, 0, 0, 0, 0), (45, 0, 0, 1, 0, 0, 0, 0), (46, 0, 1, 2, 99, 0, 0, 0), (48, 43, 0, 3, 0, 190, 0, 266), (51, 0, 1, 2, 50, 0, 0, 0), (53, 9, 0, 1, 0, 0, 1, 0), (54, 36, 0, 1, 0, 0, 0, 0), (55, 8, 0, 3, 1, 2, 0, 0), (58, 20, 0, 3, (-28), 30, 0, 0), (61, 4, 0, 1, 0, 0, 0, 0), (62, 26, 0, 3, 0, 11, 11, 20), (65, 4, 0, 1, 0, 0, 0, 0), (66, 24, 0, 3, 0, 30, 11, 227), (69, 19, 0, 1, 0, 0, 0, 0), (70, 32, 0, 1, 0, 0, 0, 0), (71, 0, 0, 1, 1, 0, 0, 0), (72, 9, 0, 1, 0, 0, 0, 0), (73, 36, 0, 1, 0, 0, 0, 0), (74, 42, 0, 1, 0, 0, 0, 0)]
def pm_I203 : List (Nat × pm_Ins) := [(0, 4, 0, 1, 0, 0, 0, 0), (1, 43, 0, 3, 0, 218, 0, 351), (4, 4, 0, 1, 0, 0, 0, 0), (5, 4, 0, 1, 0, 0, 0, 0), (6, 24, 0, 3, 0, 39, 11, 336), (9, 43, 0, 3, 0, 204, 0, 363), (12, 15, 0, 1, 0, 0, 0, 0), (13, 39, 0, 1, 0, 0, 0, 0)]
def pm_I204 : List (Nat × pm_Ins) := [(0, 4, 0, 1, 0, 0, 0, 0), (1, 26, 0, 3, 0, 13, 11, 27), (4, 4, 0, 1, 0, 0, 0, 0), (5, 24, 0, 3, 0, 29, 11, 233), (8, 32, 0, 1, 0, 0, 0, 0), (9, 21, 0, 3, 7, 16, 0, 0), (12, 2, 0, 1, 0, 1, 0, 0), (13, 21, 0, 3, 5, 18, 1, 0), (16, 1, 0, 1, 0, 0, 0, 0), (17, 40, 0, 1, 0, 0, 0, 0), (18, 0, 0, 1, 0, 0, 0, 0), (19, 5, 0, 1, 0, 2, 0, 0), (20, 2, 0, 1, 0, 2, 0, 0), (21, 0, 2, 3, 448, 0, 0, 0), (24, 22, 0, 3, 16, 40, 3, 0), (27, 4, 0, 1, 0, 0, 0, 0), (28, 26, 0, 3, 0, 33, 11, 83), (31, 2, 0, 1, 0, 2, 0, 0), (32, 1, 0, 1, 0, 0, 0, 0), (33, 38, 0, 1, 0, 0, 0, 0), (34, 8, 0, 3, 1, 2, 0, 0), (37, 20, 0, 3, (-17), 20, 0, 0), (40, 0, 0, 1, 1, 0, 0, 0), (41, 5, 0, 1, 0, 2, 0, 0), (42, 2, 0, 1, 0, 2, 0, 0), (43, 2, 0, 1, 0, 1, 0, 0), (44, 22, 0, 3, 112, 156, 4, 0), (47, 0, 0, 1, 0, 0, 0, 0), (48, 5, 0, 1, 0, 3, 0, 0), (49, 2, 0, 1, 0, 3, 0, 0), (50, 2, 0, 1, 0, 2, 0, 0), (51, 9, 0, 1, 0, 0, 0, 0), (52, 2, 0, 1, 0, 1, 0, 0), (53, 22, 0, 3, 97, 150, 4, 0), (56, 0, 1, 2, 24, 0, 0, 0), (58, 4, 0, 1, 0, 0, 0, 0), (59, 24, 0, 3, 0, 29, 11, 233), (62, 9, 0, 1, 0, 0, 2, 0), (63, 4, 0, 1, 0, 0, 0, 0), (64, 26, 0, 3, 0, 14, 11, 30), (67, 4, 0, 1, 0, 0, 0, 0), (68, 24, 0, 3, 0, 29, 11, 233), (71, 32, 0, 1, 0, 0, 0, 0), (72, 9, 0, 1, 0, 0, 0, 0), (73, 0, 0, 1, 1, 0, 0, 0), (74, 9, 0, 1, 0, 0, 1, 0), (75, 5, 1, 2, 0, 4, 0, 0), (77, 2, 1, 2, 0, 4, 0, 0), (79, 0, 1, 2, 24, 0, 0, 0), (81, 4, 0, 1, 0, 0, 0, 0), (82, 24, 0, 3, 0, 29, 11, 233), (85, 9, 0, 1, 0, 0, 2, 0), (86, 22, 0, 3, 58, 144, 2, 0), (89, 0, 1, 2, 56, 0, 0, 0), (91, 4, 0, 1, 0, 0, 0, 0), (92, 26, 0, 3, 0, 20, 11, 48), (95, 2, 1, 2, 0, 4, 0, 0), (97, 32, 0, 1, 0, 0, 0, 0), (98, 9, 0, 1, 0, 0, 2, 0), (99, 0, 1, 2, 7, 0, 0, 0), (101, 2, 0, 1, 0, 3, 0, 0), (102, 9, 0, 1, 0, 0, 2, 0), (103, 9, 0, 1, 0, 0, 0, 0), (104, 2, 0, 1, 0, 3, 0, 0), (105, 9, 0, 1, 0, 0, 0, 0), (106, 2, 0, 1, 0, 2, 0, 0), (107, 9, 0, 1, 0, 0, 0, 0), (108, 5, 1, 2, 0, 5, 0, 0), (110, 4, 0, 1, 0, 0, 0, 0), (111, 26, 0, 3, 0, 33, 11, 83), (114, 2, 1, 2, 0, 5, 0, 0), (116, 4, 0, 1, 0, 0, 0, 0), (117, 26, 0, 3, 0, 33, 11, 83), (120, 2, 1, 2, 0, 5, 0, 0), (122, 34, 0, 1, 0, 0, 0, 0), (123, 4, 0, 1, 0, 0, 0, 0), (124, 2, 1, 2, 0, 4, 0, 0), (126, 2, 0, 1, 0, 3, 0, 0), (127, 2, 0, 1, 0, 3, 0, 0), (128, 2, 0, 1, 0, 2, 0, 0), (129, 9, 0, 1, 0, 0, 0, 0), (130, 43, 0, 3, 0, 227, 0, 326), (133, 11, 0, 1, 0, 0, 0, 0), (134, 44, 0, 3, 0, 130, 0, 330), (137, 38, 0, 1, 0, 0, 0, 0), (138, 8, 0, 3, (-1), 4, 0, 0), (141, 20, 0, 3, (-64), 77, 0, 0), (144, 8, 0, 3, 1, 3, 0, 0), (147, 20, 0, 3, (-98), 49, 0, 0), (150, 8, 0, 3, 1, 2, 0, 0), (153, 20, 0, 3, (-111), 42, 0, 0), (156, 4, 0, 1, 0, 0, 0, 0), (157, 26, 0, 3, 0, 33, 11, 83), (160, 2, 0, 1, 0, 1, 0, 0), (161, 34, 0, 1, 0, 0, 0, 0), (162, 40, 0, 1, 0, 0, 0, 0)]
def pm_I205 : List (Nat × pm_Ins) := [(0, 4, 0, 1, 0, 0, 0, 0), (1, 24, 0, 3, 0, 43, 11, 342), (4, 21, 0, 3, 5, 9, 1, 0), (7, 0, 0, 1, 0, 0, 0, 0), (8, 39, 1, 1, 0, 0, 0, 0), (9, 4, 0, 1, 0, 0, 0, 0), (10, 0, 0, 1, 0, 0, 0, 0), (11, 43, 0, 3, 0, 144, 0, 373), (14, 4, 0, 1, 0, 0, 0, 0), (15, 17, 0, 1, 0, 0, 0, 0), (16, 24, 0, 3, 0, 42, 11, 339), (19, 0, 0, 1, 1, 0, 0, 0), (20, 9, 0, 1, 0, 0, 0, 0), (21, 27, 0, 3, 0, 42, 11, 339), (24, 4, 0, 1, 0, 0, 0, 0), (25, 17, 0, 1, 0, 0, 0, 0), (26, 24, 0, 3, 0, 43, 11, 342), (29, 0, 0, 1, 1, 0, 0, 0), (30, 9, 0, 1, 0, 0, 1, 0), (31, 27, 0, 3, 0, 43, 11, 342), (34, 0, 0, 1, 1, 0, 0, 0), (35, 39, 1, 1, 0, 0, 0, 0)]
def pm_I206 : List (Nat × pm_Ins) := [(0, 0, 0, 1, 0, 0, 0, 0), (1, 5, 0, 1, 0, 3, 0, 0), (2, 2, 0, 1, 0, 3, 0, 0), (3, 4, 0, 1, 0, 0, 0, 0), (4, 26, 0, 3, 0, 13, 11, 27), (7, 4, 0, 1, 0, 0, 0, 0), (8, 24, 0, 3, 0, 30, 11, 227), (11, 32, 0, 1, 0, 0, 0, 0), (12, 22, 0, 3, 30, 42, 3, 0), (15, 4, 0, 1, 0, 0, 0, 0), (16, 26, 0, 3, 0, 27, 11, 71), (19, 0, 1, 2, 8, 0, 0, 0), (21, 4, 0, 1, 0, 0, 0, 0), (22, 24, 0, 3, 0, 30, 11, 227), (25, 9, 0, 1, 0, 0, 2, 0), (26, 2, 0, 1, 0, 3, 0, 0), (27, 9, 0, 1, 0, 0, 0, 0), (28, 34, 0, 1, 0, 0, 0, 0), (29, 3, 0, 1, 0, 1, 0, 0), (30, 13, 0, 1, 0, 0, 0, 0), (31, 21, 0, 3, 5, 36, 1, 0), (34, 2, 0, 1, 0, 3, 0, 0), (35, 39, 0, 1, 0, 0, 0, 0), (36, 8, 0, 3, 1, 3, 0, 0), (39, 20, 0, 3, (-37), 2, 0, 0), (42, 0, 0, 1, (-1), 0, 0, 0), (43, 39, 0, 1, 0, 0, 0, 0)]
def pm_I207 : List (Nat × pm_Ins) := [(0, 4, 0, 1, 0, 0, 0, 0), (1, 2, 0, 1, 0, 1, 0, 0), (2, 43, 0, 3, 0, 166, 0, 357), (5, 21, 0, 3, 20, 25, 0, 0), (8, 4, 0, 1, 0, 0, 0, 0), (9, 2, 0, 1, 0, 2, 0, 0), (10, 43, 0, 3, 0, 171, 0, 305), (13, 21, 0, 3, 12, 25, 0, 0), (16, 4, 0, 1, 0, 0, 0, 0), (17, 24, 0, 3, 0, 66, 11, 245), (20, 0, 1, 2, 30, 0, 0, 0), (22, 22, 0, 3, 5, 27, 1, 0), (25, 0, 0, 1, (-1), 0, 0, 0), (26, 39, 0, 1, 0, 0, 0, 0), (27, 4, 0, 1, 0, 0, 0, 0), (28, 26, 0, 3, 0, 61, 11, 134), (31, 4, 0, 1, 0, 0, 0, 0), (32, 24, 0, 3, 0, 66, 11, 245), (35, 2, 0, 1, 0, 1, 0, 0), (36, 36, 0, 1, 0, 0, 0, 0), (37, 4, 0, 1, 0, 0, 0, 0), (38, 26, 0, 3, 0, 62, 11, 137), (41, 4, 0, 1, 0, 0, 0, 0), (42, 24, 0, 3, 0, 66, 11, 245), (45, 2, 0, 1, 0, 2, 0, 0), (46, 36, 0, 1, 0, 0, 0, 0), (47, 4, 0, 1, 0, 0, 0, 0), (48, 26, 0, 3, 0, 65, 11, 146), (51, 4, 0, 1, 0, 0, 0, 0), (52, 24, 0, 3, 0, 66, 11, 245), (55, 2, 0, 1, 0, 3, 0, 0), (56, 37, 0, 1, 0, 0, 0, 0), (57, 4, 0, 1, 0, 0, 0, 0), (58, 26, 0, 3, 0, 63, 11, 140), (61, 4, 0, 1, 0, 0, 0, 0), (62, 24, 0, 3, 0, 66, 11, 245), (65, 4, 0, 1, 0, 0, 0, 0), (66, 24, 0, 3, 0, 67, 11, 473), (69, 36, 0, 1, 0, 0, 0, 0), (70, 4, 0, 1, 0, 0, 0, 0), (71, 26, 0, 3, 0, 64, 11, 143), (74, 4, 0, 1, 0, 0, 0, 0), (75, 24, 0, 3, 0, 66, 11, 245), (78, 0, 0, 1, (-1), 0, 0, 0), (79, 36, 0, 1, 0, 0, 0, 0), (80, 4, 0, 1, 0, 0, 0, 0), (81, 17, 0, 1, 0, 0, 0, 0), (82, 24, 0, 3, 0, 66, 11, 245), (85, 0, 0, 1, 1, 0, 0, 0), (86, 9, 0, 1, 0, 0, 0, 0), (87, 27, 0, 3, 0, 66, 11, 245), (90, 4, 0, 1, 0, 0, 0, 0), (91, 24, 0, 3, 0, 66, 11, 245), (94, 0, 0, 1, 1, 0, 0, 0), (95, 9, 0, 1, 0, 0, 1, 0), (96, 39, 0, 1, 0, 0, 0, 0)]
def pm_I208 : List (Nat × pm_Ins) := [(0, 2, 0, 1, 0, 1, 0, 0), (1, 4, 0, 1, 0, 0, 0, 0), (2, 24, 0, 3, 0, 39, 11, 336), (5, 4, 0, 1, 0, 0, 0, 0), (6, 43, 0, 3, 0, 183, 0, 302), (9, 0, 0, 1, 1, 0, 0, 0), (10, 9, 0, 1, 0, 0, 1, 0), (11, 44, 0, 3, 0, 162, 0, 298), (14, 21, 0, 3, 10, 24, 0, 0), (17, 2, 0, 1, 0, 2, 0, 0), (18, 44, 0, 3, 0, 161, 0, 308), (21, 21, 0, 3, 5, 26, 1, 0), (24, 0, 0, 1, (-1), 0, 0, 0), (25, 39, 0, 1, 0, 0, 0, 0), (26, 4, 0, 1, 0, 0, 0, 0), (27, 26, 0, 3, 0, 37, 11, 95), (30, 2, 0, 1, 0, 1, 0, 0), (31, 32, 0, 1, 0, 0, 0, 0), (32, 5, 0, 1, 0, 3, 0, 0), (33, 4, 0, 1, 0, 0, 0, 0), (34, 2, 0, 1, 0, 1, 0, 0), (35, 2, 0, 1, 0, 3, 0, 0), (36, 43, 0, 3, 0, 172, 0, 370), (39, 4, 0, 1, 0, 0, 0, 0), (40, 26, 0, 3, 0, 37, 11, 95), (43, 2, 0, 1, 0, 1, 0, 0), (44, 2, 0, 1, 0, 2, 0, 0), (45, 36, 0, 1, 0, 0, 0, 0), (46, 2, 0, 1, 0, 3, 0, 0), (47, 39, 0, 1, 0, 0, 0, 0)]
def pm_I209 : List (Nat × pm_Ins) := [(0, 0, 1, 2, 24, 0, 0, 0), (2, 4, 0, 1, 0, 0, 0, 0), (3, 24, 0, 3, 0, 30, 11, 227), (6, 9, 0, 1, 0, 0, 2, 0), (7, 5, 0, 1, 0, 1, 0, 0), (8, 2, 0, 1, 0, 1, 0, 0), (9, 0, 1, 2, 24, 0, 0, 0), (11, 4, 0, 1, 0, 0, 0, 0), (12, 24, 0, 3, 0, 30, 11, 227), (15, 9, 0, 1, 0, 0, 2, 0), (16, 4, 0, 1, 0, 0, 0, 0), (17, 26, 0, 3, 0, 14, 11, 30), (20, 4, 0, 1, 0, 0, 0, 0), (21, 24, 0, 3, 0, 30, 11, 227), (24, 32, 0, 1, 0, 0, 0, 0), (25, 9, 0, 1, 0, 0, 0, 0), (26, 22, 0, 3, 138, 164, 3, 0), (29, 0, 0, 1, 4, 0, 0, 0), (30, 2, 0, 1, 0, 1, 0, 0), (31, 9, 0, 1, 0, 0, 2, 0), (32, 5, 0, 1, 0, 2, 0, 0), (33, 2, 0, 1, 0, 2, 0, 0), (34, 0, 0, 1, 4, 0, 0, 0), (35, 2, 0, 1, 0, 1, 0, 0), (36, 9, 0, 1, 0, 0, 2, 0), (37, 4, 0, 1, 0, 0, 0, 0), (38, 26, 0, 3, 0, 21, 11, 51), (41, 2, 0, 1, 0, 1, 0, 0), (42, 32, 0, 1, 0, 0, 0, 0), (43, 9, 0, 1, 0, 0, 0, 0), (44, 22, 0, 3, 114, 158, 3, 0), (47, 4, 0, 1, 0, 0, 0, 0), (48, 4, 0, 1, 0, 0, 0, 0), (49, 26, 0, 3, 0, 28, 11, 74), (52, 2, 0, 1, 0, 2, 0, 0), (53, 34, 0, 1, 0, 0, 0, 0), (54, 43, 0, 3, 0, 231, 0, 280), (57, 5, 0, 1, 0, 3, 0, 0), (58, 4, 0, 1, 0, 0, 0, 0), (59, 4, 0, 1, 0, 0, 0, 0), (60, 26, 0, 3, 0, 28, 11, 74), (63, 2, 0, 1, 0, 2, 0, 0), (64, 34, 0, 1, 0, 0, 0, 0), (65, 43, 0, 3, 0, 206, 0, 284), (68, 5, 1, 2, 0, 4, 0, 0), (70, 2, 0, 1, 0, 3, 0, 0), (71, 21, 0, 3, 20, 91, 3, 0), (74, 2, 1, 2, 0, 4, 0, 0), (76, 21, 0, 3, 15, 91, 3, 0), (79, 4, 0, 1, 0, 0, 0, 0), (80, 0, 1, 2, 6, 0, 0, 0), (82, 4, 0, 1, 0, 0, 0, 0), (83, 26, 0, 3, 0, 23, 11, 57), (86, 2, 0, 1, 0, 2, 0, 0), (87, 32, 0, 1, 0, 0, 0, 0), (88, 43, 0, 3, 0, 145, 0, 213), (91, 2, 0, 1, 0, 3, 0, 0), (92, 21, 0, 3, 41, 133, 3, 0), (95, 2, 1, 2, 0, 4, 0, 0), (97, 21, 0, 3, 36, 133, 2, 0), (100, 4, 0, 1, 0, 0, 0, 0), (101, 26, 0, 3, 0, 21, 11, 51), (104, 2, 0, 1, 0, 1, 0, 0), (105, 32, 0, 1, 0, 0, 0, 0), (106, 0, 0, 1, 1, 0, 0, 0), (107, 22, 0, 3, 26, 133, 1, 0), (110, 2, 1, 2, 0, 4, 0, 0), (112, 4, 0, 1, 0, 0, 0, 0), (113, 26, 0, 3, 0, 20, 11, 48), (116, 2, 0, 1, 0, 1, 0, 0), (117, 32, 0, 1, 0, 0, 0, 0), (118, 22, 0, 3, 15, 133, 4, 0), (121, 4, 0, 1, 0, 0, 0, 0), (122, 0, 1, 2, 7, 0, 0, 0), (124, 4, 0, 1, 0, 0, 0, 0), (125, 26, 0, 3, 0, 23, 11, 57), (128, 2, 0, 1, 0, 2, 0, 0), (129, 32, 0, 1, 0, 0, 0, 0), (130, 43, 0, 3, 0, 145, 0, 213), (133, 4, 0, 1, 0, 0, 0, 0), (134, 26, 0, 3, 0, 22, 11, 54), (137, 2, 0, 1, 0, 2, 0, 0), (138, 2, 0, 1, 0, 3, 0, 0), (139, 21, 0, 3, 7, 146, 2, 0), (142, 2, 0, 1, 0, 3, 0, 0), (143, 20, 0, 3, 8, 151, 0, 0), (146, 0, 1, 2, 8, 0, 0, 0), (148, 2, 1, 2, 0, 4, 0, 0), (150, 9, 0, 1, 0, 0, 0, 0), (151, 36, 0, 1, 0, 0, 0, 0), (152, 8, 0, 3, 1, 2, 0, 0), (155, 20, 0, 3, (-122), 33, 0, 0), (158, 8, 0, 3, 1, 1, 0, 0), (161, 20, 0, 3, (-153), 8, 0, 0), (164, 42, 0, 1, 0, 0, 0, 0)]
def pm_I210 : List (Nat × pm_Ins) := [(0, 2, 0, 1, 0, 1, 0, 0), (1, 44, 0, 3, 0, 161, 0, 308), (4, 21, 0, 3, 26, 30, 0, 0), (7, 2, 0, 1, 0, 2, 0, 0), (8, 0, 0, 1, 0, 0, 0, 0), (9, 0, 0, 1, 1, 0, 0, 0), (10, 44, 0, 3, 0, 162, 0, 298), (13, 21, 0, 3, 17, 30, 0, 0), (16, 4, 0, 1, 0, 0, 0, 0), (17, 43, 0, 3, 0, 179, 0, 434), (20, 21, 0, 3, 10, 30, 0, 0), (23, 4, 0, 1, 0, 0, 0, 0), (24, 24, 0, 3, 0, 48, 11, 390), (27, 21, 0, 3, 7, 34, 1, 0), (30, 0, 4, 3, (-1000000), 0, 0, 311), (33, 39, 0, 1, 0, 0, 0, 0), (34, 4, 0, 1, 0, 0, 0, 0), (35, 43, 0, 3, 0, 222, 0, 437), (38, 0, 0, 1, 0, 0, 0, 0), (39, 5, 0, 1, 0, 3, 0, 0), (40, 0, 0, 1, 0, 0, 0, 0), (41, 5, 1, 2, 0, 4, 0, 0), (43, 2, 1, 2, 0, 4, 0, 0), (45, 0, 1, 2, 6, 0, 0, 0), (47, 22, 0, 3, 75, 122, 3, 0), (50, 0, 0, 1, 0, 0, 0, 0), (51, 5, 1, 2, 0, 5, 0, 0), (53, 0, 0, 1, 0, 0, 0, 0), (54, 5, 1, 2, 0, 6, 0, 0), (56, 2, 1, 2, 0, 4, 0, 0), (58, 2, 1, 2, 0, 6, 0, 0), (60, 44, 0, 3, 0, 191, 0, 431), (63, 2, 0, 1, 0, 1, 0, 0), (64, 22, 0, 3, 23, 87, 0, 0), (67, 2, 1, 2, 0, 5, 0, 0), (69, 0, 0, 1, 1, 0, 0, 0), (70, 2, 1, 2, 0, 4, 0, 0), (72, 2, 1, 2, 0, 6, 0, 0), (74, 44, 0, 3, 0, 191, 0, 431), (77, 9, 0, 1, 0, 0, 6, 0), (78, 9, 0, 1, 0, 0, 4, 0), (79, 5, 1, 2, 0, 5, 0, 0), (81, 8, 0, 3, 1, 6, 0, 0), (84, 20, 0, 3, (-28), 56, 0, 0), (87, 2, 0, 1, 0, 3, 0, 0), (88, 4, 0, 1, 0, 0, 0, 0), (89, 2, 1, 2, 0, 5, 0, 0), (91, 0, 0, 1, 1, 0, 0, 0), (92, 2, 0, 1, 0, 1, 0, 0), (93, 9, 0, 1, 0, 0, 6, 0), (94, 9, 0, 1, 0, 0, 4, 0), (95, 43, 0, 3, 0, 154, 0, 446), (98, 2, 1, 2, 0, 5, 0, 0), (100, 21, 0, 3, 7, 107, 1, 0), (103, 0, 0, 1, 0, 0, 0, 0), (104, 20, 0, 3, 9, 113, 0, 0), (107, 4, 0, 1, 0, 0, 0, 0), (108, 2, 1, 2, 0, 5, 0, 0), (110, 43, 0, 3, 0, 154, 0, 446), (113, 9, 0, 1, 0, 0, 1, 0), (114, 9, 0, 1, 0, 0, 0, 0), (115, 5, 0, 1, 0, 3, 0, 0), (116, 8, 0, 3, 1, 4, 0, 0), (119, 20, 0, 3, (-76), 43, 0, 0), (122, 2, 0, 1, 0, 3, 0, 0), (123, 0, 1, 2, 6, 0, 0, 0), (125, 44, 0, 3, 0, 139, 0, 449), (128, 5, 1, 2, 0, 4, 0, 0), (130, 2, 0, 1, 0, 2, 0, 0), (131, 21, 0, 3, 10, 141, 1, 0), (134, 2, 0, 1, 0, 3, 0, 0), (135, 2, 1, 2, 0, 4, 0, 0), (137, 9, 0, 1, 0, 0, 9, 0), (138, 20, 0, 3, 8, 146, 0, 0), (141, 0, 1, 2, 6, 0, 0, 0), (143, 2, 1, 2, 0, 4, 0, 0), (145, 9, 0, 1, 0, 0, 9, 0), (146, 39, 0, 1, 0, 0, 0, 0)]
def pm_I211 : List (Nat × pm_Ins) := [(0, 2, 0, 1, 0, 1, 0, 0), (1, 0, 0, 1, 0, 0, 0, 0), (2, 4, 0, 1, 0, 0, 0, 0), (3, 26, 0, 3, 0, 13, 11, 27), (6, 4, 0, 1, 0, 0, 0, 0), (7, 24, 0, 3, 0, 29, 11, 233), (10, 32, 0, 1, 0, 0, 0, 0), (11, 0, 0, 1, 1, 0, 0, 0), (12, 9, 0, 1, 0, 0, 1, 0), (13, 44, 0, 3, 0, 162, 0, 298), (16, 21, 0, 3, 5, 21, 1, 0), (19, 0, 0, 1, (-1), 0, 0, 0), (20, 39, 0, 1, 0, 0, 0, 0), (21, 4, 0, 1, 0, 0, 0, 0), (22, 43, 0, 3, 0, 181, 0, 462), (25, 4, 0, 1, 0, 0, 0, 0), (26, 26, 0, 3, 0, 60, 11, 131), (29, 2, 0, 1, 0, 1, 0, 0), (30, 32, 0, 1, 0, 0, 0, 0), (31, 39, 0, 1, 0, 0, 0, 0)]
def pm_I212 : List (Nat × pm_Ins) := [(0, 2, 0, 1, 0, 1, 0, 0), (1, 4, 0, 1, 0, 0, 0, 0), (2, 24, 0, 3, 0, 3, 11, 164), (5, 22, 0, 3, 16, 21, 3, 0), (8, 4, 0, 1, 0, 0, 0, 0), (9, 26, 0, 3, 0, 1, 11, 13), (12, 2, 0, 1, 0, 1, 0, 0), (13, 33, 0, 1, 0, 0, 0, 0), (14, 0, 2, 3, 255, 0, 0, 0), (17, 9, 0, 1, 0, 0, 3, 0), (18, 20, 0, 3, 4, 22, 0, 0), (21, 0, 0, 1, 0, 0, 0, 0), (22, 39, 0, 1, 0, 0, 0, 0)]
def pm_I213 : List (Nat × pm_Ins) := [(0, 4, 0, 1, 0, 0, 0, 0), (1, 43, 0, 3, 0, 218, 0, 351), (4, 2, 0, 1, 0, 1, 0, 0), (5, 44, 0, 3, 0, 161, 0, 308), (8, 21, 0, 3, 14, 22, 0, 0), (11, 4, 0, 1, 0, 0, 0, 0), (12, 4, 0, 1, 0, 0, 0, 0), (13, 24, 0, 3, 0, 39, 11, 336), (16, 43, 0, 3, 0, 167, 0, 348), (19, 21, 0, 3, 5, 24, 1, 0), (22, 0, 0, 1, (-1), 0, 0, 0), (23, 39, 0, 1, 0, 0, 0, 0), (24, 0, 0, 1, (-1), 0, 0, 0), (25, 5, 0, 1, 0, 2, 0, 0), (26, 0, 0, 1, 0, 0, 0, 0), (27, 5, 0, 1, 0, 3, 0, 0), (28, 0, 0, 1, 0, 0, 0, 0), (29, 5, 1, 2, 0, 4, 0, 0), (31, 2, 1, 2, 0, 4, 0, 0), (33, 4, 0, 1, 0, 0, 0, 0), (34, 24, 0, 3, 0, 39, 11, 336), (37, 22, 0, 3, 63, 100, 3, 0), (40, 4, 0, 1, 0, 0, 0, 0), (41, 2, 1, 2, 0, 4, 0, 0), (43, 43, 0, 3, 0, 219, 0, 470), (46, 4, 0, 1, 0, 0, 0, 0), (47, 4, 0, 1, 0, 0, 0, 0), (48, 24, 0, 3, 0, 39, 11, 336), (51, 0, 0, 1, 1, 0, 0, 0), (52, 9, 0, 1, 0, 0, 1, 0), (53, 43, 0, 3, 0, 167, 0, 348), (56, 21, 0, 3, 6, 62, 1, 0), (59, 20, 0, 3, 35, 94, 0, 0), (62, 4, 0, 1, 0, 0, 0, 0), (63, 4, 0, 1, 0, 0, 0, 0), (64, 24, 0, 3, 0, 39, 11, 336), (67, 0, 0, 1, 1, 0, 0, 0), (68, 9, 0, 1, 0, 0, 1, 0), (69, 2, 0, 1, 0, 1, 0, 0), (70, 43, 0, 3, 0, 186, 0, 367), (73, 5, 1, 2, 0, 5, 0, 0), (75, 2, 0, 1, 0, 2, 0, 0), (76, 21, 0, 3, 12, 88, 2, 0), (79, 2, 1, 2, 0, 5, 0, 0), (81, 2, 0, 1, 0, 3, 0, 0), (82, 22, 0, 3, 6, 88, 4, 0), (85, 20, 0, 3, 9, 94, 0, 0), (88, 2, 1, 2, 0, 4, 0, 0), (90, 5, 0, 1, 0, 2, 0, 0), (91, 2, 1, 2, 0, 5, 0, 0), (93, 5, 0, 1, 0, 3, 0, 0), (94, 8, 0, 3, 1, 4, 0, 0), (97, 20, 0, 3, (-66), 31, 0, 0), (100, 2, 0, 1, 0, 2, 0, 0), (101, 39, 0, 1, 0, 0, 0, 0)]
def pm_I214 : List (Nat × pm_Ins) := [(0, 0, 0, 1, 0, 0, 0, 0), (1, 5, 0, 1, 0, 2, 0, 0), (2, 0, 0, 1, 4, 0, 0, 0), (3, 2, 0, 1, 0, 1, 0, 0), (4, 9, 0, 1, 0, 0, 2, 0), (5, 5, 0, 1, 0, 3, 0, 0), (6, 2, 0, 1, 0, 3, 0, 0), (7, 0, 0, 1, 4, 0, 0, 0), (8, 2, 0, 1, 0, 1, 0, 0), (9, 9, 0, 1, 0, 0, 2, 0), (10, 4, 0, 1, 0, 0, 0, 0), (11, 26, 0, 3, 0, 21, 11, 51), (14, 2, 0, 1, 0, 1, 0, 0), (15, 32, 0, 1, 0, 0, 0, 0), (16, 9, 0, 1, 0, 0, 0, 0), (17, 22, 0, 3, 52, 69, 3, 0), (20, 4, 0, 1, 0, 0, 0, 0), (21, 26, 0, 3, 0, 22, 11, 54), (24, 2, 0, 1, 0, 3, 0, 0), (25, 32, 0, 1, 0, 0, 0, 0), (26, 0, 1, 2, 8, 0, 0, 0), (28, 22, 0, 3, 7, 35, 3, 0), (31, 0, 0, 1, 1, 0, 0, 0), (32, 20, 0, 3, 17, 49, 0, 0), (35, 4, 0, 1, 0, 0, 0, 0), (36, 26, 0, 3, 0, 60, 11, 131), (39, 4, 0, 1, 0, 0, 0, 0), (40, 26, 0, 3, 0, 22, 11, 54), (43, 2, 0, 1, 0, 3, 0, 0), (44, 32, 0, 1, 0, 0, 0, 0), (45, 0, 1, 2, 8, 0, 0, 0), (47, 9, 0, 1, 0, 0, 1, 0), (48, 32, 0, 1, 0, 0, 0, 0), (49, 5, 1, 2, 0, 4, 0, 0), (51, 2, 1, 2, 0, 4, 0, 0), (53, 21, 0, 3, 5, 58, 1, 0), (56, 0, 0, 1, 0, 0, 0, 0), (57, 39, 0, 1, 0, 0, 0, 0), (58, 2, 0, 1, 0, 2, 0, 0), (59, 2, 1, 2, 0, 4, 0, 0), (61, 9, 0, 1, 0, 0, 0, 0), (62, 5, 0, 1, 0, 2, 0, 0), (63, 8, 0, 3, 1, 3, 0, 0), (66, 20, 0, 3, (-60), 6, 0, 0), (69, 2, 0, 1, 0, 2, 0, 0), (70, 0, 4, 3, 1000000, 0, 0, 461), (73, 22, 0, 3, 9, 82, 5, 0), (76, 0, 4, 3, 1000000, 0, 0, 461), (79, 20, 0, 3, 4, 83, 0, 0), (82, 2, 0, 1, 0, 2, 0, 0), (83, 39, 0, 1, 0, 0, 0, 0)]
def pm_I215 : List (Nat × pm_Ins) := [(0, 4, 0, 1, 0, 0, 0, 0), (1, 43, 0, 3, 0, 179, 0, 434), (4, 21, 0, 3, 10, 14, 0, 0), (7, 4, 0, 1, 0, 0, 0, 0), (8, 24, 0, 3, 0, 48, 11, 390), (11, 21, 0, 3, 5, 16, 1, 0), (14, 0, 0, 1, (-1), 0, 0, 0), (15, 39, 0, 1, 0, 0, 0, 0), (16, 4, 0, 1, 0, 0, 0, 0), (17, 43, 0, 3, 0, 222, 0, 437), (20, 4, 0, 1, 0, 0, 0, 0), (21, 0, 0, 1, 0, 0, 0, 0), (22, 43, 0, 3, 0, 195, 0, 440), (25, 5, 0, 1, 0, 1, 0, 0), (26, 4, 0, 1, 0, 0, 0, 0), (27, 24, 0, 3, 0, 39, 11, 336), (30, 5, 0, 1, 0, 2, 0, 0), (31, 2, 0, 1, 0, 2, 0, 0), (32, 4, 0, 1, 0, 0, 0, 0), (33, 43, 0, 3, 0, 183, 0, 302), (36, 22, 0, 3, 139, 175, 3, 0), (39, 2, 0, 1, 0, 2, 0, 0), (40, 0, 0, 1, 1, 0, 0, 0), (41, 9, 0, 1, 0, 0, 0, 0), (42, 5, 0, 1, 0, 3, 0, 0), (43, 2, 0, 1, 0, 3, 0, 0), (44, 4, 0, 1, 0, 0, 0, 0), (45, 43, 0, 3, 0, 183, 0, 302), (48, 22, 0, 3, 121, 169, 3, 0), (51, 4, 0, 1, 0, 0, 0, 0), (52, 26, 0, 3, 0, 37, 11, 95), (55, 2, 0, 1, 0, 2, 0, 0), (56, 32, 0, 1, 0, 0, 0, 0), (57, 5, 1, 2, 0, 4, 0, 0), (59, 4, 0, 1, 0, 0, 0, 0), (60, 26, 0, 3, 0, 37, 11, 95), (63, 2, 0, 1, 0, 3, 0, 0), (64, 32, 0, 1, 0, 0, 0, 0), (65, 5, 1, 2, 0, 5, 0, 0), (67, 2, 1, 2, 0, 4, 0, 0), (69, 2, 1, 2, 0, 5, 0, 0), (71, 22, 0, 3, 6, 77, 1, 0), (74, 20, 0, 3, 89, 163, 0, 0), (77, 4, 0, 1, 0, 0, 0, 0), (78, 43, 0, 3, 0, 222, 0, 437), (81, 4, 0, 1, 0, 0, 0, 0), (82, 26, 0, 3, 0, 53, 11, 122), (85, 2, 0, 1, 0, 2, 0, 0), (86, 2, 1, 2, 0, 5, 0, 0), (88, 36, 0, 1, 0, 0, 0, 0), (89, 4, 0, 1, 0, 0, 0, 0), (90, 26, 0, 3, 0, 53, 11, 122), (93, 2, 0, 1, 0, 3, 0, 0), (94, 2, 1, 2, 0, 4, 0, 0), (96, 36, 0, 1, 0, 0, 0, 0), (97, 4, 0, 1, 0, 0, 0, 0), (98, 0, 0, 1, 0, 0, 0, 0), (99, 43, 0, 3, 0, 195, 0, 440), (102, 5, 1, 2, 0, 6, 0, 0), (104, 4, 0, 1, 0, 0, 0, 0), (105, 26, 0, 3, 0, 45, 11, 110), (108, 0, 0, 1, 3, 0, 0, 0), (109, 2, 1, 2, 0, 6, 0, 0), (111, 9, 0, 1, 0, 0, 2, 0), (112, 2, 1, 2, 0, 4, 0, 0), (114, 9, 0, 1, 0, 0, 0, 0), (115, 32, 0, 1, 0, 0, 0, 0), (116, 4, 0, 1, 0, 0, 0, 0), (117, 26, 0, 3, 0, 45, 11, 110), (120, 0, 0, 1, 3, 0, 0, 0), (121, 2, 0, 1, 0, 1, 0, 0), (122, 9, 0, 1, 0, 0, 2, 0), (123, 2, 1, 2, 0, 4, 0, 0), (125, 9, 0, 1, 0, 0, 0, 0), (126, 32, 0, 1, 0, 0, 0, 0), (127, 22, 0, 3, 36, 163, 5, 0), (130, 4, 0, 1, 0, 0, 0, 0), (131, 26, 0, 3, 0, 45, 11, 110), (134, 0, 0, 1, 3, 0, 0, 0), (135, 2, 1, 2, 0, 6, 0, 0), (137, 9, 0, 1, 0, 0, 2, 0), (138, 2, 1, 2, 0, 5, 0, 0), (140, 9, 0, 1, 0, 0, 0, 0), (141, 32, 0, 1, 0, 0, 0, 0), (142, 4, 0, 1, 0, 0, 0, 0), (143, 26, 0, 3, 0, 45, 11, 110), (146, 0, 0, 1, 3, 0, 0, 0), (147, 2, 0, 1, 0, 1, 0, 0), (148, 9, 0, 1, 0, 0, 2, 0), (149, 2, 1, 2, 0, 5, 0, 0), (151, 9, 0, 1, 0, 0, 0, 0), (152, 32, 0, 1, 0, 0, 0, 0), (153, 22, 0, 3, 10, 163, 5, 0), (156, 0, 1, 2, 10, 0, 0, 0), (158, 2, 0, 1, 0, 2, 0, 0), (159, 9, 0, 1, 0, 0, 2, 0), (160, 2, 0, 1, 0, 3, 0, 0), (161, 9, 0, 1, 0, 0, 0, 0), (162, 39, 0, 1, 0, 0, 0, 0), (163, 8, 0, 3, 1, 3, 0, 0), (166, 20, 0, 3, (-123), 43, 0, 0), (169, 8, 0, 3, 1, 2, 0, 0), (172, 20, 0, 3, (-141), 31, 0, 0), (175, 0, 0, 1, (-1), 0, 0, 0), (176, 39, 0, 1, 0, 0, 0, 0)]
def pm_I216 : List (Nat × pm_Ins) := [(0, 0, 0, 1, 0, 0, 0, 0), (1, 5, 0, 1, 0, 1, 0, 0), (2, 2, 0, 1, 0, 1, 0, 0), (3, 4, 0, 1, 0, 0, 0, 0), (4, 43, 0, 3, 0, 183, 0, 302), (7, 22, 0, 3, 21, 28, 3, 0), (10, 4, 0, 1, 0, 0, 0, 0), (11, 26, 0, 3, 0, 31, 11, 77), (14, 2, 0, 1, 0, 1, 0, 0), (15, 4, 0, 1, 0, 0, 0, 0), (16, 26, 0, 3, 0, 52, 11, 119), (19, 2, 0, 1, 0, 1, 0, 0), (20, 32, 0, 1, 0, 0, 0, 0), (21, 36, 0, 1, 0, 0, 0, 0), (22, 8, 0, 3, 1, 1, 0, 0), (25, 20, 0, 3, (-23), 2, 0, 0), (28, 4, 0, 1, 0, 0, 0, 0), (29, 26, 0, 3, 0, 44, 11, 107), (32, 4, 0, 1, 0, 0, 0, 0), (33, 24, 0, 3, 0, 48, 11, 390), (36, 4, 0, 1, 0, 0, 0, 0), (37, 43, 0, 3, 0, 193, 0, 402), (40, 36, 0, 1, 0, 0, 0, 0), (41, 0, 0, 1, 0, 0, 0, 0), (42, 5, 0, 1, 0, 1, 0, 0), (43, 2, 0, 1, 0, 1, 0, 0), (44, 0, 0, 1, 3, 0, 0, 0), (45, 22, 0, 3, 31, 76, 3, 0), (48, 4, 0, 1, 0, 0, 0, 0), (49, 26, 0, 3, 0, 45, 11, 110), (52, 0, 0, 1, 3, 0, 0, 0), (53, 4, 0, 1, 0, 0, 0, 0), (54, 24, 0, 3, 0, 48, 11, 390), (57, 9, 0, 1, 0, 0, 2, 0), (58, 2, 0, 1, 0, 1, 0, 0), (59, 9, 0, 1, 0, 0, 0, 0), (60, 4, 0, 1, 0, 0, 0, 0), (61, 4, 0, 1, 0, 0, 0, 0), (62, 43, 0, 3, 0, 183, 0, 302), (65, 2, 0, 1, 0, 1, 0, 0), (66, 43, 0, 3, 0, 186, 0, 367), (69, 36, 0, 1, 0, 0, 0, 0), (70, 8, 0, 3, 1, 1, 0, 0), (73, 20, 0, 3, (-30), 43, 0, 0), (76, 4, 0, 1, 0, 0, 0, 0), (77, 17, 0, 1, 0, 0, 0, 0), (78, 24, 0, 3, 0, 48, 11, 390), (81, 0, 0, 1, 1, 0, 0, 0), (82, 9, 0, 1, 0, 0, 0, 0), (83, 27, 0, 3, 0, 48, 11, 390), (86, 42, 0, 1, 0, 0, 0, 0)]
def pm_I217 : List (Nat × pm_Ins) := [(0, 4, 0, 1, 0, 0, 0, 0), (1, 26, 0, 3, 0, 16, 11, 36), (4, 4, 0, 1, 0, 0, 0, 0), (5, 24, 0, 3, 0, 29, 11, 233), (8, 32, 0, 1, 0, 0, 0, 0), (9, 21, 0, 3, 9, 18, 1, 0), (12, 2, 0, 1, 0, 1, 0, 0), (13, 0, 0, 1, 3, 0, 0, 0), (14, 9, 0, 1, 0, 0, 8, 0), (15, 20, 0, 3, 27, 42, 0, 0), (18, 4, 0, 1, 0, 0, 0, 0), (19, 26, 0, 3, 0, 17, 11, 39), (22, 0, 1, 2, 6, 0, 0, 0), (24, 4, 0, 1, 0, 0, 0, 0), (25, 24, 0, 3, 0, 29, 11, 233), (28, 9, 0, 1, 0, 0, 2, 0), (29, 2, 0, 1, 0, 1, 0, 0), (30, 4, 0, 1, 0, 0, 0, 0), (31, 26, 0, 3, 0, 16, 11, 36), (34, 4, 0, 1, 0, 0, 0, 0), (35, 24, 0, 3, 0, 29, 11, 233), (38, 32, 0, 1, 0, 0, 0, 0), (39, 9, 0, 1, 0, 0, 8, 0), (40, 9, 0, 1, 0, 0, 0, 0), (41, 32, 0, 1, 0, 0, 0, 0), (42, 39, 0, 1, 0, 0, 0, 0)]
def pm_I218 : List (Nat × pm_Ins) := [(0, 0, 0, 1, 0, 0, 0, 0), (1, 5, 0, 1, 0, 1, 0, 0), (2, 2, 0, 1, 0, 1, 0, 0), (3, 4, 0, 1, 0, 0, 0, 0), (4, 24, 0, 3, 0, 39, 11, 336), (7, 22, 0, 3, 21, 28, 3, 0), (10, 4, 0, 1, 0, 0, 0, 0), (11, 26, 0, 3, 0, 31, 11, 77), (14, 2, 0, 1, 0, 1, 0, 0), (15, 4, 0, 1, 0, 0, 0, 0), (16, 26, 0, 3, 0, 36, 11, 92), (19, 2, 0, 1, 0, 1, 0, 0), (20, 32, 0, 1, 0, 0, 0, 0), (21, 36, 0, 1, 0, 0, 0, 0), (22, 8, 0, 3, 1, 1, 0, 0), (25, 20, 0, 3, (-23), 2, 0, 0), (28, 42, 0, 1, 0, 0, 0, 0)]
def pm_I219 : List (Nat × pm_Ins) := [(0, 0, 0, 1, 0, 0, 0, 0), (1, 5, 0, 1, 0, 2, 0, 0), (2, 0, 0, 1, 0, 0, 0, 0), (3, 5, 0, 1, 0, 3, 0, 0), (4, 2, 0, 1, 0, 3, 0, 0), (5, 4, 0, 1, 0, 0, 0, 0), (6, 24, 0, 3, 0, 39, 11, 336), (9, 22, 0, 3, 32, 41, 3, 0), (12, 2, 0, 1, 0, 3, 0, 0), (13, 2, 0, 1, 0, 1, 0, 0), (14, 22, 0, 3, 6, 20, 1, 0), (17, 20, 0, 3, 18, 35, 0, 0), (20, 4, 0, 1, 0, 0, 0, 0), (21, 26, 0, 3, 0, 31, 11, 77), (24, 2, 0, 1, 0, 2, 0, 0), (25, 4, 0, 1, 0, 0, 0, 0), (26, 26, 0, 3, 0, 36, 11, 92), (29, 2, 0, 1, 0, 3, 0, 0), (30, 32, 0, 1, 0, 0, 0, 0), (31, 36, 0, 1, 0, 0, 0, 0), (32, 8, 0, 3, 1, 2, 0, 0), (35, 8, 0, 3, 1, 3, 0, 0), (38, 20, 0, 3, (-34), 4, 0, 0), (41, 42, 0, 1, 0, 0, 0, 0)]
def pm_I220 : List (Nat × pm_Ins) := [(0, 4, 0, 1, 0, 0, 0, 0), (1, 2, 0, 1, 0, 1, 0, 0), (2, 43, 0, 3, 0, 166, 0, 357), (5, 21, 0, 3, 12, 17, 0, 0), (8, 4, 0, 1, 0, 0, 0, 0), (9, 26, 0, 3, 0, 37, 11, 95), (12, 2, 0, 1, 0, 1, 0, 0), (13, 32, 0, 1, 0, 0, 0, 0), (14, 20, 0, 3, 4, 18, 0, 0), (17, 0, 0, 1, (-1), 0, 0, 0), (18, 39, 0, 1, 0, 0, 0, 0)]
def pm_I221 : List (Nat × pm_Ins) := [(0, 0, 0, 1, 0, 0, 0, 0), (1, 5, 0, 1, 0, 2, 0, 0), (2, 2, 0, 1, 0, 2, 0, 0), (3, 0, 1, 2, 6, 0, 0, 0), (5, 22, 0, 3, 20, 25, 3, 0), (8, 4, 0, 1, 0, 0, 0, 0), (9, 26, 0, 3, 0, 53, 11, 122), (12, 2, 0, 1, 0, 2, 0, 0), (13, 2, 0, 1, 0, 1, 0, 0), (14, 2, 0, 1, 0, 2, 0, 0), (15, 44, 0, 3, 0, 191, 0, 431), (18, 36, 0, 1, 0, 0, 0, 0), (19, 8, 0, 3, 1, 2, 0, 0), (22, 20, 0, 3, (-20), 2, 0, 0), (25, 42, 0, 1, 0, 0, 0, 0)]
def pm_I222 : List (Nat × pm_Ins) := [(0, 0, 0, 1, 0, 0, 0, 0), (1, 5, 0, 1, 0, 1, 0, 0), (2, 2, 0, 1, 0, 1, 0, 0), (3, 0, 1, 2, 6, 0, 0, 0), (5, 22, 0, 3, 21, 26, 3, 0), (8, 4, 0, 1, 0, 0, 0, 0), (9, 26, 0, 3, 0, 53, 11, 122), (12, 2, 0, 1, 0, 1, 0, 0), (13, 4, 0, 1, 0, 0, 0, 0), (14, 26, 0, 3, 0, 37, 11, 95), (17, 2, 0, 1, 0, 1, 0, 0), (18, 32, 0, 1, 0, 0, 0, 0), (19, 36, 0, 1, 0, 0, 0, 0), (20, 8, 0, 3, 1, 1, 0, 0), (23, 20, 0, 3, (-21), 2, 0, 0), (26, 42, 0, 1, 0, 0, 0, 0)]
def pm_I223 : List (Nat × pm_Ins) := [(0, 4, 0, 1, 0, 0, 0, 0), (1, 24, 0, 3, 0, 42, 11, 339), (4, 21, 0, 3, 5, 9, 1, 0), (7, 0, 0, 1, 0, 0, 0, 0), (8, 39, 1, 1, 0, 0, 0, 0), (9, 4, 0, 1, 0, 0, 0, 0), (10, 17, 0, 1, 0, 0, 0, 0), (11, 24, 0, 3, 0, 42, 11, 339), (14, 0, 0, 1, 1, 0, 0, 0), (15, 9, 0, 1, 0, 0, 1, 0), (16, 27, 0, 3, 0, 42, 11, 339), (19, 4, 0, 1, 0, 0, 0, 0), (20, 17, 0, 1, 0, 0, 0, 0), (21, 24, 0, 3, 0, 43, 11, 342), (24, 0, 0, 1, 1, 0, 0, 0), (25, 9, 0, 1, 0, 0, 0, 0), (26, 27, 0, 3, 0, 43, 11, 342), (29, 4, 0, 1, 0, 0, 0, 0), (30, 0, 0, 1, 1, 0, 0, 0), (31, 43, 0, 3, 0, 144, 0, 373), (34, 0, 0, 1, 1, 0, 0, 0), (35, 39, 1, 1, 0, 0, 0, 0)]
def pm_I224 : List (Nat × pm_Ins) := [(0, 0, 0, 1, 0, 0, 0, 0), (1, 5, 0, 1, 0, 2, 0, 0), (2, 2, 0, 1, 0, 2, 0, 0), (3, 4, 0, 1, 0, 0, 0, 0), (4, 43, 0, 3, 0, 183, 0, 302), (7, 22, 0, 3, 21, 28, 3, 0), (10, 4, 0, 1, 0, 0, 0, 0), (11, 26, 0, 3, 0, 31, 11, 77), (14, 2, 0, 1, 0, 2, 0, 0), (15, 4, 0, 1, 0, 0, 0, 0), (16, 2, 0, 1, 0, 1, 0, 0), (17, 2, 0, 1, 0, 2, 0, 0), (18, 43, 0, 3, 0, 230, 0, 380), (21, 36, 0, 1, 0, 0, 0, 0), (22, 8, 0, 3, 1, 2, 0, 0), (25, 20, 0, 3, (-23), 2, 0, 0), (28, 42, 0, 1, 0, 0, 0, 0)]
def pm_I225 : List (Nat × pm_Ins) := [(0, 2, 0, 1, 0, 1, 0, 0), (1, 0, 0, 1, 0, 0, 0, 0), (2, 4, 0, 1, 0, 0, 0, 0), (3, 24, 0, 3, 0, 66, 11, 245), (6, 0, 0, 1, 1, 0, 0, 0), (7, 9, 0, 1, 0, 0, 1, 0), (8, 44, 0, 3, 0, 162, 0, 298), (11, 21, 0, 3, 12, 23, 0, 0), (14, 4, 0, 1, 0, 0, 0, 0), (15, 26, 0, 3, 0, 64, 11, 143), (18, 2, 0, 1, 0, 1, 0, 0), (19, 32, 0, 1, 0, 0, 0, 0), (20, 21, 0, 3, 5, 25, 2, 0), (23, 0, 0, 1, 0, 0, 0, 0), (24, 39, 1, 1, 0, 0, 0, 0), (25, 4, 0, 1, 0, 0, 0, 0), (26, 26, 0, 3, 0, 64, 11, 143), (29, 2, 0, 1, 0, 1, 0, 0), (30, 4, 0, 1, 0, 0, 0, 0), (31, 24, 0, 3, 0, 67, 11, 473), (34, 36, 0, 1, 0, 0, 0, 0), (35, 0, 0, 1, 1, 0, 0, 0), (36, 39, 1, 1, 0, 0, 0, 0)]
def pm_I226 : List (Nat × pm_Ins) := [(0, 4, 0, 1, 0, 0, 0, 0), (1, 43, 0, 3, 0, 181, 0, 462), (4, 4, 0, 1, 0, 0, 0, 0), (5, 26, 0, 3, 0, 13, 11, 27), (8, 4, 0, 1, 0, 0, 0, 0), (9, 24, 0, 3, 0, 29, 11, 233), (12, 32, 0, 1, 0, 0, 0, 0), (13, 21, 0, 3, 12, 25, 0, 0), (16, 4, 0, 1, 0, 0, 0, 0), (17, 26, 0, 3, 0, 60, 11, 131), (20, 0, 0, 1, 0, 0, 0, 0), (21, 32, 0, 1, 0, 0, 0, 0), (22, 21, 0, 3, 5, 27, 1, 0), (25, 0, 0, 1, 0, 0, 0, 0), (26, 39, 0, 1, 0, 0, 0, 0), (27, 0, 0, 1, 1, 0, 0, 0), (28, 5, 0, 1, 0, 1, 0, 0), (29, 0, 0, 1, 0, 0, 0, 0), (30, 5, 0, 1, 0, 2, 0, 0), (31, 2, 0, 1, 0, 2, 0, 0), (32, 2, 0, 1, 0, 1, 0, 0), (33, 22, 0, 3, 120, 153, 0, 0), (36, 2, 0, 1, 0, 1, 0, 0), (37, 5, 0, 1, 0, 2, 0, 0), (38, 0, 1, 2, 24, 0, 0, 0), (40, 4, 0, 1, 0, 0, 0, 0), (41, 24, 0, 3, 0, 29, 11, 233), (44, 9, 0, 1, 0, 0, 2, 0), (45, 5, 0, 1, 0, 3, 0, 0), (46, 2, 0, 1, 0, 3, 0, 0), (47, 0, 1, 2, 24, 0, 0, 0), (49, 4, 0, 1, 0, 0, 0, 0), (50, 24, 0, 3, 0, 29, 11, 233), (53, 9, 0, 1, 0, 0, 2, 0), (54, 4, 0, 1, 0, 0, 0, 0), (55, 26, 0, 3, 0, 14, 11, 30), (58, 4, 0, 1, 0, 0, 0, 0), (59, 24, 0, 3, 0, 29, 11, 233), (62, 32, 0, 1, 0, 0, 0, 0), (63, 9, 0, 1, 0, 0, 0, 0), (64, 22, 0, 3, 86, 150, 3, 0), (67, 2, 0, 1, 0, 1, 0, 0), (68, 4, 0, 1, 0, 0, 0, 0), (69, 26, 0, 3, 0, 20, 11, 48), (72, 2, 0, 1, 0, 3, 0, 0), (73, 32, 0, 1, 0, 0, 0, 0), (74, 9, 0, 1, 0, 0, 7, 0), (75, 0, 0, 1, 1, 0, 0, 0), (76, 9, 0, 1, 0, 0, 3, 0), (77, 21, 0, 3, 67, 144, 0, 0), (80, 4, 0, 1, 0, 0, 0, 0), (81, 2, 0, 1, 0, 3, 0, 0), (82, 43, 0, 3, 0, 214, 0, 458), (85, 21, 0, 3, 6, 91, 1, 0), (88, 20, 0, 3, 56, 144, 0, 0), (91, 0, 0, 1, 4, 0, 0, 0), (92, 2, 0, 1, 0, 3, 0, 0), (93, 9, 0, 1, 0, 0, 2, 0), (94, 5, 1, 2, 0, 4, 0, 0), (96, 2, 1, 2, 0, 4, 0, 0), (98, 0, 0, 1, 4, 0, 0, 0), (99, 2, 0, 1, 0, 3, 0, 0), (100, 9, 0, 1, 0, 0, 2, 0), (101, 4, 0, 1, 0, 0, 0, 0), (102, 26, 0, 3, 0, 21, 11, 51), (105, 2, 0, 1, 0, 3, 0, 0), (106, 32, 0, 1, 0, 0, 0, 0), (107, 9, 0, 1, 0, 0, 0, 0), (108, 22, 0, 3, 36, 144, 3, 0), (111, 4, 0, 1, 0, 0, 0, 0), (112, 26, 0, 3, 0, 22, 11, 54), (115, 2, 1, 2, 0, 4, 0, 0), (117, 32, 0, 1, 0, 0, 0, 0), (118, 0, 1, 2, 8, 0, 0, 0), (120, 22, 0, 3, 18, 138, 2, 0), (123, 2, 0, 1, 0, 1, 0, 0), (124, 0, 0, 1, 1, 0, 0, 0), (125, 4, 0, 1, 0, 0, 0, 0), (126, 26, 0, 3, 0, 22, 11, 54), (129, 2, 1, 2, 0, 4, 0, 0), (131, 32, 0, 1, 0, 0, 0, 0), (132, 0, 1, 2, 8, 0, 0, 0), (134, 9, 0, 1, 0, 0, 1, 0), (135, 9, 0, 1, 0, 0, 6, 0), (136, 9, 0, 1, 0, 0, 4, 0), (137, 5, 0, 1, 0, 1, 0, 0), (138, 8, 0, 3, 1, 4, 0, 0), (141, 20, 0, 3, (-45), 96, 0, 0), (144, 8, 0, 3, 1, 3, 0, 0), (147, 20, 0, 3, (-101), 46, 0, 0), (150, 20, 0, 3, (-119), 31, 0, 0), (153, 2, 0, 1, 0, 1, 0, 0), (154, 39, 0, 1, 0, 0, 0, 0)]
def pm_I227 : List (Nat × pm_Ins) := [(0, 0, 0, 1, 0, 0, 0, 0), (1, 5, 1, 2, 0, 4, 0, 0), (3, 2, 1, 2, 0, 4, 0, 0), (5, 0, 1, 2, 7, 0, 0, 0), (7, 22, 0, 3, 27, 34, 3, 0), (10, 4, 0, 1, 0, 0, 0, 0), (11, 26, 0, 3, 0, 34, 11, 86), (14, 2, 1, 2, 0, 4, 0, 0), (16, 2, 1, 2, 0, 4, 0, 0), (18, 2, 0, 1, 0, 2, 0, 0), (19, 22, 0, 3, 7, 26, 1, 0), (22, 1, 0, 1, 1, 1, 0, 0), (23, 20, 0, 3, 4, 27, 0, 0), (26, 1, 0, 1, 0, 0, 0, 0), (27, 38, 0, 1, 0, 0, 0, 0), (28, 8, 0, 3, 1, 4, 0, 0), (31, 20, 0, 3, (-28), 3, 0, 0), (34, 0, 0, 1, 4, 0, 0, 0), (35, 2, 0, 1, 0, 1, 0, 0), (36, 9, 0, 1, 0, 0, 2, 0), (37, 5, 1, 2, 0, 4, 0, 0), (39, 2, 1, 2, 0, 4, 0, 0), (41, 0, 0, 1, 4, 0, 0, 0), (42, 2, 0, 1, 0, 1, 0, 0), (43, 9, 0, 1, 0, 0, 2, 0), (44, 4, 0, 1, 0, 0, 0, 0), (45, 26, 0, 3, 0, 21, 11, 51), (48, 2, 0, 1, 0, 1, 0, 0), (49, 32, 0, 1, 0, 0, 0, 0), (50, 9, 0, 1, 0, 0, 0, 0), (51, 22, 0, 3, 225, 276, 3, 0), (54, 0, 0, 1, 0, 0, 0, 0), (55, 5, 1, 2, 0, 5, 0, 0), (57, 2, 1, 2, 0, 5, 0, 0), (59, 0, 1, 2, 7, 0, 0, 0), (61, 22, 0, 3, 17, 78, 3, 0), (64, 4, 0, 1, 0, 0, 0, 0), (65, 26, 0, 3, 0, 35, 11, 89), (68, 2, 1, 2, 0, 5, 0, 0), (70, 1, 0, 1, 0, 0, 0, 0), (71, 38, 0, 1, 0, 0, 0, 0), (72, 8, 0, 3, 1, 5, 0, 0), (75, 20, 0, 3, (-18), 57, 0, 0), (78, 2, 0, 1, 0, 2, 0, 0), (79, 5, 1, 2, 0, 5, 0, 0), (81, 2, 1, 2, 0, 5, 0, 0), (83, 2, 0, 1, 0, 3, 0, 0), (84, 22, 0, 3, 156, 240, 3, 0), (87, 4, 0, 1, 0, 0, 0, 0), (88, 26, 0, 3, 0, 34, 11, 86), (91, 2, 1, 2, 0, 5, 0, 0), (93, 34, 0, 1, 0, 0, 0, 0), (94, 1, 0, 1, 0, 0, 0, 0), (95, 13, 0, 1, 0, 0, 0, 0), (96, 21, 0, 3, 6, 102, 1, 0), (99, 20, 0, 3, 135, 234, 0, 0), (102, 4, 0, 1, 0, 0, 0, 0), (103, 26, 0, 3, 0, 22, 11, 54), (106, 2, 1, 2, 0, 4, 0, 0), (108, 32, 0, 1, 0, 0, 0, 0), (109, 0, 1, 2, 8, 0, 0, 0), (111, 22, 0, 3, 52, 163, 3, 0), (114, 4, 0, 1, 0, 0, 0, 0), (115, 26, 0, 3, 0, 31, 11, 77), (118, 2, 1, 2, 0, 5, 0, 0), (120, 32, 0, 1, 0, 0, 0, 0), (121, 4, 0, 1, 0, 0, 0, 0), (122, 26, 0, 3, 0, 22, 11, 54), (125, 2, 1, 2, 0, 4, 0, 0), (127, 32, 0, 1, 0, 0, 0, 0), (128, 22, 0, 3, 106, 234, 1, 0), (131, 4, 0, 1, 0, 0, 0, 0), (132, 26, 0, 3, 0, 35, 11, 89), (135, 2, 1, 2, 0, 5, 0, 0), (137, 0, 0, 1, 1, 0, 0, 0), (138, 9, 0, 1, 0, 0, 0, 0), (139, 4, 0, 1, 0, 0, 0, 0), (140, 26, 0, 3, 0, 35, 11, 89), (143, 2, 1, 2, 0, 5, 0, 0), (145, 0, 0, 1, 1, 0, 0, 0), (146, 9, 0, 1, 0, 0, 0, 0), (147, 34, 0, 1, 0, 0, 0, 0), (148, 4, 0, 1, 0, 0, 0, 0), (149, 26, 0, 3, 0, 34, 11, 86), (152, 2, 1, 2, 0, 5, 0, 0), (154, 34, 0, 1, 0, 0, 0, 0), (155, 11, 0, 1, 0, 0, 0, 0), (156, 44, 0, 3, 0, 130, 0, 330), (159, 38, 0, 1, 0, 0, 0, 0), (160, 20, 0, 3, 74, 234, 0, 0), (163, 2, 1, 2, 0, 5, 0, 0), (165, 0, 0, 1, 1, 0, 0, 0), (166, 9, 0, 1, 0, 0, 0, 0), (167, 5, 1, 2, 0, 6, 0, 0), (169, 2, 1, 2, 0, 6, 0, 0), (171, 2, 0, 1, 0, 3, 0, 0), (172, 22, 0, 3, 62, 234, 4, 0), (175, 4, 0, 1, 0, 0, 0, 0), (176, 26, 0, 3, 0, 35, 11, 89), (179, 2, 1, 2, 0, 6, 0, 0), (181, 4, 0, 1, 0, 0, 0, 0), (182, 26, 0, 3, 0, 35, 11, 89), (185, 2, 1, 2, 0, 6, 0, 0), (187, 34, 0, 1, 0, 0, 0, 0), (188, 4, 0, 1, 0, 0, 0, 0), (189, 26, 0, 3, 0, 34, 11, 86), (192, 2, 1, 2, 0, 5, 0, 0), (194, 34, 0, 1, 0, 0, 0, 0), (195, 4, 0, 1, 0, 0, 0, 0), (196, 26, 0, 3, 0, 33, 11, 83), (199, 0, 1, 2, 56, 0, 0, 0), (201, 4, 0, 1, 0, 0, 0, 0), (202, 26, 0, 3, 0, 22, 11, 54), (205, 2, 1, 2, 0, 4, 0, 0), (207, 32, 0, 1, 0, 0, 0, 0), (208, 0, 1, 2, 8, 0, 0, 0), (210, 9, 0, 1, 0, 0, 1, 0), (211, 9, 0, 1, 0, 0, 2, 0), (212, 0, 1, 2, 7, 0, 0, 0), (214, 2, 1, 2, 0, 5, 0, 0), (216, 9, 0, 1, 0, 0, 2, 0), (217, 9, 0, 1, 0, 0, 0, 0), (218, 2, 1, 2, 0, 6, 0, 0), (220, 9, 0, 1, 0, 0, 0, 0), (221, 34, 0, 1, 0, 0, 0, 0), (222, 11, 0, 1, 0, 0, 1, 0), (223, 11, 0, 1, 0, 0, 0, 0), (224, 44, 0, 3, 0, 130, 0, 330), (227, 38, 0, 1, 0, 0, 0, 0), (228, 8, 0, 3, 1, 6, 0, 0), (231, 20, 0, 3, (-62), 169, 0, 0), (234, 8, 0, 3, 1, 5, 0, 0), (237, 20, 0, 3, (-156), 81, 0, 0), (240, 0, 0, 1, 0, 0, 0, 0), (241, 5, 1, 2, 0, 5, 0, 0), (243, 2, 1, 2, 0, 5, 0, 0), (245, 0, 1, 2, 7, 0, 0, 0), (247, 22, 0, 3, 23, 270, 3, 0), (250, 4, 0, 1, 0, 0, 0, 0), (251, 26, 0, 3, 0, 34, 11, 86), (254, 2, 1, 2, 0, 5, 0, 0), (256, 4, 0, 1, 0, 0, 0, 0), (257, 26, 0, 3, 0, 35, 11, 89), (260, 2, 1, 2, 0, 5, 0, 0), (262, 34, 0, 1, 0, 0, 0, 0), (263, 38, 0, 1, 0, 0, 0, 0), (264, 8, 0, 3, 1, 5, 0, 0), (267, 20, 0, 3, (-24), 243, 0, 0), (270, 8, 0, 3, 1, 4, 0, 0), (273, 20, 0, 3, (-234), 39, 0, 0), (276, 4, 0, 1, 0, 0, 0, 0), (277, 26, 0, 3, 0, 34, 11, 86), (280, 2, 0, 1, 0, 3, 0, 0), (281, 34, 0, 1, 0, 0, 0, 0), (282, 40, 0, 1, 0, 0, 0, 0)]
def pm_I228 : List (Nat × pm_Ins) := [(0, 4, 0, 1, 0, 0, 0, 0), (1, 24, 0, 3, 0, 39, 11, 336), (4, 5, 0, 1, 0, 1, 0, 0), (5, 4, 0, 1, 0, 0, 0, 0), (6, 43, 0, 3, 0, 132, 0, 161), (9, 2, 0, 1, 0, 1, 0, 0), (10, 39, 0, 1, 0, 0, 0, 0)]
def pm_I229 : List (Nat × pm_Ins) := [(0, 2, 0, 1, 0, 1, 0, 0), (1, 0, 0, 1, 0, 0, 0, 0), (2, 4, 0, 1, 0, 0, 0, 0), (3, 24, 0, 3, 0, 39, 11, 336), (6, 0, 0, 1, 1, 0, 0, 0), (7, 9, 0, 1, 0, 0, 1, 0), (8, 44, 0, 3, 0, 162, 0, 298), (11, 21, 0, 3, 12, 23, 0, 0), (14, 4, 0, 1, 0, 0, 0, 0), (15, 26, 0, 3, 0, 36, 11, 92), (18, 2, 0, 1, 0, 1, 0, 0), (19, 32, 0, 1, 0, 0, 0, 0), (20, 20, 0, 3, 4, 24, 0, 0), (23, 0, 0, 1, (-1), 0, 0, 0), (24, 39, 0, 1, 0, 0, 0, 0)]
def pm_I230 : List (Nat × pm_Ins) := [(0, 2, 0, 1, 0, 1, 0, 0), (1, 0, 0, 1, 3, 0, 0, 0), (2, 4, 0, 1, 0, 0, 0, 0), (3, 43, 0, 3, 0, 183, 0, 302), (6, 0, 0, 1, 1, 0, 0, 0), (7, 9, 0, 1, 0, 0, 1, 0), (8, 2, 0, 1, 0, 2, 0, 0), (9, 9, 0, 1, 0, 0, 1, 0), (10, 9, 0, 1, 0, 0, 2, 0), (11, 9, 0, 1, 0, 0, 7, 0), (12, 0, 1, 2, 7, 0, 0, 0), (14, 9, 0, 1, 0, 0, 3, 0), (15, 39, 0, 1, 0, 0, 0, 0)]
def pm_I231 : List (Nat × pm_Ins) := [(0, 0, 0, 1, 0, 0, 0, 0), (1, 5, 0, 1, 0, 3, 0, 0), (2, 2, 0, 1, 0, 3, 0, 0), (3, 4, 0, 1, 0, 0, 0, 0), (4, 26, 0, 3, 0, 11, 11, 20), (7, 4, 0, 1, 0, 0, 0, 0), (8, 24, 0, 3, 0, 30, 11, 227), (11, 32, 0, 1, 0, 0, 0, 0), (12, 22, 0, 3, 30, 42, 3, 0), (15, 4, 0, 1, 0, 0, 0, 0), (16, 26, 0, 3, 0, 26, 11, 67), (19, 0, 1, 2, 8, 0, 0, 0), (21, 4, 0, 1, 0, 0, 0, 0), (22, 24, 0, 3, 0, 30, 11, 227), (25, 9, 0, 1, 0, 0, 2, 0), (26, 2, 0, 1, 0, 3, 0, 0), (27, 9, 0, 1, 0, 0, 0, 0), (28, 34, 0, 1, 0, 0, 0, 0), (29, 3, 0, 1, 0, 1, 0, 0), (30, 13, 0, 1, 0, 0, 0, 0), (31, 21, 0, 3, 5, 36, 1, 0), (34, 2, 0, 1, 0, 3, 0, 0), (35, 39, 0, 1, 0, 0, 0, 0), (36, 8, 0, 3, 1, 3, 0, 0), (39, 20, 0, 3, (-37), 2, 0, 0), (42, 0, 0, 1, (-1), 0, 0, 0), (43, 39, 0, 1, 0, 0, 0, 0)]
def pm_I232 : List (Nat × pm_Ins) := [(0, 4, 0, 1, 0, 0, 0, 0), (1, 2, 0, 1, 0, 1, 0, 0), (2, 43, 0, 3, 0, 171, 0, 305), (5, 21, 0, 3, 31, 36, 0, 0), (8, 2, 0, 1, 0, 2, 0, 0), (9, 44, 0, 3, 0, 161, 0, 308), (12, 21, 0, 3, 24, 36, 0, 0), (15, 4, 0, 1, 0, 0, 0, 0), (16, 26, 0, 3, 0, 18, 11, 42), (19, 0, 0, 1, 3, 0, 0, 0), (20, 0, 1, 2, 8, 0, 0, 0), (22, 4, 0, 1, 0, 0, 0, 0), (23, 24, 0, 3, 0, 29, 11, 233), (26, 9, 0, 1, 0, 0, 2, 0), (27, 2, 0, 1, 0, 1, 0, 0), (28, 9, 0, 1, 0, 0, 0, 0), (29, 9, 0, 1, 0, 0, 2, 0), (30, 2, 0, 1, 0, 2, 0, 0), (31, 9, 0, 1, 0, 0, 0, 0), (32, 32, 0, 1, 0, 0, 0, 0), (33, 20, 0, 3, 6, 39, 0, 0), (36, 0, 4, 3, (-1000000), 0, 0, 311), (39, 39, 0, 1, 0, 0, 0, 0)]
def pm_I233 : List (Nat × pm_Ins) := [(0, 4, 0, 1, 0, 0, 0, 0), (1, 2, 0, 1, 0, 1, 0, 0), (2, 43, 0, 3, 0, 171, 0, 305), (5, 21, 0, 3, 11, 16, 0, 0), (8, 4, 0, 1, 0, 0, 0, 0), (9, 2, 0, 1, 0, 1, 0, 0), (10, 43, 0, 3, 0, 136, 0, 360), (13, 21, 0, 3, 5, 18, 1, 0), (16, 0, 0, 1, (-1), 0, 0, 0), (17, 39, 0, 1, 0, 0, 0, 0), (18, 4, 0, 1, 0, 0, 0, 0), (19, 0, 0, 1, (-1), 0, 0, 0), (20, 2, 0, 1, 0, 1, 0, 0), (21, 43, 0, 3, 0, 172, 0, 370), (24, 4, 0, 1, 0, 0, 0, 0), (25, 26, 0, 3, 0, 36, 11, 92), (28, 4, 0, 1, 0, 0, 0, 0), (29, 24, 0, 3, 0, 39, 11, 336), (32, 2, 0, 1, 0, 1, 0, 0), (33, 36, 0, 1, 0, 0, 0, 0), (34, 4, 0, 1, 0, 0, 0, 0), (35, 17, 0, 1, 0, 0, 0, 0), (36, 24, 0, 3, 0, 39, 11, 336), (39, 0, 0, 1, 1, 0, 0, 0), (40, 9, 0, 1, 0, 0, 0, 0), (41, 27, 0, 3, 0, 39, 11, 336), (44, 4, 0, 1, 0, 0, 0, 0), (45, 24, 0, 3, 0, 39, 11, 336), (48, 39, 0, 1, 0, 0, 0, 0)]
def pm_I234 : List (Nat × pm_Ins) := [(0, 4, 0, 1, 0, 0, 0, 0), (1, 0, 0, 1, 0, 0, 0, 0), (2, 27, 0, 3, 0, 59, 11, 248), (5, 2, 0, 1, 0, 1, 0, 0), (6, 44, 0, 3, 0, 161, 0, 308), (9, 21, 0, 3, 10, 19, 0, 0), (12, 4, 0, 1, 0, 0, 0, 0), (13, 43, 0, 3, 0, 179, 0, 434), (16, 21, 0, 3, 7, 23, 1, 0), (19, 0, 4, 3, (-1000000), 0, 0, 311), (22, 39, 0, 1, 0, 0, 0, 0), (23, 4, 0, 1, 0, 0, 0, 0), (24, 43, 0, 3, 0, 222, 0, 437), (27, 4, 0, 1, 0, 0, 0, 0), (28, 0, 0, 1, 0, 0, 0, 0), (29, 43, 0, 3, 0, 195, 0, 440), (32, 5, 0, 1, 0, 2, 0, 0), (33, 2, 0, 1, 0, 2, 0, 0), (34, 21, 0, 3, 7, 41, 3, 0), (37, 0, 4, 3, (-1000000), 0, 0, 311), (40, 39, 0, 1, 0, 0, 0, 0), (41, 4, 0, 1, 0, 0, 0, 0), (42, 2, 0, 1, 0, 2, 0, 0), (43, 43, 0, 3, 0, 176, 0, 443), (46, 4, 0, 1, 0, 0, 0, 0), (47, 26, 0, 3, 0, 45, 11, 110), (50, 0, 0, 1, 3, 0, 0, 0), (51, 2, 0, 1, 0, 2, 0, 0), (52, 9, 0, 1, 0, 0, 2, 0), (53, 2, 0, 1, 0, 1, 0, 0), (54, 9, 0, 1, 0, 0, 0, 0), (55, 32, 0, 1, 0, 0, 0, 0), (56, 39, 0, 1, 0, 0, 0, 0)]
def pm_I235 : List (Nat × pm_Ins) := [(0, 0, 0, 1, 0, 0, 0, 0), (1, 5, 0, 1, 0, 2, 0, 0), (2, 4, 0, 1, 0, 0, 0, 0), (3, 31, 0, 1, 0, 0, 0, 0), (4, 5, 0, 1, 0, 3, 0, 0), (5, 2, 0, 1, 0, 2, 0, 0), (6, 2, 0, 1, 0, 3, 0, 0), (7, 22, 0, 3, 13, 20, 3, 0), (10, 4, 0, 1, 0, 0, 0, 0), (11, 2, 0, 1, 0, 2, 0, 0), (12, 2, 0, 1, 0, 1, 0, 0), (13, 36, 0, 1, 0, 0, 0, 0), (14, 8, 0, 3, 1, 2, 0, 0), (17, 20, 0, 3, (-12), 5, 0, 0), (20, 42, 0, 1, 0, 0, 0, 0)]
def pm_I236 : List (Nat × pm_Ins) := [(0, 99, 0, 3, 0, 0, 0, 7), (3, 17, 0, 1, 0, 0, 0, 0), (4, 99, 0, 3, 0, 0, 0, 9), (7, 7, 0, 1, 0, 1, 0, 0), (8, 99, 0, 3, 0, 0, 0, 10), (11, 17, 0, 1, 0, 0, 0, 0), (12, 99, 0, 3, 0, 0, 0, 12), (15, 7, 0, 1, 0, 2, 0, 0), (16, 0, 0, 1, 0, 0, 0, 0), (17, 5, 0, 1, 0, 3, 0, 0), (18, 2, 0, 1, 0, 3, 0, 0), (19, 4, 0, 1, 0, 0, 0, 0), (20, 31, 0, 1, 0, 0, 0, 0), (21, 0, 1, 2, 6, 0, 0, 0), (23, 9, 0, 1, 0, 0, 1, 0), (24, 22, 0, 3, 1075, 1099, 4, 0), (27, 4, 0, 1, 0, 0, 0, 0), (28, 2, 0, 1, 0, 3, 0, 0), (29, 32, 0, 1, 0, 0, 0, 0), (30, 0, 1, 2, 63, 0, 0, 0), (32, 9, 0, 1, 0, 0, 3, 0), (33, 23, 0, 163, 0, 3, 0, 0), (196, 4, 0, 1, 0, 1, 0, 0), (197, 4, 0, 1, 0, 0, 0, 0), (198, 2, 0, 1, 0, 3, 0, 0), (199, 0, 0, 1, 1, 0, 0, 0), (200, 9, 0, 1, 0, 0, 0, 0), (201, 32, 0, 1, 0, 0, 0, 0), (202, 4, 0, 1, 0, 0, 0, 0), (203, 2, 0, 1, 0, 3, 0, 0), (204, 0, 0, 1, 2, 0, 0, 0), (205, 9, 0, 1, 0, 0, 0, 0), (206, 32, 0, 1, 0, 0, 0, 0), (207, 4, 0, 1, 0, 0, 0, 0), (208, 2, 0, 1, 0, 3, 0, 0), (209, 0, 0, 1, 3, 0, 0, 0), (210, 9, 0, 1, 0, 0, 0, 0), (211, 32, 0, 1, 0, 0, 0, 0), (212, 4, 0, 1, 0, 0, 0, 0), (213, 2, 0, 1, 0, 3, 0, 0), (214, 0, 0, 1, 4, 0, 0, 0), (215, 9, 0, 1, 0, 0, 0, 0), (216, 32, 0, 1, 0, 0, 0, 0), (217, 4, 0, 1, 0, 0, 0, 0), (218, 2, 0, 1, 0, 3, 0, 0), (219, 0, 0, 1, 5, 0, 0, 0), (220, 9, 0, 1, 0, 0, 0, 0), (221, 32, 0, 1, 0, 0, 0, 0), (222, 43, 0, 3, 0, 87, 0, 13), (225, 18, 0, 1, 0, 0, 0, 0), (226, 4, 0, 1, 0, 2, 0, 0), (227, 4, 0, 1, 0, 0, 0, 0), (228, 2, 0, 1, 0, 3, 0, 0), (229, 0, 0, 1, 1, 0, 0, 0), (230, 9, 0, 1, 0, 0, 0, 0), (231, 32, 0, 1, 0, 0, 0, 0), (232, 4, 0, 1, 0, 0, 0, 0), (233, 2, 0, 1, 0, 3, 0, 0), (234, 0, 0, 1, 2, 0, 0, 0), (235, 9, 0, 1, 0, 0, 0, 0), (236, 32, 0, 1, 0, 0, 0, 0), (237, 4, 0, 1, 0, 0, 0, 0), (238, 2, 0, 1, 0, 3, 0, 0), (239, 0, 0, 1, 3, 0, 0, 0), (240, 9, 0, 1, 0, 0, 0, 0), (241, 32, 0, 1, 0, 0, 0, 0), (242, 4, 0, 1, 0, 0, 0, 0), (243, 2, 0, 1, 0, 3, 0, 0), (244, 0, 0, 1, 4, 0, 0, 0), (245, 9, 0, 1, 0, 0, 0, 0), (246, 32, 0, 1, 0, 0, 0, 0), (247, 4, 0, 1, 0, 0, 0, 0), (248, 2, 0, 1, 0, 3, 0, 0), (249, 0, 0, 1, 5, 0, 0, 0), (250, 9, 0, 1, 0, 0, 0, 0), (251, 32, 0, 1, 0, 0, 0, 0), (252, 43, 0, 3, 0, 147, 0, 17), (255, 18, 0, 1, 0, 0, 0, 0), (256, 20, 0, 3, 837, 1093, 0, 0), (259, 4, 0, 1, 0, 1, 0, 0), (260, 4, 0, 1, 0, 0, 0, 0), (261, 2, 0, 1, 0, 3, 0, 0), (262, 0, 0, 1, 1, 0, 0, 0), (263, 9, 0, 1, 0, 0, 0, 0), (264, 32, 0, 1, 0, 0, 0, 0), (265, 43, 0, 3, 0, 85, 0, 18), (268, 18, 0, 1, 0, 0, 0, 0), (269, 4, 0, 1, 0, 2, 0, 0), (270, 4, 0, 1, 0, 0, 0, 0), (271, 2, 0, 1, 0, 3, 0, 0), (272, 0, 0, 1, 1, 0, 0, 0), (273, 9, 0, 1, 0, 0, 0, 0), (274, 32, 0, 1, 0, 0, 0, 0), (275, 43, 0, 3, 0, 142, 0, 22), (278, 18, 0, 1, 0, 0, 0, 0), (279, 20, 0, 3, 814, 1093, 0, 0), (282, 4, 0, 1, 0, 1, 0, 0), (283, 43, 0, 3, 0, 108, 0, 23), (286, 18, 0, 1, 0, 0, 0, 0), (287, 4, 0, 1, 0, 2, 0, 0), (288, 43, 0, 3, 0, 196, 0, 27), (291, 18, 0, 1, 0, 0, 0, 0), (292, 20, 0, 3, 801, 1093, 0, 0), (295, 4, 0, 1, 0, 1, 0, 0), (296, 4, 0, 1, 0, 0, 0, 0), (297, 2, 0, 1, 0, 3, 0, 0), (298, 0, 0, 1, 1, 0, 0, 0), (299, 9, 0, 1, 0, 0, 0, 0), (300, 32, 0, 1, 0, 0, 0, 0), (301, 43, 0, 3, 0, 86, 0, 28), (304, 18, 0, 1, 0, 0, 0, 0), (305, 4, 0, 1, 0, 2, 0, 0), (306, 4, 0, 1, 0, 0, 0, 0), (307, 2, 0, 1, 0, 3, 0, 0), (308, 0, 0, 1, 1, 0, 0, 0), (309, 9, 0, 1, 0, 0, 0, 0), (310, 32, 0, 1, 0, 0, 0, 0), (311, 43, 0, 3, 0, 146, 0, 31), (314, 18, 0, 1, 0, 0, 0, 0), (315, 20, 0, 3, 778, 1093, 0, 0), (318, 4, 0, 1, 0, 1, 0, 0), (319, 4, 0, 1, 0, 0, 0, 0), (320, 2, 0, 1, 0, 3, 0, 0), (321, 0, 0, 1, 1, 0, 0, 0), (322, 9, 0, 1, 0, 0, 0, 0), (323, 32, 0, 1, 0, 0, 0, 0), (324, 4, 0, 1, 0, 0, 0, 0), (325, 2, 0, 1, 0, 3, 0, 0), (326, 0, 0, 1, 2, 0, 0, 0), (327, 9, 0, 1, 0, 0, 0, 0), (328, 32, 0, 1, 0, 0, 0, 0), (329, 43, 0, 3, 0, 125, 0, 32), (332, 18, 0, 1, 0, 0, 0, 0), (333, 4, 0, 1, 0, 2, 0, 0), (334, 4, 0, 1, 0, 0, 0, 0), (335, 2, 0, 1, 0, 3, 0, 0), (336, 0, 0, 1, 1, 0, 0, 0), (337, 9, 0, 1, 0, 0, 0, 0), (338, 32, 0, 1, 0, 0, 0, 0), (339, 4, 0, 1, 0, 0, 0, 0), (340, 2, 0, 1, 0, 3, 0, 0), (341, 0, 0, 1, 2, 0, 0, 0), (342, 9, 0, 1, 0, 0, 0, 0), (343, 32, 0, 1, 0, 0, 0, 0), (344, 43, 0, 3, 0, 232, 0, 36), (347, 18, 0, 1, 0, 0, 0, 0), (348, 20, 0, 3, 745, 1093, 0, 0), (351, 4, 0, 1, 0, 1, 0, 0), (352, 4, 0, 1, 0, 0, 0, 0), (353, 2, 0, 1, 0, 3, 0, 0), (354, 0, 0, 1, 1, 0, 0, 0), (355, 9, 0, 1, 0, 0, 0, 0), (356, 32, 0, 1, 0, 0, 0, 0), (357, 4, 0, 1, 0, 0, 0, 0), (358, 2, 0, 1, 0, 3, 0, 0), (359, 0, 0, 1, 2, 0, 0, 0), (360, 9, 0, 1, 0, 0, 0, 0), (361, 32, 0, 1, 0, 0, 0, 0), (362, 4, 0, 1, 0, 0, 0, 0), (363, 2, 0, 1, 0, 3, 0, 0), (364, 0, 0, 1, 3, 0, 0, 0), (365, 9, 0, 1, 0, 0, 0, 0), (366, 32, 0, 1, 0, 0, 0, 0), (367, 43, 0, 3, 0, 81, 0, 37), (370, 18, 0, 1, 0, 0, 0, 0), (371, 4, 0, 1, 0, 2, 0, 0), (372, 4, 0, 1, 0, 0, 0, 0), (373, 2, 0, 1, 0, 3, 0, 0), (374, 0, 0, 1, 1, 0, 0, 0), (375, 9, 0, 1, 0, 0, 0, 0), (376, 32, 0, 1, 0, 0, 0, 0), (377, 4, 0, 1, 0, 0, 0, 0), (378, 2, 0, 1, 0, 3, 0, 0), (379, 0, 0, 1, 2, 0, 0, 0), (380, 9, 0, 1, 0, 0, 0, 0), (381, 32, 0, 1, 0, 0, 0, 0), (382, 4, 0, 1, 0, 0, 0, 0), (383, 2, 0, 1, 0, 3, 0, 0), (384, 0, 0, 1, 3, 0, 0, 0), (385, 9, 0, 1, 0, 0, 0, 0), (386, 32, 0, 1, 0, 0, 0, 0), (387, 43, 0, 3, 0, 133, 0, 41), (390, 18, 0, 1, 0, 0, 0, 0), (391, 20, 0, 3, 702, 1093, 0, 0), (394, 4, 0, 1, 0, 1, 0, 0), (395, 4, 0, 1, 0, 0, 0, 0), (396, 2, 0, 1, 0, 3, 0, 0), (397, 0, 0, 1, 1, 0, 0, 0), (398, 9, 0, 1, 0, 0, 0, 0), (399, 32, 0, 1, 0, 0, 0, 0), (400, 43, 0, 3, 0, 119, 0, 42), (403, 18, 0, 1, 0, 0, 0, 0), (404, 4, 0, 1, 0, 2, 0, 0), (405, 4, 0, 1, 0, 0, 0, 0), (406, 2, 0, 1, 0, 3, 0, 0), (407, 0, 0, 1, 1, 0, 0, 0), (408, 9, 0, 1, 0, 0, 0, 0), (409, 32, 0, 1, 0, 0, 0, 0), (410, 43, 0, 3, 0, 220, 0, 45), (413, 18, 0, 1, 0, 0, 0, 0), (414, 20, 0, 3, 679, 1093, 0, 0), (417, 4, 0, 1, 0, 1, 0, 0), (418, 4, 0, 1, 0, 0, 0, 0), (419, 2, 0, 1, 0, 3, 0, 0), (420, 0, 0, 1, 1, 0, 0, 0), (421, 9, 0, 1, 0, 0, 0, 0), (422, 32, 0, 1, 0, 0, 0, 0), (423, 43, 0, 3, 0, 126, 0, 46), (426, 18, 0, 1, 0, 0, 0, 0), (427, 4, 0, 1, 0, 2, 0, 0), (428, 4, 0, 1, 0, 0, 0, 0), (429, 2, 0, 1, 0, 3, 0, 0), (430, 0, 0, 1, 1, 0, 0, 0), (431, 9, 0, 1, 0, 0, 0, 0), (432, 32, 0, 1, 0, 0, 0, 0), (433, 43, 0, 3, 0, 233, 0, 49), (436, 18, 0, 1, 0, 0, 0, 0), (437, 20, 0, 3, 656, 1093, 0, 0), (440, 4, 0, 1, 0, 1, 0, 0), (441, 4, 0, 1, 0, 0, 0, 0), (442, 2, 0, 1, 0, 3, 0, 0), (443, 0, 0, 1, 1, 0, 0, 0), (444, 9, 0, 1, 0, 0, 0, 0), (445, 32, 0, 1, 0, 0, 0, 0), (446, 4, 0, 1, 0, 0, 0, 0), (447, 2, 0, 1, 0, 3, 0, 0), (448, 0, 0, 1, 2, 0, 0, 0), (449, 9, 0, 1, 0, 0, 0, 0), (450, 32, 0, 1, 0, 0, 0, 0), (451, 43, 0, 3, 0, 112, 0, 50), (454, 18, 0, 1, 0, 0, 0, 0), (455, 4, 0, 1, 0, 2, 0, 0), (456, 4, 0, 1, 0, 0, 0, 0), (457, 2, 0, 1, 0, 3, 0, 0), (458, 0, 0, 1, 1, 0, 0, 0), (459, 9, 0, 1, 0, 0, 0, 0), (460, 32, 0, 1, 0, 0, 0, 0), (461, 4, 0, 1, 0, 0, 0, 0), (462, 2, 0, 1, 0, 3, 0, 0), (463, 0, 0, 1, 2, 0, 0, 0), (464, 9, 0, 1, 0, 0, 0, 0), (465, 32, 0, 1, 0, 0, 0, 0), (466, 43, 0, 3, 0, 208, 0, 53), (469, 18, 0, 1, 0, 0, 0, 0), (470, 20, 0, 3, 623, 1093, 0, 0), (473, 4, 0, 1, 0, 1, 0, 0), (474, 43, 0, 3, 0, 120, 0, 54), (477, 18, 0, 1, 0, 0, 0, 0), (478, 4, 0, 1, 0, 2, 0, 0), (479, 43, 0, 3, 0, 223, 0, 58), (482, 18, 0, 1, 0, 0, 0, 0), (483, 20, 0, 3, 610, 1093, 0, 0), (486, 4, 0, 1, 0, 1, 0, 0), (487, 43, 0, 3, 0, 110, 0, 59), (490, 18, 0, 1, 0, 0, 0, 0), (491, 4, 0, 1, 0, 2, 0, 0), (492, 43, 0, 3, 0, 205, 0, 62), (495, 18, 0, 1, 0, 0, 0, 0), (496, 20, 0, 3, 597, 1093, 0, 0), (499, 4, 0, 1, 0, 1, 0, 0), (500, 43, 0, 3, 0, 123, 0, 63), (503, 18, 0, 1, 0, 0, 0, 0), (504, 4, 0, 1, 0, 2, 0, 0), (505, 43, 0, 3, 0, 228, 0, 66), (508, 18, 0, 1, 0, 0, 0, 0), (509, 20, 0, 3, 584, 1093, 0, 0), (512, 4, 0, 1, 0, 1, 0, 0), (513, 4, 0, 1, 0, 0, 0, 0), (514, 2, 0, 1, 0, 3, 0, 0), (515, 0, 0, 1, 1, 0, 0, 0), (516, 9, 0, 1, 0, 0, 0, 0), (517, 32, 0, 1, 0, 0, 0, 0), (518, 43, 0, 3, 0, 124, 0, 67), (521, 18, 0, 1, 0, 0, 0, 0), (522, 4, 0, 1, 0, 2, 0, 0), (523, 4, 0, 1, 0, 0, 0, 0), (524, 2, 0, 1, 0, 3, 0, 0), (525, 0, 0, 1, 1, 0, 0, 0), (526, 9, 0, 1, 0, 0, 0, 0), (527, 32, 0, 1, 0, 0, 0, 0), (528, 43, 0, 3, 0, 229, 0, 70), (531, 18, 0, 1, 0, 0, 0, 0), (532, 20, 0, 3, 561, 1093, 0, 0), (535, 4, 0, 1, 0, 1, 0, 0), (536, 43, 0, 3, 0, 103, 0, 71), (539, 18, 0, 1, 0, 0, 0, 0), (540, 4, 0, 1, 0, 2, 0, 0), (541, 43, 0, 3, 0, 189, 0, 74), (544, 18, 0, 1, 0, 0, 0, 0), (545, 20, 0, 3, 548, 1093, 0, 0), (548, 4, 0, 1, 0, 1, 0, 0), (549, 43, 0, 3, 0, 109, 0, 75), (552, 18, 0, 1, 0, 0, 0, 0), (553, 4, 0, 1, 0, 2, 0, 0), (554, 43, 0, 3, 0, 203, 0, 78), (557, 18, 0, 1, 0, 0, 0, 0), (558, 20, 0, 3, 535, 1093, 0, 0), (561, 4, 0, 1, 0, 1, 0, 0), (562, 4, 0, 1, 0, 0, 0, 0), (563, 2, 0, 1, 0, 3, 0, 0), (564, 0, 0, 1, 1, 0, 0, 0), (565, 9, 0, 1, 0, 0, 0, 0), (566, 32, 0, 1, 0, 0, 0, 0), (567, 43, 0, 3, 0, 102, 0, 79), (570, 18, 0, 1, 0, 0, 0, 0), (571, 4, 0, 1, 0, 2, 0, 0), (572, 4, 0, 1, 0, 0, 0, 0), (573, 2, 0, 1, 0, 3, 0, 0), (574, 0, 0, 1, 1, 0, 0, 0), (575, 9, 0, 1, 0, 0, 0, 0), (576, 32, 0, 1, 0, 0, 0, 0), (577, 43, 0, 3, 0, 185, 0, 82), (580, 18, 0, 1, 0, 0, 0, 0), (581, 20, 0, 3, 512, 1093, 0, 0), (584, 4, 0, 1, 0, 1, 0, 0), (585, 4, 0, 1, 0, 0, 0, 0), (586, 2, 0, 1, 0, 3, 0, 0), (587, 0, 0, 1, 1, 0, 0, 0), (588, 9, 0, 1, 0, 0, 0, 0), (589, 32, 0, 1, 0, 0, 0, 0), (590, 43, 0, 3, 0, 127, 0, 83), (593, 18, 0, 1, 0, 0, 0, 0), (594, 4, 0, 1, 0, 2, 0, 0), (595, 4, 0, 1, 0, 0, 0, 0), (596, 2, 0, 1, 0, 3, 0, 0), (597, 0, 0, 1, 1, 0, 0, 0), (598, 9, 0, 1, 0, 0, 0, 0), (599, 32, 0, 1, 0, 0, 0, 0), (600, 43, 0, 3, 0, 234, 0, 86), (603, 18, 0, 1, 0, 0, 0, 0), (604, 20, 0, 3, 489, 1093, 0, 0), (607, 4, 0, 1, 0, 1, 0, 0), (608, 4, 0, 1, 0, 0, 0, 0), (609, 2, 0, 1, 0, 3, 0, 0), (610, 0, 0, 1, 1, 0, 0, 0), (611, 9, 0, 1, 0, 0, 0, 0), (612, 32, 0, 1, 0, 0, 0, 0), (613, 43, 0, 3, 0, 93, 0, 87), (616, 18, 0, 1, 0, 0, 0, 0), (617, 4, 0, 1, 0, 2, 0, 0), (618, 4, 0, 1, 0, 0, 0, 0), (619, 2, 0, 1, 0, 3, 0, 0), (620, 0, 0, 1, 1, 0, 0, 0), (621, 9, 0, 1, 0, 0, 0, 0), (622, 32, 0, 1, 0, 0, 0, 0), (623, 43, 0, 3, 0, 153, 0, 90), (626, 18, 0, 1, 0, 0, 0, 0), (627, 20, 0, 3, 466, 1093, 0, 0), (630, 4, 0, 1, 0, 1, 0, 0), (631, 4, 0, 1, 0, 0, 0, 0), (632, 2, 0, 1, 0, 3, 0, 0), (633, 0, 0, 1, 1, 0, 0, 0), (634, 9, 0, 1, 0, 0, 0, 0), (635, 32, 0, 1, 0, 0, 0, 0), (636, 4, 0, 1, 0, 0, 0, 0), (637, 2, 0, 1, 0, 3, 0, 0), (638, 0, 0, 1, 2, 0, 0, 0), (639, 9, 0, 1, 0, 0, 0, 0), (640, 32, 0, 1, 0, 0, 0, 0), (641, 43, 0, 3, 0, 113, 0, 91), (644, 18, 0, 1, 0, 0, 0, 0), (645, 4, 0, 1, 0, 2, 0, 0), (646, 4, 0, 1, 0, 0, 0, 0), (647, 2, 0, 1, 0, 3, 0, 0), (648, 0, 0, 1, 1, 0, 0, 0), (649, 9, 0, 1, 0, 0, 0, 0), (650, 32, 0, 1, 0, 0, 0, 0), (651, 4, 0, 1, 0, 0, 0, 0), (652, 2, 0, 1, 0, 3, 0, 0), (653, 0, 0, 1, 2, 0, 0, 0), (654, 9, 0, 1, 0, 0, 0, 0), (655, 32, 0, 1, 0, 0, 0, 0), (656, 43, 0, 3, 0, 210, 0, 94), (659, 18, 0, 1, 0, 0, 0, 0), (660, 20, 0, 3, 433, 1093, 0, 0), (663, 4, 0, 1, 0, 1, 0, 0), (664, 43, 0, 3, 0, 117, 0, 95), (667, 18, 0, 1, 0, 0, 0, 0), (668, 4, 0, 1, 0, 2, 0, 0), (669, 43, 0, 3, 0, 215, 0, 98), (672, 18, 0, 1, 0, 0, 0, 0), (673, 20, 0, 3, 420, 1093, 0, 0), (676, 4, 0, 1, 0, 1, 0, 0), (677, 4, 0, 1, 0, 0, 0, 0), (678, 2, 0, 1, 0, 3, 0, 0), (679, 0, 0, 1, 1, 0, 0, 0), (680, 9, 0, 1, 0, 0, 0, 0), (681, 32, 0, 1, 0, 0, 0, 0), (682, 4, 0, 1, 0, 0, 0, 0), (683, 2, 0, 1, 0, 3, 0, 0), (684, 0, 0, 1, 2, 0, 0, 0), (685, 9, 0, 1, 0, 0, 0, 0), (686, 32, 0, 1, 0, 0, 0, 0), (687, 43, 0, 3, 0, 83, 0, 99), (690, 18, 0, 1, 0, 0, 0, 0), (691, 4, 0, 1, 0, 2, 0, 0), (692, 4, 0, 1, 0, 0, 0, 0), (693, 2, 0, 1, 0, 3, 0, 0), (694, 0, 0, 1, 1, 0, 0, 0), (695, 9, 0, 1, 0, 0, 0, 0), (696, 32, 0, 1, 0, 0, 0, 0), (697, 4, 0, 1, 0, 0, 0, 0), (698, 2, 0, 1, 0, 3, 0, 0), (699, 0, 0, 1, 2, 0, 0, 0), (700, 9, 0, 1, 0, 0, 0, 0), (701, 32, 0, 1, 0, 0, 0, 0), (702, 43, 0, 3, 0, 135, 0, 102), (705, 18, 0, 1, 0, 0, 0, 0), (706, 20, 0, 3, 387, 1093, 0, 0), (709, 4, 0, 1, 0, 1, 0, 0), (710, 43, 0, 3, 0, 122, 0, 103), (713, 18, 0, 1, 0, 0, 0, 0), (714, 4, 0, 1, 0, 2, 0, 0), (715, 43, 0, 3, 0, 226, 0, 106), (718, 18, 0, 1, 0, 0, 0, 0), (719, 20, 0, 3, 374, 1093, 0, 0), (722, 4, 0, 1, 0, 1, 0, 0), (723, 4, 0, 1, 0, 0, 0, 0), (724, 2, 0, 1, 0, 3, 0, 0), (725, 0, 0, 1, 1, 0, 0, 0), (726, 9, 0, 1, 0, 0, 0, 0), (727, 32, 0, 1, 0, 0, 0, 0), (728, 43, 0, 3, 0, 114, 0, 107), (731, 18, 0, 1, 0, 0, 0, 0), (732, 4, 0, 1, 0, 2, 0, 0), (733, 4, 0, 1, 0, 0, 0, 0), (734, 2, 0, 1, 0, 3, 0, 0), (735, 0, 0, 1, 1, 0, 0, 0), (736, 9, 0, 1, 0, 0, 0, 0), (737, 32, 0, 1, 0, 0, 0, 0), (738, 43, 0, 3, 0, 211, 0, 110), (741, 18, 0, 1, 0, 0, 0, 0), (742, 20, 0, 3, 351, 1093, 0, 0), (745, 4, 0, 1, 0, 1, 0, 0), (746, 43, 0, 3, 0, 84, 0, 111), (749, 18, 0, 1, 0, 0, 0, 0), (750, 4, 0, 1, 0, 2, 0, 0), (751, 43, 0, 3, 0, 141, 0, 114), (754, 18, 0, 1, 0, 0, 0, 0), (755, 20, 0, 3, 338, 1093, 0, 0), (758, 4, 0, 1, 0, 1, 0, 0), (759, 4, 0, 1, 0, 0, 0, 0), (760, 2, 0, 1, 0, 3, 0, 0), (761, 0, 0, 1, 1, 0, 0, 0), (762, 9, 0, 1, 0, 0, 0, 0), (763, 32, 0, 1, 0, 0, 0, 0), (764, 43, 0, 3, 0, 101, 0, 115), (767, 18, 0, 1, 0, 0, 0, 0), (768, 4, 0, 1, 0, 2, 0, 0), (769, 4, 0, 1, 0, 0, 0, 0), (770, 2, 0, 1, 0, 3, 0, 0), (771, 0, 0, 1, 1, 0, 0, 0), (772, 9, 0, 1, 0, 0, 0, 0), (773, 32, 0, 1, 0, 0, 0, 0), (774, 43, 0, 3, 0, 184, 0, 118), (777, 18, 0, 1, 0, 0, 0, 0), (778, 20, 0, 3, 315, 1093, 0, 0), (781, 4, 0, 1, 0, 1, 0, 0), (782, 4, 0, 1, 0, 0, 0, 0), (783, 2, 0, 1, 0, 3, 0, 0), (784, 0, 0, 1, 1, 0, 0, 0), (785, 9, 0, 1, 0, 0, 0, 0), (786, 32, 0, 1, 0, 0, 0, 0), (787, 4, 0, 1, 0, 0, 0, 0), (788, 2, 0, 1, 0, 3, 0, 0), (789, 0, 0, 1, 2, 0, 0, 0), (790, 9, 0, 1, 0, 0, 0, 0), (791, 32, 0, 1, 0, 0, 0, 0), (792, 43, 0, 3, 0, 94, 0, 119), (795, 18, 0, 1, 0, 0, 0, 0), (796, 4, 0, 1, 0, 2, 0, 0), (797, 4, 0, 1, 0, 0, 0, 0), (798, 2, 0, 1, 0, 3, 0, 0), (799, 0, 0, 1, 1, 0, 0, 0), (800, 9, 0, 1, 0, 0, 0, 0), (801, 32, 0, 1, 0, 0, 0, 0), (802, 4, 0, 1, 0, 0, 0, 0), (803, 2, 0, 1, 0, 3, 0, 0), (804, 0, 0, 1, 2, 0, 0, 0), (805, 9, 0, 1, 0, 0, 0, 0), (806, 32, 0, 1, 0, 0, 0, 0), (807, 43, 0, 3, 0, 155, 0, 123), (810, 18, 0, 1, 0, 0, 0, 0), (811, 20, 0, 3, 282, 1093, 0, 0), (814, 4, 0, 1, 0, 1, 0, 0), (815, 43, 0, 3, 0, 88, 0, 124), (818, 18, 0, 1, 0, 0, 0, 0), (819, 4, 0, 1, 0, 2, 0, 0), (820, 43, 0, 3, 0, 148, 0, 127), (823, 18, 0, 1, 0, 0, 0, 0), (824, 20, 0, 3, 269, 1093, 0, 0), (827, 4, 0, 1, 0, 1, 0, 0), (828, 4, 0, 1, 0, 0, 0, 0), (829, 2, 0, 1, 0, 3, 0, 0), (830, 0, 0, 1, 1, 0, 0, 0), (831, 9, 0, 1, 0, 0, 0, 0), (832, 32, 0, 1, 0, 0, 0, 0), (833, 43, 0, 3, 0, 82, 0, 128), (836, 18, 0, 1, 0, 0, 0, 0), (837, 4, 0, 1, 0, 2, 0, 0), (838, 4, 0, 1, 0, 0, 0, 0), (839, 2, 0, 1, 0, 3, 0, 0), (840, 0, 0, 1, 1, 0, 0, 0), (841, 9, 0, 1, 0, 0, 0, 0), (842, 32, 0, 1, 0, 0, 0, 0), (843, 43, 0, 3, 0, 134, 0, 131), (846, 18, 0, 1, 0, 0, 0, 0), (847, 20, 0, 3, 246, 1093, 0, 0), (850, 4, 0, 1, 0, 1, 0, 0), (851, 4, 0, 1, 0, 0, 0, 0), (852, 2, 0, 1, 0, 3, 0, 0), (853, 0, 0, 1, 1, 0, 0, 0), (854, 9, 0, 1, 0, 0, 0, 0), (855, 32, 0, 1, 0, 0, 0, 0), (856, 43, 0, 3, 0, 116, 0, 132), (859, 18, 0, 1, 0, 0, 0, 0), (860, 4, 0, 1, 0, 2, 0, 0), (861, 4, 0, 1, 0, 0, 0, 0), (862, 2, 0, 1, 0, 3, 0, 0), (863, 0, 0, 1, 1, 0, 0, 0), (864, 9, 0, 1, 0, 0, 0, 0), (865, 32, 0, 1, 0, 0, 0, 0), (866, 43, 0, 3, 0, 213, 0, 135), (869, 18, 0, 1, 0, 0, 0, 0), (870, 20, 0, 3, 223, 1093, 0, 0), (873, 4, 0, 1, 0, 1, 0, 0), (874, 4, 0, 1, 0, 0, 0, 0), (875, 2, 0, 1, 0, 3, 0, 0), (876, 0, 0, 1, 1, 0, 0, 0), (877, 9, 0, 1, 0, 0, 0, 0), (878, 32, 0, 1, 0, 0, 0, 0), (879, 43, 0, 3, 0, 100, 0, 136), (882, 18, 0, 1, 0, 0, 0, 0), (883, 4, 0, 1, 0, 2, 0, 0), (884, 4, 0, 1, 0, 0, 0, 0), (885, 2, 0, 1, 0, 3, 0, 0), (886, 0, 0, 1, 1, 0, 0, 0), (887, 9, 0, 1, 0, 0, 0, 0), (888, 32, 0, 1, 0, 0, 0, 0), (889, 43, 0, 3, 0, 182, 0, 139), (892, 18, 0, 1, 0, 0, 0, 0), (893, 20, 0, 3, 200, 1093, 0, 0), (896, 4, 0, 1, 0, 1, 0, 0), (897, 4, 0, 1, 0, 0, 0, 0), (898, 2, 0, 1, 0, 3, 0, 0), (899, 0, 0, 1, 1, 0, 0, 0), (900, 9, 0, 1, 0, 0, 0, 0), (901, 32, 0, 1, 0, 0, 0, 0), (902, 4, 0, 1, 0, 0, 0, 0), (903, 2, 0, 1, 0, 3, 0, 0), (904, 0, 0, 1, 2, 0, 0, 0), (905, 9, 0, 1, 0, 0, 0, 0), (906, 32, 0, 1, 0, 0, 0, 0), (907, 4, 0, 1, 0, 0, 0, 0), (908, 2, 0, 1, 0, 3, 0, 0), (909, 0, 0, 1, 3, 0, 0, 0), (910, 9, 0, 1, 0, 0, 0, 0), (911, 32, 0, 1, 0, 0, 0, 0), (912, 21, 0, 3, 7, 919, 0, 0), (915, 0, 0, 1, 1, 0, 0, 0), (916, 20, 0, 3, 4, 920, 0, 0), (919, 0, 0, 1, 0, 0, 0, 0), (920, 43, 0, 3, 0, 111, 0, 140), (923, 18, 0, 1, 0, 0, 0, 0), (924, 4, 0, 1, 0, 2, 0, 0), (925, 4, 0, 1, 0, 0, 0, 0), (926, 2, 0, 1, 0, 3, 0, 0), (927, 0, 0, 1, 1, 0, 0, 0), (928, 9, 0, 1, 0, 0, 0, 0), (929, 32, 0, 1, 0, 0, 0, 0), (930, 4, 0, 1, 0, 0, 0, 0), (931, 2, 0, 1, 0, 3, 0, 0), (932, 0, 0, 1, 2, 0, 0, 0), (933, 9, 0, 1, 0, 0, 0, 0), (934, 32, 0, 1, 0, 0, 0, 0), (935, 4, 0, 1, 0, 0, 0, 0), (936, 2, 0, 1, 0, 3, 0, 0), (937, 0, 0, 1, 3, 0, 0, 0), (938, 9, 0, 1, 0, 0, 0, 0), (939, 32, 0, 1, 0, 0, 0, 0), (940, 21, 0, 3, 7, 947, 0, 0), (943, 0, 0, 1, 1, 0, 0, 0), (944, 20, 0, 3, 4, 948, 0, 0), (947, 0, 0, 1, 0, 0, 0, 0), (948, 43, 0, 3, 0, 207, 0, 144), (951, 18, 0, 1, 0, 0, 0, 0), (952, 20, 0, 3, 141, 1093, 0, 0), (955, 4, 0, 1, 0, 1, 0, 0), (956, 4, 0, 1, 0, 0, 0, 0), (957, 2, 0, 1, 0, 3, 0, 0), (958, 0, 0, 1, 1, 0, 0, 0), (959, 9, 0, 1, 0, 0, 0, 0), (960, 32, 0, 1, 0, 0, 0, 0), (961, 43, 0, 3, 0, 121, 0, 145), (964, 18, 0, 1, 0, 0, 0, 0), (965, 4, 0, 1, 0, 2, 0, 0), (966, 4, 0, 1, 0, 0, 0, 0), (967, 2, 0, 1, 0, 3, 0, 0), (968, 0, 0, 1, 1, 0, 0, 0), (969, 9, 0, 1, 0, 0, 0, 0), (970, 32, 0, 1, 0, 0, 0, 0), (971, 43, 0, 3, 0, 225, 0, 149), (974, 18, 0, 1, 0, 0, 0, 0), (975, 20, 0, 3, 118, 1093, 0, 0), (978, 4, 0, 1, 0, 1, 0, 0), (979, 4, 0, 1, 0, 0, 0, 0), (980, 2, 0, 1, 0, 3, 0, 0), (981, 0, 0, 1, 1, 0, 0, 0), (982, 9, 0, 1, 0, 0, 0, 0), (983, 32, 0, 1, 0, 0, 0, 0), (984, 43, 0, 3, 0, 98, 0, 150), (987, 4, 0, 1, 0, 2, 0, 0), (988, 4, 0, 1, 0, 0, 0, 0), (989, 2, 0, 1, 0, 3, 0, 0), (990, 0, 0, 1, 1, 0, 0, 0), (991, 9, 0, 1, 0, 0, 0, 0), (992, 32, 0, 1, 0, 0, 0, 0), (993, 43, 0, 3, 0, 175, 0, 153), (996, 22, 0, 3, 97, 1093, 0, 0), (999, 0, 0, 1, 0, 0, 0, 0), (1000, 39, 1, 1, 0, 0, 0, 0), (1001, 4, 0, 1, 0, 1, 0, 0), (1002, 4, 0, 1, 0, 0, 0, 0), (1003, 2, 0, 1, 0, 3, 0, 0), (1004, 0, 0, 1, 1, 0, 0, 0), (1005, 9, 0, 1, 0, 0, 0, 0), (1006, 32, 0, 1, 0, 0, 0, 0), (1007, 43, 0, 3, 0, 105, 0, 154), (1010, 18, 0, 1, 0, 0, 0, 0), (1011, 4, 0, 1, 0, 2, 0, 0), (1012, 4, 0, 1, 0, 0, 0, 0), (1013, 2, 0, 1, 0, 3, 0, 0), (1014, 0, 0, 1, 1, 0, 0, 0), (1015, 9, 0, 1, 0, 0, 0, 0), (1016, 32, 0, 1, 0, 0, 0, 0), (1017, 43, 0, 3, 0, 192, 0, 157), (1020, 18, 0, 1, 0, 0, 0, 0), (1021, 20, 0, 3, 72, 1093, 0, 0), (1024, 4, 0, 1, 0, 1, 0, 0), (1025, 4, 0, 1, 0, 0, 0, 0), (1026, 2, 0, 1, 0, 3, 0, 0), (1027, 0, 0, 1, 1, 0, 0, 0), (1028, 9, 0, 1, 0, 0, 0, 0), (1029, 32, 0, 1, 0, 0, 0, 0), (1030, 43, 0, 3, 0, 95, 0, 158), (1033, 18, 0, 1, 0, 0, 0, 0), (1034, 4, 0, 1, 0, 2, 0, 0), (1035, 4, 0, 1, 0, 0, 0, 0), (1036, 2, 0, 1, 0, 3, 0, 0), (1037, 0, 0, 1, 1, 0, 0, 0), (1038, 9, 0, 1, 0, 0, 0, 0), (1039, 32, 0, 1, 0, 0, 0, 0), (1040, 43, 0, 3, 0, 156, 0, 161), (1043, 18, 0, 1, 0, 0, 0, 0), (1044, 20, 0, 3, 49, 1093, 0, 0), (1047, 4, 0, 1, 0, 1, 0, 0), (1048, 4, 0, 1, 0, 0, 0, 0), (1049, 2, 0, 1, 0, 3, 0, 0), (1050, 0, 0, 1, 1, 0, 0, 0), (1051, 9, 0, 1, 0, 0, 0, 0), (1052, 32, 0, 1, 0, 0, 0, 0), (1053, 43, 0, 3, 0, 80, 0, 162), (1056, 18, 0, 1, 0, 0, 0, 0), (1057, 4, 0, 1, 0, 2, 0, 0), (1058, 4, 0, 1, 0, 0, 0, 0), (1059, 2, 0, 1, 0, 3, 0, 0), (1060, 0, 0, 1, 1, 0, 0, 0), (1061, 9, 0, 1, 0, 0, 0, 0), (1062, 32, 0, 1, 0, 0, 0, 0), (1063, 43, 0, 3, 0, 131, 0, 165), (1066, 18, 0, 1, 0, 0, 0, 0), (1067, 20, 0, 3, 26, 1093, 0, 0), (1070, 4, 0, 1, 0, 1, 0, 0), (1071, 4, 0, 1, 0, 0, 0, 0), (1072, 2, 0, 1, 0, 3, 0, 0), (1073, 0, 0, 1, 1, 0, 0, 0), (1074, 9, 0, 1, 0, 0, 0, 0), (1075, 32, 0, 1, 0, 0, 0, 0), (1076, 43, 0, 3, 0, 79, 0, 166), (1079, 18, 0, 1, 0, 0, 0, 0), (1080, 4, 0, 1, 0, 2, 0, 0), (1081, 4, 0, 1, 0, 0, 0, 0), (1082, 2, 0, 1, 0, 3, 0, 0), (1083, 0, 0, 1, 1, 0, 0, 0), (1084, 9, 0, 1, 0, 0, 0, 0), (1085, 32, 0, 1, 0, 0, 0, 0), (1086, 43, 0, 3, 0, 128, 0, 169), (1089, 18, 0, 1, 0, 0, 0, 0), (1090, 20, 0, 3, 3, 1093, 0, 0), (1093, 8, 0, 3, 6, 3, 0, 0), (1096, 20, 0, 3, (-1078), 18, 0, 0), (1099, 0, 0, 1, 1, 0, 0, 0), (1100, 39, 1, 1, 0, 0, 0, 0)]
def pm_I : List (List (Nat × pm_Ins)) := [pm_I0, pm_I1, pm_I2, pm_I3, pm_I4, pm_I5, pm_I6, pm_I7, pm_I8, pm_I9, pm_I10, pm_I11, pm_I12, pm_I13, pm_I14, pm_I15, pm_I16, pm_I17, pm_I18, pm_I19, pm_I20, pm_I21, pm_I22, pm_I23, pm_I24, pm_I25, pm_I26, pm_I27, pm_I28, pm_I29, pm_I30, pm_I31, pm_I32, pm_I33, pm_I34, pm_I35, pm_I36, pm_I37, pm_I38, pm_I39, pm_I40, pm_I41, pm_I42, pm_I43, pm_I44, pm_I45, pm_I46, pm_I47, pm_I48, pm_I49, pm_I50, pm_I51, pm_I52, pm_I53, pm_I54, pm_I55, pm_I56, pm_I57, pm_I58, pm_I59, pm_I60, pm_I61, pm_I62, pm_I63, pm_I64, pm_I65, pm_I66, pm_I67, pm_I68, pm_I69, pm_I70, pm_I71, pm_I72, pm_I73, pm_I74, pm_I75, pm_I76, pm_I77, pm_I78, pm_I79, pm_I80, pm_I81, pm_I82, pm_I83, pm_I84, pm_I85, pm_I86, pm_I87, pm_I88, pm_I89, pm_I90, pm_I91, pm_I92, pm_I93, pm_I94, pm_I95, pm_I96, pm_I97, pm_I98, pm_I99, pm_I100, pm_I101, pm_I102, pm_I103, pm_I104, pm_I105, pm_I106, pm_I107, pm_I108, pm_I109, pm_I110, pm_I111, pm_I112, pm_I113, pm_I114, pm_I115, pm_I116, pm_I117, pm_I118, pm_I119, pm_I120, pm_I121, pm_I122, pm_I123, pm_I124, pm_I125, pm_I126, pm_I127, pm_I128, pm_I129, pm_I130, pm_I131, pm_I132, pm_I133, pm_I134, pm_I135, pm_I136, pm_I137, pm_I138, pm_I139, pm_I140, pm_I141, pm_I142, pm_I143, pm_I144, pm_I145, pm_I146, pm_I147, pm_I148, pm_I149, pm_I150, pm_I151, pm_I152, pm_I153, pm_I154, pm_I155, pm_I156, pm_I157, pm_I158, pm_I159, pm_I160, pm_I161, pm_I162, pm_I163, pm_I164, pm_I165, pm_I166, pm_I167, pm_I168, pm_I169, pm_I170, pm_I171, pm_I172, pm_I173, pm_I174, pm_I175, pm_I176, pm_I177, pm_I178, pm_I179, pm_I180, pm_I181, pm_I182, pm_I183, pm_I184, pm_I185, pm_I186, pm_I187, pm_I188, pm_I189, pm_I190, pm_I191, pm_I192, pm_I193, pm_I194, pm_I195, pm_I196, pm_I197, pm_I198, pm_I199, pm_I200, pm_I201, pm_I202, pm_I203, pm_I204, pm_I205, pm_I206, pm_I207, pm_I208, pm_I209, pm_I210, pm_I211, pm_I212, pm_I213, pm_I214, pm_I215, pm_I216, pm_I217, pm_I218, pm_I219, pm_I220, pm_I221, pm_I222, pm_I223, pm_I224, pm_I225, pm_I226, pm_I227, pm_I228, pm_I229, pm_I230, pm_I231, pm_I232, pm_I233, pm_I234, pm_I235, pm_I236]
abbrev pm_Sh : Type := Nat × Nat × List Nat
def pm_S : List pm_Sh := [(0, 10, [2, 0, 2, 2, 2, 2, 2, 2, 2, 2, 2, 2, 2, 0, 2, 2, 0, 2]), (2, 1600, []), (0, 2, [2, 2, 2, 2]), (0, 8, [2, 2, 0, 0, 0, 0, 1, 0, 0, 0]), (4, 6, []), (2, 0, []), (0, 4, [0, 2, 2, 0, 2, 2, 0, 2, 2, 0, 2, 2, 0, 4, 0, 2]), (4, 8, []), (1, 24, []), (3, 64, []), (1, 192, []), (4, 8, []), (1, 9, []), (1, 24, []), (1, 96, []), (1, 6, []), (4, 96, []), (1, 96, []), (0, 4, [0, 2, 2, 0, 2, 2, 0, 2, 2, 0, 2, 2, 0, 4, 0, 2]), (4, 8, []), (1, 24, []), (3, 64, []), (1, 192, []), (4, 8, []), (1, 9, []), (1, 24, []), (1, 96, []), (1, 6, []), (0, 4, [0, 2, 2, 0, 2, 2, 0, 2, 2, 0, 2, 2, 0, 4, 0, 2]), (4, 8, []), (1, 24, []), (3, 64, []), (1, 192, []), (4, 8, []), (1, 9, []), (1, 24, []), (1, 96, []), (1, 6, []), (0, 0, [2, 0, 2, 2, 2, 2, 2, 0, 0]), (1, 6, []), (1, 6, []), (3, 40, []), (1, 40, []), (1, 40, []), (1, 40, []), (5, 3, []), (0, 1, [4, 2, 0, 2]), (1, 6, []), (1, 6, []), (0, 1, [4, 2, 0, 2]), (1, 6, []), (1, 6, []), (0, 1, [4, 2, 0, 2]), (1, 6, []), (1, 6, []), (0, 5, [2, 2]), (4, 112, []), (4, 112, []), (0, 7, [2, 0, 2]), (1, 6, []), (1, 784, []), (0, 3, [2, 2, 2, 4, 0, 0, 0, 0, 0]), (1, 6, []), (1, 3000, []), (1, 6, []), (0, 9, [0, 4, 2, 2, 2, 2, 0, 4, 0, 0, 0]), (1, 3000, []), (1, 3000, []), (1, 9000, []), (1, 3000, []), (0, 9, [0, 4, 2, 2, 2, 2, 0, 4, 0, 0, 0]), (1, 3000, []), (1, 3000, []), (1, 9000, []), (1, 3000, []), (0, 9, [0, 4, 2, 2, 2, 2, 0, 4, 0, 0, 0]), (1, 3000, []), (1, 3000, []), (1, 9000, []), (1, 3000, []), (0, 6, [0, 0, 2, 2, 2, 2, 2]), (1, 30, []), (1, 30, []), (3, 30, []), (1, 30, []), (1, 30, []), (1, 6, []), (1, 16, []), (0, 11, [2, 2, 0, 0, 0, 0, 0, 0, 0, 0, 1, 2, 2, 2, 2, 2, 2, 2, 2, 2, 2, 2, 2, 2, 2, 2, 2, 2, 2, 0, 0, 2, 2, 2, 2, 2, 2, 2, 2, 0, 2, 2, 0, 0, 2, 2, 2, 2, 0, 0, 0, 1, 2, 2, 0, 0, 0, 0, 2, 0, 2, 2, 2, 2, 2, 2, 0, 0, 2, 2, 2]), (2, 1620, []), (2, 1600, []), (1, 2, []), (1, 2, []), (1, 2, []), (1, 2, []), (1, 2, []), (1, 2, []), (1, 12, []), (1, 48, []), (1, 384, []), (1, 48, []), (1, 48, []), (1, 192, []), (1, 192, []), (3, 128, []), (3, 2, []), (4, 16, []), (4, 16, []), (4, 192, []), (1, 6, []), (1, 56, []), (4, 448, []), (4, 7, []), (4, 7, []), (1, 6, []), (1, 6, []), (1, 6, []), (1, 40, []), (1, 40, []), (1, 3001, []), (1, 9003, []), (1, 3001, []), (1, 3001, []), (1, 7, []), (1, 6, []), (1, 6, []), (1, 8, []), (1, 30, []), (1, 30, []), (1, 30, []), (1, 30, []), (3, 30, []), (1, 3, []), (1, 18, []), (1, 18, []), (6, 18, [])]
def pm_O : List Int := [0, 1, 2, 0, 2, 1, 1, 0, 2, 1, 2, 0, 2, 0, 1, 2, 1, 0]
def pm_FL : List (Nat × Nat × Nat × Nat) := [(0, 9, 0, 0), (0, 15, 0, 2), (0, 18, 0, 3), (0, 22, 0, 4), (0, 25, 0, 5), (0, 28, 0, 6), (0, 37, 0, 1), (0, 44, 0, 7), (0, 47, 0, 8), (1, 9, 1, 1), (1, 15, 1, 3), (1, 18, 1, 0), (1, 22, 0, 1), (1, 28, 1, 2), (1, 29, 0, 0), (1, 36, 0, 2), (2, 12, 2, 0), (2, 21, 2, 1), (2, 25, 2, 2), (2, 29, 2, 3), (2, 40, 8, 8), (2, 44, 8, 5), (2, 76, 4, 0), (2, 83, 8, 6), (2, 90, 4, 2), (2, 97, 4, 1), (2, 104, 8, 7), (2, 111, 4, 3), (2, 125, 4, 4), (2, 129, 4, 5), (2, 132, 4, 6), (2, 135, 4, 7), (2, 141, 4, 8), (2, 144, 4, 9), (2, 147, 8, 4), (2, 150, 4, 10), (2, 153, 4, 13), (2, 157, 4, 12), (2, 160, 4, 14), (2, 163, 4, 15), (2, 169, 4, 11), (3, 9, 3, 0), (3, 15, 3, 1), (3, 18, 3, 2), (3, 21, 3, 4), (3, 25, 3, 3), (3, 41, 9, 0), (3, 52, 9, 2), (3, 59, 9, 3), (3, 66, 9, 4), (3, 73, 3, 8), (3, 82, 3, 7), (3, 85, 3, 5), (3, 91, 3, 6), (4, 9, 4, 1), (4, 15, 4, 2), (4, 19, 4, 4), (4, 23, 4, 5), (4, 26, 4, 7), (4, 29, 4, 8), (4, 32, 4, 10), (4, 35, 4, 11), (4, 38, 4, 15), (4, 41, 4, 12), (4, 45, 4, 0), (4, 48, 4, 3), (4, 57, 4, 6), (4, 60, 4, 9), (4, 63, 4, 13), (4, 67, 4, 14), (5, 9, 5, 0), (5, 15, 5, 1), (5, 22, 4, 12), (5, 28, 4, 6), (5, 31, 4, 0), (5, 48, 4, 8), (5, 56, 4, 10), (5, 59, 4, 11), (6, 9, 6, 2), (6, 15, 6, 3), (6, 18, 6, 4), (6, 22, 6, 5), (6, 25, 6, 6), (6, 28, 6, 0), (6, 32, 6, 1), (7, 9, 7, 0), (7, 15, 7, 2), (7, 18, 7, 1), (7, 26, 4, 6), (7, 31, 4, 8), (7, 46, 4, 11), (7, 49, 4, 10), (8, 27, 8, 0), (8, 31, 8, 1), (8, 35, 8, 9), (8, 54, 8, 2), (8, 57, 8, 3), (8, 60, 8, 8), (8, 66, 8, 4), (8, 69, 8, 5), (8, 82, 8, 6), (8, 86, 8, 7), (9, 9, 9, 2), (9, 15, 9, 3), (9, 18, 9, 4), (9, 21, 9, 5), (9, 24, 9, 7), (9, 28, 9, 8), (9, 32, 9, 9), (9, 35, 9, 10), (9, 38, 4, 12), (9, 43, 9, 6), (9, 44, 9, 1), (9, 61, 9, 0), (9, 72, 4, 0), (10, 9, 10, 0), (10, 16, 10, 2), (10, 23, 10, 3), (10, 27, 10, 4), (10, 33, 10, 5), (10, 40, 10, 6), (10, 47, 10, 7), (10, 54, 10, 8), (10, 61, 10, 9), (10, 68, 10, 10), (10, 72, 10, 11), (10, 75, 10, 12), (10, 81, 10, 14), (10, 85, 10, 15), (10, 89, 10, 17), (10, 92, 10, 1), (10, 107, 4, 0), (10, 113, 1, 0), (10, 122, 10, 13), (10, 125, 6, 0), (10, 128, 10, 16), (10, 131, 2, 0), (10, 135, 8, 8), (10, 140, 8, 9), (10, 150, 4, 2), (10, 154, 4, 5), (10, 164, 0, 2), (10, 177, 0, 1), (10, 194, 0, 0), (10, 231, 9, 4), (10, 238, 4, 12), (10, 241, 3, 0), (10, 273, 4, 6), (10, 279, 9, 1), (10, 282, 9, 0), (10, 294, 3, 2), (10, 310, 6, 1), (10, 325, 4, 3), (10, 328, 4, 9), (10, 331, 0, 7), (10, 334, 0, 8), (11, 7, 11, 0), (11, 13, 11, 1), (11, 16, 11, 5), (11, 20, 11, 11), (11, 24, 11, 12), (11, 27, 11, 13), (11, 30, 11, 14), (11, 33, 11, 15), (11, 36, 11, 16), (11, 39, 11, 17), (11, 42, 11, 18), (11, 45, 11, 19), (11, 48, 11, 20), (11, 51, 11, 21), (11, 54, 11, 22), (11, 57, 11, 23), (11, 60, 11, 24), (11, 64, 11, 25), (11, 67, 11, 26), (11, 71, 11, 27), (11, 74, 11, 28), (11, 77, 11, 31), (11, 80, 11, 32), (11, 83, 11, 33), (11, 86, 11, 34), (11, 89, 11, 35), (11, 92, 11, 36), (11, 95, 11, 37), (11, 98, 11, 38), (11, 101, 11, 40), (11, 104, 11, 41), (11, 107, 11, 44), (11, 110, 11, 45), (11, 113, 11, 46), (11, 116, 11, 47), (11, 119, 11, 52), (11, 122, 11, 53), (11, 125, 11, 54), (11, 128, 11, 58), (11, 131, 11, 60), (11, 134, 11, 61), (11, 137, 11, 62), (11, 140, 11, 63), (11, 143, 11, 64), (11, 146, 11, 65), (11, 149, 11, 68), (11, 152, 11, 69), (11, 155, 11, 70), (11, 164, 11, 3), (11, 167, 11, 4), (11, 182, 11, 7), (11, 185, 11, 6), (11, 192, 11, 8), (11, 199, 11, 10), (11, 210, 11, 9), (11, 227, 11, 30), (11, 230, 11, 2), (11, 233, 11, 29), (11, 242, 11, 51), (11, 245, 11, 66), (11, 248, 11, 59), (11, 336, 11, 39), (11, 339, 11, 42), (11, 342, 11, 43), (11, 387, 11, 50), (11, 390, 11, 48), (11, 393, 11, 49), (11, 409, 11, 55), (11, 412, 11, 56), (11, 415, 11, 57), (11, 473, 11, 67)]
def pm_ML : List (Nat × Nat × Nat) := [(0, 31, 235), (0, 41, 3), (0, 50, 4), (0, 54, 0), (0, 58, 1), (1, 37, 3), (2, 33, 40), (2, 36, 65), (2, 47, 23), (2, 51, 20), (2, 54, 21), (2, 57, 19), (2, 60, 22), (2, 63, 66), (2, 67, 13), (2, 70, 12), (2, 73, 64), (2, 79, 14), (2, 87, 15), (2, 93, 24), (2, 100, 49), (2, 107, 16), (2, 114, 26), (2, 118, 17), (2, 122, 43), (2, 138, 18), (2, 166, 11), (3, 37, 29), (3, 44, 28), (3, 48, 76), (3, 55, 37), (3, 62, 39), (3, 69, 34), (3, 88, 77), (3, 94, 36), (3, 99, 38), (3, 102, 27), (4, 51, 235), (4, 70, 44), (4, 74, 48), (4, 78, 46), (5, 18, 52), (5, 44, 51), (5, 52, 56), (6, 35, 77), (7, 22, 61), (7, 34, 63), (8, 63, 64), (8, 72, 68), (8, 75, 67), (8, 78, 66), (9, 47, 70), (9, 51, 55), (9, 57, 72), (9, 64, 45), (9, 68, 54), (9, 75, 69), (9, 79, 73), (9, 83, 53), (9, 87, 44), (9, 91, 77), (10, 96, 118), (10, 100, 25), (10, 104, 89), (10, 110, 2), (10, 117, 62), (10, 120, 71), (10, 121, 32), (10, 143, 43), (10, 147, 96), (10, 157, 42), (10, 160, 107), (10, 167, 50), (10, 170, 104), (10, 174, 6), (10, 180, 97), (10, 183, 5), (10, 187, 8), (10, 191, 0), (10, 197, 55), (10, 201, 54), (10, 205, 60), (10, 209, 45), (10, 213, 90), (10, 217, 75), (10, 220, 106), (10, 223, 29), (10, 227, 99), (10, 234, 74), (10, 244, 77), (10, 248, 33), (10, 252, 115), (10, 258, 31), (10, 261, 35), (10, 265, 41), (10, 269, 47), (10, 276, 92), (10, 283, 76), (10, 286, 78), (10, 290, 30), (10, 297, 91), (10, 300, 7), (10, 304, 59), (10, 308, 58), (10, 314, 57), (10, 318, 10), (10, 322, 9), (11, 158, 138), (11, 161, 132), (11, 188, 212), (11, 195, 164), (11, 203, 163), (11, 207, 158), (11, 213, 145), (11, 217, 160), (11, 221, 152), (11, 224, 187), (11, 236, 198), (11, 239, 209), (11, 251, 170), (11, 254, 159), (11, 257, 202), (11, 260, 199), (11, 263, 200), (11, 266, 190), (11, 270, 201), (11, 273, 168), (11, 276, 188), (11, 280, 231), (11, 284, 206), (11, 287, 149), (11, 291, 174), (11, 295, 197), (11, 298, 162), (11, 302, 183), (11, 305, 171), (11, 308, 161), (11, 312, 194), (11, 316, 143), (11, 319, 140), (11, 322, 177), (11, 326, 227), (11, 330, 130), (11, 345, 217), (11, 348, 167), (11, 351, 218), (11, 354, 137), (11, 357, 166), (11, 360, 136), (11, 363, 204), (11, 367, 186), (11, 370, 172), (11, 373, 144), (11, 380, 230), (11, 383, 173), (11, 396, 165), (11, 399, 216), (11, 402, 193), (11, 405, 180), (11, 418, 150), (11, 421, 151), (11, 424, 129), (11, 427, 157), (11, 431, 191), (11, 434, 179), (11, 437, 222), (11, 440, 195), (11, 443, 176), (11, 446, 154), (11, 449, 139), (11, 452, 178), (11, 455, 221), (11, 458, 214), (11, 462, 181), (11, 465, 224), (11, 470, 219), (11, 477, 169), (14, 13, 87), (14, 17, 147), (14, 18, 85), (14, 22, 142), (14, 23, 108), (14, 27, 196), (14, 28, 86), (14, 31, 146), (14, 32, 125), (14, 36, 232), (14, 37, 81), (14, 41, 133), (14, 42, 119), (14, 45, 220), (14, 46, 126), (14, 49, 233), (14, 50, 112), (14, 53, 208), (14, 54, 120), (14, 58, 223), (14, 59, 110), (14, 62, 205), (14, 63, 123), (14, 66, 228), (14, 67, 124), (14, 70, 229), (14, 71, 103), (14, 74, 189), (14, 75, 109), (14, 78, 203), (14, 79, 102), (14, 82, 185), (14, 83, 127), (14, 86, 234), (14, 87, 93), (14, 90, 153), (14, 91, 113), (14, 94, 210), (14, 95, 117), (14, 98, 215), (14, 99, 83), (14, 102, 135), (14, 103, 122), (14, 106, 226), (14, 107, 114), (14, 110, 211), (14, 111, 84), (14, 114, 141), (14, 115, 101), (14, 118, 184), (14, 119, 94), (14, 123, 155), (14, 124, 88), (14, 127, 148), (14, 128, 82), (14, 131, 134), (14, 132, 116), (14, 135, 213), (14, 136, 100), (14, 139, 182), (14, 140, 111), (14, 144, 207), (14, 145, 121), (14, 149, 225), (14, 150, 98), (14, 153, 175), (14, 154, 105), (14, 157, 192), (14, 158, 95), (14, 161, 156), (14, 162, 80), (14, 165, 131), (14, 166, 79), (14, 169, 128)]
def pm_CI : List (Nat × Nat × Int) := [(3, 98, (-1000000)), (10, 153, (-1000000)), (10, 313, 100000), (11, 311, (-1000000)), (11, 461, 1000000), (11, 476, 100000)]
def pm_CL : List (Nat × Nat × Int) := [(5, 40, 255), (5, 42, 1103823438081), (7, 38, 1000000000), (11, 170, 2003792484), (11, 172, 1885432178), (11, 174, 1920298085), (11, 176, 28530), (11, 178, 119182899770472), (11, 180, 500186639987), (11, 334, 1000000000), (11, 376, 8), (11, 378, 10), (11, 468, 2)]
def pm_MA : List (Nat × Nat × Nat) := [(3, 76, 1), (3, 106, 0), (7, 40, 2), (8, 48, 1)]
def pm_SW : List (Int × Int × Int × List Int × Nat) := [(82, 6, 11, [37, 46, 55, 82, 64, 73], 71), (161, 0, 11, [63, 71, 79, 87, 95, 103, 111, 119, 135, 143, 151, 156], 1), (143, 0, 11, [63, 73, 83, 93, 103, 108, 113, 118, 123, 128, 133, 138], 1), (1060, 0, 36, [163, 226, 249, 262, 285, 318, 361, 384, 407, 440, 453, 466, 479, 502, 515, 528, 551, 574, 597, 630, 643, 676, 689, 712, 725, 748, 781, 794, 817, 840, 863, 922, 945, 968, 991, 1014, 1037], 33)]
end
section
set_option maxRecDepth 100000 in
theorem pm_fl_0_9 : Cond.fieldLink (pm_R 0) 9 (pm_R 0) (pm_T 0 0).2.1 (pm_T 0 0).2.2.1 ∈ lw_tbl := List.mem_of_getElem? (i := 361) rfl
set_option maxRecDepth 100000 in
theorem pm_fl_0_15 : Cond.fieldLink (pm_R 0) 15 (pm_R 0) (pm_T 0 2).2.1 (pm_T 0 2).2.2.1 ∈ lw_tbl := List.mem_of_getElem? (i := 367) rfl
set_option maxRecDepth 100000 in
theorem pm_fl_0_18 : Cond.fieldLink (pm_R 0) 18 (pm_R 0) (pm_T 0 3).2.1 (pm_T 0 3).2.2.1 ∈ lw_tbl := List.mem_of_getElem? (i := 370) rfl
set_option maxRecDepth 100000 in
theorem pm_fl_0_22 : Cond.fieldLink (pm_R 0) 22 (pm_R 0) (pm_T 0 4).2.1 (pm_T 0 4).2.2.1 ∈ lw_tbl := List.mem_of_getElem? (i := 371) rfl
set_option maxRecDepth 100000 in
theorem pm_fl_0_25 : Cond.fieldLink (pm_R 0) 25 (pm_R 0) (pm_T 0 5).2.1 (pm_T 0 5).2.2.1 ∈ lw_tbl := List.mem_of_getElem? (i := 372) rfl
set_option maxRecDepth 100000 in
theorem pm_fl_0_28 : Cond.fieldLink (pm_R 0) 28 (pm_R 0) (pm_T 0 6).2.1 (pm_T 0 6).2.2.1 ∈ lw_tbl := List.mem_of_getElem? (i := 373) rfl
set_option maxRecDepth 100000 in
theorem pm_fl_0_37 : Cond.fieldLink (pm_R 0) 37 (pm_R 0) (pm_T 0 1).2.1 (pm_T 0 1).2.2.1 ∈ lw_tbl := List.mem_of_getElem? (i := 364) rfl
set_option maxRecDepth 100000 in
theorem pm_fl_0_44 : Cond.fieldLink (pm_R 0) 44 (pm_R 0) (pm_T 0 7).2.1 (pm_T 0 7).2.2.1 ∈ lw_tbl := List.mem_of_getElem? (i := 374) rfl
set_option maxRecDepth 100000 in
theorem pm_fl_0_47 : Cond.fieldLink (pm_R 0) 47 (pm_R 0) (pm_T 0 8).2.1 (pm_T 0 8).2.2.1 ∈ lw_tbl := List.mem_of_getElem? (i := 376) rfl
set_option maxRecDepth 100000 in
theorem pm_fl_1_9 : Cond.fieldLink (pm_R 1) 9 (pm_R 1) (pm_T 1 1).2.1 (pm_T 1 1).2.2.1 ∈ lw_tbl := List.mem_of_getElem? (i := 406) rfl
set_option maxRecDepth 100000 in
theorem pm_fl_1_15 : Cond.fieldLink (pm_R 1) 15 (pm_R 1) (pm_T 1 3).2.1 (pm_T 1 3).2.2.1 ∈ lw_tbl := List.mem_of_getElem? (i := 408) rfl
set_option maxRecDepth 100000 in
theorem pm_fl_1_18 : Cond.fieldLink (pm_R 1) 18 (pm_R 1) (pm_T 1 0).2.1 (pm_T 1 0).2.2.1 ∈ lw_tbl := List.mem_of_getElem? (i := 404) rfl
set_option maxRecDepth 100000 in
theorem pm_fl_1_22 : Cond.fieldLink (pm_R 1) 22 (pm_R 0) (pm_T 0 1).2.1 (pm_T 0 1).2.2.1 ∈ lw_tbl := List.mem_of_getElem? (i := 365) rfl
set_option maxRecDepth 100000 in
theorem pm_fl_1_28 : Cond.fieldLink (pm_R 1) 28 (pm_R 1) (pm_T 1 2).2.1 (pm_T 1 2).2.2.1 ∈ lw_tbl := List.mem_of_getElem? (i := 407) rfl
set_option maxRecDepth 100000 in
theorem pm_fl_1_29 : Cond.fieldLink (pm_R 1) 29 (pm_R 0) (pm_T 0 0).2.1 (pm_T 0 0).2.2.1 ∈ lw_tbl := List.mem_of_getElem? (i := 362) rfl
set_option maxRecDepth 100000 in
theorem pm_fl_1_36 : Cond.fieldLink (pm_R 1) 36 (pm_R 0) (pm_T 0 2).2.1 (pm_T 0 2).2.2.1 ∈ lw_tbl := List.mem_of_getElem? (i := 368) rfl
set_option maxRecDepth 100000 in
theorem pm_fl_2_12 : Cond.fieldLink (pm_R 2) 12 (pm_R 2) (pm_T 2 0).2.1 (pm_T 2 0).2.2.1 ∈ lw_tbl := List.mem_of_getElem? (i := 336) rfl
set_option maxRecDepth 100000 in
theorem pm_fl_2_21 : Cond.fieldLink (pm_R 2) 21 (pm_R 2) (pm_T 2 1).2.1 (pm_T 2 1).2.2.1 ∈ lw_tbl := List.mem_of_getElem? (i := 338) rfl
set_option maxRecDepth 100000 in
theorem pm_fl_2_25 : Cond.fieldLink (pm_R 2) 25 (pm_R 2) (pm_T 2 2).2.1 (pm_T 2 2).2.2.1 ∈ lw_tbl := List.mem_of_getElem? (i := 339) rfl
set_option maxRecDepth 100000 in
theorem pm_fl_2_29 : Cond.fieldLink (pm_R 2) 29 (pm_R 2) (pm_T 2 3).2.1 (pm_T 2 3).2.2.1 ∈ lw_tbl := List.mem_of_getElem? (i := 340) rfl
set_option maxRecDepth 100000 in
theorem pm_fl_2_40 : Cond.fieldLink (pm_R 2) 40 (pm_R 8) (pm_T 8 8).2.1 (pm_T 8 8).2.2.1 ∈ lw_tbl := List.mem_of_getElem? (i := 216) rfl
set_option maxRecDepth 100000 in
theorem pm_fl_2_44 : Cond.fieldLink (pm_R 2) 44 (pm_R 8) (pm_T 8 5).2.1 (pm_T 8 5).2.2.1 ∈ lw_tbl := List.mem_of_getElem? (i := 210) rfl
set_option maxRecDepth 100000 in
theorem pm_fl_2_76 : Cond.fieldLink (pm_R 2) 76 (pm_R 4) (pm_T 4 0).2.1 (pm_T 4 0).2.2.1 ∈ lw_tbl := List.mem_of_getElem? (i := 252) rfl
set_option maxRecDepth 100000 in
theorem pm_fl_2_83 : Cond.fieldLink (pm_R 2) 83 (pm_R 8) (pm_T 8 6).2.1 (pm_T 8 6).2.2.1 ∈ lw_tbl := List.mem_of_getElem? (i := 212) rfl
set_option maxRecDepth 100000 in
theorem pm_fl_2_90 : Cond.fieldLink (pm_R 2) 90 (pm_R 4) (pm_T 4 2).2.1 (pm_T 4 2).2.2.1 ∈ lw_tbl := List.mem_of_getElem? (i := 258) rfl
set_option maxRecDepth 100000 in
theorem pm_fl_2_97 : Cond.fieldLink (pm_R 2) 97 (pm_R 4) (pm_T 4 1).2.1 (pm_T 4 1).2.2.1 ∈ lw_tbl := List.mem_of_getElem? (i := 256) rfl
set_option maxRecDepth 100000 in
theorem pm_fl_2_104 : Cond.fieldLink (pm_R 2) 104 (pm_R 8) (pm_T 8 7).2.1 (pm_T 8 7).2.2.1 ∈ lw_tbl := List.mem_of_getElem? (i := 215) rfl
set_option maxRecDepth 100000 in
theorem pm_fl_2_111 : Cond.fieldLink (pm_R 2) 111 (pm_R 4) (pm_T 4 3).2.1 (pm_T 4 3).2.2.1 ∈ lw_tbl := List.mem_of_getElem? (i := 261) rfl
set_option maxRecDepth 100000 in
theorem pm_fl_2_125 : Cond.fieldLink (pm_R 2) 125 (pm_R 4) (pm_T 4 4).2.1 (pm_T 4 4).2.2.1 ∈ lw_tbl := List.mem_of_getElem? (i := 264) rfl
set_option maxRecDepth 100000 in
theorem pm_fl_2_129 : Cond.fieldLink (pm_R 2) 129 (pm_R 4) (pm_T 4 5).2.1 (pm_T 4 5).2.2.1 ∈ lw_tbl := List.mem_of_getElem? (i := 267) rfl
set_option maxRecDepth 100000 in
theorem pm_fl_2_132 : Cond.fieldLink (pm_R 2) 132 (pm_R 4) (pm_T 4 6).2.1 (pm_T 4 6).2.2.1 ∈ lw_tbl := List.mem_of_getElem? (i := 271) rfl
set_option maxRecDepth 100000 in
theorem pm_fl_2_135 : Cond.fieldLink (pm_R 2) 135 (pm_R 4) (pm_T 4 7).2.1 (pm_T 4 7).2.2.1 ∈ lw_tbl := List.mem_of_getElem? (i := 274) rfl
set_option maxRecDepth 100000 in
theorem pm_fl_2_141 : Cond.fieldLink (pm_R 2) 141 (pm_R 4) (pm_T 4 8).2.1 (pm_T 4 8).2.2.1 ∈ lw_tbl := List.mem_of_getElem? (i := 278) rfl
set_option maxRecDepth 100000 in
theorem pm_fl_2_144 : Cond.fieldLink (pm_R 2) 144 (pm_R 4) (pm_T 4 9).2.1 (pm_T 4 9).2.2.1 ∈ lw_tbl := List.mem_of_getElem? (i := 280) rfl
set_option maxRecDepth 100000 in
theorem pm_fl_2_147 : Cond.fieldLink (pm_R 2) 147 (pm_R 8) (pm_T 8 4).2.1 (pm_T 8 4).2.2.1 ∈ lw_tbl := List.mem_of_getElem? (i := 209) rfl
set_option maxRecDepth 100000 in
theorem pm_fl_2_150 : Cond.fieldLink (pm_R 2) 150 (pm_R 4) (pm_T 4 10).2.1 (pm_T 4 10).2.2.1 ∈ lw_tbl := List.mem_of_getElem? (i := 285) rfl
set_option maxRecDepth 100000 in
theorem pm_fl_2_153 : Cond.fieldLink (pm_R 2) 153 (pm_R 4) (pm_T 4 13).2.1 (pm_T 4 13).2.2.1 ∈ lw_tbl := List.mem_of_getElem? (i := 296) rfl
set_option maxRecDepth 100000 in
theorem pm_fl_2_157 : Cond.fieldLink (pm_R 2) 157 (pm_R 4) (pm_T 4 12).2.1 (pm_T 4 12).2.2.1 ∈ lw_tbl := List.mem_of_getElem? (i := 293) rfl
set_option maxRecDepth 100000 in
theorem pm_fl_2_160 : Cond.fieldLink (pm_R 2) 160 (pm_R 4) (pm_T 4 14).2.1 (pm_T 4 14).2.2.1 ∈ lw_tbl := List.mem_of_getElem? (i := 298) rfl
set_option maxRecDepth 100000 in
theorem pm_fl_2_163 : Cond.fieldLink (pm_R 2) 163 (pm_R 4) (pm_T 4 15).2.1 (pm_T 4 15).2.2.1 ∈ lw_tbl := List.mem_of_getElem? (i := 300) rfl
set_option maxRecDepth 100000 in
theorem pm_fl_2_169 : Cond.fieldLink (pm_R 2) 169 (pm_R 4) (pm_T 4 11).2.1 (pm_T 4 11).2.2.1 ∈ lw_tbl := List.mem_of_getElem? (i := 289) rfl
set_option maxRecDepth 100000 in
theorem pm_fl_3_9 : Cond.fieldLink (pm_R 3) 9 (pm_R 3) (pm_T 3 0).2.1 (pm_T 3 0).2.2.1 ∈ lw_tbl := List.mem_of_getElem? (i := 453) rfl
set_option maxRecDepth 100000 in
theorem pm_fl_3_15 : Cond.fieldLink (pm_R 3) 15 (pm_R 3) (pm_T 3 1).2.1 (pm_T 3 1).2.2.1 ∈ lw_tbl := List.mem_of_getElem? (i := 455) rfl
set_option maxRecDepth 100000 in
theorem pm_fl_3_18 : Cond.fieldLink (pm_R 3) 18 (pm_R 3) (pm_T 3 2).2.1 (pm_T 3 2).2.2.1 ∈ lw_tbl := List.mem_of_getElem? (i := 456) rfl
set_option maxRecDepth 100000 in
theorem pm_fl_3_21 : Cond.fieldLink (pm_R 3) 21 (pm_R 3) (pm_T 3 4).2.1 (pm_T 3 4).2.2.1 ∈ lw_tbl := List.mem_of_getElem? (i := 459) rfl
set_option maxRecDepth 100000 in
theorem pm_fl_3_25 : Cond.fieldLink (pm_R 3) 25 (pm_R 3) (pm_T 3 3).2.1 (pm_T 3 3).2.2.1 ∈ lw_tbl := List.mem_of_getElem? (i := 458) rfl
set_option maxRecDepth 100000 in
theorem pm_fl_3_41 : Cond.fieldLink (pm_R 3) 41 (pm_R 9) (pm_T 9 0).2.1 (pm_T 9 0).2.2.1 ∈ lw_tbl := List.mem_of_getElem? (i := 490) rfl
set_option maxRecDepth 100000 in
theorem pm_fl_3_52 : Cond.fieldLink (pm_R 3) 52 (pm_R 9) (pm_T 9 2).2.1 (pm_T 9 2).2.2.1 ∈ lw_tbl := List.mem_of_getElem? (i := 495) rfl
set_option maxRecDepth 100000 in
theorem pm_fl_3_59 : Cond.fieldLink (pm_R 3) 59 (pm_R 9) (pm_T 9 3).2.1 (pm_T 9 3).2.2.1 ∈ lw_tbl := List.mem_of_getElem? (i := 497) rfl
set_option maxRecDepth 100000 in
theorem pm_fl_3_66 : Cond.fieldLink (pm_R 3) 66 (pm_R 9) (pm_T 9 4).2.1 (pm_T 9 4).2.2.1 ∈ lw_tbl := List.mem_of_getElem? (i := 499) rfl
set_option maxRecDepth 100000 in
theorem pm_fl_3_73 : Cond.fieldLink (pm_R 3) 73 (pm_R 3) (pm_T 3 8).2.1 (pm_T 3 8).2.2.1 ∈ lw_tbl := List.mem_of_getElem? (i := 463) rfl
set_option maxRecDepth 100000 in
theorem pm_fl_3_82 : Cond.fieldLink (pm_R 3) 82 (pm_R 3) (pm_T 3 7).2.1 (pm_T 3 7).2.2.1 ∈ lw_tbl := List.mem_of_getElem? (i := 462) rfl
set_option maxRecDepth 100000 in
theorem pm_fl_3_85 : Cond.fieldLink (pm_R 3) 85 (pm_R 3) (pm_T 3 5).2.1 (pm_T 3 5).2.2.1 ∈ lw_tbl := List.mem_of_getElem? (i := 460) rfl
set_option maxRecDepth 100000 in
theorem pm_fl_3_91 : Cond.fieldLink (pm_R 3) 91 (pm_R 3) (pm_T 3 6).2.1 (pm_T 3 6).2.2.1 ∈ lw_tbl := List.mem_of_getElem? (i := 461) rfl
set_option maxRecDepth 100000 in
theorem pm_fl_4_9 : Cond.fieldLink (pm_R 4) 9 (pm_R 4) (pm_T 4 1).2.1 (pm_T 4 1).2.2.1 ∈ lw_tbl := List.mem_of_getElem? (i := 255) rfl
set_option maxRecDepth 100000 in
theorem pm_fl_4_15 : Cond.fieldLink (pm_R 4) 15 (pm_R 4) (pm_T 4 2).2.1 (pm_T 4 2).2.2.1 ∈ lw_tbl := List.mem_of_getElem? (i := 257) rfl
set_option maxRecDepth 100000 in
theorem pm_fl_4_19 : Cond.fieldLink (pm_R 4) 19 (pm_R 4) (pm_T 4 4).2.1 (pm_T 4 4).2.2.1 ∈ lw_tbl := List.mem_of_getElem? (i := 263) rfl
set_option maxRecDepth 100000 in
theorem pm_fl_4_23 : Cond.fieldLink (pm_R 4) 23 (pm_R 4) (pm_T 4 5).2.1 (pm_T 4 5).2.2.1 ∈ lw_tbl := List.mem_of_getElem? (i := 265) rfl
set_option maxRecDepth 100000 in
theorem pm_fl_4_26 : Cond.fieldLink (pm_R 4) 26 (pm_R 4) (pm_T 4 7).2.1 (pm_T 4 7).2.2.1 ∈ lw_tbl := List.mem_of_getElem? (i := 273) rfl
set_option maxRecDepth 100000 in
theorem pm_fl_4_29 : Cond.fieldLink (pm_R 4) 29 (pm_R 4) (pm_T 4 8).2.1 (pm_T 4 8).2.2.1 ∈ lw_tbl := List.mem_of_getElem? (i := 275) rfl
set_option maxRecDepth 100000 in
theorem pm_fl_4_32 : Cond.fieldLink (pm_R 4) 32 (pm_R 4) (pm_T 4 10).2.1 (pm_T 4 10).2.2.1 ∈ lw_tbl := List.mem_of_getElem? (i := 282) rfl
set_option maxRecDepth 100000 in
theorem pm_fl_4_35 : Cond.fieldLink (pm_R 4) 35 (pm_R 4) (pm_T 4 11).2.1 (pm_T 4 11).2.2.1 ∈ lw_tbl := List.mem_of_getElem? (i := 286) rfl
set_option maxRecDepth 100000 in
theorem pm_fl_4_38 : Cond.fieldLink (pm_R 4) 38 (pm_R 4) (pm_T 4 15).2.1 (pm_T 4 15).2.2.1 ∈ lw_tbl := List.mem_of_getElem? (i := 299) rfl
set_option maxRecDepth 100000 in
theorem pm_fl_4_41 : Cond.fieldLink (pm_R 4) 41 (pm_R 4) (pm_T 4 12).2.1 (pm_T 4 12).2.2.1 ∈ lw_tbl := List.mem_of_getElem? (i := 290) rfl
set_option maxRecDepth 100000 in
theorem pm_fl_4_45 : Cond.fieldLink (pm_R 4) 45 (pm_R 4) (pm_T 4 0).2.1 (pm_T 4 0).2.2.1 ∈ lw_tbl := List.mem_of_getElem? (i := 250) rfl
set_option maxRecDepth 100000 in
theorem pm_fl_4_48 : Cond.fieldLink (pm_R 4) 48 (pm_R 4) (pm_T 4 3).2.1 (pm_T 4 3).2.2.1 ∈ lw_tbl := List.mem_of_getElem? (i := 260) rfl
set_option maxRecDepth 100000 in
theorem pm_fl_4_57 : Cond.fieldLink (pm_R 4) 57 (pm_R 4) (pm_T 4 6).2.1 (pm_T 4 6).2.2.1 ∈ lw_tbl := List.mem_of_getElem? (i := 268) rfl
set_option maxRecDepth 100000 in
theorem pm_fl_4_60 : Cond.fieldLink (pm_R 4) 60 (pm_R 4) (pm_T 4 9).2.1 (pm_T 4 9).2.2.1 ∈ lw_tbl := List.mem_of_getElem? (i := 279) rfl
set_option maxRecDepth 100000 in
theorem pm_fl_4_63 : Cond.fieldLink (pm_R 4) 63 (pm_R 4) (pm_T 4 13).2.1 (pm_T 4 13).2.2.1 ∈ lw_tbl := List.mem_of_getElem? (i := 295) rfl
set_option maxRecDepth 100000 in
theorem pm_fl_4_67 : Cond.fieldLink (pm_R 4) 67 (pm_R 4) (pm_T 4 14).2.1 (pm_T 4 14).2.2.1 ∈ lw_tbl := List.mem_of_getElem? (i := 297) rfl
set_option maxRecDepth 100000 in
theorem pm_fl_5_9 : Cond.fieldLink (pm_R 5) 9 (pm_R 5) (pm_T 5 0).2.1 (pm_T 5 0).2.2.1 ∈ lw_tbl := List.mem_of_getElem? (i := 424) rfl
set_option maxRecDepth 100000 in
theorem pm_fl_5_15 : Cond.fieldLink (pm_R 5) 15 (pm_R 5) (pm_T 5 1).2.1 (pm_T 5 1).2.2.1 ∈ lw_tbl := List.mem_of_getElem? (i := 425) rfl
set_option maxRecDepth 100000 in
theorem pm_fl_5_22 : Cond.fieldLink (pm_R 5) 22 (pm_R 4) (pm_T 4 12).2.1 (pm_T 4 12).2.2.1 ∈ lw_tbl := List.mem_of_getElem? (i := 291) rfl
set_option maxRecDepth 100000 in
theorem pm_fl_5_28 : Cond.fieldLink (pm_R 5) 28 (pm_R 4) (pm_T 4 6).2.1 (pm_T 4 6).2.2.1 ∈ lw_tbl := List.mem_of_getElem? (i := 269) rfl
set_option maxRecDepth 100000 in
theorem pm_fl_5_31 : Cond.fieldLink (pm_R 5) 31 (pm_R 4) (pm_T 4 0).2.1 (pm_T 4 0).2.2.1 ∈ lw_tbl := List.mem_of_getElem? (i := 251) rfl
set_option maxRecDepth 100000 in
theorem pm_fl_5_48 : Cond.fieldLink (pm_R 5) 48 (pm_R 4) (pm_T 4 8).2.1 (pm_T 4 8).2.2.1 ∈ lw_tbl := List.mem_of_getElem? (i := 277) rfl
set_option maxRecDepth 100000 in
theorem pm_fl_5_56 : Cond.fieldLink (pm_R 5) 56 (pm_R 4) (pm_T 4 10).2.1 (pm_T 4 10).2.2.1 ∈ lw_tbl := List.mem_of_getElem? (i := 284) rfl
set_option maxRecDepth 100000 in
theorem pm_fl_5_59 : Cond.fieldLink (pm_R 5) 59 (pm_R 4) (pm_T 4 11).2.1 (pm_T 4 11).2.2.1 ∈ lw_tbl := List.mem_of_getElem? (i := 288) rfl
set_option maxRecDepth 100000 in
theorem pm_fl_6_9 : Cond.fieldLink (pm_R 6) 9 (pm_R 6) (pm_T 6 2).2.1 (pm_T 6 2).2.2.1 ∈ lw_tbl := List.mem_of_getElem? (i := 541) rfl
set_option maxRecDepth 100000 in
theorem pm_fl_6_15 : Cond.fieldLink (pm_R 6) 15 (pm_R 6) (pm_T 6 3).2.1 (pm_T 6 3).2.2.1 ∈ lw_tbl := List.mem_of_getElem? (i := 542) rfl
set_option maxRecDepth 100000 in
theorem pm_fl_6_18 : Cond.fieldLink (pm_R 6) 18 (pm_R 6) (pm_T 6 4).2.1 (pm_T 6 4).2.2.1 ∈ lw_tbl := List.mem_of_getElem? (i := 543) rfl
set_option maxRecDepth 100000 in
theorem pm_fl_6_22 : Cond.fieldLink (pm_R 6) 22 (pm_R 6) (pm_T 6 5).2.1 (pm_T 6 5).2.2.1 ∈ lw_tbl := List.mem_of_getElem? (i := 544) rfl
set_option maxRecDepth 100000 in
theorem pm_fl_6_25 : Cond.fieldLink (pm_R 6) 25 (pm_R 6) (pm_T 6 6).2.1 (pm_T 6 6).2.2.1 ∈ lw_tbl := List.mem_of_getElem? (i := 545) rfl
set_option maxRecDepth 100000 in
theorem pm_fl_6_28 : Cond.fieldLink (pm_R 6) 28 (pm_R 6) (pm_T 6 0).2.1 (pm_T 6 0).2.2.1 ∈ lw_tbl := List.mem_of_getElem? (i := 537) rfl
set_option maxRecDepth 100000 in
theorem pm_fl_6_32 : Cond.fieldLink (pm_R 6) 32 (pm_R 6) (pm_T 6 1).2.1 (pm_T 6 1).2.2.1 ∈ lw_tbl := List.mem_of_getElem? (i := 539) rfl
set_option maxRecDepth 100000 in
theorem pm_fl_7_9 : Cond.fieldLink (pm_R 7) 9 (pm_R 7) (pm_T 7 0).2.1 (pm_T 7 0).2.2.1 ∈ lw_tbl := List.mem_of_getElem? (i := 437) rfl
set_option maxRecDepth 100000 in
theorem pm_fl_7_15 : Cond.fieldLink (pm_R 7) 15 (pm_R 7) (pm_T 7 2).2.1 (pm_T 7 2).2.2.1 ∈ lw_tbl := List.mem_of_getElem? (i := 439) rfl
set_option maxRecDepth 100000 in
theorem pm_fl_7_18 : Cond.fieldLink (pm_R 7) 18 (pm_R 7) (pm_T 7 1).2.1 (pm_T 7 1).2.2.1 ∈ lw_tbl := List.mem_of_getElem? (i := 438) rfl
set_option maxRecDepth 100000 in
theorem pm_fl_7_26 : Cond.fieldLink (pm_R 7) 26 (pm_R 4) (pm_T 4 6).2.1 (pm_T 4 6).2.2.1 ∈ lw_tbl := List.mem_of_getElem? (i := 270) rfl
set_option maxRecDepth 100000 in
theorem pm_fl_7_31 : Cond.fieldLink (pm_R 7) 31 (pm_R 4) (pm_T 4 8).2.1 (pm_T 4 8).2.2.1 ∈ lw_tbl := List.mem_of_getElem? (i := 276) rfl
set_option maxRecDepth 100000 in
theorem pm_fl_7_46 : Cond.fieldLink (pm_R 7) 46 (pm_R 4) (pm_T 4 11).2.1 (pm_T 4 11).2.2.1 ∈ lw_tbl := List.mem_of_getElem? (i := 287) rfl
set_option maxRecDepth 100000 in
theorem pm_fl_7_49 : Cond.fieldLink (pm_R 7) 49 (pm_R 4) (pm_T 4 10).2.1 (pm_T 4 10).2.2.1 ∈ lw_tbl := List.mem_of_getElem? (i := 283) rfl
set_option maxRecDepth 100000 in
theorem pm_fl_8_27 : Cond.fieldLink (pm_R 8) 27 (pm_R 8) (pm_T 8 0).2.1 (pm_T 8 0).2.2.1 ∈ lw_tbl := List.mem_of_getElem? (i := 204) rfl
set_option maxRecDepth 100000 in
theorem pm_fl_8_31 : Cond.fieldLink (pm_R 8) 31 (pm_R 8) (pm_T 8 1).2.1 (pm_T 8 1).2.2.1 ∈ lw_tbl := List.mem_of_getElem? (i := 205) rfl
set_option maxRecDepth 100000 in
theorem pm_fl_8_35 : Cond.fieldLink (pm_R 8) 35 (pm_R 8) (pm_T 8 9).2.1 (pm_T 8 9).2.2.1 ∈ lw_tbl := List.mem_of_getElem? (i := 219) rfl
set_option maxRecDepth 100000 in
theorem pm_fl_8_54 : Cond.fieldLink (pm_R 8) 54 (pm_R 8) (pm_T 8 2).2.1 (pm_T 8 2).2.2.1 ∈ lw_tbl := List.mem_of_getElem? (i := 206) rfl
set_option maxRecDepth 100000 in
theorem pm_fl_8_57 : Cond.fieldLink (pm_R 8) 57 (pm_R 8) (pm_T 8 3).2.1 (pm_T 8 3).2.2.1 ∈ lw_tbl := List.mem_of_getElem? (i := 207) rfl
set_option maxRecDepth 100000 in
theorem pm_fl_8_60 : Cond.fieldLink (pm_R 8) 60 (pm_R 8) (pm_T 8 8).2.1 (pm_T 8 8).2.2.1 ∈ lw_tbl := List.mem_of_getElem? (i := 217) rfl
set_option maxRecDepth 100000 in
theorem pm_fl_8_66 : Cond.fieldLink (pm_R 8) 66 (pm_R 8) (pm_T 8 4).2.1 (pm_T 8 4).2.2.1 ∈ lw_tbl := List.mem_of_getElem? (i := 208) rfl
set_option maxRecDepth 100000 in
theorem pm_fl_8_69 : Cond.fieldLink (pm_R 8) 69 (pm_R 8) (pm_T 8 5).2.1 (pm_T 8 5).2.2.1 ∈ lw_tbl := List.mem_of_getElem? (i := 211) rfl
set_option maxRecDepth 100000 in
theorem pm_fl_8_82 : Cond.fieldLink (pm_R 8) 82 (pm_R 8) (pm_T 8 6).2.1 (pm_T 8 6).2.2.1 ∈ lw_tbl := List.mem_of_getElem? (i := 213) rfl
set_option maxRecDepth 100000 in
theorem pm_fl_8_86 : Cond.fieldLink (pm_R 8) 86 (pm_R 8) (pm_T 8 7).2.1 (pm_T 8 7).2.2.1 ∈ lw_tbl := List.mem_of_getElem? (i := 214) rfl
set_option maxRecDepth 100000 in
theorem pm_fl_9_9 : Cond.fieldLink (pm_R 9) 9 (pm_R 9) (pm_T 9 2).2.1 (pm_T 9 2).2.2.1 ∈ lw_tbl := List.mem_of_getElem? (i := 494) rfl
set_option maxRecDepth 100000 in
theorem pm_fl_9_15 : Cond.fieldLink (pm_R 9) 15 (pm_R 9) (pm_T 9 3).2.1 (pm_T 9 3).2.2.1 ∈ lw_tbl := List.mem_of_getElem? (i := 496) rfl
set_option maxRecDepth 100000 in
theorem pm_fl_9_18 : Cond.fieldLink (pm_R 9) 18 (pm_R 9) (pm_T 9 4).2.1 (pm_T 9 4).2.2.1 ∈ lw_tbl := List.mem_of_getElem? (i := 498) rfl
set_option maxRecDepth 100000 in
theorem pm_fl_9_21 : Cond.fieldLink (pm_R 9) 21 (pm_R 9) (pm_T 9 5).2.1 (pm_T 9 5).2.2.1 ∈ lw_tbl := List.mem_of_getElem? (i := 501) rfl
set_option maxRecDepth 100000 in
theorem pm_fl_9_24 : Cond.fieldLink (pm_R 9) 24 (pm_R 9) (pm_T 9 7).2.1 (pm_T 9 7).2.2.1 ∈ lw_tbl := List.mem_of_getElem? (i := 504) rfl
set_option maxRecDepth 100000 in
theorem pm_fl_9_28 : Cond.fieldLink (pm_R 9) 28 (pm_R 9) (pm_T 9 8).2.1 (pm_T 9 8).2.2.1 ∈ lw_tbl := List.mem_of_getElem? (i := 505) rfl
set_option maxRecDepth 100000 in
theorem pm_fl_9_32 : Cond.fieldLink (pm_R 9) 32 (pm_R 9) (pm_T 9 9).2.1 (pm_T 9 9).2.2.1 ∈ lw_tbl := List.mem_of_getElem? (i := 506) rfl
set_option maxRecDepth 100000 in
theorem pm_fl_9_35 : Cond.fieldLink (pm_R 9) 35 (pm_R 9) (pm_T 9 10).2.1 (pm_T 9 10).2.2.1 ∈ lw_tbl := List.mem_of_getElem? (i := 507) rfl
set_option maxRecDepth 100000 in
theorem pm_fl_9_38 : Cond.fieldLink (pm_R 9) 38 (pm_R 4) (pm_T 4 12).2.1 (pm_T 4 12).2.2.1 ∈ lw_tbl := List.mem_of_getElem? (i := 292) rfl
set_option maxRecDepth 100000 in
theorem pm_fl_9_43 : Cond.fieldLink (pm_R 9) 43 (pm_R 9) (pm_T 9 6).2.1 (pm_T 9 6).2.2.1 ∈ lw_tbl := List.mem_of_getElem? (i := 503) rfl
set_option maxRecDepth 100000 in
theorem pm_fl_9_44 : Cond.fieldLink (pm_R 9) 44 (pm_R 9) (pm_T 9 1).2.1 (pm_T 9 1).2.2.1 ∈ lw_tbl := List.mem_of_getElem? (i := 492) rfl
set_option maxRecDepth 100000 in
theorem pm_fl_9_61 : Cond.fieldLink (pm_R 9) 61 (pm_R 9) (pm_T 9 0).2.1 (pm_T 9 0).2.2.1 ∈ lw_tbl := List.mem_of_getElem? (i := 489) rfl
set_option maxRecDepth 100000 in
theorem pm_fl_9_72 : Cond.fieldLink (pm_R 9) 72 (pm_R 4) (pm_T 4 0).2.1 (pm_T 4 0).2.2.1 ∈ lw_tbl := List.mem_of_getElem? (i := 253) rfl
set_option maxRecDepth 100000 in
theorem pm_fl_10_9 : Cond.fieldLink (pm_R 10) 9 (pm_R 10) (pm_T 10 0).2.1 (pm_T 10 0).2.2.1 ∈ lw_tbl := List.mem_of_getElem? (i := 561) rfl
set_option maxRecDepth 100000 in
theorem pm_fl_10_16 : Cond.fieldLink (pm_R 10) 16 (pm_R 10) (pm_T 10 2).2.1 (pm_T 10 2).2.2.1 ∈ lw_tbl := List.mem_of_getElem? (i := 563) rfl
set_option maxRecDepth 100000 in
theorem pm_fl_10_23 : Cond.fieldLink (pm_R 10) 23 (pm_R 10) (pm_T 10 3).2.1 (pm_T 10 3).2.2.1 ∈ lw_tbl := List.mem_of_getElem? (i := 564) rfl
set_option maxRecDepth 100000 in
theorem pm_fl_10_27 : Cond.fieldLink (pm_R 10) 27 (pm_R 10) (pm_T 10 4).2.1 (pm_T 10 4).2.2.1 ∈ lw_tbl := List.mem_of_getElem? (i := 565) rfl
set_option maxRecDepth 100000 in
theorem pm_fl_10_33 : Cond.fieldLink (pm_R 10) 33 (pm_R 10) (pm_T 10 5).2.1 (pm_T 10 5).2.2.1 ∈ lw_tbl := List.mem_of_getElem? (i := 566) rfl
set_option maxRecDepth 100000 in
theorem pm_fl_10_40 : Cond.fieldLink (pm_R 10) 40 (pm_R 10) (pm_T 10 6).2.1 (pm_T 10 6).2.2.1 ∈ lw_tbl := List.mem_of_getElem? (i := 567) rfl
set_option maxRecDepth 100000 in
theorem pm_fl_10_47 : Cond.fieldLink (pm_R 10) 47 (pm_R 10) (pm_T 10 7).2.1 (pm_T 10 7).2.2.1 ∈ lw_tbl := List.mem_of_getElem? (i := 568) rfl
set_option maxRecDepth 100000 in
theorem pm_fl_10_54 : Cond.fieldLink (pm_R 10) 54 (pm_R 10) (pm_T 10 8).2.1 (pm_T 10 8).2.2.1 ∈ lw_tbl := List.mem_of_getElem? (i := 569) rfl
set_option maxRecDepth 100000 in
theorem pm_fl_10_61 : Cond.fieldLink (pm_R 10) 61 (pm_R 10) (pm_T 10 9).2.1 (pm_T 10 9).2.2.1 ∈ lw_tbl := List.mem_of_getElem? (i := 570) rfl
set_option maxRecDepth 100000 in
theorem pm_fl_10_68 : Cond.fieldLink (pm_R 10) 68 (pm_R 10) (pm_T 10 10).2.1 (pm_T 10 10).2.2.1 ∈ lw_tbl := List.mem_of_getElem? (i := 571) rfl
set_option maxRecDepth 100000 in
theorem pm_fl_10_72 : Cond.fieldLink (pm_R 10) 72 (pm_R 10) (pm_T 10 11).2.1 (pm_T 10 11).2.2.1 ∈ lw_tbl := List.mem_of_getElem? (i := 572) rfl
set_option maxRecDepth 100000 in
theorem pm_fl_10_75 : Cond.fieldLink (pm_R 10) 75 (pm_R 10) (pm_T 10 12).2.1 (pm_T 10 12).2.2.1 ∈ lw_tbl := List.mem_of_getElem? (i := 573) rfl
set_option maxRecDepth 100000 in
theorem pm_fl_10_81 : Cond.fieldLink (pm_R 10) 81 (pm_R 10) (pm_T 10 14).2.1 (pm_T 10 14).2.2.1 ∈ lw_tbl := List.mem_of_getElem? (i := 575) rfl
set_option maxRecDepth 100000 in
theorem pm_fl_10_85 : Cond.fieldLink (pm_R 10) 85 (pm_R 10) (pm_T 10 15).2.1 (pm_T 10 15).2.2.1 ∈ lw_tbl := List.mem_of_getElem? (i := 576) rfl
set_option maxRecDepth 100000 in
theorem pm_fl_10_89 : Cond.fieldLink (pm_R 10) 89 (pm_R 10) (pm_T 10 17).2.1 (pm_T 10 17).2.2.1 ∈ lw_tbl := List.mem_of_getElem? (i := 578) rfl
set_option maxRecDepth 100000 in
theorem pm_fl_10_92 : Cond.fieldLink (pm_R 10) 92 (pm_R 10) (pm_T 10 1).2.1 (pm_T 10 1).2.2.1 ∈ lw_tbl := List.mem_of_getElem? (i := 562) rfl
set_option maxRecDepth 100000 in
theorem pm_fl_10_107 : Cond.fieldLink (pm_R 10) 107 (pm_R 4) (pm_T 4 0).2.1 (pm_T 4 0).2.2.1 ∈ lw_tbl := List.mem_of_getElem? (i := 254) rfl
set_option maxRecDepth 100000 in
theorem pm_fl_10_113 : Cond.fieldLink (pm_R 10) 113 (pm_R 1) (pm_T 1 0).2.1 (pm_T 1 0).2.2.1 ∈ lw_tbl := List.mem_of_getElem? (i := 405) rfl
set_option maxRecDepth 100000 in
theorem pm_fl_10_122 : Cond.fieldLink (pm_R 10) 122 (pm_R 10) (pm_T 10 13).2.1 (pm_T 10 13).2.2.1 ∈ lw_tbl := List.mem_of_getElem? (i := 574) rfl
set_option maxRecDepth 100000 in
theorem pm_fl_10_125 : Cond.fieldLink (pm_R 10) 125 (pm_R 6) (pm_T 6 0).2.1 (pm_T 6 0).2.2.1 ∈ lw_tbl := List.mem_of_getElem? (i := 538) rfl
set_option maxRecDepth 100000 in
theorem pm_fl_10_128 : Cond.fieldLink (pm_R 10) 128 (pm_R 10) (pm_T 10 16).2.1 (pm_T 10 16).2.2.1 ∈ lw_tbl := List.mem_of_getElem? (i := 577) rfl
set_option maxRecDepth 100000 in
theorem pm_fl_10_131 : Cond.fieldLink (pm_R 10) 131 (pm_R 2) (pm_T 2 0).2.1 (pm_T 2 0).2.2.1 ∈ lw_tbl := List.mem_of_getElem? (i := 337) rfl
set_option maxRecDepth 100000 in
theorem pm_fl_10_135 : Cond.fieldLink (pm_R 10) 135 (pm_R 8) (pm_T 8 8).2.1 (pm_T 8 8).2.2.1 ∈ lw_tbl := List.mem_of_getElem? (i := 218) rfl
set_option maxRecDepth 100000 in
theorem pm_fl_10_140 : Cond.fieldLink (pm_R 10) 140 (pm_R 8) (pm_T 8 9).2.1 (pm_T 8 9).2.2.1 ∈ lw_tbl := List.mem_of_getElem? (i := 220) rfl
set_option maxRecDepth 100000 in
theorem pm_fl_10_150 : Cond.fieldLink (pm_R 10) 150 (pm_R 4) (pm_T 4 2).2.1 (pm_T 4 2).2.2.1 ∈ lw_tbl := List.mem_of_getElem? (i := 259) rfl
set_option maxRecDepth 100000 in
theorem pm_fl_10_154 : Cond.fieldLink (pm_R 10) 154 (pm_R 4) (pm_T 4 5).2.1 (pm_T 4 5).2.2.1 ∈ lw_tbl := List.mem_of_getElem? (i := 266) rfl
set_option maxRecDepth 100000 in
theorem pm_fl_10_164 : Cond.fieldLink (pm_R 10) 164 (pm_R 0) (pm_T 0 2).2.1 (pm_T 0 2).2.2.1 ∈ lw_tbl := List.mem_of_getElem? (i := 369) rfl
set_option maxRecDepth 100000 in
theorem pm_fl_10_177 : Cond.fieldLink (pm_R 10) 177 (pm_R 0) (pm_T 0 1).2.1 (pm_T 0 1).2.2.1 ∈ lw_tbl := List.mem_of_getElem? (i := 366) rfl
set_option maxRecDepth 100000 in
theorem pm_fl_10_194 : Cond.fieldLink (pm_R 10) 194 (pm_R 0) (pm_T 0 0).2.1 (pm_T 0 0).2.2.1 ∈ lw_tbl := List.mem_of_getElem? (i := 363) rfl
set_option maxRecDepth 100000 in
theorem pm_fl_10_231 : Cond.fieldLink (pm_R 10) 231 (pm_R 9) (pm_T 9 4).2.1 (pm_T 9 4).2.2.1 ∈ lw_tbl := List.mem_of_getElem? (i := 500) rfl
set_option maxRecDepth 100000 in
theorem pm_fl_10_238 : Cond.fieldLink (pm_R 10) 238 (pm_R 4) (pm_T 4 12).2.1 (pm_T 4 12).2.2.1 ∈ lw_tbl := List.mem_of_getElem? (i := 294) rfl
set_option maxRecDepth 100000 in
theorem pm_fl_10_241 : Cond.fieldLink (pm_R 10) 241 (pm_R 3) (pm_T 3 0).2.1 (pm_T 3 0).2.2.1 ∈ lw_tbl := List.mem_of_getElem? (i := 454) rfl
set_option maxRecDepth 100000 in
theorem pm_fl_10_273 : Cond.fieldLink (pm_R 10) 273 (pm_R 4) (pm_T 4 6).2.1 (pm_T 4 6).2.2.1 ∈ lw_tbl := List.mem_of_getElem? (i := 272) rfl
set_option maxRecDepth 100000 in
theorem pm_fl_10_279 : Cond.fieldLink (pm_R 10) 279 (pm_R 9) (pm_T 9 1).2.1 (pm_T 9 1).2.2.1 ∈ lw_tbl := List.mem_of_getElem? (i := 493) rfl
set_option maxRecDepth 100000 in
theorem pm_fl_10_282 : Cond.fieldLink (pm_R 10) 282 (pm_R 9) (pm_T 9 0).2.1 (pm_T 9 0).2.2.1 ∈ lw_tbl := List.mem_of_getElem? (i := 491) rfl
set_option maxRecDepth 100000 in
theorem pm_fl_10_294 : Cond.fieldLink (pm_R 10) 294 (pm_R 3) (pm_T 3 2).2.1 (pm_T 3 2).2.2.1 ∈ lw_tbl := List.mem_of_getElem? (i := 457) rfl
set_option maxRecDepth 100000 in
theorem pm_fl_10_310 : Cond.fieldLink (pm_R 10) 310 (pm_R 6) (pm_T 6 1).2.1 (pm_T 6 1).2.2.1 ∈ lw_tbl := List.mem_of_getElem? (i := 540) rfl
set_option maxRecDepth 100000 in
theorem pm_fl_10_325 : Cond.fieldLink (pm_R 10) 325 (pm_R 4) (pm_T 4 3).2.1 (pm_T 4 3).2.2.1 ∈ lw_tbl := List.mem_of_getElem? (i := 262) rfl
set_option maxRecDepth 100000 in
theorem pm_fl_10_328 : Cond.fieldLink (pm_R 10) 328 (pm_R 4) (pm_T 4 9).2.1 (pm_T 4 9).2.2.1 ∈ lw_tbl := List.mem_of_getElem? (i := 281) rfl
set_option maxRecDepth 100000 in
theorem pm_fl_10_331 : Cond.fieldLink (pm_R 10) 331 (pm_R 0) (pm_T 0 7).2.1 (pm_T 0 7).2.2.1 ∈ lw_tbl := List.mem_of_getElem? (i := 375) rfl
set_option maxRecDepth 100000 in
theorem pm_fl_10_334 : Cond.fieldLink (pm_R 10) 334 (pm_R 0) (pm_T 0 8).2.1 (pm_T 0 8).2.2.1 ∈ lw_tbl := List.mem_of_getElem? (i := 377) rfl
set_option maxRecDepth 100000 in
theorem pm_fl_11_7 : Cond.fieldLink (pm_R 11) 7 (pm_R 11) (pm_T 11 0).2.1 (pm_T 11 0).2.2.1 ∈ lw_tbl := List.mem_of_getElem? (i := 1180) rfl
set_option maxRecDepth 100000 in
theorem pm_fl_11_13 : Cond.fieldLink (pm_R 11) 13 (pm_R 11) (pm_T 11 1).2.1 (pm_T 11 1).2.2.1 ∈ lw_tbl := List.mem_of_getElem? (i := 1181) rfl
set_option maxRecDepth 100000 in
theorem pm_fl_11_16 : Cond.fieldLink (pm_R 11) 16 (pm_R 11) (pm_T 11 5).2.1 (pm_T 11 5).2.2.1 ∈ lw_tbl := List.mem_of_getElem? (i := 1185) rfl
set_option maxRecDepth 100000 in
theorem pm_fl_11_20 : Cond.fieldLink (pm_R 11) 20 (pm_R 11) (pm_T 11 11).2.1 (pm_T 11 11).2.2.1 ∈ lw_tbl := List.mem_of_getElem? (i := 1191) rfl
set_option maxRecDepth 100000 in
theorem pm_fl_11_24 : Cond.fieldLink (pm_R 11) 24 (pm_R 11) (pm_T 11 12).2.1 (pm_T 11 12).2.2.1 ∈ lw_tbl := List.mem_of_getElem? (i := 1192) rfl
set_option maxRecDepth 100000 in
theorem pm_fl_11_27 : Cond.fieldLink (pm_R 11) 27 (pm_R 11) (pm_T 11 13).2.1 (pm_T 11 13).2.2.1 ∈ lw_tbl := List.mem_of_getElem? (i := 1193) rfl
set_option maxRecDepth 100000 in
theorem pm_fl_11_30 : Cond.fieldLink (pm_R 11) 30 (pm_R 11) (pm_T 11 14).2.1 (pm_T 11 14).2.2.1 ∈ lw_tbl := List.mem_of_getElem? (i := 1194) rfl
set_option maxRecDepth 100000 in
theorem pm_fl_11_33 : Cond.fieldLink (pm_R 11) 33 (pm_R 11) (pm_T 11 15).2.1 (pm_T 11 15).2.2.1 ∈ lw_tbl := List.mem_of_getElem? (i := 1195) rfl
set_option maxRecDepth 100000 in
theorem pm_fl_11_36 : Cond.fieldLink (pm_R 11) 36 (pm_R 11) (pm_T 11 16).2.1 (pm_T 11 16).2.2.1 ∈ lw_tbl := List.mem_of_getElem? (i := 1196) rfl
set_option maxRecDepth 100000 in
theorem pm_fl_11_39 : Cond.fieldLink (pm_R 11) 39 (pm_R 11) (pm_T 11 17).2.1 (pm_T 11 17).2.2.1 ∈ lw_tbl := List.mem_of_getElem? (i := 1197) rfl
set_option maxRecDepth 100000 in
theorem pm_fl_11_42 : Cond.fieldLink (pm_R 11) 42 (pm_R 11) (pm_T 11 18).2.1 (pm_T 11 18).2.2.1 ∈ lw_tbl := List.mem_of_getElem? (i := 1198) rfl
set_option maxRecDepth 100000 in
theorem pm_fl_11_45 : Cond.fieldLink (pm_R 11) 45 (pm_R 11) (pm_T 11 19).2.1 (pm_T 11 19).2.2.1 ∈ lw_tbl := List.mem_of_getElem? (i := 1199) rfl
set_option maxRecDepth 100000 in
theorem pm_fl_11_48 : Cond.fieldLink (pm_R 11) 48 (pm_R 11) (pm_T 11 20).2.1 (pm_T 11 20).2.2.1 ∈ lw_tbl := List.mem_of_getElem? (i := 1200) rfl
set_option maxRecDepth 100000 in
theorem pm_fl_11_51 : Cond.fieldLink (pm_R 11) 51 (pm_R 11) (pm_T 11 21).2.1 (pm_T 11 21).2.2.1 ∈ lw_tbl := List.mem_of_getElem? (i := 1201) rfl
set_option maxRecDepth 100000 in
theorem pm_fl_11_54 : Cond.fieldLink (pm_R 11) 54 (pm_R 11) (pm_T 11 22).2.1 (pm_T 11 22).2.2.1 ∈ lw_tbl := List.mem_of_getElem? (i := 1202) rfl
set_option maxRecDepth 100000 in
theorem pm_fl_11_57 : Cond.fieldLink (pm_R 11) 57 (pm_R 11) (pm_T 11 23).2.1 (pm_T 11 23).2.2.1 ∈ lw_tbl := List.mem_of_getElem? (i := 1203) rfl
set_option maxRecDepth 100000 in
theorem pm_fl_11_60 : Cond.fieldLink (pm_R 11) 60 (pm_R 11) (pm_T 11 24).2.1 (pm_T 11 24).2.2.1 ∈ lw_tbl := List.mem_of_getElem? (i := 1204) rfl
set_option maxRecDepth 100000 in
theorem pm_fl_11_64 : Cond.fieldLink (pm_R 11) 64 (pm_R 11) (pm_T 11 25).2.1 (pm_T 11 25).2.2.1 ∈ lw_tbl := List.mem_of_getElem? (i := 1205) rfl
set_option maxRecDepth 100000 in
theorem pm_fl_11_67 : Cond.fieldLink (pm_R 11) 67 (pm_R 11) (pm_T 11 26).2.1 (pm_T 11 26).2.2.1 ∈ lw_tbl := List.mem_of_getElem? (i := 1206) rfl
set_option maxRecDepth 100000 in
theorem pm_fl_11_71 : Cond.fieldLink (pm_R 11) 71 (pm_R 11) (pm_T 11 27).2.1 (pm_T 11 27).2.2.1 ∈ lw_tbl := List.mem_of_getElem? (i := 1207) rfl
set_option maxRecDepth 100000 in
theorem pm_fl_11_74 : Cond.fieldLink (pm_R 11) 74 (pm_R 11) (pm_T 11 28).2.1 (pm_T 11 28).2.2.1 ∈ lw_tbl := List.mem_of_getElem? (i := 1208) rfl
set_option maxRecDepth 100000 in
theorem pm_fl_11_77 : Cond.fieldLink (pm_R 11) 77 (pm_R 11) (pm_T 11 31).2.1 (pm_T 11 31).2.2.1 ∈ lw_tbl := List.mem_of_getElem? (i := 1211) rfl
set_option maxRecDepth 100000 in
theorem pm_fl_11_80 : Cond.fieldLink (pm_R 11) 80 (pm_R 11) (pm_T 11 32).2.1 (pm_T 11 32).2.2.1 ∈ lw_tbl := List.mem_of_getElem? (i := 1212) rfl
set_option maxRecDepth 100000 in
theorem pm_fl_11_83 : Cond.fieldLink (pm_R 11) 83 (pm_R 11) (pm_T 11 33).2.1 (pm_T 11 33).2.2.1 ∈ lw_tbl := List.mem_of_getElem? (i := 1213) rfl
set_option maxRecDepth 100000 in
theorem pm_fl_11_86 : Cond.fieldLink (pm_R 11) 86 (pm_R 11) (pm_T 11 34).2.1 (pm_T 11 34).2.2.1 ∈ lw_tbl := List.mem_of_getElem? (i := 1214) rfl
set_option maxRecDepth 100000 in
theorem pm_fl_11_89 : Cond.fieldLink (pm_R 11) 89 (pm_R 11) (pm_T 11 35).2.1 (pm_T 11 35).2.2.1 ∈ lw_tbl := List.mem_of_getElem? (i := 1215) rfl
set_option maxRecDepth 100000 in
theorem pm_fl_11_92 : Cond.fieldLink (pm_R 11) 92 (pm_R 11) (pm_T 11 36).2.1 (pm_T 11 36).2.2.1 ∈ lw_tbl := List.mem_of_getElem? (i := 1216) rfl
set_option maxRecDepth 100000 in
theorem pm_fl_11_95 : Cond.fieldLink (pm_R 11) 95 (pm_R 11) (pm_T 11 37).2.1 (pm_T 11 37).2.2.1 ∈ lw_tbl := List.mem_of_getElem? (i := 1217) rfl
set_option maxRecDepth 100000 in
theorem pm_fl_11_98 : Cond.fieldLink (pm_R 11) 98 (pm_R 11) (pm_T 11 38).2.1 (pm_T 11 38).2.2.1 ∈ lw_tbl := List.mem_of_getElem? (i := 1218) rfl
set_option maxRecDepth 100000 in
theorem pm_fl_11_101 : Cond.fieldLink (pm_R 11) 101 (pm_R 11) (pm_T 11 40).2.1 (pm_T 11 40).2.2.1 ∈ lw_tbl := List.mem_of_getElem? (i := 1220) rfl
set_option maxRecDepth 100000 in
theorem pm_fl_11_104 : Cond.fieldLink (pm_R 11) 104 (pm_R 11) (pm_T 11 41).2.1 (pm_T 11 41).2.2.1 ∈ lw_tbl := List.mem_of_getElem? (i := 1221) rfl
set_option maxRecDepth 100000 in
theorem pm_fl_11_107 : Cond.fieldLink (pm_R 11) 107 (pm_R 11) (pm_T 11 44).2.1 (pm_T 11 44).2.2.1 ∈ lw_tbl := List.mem_of_getElem? (i := 1224) rfl
set_option maxRecDepth 100000 in
theorem pm_fl_11_110 : Cond.fieldLink (pm_R 11) 110 (pm_R 11) (pm_T 11 45).2.1 (pm_T 11 45).2.2.1 ∈ lw_tbl := List.mem_of_getElem? (i := 1225) rfl
set_option maxRecDepth 100000 in
theorem pm_fl_11_113 : Cond.fieldLink (pm_R 11) 113 (pm_R 11) (pm_T 11 46).2.1 (pm_T 11 46).2.2.1 ∈ lw_tbl := List.mem_of_getElem? (i := 1226) rfl
set_option maxRecDepth 100000 in
theorem pm_fl_11_116 : Cond.fieldLink (pm_R 11) 116 (pm_R 11) (pm_T 11 47).2.1 (pm_T 11 47).2.2.1 ∈ lw_tbl := List.mem_of_getElem? (i := 1227) rfl
set_option maxRecDepth 100000 in
theorem pm_fl_11_119 : Cond.fieldLink (pm_R 11) 119 (pm_R 11) (pm_T 11 52).2.1 (pm_T 11 52).2.2.1 ∈ lw_tbl := List.mem_of_getElem? (i := 1232) rfl
set_option maxRecDepth 100000 in
theorem pm_fl_11_122 : Cond.fieldLink (pm_R 11) 122 (pm_R 11) (pm_T 11 53).2.1 (pm_T 11 53).2.2.1 ∈ lw_tbl := List.mem_of_getElem? (i := 1233) rfl
set_option maxRecDepth 100000 in
theorem pm_fl_11_125 : Cond.fieldLink (pm_R 11) 125 (pm_R 11) (pm_T 11 54).2.1 (pm_T 11 54).2.2.1 ∈ lw_tbl := List.mem_of_getElem? (i := 1234) rfl
set_option maxRecDepth 100000 in
theorem pm_fl_11_128 : Cond.fieldLink (pm_R 11) 128 (pm_R 11) (pm_T 11 58).2.1 (pm_T 11 58).2.2.1 ∈ lw_tbl := List.mem_of_getElem? (i := 1238) rfl
set_option maxRecDepth 100000 in
theorem pm_fl_11_131 : Cond.fieldLink (pm_R 11) 131 (pm_R 11) (pm_T 11 60).2.1 (pm_T 11 60).2.2.1 ∈ lw_tbl := List.mem_of_getElem? (i := 1240) rfl
set_option maxRecDepth 100000 in
theorem pm_fl_11_134 : Cond.fieldLink (pm_R 11) 134 (pm_R 11) (pm_T 11 61).2.1 (pm_T 11 61).2.2.1 ∈ lw_tbl := List.mem_of_getElem? (i := 1241) rfl
set_option maxRecDepth 100000 in
theorem pm_fl_11_137 : Cond.fieldLink (pm_R 11) 137 (pm_R 11) (pm_T 11 62).2.1 (pm_T 11 62).2.2.1 ∈ lw_tbl := List.mem_of_getElem? (i := 1242) rfl
set_option maxRecDepth 100000 in
theorem pm_fl_11_140 : Cond.fieldLink (pm_R 11) 140 (pm_R 11) (pm_T 11 63).2.1 (pm_T 11 63).2.2.1 ∈ lw_tbl := List.mem_of_getElem? (i := 1243) rfl
set_option maxRecDepth 100000 in
theorem pm_fl_11_143 : Cond.fieldLink (pm_R 11) 143 (pm_R 11) (pm_T 11 64).2.1 (pm_T 11 64).2.2.1 ∈ lw_tbl := List.mem_of_getElem? (i := 1244) rfl
set_option maxRecDepth 100000 in
theorem pm_fl_11_146 : Cond.fieldLink (pm_R 11) 146 (pm_R 11) (pm_T 11 65).2.1 (pm_T 11 65).2.2.1 ∈ lw_tbl := List.mem_of_getElem? (i := 1245) rfl
set_option maxRecDepth 100000 in
theorem pm_fl_11_149 : Cond.fieldLink (pm_R 11) 149 (pm_R 11) (pm_T 11 68).2.1 (pm_T 11 68).2.2.1 ∈ lw_tbl := List.mem_of_getElem? (i := 1248) rfl
set_option maxRecDepth 100000 in
theorem pm_fl_11_152 : Cond.fieldLink (pm_R 11) 152 (pm_R 11) (pm_T 11 69).2.1 (pm_T 11 69).2.2.1 ∈ lw_tbl := List.mem_of_getElem? (i := 1249) rfl
set_option maxRecDepth 100000 in
theorem pm_fl_11_155 : Cond.fieldLink (pm_R 11) 155 (pm_R 11) (pm_T 11 70).2.1 (pm_T 11 70).2.2.1 ∈ lw_tbl := List.mem_of_getElem? (i := 1250) rfl
set_option maxRecDepth 100000 in
theorem pm_fl_11_164 : Cond.fieldLink (pm_R 11) 164 (pm_R 11) (pm_T 11 3).2.1 (pm_T 11 3).2.2.1 ∈ lw_tbl := List.mem_of_getElem? (i := 1183) rfl
set_option maxRecDepth 100000 in
theorem pm_fl_11_167 : Cond.fieldLink (pm_R 11) 167 (pm_R 11) (pm_T 11 4).2.1 (pm_T 11 4).2.2.1 ∈ lw_tbl := List.mem_of_getElem? (i := 1184) rfl
set_option maxRecDepth 100000 in
theorem pm_fl_11_182 : Cond.fieldLink (pm_R 11) 182 (pm_R 11) (pm_T 11 7).2.1 (pm_T 11 7).2.2.1 ∈ lw_tbl := List.mem_of_getElem? (i := 1187) rfl
set_option maxRecDepth 100000 in
theorem pm_fl_11_185 : Cond.fieldLink (pm_R 11) 185 (pm_R 11) (pm_T 11 6).2.1 (pm_T 11 6).2.2.1 ∈ lw_tbl := List.mem_of_getElem? (i := 1186) rfl
set_option maxRecDepth 100000 in
theorem pm_fl_11_192 : Cond.fieldLink (pm_R 11) 192 (pm_R 11) (pm_T 11 8).2.1 (pm_T 11 8).2.2.1 ∈ lw_tbl := List.mem_of_getElem? (i := 1188) rfl
set_option maxRecDepth 100000 in
theorem pm_fl_11_199 : Cond.fieldLink (pm_R 11) 199 (pm_R 11) (pm_T 11 10).2.1 (pm_T 11 10).2.2.1 ∈ lw_tbl := List.mem_of_getElem? (i := 1190) rfl
set_option maxRecDepth 100000 in
theorem pm_fl_11_210 : Cond.fieldLink (pm_R 11) 210 (pm_R 11) (pm_T 11 9).2.1 (pm_T 11 9).2.2.1 ∈ lw_tbl := List.mem_of_getElem? (i := 1189) rfl
set_option maxRecDepth 100000 in
theorem pm_fl_11_227 : Cond.fieldLink (pm_R 11) 227 (pm_R 11) (pm_T 11 30).2.1 (pm_T 11 30).2.2.1 ∈ lw_tbl := List.mem_of_getElem? (i := 1210) rfl
set_option maxRecDepth 100000 in
theorem pm_fl_11_230 : Cond.fieldLink (pm_R 11) 230 (pm_R 11) (pm_T 11 2).2.1 (pm_T 11 2).2.2.1 ∈ lw_tbl := List.mem_of_getElem? (i := 1182) rfl
set_option maxRecDepth 100000 in
theorem pm_fl_11_233 : Cond.fieldLink (pm_R 11) 233 (pm_R 11) (pm_T 11 29).2.1 (pm_T 11 29).2.2.1 ∈ lw_tbl := List.mem_of_getElem? (i := 1209) rfl
set_option maxRecDepth 100000 in
theorem pm_fl_11_242 : Cond.fieldLink (pm_R 11) 242 (pm_R 11) (pm_T 11 51).2.1 (pm_T 11 51).2.2.1 ∈ lw_tbl := List.mem_of_getElem? (i := 1231) rfl
set_option maxRecDepth 100000 in
theorem pm_fl_11_245 : Cond.fieldLink (pm_R 11) 245 (pm_R 11) (pm_T 11 66).2.1 (pm_T 11 66).2.2.1 ∈ lw_tbl := List.mem_of_getElem? (i := 1246) rfl
set_option maxRecDepth 100000 in
theorem pm_fl_11_248 : Cond.fieldLink (pm_R 11) 248 (pm_R 11) (pm_T 11 59).2.1 (pm_T 11 59).2.2.1 ∈ lw_tbl := List.mem_of_getElem? (i := 1239) rfl
set_option maxRecDepth 100000 in
theorem pm_fl_11_336 : Cond.fieldLink (pm_R 11) 336 (pm_R 11) (pm_T 11 39).2.1 (pm_T 11 39).2.2.1 ∈ lw_tbl := List.mem_of_getElem? (i := 1219) rfl
set_option maxRecDepth 100000 in
theorem pm_fl_11_339 : Cond.fieldLink (pm_R 11) 339 (pm_R 11) (pm_T 11 42).2.1 (pm_T 11 42).2.2.1 ∈ lw_tbl := List.mem_of_getElem? (i := 1222) rfl
set_option maxRecDepth 100000 in
theorem pm_fl_11_342 : Cond.fieldLink (pm_R 11) 342 (pm_R 11) (pm_T 11 43).2.1 (pm_T 11 43).2.2.1 ∈ lw_tbl := List.mem_of_getElem? (i := 1223) rfl
set_option maxRecDepth 100000 in
theorem pm_fl_11_387 : Cond.fieldLink (pm_R 11) 387 (pm_R 11) (pm_T 11 50).2.1 (pm_T 11 50).2.2.1 ∈ lw_tbl := List.mem_of_getElem? (i := 1230) rfl
set_option maxRecDepth 100000 in
theorem pm_fl_11_390 : Cond.fieldLink (pm_R 11) 390 (pm_R 11) (pm_T 11 48).2.1 (pm_T 11 48).2.2.1 ∈ lw_tbl := List.mem_of_getElem? (i := 1228) rfl
set_option maxRecDepth 100000 in
theorem pm_fl_11_393 : Cond.fieldLink (pm_R 11) 393 (pm_R 11) (pm_T 11 49).2.1 (pm_T 11 49).2.2.1 ∈ lw_tbl := List.mem_of_getElem? (i := 1229) rfl
set_option maxRecDepth 100000 in
theorem pm_fl_11_409 : Cond.fieldLink (pm_R 11) 409 (pm_R 11) (pm_T 11 55).2.1 (pm_T 11 55).2.2.1 ∈ lw_tbl := List.mem_of_getElem? (i := 1235) rfl
set_option maxRecDepth 100000 in
theorem pm_fl_11_412 : Cond.fieldLink (pm_R 11) 412 (pm_R 11) (pm_T 11 56).2.1 (pm_T 11 56).2.2.1 ∈ lw_tbl := List.mem_of_getElem? (i := 1236) rfl
set_option maxRecDepth 100000 in
theorem pm_fl_11_415 : Cond.fieldLink (pm_R 11) 415 (pm_R 11) (pm_T 11 57).2.1 (pm_T 11 57).2.2.1 ∈ lw_tbl := List.mem_of_getElem? (i := 1237) rfl
set_option maxRecDepth 100000 in
theorem pm_fl_11_473 : Cond.fieldLink (pm_R 11) 473 (pm_R 11) (pm_T 11 67).2.1 (pm_T 11 67).2.2.1 ∈ lw_tbl := List.mem_of_getElem? (i := 1247) rfl
set_option maxRecDepth 100000 in
theorem pm_FL_ok : ∀ q ∈ pm_FL, Cond.fieldLink (pm_R q.1) q.2.1 (pm_R q.2.2.1) (pm_T q.2.2.1 q.2.2.2).2.1 (pm_T q.2.2.1 q.2.2.2).2.2.1 ∈ lw_tbl := (List.forall_mem_cons.mpr ⟨pm_fl_0_9, (List.forall_mem_cons.mpr ⟨pm_fl_0_15, (List.forall_mem_cons.mpr ⟨pm_fl_0_18, (List.forall_mem_cons.mpr ⟨pm_fl_0_22, (List.forall_mem_cons.mpr ⟨pm_fl_0_25, (List.forall_mem_cons.mpr ⟨pm_fl_0_28, (List.forall_mem_cons.mpr ⟨pm_fl_0_37, (List.forall_mem_cons.mpr ⟨pm_fl_0_44, (List.forall_mem_cons.mpr ⟨pm_fl_0_47, (List.forall_mem_cons.mpr ⟨pm_fl_1_9, (List.forall_mem_cons.mpr ⟨pm_fl_1_15, (List.forall_mem_cons.mpr ⟨pm_fl_1_18, (List.forall_mem_cons.mpr ⟨pm_fl_1_22, (List.forall_mem_cons.mpr ⟨pm_fl_1_28, (List.forall_mem_cons.mpr ⟨pm_fl_1_29, (List.forall_mem_cons.mpr ⟨pm_fl_1_36, (List.forall_mem_cons.mpr ⟨pm_fl_2_12, (List.forall_mem_cons.mpr ⟨pm_fl_2_21, (List.forall_mem_cons.mpr ⟨pm_fl_2_25, (List.forall_mem_cons.mpr ⟨pm_fl_2_29, (List.forall_mem_cons.mpr ⟨pm_fl_2_40, (List.forall_mem_cons.mpr ⟨pm_fl_2_44, (List.forall_mem_cons.mpr ⟨pm_fl_2_76, (List.forall_mem_cons.mpr ⟨pm_fl_2_83, (List.forall_mem_cons.mpr ⟨pm_fl_2_90, (List.forall_mem_cons.mpr ⟨pm_fl_2_97, (List.forall_mem_cons.mpr ⟨pm_fl_2_104, (List.forall_mem_cons.mpr ⟨pm_fl_2_111, (List.forall_mem_cons.mpr ⟨pm_fl_2_125, (List.forall_mem_cons.mpr ⟨pm_fl_2_129, (List.forall_mem_cons.mpr ⟨pm_fl_2_132, (List.forall_mem_cons.mpr ⟨pm_fl_2_135, (List.forall_mem_cons.mpr ⟨pm_fl_2_141, (List.forall_mem_cons.mpr ⟨pm_fl_2_144, (List.forall_mem_cons.mpr ⟨pm_fl_2_147, (List.forall_mem_cons.mpr ⟨pm_fl_2_150, (List.forall_mem_cons.mpr ⟨pm_fl_2_153, (List.forall_mem_cons.mpr ⟨pm_fl_2_157, (List.forall_mem_cons.mpr ⟨pm_fl_2_160, (List.forall_mem_cons.mpr ⟨pm_fl_2_163, (List.forall_mem_cons.mpr ⟨pm_fl_2_169, (List.forall_mem_cons.mpr ⟨pm_fl_3_9, (List.forall_mem_cons.mpr ⟨pm_fl_3_15, (List.forall_mem_cons.mpr ⟨pm_fl_3_18, (List.forall_mem_cons.mpr ⟨pm_fl_3_21, (List.forall_mem_cons.mpr ⟨pm_fl_3_25, (List.forall_mem_cons.mpr ⟨pm_fl_3_41, (List.forall_mem_cons.mpr ⟨pm_fl_3_52, (List.forall_mem_cons.mpr ⟨pm_fl_3_59, (List.forall_mem_cons.mpr ⟨pm_fl_3_66, (List.forall_mem_cons.mpr ⟨pm_fl_3_73, (List.forall_mem_cons.mpr ⟨pm_fl_3_82, (List.forall_mem_cons.mpr ⟨pm_fl_3_85, (List.forall_mem_cons.mpr ⟨pm_fl_3_91, (List.forall_mem_cons.mpr ⟨pm_fl_4_9, (List.forall_mem_cons.mpr ⟨pm_fl_4_15, (List.forall_mem_cons.mpr ⟨pm_fl_4_19, (List.forall_mem_cons.mpr ⟨pm_fl_4_23, (List.forall_mem_cons.mpr ⟨pm_fl_4_26, (List.forall_mem_cons.mpr ⟨pm_fl_4_29, (List.forall_mem_cons.mpr ⟨pm_fl_4_32, (List.forall_mem_cons.mpr ⟨pm_fl_4_35, (List.forall_mem_cons.mpr ⟨pm_fl_4_38, (List.forall_mem_cons.mpr ⟨pm_fl_4_41, (List.forall_mem_cons.mpr ⟨pm_fl_4_45, (List.forall_mem_cons.mpr ⟨pm_fl_4_48, (List.forall_mem_cons.mpr ⟨pm_fl_4_57, (List.forall_mem_cons.mpr ⟨pm_fl_4_60, (List.forall_mem_cons.mpr ⟨pm_fl_4_63, (List.forall_mem_cons.mpr ⟨pm_fl_4_67, (List.forall_mem_cons.mpr ⟨pm_fl_5_9, (List.forall_mem_cons.mpr ⟨pm_fl_5_15, (List.forall_mem_cons.mpr ⟨pm_fl_5_22, (List.forall_mem_cons.mpr ⟨pm_fl_5_28, (List.forall_mem_cons.mpr ⟨pm_fl_5_31, (List.forall_mem_cons.mpr ⟨pm_fl_5_48, (List.forall_mem_cons.mpr ⟨pm_fl_5_56, (List.forall_mem_cons.mpr ⟨pm_fl_5_59, (List.forall_mem_cons.mpr ⟨pm_fl_6_9, (List.forall_mem_cons.mpr ⟨pm_fl_6_15, (List.forall_mem_cons.mpr ⟨pm_fl_6_18, (List.forall_mem_cons.mpr ⟨pm_fl_6_22, (List.forall_mem_cons.mpr ⟨pm_fl_6_25, (List.forall_mem_cons.mpr ⟨pm_fl_6_28, (List.forall_mem_cons.mpr ⟨pm_fl_6_32, (List.forall_mem_cons.mpr ⟨pm_fl_7_9, (List.forall_mem_cons.mpr ⟨pm_fl_7_15, (List.forall_mem_cons.mpr ⟨pm_fl_7_18, (List.forall_mem_cons.mpr ⟨pm_fl_7_26, (List.forall_mem_cons.mpr ⟨pm_fl_7_31, (List.forall_mem_cons.mpr ⟨pm_fl_7_46, (List.forall_mem_cons.mpr ⟨pm_fl_7_49, (List.forall_mem_cons.mpr ⟨pm_fl_8_27, (List.forall_mem_cons.mpr ⟨pm_fl_8_31, (List.forall_mem_cons.mpr ⟨pm_fl_8_35, (List.forall_mem_cons.mpr ⟨pm_fl_8_54, (List.forall_mem_cons.mpr ⟨pm_fl_8_57, (List.forall_mem_cons.mpr ⟨pm_fl_8_60, (List.forall_mem_cons.mpr ⟨pm_fl_8_66, (List.forall_mem_cons.mpr ⟨pm_fl_8_69, (List.forall_mem_cons.mpr ⟨pm_fl_8_82, (List.forall_mem_cons.mpr ⟨pm_fl_8_86, (List.forall_mem_cons.mpr ⟨pm_fl_9_9, (List.forall_mem_cons.mpr ⟨pm_fl_9_15, (List.forall_mem_cons.mpr ⟨pm_fl_9_18, (List.forall_mem_cons.mpr ⟨pm_fl_9_21, (List.forall_mem_cons.mpr ⟨pm_fl_9_24, (List.forall_mem_cons.mpr ⟨pm_fl_9_28, (List.forall_mem_cons.mpr ⟨pm_fl_9_32, (List.forall_mem_cons.mpr ⟨pm_fl_9_35, (List.forall_mem_cons.mpr ⟨pm_fl_9_38, (List.forall_mem_cons.mpr ⟨pm_fl_9_43, (List.forall_mem_cons.mpr ⟨pm_fl_9_44, (List.forall_mem_cons.mpr ⟨pm_fl_9_61, (List.forall_mem_cons.mpr ⟨pm_fl_9_72, (List.forall_mem_cons.mpr ⟨pm_fl_10_9, (List.forall_mem_cons.mpr ⟨pm_fl_10_16, (List.forall_mem_cons.mpr ⟨pm_fl_10_23, (List.forall_mem_cons.mpr ⟨pm_fl_10_27, (List.forall_mem_cons.mpr ⟨pm_fl_10_33, (List.forall_mem_cons.mpr ⟨pm_fl_10_40, (List.forall_mem_cons.mpr ⟨pm_fl_10_47, (List.forall_mem_cons.mpr ⟨pm_fl_10_54, (List.forall_mem_cons.mpr ⟨pm_fl_10_61, (List.forall_mem_cons.mpr ⟨pm_fl_10_68, (List.forall_mem_cons.mpr ⟨pm_fl_10_72, (List.forall_mem_cons.mpr ⟨pm_fl_10_75, (List.forall_mem_cons.mpr ⟨pm_fl_10_81, (List.forall_mem_cons.mpr ⟨pm_fl_10_85, (List.forall_mem_cons.mpr ⟨pm_fl_10_89, (List.forall_mem_cons.mpr ⟨pm_fl_10_92, (List.forall_mem_cons.mpr ⟨pm_fl_10_107, (List.forall_mem_cons.mpr ⟨pm_fl_10_113, (List.forall_mem_cons.mpr ⟨pm_fl_10_122, (List.forall_mem_cons.mpr ⟨pm_fl_10_125, (List.forall_mem_cons.mpr ⟨pm_fl_10_128, (List.forall_mem_cons.mpr ⟨pm_fl_10_131, (List.forall_mem_cons.mpr ⟨pm_fl_10_135, (List.forall_mem_cons.mpr ⟨pm_fl_10_140, (List.forall_mem_cons.mpr ⟨pm_fl_10_150, (List.forall_mem_cons.mpr ⟨pm_fl_10_154, (List.forall_mem_cons.mpr ⟨pm_fl_10_164, (List.forall_mem_cons.mpr ⟨pm_fl_10_177, (List.forall_mem_cons.mpr ⟨pm_fl_10_194, (List.forall_mem_cons.mpr ⟨pm_fl_10_231, (List.forall_mem_cons.mpr ⟨pm_fl_10_238, (List.forall_mem_cons.mpr ⟨pm_fl_10_241, (List.forall_mem_cons.mpr ⟨pm_fl_10_273, (List.forall_mem_cons.mpr ⟨pm_fl_10_279, (List.forall_mem_cons.mpr ⟨pm_fl_10_282, (List.forall_mem_cons.mpr ⟨pm_fl_10_294, (List.forall_mem_cons.mpr ⟨pm_fl_10_310, (List.forall_mem_cons.mpr ⟨pm_fl_10_325, (List.forall_mem_cons.mpr ⟨pm_fl_10_328, (List.forall_mem_cons.mpr ⟨pm_fl_10_331, (List.forall_mem_cons.mpr ⟨pm_fl_10_334, (List.forall_mem_cons.mpr ⟨pm_fl_11_7, (List.forall_mem_cons.mpr ⟨pm_fl_11_13, (List.forall_mem_cons.mpr ⟨pm_fl_11_16, (List.forall_mem_cons.mpr ⟨pm_fl_11_20, (List.forall_mem_cons.mpr ⟨pm_fl_11_24, (List.forall_mem_cons.mpr ⟨pm_fl_11_27, (List.forall_mem_cons.mpr ⟨pm_fl_11_30, (List.forall_mem_cons.mpr ⟨pm_fl_11_33, (List.forall_mem_cons.mpr ⟨pm_fl_11_36, (List.forall_mem_cons.mpr ⟨pm_fl_11_39, (List.forall_mem_cons.mpr ⟨pm_fl_11_42, (List.forall_mem_cons.mpr ⟨pm_fl_11_45, (List.forall_mem_cons.mpr ⟨pm_fl_11_48, (List.forall_mem_cons.mpr ⟨pm_fl_11_51, (List.forall_mem_cons.mpr ⟨pm_fl_11_54, (List.forall_mem_cons.mpr ⟨pm_fl_11_57, (List.forall_mem_cons.mpr ⟨pm_fl_11_60, (List.forall_mem_cons.mpr ⟨pm_fl_11_64, (List.forall_mem_cons.mpr ⟨pm_fl_11_67, (List.forall_mem_cons.mpr ⟨pm_fl_11_71, (List.forall_mem_cons.mpr ⟨pm_fl_11_74, (List.forall_mem_cons.mpr ⟨pm_fl_11_77, (List.forall_mem_cons.mpr ⟨pm_fl_11_80, (List.forall_mem_cons.mpr ⟨pm_fl_11_83, (List.forall_mem_cons.mpr ⟨pm_fl_11_86, (List.forall_mem_cons.mpr ⟨pm_fl_11_89, (List.forall_mem_cons.mpr ⟨pm_fl_11_92, (List.forall_mem_cons.mpr ⟨pm_fl_11_95, (List.forall_mem_cons.mpr ⟨pm_fl_11_98, (List.forall_mem_cons.mpr ⟨pm_fl_11_101, (List.forall_mem_cons.mpr ⟨pm_fl_11_104, (List.forall_mem_cons.mpr ⟨pm_fl_11_107, (List.forall_mem_cons.mpr ⟨pm_fl_11_110, (List.forall_mem_cons.mpr ⟨pm_fl_11_113, (List.forall_mem_cons.mpr ⟨pm_fl_11_116, (List.forall_mem_cons.mpr ⟨pm_fl_11_119, (List.forall_mem_cons.mpr ⟨pm_fl_11_122, (List.forall_mem_cons.mpr ⟨pm_fl_11_125, (List.forall_mem_cons.mpr ⟨pm_fl_11_128, (List.forall_mem_cons.mpr ⟨pm_fl_11_131, (List.forall_mem_cons.mpr ⟨pm_fl_11_134, (List.forall_mem_cons.mpr ⟨pm_fl_11_137, (List.forall_mem_cons.mpr ⟨pm_fl_11_140, (List.forall_mem_cons.mpr ⟨pm_fl_11_143, (List.forall_mem_cons.mpr ⟨pm_fl_11_146, (List.forall_mem_cons.mpr ⟨pm_fl_11_149, (List.forall_mem_cons.mpr ⟨pm_fl_11_152, (List.forall_mem_cons.mpr ⟨pm_fl_11_155, (List.forall_mem_cons.mpr ⟨pm_fl_11_164, (List.forall_mem_cons.mpr ⟨pm_fl_11_167, (List.forall_mem_cons.mpr ⟨pm_fl_11_182, (List.forall_mem_cons.mpr ⟨pm_fl_11_185, (List.forall_mem_cons.mpr ⟨pm_fl_11_192, (List.forall_mem_cons.mpr ⟨pm_fl_11_199, (List.forall_mem_cons.mpr ⟨pm_fl_11_210, (List.forall_mem_cons.mpr ⟨pm_fl_11_227, (List.forall_mem_cons.mpr ⟨pm_fl_11_230, (List.forall_mem_cons.mpr ⟨pm_fl_11_233, (List.forall_mem_cons.mpr ⟨pm_fl_11_242, (List.forall_mem_cons.mpr ⟨pm_fl_11_245, (List.forall_mem_cons.mpr ⟨pm_fl_11_248, (List.forall_mem_cons.mpr ⟨pm_fl_11_336, (List.forall_mem_cons.mpr ⟨pm_fl_11_339, (List.forall_mem_cons.mpr ⟨pm_fl_11_342, (List.forall_mem_cons.mpr ⟨pm_fl_11_387, (List.forall_mem_cons.mpr ⟨pm_fl_11_390, (List.forall_mem_cons.mpr ⟨pm_fl_11_393, (List.forall_mem_cons.mpr ⟨pm_fl_11_409, (List.forall_mem_cons.mpr ⟨pm_fl_11_412, (List.forall_mem_cons.mpr ⟨pm_fl_11_415, (List.forall_mem_cons.mpr ⟨pm_fl_11_473, (fun _ h => absurd h List.not_mem_nil)⟩)⟩)⟩)⟩)⟩)⟩)⟩)⟩)⟩)⟩)⟩)⟩)⟩)⟩)⟩)⟩)⟩)⟩)⟩)⟩)⟩)⟩)⟩)⟩)⟩)⟩)⟩)⟩)⟩)⟩)⟩)⟩)⟩)⟩)⟩)⟩)⟩)⟩)⟩)⟩)⟩)⟩)⟩)⟩)⟩)⟩)⟩)⟩)⟩)⟩)⟩)⟩)⟩)⟩)⟩)⟩)⟩)⟩)⟩)⟩)⟩)⟩)⟩)⟩)⟩)⟩)⟩)⟩)⟩)⟩)⟩)⟩)⟩)⟩)⟩)⟩)⟩)⟩)⟩)⟩)⟩)⟩)⟩)⟩)⟩)⟩)⟩)⟩)⟩)⟩)⟩)⟩)⟩)⟩)⟩)⟩)⟩)⟩)⟩)⟩)⟩)⟩)⟩)⟩)⟩)⟩)⟩)⟩)⟩)⟩)⟩)⟩)⟩)⟩)⟩)⟩)⟩)⟩)⟩)⟩)⟩)⟩)⟩)⟩)⟩)⟩)⟩)⟩)⟩)⟩)⟩)⟩)⟩)⟩)⟩)⟩)⟩)⟩)⟩)⟩)⟩)⟩)⟩)⟩)⟩)⟩)⟩)⟩)⟩)⟩)⟩)⟩)⟩)⟩)⟩)⟩)⟩)⟩)⟩)⟩)⟩)⟩)⟩)⟩)⟩)⟩)⟩)⟩)⟩)⟩)⟩)⟩)⟩)⟩)⟩)⟩)⟩)⟩)⟩)⟩)⟩)⟩)⟩)⟩)⟩)⟩)⟩)⟩)⟩)⟩)⟩)⟩)⟩)⟩)⟩)⟩)⟩)⟩)⟩)⟩)⟩)⟩)⟩)⟩)⟩)⟩)⟩)⟩)⟩)⟩)⟩)⟩)⟩)⟩)⟩)⟩)⟩)⟩)⟩)⟩)⟩)⟩)⟩)⟩)⟩)⟩)⟩)
set_option maxRecDepth 100000 in
theorem pm_ml_0_31 : Cond.methodLink (pm_R 0) 31 yJ7_fill_53178 ∈ lw_tbl := List.mem_of_getElem? (i := 358) rfl
set_option maxRecDepth 100000 in
theorem pm_ml_0_41 : Cond.methodLink (pm_R 0) 41 yX0_forgetActs ∈ lw_tbl := List.mem_of_getElem? (i := 742) rfl
set_option maxRecDepth 100000 in
theorem pm_ml_0_50 : Cond.methodLink (pm_R 0) 50 yX0_note ∈ lw_tbl := List.mem_of_getElem? (i := 828) rfl
set_option maxRecDepth 100000 in
theorem pm_ml_0_54 : Cond.methodLink (pm_R 0) 54 yX0_doAgain ∈ lw_tbl := List.mem_of_getElem? (i := 836) rfl
set_option maxRecDepth 100000 in
theorem pm_ml_0_58 : Cond.methodLink (pm_R 0) 58 yX0_dropOldest ∈ lw_tbl := List.mem_of_getElem? (i := 832) rfl
set_option maxRecDepth 100000 in
theorem pm_ml_1_37 : Cond.methodLink (pm_R 1) 37 yX0_forgetActs ∈ lw_tbl := List.mem_of_getElem? (i := 1157) rfl
set_option maxRecDepth 100000 in
theorem pm_ml_2_33 : Cond.methodLink (pm_R 2) 33 yX4_empty ∈ lw_tbl := List.mem_of_getElem? (i := 636) rfl
set_option maxRecDepth 100000 in
theorem pm_ml_2_36 : Cond.methodLink (pm_R 2) 36 yX8_begin ∈ lw_tbl := List.mem_of_getElem? (i := 641) rfl
set_option maxRecDepth 100000 in
theorem pm_ml_2_47 : Cond.methodLink (pm_R 2) 47 yX2_readWord ∈ lw_tbl := List.mem_of_getElem? (i := 664) rfl
set_option maxRecDepth 100000 in
theorem pm_ml_2_51 : Cond.methodLink (pm_R 2) 51 yX2_readPair ∈ lw_tbl := List.mem_of_getElem? (i := 694) rfl
set_option maxRecDepth 100000 in
theorem pm_ml_2_54 : Cond.methodLink (pm_R 2) 54 yX2_readRule ∈ lw_tbl := List.mem_of_getElem? (i := 710) rfl
set_option maxRecDepth 100000 in
theorem pm_ml_2_57 : Cond.methodLink (pm_R 2) 57 yX2_readLength ∈ lw_tbl := List.mem_of_getElem? (i := 718) rfl
set_option maxRecDepth 100000 in
theorem pm_ml_2_60 : Cond.methodLink (pm_R 2) 60 yX2_readTurns ∈ lw_tbl := List.mem_of_getElem? (i := 722) rfl
set_option maxRecDepth 100000 in
theorem pm_ml_2_63 : Cond.methodLink (pm_R 2) 63 yX8_refuse ∈ lw_tbl := List.mem_of_getElem? (i := 676) rfl
set_option maxRecDepth 100000 in
theorem pm_ml_2_67 : Cond.methodLink (pm_R 2) 67 yX2_pass ∈ lw_tbl := List.mem_of_getElem? (i := 672) rfl
set_option maxRecDepth 100000 in
theorem pm_ml_2_70 : Cond.methodLink (pm_R 2) 70 yX2_bindParts ∈ lw_tbl := List.mem_of_getElem? (i := 726) rfl
set_option maxRecDepth 100000 in
theorem pm_ml_2_73 : Cond.methodLink (pm_R 2) 73 yX8_advance ∈ lw_tbl := List.mem_of_getElem? (i := 677) rfl
set_option maxRecDepth 100000 in
theorem pm_ml_2_79 : Cond.methodLink (pm_R 2) 79 yX2_passFirst ∈ lw_tbl := List.mem_of_getElem? (i := 668) rfl
set_option maxRecDepth 100000 in
theorem pm_ml_2_87 : Cond.methodLink (pm_R 2) 87 yX2_passNewName ∈ lw_tbl := List.mem_of_getElem? (i := 678) rfl
set_option maxRecDepth 100000 in
theorem pm_ml_2_93 : Cond.methodLink (pm_R 2) 93 yX2_readWorths ∈ lw_tbl := List.mem_of_getElem? (i := 686) rfl
set_option maxRecDepth 100000 in
theorem pm_ml_2_100 : Cond.methodLink (pm_R 2) 100 yX4_symbolOf ∈ lw_tbl := List.mem_of_getElem? (i := 682) rfl
set_option maxRecDepth 100000 in
theorem pm_ml_2_107 : Cond.methodLink (pm_R 2) 107 yX2_passNumber ∈ lw_tbl := List.mem_of_getElem? (i := 690) rfl
set_option maxRecDepth 100000 in
theorem pm_ml_2_114 : Cond.methodLink (pm_R 2) 114 yX2_symbolAtHand ∈ lw_tbl := List.mem_of_getElem? (i := 698) rfl
set_option maxRecDepth 100000 in
theorem pm_ml_2_118 : Cond.methodLink (pm_R 2) 118 yX2_passPairName ∈ lw_tbl := List.mem_of_getElem? (i := 702) rfl
set_option maxRecDepth 100000 in
theorem pm_ml_2_122 : Cond.methodLink (pm_R 2) 122 yX4_hasWord ∈ lw_tbl := List.mem_of_getElem? (i := 706) rfl
set_option maxRecDepth 100000 in
theorem pm_ml_2_138 : Cond.methodLink (pm_R 2) 138 yX2_readAlt ∈ lw_tbl := List.mem_of_getElem? (i := 714) rfl
set_option maxRecDepth 100000 in
theorem pm_ml_2_166 : Cond.methodLink (pm_R 2) 166 yX2_bindAlt ∈ lw_tbl := List.mem_of_getElem? (i := 730) rfl
set_option maxRecDepth 100000 in
theorem pm_ml_3_37 : Cond.methodLink (pm_R 3) 37 yX3_endOf ∈ lw_tbl := List.mem_of_getElem? (i := 1023) rfl
set_option maxRecDepth 100000 in
theorem pm_ml_3_44 : Cond.methodLink (pm_R 3) 44 yX3_clearResults ∈ lw_tbl := List.mem_of_getElem? (i := 957) rfl
set_option maxRecDepth 100000 in
theorem pm_ml_3_48 : Cond.methodLink (pm_R 3) 48 yX9_isCharter ∈ lw_tbl := List.mem_of_getElem? (i := 961) rfl
set_option maxRecDepth 100000 in
theorem pm_ml_3_55 : Cond.methodLink (pm_R 3) 55 yX3_offer ∈ lw_tbl := List.mem_of_getElem? (i := 965) rfl
set_option maxRecDepth 100000 in
theorem pm_ml_3_62 : Cond.methodLink (pm_R 3) 62 yX3_worthTo ∈ lw_tbl := List.mem_of_getElem? (i := 969) rfl
set_option maxRecDepth 100000 in
theorem pm_ml_3_69 : Cond.methodLink (pm_R 3) 69 yX3_isBribed ∈ lw_tbl := List.mem_of_getElem? (i := 973) rfl
set_option maxRecDepth 100000 in
theorem pm_ml_3_88 : Cond.methodLink (pm_R 3) 88 yX9_wordAt ∈ lw_tbl := List.mem_of_getElem? (i := 977) rfl
set_option maxRecDepth 100000 in
theorem pm_ml_3_94 : Cond.methodLink (pm_R 3) 94 yX3_meansMore ∈ lw_tbl := List.mem_of_getElem? (i := 1024) rfl
set_option maxRecDepth 100000 in
theorem pm_ml_3_99 : Cond.methodLink (pm_R 3) 99 yX3_sumOf ∈ lw_tbl := List.mem_of_getElem? (i := 996) rfl
set_option maxRecDepth 100000 in
theorem pm_ml_3_102 : Cond.methodLink (pm_R 3) 102 yX3_better ∈ lw_tbl := List.mem_of_getElem? (i := 999) rfl
set_option maxRecDepth 100000 in
theorem pm_ml_4_51 : Cond.methodLink (pm_R 4) 51 yJ7_fill_53178 ∈ lw_tbl := List.mem_of_getElem? (i := 640) rfl
set_option maxRecDepth 100000 in
theorem pm_ml_4_70 : Cond.methodLink (pm_R 4) 70 yX4_meaningBehind ∈ lw_tbl := List.mem_of_getElem? (i := 905) rfl
set_option maxRecDepth 100000 in
theorem pm_ml_4_74 : Cond.methodLink (pm_R 4) 74 yX4_sizeOfAlt ∈ lw_tbl := List.mem_of_getElem? (i := 1043) rfl
set_option maxRecDepth 100000 in
theorem pm_ml_4_78 : Cond.methodLink (pm_R 4) 78 yX4_rulesNextTo ∈ lw_tbl := List.mem_of_getElem? (i := 1051) rfl
set_option maxRecDepth 100000 in
theorem pm_ml_5_18 : Cond.methodLink (pm_R 5) 18 yX5_fillColumn ∈ lw_tbl := List.mem_of_getElem? (i := 803) rfl
set_option maxRecDepth 100000 in
theorem pm_ml_5_44 : Cond.methodLink (pm_R 5) 44 yX5_beginColumn ∈ lw_tbl := List.mem_of_getElem? (i := 807) rfl
set_option maxRecDepth 100000 in
theorem pm_ml_5_52 : Cond.methodLink (pm_R 5) 52 yX5_startsOfAlt ∈ lw_tbl := List.mem_of_getElem? (i := 812) rfl
set_option maxRecDepth 100000 in
theorem pm_ml_6_35 : Cond.methodLink (pm_R 6) 35 yX9_wordAt ∈ lw_tbl := List.mem_of_getElem? (i := 1139) rfl
set_option maxRecDepth 100000 in
theorem pm_ml_7_22 : Cond.methodLink (pm_R 7) 22 yX7_fillColumn ∈ lw_tbl := List.mem_of_getElem? (i := 885) rfl
set_option maxRecDepth 100000 in
theorem pm_ml_7_34 : Cond.methodLink (pm_R 7) 34 yX7_waysOfAlt ∈ lw_tbl := List.mem_of_getElem? (i := 889) rfl
set_option maxRecDepth 100000 in
theorem pm_ml_8_63 : Cond.methodLink (pm_R 8) 63 yX8_advance ∈ lw_tbl := List.mem_of_getElem? (i := 648) rfl
set_option maxRecDepth 100000 in
theorem pm_ml_8_72 : Cond.methodLink (pm_R 8) 72 yX8_takeLetters ∈ lw_tbl := List.mem_of_getElem? (i := 652) rfl
set_option maxRecDepth 100000 in
theorem pm_ml_8_75 : Cond.methodLink (pm_R 8) 75 yX8_takeDigits ∈ lw_tbl := List.mem_of_getElem? (i := 656) rfl
set_option maxRecDepth 100000 in
theorem pm_ml_8_78 : Cond.methodLink (pm_R 8) 78 yX8_refuse ∈ lw_tbl := List.mem_of_getElem? (i := 660) rfl
set_option maxRecDepth 100000 in
theorem pm_ml_9_47 : Cond.methodLink (pm_R 9) 47 yX9_addRoot ∈ lw_tbl := List.mem_of_getElem? (i := 921) rfl
set_option maxRecDepth 100000 in
theorem pm_ml_9_51 : Cond.methodLink (pm_R 9) 51 yX5_readBeginning ∈ lw_tbl := List.mem_of_getElem? (i := 926) rfl
set_option maxRecDepth 100000 in
theorem pm_ml_9_57 : Cond.methodLink (pm_R 9) 57 yX9_grow ∈ lw_tbl := List.mem_of_getElem? (i := 927) rfl
set_option maxRecDepth 100000 in
theorem pm_ml_9_64 : Cond.methodLink (pm_R 9) 64 yX4_meaningOf ∈ lw_tbl := List.mem_of_getElem? (i := 925) rfl
set_option maxRecDepth 100000 in
theorem pm_ml_9_68 : Cond.methodLink (pm_R 9) 68 yX5_nextWords ∈ lw_tbl := List.mem_of_getElem? (i := 931) rfl
set_option maxRecDepth 100000 in
theorem pm_ml_9_75 : Cond.methodLink (pm_R 9) 75 yX9_add ∈ lw_tbl := List.mem_of_getElem? (i := 932) rfl
set_option maxRecDepth 100000 in
theorem pm_ml_9_79 : Cond.methodLink (pm_R 9) 79 yX9_growBehind ∈ lw_tbl := List.mem_of_getElem? (i := 937) rfl
set_option maxRecDepth 100000 in
theorem pm_ml_9_83 : Cond.methodLink (pm_R 9) 83 yX5_goOn ∈ lw_tbl := List.mem_of_getElem? (i := 941) rfl
set_option maxRecDepth 100000 in
theorem pm_ml_9_87 : Cond.methodLink (pm_R 9) 87 yX4_meaningBehind ∈ lw_tbl := List.mem_of_getElem? (i := 936) rfl
set_option maxRecDepth 100000 in
theorem pm_ml_9_91 : Cond.methodLink (pm_R 9) 91 yX9_wordAt ∈ lw_tbl := List.mem_of_getElem? (i := 1072) rfl
set_option maxRecDepth 100000 in
theorem pm_ml_10_96 : Cond.methodLink (pm_R 10) 96 yX10_tapeNumber ∈ lw_tbl := List.mem_of_getElem? (i := 620) rfl
set_option maxRecDepth 100000 in
theorem pm_ml_10_100 : Cond.methodLink (pm_R 10) 100 yX2_readsInto ∈ lw_tbl := List.mem_of_getElem? (i := 632) rfl
set_option maxRecDepth 100000 in
theorem pm_ml_10_104 : Cond.methodLink (pm_R 10) 104 yX10_forgetOldPort ∈ lw_tbl := List.mem_of_getElem? (i := 734) rfl
set_option maxRecDepth 100000 in
theorem pm_ml_10_110 : Cond.methodLink (pm_R 10) 110 yX0_empty ∈ lw_tbl := List.mem_of_getElem? (i := 738) rfl
set_option maxRecDepth 100000 in
theorem pm_ml_10_117 : Cond.methodLink (pm_R 10) 117 yX7_forget ∈ lw_tbl := List.mem_of_getElem? (i := 746) rfl
set_option maxRecDepth 100000 in
theorem pm_ml_10_120 : Cond.methodLink (pm_R 10) 120 yX9_forget ∈ lw_tbl := List.mem_of_getElem? (i := 750) rfl
set_option maxRecDepth 100000 in
theorem pm_ml_10_121 : Cond.methodLink (pm_R 10) 121 yX3_forget ∈ lw_tbl := List.mem_of_getElem? (i := 754) rfl
set_option maxRecDepth 100000 in
theorem pm_ml_10_143 : Cond.methodLink (pm_R 10) 143 yX4_hasWord ∈ lw_tbl := List.mem_of_getElem? (i := 766) rfl
set_option maxRecDepth 100000 in
theorem pm_ml_10_147 : Cond.methodLink (pm_R 10) 147 yX10_isGuild ∈ lw_tbl := List.mem_of_getElem? (i := 767) rfl
set_option maxRecDepth 100000 in
theorem pm_ml_10_157 : Cond.methodLink (pm_R 10) 157 yX4_hasPlace ∈ lw_tbl := List.mem_of_getElem? (i := 779) rfl
set_option maxRecDepth 100000 in
theorem pm_ml_10_160 : Cond.methodLink (pm_R 10) 160 yX10_ownerInEarnest ∈ lw_tbl := List.mem_of_getElem? (i := 783) rfl
set_option maxRecDepth 100000 in
theorem pm_ml_10_167 : Cond.methodLink (pm_R 10) 167 yX4_turnAt ∈ lw_tbl := List.mem_of_getElem? (i := 787) rfl
set_option maxRecDepth 100000 in
theorem pm_ml_10_170 : Cond.methodLink (pm_R 10) 170 yX10_nextInEarnest ∈ lw_tbl := List.mem_of_getElem? (i := 795) rfl
set_option maxRecDepth 100000 in
theorem pm_ml_10_174 : Cond.methodLink (pm_R 10) 174 yX0_putWord ∈ lw_tbl := List.mem_of_getElem? (i := 824) rfl
set_option maxRecDepth 100000 in
theorem pm_ml_10_180 : Cond.methodLink (pm_R 10) 180 yX10_isUnwritten ∈ lw_tbl := List.mem_of_getElem? (i := 844) rfl
set_option maxRecDepth 100000 in
theorem pm_ml_10_183 : Cond.methodLink (pm_R 10) 183 yX0_putSale ∈ lw_tbl := List.mem_of_getElem? (i := 848) rfl
set_option maxRecDepth 100000 in
theorem pm_ml_10_187 : Cond.methodLink (pm_R 10) 187 yX0_takeBack ∈ lw_tbl := List.mem_of_getElem? (i := 856) rfl
set_option maxRecDepth 100000 in
theorem pm_ml_10_191 : Cond.methodLink (pm_R 10) 191 yX0_doAgain ∈ lw_tbl := List.mem_of_getElem? (i := 864) rfl
set_option maxRecDepth 100000 in
theorem pm_ml_10_197 : Cond.methodLink (pm_R 10) 197 yX5_readBeginning ∈ lw_tbl := List.mem_of_getElem? (i := 799) rfl
set_option maxRecDepth 100000 in
theorem pm_ml_10_201 : Cond.methodLink (pm_R 10) 201 yX5_nextWords ∈ lw_tbl := List.mem_of_getElem? (i := 817) rfl
set_option maxRecDepth 100000 in
theorem pm_ml_10_205 : Cond.methodLink (pm_R 10) 205 yX7_countOf ∈ lw_tbl := List.mem_of_getElem? (i := 881) rfl
set_option maxRecDepth 100000 in
theorem pm_ml_10_209 : Cond.methodLink (pm_R 10) 209 yX4_meaningOf ∈ lw_tbl := List.mem_of_getElem? (i := 901) rfl
set_option maxRecDepth 100000 in
theorem pm_ml_10_213 : Cond.methodLink (pm_R 10) 213 yX10_growEarnest ∈ lw_tbl := List.mem_of_getElem? (i := 913) rfl
set_option maxRecDepth 100000 in
theorem pm_ml_10_217 : Cond.methodLink (pm_R 10) 217 yX9_hasCharters ∈ lw_tbl := List.mem_of_getElem? (i := 945) rfl
set_option maxRecDepth 100000 in
theorem pm_ml_10_220 : Cond.methodLink (pm_R 10) 220 yX10_ownAsInEarnest ∈ lw_tbl := List.mem_of_getElem? (i := 949) rfl
set_option maxRecDepth 100000 in
theorem pm_ml_10_223 : Cond.methodLink (pm_R 10) 223 yX3_endOf ∈ lw_tbl := List.mem_of_getElem? (i := 953) rfl
set_option maxRecDepth 100000 in
theorem pm_ml_10_227 : Cond.methodLink (pm_R 10) 227 yX10_lay ∈ lw_tbl := List.mem_of_getElem? (i := 982) rfl
set_option maxRecDepth 100000 in
theorem pm_ml_10_234 : Cond.methodLink (pm_R 10) 234 yX9_growFrom ∈ lw_tbl := List.mem_of_getElem? (i := 917) rfl
set_option maxRecDepth 100000 in
theorem pm_ml_10_244 : Cond.methodLink (pm_R 10) 244 yX9_wordAt ∈ lw_tbl := List.mem_of_getElem? (i := 986) rfl
set_option maxRecDepth 100000 in
theorem pm_ml_10_248 : Cond.methodLink (pm_R 10) 248 yX3_heldBy ∈ lw_tbl := List.mem_of_getElem? (i := 991) rfl
set_option maxRecDepth 100000 in
theorem pm_ml_10_252 : Cond.methodLink (pm_R 10) 252 yX10_sixShares ∈ lw_tbl := List.mem_of_getElem? (i := 1009) rfl
set_option maxRecDepth 100000 in
theorem pm_ml_10_258 : Cond.methodLink (pm_R 10) 258 yX3_firstSwap ∈ lw_tbl := List.mem_of_getElem? (i := 1019) rfl
set_option maxRecDepth 100000 in
theorem pm_ml_10_261 : Cond.methodLink (pm_R 10) 261 yX3_leastBribe ∈ lw_tbl := List.mem_of_getElem? (i := 1031) rfl
set_option maxRecDepth 100000 in
theorem pm_ml_10_265 : Cond.methodLink (pm_R 10) 265 yX4_findShortest ∈ lw_tbl := List.mem_of_getElem? (i := 1039) rfl
set_option maxRecDepth 100000 in
theorem pm_ml_10_269 : Cond.methodLink (pm_R 10) 269 yX4_rulesOfUse ∈ lw_tbl := List.mem_of_getElem? (i := 1047) rfl
set_option maxRecDepth 100000 in
theorem pm_ml_10_276 : Cond.methodLink (pm_R 10) 276 yX10_growWhole ∈ lw_tbl := List.mem_of_getElem? (i := 1063) rfl
set_option maxRecDepth 100000 in
theorem pm_ml_10_283 : Cond.methodLink (pm_R 10) 283 yX9_isCharter ∈ lw_tbl := List.mem_of_getElem? (i := 1067) rfl
set_option maxRecDepth 100000 in
theorem pm_ml_10_286 : Cond.methodLink (pm_R 10) 286 yX9_wordsInto ∈ lw_tbl := List.mem_of_getElem? (i := 1068) rfl
set_option maxRecDepth 100000 in
theorem pm_ml_10_290 : Cond.methodLink (pm_R 10) 290 yX3_findLotEnds ∈ lw_tbl := List.mem_of_getElem? (i := 1077) rfl
set_option maxRecDepth 100000 in
theorem pm_ml_10_297 : Cond.methodLink (pm_R 10) 297 yX10_growHoles ∈ lw_tbl := List.mem_of_getElem? (i := 1090) rfl
set_option maxRecDepth 100000 in
theorem pm_ml_10_300 : Cond.methodLink (pm_R 10) 300 yX0_rowWithout ∈ lw_tbl := List.mem_of_getElem? (i := 1102) rfl
set_option maxRecDepth 100000 in
theorem pm_ml_10_304 : Cond.methodLink (pm_R 10) 304 yX6_tell ∈ lw_tbl := List.mem_of_getElem? (i := 1114) rfl
set_option maxRecDepth 100000 in
theorem pm_ml_10_308 : Cond.methodLink (pm_R 10) 308 yX6_takeBack ∈ lw_tbl := List.mem_of_getElem? (i := 1122) rfl
set_option maxRecDepth 100000 in
theorem pm_ml_10_314 : Cond.methodLink (pm_R 10) 314 yX6_agree ∈ lw_tbl := List.mem_of_getElem? (i := 1135) rfl
set_option maxRecDepth 100000 in
theorem pm_ml_10_318 : Cond.methodLink (pm_R 10) 318 yX1_keep ∈ lw_tbl := List.mem_of_getElem? (i := 1144) rfl
set_option maxRecDepth 100000 in
theorem pm_ml_10_322 : Cond.methodLink (pm_R 10) 322 yX1_giveBack ∈ lw_tbl := List.mem_of_getElem? (i := 1153) rfl
set_option maxRecDepth 100000 in
theorem pm_ml_11_158 : Cond.methodLink (pm_R 11) 158 yX11_clearBank ∈ lw_tbl := List.mem_of_getElem? (i := 1168) rfl
set_option maxRecDepth 100000 in
theorem pm_ml_11_161 : Cond.methodLink (pm_R 11) 161 yX11_begin ∈ lw_tbl := List.mem_of_getElem? (i := 1172) rfl
set_option maxRecDepth 100000 in
theorem pm_ml_11_188 : Cond.methodLink (pm_R 11) 188 yX11_sign ∈ lw_tbl := List.mem_of_getElem? (i := 1402) rfl
set_option maxRecDepth 100000 in
theorem pm_ml_11_195 : Cond.methodLink (pm_R 11) 195 yX11_isLetter ∈ lw_tbl := List.mem_of_getElem? (i := 1406) rfl
set_option maxRecDepth 100000 in
theorem pm_ml_11_203 : Cond.methodLink (pm_R 11) 203 yX11_isKept ∈ lw_tbl := List.mem_of_getElem? (i := 1409) rfl
set_option maxRecDepth 100000 in
theorem pm_ml_11_207 : Cond.methodLink (pm_R 11) 207 yX11_isDigit ∈ lw_tbl := List.mem_of_getElem? (i := 1418) rfl
set_option maxRecDepth 100000 in
theorem pm_ml_11_213 : Cond.methodLink (pm_R 11) 213 yX11_fails ∈ lw_tbl := List.mem_of_getElem? (i := 1441) rfl
set_option maxRecDepth 100000 in
theorem pm_ml_11_217 : Cond.methodLink (pm_R 11) 217 yX11_isGood ∈ lw_tbl := List.mem_of_getElem? (i := 1421) rfl
set_option maxRecDepth 100000 in
theorem pm_ml_11_221 : Cond.methodLink (pm_R 11) 221 yX11_goOn ∈ lw_tbl := List.mem_of_getElem? (i := 1398) rfl
set_option maxRecDepth 100000 in
theorem pm_ml_11_224 : Cond.methodLink (pm_R 11) 224 yX11_misplaced ∈ lw_tbl := List.mem_of_getElem? (i := 1437) rfl
set_option maxRecDepth 100000 in
theorem pm_ml_11_236 : Cond.methodLink (pm_R 11) 236 yX11_readLine ∈ lw_tbl := List.mem_of_getElem? (i := 1425) rfl
set_option maxRecDepth 100000 in
theorem pm_ml_11_239 : Cond.methodLink (pm_R 11) 239 yX11_settle ∈ lw_tbl := List.mem_of_getElem? (i := 1493) rfl
set_option maxRecDepth 100000 in
theorem pm_ml_11_251 : Cond.methodLink (pm_R 11) 251 yX11_isWord ∈ lw_tbl := List.mem_of_getElem? (i := 1433) rfl
set_option maxRecDepth 100000 in
theorem pm_ml_11_254 : Cond.methodLink (pm_R 11) 254 yX11_isFull ∈ lw_tbl := List.mem_of_getElem? (i := 1429) rfl
set_option maxRecDepth 100000 in
theorem pm_ml_11_257 : Cond.methodLink (pm_R 11) 257 yX11_readWord ∈ lw_tbl := List.mem_of_getElem? (i := 1445) rfl
set_option maxRecDepth 100000 in
theorem pm_ml_11_260 : Cond.methodLink (pm_R 11) 260 yX11_readPair ∈ lw_tbl := List.mem_of_getElem? (i := 1465) rfl
set_option maxRecDepth 100000 in
theorem pm_ml_11_263 : Cond.methodLink (pm_R 11) 263 yX11_readRule ∈ lw_tbl := List.mem_of_getElem? (i := 1473) rfl
set_option maxRecDepth 100000 in
theorem pm_ml_11_266 : Cond.methodLink (pm_R 11) 266 yX11_numeral ∈ lw_tbl := List.mem_of_getElem? (i := 1461) rfl
set_option maxRecDepth 100000 in
theorem pm_ml_11_270 : Cond.methodLink (pm_R 11) 270 yX11_readTurns ∈ lw_tbl := List.mem_of_getElem? (i := 1489) rfl
set_option maxRecDepth 100000 in
theorem pm_ml_11_273 : Cond.methodLink (pm_R 11) 273 yX11_isSignHere ∈ lw_tbl := List.mem_of_getElem? (i := 1477) rfl
set_option maxRecDepth 100000 in
theorem pm_ml_11_276 : Cond.methodLink (pm_R 11) 276 yX11_must ∈ lw_tbl := List.mem_of_getElem? (i := 1481) rfl
set_option maxRecDepth 100000 in
theorem pm_ml_11_280 : Cond.methodLink (pm_R 11) 280 yX11_wordOf ∈ lw_tbl := List.mem_of_getElem? (i := 1453) rfl
set_option maxRecDepth 100000 in
theorem pm_ml_11_284 : Cond.methodLink (pm_R 11) 284 yX11_ruleOf ∈ lw_tbl := List.mem_of_getElem? (i := 1457) rfl
set_option maxRecDepth 100000 in
theorem pm_ml_11_287 : Cond.methodLink (pm_R 11) 287 yX11_fresh ∈ lw_tbl := List.mem_of_getElem? (i := 1449) rfl
set_option maxRecDepth 100000 in
theorem pm_ml_11_291 : Cond.methodLink (pm_R 11) 291 yX11_known ∈ lw_tbl := List.mem_of_getElem? (i := 1469) rfl
set_option maxRecDepth 100000 in
theorem pm_ml_11_295 : Cond.methodLink (pm_R 11) 295 yX11_readAlt ∈ lw_tbl := List.mem_of_getElem? (i := 1485) rfl
set_option maxRecDepth 100000 in
theorem pm_ml_11_298 : Cond.methodLink (pm_R 11) 298 yX11_isIn ∈ lw_tbl := List.mem_of_getElem? (i := 1509) rfl
set_option maxRecDepth 100000 in
theorem pm_ml_11_302 : Cond.methodLink (pm_R 11) 302 yX11_longOf ∈ lw_tbl := List.mem_of_getElem? (i := 1532) rfl
set_option maxRecDepth 100000 in
theorem pm_ml_11_305 : Cond.methodLink (pm_R 11) 305 yX11_isWordOf ∈ lw_tbl := List.mem_of_getElem? (i := 1505) rfl
set_option maxRecDepth 100000 in
theorem pm_ml_11_308 : Cond.methodLink (pm_R 11) 308 yX11_isGuild ∈ lw_tbl := List.mem_of_getElem? (i := 1512) rfl
set_option maxRecDepth 100000 in
theorem pm_ml_11_312 : Cond.methodLink (pm_R 11) 312 yX11_pairOf ∈ lw_tbl := List.mem_of_getElem? (i := 1520) rfl
set_option maxRecDepth 100000 in
theorem pm_ml_11_316 : Cond.methodLink (pm_R 11) 316 yX11_endsBy ∈ lw_tbl := List.mem_of_getElem? (i := 1568) rfl
set_option maxRecDepth 100000 in
theorem pm_ml_11_319 : Cond.methodLink (pm_R 11) 319 yX11_doesRead ∈ lw_tbl := List.mem_of_getElem? (i := 1564) rfl
set_option maxRecDepth 100000 in
theorem pm_ml_11_322 : Cond.methodLink (pm_R 11) 322 yX11_layEnds ∈ lw_tbl := List.mem_of_getElem? (i := 1560) rfl
set_option maxRecDepth 100000 in
theorem pm_ml_11_326 : Cond.methodLink (pm_R 11) 326 yX11_waysBy ∈ lw_tbl := List.mem_of_getElem? (i := 1580) rfl
set_option maxRecDepth 100000 in
theorem pm_ml_11_330 : Cond.methodLink (pm_R 11) 330 yX11_atMost ∈ lw_tbl := List.mem_of_getElem? (i := 1584) rfl
set_option maxRecDepth 100000 in
theorem pm_ml_11_345 : Cond.methodLink (pm_R 11) 345 yX11_toldTurn ∈ lw_tbl := List.mem_of_getElem? (i := 1176) rfl
set_option maxRecDepth 100000 in
theorem pm_ml_11_348 : Cond.methodLink (pm_R 11) 348 yX11_isRead ∈ lw_tbl := List.mem_of_getElem? (i := 1556) rfl
set_option maxRecDepth 100000 in
theorem pm_ml_11_351 : Cond.methodLink (pm_R 11) 351 yX11_tryRow ∈ lw_tbl := List.mem_of_getElem? (i := 1548) rfl
set_option maxRecDepth 100000 in
theorem pm_ml_11_354 : Cond.methodLink (pm_R 11) 354 yX11_canGoOn ∈ lw_tbl := List.mem_of_getElem? (i := 1552) rfl
set_option maxRecDepth 100000 in
theorem pm_ml_11_357 : Cond.methodLink (pm_R 11) 357 yX11_isPlace ∈ lw_tbl := List.mem_of_getElem? (i := 1528) rfl
set_option maxRecDepth 100000 in
theorem pm_ml_11_360 : Cond.methodLink (pm_R 11) 360 yX11_canCome ∈ lw_tbl := List.mem_of_getElem? (i := 1544) rfl
set_option maxRecDepth 100000 in
theorem pm_ml_11_363 : Cond.methodLink (pm_R 11) 363 yX11_readingsOf ∈ lw_tbl := List.mem_of_getElem? (i := 1576) rfl
set_option maxRecDepth 100000 in
theorem pm_ml_11_367 : Cond.methodLink (pm_R 11) 367 yX11_meansOf ∈ lw_tbl := List.mem_of_getElem? (i := 1592) rfl
set_option maxRecDepth 100000 in
theorem pm_ml_11_370 : Cond.methodLink (pm_R 11) 370 yX11_keepAct ∈ lw_tbl := List.mem_of_getElem? (i := 1600) rfl
set_option maxRecDepth 100000 in
theorem pm_ml_11_373 : Cond.methodLink (pm_R 11) 373 yX11_exchange ∈ lw_tbl := List.mem_of_getElem? (i := 1612) rfl
set_option maxRecDepth 100000 in
theorem pm_ml_11_380 : Cond.methodLink (pm_R 11) 380 yX11_wordIn ∈ lw_tbl := List.mem_of_getElem? (i := 1678) rfl
set_option maxRecDepth 100000 in
theorem pm_ml_11_383 : Cond.methodLink (pm_R 11) 383 yX11_keyOf ∈ lw_tbl := List.mem_of_getElem? (i := 1640) rfl
set_option maxRecDepth 100000 in
theorem pm_ml_11_396 : Cond.methodLink (pm_R 11) 396 yX11_isOnPath ∈ lw_tbl := List.mem_of_getElem? (i := 1646) rfl
set_option maxRecDepth 100000 in
theorem pm_ml_11_399 : Cond.methodLink (pm_R 11) 399 yX11_takeCharter ∈ lw_tbl := List.mem_of_getElem? (i := 1650) rfl
set_option maxRecDepth 100000 in
theorem pm_ml_11_402 : Cond.methodLink (pm_R 11) 402 yX11_packed ∈ lw_tbl := List.mem_of_getElem? (i := 1654) rfl
set_option maxRecDepth 100000 in
theorem pm_ml_11_405 : Cond.methodLink (pm_R 11) 405 yX11_layList ∈ lw_tbl := List.mem_of_getElem? (i := 1636) rfl
set_option maxRecDepth 100000 in
theorem pm_ml_11_418 : Cond.methodLink (pm_R 11) 418 yX11_gain ∈ lw_tbl := List.mem_of_getElem? (i := 1674) rfl
set_option maxRecDepth 100000 in
theorem pm_ml_11_421 : Cond.methodLink (pm_R 11) 421 yX11_gainOf ∈ lw_tbl := List.mem_of_getElem? (i := 1682) rfl
set_option maxRecDepth 100000 in
theorem pm_ml_11_424 : Cond.methodLink (pm_R 11) 424 yX11_areGrouped ∈ lw_tbl := List.mem_of_getElem? (i := 1666) rfl
set_option maxRecDepth 100000 in
theorem pm_ml_11_427 : Cond.methodLink (pm_R 11) 427 yX11_isBetter ∈ lw_tbl := List.mem_of_getElem? (i := 1670) rfl
set_option maxRecDepth 100000 in
theorem pm_ml_11_431 : Cond.methodLink (pm_R 11) 431 yX11_orderTurn ∈ lw_tbl := List.mem_of_getElem? (i := 1702) rfl
set_option maxRecDepth 100000 in
theorem pm_ml_11_434 : Cond.methodLink (pm_R 11) 434 yX11_layFromRow ∈ lw_tbl := List.mem_of_getElem? (i := 1632) rfl
set_option maxRecDepth 100000 in
theorem pm_ml_11_437 : Cond.methodLink (pm_R 11) 437 yX11_turnsNow ∈ lw_tbl := List.mem_of_getElem? (i := 1658) rfl
set_option maxRecDepth 100000 in
theorem pm_ml_11_440 : Cond.methodLink (pm_R 11) 440 yX11_plays ∈ lw_tbl := List.mem_of_getElem? (i := 1662) rfl
set_option maxRecDepth 100000 in
theorem pm_ml_11_443 : Cond.methodLink (pm_R 11) 443 yX11_lay ∈ lw_tbl := List.mem_of_getElem? (i := 1686) rfl
set_option maxRecDepth 100000 in
theorem pm_ml_11_446 : Cond.methodLink (pm_R 11) 446 yX11_heldBy ∈ lw_tbl := List.mem_of_getElem? (i := 1694) rfl
set_option maxRecDepth 100000 in
theorem pm_ml_11_449 : Cond.methodLink (pm_R 11) 449 yX11_common ∈ lw_tbl := List.mem_of_getElem? (i := 1705) rfl
set_option maxRecDepth 100000 in
theorem pm_ml_11_452 : Cond.methodLink (pm_R 11) 452 yX11_layFromNone ∈ lw_tbl := List.mem_of_getElem? (i := 1720) rfl
set_option maxRecDepth 100000 in
theorem pm_ml_11_455 : Cond.methodLink (pm_R 11) 455 yX11_turnsByOrder ∈ lw_tbl := List.mem_of_getElem? (i := 1724) rfl
set_option maxRecDepth 100000 in
theorem pm_ml_11_458 : Cond.methodLink (pm_R 11) 458 yX11_sumOf ∈ lw_tbl := List.mem_of_getElem? (i := 1736) rfl
set_option maxRecDepth 100000 in
theorem pm_ml_11_462 : Cond.methodLink (pm_R 11) 462 yX11_layShortest ∈ lw_tbl := List.mem_of_getElem? (i := 1732) rfl
set_option maxRecDepth 100000 in
theorem pm_ml_11_465 : Cond.methodLink (pm_R 11) 465 yX11_unpack ∈ lw_tbl := List.mem_of_getElem? (i := 1749) rfl
set_option maxRecDepth 100000 in
theorem pm_ml_11_470 : Cond.methodLink (pm_R 11) 470 yX11_tryWithout ∈ lw_tbl := List.mem_of_getElem? (i := 1770) rfl
set_option maxRecDepth 100000 in
theorem pm_ml_11_477 : Cond.methodLink (pm_R 11) 477 yX11_isSo ∈ lw_tbl := List.mem_of_getElem? (i := 1791) rfl
set_option maxRecDepth 100000 in
theorem pm_ml_14_13 : Cond.methodLink (pm_R 14) 13 yX10_feed ∈ lw_tbl := List.mem_of_getElem? (i := 616) rfl
set_option maxRecDepth 100000 in
theorem pm_ml_14_17 : Cond.methodLink (pm_R 14) 17 yX11_feed ∈ lw_tbl := List.mem_of_getElem? (i := 1807) rfl
set_option maxRecDepth 100000 in
theorem pm_ml_14_18 : Cond.methodLink (pm_R 14) 18 yX10_end ∈ lw_tbl := List.mem_of_getElem? (i := 624) rfl
set_option maxRecDepth 100000 in
theorem pm_ml_14_22 : Cond.methodLink (pm_R 14) 22 yX11_end ∈ lw_tbl := List.mem_of_getElem? (i := 1811) rfl
set_option maxRecDepth 100000 in
theorem pm_ml_14_23 : Cond.methodLink (pm_R 14) 23 yX10_port ∈ lw_tbl := List.mem_of_getElem? (i := 628) rfl
set_option maxRecDepth 100000 in
theorem pm_ml_14_27 : Cond.methodLink (pm_R 14) 27 yX11_port ∈ lw_tbl := List.mem_of_getElem? (i := 1394) rfl
set_option maxRecDepth 100000 in
theorem pm_ml_14_28 : Cond.methodLink (pm_R 14) 28 yX10_fault ∈ lw_tbl := List.mem_of_getElem? (i := 758) rfl
set_option maxRecDepth 100000 in
theorem pm_ml_14_31 : Cond.methodLink (pm_R 14) 31 yX11_fault ∈ lw_tbl := List.mem_of_getElem? (i := 1497) rfl
set_option maxRecDepth 100000 in
theorem pm_ml_14_32 : Cond.methodLink (pm_R 14) 32 yX10_worth ∈ lw_tbl := List.mem_of_getElem? (i := 762) rfl
set_option maxRecDepth 100000 in
theorem pm_ml_14_36 : Cond.methodLink (pm_R 14) 36 yX11_worth ∈ lw_tbl := List.mem_of_getElem? (i := 1501) rfl
set_option maxRecDepth 100000 in
theorem pm_ml_14_37 : Cond.methodLink (pm_R 14) 37 yX10_behind ∈ lw_tbl := List.mem_of_getElem? (i := 771) rfl
set_option maxRecDepth 100000 in
theorem pm_ml_14_41 : Cond.methodLink (pm_R 14) 41 yX11_behind ∈ lw_tbl := List.mem_of_getElem? (i := 1516) rfl
set_option maxRecDepth 100000 in
theorem pm_ml_14_42 : Cond.methodLink (pm_R 14) 42 yX10_turn ∈ lw_tbl := List.mem_of_getElem? (i := 775) rfl
set_option maxRecDepth 100000 in
theorem pm_ml_14_45 : Cond.methodLink (pm_R 14) 45 yX11_turn ∈ lw_tbl := List.mem_of_getElem? (i := 1524) rfl
set_option maxRecDepth 100000 in
theorem pm_ml_14_46 : Cond.methodLink (pm_R 14) 46 yX10_write ∈ lw_tbl := List.mem_of_getElem? (i := 791) rfl
set_option maxRecDepth 100000 in
theorem pm_ml_14_49 : Cond.methodLink (pm_R 14) 49 yX11_write ∈ lw_tbl := List.mem_of_getElem? (i := 1596) rfl
set_option maxRecDepth 100000 in
theorem pm_ml_14_50 : Cond.methodLink (pm_R 14) 50 yX10_sell ∈ lw_tbl := List.mem_of_getElem? (i := 840) rfl
set_option maxRecDepth 100000 in
theorem pm_ml_14_53 : Cond.methodLink (pm_R 14) 53 yX11_sell ∈ lw_tbl := List.mem_of_getElem? (i := 1604) rfl
set_option maxRecDepth 100000 in
theorem pm_ml_14_54 : Cond.methodLink (pm_R 14) 54 yX10_undo ∈ lw_tbl := List.mem_of_getElem? (i := 852) rfl
set_option maxRecDepth 100000 in
theorem pm_ml_14_58 : Cond.methodLink (pm_R 14) 58 yX11_undo ∈ lw_tbl := List.mem_of_getElem? (i := 1608) rfl
set_option maxRecDepth 100000 in
theorem pm_ml_14_59 : Cond.methodLink (pm_R 14) 59 yX10_redo ∈ lw_tbl := List.mem_of_getElem? (i := 860) rfl
set_option maxRecDepth 100000 in
theorem pm_ml_14_62 : Cond.methodLink (pm_R 14) 62 yX11_redo ∈ lw_tbl := List.mem_of_getElem? (i := 1616) rfl
set_option maxRecDepth 100000 in
theorem pm_ml_14_63 : Cond.methodLink (pm_R 14) 63 yX10_wipe ∈ lw_tbl := List.mem_of_getElem? (i := 865) rfl
set_option maxRecDepth 100000 in
theorem pm_ml_14_66 : Cond.methodLink (pm_R 14) 66 yX11_wipe ∈ lw_tbl := List.mem_of_getElem? (i := 1620) rfl
set_option maxRecDepth 100000 in
theorem pm_ml_14_67 : Cond.methodLink (pm_R 14) 67 yX10_word ∈ lw_tbl := List.mem_of_getElem? (i := 869) rfl
set_option maxRecDepth 100000 in
theorem pm_ml_14_70 : Cond.methodLink (pm_R 14) 70 yX11_word ∈ lw_tbl := List.mem_of_getElem? (i := 1536) rfl
set_option maxRecDepth 100000 in
theorem pm_ml_14_71 : Cond.methodLink (pm_R 14) 71 yX10_next ∈ lw_tbl := List.mem_of_getElem? (i := 873) rfl
set_option maxRecDepth 100000 in
theorem pm_ml_14_74 : Cond.methodLink (pm_R 14) 74 yX11_next ∈ lw_tbl := List.mem_of_getElem? (i := 1540) rfl
set_option maxRecDepth 100000 in
theorem pm_ml_14_75 : Cond.methodLink (pm_R 14) 75 yX10_readings ∈ lw_tbl := List.mem_of_getElem? (i := 877) rfl
set_option maxRecDepth 100000 in
theorem pm_ml_14_78 : Cond.methodLink (pm_R 14) 78 yX11_readings ∈ lw_tbl := List.mem_of_getElem? (i := 1572) rfl
set_option maxRecDepth 100000 in
theorem pm_ml_14_79 : Cond.methodLink (pm_R 14) 79 yX10_means ∈ lw_tbl := List.mem_of_getElem? (i := 897) rfl
set_option maxRecDepth 100000 in
theorem pm_ml_14_82 : Cond.methodLink (pm_R 14) 82 yX11_means ∈ lw_tbl := List.mem_of_getElem? (i := 1588) rfl
set_option maxRecDepth 100000 in
theorem pm_ml_14_83 : Cond.methodLink (pm_R 14) 83 yX10_written ∈ lw_tbl := List.mem_of_getElem? (i := 909) rfl
set_option maxRecDepth 100000 in
theorem pm_ml_14_86 : Cond.methodLink (pm_R 14) 86 yX11_written ∈ lw_tbl := List.mem_of_getElem? (i := 1628) rfl
set_option maxRecDepth 100000 in
theorem pm_ml_14_87 : Cond.methodLink (pm_R 14) 87 yX10_held ∈ lw_tbl := List.mem_of_getElem? (i := 987) rfl
set_option maxRecDepth 100000 in
theorem pm_ml_14_90 : Cond.methodLink (pm_R 14) 90 yX11_held ∈ lw_tbl := List.mem_of_getElem? (i := 1690) rfl
set_option maxRecDepth 100000 in
theorem pm_ml_14_91 : Cond.methodLink (pm_R 14) 91 yX10_share ∈ lw_tbl := List.mem_of_getElem? (i := 1005) rfl
set_option maxRecDepth 100000 in
theorem pm_ml_14_94 : Cond.methodLink (pm_R 14) 94 yX11_share ∈ lw_tbl := List.mem_of_getElem? (i := 1698) rfl
set_option maxRecDepth 100000 in
theorem pm_ml_14_95 : Cond.methodLink (pm_R 14) 95 yX10_swap ∈ lw_tbl := List.mem_of_getElem? (i := 1015) rfl
set_option maxRecDepth 100000 in
theorem pm_ml_14_98 : Cond.methodLink (pm_R 14) 98 yX11_swap ∈ lw_tbl := List.mem_of_getElem? (i := 1708) rfl
set_option maxRecDepth 100000 in
theorem pm_ml_14_99 : Cond.methodLink (pm_R 14) 99 yX10_bribe ∈ lw_tbl := List.mem_of_getElem? (i := 1027) rfl
set_option maxRecDepth 100000 in
theorem pm_ml_14_102 : Cond.methodLink (pm_R 14) 102 yX11_bribe ∈ lw_tbl := List.mem_of_getElem? (i := 1712) rfl
set_option maxRecDepth 100000 in
theorem pm_ml_14_103 : Cond.methodLink (pm_R 14) 103 yX10_used ∈ lw_tbl := List.mem_of_getElem? (i := 1035) rfl
set_option maxRecDepth 100000 in
theorem pm_ml_14_106 : Cond.methodLink (pm_R 14) 106 yX11_used ∈ lw_tbl := List.mem_of_getElem? (i := 1728) rfl
set_option maxRecDepth 100000 in
theorem pm_ml_14_107 : Cond.methodLink (pm_R 14) 107 yX10_shortest ∈ lw_tbl := List.mem_of_getElem? (i := 1055) rfl
set_option maxRecDepth 100000 in
theorem pm_ml_14_110 : Cond.methodLink (pm_R 14) 110 yX11_shortest ∈ lw_tbl := List.mem_of_getElem? (i := 1741) rfl
set_option maxRecDepth 100000 in
theorem pm_ml_14_111 : Cond.methodLink (pm_R 14) 111 yX10_doubtful ∈ lw_tbl := List.mem_of_getElem? (i := 1059) rfl
set_option maxRecDepth 100000 in
theorem pm_ml_14_114 : Cond.methodLink (pm_R 14) 114 yX11_doubtful ∈ lw_tbl := List.mem_of_getElem? (i := 1745) rfl
set_option maxRecDepth 100000 in
theorem pm_ml_14_115 : Cond.methodLink (pm_R 14) 115 yX10_lots ∈ lw_tbl := List.mem_of_getElem? (i := 1073) rfl
set_option maxRecDepth 100000 in
theorem pm_ml_14_118 : Cond.methodLink (pm_R 14) 118 yX11_lots ∈ lw_tbl := List.mem_of_getElem? (i := 1716) rfl
set_option maxRecDepth 100000 in
theorem pm_ml_14_119 : Cond.methodLink (pm_R 14) 119 yX10_hole ∈ lw_tbl := List.mem_of_getElem? (i := 1082) rfl
set_option maxRecDepth 100000 in
theorem pm_ml_14_123 : Cond.methodLink (pm_R 14) 123 yX11_hole ∈ lw_tbl := List.mem_of_getElem? (i := 1754) rfl
set_option maxRecDepth 100000 in
theorem pm_ml_14_124 : Cond.methodLink (pm_R 14) 124 yX10_fit ∈ lw_tbl := List.mem_of_getElem? (i := 1086) rfl
set_option maxRecDepth 100000 in
theorem pm_ml_14_127 : Cond.methodLink (pm_R 14) 127 yX11_fit ∈ lw_tbl := List.mem_of_getElem? (i := 1758) rfl
set_option maxRecDepth 100000 in
theorem pm_ml_14_128 : Cond.methodLink (pm_R 14) 128 yX10_best ∈ lw_tbl := List.mem_of_getElem? (i := 1094) rfl
set_option maxRecDepth 100000 in
theorem pm_ml_14_131 : Cond.methodLink (pm_R 14) 131 yX11_best ∈ lw_tbl := List.mem_of_getElem? (i := 1762) rfl
set_option maxRecDepth 100000 in
theorem pm_ml_14_132 : Cond.methodLink (pm_R 14) 132 yX10_struck ∈ lw_tbl := List.mem_of_getElem? (i := 1098) rfl
set_option maxRecDepth 100000 in
theorem pm_ml_14_135 : Cond.methodLink (pm_R 14) 135 yX11_struck ∈ lw_tbl := List.mem_of_getElem? (i := 1766) rfl
set_option maxRecDepth 100000 in
theorem pm_ml_14_136 : Cond.methodLink (pm_R 14) 136 yX10_lies ∈ lw_tbl := List.mem_of_getElem? (i := 1106) rfl
set_option maxRecDepth 100000 in
theorem pm_ml_14_139 : Cond.methodLink (pm_R 14) 139 yX11_lies ∈ lw_tbl := List.mem_of_getElem? (i := 1624) rfl
set_option maxRecDepth 100000 in
theorem pm_ml_14_140 : Cond.methodLink (pm_R 14) 140 yX10_seen ∈ lw_tbl := List.mem_of_getElem? (i := 1110) rfl
set_option maxRecDepth 100000 in
theorem pm_ml_14_144 : Cond.methodLink (pm_R 14) 144 yX11_seen ∈ lw_tbl := List.mem_of_getElem? (i := 1774) rfl
set_option maxRecDepth 100000 in
theorem pm_ml_14_145 : Cond.methodLink (pm_R 14) 145 yX10_untell ∈ lw_tbl := List.mem_of_getElem? (i := 1118) rfl
set_option maxRecDepth 100000 in
theorem pm_ml_14_149 : Cond.methodLink (pm_R 14) 149 yX11_untell ∈ lw_tbl := List.mem_of_getElem? (i := 1778) rfl
set_option maxRecDepth 100000 in
theorem pm_ml_14_150 : Cond.methodLink (pm_R 14) 150 yX10_later ∈ lw_tbl := List.mem_of_getElem? (i := 1126) rfl
set_option maxRecDepth 100000 in
theorem pm_ml_14_153 : Cond.methodLink (pm_R 14) 153 yX11_later ∈ lw_tbl := List.mem_of_getElem? (i := 1782) rfl
set_option maxRecDepth 100000 in
theorem pm_ml_14_154 : Cond.methodLink (pm_R 14) 154 yX10_orders ∈ lw_tbl := List.mem_of_getElem? (i := 1131) rfl
set_option maxRecDepth 100000 in
theorem pm_ml_14_157 : Cond.methodLink (pm_R 14) 157 yX11_orders ∈ lw_tbl := List.mem_of_getElem? (i := 1787) rfl
set_option maxRecDepth 100000 in
theorem pm_ml_14_158 : Cond.methodLink (pm_R 14) 158 yX10_image ∈ lw_tbl := List.mem_of_getElem? (i := 1140) rfl
set_option maxRecDepth 100000 in
theorem pm_ml_14_161 : Cond.methodLink (pm_R 14) 161 yX11_image ∈ lw_tbl := List.mem_of_getElem? (i := 1795) rfl
set_option maxRecDepth 100000 in
theorem pm_ml_14_162 : Cond.methodLink (pm_R 14) 162 yX10_back ∈ lw_tbl := List.mem_of_getElem? (i := 1149) rfl
set_option maxRecDepth 100000 in
theorem pm_ml_14_165 : Cond.methodLink (pm_R 14) 165 yX11_back ∈ lw_tbl := List.mem_of_getElem? (i := 1799) rfl
set_option maxRecDepth 100000 in
theorem pm_ml_14_166 : Cond.methodLink (pm_R 14) 166 yX10_about ∈ lw_tbl := List.mem_of_getElem? (i := 1158) rfl
set_option maxRecDepth 100000 in
theorem pm_ml_14_169 : Cond.methodLink (pm_R 14) 169 yX11_about ∈ lw_tbl := List.mem_of_getElem? (i := 1803) rfl
set_option maxRecDepth 100000 in
theorem pm_ML_ok : ∀ q ∈ pm_ML, ∃ (y : MethodName) (r : _), pm_M[q.2.2]? = some (y, r) ∧ Cond.methodLink (pm_R q.1) q.2.1 y ∈ lw_tbl := (List.forall_mem_cons.mpr ⟨⟨yJ7_fill_53178, _, rfl, pm_ml_0_31⟩, (List.forall_mem_cons.mpr ⟨⟨yX0_forgetActs, _, rfl, pm_ml_0_41⟩, (List.forall_mem_cons.mpr ⟨⟨yX0_note, _, rfl, pm_ml_0_50⟩, (List.forall_mem_cons.mpr ⟨⟨yX0_doAgain, _, rfl, pm_ml_0_54⟩, (List.forall_mem_cons.mpr ⟨⟨yX0_dropOldest, _, rfl, pm_ml_0_58⟩, (List.forall_mem_cons.mpr ⟨⟨yX0_forgetActs, _, rfl, pm_ml_1_37⟩, (List.forall_mem_cons.mpr ⟨⟨yX4_empty, _, rfl, pm_ml_2_33⟩, (List.forall_mem_cons.mpr ⟨⟨yX8_begin, _, rfl, pm_ml_2_36⟩, (List.forall_mem_cons.mpr ⟨⟨yX2_readWord, _, rfl, pm_ml_2_47⟩, (List.forall_mem_cons.mpr ⟨⟨yX2_readPair, _, rfl, pm_ml_2_51⟩, (List.forall_mem_cons.mpr ⟨⟨yX2_readRule, _, rfl, pm_ml_2_54⟩, (List.forall_mem_cons.mpr ⟨⟨yX2_readLength, _, rfl, pm_ml_2_57⟩, (List.forall_mem_cons.mpr ⟨⟨yX2_readTurns, _, rfl, pm_ml_2_60⟩, (List.forall_mem_cons.mpr ⟨⟨yX8_refuse, _, rfl, pm_ml_2_63⟩, (List.forall_mem_cons.mpr ⟨⟨yX2_pass, _, rfl, pm_ml_2_67⟩, (List.forall_mem_cons.mpr ⟨⟨yX2_bindParts, _, rfl, pm_ml_2_70⟩, (List.forall_mem_cons.mpr ⟨⟨yX8_advance, _, rfl, pm_ml_2_73⟩, (List.forall_mem_cons.mpr ⟨⟨yX2_passFirst, _, rfl, pm_ml_2_79⟩, (List.forall_mem_cons.mpr ⟨⟨yX2_passNewName, _, rfl, pm_ml_2_87⟩, (List.forall_mem_cons.mpr ⟨⟨yX2_readWorths, _, rfl, pm_ml_2_93⟩, (List.forall_mem_cons.mpr ⟨⟨yX4_symbolOf, _, rfl, pm_ml_2_100⟩, (List.forall_mem_cons.mpr ⟨⟨yX2_passNumber, _, rfl, pm_ml_2_107⟩, (List.forall_mem_cons.mpr ⟨⟨yX2_symbolAtHand, _, rfl, pm_ml_2_114⟩, (List.forall_mem_cons.mpr ⟨⟨yX2_passPairName, _, rfl, pm_ml_2_118⟩, (List.forall_mem_cons.mpr ⟨⟨yX4_hasWord, _, rfl, pm_ml_2_122⟩, (List.forall_mem_cons.mpr ⟨⟨yX2_readAlt, _, rfl, pm_ml_2_138⟩, (List.forall_mem_cons.mpr ⟨⟨yX2_bindAlt, _, rfl, pm_ml_2_166⟩, (List.forall_mem_cons.mpr ⟨⟨yX3_endOf, _, rfl, pm_ml_3_37⟩, (List.forall_mem_cons.mpr ⟨⟨yX3_clearResults, _, rfl, pm_ml_3_44⟩, (List.forall_mem_cons.mpr ⟨⟨yX9_isCharter, _, rfl, pm_ml_3_48⟩, (List.forall_mem_cons.mpr ⟨⟨yX3_offer, _, rfl, pm_ml_3_55⟩, (List.forall_mem_cons.mpr ⟨⟨yX3_worthTo, _, rfl, pm_ml_3_62⟩, (List.forall_mem_cons.mpr ⟨⟨yX3_isBribed, _, rfl, pm_ml_3_69⟩, (List.forall_mem_cons.mpr ⟨⟨yX9_wordAt, _, rfl, pm_ml_3_88⟩, (List.forall_mem_cons.mpr ⟨⟨yX3_meansMore, _, rfl, pm_ml_3_94⟩, (List.forall_mem_cons.mpr ⟨⟨yX3_sumOf, _, rfl, pm_ml_3_99⟩, (List.forall_mem_cons.mpr ⟨⟨yX3_better, _, rfl, pm_ml_3_102⟩, (List.forall_mem_cons.mpr ⟨⟨yJ7_fill_53178, _, rfl, pm_ml_4_51⟩, (List.forall_mem_cons.mpr ⟨⟨yX4_meaningBehind, _, rfl, pm_ml_4_70⟩, (List.forall_mem_cons.mpr ⟨⟨yX4_sizeOfAlt, _, rfl, pm_ml_4_74⟩, (List.forall_mem_cons.mpr ⟨⟨yX4_rulesNextTo, _, rfl, pm_ml_4_78⟩, (List.forall_mem_cons.mpr ⟨⟨yX5_fillColumn, _, rfl, pm_ml_5_18⟩, (List.forall_mem_cons.mpr ⟨⟨yX5_beginColumn, _, rfl, pm_ml_5_44⟩, (List.forall_mem_cons.mpr ⟨⟨yX5_startsOfAlt, _, rfl, pm_ml_5_52⟩, (List.forall_mem_cons.mpr ⟨⟨yX9_wordAt, _, rfl, pm_ml_6_35⟩, (List.forall_mem_cons.mpr ⟨⟨yX7_fillColumn, _, rfl, pm_ml_7_22⟩, (List.forall_mem_cons.mpr ⟨⟨yX7_waysOfAlt, _, rfl, pm_ml_7_34⟩, (List.forall_mem_cons.mpr ⟨⟨yX8_advance, _, rfl, pm_ml_8_63⟩, (List.forall_mem_cons.mpr ⟨⟨yX8_takeLetters, _, rfl, pm_ml_8_72⟩, (List.forall_mem_cons.mpr ⟨⟨yX8_takeDigits, _, rfl, pm_ml_8_75⟩, (List.forall_mem_cons.mpr ⟨⟨yX8_refuse, _, rfl, pm_ml_8_78⟩, (List.forall_mem_cons.mpr ⟨⟨yX9_addRoot, _, rfl, pm_ml_9_47⟩, (List.forall_mem_cons.mpr ⟨⟨yX5_readBeginning, _, rfl, pm_ml_9_51⟩, (List.forall_mem_cons.mpr ⟨⟨yX9_grow, _, rfl, pm_ml_9_57⟩, (List.forall_mem_cons.mpr ⟨⟨yX4_meaningOf, _, rfl, pm_ml_9_64⟩, (List.forall_mem_cons.mpr ⟨⟨yX5_nextWords, _, rfl, pm_ml_9_68⟩, (List.forall_mem_cons.mpr ⟨⟨yX9_add, _, rfl, pm_ml_9_75⟩, (List.forall_mem_cons.mpr ⟨⟨yX9_growBehind, _, rfl, pm_ml_9_79⟩, (List.forall_mem_cons.mpr ⟨⟨yX5_goOn, _, rfl, pm_ml_9_83⟩, (List.forall_mem_cons.mpr ⟨⟨yX4_meaningBehind, _, rfl, pm_ml_9_87⟩, (List.forall_mem_cons.mpr ⟨⟨yX9_wordAt, _, rfl, pm_ml_9_91⟩, (List.forall_mem_cons.mpr ⟨⟨yX10_tapeNumber, _, rfl, pm_ml_10_96⟩, (List.forall_mem_cons.mpr ⟨⟨yX2_readsInto, _, rfl, pm_ml_10_100⟩, (List.forall_mem_cons.mpr ⟨⟨yX10_forgetOldPort, _, rfl, pm_ml_10_104⟩, (List.forall_mem_cons.mpr ⟨⟨yX0_empty, _, rfl, pm_ml_10_110⟩, (List.forall_mem_cons.mpr ⟨⟨yX7_forget, _, rfl, pm_ml_10_117⟩, (List.forall_mem_cons.mpr ⟨⟨yX9_forget, _, rfl, pm_ml_10_120⟩, (List.forall_mem_cons.mpr ⟨⟨yX3_forget, _, rfl, pm_ml_10_121⟩, (List.forall_mem_cons.mpr ⟨⟨yX4_hasWord, _, rfl, pm_ml_10_143⟩, (List.forall_mem_cons.mpr ⟨⟨yX10_isGuild, _, rfl, pm_ml_10_147⟩, (List.forall_mem_cons.mpr ⟨⟨yX4_hasPlace, _, rfl, pm_ml_10_157⟩, (List.forall_mem_cons.mpr ⟨⟨yX10_ownerInEarnest, _, rfl, pm_ml_10_160⟩, (List.forall_mem_cons.mpr ⟨⟨yX4_turnAt, _, rfl, pm_ml_10_167⟩, (List.forall_mem_cons.mpr ⟨⟨yX10_nextInEarnest, _, rfl, pm_ml_10_170⟩, (List.forall_mem_cons.mpr ⟨⟨yX0_putWord, _, rfl, pm_ml_10_174⟩, (List.forall_mem_cons.mpr ⟨⟨yX10_isUnwritten, _, rfl, pm_ml_10_180⟩, (List.forall_mem_cons.mpr ⟨⟨yX0_putSale, _, rfl, pm_ml_10_183⟩, (List.forall_mem_cons.mpr ⟨⟨yX0_takeBack, _, rfl, pm_ml_10_187⟩, (List.forall_mem_cons.mpr ⟨⟨yX0_doAgain, _, rfl, pm_ml_10_191⟩, (List.forall_mem_cons.mpr ⟨⟨yX5_readBeginning, _, rfl, pm_ml_10_197⟩, (List.forall_mem_cons.mpr ⟨⟨yX5_nextWords, _, rfl, pm_ml_10_201⟩, (List.forall_mem_cons.mpr ⟨⟨yX7_countOf, _, rfl, pm_ml_10_205⟩, (List.forall_mem_cons.mpr ⟨⟨yX4_meaningOf, _, rfl, pm_ml_10_209⟩, (List.forall_mem_cons.mpr ⟨⟨yX10_growEarnest, _, rfl, pm_ml_10_213⟩, (List.forall_mem_cons.mpr ⟨⟨yX9_hasCharters, _, rfl, pm_ml_10_217⟩, (List.forall_mem_cons.mpr ⟨⟨yX10_ownAsInEarnest, _, rfl, pm_ml_10_220⟩, (List.forall_mem_cons.mpr ⟨⟨yX3_endOf, _, rfl, pm_ml_10_223⟩, (List.forall_mem_cons.mpr ⟨⟨yX10_lay, _, rfl, pm_ml_10_227⟩, (List.forall_mem_cons.mpr ⟨⟨yX9_growFrom, _, rfl, pm_ml_10_234⟩, (List.forall_mem_cons.mpr ⟨⟨yX9_wordAt, _, rfl, pm_ml_10_244⟩, (List.forall_mem_cons.mpr ⟨⟨yX3_heldBy, _, rfl, pm_ml_10_248⟩, (List.forall_mem_cons.mpr ⟨⟨yX10_sixShares, _, rfl, pm_ml_10_252⟩, (List.forall_mem_cons.mpr ⟨⟨yX3_firstSwap, _, rfl, pm_ml_10_258⟩, (List.forall_mem_cons.mpr ⟨⟨yX3_leastBribe, _, rfl, pm_ml_10_261⟩, (List.forall_mem_cons.mpr ⟨⟨yX4_findShortest, _, rfl, pm_ml_10_265⟩, (List.forall_mem_cons.mpr ⟨⟨yX4_rulesOfUse, _, rfl, pm_ml_10_269⟩, (List.forall_mem_cons.mpr ⟨⟨yX10_growWhole, _, rfl, pm_ml_10_276⟩, (List.forall_mem_cons.mpr ⟨⟨yX9_isCharter, _, rfl, pm_ml_10_283⟩, (List.forall_mem_cons.mpr ⟨⟨yX9_wordsInto, _, rfl, pm_ml_10_286⟩, (List.forall_mem_cons.mpr ⟨⟨yX3_findLotEnds, _, rfl, pm_ml_10_290⟩, (List.forall_mem_cons.mpr ⟨⟨yX10_growHoles, _, rfl, pm_ml_10_297⟩, (List.forall_mem_cons.mpr ⟨⟨yX0_rowWithout, _, rfl, pm_ml_10_300⟩, (List.forall_mem_cons.mpr ⟨⟨yX6_tell, _, rfl, pm_ml_10_304⟩, (List.forall_mem_cons.mpr ⟨⟨yX6_takeBack, _, rfl, pm_ml_10_308⟩, (List.forall_mem_cons.mpr ⟨⟨yX6_agree, _, rfl, pm_ml_10_314⟩, (List.forall_mem_cons.mpr ⟨⟨yX1_keep, _, rfl, pm_ml_10_318⟩, (List.forall_mem_cons.mpr ⟨⟨yX1_giveBack, _, rfl, pm_ml_10_322⟩, (List.forall_mem_cons.mpr ⟨⟨yX11_clearBank, _, rfl, pm_ml_11_158⟩, (List.forall_mem_cons.mpr ⟨⟨yX11_begin, _, rfl, pm_ml_11_161⟩, (List.forall_mem_cons.mpr ⟨⟨yX11_sign, _, rfl, pm_ml_11_188⟩, (List.forall_mem_cons.mpr ⟨⟨yX11_isLetter, _, rfl, pm_ml_11_195⟩, (List.forall_mem_cons.mpr ⟨⟨yX11_isKept, _, rfl, pm_ml_11_203⟩, (List.forall_mem_cons.mpr ⟨⟨yX11_isDigit, _, rfl, pm_ml_11_207⟩, (List.forall_mem_cons.mpr ⟨⟨yX11_fails, _, rfl, pm_ml_11_213⟩, (List.forall_mem_cons.mpr ⟨⟨yX11_isGood, _, rfl, pm_ml_11_217⟩, (List.forall_mem_cons.mpr ⟨⟨yX11_goOn, _, rfl, pm_ml_11_221⟩, (List.forall_mem_cons.mpr ⟨⟨yX11_misplaced, _, rfl, pm_ml_11_224⟩, (List.forall_mem_cons.mpr ⟨⟨yX11_readLine, _, rfl, pm_ml_11_236⟩, (List.forall_mem_cons.mpr ⟨⟨yX11_settle, _, rfl, pm_ml_11_239⟩, (List.forall_mem_cons.mpr ⟨⟨yX11_isWord, _, rfl, pm_ml_11_251⟩, (List.forall_mem_cons.mpr ⟨⟨yX11_isFull, _, rfl, pm_ml_11_254⟩, (List.forall_mem_cons.mpr ⟨⟨yX11_readWord, _, rfl, pm_ml_11_257⟩, (List.forall_mem_cons.mpr ⟨⟨yX11_readPair, _, rfl, pm_ml_11_260⟩, (List.forall_mem_cons.mpr ⟨⟨yX11_readRule, _, rfl, pm_ml_11_263⟩, (List.forall_mem_cons.mpr ⟨⟨yX11_numeral, _, rfl, pm_ml_11_266⟩, (List.forall_mem_cons.mpr ⟨⟨yX11_readTurns, _, rfl, pm_ml_11_270⟩, (List.forall_mem_cons.mpr ⟨⟨yX11_isSignHere, _, rfl, pm_ml_11_273⟩, (List.forall_mem_cons.mpr ⟨⟨yX11_must, _, rfl, pm_ml_11_276⟩, (List.forall_mem_cons.mpr ⟨⟨yX11_wordOf, _, rfl, pm_ml_11_280⟩, (List.forall_mem_cons.mpr ⟨⟨yX11_ruleOf, _, rfl, pm_ml_11_284⟩, (List.forall_mem_cons.mpr ⟨⟨yX11_fresh, _, rfl, pm_ml_11_287⟩, (List.forall_mem_cons.mpr ⟨⟨yX11_known, _, rfl, pm_ml_11_291⟩, (List.forall_mem_cons.mpr ⟨⟨yX11_readAlt, _, rfl, pm_ml_11_295⟩, (List.forall_mem_cons.mpr ⟨⟨yX11_isIn, _, rfl, pm_ml_11_298⟩, (List.forall_mem_cons.mpr ⟨⟨yX11_longOf, _, rfl, pm_ml_11_302⟩, (List.forall_mem_cons.mpr ⟨⟨yX11_isWordOf, _, rfl, pm_ml_11_305⟩, (List.forall_mem_cons.mpr ⟨⟨yX11_isGuild, _, rfl, pm_ml_11_308⟩, (List.forall_mem_cons.mpr ⟨⟨yX11_pairOf, _, rfl, pm_ml_11_312⟩, (List.forall_mem_cons.mpr ⟨⟨yX11_endsBy, _, rfl, pm_ml_11_316⟩, (List.forall_mem_cons.mpr ⟨⟨yX11_doesRead, _, rfl, pm_ml_11_319⟩, (List.forall_mem_cons.mpr ⟨⟨yX11_layEnds, _, rfl, pm_ml_11_322⟩, (List.forall_mem_cons.mpr ⟨⟨yX11_waysBy, _, rfl, pm_ml_11_326⟩, (List.forall_mem_cons.mpr ⟨⟨yX11_atMost, _, rfl, pm_ml_11_330⟩, (List.forall_mem_cons.mpr ⟨⟨yX11_toldTurn, _, rfl, pm_ml_11_345⟩, (List.forall_mem_cons.mpr ⟨⟨yX11_isRead, _, rfl, pm_ml_11_348⟩, (List.forall_mem_cons.mpr ⟨⟨yX11_tryRow, _, rfl, pm_ml_11_351⟩, (List.forall_mem_cons.mpr ⟨⟨yX11_canGoOn, _, rfl, pm_ml_11_354⟩, (List.forall_mem_cons.mpr ⟨⟨yX11_isPlace, _, rfl, pm_ml_11_357⟩, (List.forall_mem_cons.mpr ⟨⟨yX11_canCome, _, rfl, pm_ml_11_360⟩, (List.forall_mem_cons.mpr ⟨⟨yX11_readingsOf, _, rfl, pm_ml_11_363⟩, (List.forall_mem_cons.mpr ⟨⟨yX11_meansOf, _, rfl, pm_ml_11_367⟩, (List.forall_mem_cons.mpr ⟨⟨yX11_keepAct, _, rfl, pm_ml_11_370⟩, (List.forall_mem_cons.mpr ⟨⟨yX11_exchange, _, rfl, pm_ml_11_373⟩, (List.forall_mem_cons.mpr ⟨⟨yX11_wordIn, _, rfl, pm_ml_11_380⟩, (List.forall_mem_cons.mpr ⟨⟨yX11_keyOf, _, rfl, pm_ml_11_383⟩, (List.forall_mem_cons.mpr ⟨⟨yX11_isOnPath, _, rfl, pm_ml_11_396⟩, (List.forall_mem_cons.mpr ⟨⟨yX11_takeCharter, _, rfl, pm_ml_11_399⟩, (List.forall_mem_cons.mpr ⟨⟨yX11_packed, _, rfl, pm_ml_11_402⟩, (List.forall_mem_cons.mpr ⟨⟨yX11_layList, _, rfl, pm_ml_11_405⟩, (List.forall_mem_cons.mpr ⟨⟨yX11_gain, _, rfl, pm_ml_11_418⟩, (List.forall_mem_cons.mpr ⟨⟨yX11_gainOf, _, rfl, pm_ml_11_421⟩, (List.forall_mem_cons.mpr ⟨⟨yX11_areGrouped, _, rfl, pm_ml_11_424⟩, (List.forall_mem_cons.mpr ⟨⟨yX11_isBetter, _, rfl, pm_ml_11_427⟩, (List.forall_mem_cons.mpr ⟨⟨yX11_orderTurn, _, rfl, pm_ml_11_431⟩, (List.forall_mem_cons.mpr ⟨⟨yX11_layFromRow, _, rfl, pm_ml_11_434⟩, (List.forall_mem_cons.mpr ⟨⟨yX11_turnsNow, _, rfl, pm_ml_11_437⟩, (List.forall_mem_cons.mpr ⟨⟨yX11_plays, _, rfl, pm_ml_11_440⟩, (List.forall_mem_cons.mpr ⟨⟨yX11_lay, _, rfl, pm_ml_11_443⟩, (List.forall_mem_cons.mpr ⟨⟨yX11_heldBy, _, rfl, pm_ml_11_446⟩, (List.forall_mem_cons.mpr ⟨⟨yX11_common, _, rfl, pm_ml_11_449⟩, (List.forall_mem_cons.mpr ⟨⟨yX11_layFromNone, _, rfl, pm_ml_11_452⟩, (List.forall_mem_cons.mpr ⟨⟨yX11_turnsByOrder, _, rfl, pm_ml_11_455⟩, (List.forall_mem_cons.mpr ⟨⟨yX11_sumOf, _, rfl, pm_ml_11_458⟩, (List.forall_mem_cons.mpr ⟨⟨yX11_layShortest, _, rfl, pm_ml_11_462⟩, (List.forall_mem_cons.mpr ⟨⟨yX11_unpack, _, rfl, pm_ml_11_465⟩, (List.forall_mem_cons.mpr ⟨⟨yX11_tryWithout, _, rfl, pm_ml_11_470⟩, (List.forall_mem_cons.mpr ⟨⟨yX11_isSo, _, rfl, pm_ml_11_477⟩, (List.forall_mem_cons.mpr ⟨⟨yX10_feed, _, rfl, pm_ml_14_13⟩, (List.forall_mem_cons.mpr ⟨⟨yX11_feed, _, rfl, pm_ml_14_17⟩, (List.forall_mem_cons.mpr ⟨⟨yX10_end, _, rfl, pm_ml_14_18⟩, (List.forall_mem_cons.mpr ⟨⟨yX11_end, _, rfl, pm_ml_14_22⟩, (List.forall_mem_cons.mpr ⟨⟨yX10_port, _, rfl, pm_ml_14_23⟩, (List.forall_mem_cons.mpr ⟨⟨yX11_port, _, rfl, pm_ml_14_27⟩, (List.forall_mem_cons.mpr ⟨⟨yX10_fault, _, rfl, pm_ml_14_28⟩, (List.forall_mem_cons.mpr ⟨⟨yX11_fault, _, rfl, pm_ml_14_31⟩, (List.forall_mem_cons.mpr ⟨⟨yX10_worth, _, rfl, pm_ml_14_32⟩, (List.forall_mem_cons.mpr ⟨⟨yX11_worth, _, rfl, pm_ml_14_36⟩, (List.forall_mem_cons.mpr ⟨⟨yX10_behind, _, rfl, pm_ml_14_37⟩, (List.forall_mem_cons.mpr ⟨⟨yX11_behind, _, rfl, pm_ml_14_41⟩, (List.forall_mem_cons.mpr ⟨⟨yX10_turn, _, rfl, pm_ml_14_42⟩, (List.forall_mem_cons.mpr ⟨⟨yX11_turn, _, rfl, pm_ml_14_45⟩, (List.forall_mem_cons.mpr ⟨⟨yX10_write, _, rfl, pm_ml_14_46⟩, (List.forall_mem_cons.mpr ⟨⟨yX11_write, _, rfl, pm_ml_14_49⟩, (List.forall_mem_cons.mpr ⟨⟨yX10_sell, _, rfl, pm_ml_14_50⟩, (List.forall_mem_cons.mpr ⟨⟨yX11_sell, _, rfl, pm_ml_14_53⟩, (List.forall_mem_cons.mpr ⟨⟨yX10_undo, _, rfl, pm_ml_14_54⟩, (List.forall_mem_cons.mpr ⟨⟨yX11_undo, _, rfl, pm_ml_14_58⟩, (List.forall_mem_cons.mpr ⟨⟨yX10_redo, _, rfl, pm_ml_14_59⟩, (List.forall_mem_cons.mpr ⟨⟨yX11_redo, _, rfl, pm_ml_14_62⟩, (List.forall_mem_cons.mpr ⟨⟨yX10_wipe, _, rfl, pm_ml_14_63⟩, (List.forall_mem_cons.mpr ⟨⟨yX11_wipe, _, rfl, pm_ml_14_66⟩, (List.forall_mem_cons.mpr ⟨⟨yX10_word, _, rfl, pm_ml_14_67⟩, (List.forall_mem_cons.mpr ⟨⟨yX11_word, _, rfl, pm_ml_14_70⟩, (List.forall_mem_cons.mpr ⟨⟨yX10_next, _, rfl, pm_ml_14_71⟩, (List.forall_mem_cons.mpr ⟨⟨yX11_next, _, rfl, pm_ml_14_74⟩, (List.forall_mem_cons.mpr ⟨⟨yX10_readings, _, rfl, pm_ml_14_75⟩, (List.forall_mem_cons.mpr ⟨⟨yX11_readings, _, rfl, pm_ml_14_78⟩, (List.forall_mem_cons.mpr ⟨⟨yX10_means, _, rfl, pm_ml_14_79⟩, (List.forall_mem_cons.mpr ⟨⟨yX11_means, _, rfl, pm_ml_14_82⟩, (List.forall_mem_cons.mpr ⟨⟨yX10_written, _, rfl, pm_ml_14_83⟩, (List.forall_mem_cons.mpr ⟨⟨yX11_written, _, rfl, pm_ml_14_86⟩, (List.forall_mem_cons.mpr ⟨⟨yX10_held, _, rfl, pm_ml_14_87⟩, (List.forall_mem_cons.mpr ⟨⟨yX11_held, _, rfl, pm_ml_14_90⟩, (List.forall_mem_cons.mpr ⟨⟨yX10_share, _, rfl, pm_ml_14_91⟩, (List.forall_mem_cons.mpr ⟨⟨yX11_share, _, rfl, pm_ml_14_94⟩, (List.forall_mem_cons.mpr ⟨⟨yX10_swap, _, rfl, pm_ml_14_95⟩, (List.forall_mem_cons.mpr ⟨⟨yX11_swap, _, rfl, pm_ml_14_98⟩, (List.forall_mem_cons.mpr ⟨⟨yX10_bribe, _, rfl, pm_ml_14_99⟩, (List.forall_mem_cons.mpr ⟨⟨yX11_bribe, _, rfl, pm_ml_14_102⟩, (List.forall_mem_cons.mpr ⟨⟨yX10_used, _, rfl, pm_ml_14_103⟩, (List.forall_mem_cons.mpr ⟨⟨yX11_used, _, rfl, pm_ml_14_106⟩, (List.forall_mem_cons.mpr ⟨⟨yX10_shortest, _, rfl, pm_ml_14_107⟩, (List.forall_mem_cons.mpr ⟨⟨yX11_shortest, _, rfl, pm_ml_14_110⟩, (List.forall_mem_cons.mpr ⟨⟨yX10_doubtful, _, rfl, pm_ml_14_111⟩, (List.forall_mem_cons.mpr ⟨⟨yX11_doubtful, _, rfl, pm_ml_14_114⟩, (List.forall_mem_cons.mpr ⟨⟨yX10_lots, _, rfl, pm_ml_14_115⟩, (List.forall_mem_cons.mpr ⟨⟨yX11_lots, _, rfl, pm_ml_14_118⟩, (List.forall_mem_cons.mpr ⟨⟨yX10_hole, _, rfl, pm_ml_14_119⟩, (List.forall_mem_cons.mpr ⟨⟨yX11_hole, _, rfl, pm_ml_14_123⟩, (List.forall_mem_cons.mpr ⟨⟨yX10_fit, _, rfl, pm_ml_14_124⟩, (List.forall_mem_cons.mpr ⟨⟨yX11_fit, _, rfl, pm_ml_14_127⟩, (List.forall_mem_cons.mpr ⟨⟨yX10_best, _, rfl, pm_ml_14_128⟩, (List.forall_mem_cons.mpr ⟨⟨yX11_best, _, rfl, pm_ml_14_131⟩, (List.forall_mem_cons.mpr ⟨⟨yX10_struck, _, rfl, pm_ml_14_132⟩, (List.forall_mem_cons.mpr ⟨⟨yX11_struck, _, rfl, pm_ml_14_135⟩, (List.forall_mem_cons.mpr ⟨⟨yX10_lies, _, rfl, pm_ml_14_136⟩, (List.forall_mem_cons.mpr ⟨⟨yX11_lies, _, rfl, pm_ml_14_139⟩, (List.forall_mem_cons.mpr ⟨⟨yX10_seen, _, rfl, pm_ml_14_140⟩, (List.forall_mem_cons.mpr ⟨⟨yX11_seen, _, rfl, pm_ml_14_144⟩, (List.forall_mem_cons.mpr ⟨⟨yX10_untell, _, rfl, pm_ml_14_145⟩, (List.forall_mem_cons.mpr ⟨⟨yX11_untell, _, rfl, pm_ml_14_149⟩, (List.forall_mem_cons.mpr ⟨⟨yX10_later, _, rfl, pm_ml_14_150⟩, (List.forall_mem_cons.mpr ⟨⟨yX11_later, _, rfl, pm_ml_14_153⟩, (List.forall_mem_cons.mpr ⟨⟨yX10_orders, _, rfl, pm_ml_14_154⟩, (List.forall_mem_cons.mpr ⟨⟨yX11_orders, _, rfl, pm_ml_14_157⟩, (List.forall_mem_cons.mpr ⟨⟨yX10_image, _, rfl, pm_ml_14_158⟩, (List.forall_mem_cons.mpr ⟨⟨yX11_image, _, rfl, pm_ml_14_161⟩, (List.forall_mem_cons.mpr ⟨⟨yX10_back, _, rfl, pm_ml_14_162⟩, (List.forall_mem_cons.mpr ⟨⟨yX11_back, _, rfl, pm_ml_14_165⟩, (List.forall_mem_cons.mpr ⟨⟨yX10_about, _, rfl, pm_ml_14_166⟩, (List.forall_mem_cons.mpr ⟨⟨yX11_about, _, rfl, pm_ml_14_169⟩, (fun _ h => absurd h List.not_mem_nil)⟩)⟩)⟩)⟩)⟩)⟩)⟩)⟩)⟩)⟩)⟩)⟩)⟩)⟩)⟩)⟩)⟩)⟩)⟩)⟩)⟩)⟩)⟩)⟩)⟩)⟩)⟩)⟩)⟩)⟩)⟩)⟩)⟩)⟩)⟩)⟩)⟩)⟩)⟩)⟩)⟩)⟩)⟩)⟩)⟩)⟩)⟩)⟩)⟩)⟩)⟩)⟩)⟩)⟩)⟩)⟩)⟩)⟩)⟩)⟩)⟩)⟩)⟩)⟩)⟩)⟩)⟩)⟩)⟩)⟩)⟩)⟩)⟩)⟩)⟩)⟩)⟩)⟩)⟩)⟩)⟩)⟩)⟩)⟩)⟩)⟩)⟩)⟩)⟩)⟩)⟩)⟩)⟩)⟩)⟩)⟩)⟩)⟩)⟩)⟩)⟩)⟩)⟩)⟩)⟩)⟩)⟩)⟩)⟩)⟩)⟩)⟩)⟩)⟩)⟩)⟩)⟩)⟩)⟩)⟩)⟩)⟩)⟩)⟩)⟩)⟩)⟩)⟩)⟩)⟩)⟩)⟩)⟩)⟩)⟩)⟩)⟩)⟩)⟩)⟩)⟩)⟩)⟩)⟩)⟩)⟩)⟩)⟩)⟩)⟩)⟩)⟩)⟩)⟩)⟩)⟩)⟩)⟩)⟩)⟩)⟩)⟩)⟩)⟩)⟩)⟩)⟩)⟩)⟩)⟩)⟩)⟩)⟩)⟩)⟩)⟩)⟩)⟩)⟩)⟩)⟩)⟩)⟩)⟩)⟩)⟩)⟩)⟩)⟩)⟩)⟩)⟩)⟩)⟩)⟩)⟩)⟩)⟩)⟩)⟩)⟩)⟩)⟩)⟩)⟩)⟩)⟩)⟩)⟩)⟩)⟩)⟩)⟩)⟩)⟩)⟩)⟩)⟩)⟩)⟩)⟩)⟩)⟩)⟩)⟩)⟩)⟩)⟩)⟩)⟩)⟩)⟩)⟩)⟩)⟩)⟩)⟩)⟩)⟩)⟩)⟩)⟩)⟩)⟩)⟩)⟩)⟩)⟩)⟩)⟩)⟩)
set_option maxRecDepth 100000 in
theorem pm_ci_3_98 : Cond.constant (pm_R 3) 98 (Int32.ofInt (-1000000)) ∈ lw_tbl := List.mem_of_getElem? (i := 995) rfl
set_option maxRecDepth 100000 in
theorem pm_ci_10_153 : Cond.constant (pm_R 10) 153 (Int32.ofInt (-1000000)) ∈ lw_tbl := List.mem_of_getElem? (i := 770) rfl
set_option maxRecDepth 100000 in
theorem pm_ci_10_313 : Cond.constant (pm_R 10) 313 (Int32.ofInt 100000) ∈ lw_tbl := List.mem_of_getElem? (i := 1130) rfl
set_option maxRecDepth 100000 in
theorem pm_ci_11_311 : Cond.constant (pm_R 11) 311 (Int32.ofInt (-1000000)) ∈ lw_tbl := List.mem_of_getElem? (i := 1515) rfl
set_option maxRecDepth 100000 in
theorem pm_ci_11_461 : Cond.constant (pm_R 11) 461 (Int32.ofInt 1000000) ∈ lw_tbl := List.mem_of_getElem? (i := 1740) rfl
set_option maxRecDepth 100000 in
theorem pm_ci_11_476 : Cond.constant (pm_R 11) 476 (Int32.ofInt 100000) ∈ lw_tbl := List.mem_of_getElem? (i := 1786) rfl
set_option maxRecDepth 100000 in
theorem pm_CI_ok : ∀ q ∈ pm_CI, Cond.constant (pm_R q.1) q.2.1 (Int32.ofInt q.2.2) ∈ lw_tbl := (List.forall_mem_cons.mpr ⟨pm_ci_3_98, (List.forall_mem_cons.mpr ⟨pm_ci_10_153, (List.forall_mem_cons.mpr ⟨pm_ci_10_313, (List.forall_mem_cons.mpr ⟨pm_ci_11_311, (List.forall_mem_cons.mpr ⟨pm_ci_11_461, (List.forall_mem_cons.mpr ⟨pm_ci_11_476, (fun _ h => absurd h List.not_mem_nil)⟩)⟩)⟩)⟩)⟩)⟩)
set_option maxRecDepth 100000 in
theorem pm_cl_5_40 : Cond.constantLong (pm_R 5) 40 (Int64.ofInt 255) ∈ lw_tbl := List.mem_of_getElem? (i := 811) rfl
set_option maxRecDepth 100000 in
theorem pm_cl_5_42 : Cond.constantLong (pm_R 5) 42 (Int64.ofInt 1103823438081) ∈ lw_tbl := List.mem_of_getElem? (i := 816) rfl
set_option maxRecDepth 100000 in
theorem pm_cl_7_38 : Cond.constantLong (pm_R 7) 38 (Int64.ofInt 1000000000) ∈ lw_tbl := List.mem_of_getElem? (i := 893) rfl
set_option maxRecDepth 100000 in
theorem pm_cl_11_170 : Cond.constantLong (pm_R 11) 170 (Int64.ofInt 2003792484) ∈ lw_tbl := List.mem_of_getElem? (i := 1412) rfl
set_option maxRecDepth 100000 in
theorem pm_cl_11_172 : Cond.constantLong (pm_R 11) 172 (Int64.ofInt 1885432178) ∈ lw_tbl := List.mem_of_getElem? (i := 1413) rfl
set_option maxRecDepth 100000 in
theorem pm_cl_11_174 : Cond.constantLong (pm_R 11) 174 (Int64.ofInt 1920298085) ∈ lw_tbl := List.mem_of_getElem? (i := 1414) rfl
set_option maxRecDepth 100000 in
theorem pm_cl_11_176 : Cond.constantLong (pm_R 11) 176 (Int64.ofInt 28530) ∈ lw_tbl := List.mem_of_getElem? (i := 1415) rfl
set_option maxRecDepth 100000 in
theorem pm_cl_11_178 : Cond.constantLong (pm_R 11) 178 (Int64.ofInt 119182899770472) ∈ lw_tbl := List.mem_of_getElem? (i := 1416) rfl
set_option maxRecDepth 100000 in
theorem pm_cl_11_180 : Cond.constantLong (pm_R 11) 180 (Int64.ofInt 500186639987) ∈ lw_tbl := List.mem_of_getElem? (i := 1417) rfl
set_option maxRecDepth 100000 in
theorem pm_cl_11_334 : Cond.constantLong (pm_R 11) 334 (Int64.ofInt 1000000000) ∈ lw_tbl := List.mem_of_getElem? (i := 1587) rfl
set_option maxRecDepth 100000 in
theorem pm_cl_11_376 : Cond.constantLong (pm_R 11) 376 (Int64.ofInt 8) ∈ lw_tbl := List.mem_of_getElem? (i := 1644) rfl
set_option maxRecDepth 100000 in
theorem pm_cl_11_378 : Cond.constantLong (pm_R 11) 378 (Int64.ofInt 10) ∈ lw_tbl := List.mem_of_getElem? (i := 1645) rfl
set_option maxRecDepth 100000 in
theorem pm_cl_11_468 : Cond.constantLong (pm_R 11) 468 (Int64.ofInt 2) ∈ lw_tbl := List.mem_of_getElem? (i := 1753) rfl
set_option maxRecDepth 100000 in
theorem pm_CL_ok : ∀ q ∈ pm_CL, Cond.constantLong (pm_R q.1) q.2.1 (Int64.ofInt q.2.2) ∈ lw_tbl := (List.forall_mem_cons.mpr ⟨pm_cl_5_40, (List.forall_mem_cons.mpr ⟨pm_cl_5_42, (List.forall_mem_cons.mpr ⟨pm_cl_7_38, (List.forall_mem_cons.mpr ⟨pm_cl_11_170, (List.forall_mem_cons.mpr ⟨pm_cl_11_172, (List.forall_mem_cons.mpr ⟨pm_cl_11_174, (List.forall_mem_cons.mpr ⟨pm_cl_11_176, (List.forall_mem_cons.mpr ⟨pm_cl_11_178, (List.forall_mem_cons.mpr ⟨pm_cl_11_180, (List.forall_mem_cons.mpr ⟨pm_cl_11_334, (List.forall_mem_cons.mpr ⟨pm_cl_11_376, (List.forall_mem_cons.mpr ⟨pm_cl_11_378, (List.forall_mem_cons.mpr ⟨pm_cl_11_468, (fun _ h => absurd h List.not_mem_nil)⟩)⟩)⟩)⟩)⟩)⟩)⟩)⟩)⟩)⟩)⟩)⟩)⟩)
def pm_mn (b : Nat) : MethodName := match b with
  | 0 => Lib.Math.max.name
  | 1 => Lib.Math.min.name
  | _ => Lib.MathLoose.min_long.x
set_option maxRecDepth 100000 in
theorem pm_mal_3_76 : Cond.methodLink (pm_R 3) 76 Lib.Math.min.name ∈ lw_tbl := List.mem_of_getElem? (i := 981) rfl
set_option maxRecDepth 100000 in
theorem pm_mal_3_106 : Cond.methodLink (pm_R 3) 106 Lib.Math.max.name ∈ lw_tbl := List.mem_of_getElem? (i := 1002) rfl
set_option maxRecDepth 100000 in
theorem pm_mal_7_40 : Cond.methodLink (pm_R 7) 40 Lib.MathLoose.min_long.x ∈ lw_tbl := List.mem_of_getElem? (i := 894) rfl
set_option maxRecDepth 100000 in
theorem pm_mal_8_48 : Cond.methodLink (pm_R 8) 48 Lib.Math.min.name ∈ lw_tbl := List.mem_of_getElem? (i := 645) rfl
theorem pm_MA_ok : ∀ q ∈ pm_MA, Cond.methodLink (pm_R q.1) q.2.1 (pm_mn q.2.2) ∈ lw_tbl := (List.forall_mem_cons.mpr ⟨pm_mal_3_76, (List.forall_mem_cons.mpr ⟨pm_mal_3_106, (List.forall_mem_cons.mpr ⟨pm_mal_7_40, (List.forall_mem_cons.mpr ⟨pm_mal_8_48, (fun _ h => absurd h List.not_mem_nil)⟩)⟩)⟩)⟩)
set_option maxRecDepth 100000 in
theorem pm_mas_0 : Cond.static Lib.Math.max.name ∈ lw_tbl := List.mem_of_getElem? (i := 1003) rfl
set_option maxRecDepth 100000 in
theorem pm_mac_0 : Cond.code Lib.Math.max.name Lib.Math.max.code 2 (some .int) ∈ lw_tbl := List.mem_of_getElem? (i := 1004) rfl
set_option maxRecDepth 100000 in
theorem pm_mas_1 : Cond.static Lib.Math.min.name ∈ lw_tbl := List.mem_of_getElem? (i := 646) rfl
set_option maxRecDepth 100000 in
theorem pm_mac_1 : Cond.code Lib.Math.min.name Lib.Math.min.code 2 (some .int) ∈ lw_tbl := List.mem_of_getElem? (i := 647) rfl
set_option maxRecDepth 100000 in
theorem pm_mas_2 : Cond.static Lib.MathLoose.min_long.x ∈ lw_tbl := List.mem_of_getElem? (i := 895) rfl
set_option maxRecDepth 100000 in
theorem pm_mac_2 : Cond.code Lib.MathLoose.min_long.x Lib.MathLoose.min_long.code 4 (some .long) ∈ lw_tbl := List.mem_of_getElem? (i := 896) rfl
set_option maxRecDepth 100000 in
theorem pm_mai : Cond.initialized "java/lang/Math" ∈ lw_tbl := List.mem_of_getElem? (i := 125) rfl
set_option maxRecDepth 100000 in
theorem pm_gs0 : Cond.fieldLink (pm_R 10) 255 "GuildCharter" "ORDER_GUILDS" "[I" ∈ lw_tbl := List.mem_of_getElem? (i := 1013) rfl
set_option maxRecDepth 100000 in
theorem pm_ac_1 : Cond.methodLink (pm_R 1) 30 arraycopyName ∈ lw_tbl := List.mem_of_getElem? (i := 1148) rfl
set_option maxRecDepth 100000 in
theorem pm_ac_5 : Cond.methodLink (pm_R 5) 34 arraycopyName ∈ lw_tbl := List.mem_of_getElem? (i := 821) rfl
set_option maxRecDepth 100000 in
theorem pm_acn : Cond.native arraycopyName ∈ lw_tbl := List.mem_of_getElem? (i := 823) rfl
set_option maxRecDepth 100000 in
theorem pm_acs : Cond.static arraycopyName ∈ lw_tbl := List.mem_of_getElem? (i := 822) rfl
set_option maxRecDepth 100000 in
theorem pm_aci : Cond.initialized "java/lang/System" ∈ lw_tbl := List.mem_of_getElem? (i := 126) rfl
set_option maxRecDepth 100000 in
theorem pm_mc_0 : Cond.code yX0_doAgain cX0_doAgain 2 (some (.boolean)) ∈ lw_tbl := List.mem_of_getElem? (i := 839) rfl
set_option maxRecDepth 100000 in
theorem pm_mi_0 : Cond.instanceMethod yX0_doAgain ∈ lw_tbl := List.mem_of_getElem? (i := 837) rfl
set_option maxRecDepth 100000 in
theorem pm_me_0 : Cond.selects (pm_R 0) yX0_doAgain yX0_doAgain ∈ lw_tbl := List.mem_of_getElem? (i := 838) rfl
set_option maxRecDepth 100000 in
theorem pm_mc_1 : Cond.code yX0_dropOldest cX0_dropOldest 2 (none) ∈ lw_tbl := List.mem_of_getElem? (i := 835) rfl
set_option maxRecDepth 100000 in
theorem pm_mi_1 : Cond.instanceMethod yX0_dropOldest ∈ lw_tbl := List.mem_of_getElem? (i := 834) rfl
set_option maxRecDepth 100000 in
theorem pm_me_1 : Cond.selects (pm_R 0) yX0_dropOldest yX0_dropOldest ∈ lw_tbl := List.mem_of_getElem? (i := 25) rfl
set_option maxRecDepth 100000 in
theorem pm_mc_2 : Cond.code yX0_empty cX0_empty 1 (none) ∈ lw_tbl := List.mem_of_getElem? (i := 741) rfl
set_option maxRecDepth 100000 in
theorem pm_mi_2 : Cond.instanceMethod yX0_empty ∈ lw_tbl := List.mem_of_getElem? (i := 739) rfl
set_option maxRecDepth 100000 in
theorem pm_me_2 : Cond.selects (pm_R 0) yX0_empty yX0_empty ∈ lw_tbl := List.mem_of_getElem? (i := 740) rfl
set_option maxRecDepth 100000 in
theorem pm_mc_3 : Cond.code yX0_forgetActs cX0_forgetActs 1 (none) ∈ lw_tbl := List.mem_of_getElem? (i := 745) rfl
set_option maxRecDepth 100000 in
theorem pm_mi_3 : Cond.instanceMethod yX0_forgetActs ∈ lw_tbl := List.mem_of_getElem? (i := 743) rfl
set_option maxRecDepth 100000 in
theorem pm_me_3 : Cond.selects (pm_R 0) yX0_forgetActs yX0_forgetActs ∈ lw_tbl := List.mem_of_getElem? (i := 744) rfl
set_option maxRecDepth 100000 in
theorem pm_mc_4 : Cond.code yX0_note cX0_note 5 (none) ∈ lw_tbl := List.mem_of_getElem? (i := 831) rfl
set_option maxRecDepth 100000 in
theorem pm_mi_4 : Cond.instanceMethod yX0_note ∈ lw_tbl := List.mem_of_getElem? (i := 830) rfl
set_option maxRecDepth 100000 in
theorem pm_me_4 : Cond.selects (pm_R 0) yX0_note yX0_note ∈ lw_tbl := List.mem_of_getElem? (i := 24) rfl
set_option maxRecDepth 100000 in
theorem pm_mc_5 : Cond.code yX0_putSale cX0_putSale 3 (none) ∈ lw_tbl := List.mem_of_getElem? (i := 851) rfl
set_option maxRecDepth 100000 in
theorem pm_mi_5 : Cond.instanceMethod yX0_putSale ∈ lw_tbl := List.mem_of_getElem? (i := 849) rfl
set_option maxRecDepth 100000 in
theorem pm_me_5 : Cond.selects (pm_R 0) yX0_putSale yX0_putSale ∈ lw_tbl := List.mem_of_getElem? (i := 850) rfl
set_option maxRecDepth 100000 in
theorem pm_mc_6 : Cond.code yX0_putWord cX0_putWord 2 (none) ∈ lw_tbl := List.mem_of_getElem? (i := 827) rfl
set_option maxRecDepth 100000 in
theorem pm_mi_6 : Cond.instanceMethod yX0_putWord ∈ lw_tbl := List.mem_of_getElem? (i := 825) rfl
set_option maxRecDepth 100000 in
theorem pm_me_6 : Cond.selects (pm_R 0) yX0_putWord yX0_putWord ∈ lw_tbl := List.mem_of_getElem? (i := 826) rfl
set_option maxRecDepth 100000 in
theorem pm_mc_7 : Cond.code yX0_rowWithout cX0_rowWithout 5 (some (.int)) ∈ lw_tbl := List.mem_of_getElem? (i := 1105) rfl
set_option maxRecDepth 100000 in
theorem pm_mi_7 : Cond.instanceMethod yX0_rowWithout ∈ lw_tbl := List.mem_of_getElem? (i := 1103) rfl
set_option maxRecDepth 100000 in
theorem pm_me_7 : Cond.selects (pm_R 0) yX0_rowWithout yX0_rowWithout ∈ lw_tbl := List.mem_of_getElem? (i := 1104) rfl
set_option maxRecDepth 100000 in
theorem pm_mc_8 : Cond.code yX0_takeBack cX0_takeBack 1 (some (.boolean)) ∈ lw_tbl := List.mem_of_getElem? (i := 859) rfl
set_option maxRecDepth 100000 in
theorem pm_mi_8 : Cond.instanceMethod yX0_takeBack ∈ lw_tbl := List.mem_of_getElem? (i := 857) rfl
set_option maxRecDepth 100000 in
theorem pm_me_8 : Cond.selects (pm_R 0) yX0_takeBack yX0_takeBack ∈ lw_tbl := List.mem_of_getElem? (i := 858) rfl
set_option maxRecDepth 100000 in
theorem pm_mc_9 : Cond.code yX1_giveBack cX1_giveBack 2 (none) ∈ lw_tbl := List.mem_of_getElem? (i := 1156) rfl
set_option maxRecDepth 100000 in
theorem pm_mi_9 : Cond.instanceMethod yX1_giveBack ∈ lw_tbl := List.mem_of_getElem? (i := 1154) rfl
set_option maxRecDepth 100000 in
theorem pm_me_9 : Cond.selects (pm_R 1) yX1_giveBack yX1_giveBack ∈ lw_tbl := List.mem_of_getElem? (i := 1155) rfl
set_option maxRecDepth 100000 in
theorem pm_mc_10 : Cond.code yX1_keep cX1_keep 2 (none) ∈ lw_tbl := List.mem_of_getElem? (i := 1147) rfl
set_option maxRecDepth 100000 in
theorem pm_mi_10 : Cond.instanceMethod yX1_keep ∈ lw_tbl := List.mem_of_getElem? (i := 1145) rfl
set_option maxRecDepth 100000 in
theorem pm_me_10 : Cond.selects (pm_R 1) yX1_keep yX1_keep ∈ lw_tbl := List.mem_of_getElem? (i := 1146) rfl
set_option maxRecDepth 100000 in
theorem pm_mc_11 : Cond.code yX2_bindAlt cX2_bindAlt 7 (some (.boolean)) ∈ lw_tbl := List.mem_of_getElem? (i := 733) rfl
set_option maxRecDepth 100000 in
theorem pm_mi_11 : Cond.instanceMethod yX2_bindAlt ∈ lw_tbl := List.mem_of_getElem? (i := 732) rfl
set_option maxRecDepth 100000 in
theorem pm_me_11 : Cond.selects (pm_R 2) yX2_bindAlt yX2_bindAlt ∈ lw_tbl := List.mem_of_getElem? (i := 17) rfl
set_option maxRecDepth 100000 in
theorem pm_mc_12 : Cond.code yX2_bindParts cX2_bindParts 3 (some (.boolean)) ∈ lw_tbl := List.mem_of_getElem? (i := 729) rfl
set_option maxRecDepth 100000 in
theorem pm_mi_12 : Cond.instanceMethod yX2_bindParts ∈ lw_tbl := List.mem_of_getElem? (i := 728) rfl
set_option maxRecDepth 100000 in
theorem pm_me_12 : Cond.selects (pm_R 2) yX2_bindParts yX2_bindParts ∈ lw_tbl := List.mem_of_getElem? (i := 16) rfl
set_option maxRecDepth 100000 in
theorem pm_mc_13 : Cond.code yX2_pass cX2_pass 2 (some (.boolean)) ∈ lw_tbl := List.mem_of_getElem? (i := 675) rfl
set_option maxRecDepth 100000 in
theorem pm_mi_13 : Cond.instanceMethod yX2_pass ∈ lw_tbl := List.mem_of_getElem? (i := 674) rfl
set_option maxRecDepth 100000 in
theorem pm_me_13 : Cond.selects (pm_R 2) yX2_pass yX2_pass ∈ lw_tbl := List.mem_of_getElem? (i := 5) rfl
set_option maxRecDepth 100000 in
theorem pm_mc_14 : Cond.code yX2_passFirst cX2_passFirst 2 (some (.boolean)) ∈ lw_tbl := List.mem_of_getElem? (i := 671) rfl
set_option maxRecDepth 100000 in
theorem pm_mi_14 : Cond.instanceMethod yX2_passFirst ∈ lw_tbl := List.mem_of_getElem? (i := 670) rfl
set_option maxRecDepth 100000 in
theorem pm_me_14 : Cond.selects (pm_R 2) yX2_passFirst yX2_passFirst ∈ lw_tbl := List.mem_of_getElem? (i := 4) rfl
set_option maxRecDepth 100000 in
theorem pm_mc_15 : Cond.code yX2_passNewName cX2_passNewName 1 (some (.boolean)) ∈ lw_tbl := List.mem_of_getElem? (i := 681) rfl
set_option maxRecDepth 100000 in
theorem pm_mi_15 : Cond.instanceMethod yX2_passNewName ∈ lw_tbl := List.mem_of_getElem? (i := 680) rfl
set_option maxRecDepth 100000 in
theorem pm_me_15 : Cond.selects (pm_R 2) yX2_passNewName yX2_passNewName ∈ lw_tbl := List.mem_of_getElem? (i := 6) rfl
set_option maxRecDepth 100000 in
theorem pm_mc_16 : Cond.code yX2_passNumber cX2_passNumber 3 (some (.boolean)) ∈ lw_tbl := List.mem_of_getElem? (i := 693) rfl
set_option maxRecDepth 100000 in
theorem pm_mi_16 : Cond.instanceMethod yX2_passNumber ∈ lw_tbl := List.mem_of_getElem? (i := 692) rfl
set_option maxRecDepth 100000 in
theorem pm_me_16 : Cond.selects (pm_R 2) yX2_passNumber yX2_passNumber ∈ lw_tbl := List.mem_of_getElem? (i := 8) rfl
set_option maxRecDepth 100000 in
theorem pm_mc_17 : Cond.code yX2_passPairName cX2_passPairName 3 (some (.boolean)) ∈ lw_tbl := List.mem_of_getElem? (i := 705) rfl
set_option maxRecDepth 100000 in
theorem pm_mi_17 : Cond.instanceMethod yX2_passPairName ∈ lw_tbl := List.mem_of_getElem? (i := 704) rfl
set_option maxRecDepth 100000 in
theorem pm_me_17 : Cond.selects (pm_R 2) yX2_passPairName yX2_passPairName ∈ lw_tbl := List.mem_of_getElem? (i := 11) rfl
set_option maxRecDepth 100000 in
theorem pm_mc_18 : Cond.code yX2_readAlt cX2_readAlt 2 (some (.boolean)) ∈ lw_tbl := List.mem_of_getElem? (i := 717) rfl
set_option maxRecDepth 100000 in
theorem pm_mi_18 : Cond.instanceMethod yX2_readAlt ∈ lw_tbl := List.mem_of_getElem? (i := 716) rfl
set_option maxRecDepth 100000 in
theorem pm_me_18 : Cond.selects (pm_R 2) yX2_readAlt yX2_readAlt ∈ lw_tbl := List.mem_of_getElem? (i := 13) rfl
set_option maxRecDepth 100000 in
theorem pm_mc_19 : Cond.code yX2_readLength cX2_readLength 2 (some (.boolean)) ∈ lw_tbl := List.mem_of_getElem? (i := 721) rfl
set_option maxRecDepth 100000 in
theorem pm_mi_19 : Cond.instanceMethod yX2_readLength ∈ lw_tbl := List.mem_of_getElem? (i := 720) rfl
set_option maxRecDepth 100000 in
theorem pm_me_19 : Cond.selects (pm_R 2) yX2_readLength yX2_readLength ∈ lw_tbl := List.mem_of_getElem? (i := 14) rfl
set_option maxRecDepth 100000 in
theorem pm_mc_20 : Cond.code yX2_readPair cX2_readPair 5 (some (.boolean)) ∈ lw_tbl := List.mem_of_getElem? (i := 697) rfl
set_option maxRecDepth 100000 in
theorem pm_mi_20 : Cond.instanceMethod yX2_readPair ∈ lw_tbl := List.mem_of_getElem? (i := 696) rfl
set_option maxRecDepth 100000 in
theorem pm_me_20 : Cond.selects (pm_R 2) yX2_readPair yX2_readPair ∈ lw_tbl := List.mem_of_getElem? (i := 9) rfl
set_option maxRecDepth 100000 in
theorem pm_mc_21 : Cond.code yX2_readRule cX2_readRule 5 (some (.boolean)) ∈ lw_tbl := List.mem_of_getElem? (i := 713) rfl
set_option maxRecDepth 100000 in
theorem pm_mi_21 : Cond.instanceMethod yX2_readRule ∈ lw_tbl := List.mem_of_getElem? (i := 712) rfl
set_option maxRecDepth 100000 in
theorem pm_me_21 : Cond.selects (pm_R 2) yX2_readRule yX2_readRule ∈ lw_tbl := List.mem_of_getElem? (i := 12) rfl
set_option maxRecDepth 100000 in
theorem pm_mc_22 : Cond.code yX2_readTurns cX2_readTurns 3 (some (.boolean)) ∈ lw_tbl := List.mem_of_getElem? (i := 725) rfl
set_option maxRecDepth 100000 in
theorem pm_mi_22 : Cond.instanceMethod yX2_readTurns ∈ lw_tbl := List.mem_of_getElem? (i := 724) rfl
set_option maxRecDepth 100000 in
theorem pm_me_22 : Cond.selects (pm_R 2) yX2_readTurns yX2_readTurns ∈ lw_tbl := List.mem_of_getElem? (i := 15) rfl
set_option maxRecDepth 100000 in
theorem pm_mc_23 : Cond.code yX2_readWord cX2_readWord 3 (some (.boolean)) ∈ lw_tbl := List.mem_of_getElem? (i := 667) rfl
set_option maxRecDepth 100000 in
theorem pm_mi_23 : Cond.instanceMethod yX2_readWord ∈ lw_tbl := List.mem_of_getElem? (i := 666) rfl
set_option maxRecDepth 100000 in
theorem pm_me_23 : Cond.selects (pm_R 2) yX2_readWord yX2_readWord ∈ lw_tbl := List.mem_of_getElem? (i := 3) rfl
set_option maxRecDepth 100000 in
theorem pm_mc_24 : Cond.code yX2_readWorths cX2_readWorths 5 (some (.boolean)) ∈ lw_tbl := List.mem_of_getElem? (i := 689) rfl
set_option maxRecDepth 100000 in
theorem pm_mi_24 : Cond.instanceMethod yX2_readWorths ∈ lw_tbl := List.mem_of_getElem? (i := 688) rfl
set_option maxRecDepth 100000 in
theorem pm_me_24 : Cond.selects (pm_R 2) yX2_readWorths yX2_readWorths ∈ lw_tbl := List.mem_of_getElem? (i := 7) rfl
set_option maxRecDepth 100000 in
theorem pm_mc_25 : Cond.code yX2_readsInto cX2_readsInto 6 (some (.boolean)) ∈ lw_tbl := List.mem_of_getElem? (i := 635) rfl
set_option maxRecDepth 100000 in
theorem pm_mi_25 : Cond.instanceMethod yX2_readsInto ∈ lw_tbl := List.mem_of_getElem? (i := 633) rfl
set_option maxRecDepth 100000 in
theorem pm_me_25 : Cond.selects (pm_R 2) yX2_readsInto yX2_readsInto ∈ lw_tbl := List.mem_of_getElem? (i := 634) rfl
set_option maxRecDepth 100000 in
theorem pm_mc_26 : Cond.code yX2_symbolAtHand cX2_symbolAtHand 1 (some (.int)) ∈ lw_tbl := List.mem_of_getElem? (i := 701) rfl
set_option maxRecDepth 100000 in
theorem pm_mi_26 : Cond.instanceMethod yX2_symbolAtHand ∈ lw_tbl := List.mem_of_getElem? (i := 700) rfl
set_option maxRecDepth 100000 in
theorem pm_me_26 : Cond.selects (pm_R 2) yX2_symbolAtHand yX2_symbolAtHand ∈ lw_tbl := List.mem_of_getElem? (i := 10) rfl
set_option maxRecDepth 100000 in
theorem pm_mc_27 : Cond.code yX3_better cX3_better 3 (some (.int)) ∈ lw_tbl := List.mem_of_getElem? (i := 1001) rfl
set_option maxRecDepth 100000 in
theorem pm_ms_27 : Cond.static yX3_better ∈ lw_tbl := List.mem_of_getElem? (i := 1000) rfl
set_option maxRecDepth 100000 in
theorem pm_mc_28 : Cond.code yX3_clearResults cX3_clearResults 4 (none) ∈ lw_tbl := List.mem_of_getElem? (i := 960) rfl
set_option maxRecDepth 100000 in
theorem pm_mi_28 : Cond.instanceMethod yX3_clearResults ∈ lw_tbl := List.mem_of_getElem? (i := 959) rfl
set_option maxRecDepth 100000 in
theorem pm_me_28 : Cond.selects (pm_R 3) yX3_clearResults yX3_clearResults ∈ lw_tbl := List.mem_of_getElem? (i := 35) rfl
set_option maxRecDepth 100000 in
theorem pm_mc_29 : Cond.code yX3_endOf cX3_endOf 3 (some (.int)) ∈ lw_tbl := List.mem_of_getElem? (i := 956) rfl
set_option maxRecDepth 100000 in
theorem pm_mi_29 : Cond.instanceMethod yX3_endOf ∈ lw_tbl := List.mem_of_getElem? (i := 954) rfl
set_option maxRecDepth 100000 in
theorem pm_me_29 : Cond.selects (pm_R 3) yX3_endOf yX3_endOf ∈ lw_tbl := List.mem_of_getElem? (i := 955) rfl
set_option maxRecDepth 100000 in
theorem pm_mc_30 : Cond.code yX3_findLotEnds cX3_findLotEnds 4 (none) ∈ lw_tbl := List.mem_of_getElem? (i := 1080) rfl
set_option maxRecDepth 100000 in
theorem pm_mi_30 : Cond.instanceMethod yX3_findLotEnds ∈ lw_tbl := List.mem_of_getElem? (i := 1078) rfl
set_option maxRecDepth 100000 in
theorem pm_me_30 : Cond.selects (pm_R 3) yX3_findLotEnds yX3_findLotEnds ∈ lw_tbl := List.mem_of_getElem? (i := 1079) rfl
set_option maxRecDepth 100000 in
theorem pm_mc_31 : Cond.code yX3_firstSwap cX3_firstSwap 9 (some (.int)) ∈ lw_tbl := List.mem_of_getElem? (i := 1022) rfl
set_option maxRecDepth 100000 in
theorem pm_mi_31 : Cond.instanceMethod yX3_firstSwap ∈ lw_tbl := List.mem_of_getElem? (i := 1020) rfl
set_option maxRecDepth 100000 in
theorem pm_me_31 : Cond.selects (pm_R 3) yX3_firstSwap yX3_firstSwap ∈ lw_tbl := List.mem_of_getElem? (i := 1021) rfl
set_option maxRecDepth 100000 in
theorem pm_mc_32 : Cond.code yX3_forget cX3_forget 1 (none) ∈ lw_tbl := List.mem_of_getElem? (i := 757) rfl
set_option maxRecDepth 100000 in
theorem pm_mi_32 : Cond.instanceMethod yX3_forget ∈ lw_tbl := List.mem_of_getElem? (i := 755) rfl
set_option maxRecDepth 100000 in
theorem pm_me_32 : Cond.selects (pm_R 3) yX3_forget yX3_forget ∈ lw_tbl := List.mem_of_getElem? (i := 756) rfl
set_option maxRecDepth 100000 in
theorem pm_mc_33 : Cond.code yX3_heldBy cX3_heldBy 6 (some (.int)) ∈ lw_tbl := List.mem_of_getElem? (i := 994) rfl
set_option maxRecDepth 100000 in
theorem pm_mi_33 : Cond.instanceMethod yX3_heldBy ∈ lw_tbl := List.mem_of_getElem? (i := 992) rfl
set_option maxRecDepth 100000 in
theorem pm_me_33 : Cond.selects (pm_R 3) yX3_heldBy yX3_heldBy ∈ lw_tbl := List.mem_of_getElem? (i := 993) rfl
set_option maxRecDepth 100000 in
theorem pm_mc_34 : Cond.code yX3_isBribed cX3_isBribed 3 (some (.boolean)) ∈ lw_tbl := List.mem_of_getElem? (i := 976) rfl
set_option maxRecDepth 100000 in
theorem pm_mi_34 : Cond.instanceMethod yX3_isBribed ∈ lw_tbl := List.mem_of_getElem? (i := 975) rfl
set_option maxRecDepth 100000 in
theorem pm_me_34 : Cond.selects (pm_R 3) yX3_isBribed yX3_isBribed ∈ lw_tbl := List.mem_of_getElem? (i := 38) rfl
set_option maxRecDepth 100000 in
theorem pm_mc_35 : Cond.code yX3_leastBribe cX3_leastBribe 6 (some (.int)) ∈ lw_tbl := List.mem_of_getElem? (i := 1034) rfl
set_option maxRecDepth 100000 in
theorem pm_mi_35 : Cond.instanceMethod yX3_leastBribe ∈ lw_tbl := List.mem_of_getElem? (i := 1032) rfl
set_option maxRecDepth 100000 in
theorem pm_me_35 : Cond.selects (pm_R 3) yX3_leastBribe yX3_leastBribe ∈ lw_tbl := List.mem_of_getElem? (i := 1033) rfl
set_option maxRecDepth 100000 in
theorem pm_mc_36 : Cond.code yX3_meansMore cX3_meansMore 4 (some (.boolean)) ∈ lw_tbl := List.mem_of_getElem? (i := 1026) rfl
set_option maxRecDepth 100000 in
theorem pm_ms_36 : Cond.static yX3_meansMore ∈ lw_tbl := List.mem_of_getElem? (i := 1025) rfl
set_option maxRecDepth 100000 in
theorem pm_mc_37 : Cond.code yX3_offer cX3_offer 8 (none) ∈ lw_tbl := List.mem_of_getElem? (i := 968) rfl
set_option maxRecDepth 100000 in
theorem pm_mi_37 : Cond.instanceMethod yX3_offer ∈ lw_tbl := List.mem_of_getElem? (i := 967) rfl
set_option maxRecDepth 100000 in
theorem pm_me_37 : Cond.selects (pm_R 3) yX3_offer yX3_offer ∈ lw_tbl := List.mem_of_getElem? (i := 36) rfl
set_option maxRecDepth 100000 in
theorem pm_mc_38 : Cond.code yX3_sumOf cX3_sumOf 5 (some (.int)) ∈ lw_tbl := List.mem_of_getElem? (i := 998) rfl
set_option maxRecDepth 100000 in
theorem pm_ms_38 : Cond.static yX3_sumOf ∈ lw_tbl := List.mem_of_getElem? (i := 997) rfl
set_option maxRecDepth 100000 in
theorem pm_mc_39 : Cond.code yX3_worthTo cX3_worthTo 5 (some (.int)) ∈ lw_tbl := List.mem_of_getElem? (i := 972) rfl
set_option maxRecDepth 100000 in
theorem pm_mi_39 : Cond.instanceMethod yX3_worthTo ∈ lw_tbl := List.mem_of_getElem? (i := 971) rfl
set_option maxRecDepth 100000 in
theorem pm_me_39 : Cond.selects (pm_R 3) yX3_worthTo yX3_worthTo ∈ lw_tbl := List.mem_of_getElem? (i := 37) rfl
set_option maxRecDepth 100000 in
theorem pm_mc_40 : Cond.code yX4_empty cX4_empty 2 (none) ∈ lw_tbl := List.mem_of_getElem? (i := 639) rfl
set_option maxRecDepth 100000 in
theorem pm_mi_40 : Cond.instanceMethod yX4_empty ∈ lw_tbl := List.mem_of_getElem? (i := 637) rfl
set_option maxRecDepth 100000 in
theorem pm_me_40 : Cond.selects (pm_R 4) yX4_empty yX4_empty ∈ lw_tbl := List.mem_of_getElem? (i := 638) rfl
set_option maxRecDepth 100000 in
theorem pm_mc_41 : Cond.code yX4_findShortest cX4_findShortest 7 (none) ∈ lw_tbl := List.mem_of_getElem? (i := 1042) rfl
set_option maxRecDepth 100000 in
theorem pm_mi_41 : Cond.instanceMethod yX4_findShortest ∈ lw_tbl := List.mem_of_getElem? (i := 1040) rfl
set_option maxRecDepth 100000 in
theorem pm_me_41 : Cond.selects (pm_R 4) yX4_findShortest yX4_findShortest ∈ lw_tbl := List.mem_of_getElem? (i := 1041) rfl
set_option maxRecDepth 100000 in
theorem pm_mc_42 : Cond.code yX4_hasPlace cX4_hasPlace 2 (some (.boolean)) ∈ lw_tbl := List.mem_of_getElem? (i := 782) rfl
set_option maxRecDepth 100000 in
theorem pm_mi_42 : Cond.instanceMethod yX4_hasPlace ∈ lw_tbl := List.mem_of_getElem? (i := 780) rfl
set_option maxRecDepth 100000 in
theorem pm_me_42 : Cond.selects (pm_R 4) yX4_hasPlace yX4_hasPlace ∈ lw_tbl := List.mem_of_getElem? (i := 781) rfl
set_option maxRecDepth 100000 in
theorem pm_mc_43 : Cond.code yX4_hasWord cX4_hasWord 2 (some (.boolean)) ∈ lw_tbl := List.mem_of_getElem? (i := 709) rfl
set_option maxRecDepth 100000 in
theorem pm_mi_43 : Cond.instanceMethod yX4_hasWord ∈ lw_tbl := List.mem_of_getElem? (i := 707) rfl
set_option maxRecDepth 100000 in
theorem pm_me_43 : Cond.selects (pm_R 4) yX4_hasWord yX4_hasWord ∈ lw_tbl := List.mem_of_getElem? (i := 708) rfl
set_option maxRecDepth 100000 in
theorem pm_mc_44 : Cond.code yX4_meaningBehind cX4_meaningBehind 5 (some (.int)) ∈ lw_tbl := List.mem_of_getElem? (i := 908) rfl
set_option maxRecDepth 100000 in
theorem pm_mi_44 : Cond.instanceMethod yX4_meaningBehind ∈ lw_tbl := List.mem_of_getElem? (i := 906) rfl
set_option maxRecDepth 100000 in
theorem pm_me_44 : Cond.selects (pm_R 4) yX4_meaningBehind yX4_meaningBehind ∈ lw_tbl := List.mem_of_getElem? (i := 907) rfl
set_option maxRecDepth 100000 in
theorem pm_mc_45 : Cond.code yX4_meaningOf cX4_meaningOf 6 (some (.int)) ∈ lw_tbl := List.mem_of_getElem? (i := 904) rfl
set_option maxRecDepth 100000 in
theorem pm_mi_45 : Cond.instanceMethod yX4_meaningOf ∈ lw_tbl := List.mem_of_getElem? (i := 902) rfl
set_option maxRecDepth 100000 in
theorem pm_me_45 : Cond.selects (pm_R 4) yX4_meaningOf yX4_meaningOf ∈ lw_tbl := List.mem_of_getElem? (i := 903) rfl
set_option maxRecDepth 100000 in
theorem pm_mc_46 : Cond.code yX4_rulesNextTo cX4_rulesNextTo 7 (some (.int)) ∈ lw_tbl := List.mem_of_getElem? (i := 1054) rfl
set_option maxRecDepth 100000 in
theorem pm_mi_46 : Cond.instanceMethod yX4_rulesNextTo ∈ lw_tbl := List.mem_of_getElem? (i := 1053) rfl
set_option maxRecDepth 100000 in
theorem pm_me_46 : Cond.selects (pm_R 4) yX4_rulesNextTo yX4_rulesNextTo ∈ lw_tbl := List.mem_of_getElem? (i := 42) rfl
set_option maxRecDepth 100000 in
theorem pm_mc_47 : Cond.code yX4_rulesOfUse cX4_rulesOfUse 5 (some (.int)) ∈ lw_tbl := List.mem_of_getElem? (i := 1050) rfl
set_option maxRecDepth 100000 in
theorem pm_mi_47 : Cond.instanceMethod yX4_rulesOfUse ∈ lw_tbl := List.mem_of_getElem? (i := 1048) rfl
set_option maxRecDepth 100000 in
theorem pm_me_47 : Cond.selects (pm_R 4) yX4_rulesOfUse yX4_rulesOfUse ∈ lw_tbl := List.mem_of_getElem? (i := 1049) rfl
set_option maxRecDepth 100000 in
theorem pm_mc_48 : Cond.code yX4_sizeOfAlt cX4_sizeOfAlt 6 (some (.int)) ∈ lw_tbl := List.mem_of_getElem? (i := 1046) rfl
set_option maxRecDepth 100000 in
theorem pm_mi_48 : Cond.instanceMethod yX4_sizeOfAlt ∈ lw_tbl := List.mem_of_getElem? (i := 1045) rfl
set_option maxRecDepth 100000 in
theorem pm_me_48 : Cond.selects (pm_R 4) yX4_sizeOfAlt yX4_sizeOfAlt ∈ lw_tbl := List.mem_of_getElem? (i := 41) rfl
set_option maxRecDepth 100000 in
theorem pm_mc_49 : Cond.code yX4_symbolOf cX4_symbolOf 4 (some (.int)) ∈ lw_tbl := List.mem_of_getElem? (i := 685) rfl
set_option maxRecDepth 100000 in
theorem pm_mi_49 : Cond.instanceMethod yX4_symbolOf ∈ lw_tbl := List.mem_of_getElem? (i := 683) rfl
set_option maxRecDepth 100000 in
theorem pm_me_49 : Cond.selects (pm_R 4) yX4_symbolOf yX4_symbolOf ∈ lw_tbl := List.mem_of_getElem? (i := 684) rfl
set_option maxRecDepth 100000 in
theorem pm_mc_50 : Cond.code yX4_turnAt cX4_turnAt 2 (some (.int)) ∈ lw_tbl := List.mem_of_getElem? (i := 790) rfl
set_option maxRecDepth 100000 in
theorem pm_mi_50 : Cond.instanceMethod yX4_turnAt ∈ lw_tbl := List.mem_of_getElem? (i := 788) rfl
set_option maxRecDepth 100000 in
theorem pm_me_50 : Cond.selects (pm_R 4) yX4_turnAt yX4_turnAt ∈ lw_tbl := List.mem_of_getElem? (i := 789) rfl
set_option maxRecDepth 100000 in
theorem pm_mc_51 : Cond.code yX5_beginColumn cX5_beginColumn 9 (none) ∈ lw_tbl := List.mem_of_getElem? (i := 810) rfl
set_option maxRecDepth 100000 in
theorem pm_mi_51 : Cond.instanceMethod yX5_beginColumn ∈ lw_tbl := List.mem_of_getElem? (i := 809) rfl
set_option maxRecDepth 100000 in
theorem pm_me_51 : Cond.selects (pm_R 5) yX5_beginColumn yX5_beginColumn ∈ lw_tbl := List.mem_of_getElem? (i := 22) rfl
set_option maxRecDepth 100000 in
theorem pm_mc_52 : Cond.code yX5_fillColumn cX5_fillColumn 12 (none) ∈ lw_tbl := List.mem_of_getElem? (i := 806) rfl
set_option maxRecDepth 100000 in
theorem pm_mi_52 : Cond.instanceMethod yX5_fillColumn ∈ lw_tbl := List.mem_of_getElem? (i := 805) rfl
set_option maxRecDepth 100000 in
theorem pm_me_52 : Cond.selects (pm_R 5) yX5_fillColumn yX5_fillColumn ∈ lw_tbl := List.mem_of_getElem? (i := 21) rfl
set_option maxRecDepth 100000 in
theorem pm_mc_53 : Cond.code yX5_goOn cX5_goOn 5 (none) ∈ lw_tbl := List.mem_of_getElem? (i := 944) rfl
set_option maxRecDepth 100000 in
theorem pm_mi_53 : Cond.instanceMethod yX5_goOn ∈ lw_tbl := List.mem_of_getElem? (i := 942) rfl
set_option maxRecDepth 100000 in
theorem pm_me_53 : Cond.selects (pm_R 5) yX5_goOn yX5_goOn ∈ lw_tbl := List.mem_of_getElem? (i := 943) rfl
set_option maxRecDepth 100000 in
theorem pm_mc_54 : Cond.code yX5_nextWords cX5_nextWords 5 (some (.int)) ∈ lw_tbl := List.mem_of_getElem? (i := 820) rfl
set_option maxRecDepth 100000 in
theorem pm_mi_54 : Cond.instanceMethod yX5_nextWords ∈ lw_tbl := List.mem_of_getElem? (i := 818) rfl
set_option maxRecDepth 100000 in
theorem pm_me_54 : Cond.selects (pm_R 5) yX5_nextWords yX5_nextWords ∈ lw_tbl := List.mem_of_getElem? (i := 819) rfl
set_option maxRecDepth 100000 in
theorem pm_mc_55 : Cond.code yX5_readBeginning cX5_readBeginning 5 (none) ∈ lw_tbl := List.mem_of_getElem? (i := 802) rfl
set_option maxRecDepth 100000 in
theorem pm_mi_55 : Cond.instanceMethod yX5_readBeginning ∈ lw_tbl := List.mem_of_getElem? (i := 800) rfl
set_option maxRecDepth 100000 in
theorem pm_me_55 : Cond.selects (pm_R 5) yX5_readBeginning yX5_readBeginning ∈ lw_tbl := List.mem_of_getElem? (i := 801) rfl
set_option maxRecDepth 100000 in
theorem pm_mc_56 : Cond.code yX5_startsOfAlt cX5_startsOfAlt 14 (some (.long)) ∈ lw_tbl := List.mem_of_getElem? (i := 815) rfl
set_option maxRecDepth 100000 in
theorem pm_mi_56 : Cond.instanceMethod yX5_startsOfAlt ∈ lw_tbl := List.mem_of_getElem? (i := 814) rfl
set_option maxRecDepth 100000 in
theorem pm_me_56 : Cond.selects (pm_R 5) yX5_startsOfAlt yX5_startsOfAlt ∈ lw_tbl := List.mem_of_getElem? (i := 23) rfl
set_option maxRecDepth 100000 in
theorem pm_mc_57 : Cond.code yX6_agree cX6_agree 7 (some (.boolean)) ∈ lw_tbl := List.mem_of_getElem? (i := 1138) rfl
set_option maxRecDepth 100000 in
theorem pm_mi_57 : Cond.instanceMethod yX6_agree ∈ lw_tbl := List.mem_of_getElem? (i := 1136) rfl
set_option maxRecDepth 100000 in
theorem pm_me_57 : Cond.selects (pm_R 6) yX6_agree yX6_agree ∈ lw_tbl := List.mem_of_getElem? (i := 1137) rfl
set_option maxRecDepth 100000 in
theorem pm_mc_58 : Cond.code yX6_takeBack cX6_takeBack 2 (some (.boolean)) ∈ lw_tbl := List.mem_of_getElem? (i := 1125) rfl
set_option maxRecDepth 100000 in
theorem pm_mi_58 : Cond.instanceMethod yX6_takeBack ∈ lw_tbl := List.mem_of_getElem? (i := 1123) rfl
set_option maxRecDepth 100000 in
theorem pm_me_58 : Cond.selects (pm_R 6) yX6_takeBack yX6_takeBack ∈ lw_tbl := List.mem_of_getElem? (i := 1124) rfl
set_option maxRecDepth 100000 in
theorem pm_mc_59 : Cond.code yX6_tell cX6_tell 4 (some (.int)) ∈ lw_tbl := List.mem_of_getElem? (i := 1117) rfl
set_option maxRecDepth 100000 in
theorem pm_mi_59 : Cond.instanceMethod yX6_tell ∈ lw_tbl := List.mem_of_getElem? (i := 1115) rfl
set_option maxRecDepth 100000 in
theorem pm_me_59 : Cond.selects (pm_R 6) yX6_tell yX6_tell ∈ lw_tbl := List.mem_of_getElem? (i := 1116) rfl
set_option maxRecDepth 100000 in
theorem pm_mc_60 : Cond.code yX7_countOf cX7_countOf 6 (some (.int)) ∈ lw_tbl := List.mem_of_getElem? (i := 884) rfl
set_option maxRecDepth 100000 in
theorem pm_mi_60 : Cond.instanceMethod yX7_countOf ∈ lw_tbl := List.mem_of_getElem? (i := 882) rfl
set_option maxRecDepth 100000 in
theorem pm_me_60 : Cond.selects (pm_R 7) yX7_countOf yX7_countOf ∈ lw_tbl := List.mem_of_getElem? (i := 883) rfl
set_option maxRecDepth 100000 in
theorem pm_mc_61 : Cond.code yX7_fillColumn cX7_fillColumn 9 (none) ∈ lw_tbl := List.mem_of_getElem? (i := 888) rfl
set_option maxRecDepth 100000 in
theorem pm_mi_61 : Cond.instanceMethod yX7_fillColumn ∈ lw_tbl := List.mem_of_getElem? (i := 887) rfl
set_option maxRecDepth 100000 in
theorem pm_me_61 : Cond.selects (pm_R 7) yX7_fillColumn yX7_fillColumn ∈ lw_tbl := List.mem_of_getElem? (i := 27) rfl
set_option maxRecDepth 100000 in
theorem pm_mc_62 : Cond.code yX7_forget cX7_forget 1 (none) ∈ lw_tbl := List.mem_of_getElem? (i := 749) rfl
set_option maxRecDepth 100000 in
theorem pm_mi_62 : Cond.instanceMethod yX7_forget ∈ lw_tbl := List.mem_of_getElem? (i := 747) rfl
set_option maxRecDepth 100000 in
theorem pm_me_62 : Cond.selects (pm_R 7) yX7_forget yX7_forget ∈ lw_tbl := List.mem_of_getElem? (i := 748) rfl
set_option maxRecDepth 100000 in
theorem pm_mc_63 : Cond.code yX7_waysOfAlt cX7_waysOfAlt 12 (some (.int)) ∈ lw_tbl := List.mem_of_getElem? (i := 892) rfl
set_option maxRecDepth 100000 in
theorem pm_mi_63 : Cond.instanceMethod yX7_waysOfAlt ∈ lw_tbl := List.mem_of_getElem? (i := 891) rfl
set_option maxRecDepth 100000 in
theorem pm_me_63 : Cond.selects (pm_R 7) yX7_waysOfAlt yX7_waysOfAlt ∈ lw_tbl := List.mem_of_getElem? (i := 28) rfl
set_option maxRecDepth 100000 in
theorem pm_mc_64 : Cond.code yX8_advance cX8_advance 2 (none) ∈ lw_tbl := List.mem_of_getElem? (i := 651) rfl
set_option maxRecDepth 100000 in
theorem pm_mi_64 : Cond.instanceMethod yX8_advance ∈ lw_tbl := List.mem_of_getElem? (i := 649) rfl
set_option maxRecDepth 100000 in
theorem pm_me_64 : Cond.selects (pm_R 8) yX8_advance yX8_advance ∈ lw_tbl := List.mem_of_getElem? (i := 650) rfl
set_option maxRecDepth 100000 in
theorem pm_mc_65 : Cond.code yX8_begin cX8_begin 3 (none) ∈ lw_tbl := List.mem_of_getElem? (i := 644) rfl
set_option maxRecDepth 100000 in
theorem pm_mi_65 : Cond.instanceMethod yX8_begin ∈ lw_tbl := List.mem_of_getElem? (i := 642) rfl
set_option maxRecDepth 100000 in
theorem pm_me_65 : Cond.selects (pm_R 8) yX8_begin yX8_begin ∈ lw_tbl := List.mem_of_getElem? (i := 643) rfl
set_option maxRecDepth 100000 in
theorem pm_mc_66 : Cond.code yX8_refuse cX8_refuse 2 (some (.boolean)) ∈ lw_tbl := List.mem_of_getElem? (i := 663) rfl
set_option maxRecDepth 100000 in
theorem pm_mi_66 : Cond.instanceMethod yX8_refuse ∈ lw_tbl := List.mem_of_getElem? (i := 661) rfl
set_option maxRecDepth 100000 in
theorem pm_me_66 : Cond.selects (pm_R 8) yX8_refuse yX8_refuse ∈ lw_tbl := List.mem_of_getElem? (i := 662) rfl
set_option maxRecDepth 100000 in
theorem pm_mc_67 : Cond.code yX8_takeDigits cX8_takeDigits 2 (none) ∈ lw_tbl := List.mem_of_getElem? (i := 659) rfl
set_option maxRecDepth 100000 in
theorem pm_mi_67 : Cond.instanceMethod yX8_takeDigits ∈ lw_tbl := List.mem_of_getElem? (i := 658) rfl
set_option maxRecDepth 100000 in
theorem pm_me_67 : Cond.selects (pm_R 8) yX8_takeDigits yX8_takeDigits ∈ lw_tbl := List.mem_of_getElem? (i := 2) rfl
set_option maxRecDepth 100000 in
theorem pm_mc_68 : Cond.code yX8_takeLetters cX8_takeLetters 2 (none) ∈ lw_tbl := List.mem_of_getElem? (i := 655) rfl
set_option maxRecDepth 100000 in
theorem pm_mi_68 : Cond.instanceMethod yX8_takeLetters ∈ lw_tbl := List.mem_of_getElem? (i := 654) rfl
set_option maxRecDepth 100000 in
theorem pm_me_68 : Cond.selects (pm_R 8) yX8_takeLetters yX8_takeLetters ∈ lw_tbl := List.mem_of_getElem? (i := 1) rfl
set_option maxRecDepth 100000 in
theorem pm_mc_69 : Cond.code yX9_add cX9_add 6 (none) ∈ lw_tbl := List.mem_of_getElem? (i := 935) rfl
set_option maxRecDepth 100000 in
theorem pm_mi_69 : Cond.instanceMethod yX9_add ∈ lw_tbl := List.mem_of_getElem? (i := 934) rfl
set_option maxRecDepth 100000 in
theorem pm_me_69 : Cond.selects (pm_R 9) yX9_add yX9_add ∈ lw_tbl := List.mem_of_getElem? (i := 32) rfl
set_option maxRecDepth 100000 in
theorem pm_mc_70 : Cond.code yX9_addRoot cX9_addRoot 4 (none) ∈ lw_tbl := List.mem_of_getElem? (i := 924) rfl
set_option maxRecDepth 100000 in
theorem pm_mi_70 : Cond.instanceMethod yX9_addRoot ∈ lw_tbl := List.mem_of_getElem? (i := 923) rfl
set_option maxRecDepth 100000 in
theorem pm_me_70 : Cond.selects (pm_R 9) yX9_addRoot yX9_addRoot ∈ lw_tbl := List.mem_of_getElem? (i := 30) rfl
set_option maxRecDepth 100000 in
theorem pm_mc_71 : Cond.code yX9_forget cX9_forget 1 (none) ∈ lw_tbl := List.mem_of_getElem? (i := 753) rfl
set_option maxRecDepth 100000 in
theorem pm_mi_71 : Cond.instanceMethod yX9_forget ∈ lw_tbl := List.mem_of_getElem? (i := 751) rfl
set_option maxRecDepth 100000 in
theorem pm_me_71 : Cond.selects (pm_R 9) yX9_forget yX9_forget ∈ lw_tbl := List.mem_of_getElem? (i := 752) rfl
set_option maxRecDepth 100000 in
theorem pm_mc_72 : Cond.code yX9_grow cX9_grow 8 (none) ∈ lw_tbl := List.mem_of_getElem? (i := 930) rfl
set_option maxRecDepth 100000 in
theorem pm_mi_72 : Cond.instanceMethod yX9_grow ∈ lw_tbl := List.mem_of_getElem? (i := 929) rfl
set_option maxRecDepth 100000 in
theorem pm_me_72 : Cond.selects (pm_R 9) yX9_grow yX9_grow ∈ lw_tbl := List.mem_of_getElem? (i := 31) rfl
set_option maxRecDepth 100000 in
theorem pm_mc_73 : Cond.code yX9_growBehind cX9_growBehind 5 (none) ∈ lw_tbl := List.mem_of_getElem? (i := 940) rfl
set_option maxRecDepth 100000 in
theorem pm_mi_73 : Cond.instanceMethod yX9_growBehind ∈ lw_tbl := List.mem_of_getElem? (i := 939) rfl
set_option maxRecDepth 100000 in
theorem pm_me_73 : Cond.selects (pm_R 9) yX9_growBehind yX9_growBehind ∈ lw_tbl := List.mem_of_getElem? (i := 33) rfl
set_option maxRecDepth 100000 in
theorem pm_mc_74 : Cond.code yX9_growFrom cX9_growFrom 8 (none) ∈ lw_tbl := List.mem_of_getElem? (i := 920) rfl
set_option maxRecDepth 100000 in
theorem pm_mi_74 : Cond.instanceMethod yX9_growFrom ∈ lw_tbl := List.mem_of_getElem? (i := 918) rfl
set_option maxRecDepth 100000 in
theorem pm_me_74 : Cond.selects (pm_R 9) yX9_growFrom yX9_growFrom ∈ lw_tbl := List.mem_of_getElem? (i := 919) rfl
set_option maxRecDepth 100000 in
theorem pm_mc_75 : Cond.code yX9_hasCharters cX9_hasCharters 1 (some (.boolean)) ∈ lw_tbl := List.mem_of_getElem? (i := 948) rfl
set_option maxRecDepth 100000 in
theorem pm_mi_75 : Cond.instanceMethod yX9_hasCharters ∈ lw_tbl := List.mem_of_getElem? (i := 946) rfl
set_option maxRecDepth 100000 in
theorem pm_me_75 : Cond.selects (pm_R 9) yX9_hasCharters yX9_hasCharters ∈ lw_tbl := List.mem_of_getElem? (i := 947) rfl
set_option maxRecDepth 100000 in
theorem pm_mc_76 : Cond.code yX9_isCharter cX9_isCharter 2 (some (.boolean)) ∈ lw_tbl := List.mem_of_getElem? (i := 964) rfl
set_option maxRecDepth 100000 in
theorem pm_mi_76 : Cond.instanceMethod yX9_isCharter ∈ lw_tbl := List.mem_of_getElem? (i := 962) rfl
set_option maxRecDepth 100000 in
theorem pm_me_76 : Cond.selects (pm_R 9) yX9_isCharter yX9_isCharter ∈ lw_tbl := List.mem_of_getElem? (i := 963) rfl
set_option maxRecDepth 100000 in
theorem pm_mc_77 : Cond.code yX9_wordAt cX9_wordAt 3 (some (.int)) ∈ lw_tbl := List.mem_of_getElem? (i := 980) rfl
set_option maxRecDepth 100000 in
theorem pm_mi_77 : Cond.instanceMethod yX9_wordAt ∈ lw_tbl := List.mem_of_getElem? (i := 978) rfl
set_option maxRecDepth 100000 in
theorem pm_me_77 : Cond.selects (pm_R 9) yX9_wordAt yX9_wordAt ∈ lw_tbl := List.mem_of_getElem? (i := 979) rfl
set_option maxRecDepth 100000 in
theorem pm_mc_78 : Cond.code yX9_wordsInto cX9_wordsInto 4 (none) ∈ lw_tbl := List.mem_of_getElem? (i := 1071) rfl
set_option maxRecDepth 100000 in
theorem pm_mi_78 : Cond.instanceMethod yX9_wordsInto ∈ lw_tbl := List.mem_of_getElem? (i := 1069) rfl
set_option maxRecDepth 100000 in
theorem pm_me_78 : Cond.selects (pm_R 9) yX9_wordsInto yX9_wordsInto ∈ lw_tbl := List.mem_of_getElem? (i := 1070) rfl
set_option maxRecDepth 100000 in
theorem pm_mc_79 : Cond.code yX10_about cX10_about 2 (some (.int)) ∈ lw_tbl := List.mem_of_getElem? (i := 1161) rfl
set_option maxRecDepth 100000 in
theorem pm_mi_79 : Cond.instanceMethod yX10_about ∈ lw_tbl := List.mem_of_getElem? (i := 1159) rfl
set_option maxRecDepth 100000 in
theorem pm_me_79 : Cond.selects (pm_R 10) yX10_about yX10_about ∈ lw_tbl := List.mem_of_getElem? (i := 1160) rfl
set_option maxRecDepth 100000 in
theorem pm_mc_80 : Cond.code yX10_back cX10_back 2 (some (.int)) ∈ lw_tbl := List.mem_of_getElem? (i := 1152) rfl
set_option maxRecDepth 100000 in
theorem pm_mi_80 : Cond.instanceMethod yX10_back ∈ lw_tbl := List.mem_of_getElem? (i := 1150) rfl
set_option maxRecDepth 100000 in
theorem pm_me_80 : Cond.selects (pm_R 10) yX10_back yX10_back ∈ lw_tbl := List.mem_of_getElem? (i := 1151) rfl
set_option maxRecDepth 100000 in
theorem pm_mc_81 : Cond.code yX10_behind cX10_behind 4 (some (.int)) ∈ lw_tbl := List.mem_of_getElem? (i := 774) rfl
set_option maxRecDepth 100000 in
theorem pm_mi_81 : Cond.instanceMethod yX10_behind ∈ lw_tbl := List.mem_of_getElem? (i := 772) rfl
set_option maxRecDepth 100000 in
theorem pm_me_81 : Cond.selects (pm_R 10) yX10_behind yX10_behind ∈ lw_tbl := List.mem_of_getElem? (i := 773) rfl
set_option maxRecDepth 100000 in
theorem pm_mc_82 : Cond.code yX10_best cX10_best 5 (some (.int)) ∈ lw_tbl := List.mem_of_getElem? (i := 1097) rfl
set_option maxRecDepth 100000 in
theorem pm_mi_82 : Cond.instanceMethod yX10_best ∈ lw_tbl := List.mem_of_getElem? (i := 1095) rfl
set_option maxRecDepth 100000 in
theorem pm_me_82 : Cond.selects (pm_R 10) yX10_best yX10_best ∈ lw_tbl := List.mem_of_getElem? (i := 1096) rfl
set_option maxRecDepth 100000 in
theorem pm_mc_83 : Cond.code yX10_bribe cX10_bribe 4 (some (.int)) ∈ lw_tbl := List.mem_of_getElem? (i := 1030) rfl
set_option maxRecDepth 100000 in
theorem pm_mi_83 : Cond.instanceMethod yX10_bribe ∈ lw_tbl := List.mem_of_getElem? (i := 1028) rfl
set_option maxRecDepth 100000 in
theorem pm_me_83 : Cond.selects (pm_R 10) yX10_bribe yX10_bribe ∈ lw_tbl := List.mem_of_getElem? (i := 1029) rfl
set_option maxRecDepth 100000 in
theorem pm_mc_84 : Cond.code yX10_doubtful cX10_doubtful 4 (some (.int)) ∈ lw_tbl := List.mem_of_getElem? (i := 1062) rfl
set_option maxRecDepth 100000 in
theorem pm_mi_84 : Cond.instanceMethod yX10_doubtful ∈ lw_tbl := List.mem_of_getElem? (i := 1060) rfl
set_option maxRecDepth 100000 in
theorem pm_me_84 : Cond.selects (pm_R 10) yX10_doubtful yX10_doubtful ∈ lw_tbl := List.mem_of_getElem? (i := 1061) rfl
set_option maxRecDepth 100000 in
theorem pm_mc_85 : Cond.code yX10_end cX10_end 2 (some (.int)) ∈ lw_tbl := List.mem_of_getElem? (i := 627) rfl
set_option maxRecDepth 100000 in
theorem pm_mi_85 : Cond.instanceMethod yX10_end ∈ lw_tbl := List.mem_of_getElem? (i := 625) rfl
set_option maxRecDepth 100000 in
theorem pm_me_85 : Cond.selects (pm_R 10) yX10_end yX10_end ∈ lw_tbl := List.mem_of_getElem? (i := 626) rfl
set_option maxRecDepth 100000 in
theorem pm_mc_86 : Cond.code yX10_fault cX10_fault 2 (some (.int)) ∈ lw_tbl := List.mem_of_getElem? (i := 761) rfl
set_option maxRecDepth 100000 in
theorem pm_mi_86 : Cond.instanceMethod yX10_fault ∈ lw_tbl := List.mem_of_getElem? (i := 759) rfl
set_option maxRecDepth 100000 in
theorem pm_me_86 : Cond.selects (pm_R 10) yX10_fault yX10_fault ∈ lw_tbl := List.mem_of_getElem? (i := 760) rfl
set_option maxRecDepth 100000 in
theorem pm_mc_87 : Cond.code yX10_feed cX10_feed 6 (some (.int)) ∈ lw_tbl := List.mem_of_getElem? (i := 619) rfl
set_option maxRecDepth 100000 in
theorem pm_mi_87 : Cond.instanceMethod yX10_feed ∈ lw_tbl := List.mem_of_getElem? (i := 617) rfl
set_option maxRecDepth 100000 in
theorem pm_me_87 : Cond.selects (pm_R 10) yX10_feed yX10_feed ∈ lw_tbl := List.mem_of_getElem? (i := 618) rfl
set_option maxRecDepth 100000 in
theorem pm_mc_88 : Cond.code yX10_fit cX10_fit 4 (some (.int)) ∈ lw_tbl := List.mem_of_getElem? (i := 1089) rfl
set_option maxRecDepth 100000 in
theorem pm_mi_88 : Cond.instanceMethod yX10_fit ∈ lw_tbl := List.mem_of_getElem? (i := 1087) rfl
set_option maxRecDepth 100000 in
theorem pm_me_88 : Cond.selects (pm_R 10) yX10_fit yX10_fit ∈ lw_tbl := List.mem_of_getElem? (i := 1088) rfl
set_option maxRecDepth 100000 in
theorem pm_mc_89 : Cond.code yX10_forgetOldPort cX10_forgetOldPort 2 (none) ∈ lw_tbl := List.mem_of_getElem? (i := 737) rfl
set_option maxRecDepth 100000 in
theorem pm_mi_89 : Cond.instanceMethod yX10_forgetOldPort ∈ lw_tbl := List.mem_of_getElem? (i := 736) rfl
set_option maxRecDepth 100000 in
theorem pm_me_89 : Cond.selects (pm_R 10) yX10_forgetOldPort yX10_forgetOldPort ∈ lw_tbl := List.mem_of_getElem? (i := 18) rfl
set_option maxRecDepth 100000 in
theorem pm_mc_90 : Cond.code yX10_growEarnest cX10_growEarnest 2 (some (.object "GuildCharter$Tree")) ∈ lw_tbl := List.mem_of_getElem? (i := 916) rfl
set_option maxRecDepth 100000 in
theorem pm_mi_90 : Cond.instanceMethod yX10_growEarnest ∈ lw_tbl := List.mem_of_getElem? (i := 915) rfl
set_option maxRecDepth 100000 in
theorem pm_me_90 : Cond.selects (pm_R 10) yX10_growEarnest yX10_growEarnest ∈ lw_tbl := List.mem_of_getElem? (i := 29) rfl
set_option maxRecDepth 100000 in
theorem pm_mc_91 : Cond.code yX10_growHoles cX10_growHoles 2 (some (.object "GuildCharter$Tree")) ∈ lw_tbl := List.mem_of_getElem? (i := 1093) rfl
set_option maxRecDepth 100000 in
theorem pm_mi_91 : Cond.instanceMethod yX10_growHoles ∈ lw_tbl := List.mem_of_getElem? (i := 1092) rfl
set_option maxRecDepth 100000 in
theorem pm_me_91 : Cond.selects (pm_R 10) yX10_growHoles yX10_growHoles ∈ lw_tbl := List.mem_of_getElem? (i := 44) rfl
set_option maxRecDepth 100000 in
theorem pm_mc_92 : Cond.code yX10_growWhole cX10_growWhole 1 (some (.object "GuildCharter$Tree")) ∈ lw_tbl := List.mem_of_getElem? (i := 1066) rfl
set_option maxRecDepth 100000 in
theorem pm_mi_92 : Cond.instanceMethod yX10_growWhole ∈ lw_tbl := List.mem_of_getElem? (i := 1065) rfl
set_option maxRecDepth 100000 in
theorem pm_me_92 : Cond.selects (pm_R 10) yX10_growWhole yX10_growWhole ∈ lw_tbl := List.mem_of_getElem? (i := 43) rfl
set_option maxRecDepth 100000 in
theorem pm_mc_93 : Cond.code yX10_held cX10_held 3 (some (.int)) ∈ lw_tbl := List.mem_of_getElem? (i := 990) rfl
set_option maxRecDepth 100000 in
theorem pm_mi_93 : Cond.instanceMethod yX10_held ∈ lw_tbl := List.mem_of_getElem? (i := 988) rfl
set_option maxRecDepth 100000 in
theorem pm_me_93 : Cond.selects (pm_R 10) yX10_held yX10_held ∈ lw_tbl := List.mem_of_getElem? (i := 989) rfl
set_option maxRecDepth 100000 in
theorem pm_mc_94 : Cond.code yX10_hole cX10_hole 4 (some (.boolean)) ∈ lw_tbl := List.mem_of_getElem? (i := 1085) rfl
set_option maxRecDepth 100000 in
theorem pm_mi_94 : Cond.instanceMethod yX10_hole ∈ lw_tbl := List.mem_of_getElem? (i := 1083) rfl
set_option maxRecDepth 100000 in
theorem pm_me_94 : Cond.selects (pm_R 10) yX10_hole yX10_hole ∈ lw_tbl := List.mem_of_getElem? (i := 1084) rfl
set_option maxRecDepth 100000 in
theorem pm_mc_95 : Cond.code yX10_image cX10_image 2 (some (.int)) ∈ lw_tbl := List.mem_of_getElem? (i := 1143) rfl
set_option maxRecDepth 100000 in
theorem pm_mi_95 : Cond.instanceMethod yX10_image ∈ lw_tbl := List.mem_of_getElem? (i := 1141) rfl
set_option maxRecDepth 100000 in
theorem pm_me_95 : Cond.selects (pm_R 10) yX10_image yX10_image ∈ lw_tbl := List.mem_of_getElem? (i := 1142) rfl
set_option maxRecDepth 100000 in
theorem pm_mc_96 : Cond.code yX10_isGuild cX10_isGuild 1 (some (.boolean)) ∈ lw_tbl := List.mem_of_getElem? (i := 769) rfl
set_option maxRecDepth 100000 in
theorem pm_ms_96 : Cond.static yX10_isGuild ∈ lw_tbl := List.mem_of_getElem? (i := 768) rfl
set_option maxRecDepth 100000 in
theorem pm_mc_97 : Cond.code yX10_isUnwritten cX10_isUnwritten 2 (some (.boolean)) ∈ lw_tbl := List.mem_of_getElem? (i := 847) rfl
set_option maxRecDepth 100000 in
theorem pm_mi_97 : Cond.instanceMethod yX10_isUnwritten ∈ lw_tbl := List.mem_of_getElem? (i := 846) rfl
set_option maxRecDepth 100000 in
theorem pm_me_97 : Cond.selects (pm_R 10) yX10_isUnwritten yX10_isUnwritten ∈ lw_tbl := List.mem_of_getElem? (i := 26) rfl
set_option maxRecDepth 100000 in
theorem pm_mc_98 : Cond.code yX10_later cX10_later 2 (some (.int)) ∈ lw_tbl := List.mem_of_getElem? (i := 1129) rfl
set_option maxRecDepth 100000 in
theorem pm_mi_98 : Cond.instanceMethod yX10_later ∈ lw_tbl := List.mem_of_getElem? (i := 1127) rfl
set_option maxRecDepth 100000 in
theorem pm_me_98 : Cond.selects (pm_R 10) yX10_later yX10_later ∈ lw_tbl := List.mem_of_getElem? (i := 1128) rfl
set_option maxRecDepth 100000 in
theorem pm_mc_99 : Cond.code yX10_lay cX10_lay 4 (none) ∈ lw_tbl := List.mem_of_getElem? (i := 985) rfl
set_option maxRecDepth 100000 in
theorem pm_mi_99 : Cond.instanceMethod yX10_lay ∈ lw_tbl := List.mem_of_getElem? (i := 984) rfl
set_option maxRecDepth 100000 in
theorem pm_me_99 : Cond.selects (pm_R 10) yX10_lay yX10_lay ∈ lw_tbl := List.mem_of_getElem? (i := 39) rfl
set_option maxRecDepth 100000 in
theorem pm_mc_100 : Cond.code yX10_lies cX10_lies 2 (some (.int)) ∈ lw_tbl := List.mem_of_getElem? (i := 1109) rfl
set_option maxRecDepth 100000 in
theorem pm_mi_100 : Cond.instanceMethod yX10_lies ∈ lw_tbl := List.mem_of_getElem? (i := 1107) rfl
set_option maxRecDepth 100000 in
theorem pm_me_100 : Cond.selects (pm_R 10) yX10_lies yX10_lies ∈ lw_tbl := List.mem_of_getElem? (i := 1108) rfl
set_option maxRecDepth 100000 in
theorem pm_mc_101 : Cond.code yX10_lots cX10_lots 5 (some (.int)) ∈ lw_tbl := List.mem_of_getElem? (i := 1076) rfl
set_option maxRecDepth 100000 in
theorem pm_mi_101 : Cond.instanceMethod yX10_lots ∈ lw_tbl := List.mem_of_getElem? (i := 1074) rfl
set_option maxRecDepth 100000 in
theorem pm_me_101 : Cond.selects (pm_R 10) yX10_lots yX10_lots ∈ lw_tbl := List.mem_of_getElem? (i := 1075) rfl
set_option maxRecDepth 100000 in
theorem pm_mc_102 : Cond.code yX10_means cX10_means 2 (some (.int)) ∈ lw_tbl := List.mem_of_getElem? (i := 900) rfl
set_option maxRecDepth 100000 in
theorem pm_mi_102 : Cond.instanceMethod yX10_means ∈ lw_tbl := List.mem_of_getElem? (i := 898) rfl
set_option maxRecDepth 100000 in
theorem pm_me_102 : Cond.selects (pm_R 10) yX10_means yX10_means ∈ lw_tbl := List.mem_of_getElem? (i := 899) rfl
set_option maxRecDepth 100000 in
theorem pm_mc_103 : Cond.code yX10_next cX10_next 1 (some (.int)) ∈ lw_tbl := List.mem_of_getElem? (i := 876) rfl
set_option maxRecDepth 100000 in
theorem pm_mi_103 : Cond.instanceMethod yX10_next ∈ lw_tbl := List.mem_of_getElem? (i := 874) rfl
set_option maxRecDepth 100000 in
theorem pm_me_103 : Cond.selects (pm_R 10) yX10_next yX10_next ∈ lw_tbl := List.mem_of_getElem? (i := 875) rfl
set_option maxRecDepth 100000 in
theorem pm_mc_104 : Cond.code yX10_nextInEarnest cX10_nextInEarnest 1 (some (.int)) ∈ lw_tbl := List.mem_of_getElem? (i := 798) rfl
set_option maxRecDepth 100000 in
theorem pm_mi_104 : Cond.instanceMethod yX10_nextInEarnest ∈ lw_tbl := List.mem_of_getElem? (i := 797) rfl
set_option maxRecDepth 100000 in
theorem pm_me_104 : Cond.selects (pm_R 10) yX10_nextInEarnest yX10_nextInEarnest ∈ lw_tbl := List.mem_of_getElem? (i := 20) rfl
set_option maxRecDepth 100000 in
theorem pm_mc_105 : Cond.code yX10_orders cX10_orders 5 (some (.int)) ∈ lw_tbl := List.mem_of_getElem? (i := 1134) rfl
set_option maxRecDepth 100000 in
theorem pm_mi_105 : Cond.instanceMethod yX10_orders ∈ lw_tbl := List.mem_of_getElem? (i := 1132) rfl
set_option maxRecDepth 100000 in
theorem pm_me_105 : Cond.selects (pm_R 10) yX10_orders yX10_orders ∈ lw_tbl := List.mem_of_getElem? (i := 1133) rfl
set_option maxRecDepth 100000 in
theorem pm_mc_106 : Cond.code yX10_ownAsInEarnest cX10_ownAsInEarnest 2 (none) ∈ lw_tbl := List.mem_of_getElem? (i := 952) rfl
set_option maxRecDepth 100000 in
theorem pm_mi_106 : Cond.instanceMethod yX10_ownAsInEarnest ∈ lw_tbl := List.mem_of_getElem? (i := 951) rfl
set_option maxRecDepth 100000 in
theorem pm_me_106 : Cond.selects (pm_R 10) yX10_ownAsInEarnest yX10_ownAsInEarnest ∈ lw_tbl := List.mem_of_getElem? (i := 34) rfl
set_option maxRecDepth 100000 in
theorem pm_mc_107 : Cond.code yX10_ownerInEarnest cX10_ownerInEarnest 2 (some (.int)) ∈ lw_tbl := List.mem_of_getElem? (i := 786) rfl
set_option maxRecDepth 100000 in
theorem pm_mi_107 : Cond.instanceMethod yX10_ownerInEarnest ∈ lw_tbl := List.mem_of_getElem? (i := 785) rfl
set_option maxRecDepth 100000 in
theorem pm_me_107 : Cond.selects (pm_R 10) yX10_ownerInEarnest yX10_ownerInEarnest ∈ lw_tbl := List.mem_of_getElem? (i := 19) rfl
set_option maxRecDepth 100000 in
theorem pm_mc_108 : Cond.code yX10_port cX10_port 2 (some (.int)) ∈ lw_tbl := List.mem_of_getElem? (i := 631) rfl
set_option maxRecDepth 100000 in
theorem pm_mi_108 : Cond.instanceMethod yX10_port ∈ lw_tbl := List.mem_of_getElem? (i := 629) rfl
set_option maxRecDepth 100000 in
theorem pm_me_108 : Cond.selects (pm_R 10) yX10_port yX10_port ∈ lw_tbl := List.mem_of_getElem? (i := 630) rfl
set_option maxRecDepth 100000 in
theorem pm_mc_109 : Cond.code yX10_readings cX10_readings 1 (some (.int)) ∈ lw_tbl := List.mem_of_getElem? (i := 880) rfl
set_option maxRecDepth 100000 in
theorem pm_mi_109 : Cond.instanceMethod yX10_readings ∈ lw_tbl := List.mem_of_getElem? (i := 878) rfl
set_option maxRecDepth 100000 in
theorem pm_me_109 : Cond.selects (pm_R 10) yX10_readings yX10_readings ∈ lw_tbl := List.mem_of_getElem? (i := 879) rfl
set_option maxRecDepth 100000 in
theorem pm_mc_110 : Cond.code yX10_redo cX10_redo 1 (some (.boolean)) ∈ lw_tbl := List.mem_of_getElem? (i := 863) rfl
set_option maxRecDepth 100000 in
theorem pm_mi_110 : Cond.instanceMethod yX10_redo ∈ lw_tbl := List.mem_of_getElem? (i := 861) rfl
set_option maxRecDepth 100000 in
theorem pm_me_110 : Cond.selects (pm_R 10) yX10_redo yX10_redo ∈ lw_tbl := List.mem_of_getElem? (i := 862) rfl
set_option maxRecDepth 100000 in
theorem pm_mc_111 : Cond.code yX10_seen cX10_seen 4 (some (.int)) ∈ lw_tbl := List.mem_of_getElem? (i := 1113) rfl
set_option maxRecDepth 100000 in
theorem pm_mi_111 : Cond.instanceMethod yX10_seen ∈ lw_tbl := List.mem_of_getElem? (i := 1111) rfl
set_option maxRecDepth 100000 in
theorem pm_me_111 : Cond.selects (pm_R 10) yX10_seen yX10_seen ∈ lw_tbl := List.mem_of_getElem? (i := 1112) rfl
set_option maxRecDepth 100000 in
theorem pm_mc_112 : Cond.code yX10_sell cX10_sell 4 (some (.int)) ∈ lw_tbl := List.mem_of_getElem? (i := 843) rfl
set_option maxRecDepth 100000 in
theorem pm_mi_112 : Cond.instanceMethod yX10_sell ∈ lw_tbl := List.mem_of_getElem? (i := 841) rfl
set_option maxRecDepth 100000 in
theorem pm_me_112 : Cond.selects (pm_R 10) yX10_sell yX10_sell ∈ lw_tbl := List.mem_of_getElem? (i := 842) rfl
set_option maxRecDepth 100000 in
theorem pm_mc_113 : Cond.code yX10_share cX10_share 6 (some (.int)) ∈ lw_tbl := List.mem_of_getElem? (i := 1008) rfl
set_option maxRecDepth 100000 in
theorem pm_mi_113 : Cond.instanceMethod yX10_share ∈ lw_tbl := List.mem_of_getElem? (i := 1006) rfl
set_option maxRecDepth 100000 in
theorem pm_me_113 : Cond.selects (pm_R 10) yX10_share yX10_share ∈ lw_tbl := List.mem_of_getElem? (i := 1007) rfl
set_option maxRecDepth 100000 in
theorem pm_mc_114 : Cond.code yX10_shortest cX10_shortest 2 (some (.int)) ∈ lw_tbl := List.mem_of_getElem? (i := 1058) rfl
set_option maxRecDepth 100000 in
theorem pm_mi_114 : Cond.instanceMethod yX10_shortest ∈ lw_tbl := List.mem_of_getElem? (i := 1056) rfl
set_option maxRecDepth 100000 in
theorem pm_me_114 : Cond.selects (pm_R 10) yX10_shortest yX10_shortest ∈ lw_tbl := List.mem_of_getElem? (i := 1057) rfl
set_option maxRecDepth 100000 in
theorem pm_mc_115 : Cond.code yX10_sixShares cX10_sixShares 7 (some (.int)) ∈ lw_tbl := List.mem_of_getElem? (i := 1012) rfl
set_option maxRecDepth 100000 in
theorem pm_mi_115 : Cond.instanceMethod yX10_sixShares ∈ lw_tbl := List.mem_of_getElem? (i := 1011) rfl
set_option maxRecDepth 100000 in
theorem pm_me_115 : Cond.selects (pm_R 10) yX10_sixShares yX10_sixShares ∈ lw_tbl := List.mem_of_getElem? (i := 40) rfl
set_option maxRecDepth 100000 in
theorem pm_mc_116 : Cond.code yX10_struck cX10_struck 7 (some (.int)) ∈ lw_tbl := List.mem_of_getElem? (i := 1101) rfl
set_option maxRecDepth 100000 in
theorem pm_mi_116 : Cond.instanceMethod yX10_struck ∈ lw_tbl := List.mem_of_getElem? (i := 1099) rfl
set_option maxRecDepth 100000 in
theorem pm_me_116 : Cond.selects (pm_R 10) yX10_struck yX10_struck ∈ lw_tbl := List.mem_of_getElem? (i := 1100) rfl
set_option maxRecDepth 100000 in
theorem pm_mc_117 : Cond.code yX10_swap cX10_swap 2 (some (.int)) ∈ lw_tbl := List.mem_of_getElem? (i := 1018) rfl
set_option maxRecDepth 100000 in
theorem pm_mi_117 : Cond.instanceMethod yX10_swap ∈ lw_tbl := List.mem_of_getElem? (i := 1016) rfl
set_option maxRecDepth 100000 in
theorem pm_me_117 : Cond.selects (pm_R 10) yX10_swap yX10_swap ∈ lw_tbl := List.mem_of_getElem? (i := 1017) rfl
set_option maxRecDepth 100000 in
theorem pm_mc_118 : Cond.code yX10_tapeNumber cX10_tapeNumber 3 (none) ∈ lw_tbl := List.mem_of_getElem? (i := 623) rfl
set_option maxRecDepth 100000 in
theorem pm_mi_118 : Cond.instanceMethod yX10_tapeNumber ∈ lw_tbl := List.mem_of_getElem? (i := 622) rfl
set_option maxRecDepth 100000 in
theorem pm_me_118 : Cond.selects (pm_R 10) yX10_tapeNumber yX10_tapeNumber ∈ lw_tbl := List.mem_of_getElem? (i := 0) rfl
set_option maxRecDepth 100000 in
theorem pm_mc_119 : Cond.code yX10_turn cX10_turn 2 (some (.int)) ∈ lw_tbl := List.mem_of_getElem? (i := 778) rfl
set_option maxRecDepth 100000 in
theorem pm_mi_119 : Cond.instanceMethod yX10_turn ∈ lw_tbl := List.mem_of_getElem? (i := 776) rfl
set_option maxRecDepth 100000 in
theorem pm_me_119 : Cond.selects (pm_R 10) yX10_turn yX10_turn ∈ lw_tbl := List.mem_of_getElem? (i := 777) rfl
set_option maxRecDepth 100000 in
theorem pm_mc_120 : Cond.code yX10_undo cX10_undo 1 (some (.boolean)) ∈ lw_tbl := List.mem_of_getElem? (i := 855) rfl
set_option maxRecDepth 100000 in
theorem pm_mi_120 : Cond.instanceMethod yX10_undo ∈ lw_tbl := List.mem_of_getElem? (i := 853) rfl
set_option maxRecDepth 100000 in
theorem pm_me_120 : Cond.selects (pm_R 10) yX10_undo yX10_undo ∈ lw_tbl := List.mem_of_getElem? (i := 854) rfl
set_option maxRecDepth 100000 in
theorem pm_mc_121 : Cond.code yX10_untell cX10_untell 2 (some (.boolean)) ∈ lw_tbl := List.mem_of_getElem? (i := 1121) rfl
set_option maxRecDepth 100000 in
theorem pm_mi_121 : Cond.instanceMethod yX10_untell ∈ lw_tbl := List.mem_of_getElem? (i := 1119) rfl
set_option maxRecDepth 100000 in
theorem pm_me_121 : Cond.selects (pm_R 10) yX10_untell yX10_untell ∈ lw_tbl := List.mem_of_getElem? (i := 1120) rfl
set_option maxRecDepth 100000 in
theorem pm_mc_122 : Cond.code yX10_used cX10_used 1 (some (.int)) ∈ lw_tbl := List.mem_of_getElem? (i := 1038) rfl
set_option maxRecDepth 100000 in
theorem pm_mi_122 : Cond.instanceMethod yX10_used ∈ lw_tbl := List.mem_of_getElem? (i := 1036) rfl
set_option maxRecDepth 100000 in
theorem pm_me_122 : Cond.selects (pm_R 10) yX10_used yX10_used ∈ lw_tbl := List.mem_of_getElem? (i := 1037) rfl
set_option maxRecDepth 100000 in
theorem pm_mc_123 : Cond.code yX10_wipe cX10_wipe 2 (some (.int)) ∈ lw_tbl := List.mem_of_getElem? (i := 868) rfl
set_option maxRecDepth 100000 in
theorem pm_mi_123 : Cond.instanceMethod yX10_wipe ∈ lw_tbl := List.mem_of_getElem? (i := 866) rfl
set_option maxRecDepth 100000 in
theorem pm_me_123 : Cond.selects (pm_R 10) yX10_wipe yX10_wipe ∈ lw_tbl := List.mem_of_getElem? (i := 867) rfl
set_option maxRecDepth 100000 in
theorem pm_mc_124 : Cond.code yX10_word cX10_word 2 (some (.int)) ∈ lw_tbl := List.mem_of_getElem? (i := 872) rfl
set_option maxRecDepth 100000 in
theorem pm_mi_124 : Cond.instanceMethod yX10_word ∈ lw_tbl := List.mem_of_getElem? (i := 870) rfl
set_option maxRecDepth 100000 in
theorem pm_me_124 : Cond.selects (pm_R 10) yX10_word yX10_word ∈ lw_tbl := List.mem_of_getElem? (i := 871) rfl
set_option maxRecDepth 100000 in
theorem pm_mc_125 : Cond.code yX10_worth cX10_worth 3 (some (.int)) ∈ lw_tbl := List.mem_of_getElem? (i := 765) rfl
set_option maxRecDepth 100000 in
theorem pm_mi_125 : Cond.instanceMethod yX10_worth ∈ lw_tbl := List.mem_of_getElem? (i := 763) rfl
set_option maxRecDepth 100000 in
theorem pm_me_125 : Cond.selects (pm_R 10) yX10_worth yX10_worth ∈ lw_tbl := List.mem_of_getElem? (i := 764) rfl
set_option maxRecDepth 100000 in
theorem pm_mc_126 : Cond.code yX10_write cX10_write 2 (some (.int)) ∈ lw_tbl := List.mem_of_getElem? (i := 794) rfl
set_option maxRecDepth 100000 in
theorem pm_mi_126 : Cond.instanceMethod yX10_write ∈ lw_tbl := List.mem_of_getElem? (i := 792) rfl
set_option maxRecDepth 100000 in
theorem pm_me_126 : Cond.selects (pm_R 10) yX10_write yX10_write ∈ lw_tbl := List.mem_of_getElem? (i := 793) rfl
set_option maxRecDepth 100000 in
theorem pm_mc_127 : Cond.code yX10_written cX10_written 4 (some (.int)) ∈ lw_tbl := List.mem_of_getElem? (i := 912) rfl
set_option maxRecDepth 100000 in
theorem pm_mi_127 : Cond.instanceMethod yX10_written ∈ lw_tbl := List.mem_of_getElem? (i := 910) rfl
set_option maxRecDepth 100000 in
theorem pm_me_127 : Cond.selects (pm_R 10) yX10_written yX10_written ∈ lw_tbl := List.mem_of_getElem? (i := 911) rfl
set_option maxRecDepth 100000 in
theorem pm_mc_128 : Cond.code yX11_about cX11_about 2 (some (.int)) ∈ lw_tbl := List.mem_of_getElem? (i := 1806) rfl
set_option maxRecDepth 100000 in
theorem pm_mi_128 : Cond.instanceMethod yX11_about ∈ lw_tbl := List.mem_of_getElem? (i := 1804) rfl
set_option maxRecDepth 100000 in
theorem pm_me_128 : Cond.selects (pm_R 11) yX11_about yX11_about ∈ lw_tbl := List.mem_of_getElem? (i := 1805) rfl
set_option maxRecDepth 100000 in
theorem pm_mc_129 : Cond.code yX11_areGrouped cX11_areGrouped 4 (some (.boolean)) ∈ lw_tbl := List.mem_of_getElem? (i := 1669) rfl
set_option maxRecDepth 100000 in
theorem pm_mi_129 : Cond.instanceMethod yX11_areGrouped ∈ lw_tbl := List.mem_of_getElem? (i := 1668) rfl
set_option maxRecDepth 100000 in
theorem pm_me_129 : Cond.selects (pm_R 11) yX11_areGrouped yX11_areGrouped ∈ lw_tbl := List.mem_of_getElem? (i := 93) rfl
set_option maxRecDepth 100000 in
theorem pm_mc_130 : Cond.code yX11_atMost cX11_atMost 2 (some (.long)) ∈ lw_tbl := List.mem_of_getElem? (i := 1586) rfl
set_option maxRecDepth 100000 in
theorem pm_ms_130 : Cond.static yX11_atMost ∈ lw_tbl := List.mem_of_getElem? (i := 1585) rfl
set_option maxRecDepth 100000 in
theorem pm_mc_131 : Cond.code yX11_back cX11_back 3 (some (.int)) ∈ lw_tbl := List.mem_of_getElem? (i := 1802) rfl
set_option maxRecDepth 100000 in
theorem pm_mi_131 : Cond.instanceMethod yX11_back ∈ lw_tbl := List.mem_of_getElem? (i := 1800) rfl
set_option maxRecDepth 100000 in
theorem pm_me_131 : Cond.selects (pm_R 11) yX11_back yX11_back ∈ lw_tbl := List.mem_of_getElem? (i := 1801) rfl
set_option maxRecDepth 100000 in
theorem pm_mc_132 : Cond.code yX11_begin cX11_begin 2 (none) ∈ lw_tbl := List.mem_of_getElem? (i := 1175) rfl
set_option maxRecDepth 100000 in
theorem pm_mi_132 : Cond.instanceMethod yX11_begin ∈ lw_tbl := List.mem_of_getElem? (i := 1174) rfl
set_option maxRecDepth 100000 in
theorem pm_me_132 : Cond.selects (pm_R 11) yX11_begin yX11_begin ∈ lw_tbl := List.mem_of_getElem? (i := 46) rfl
set_option maxRecDepth 100000 in
theorem pm_mc_133 : Cond.code yX11_behind cX11_behind 4 (some (.int)) ∈ lw_tbl := List.mem_of_getElem? (i := 1519) rfl
set_option maxRecDepth 100000 in
theorem pm_mi_133 : Cond.instanceMethod yX11_behind ∈ lw_tbl := List.mem_of_getElem? (i := 1517) rfl
set_option maxRecDepth 100000 in
theorem pm_me_133 : Cond.selects (pm_R 11) yX11_behind yX11_behind ∈ lw_tbl := List.mem_of_getElem? (i := 1518) rfl
set_option maxRecDepth 100000 in
theorem pm_mc_134 : Cond.code yX11_best cX11_best 4 (some (.int)) ∈ lw_tbl := List.mem_of_getElem? (i := 1765) rfl
set_option maxRecDepth 100000 in
theorem pm_mi_134 : Cond.instanceMethod yX11_best ∈ lw_tbl := List.mem_of_getElem? (i := 1763) rfl
set_option maxRecDepth 100000 in
theorem pm_me_134 : Cond.selects (pm_R 11) yX11_best yX11_best ∈ lw_tbl := List.mem_of_getElem? (i := 1764) rfl
set_option maxRecDepth 100000 in
theorem pm_mc_135 : Cond.code yX11_bribe cX11_bribe 3 (some (.int)) ∈ lw_tbl := List.mem_of_getElem? (i := 1715) rfl
set_option maxRecDepth 100000 in
theorem pm_mi_135 : Cond.instanceMethod yX11_bribe ∈ lw_tbl := List.mem_of_getElem? (i := 1713) rfl
set_option maxRecDepth 100000 in
theorem pm_me_135 : Cond.selects (pm_R 11) yX11_bribe yX11_bribe ∈ lw_tbl := List.mem_of_getElem? (i := 1714) rfl
set_option maxRecDepth 100000 in
theorem pm_mc_136 : Cond.code yX11_canCome cX11_canCome 2 (some (.boolean)) ∈ lw_tbl := List.mem_of_getElem? (i := 1547) rfl
set_option maxRecDepth 100000 in
theorem pm_mi_136 : Cond.instanceMethod yX11_canCome ∈ lw_tbl := List.mem_of_getElem? (i := 1546) rfl
set_option maxRecDepth 100000 in
theorem pm_me_136 : Cond.selects (pm_R 11) yX11_canCome yX11_canCome ∈ lw_tbl := List.mem_of_getElem? (i := 73) rfl
set_option maxRecDepth 100000 in
theorem pm_mc_137 : Cond.code yX11_canGoOn cX11_canGoOn 3 (some (.boolean)) ∈ lw_tbl := List.mem_of_getElem? (i := 1555) rfl
set_option maxRecDepth 100000 in
theorem pm_mi_137 : Cond.instanceMethod yX11_canGoOn ∈ lw_tbl := List.mem_of_getElem? (i := 1554) rfl
set_option maxRecDepth 100000 in
theorem pm_me_137 : Cond.selects (pm_R 11) yX11_canGoOn yX11_canGoOn ∈ lw_tbl := List.mem_of_getElem? (i := 75) rfl
set_option maxRecDepth 100000 in
theorem pm_mc_138 : Cond.code yX11_clearBank cX11_clearBank 2 (none) ∈ lw_tbl := List.mem_of_getElem? (i := 1171) rfl
set_option maxRecDepth 100000 in
theorem pm_mi_138 : Cond.instanceMethod yX11_clearBank ∈ lw_tbl := List.mem_of_getElem? (i := 1170) rfl
set_option maxRecDepth 100000 in
theorem pm_me_138 : Cond.selects (pm_R 11) yX11_clearBank yX11_clearBank ∈ lw_tbl := List.mem_of_getElem? (i := 45) rfl
set_option maxRecDepth 100000 in
theorem pm_mc_139 : Cond.code yX11_common cX11_common 5 (some (.int)) ∈ lw_tbl := List.mem_of_getElem? (i := 1707) rfl
set_option maxRecDepth 100000 in
theorem pm_ms_139 : Cond.static yX11_common ∈ lw_tbl := List.mem_of_getElem? (i := 1706) rfl
set_option maxRecDepth 100000 in
theorem pm_mc_140 : Cond.code yX11_doesRead cX11_doesRead 8 (some (.boolean)) ∈ lw_tbl := List.mem_of_getElem? (i := 1567) rfl
set_option maxRecDepth 100000 in
theorem pm_mi_140 : Cond.instanceMethod yX11_doesRead ∈ lw_tbl := List.mem_of_getElem? (i := 1566) rfl
set_option maxRecDepth 100000 in
theorem pm_me_140 : Cond.selects (pm_R 11) yX11_doesRead yX11_doesRead ∈ lw_tbl := List.mem_of_getElem? (i := 78) rfl
set_option maxRecDepth 100000 in
theorem pm_mc_141 : Cond.code yX11_doubtful cX11_doubtful 4 (some (.int)) ∈ lw_tbl := List.mem_of_getElem? (i := 1748) rfl
set_option maxRecDepth 100000 in
theorem pm_mi_141 : Cond.instanceMethod yX11_doubtful ∈ lw_tbl := List.mem_of_getElem? (i := 1746) rfl
set_option maxRecDepth 100000 in
theorem pm_me_141 : Cond.selects (pm_R 11) yX11_doubtful yX11_doubtful ∈ lw_tbl := List.mem_of_getElem? (i := 1747) rfl
set_option maxRecDepth 100000 in
theorem pm_mc_142 : Cond.code yX11_end cX11_end 2 (some (.int)) ∈ lw_tbl := List.mem_of_getElem? (i := 1814) rfl
set_option maxRecDepth 100000 in
theorem pm_mi_142 : Cond.instanceMethod yX11_end ∈ lw_tbl := List.mem_of_getElem? (i := 1812) rfl
set_option maxRecDepth 100000 in
theorem pm_me_142 : Cond.selects (pm_R 11) yX11_end yX11_end ∈ lw_tbl := List.mem_of_getElem? (i := 1813) rfl
set_option maxRecDepth 100000 in
theorem pm_mc_143 : Cond.code yX11_endsBy cX11_endsBy 3 (some (.int)) ∈ lw_tbl := List.mem_of_getElem? (i := 1571) rfl
set_option maxRecDepth 100000 in
theorem pm_mi_143 : Cond.instanceMethod yX11_endsBy ∈ lw_tbl := List.mem_of_getElem? (i := 1570) rfl
set_option maxRecDepth 100000 in
theorem pm_me_143 : Cond.selects (pm_R 11) yX11_endsBy yX11_endsBy ∈ lw_tbl := List.mem_of_getElem? (i := 79) rfl
set_option maxRecDepth 100000 in
theorem pm_mc_144 : Cond.code yX11_exchange cX11_exchange 3 (none) ∈ lw_tbl := List.mem_of_getElem? (i := 1615) rfl
set_option maxRecDepth 100000 in
theorem pm_mi_144 : Cond.instanceMethod yX11_exchange ∈ lw_tbl := List.mem_of_getElem? (i := 1614) rfl
set_option maxRecDepth 100000 in
theorem pm_me_144 : Cond.selects (pm_R 11) yX11_exchange yX11_exchange ∈ lw_tbl := List.mem_of_getElem? (i := 84) rfl
set_option maxRecDepth 100000 in
theorem pm_mc_145 : Cond.code yX11_fails cX11_fails 3 (none) ∈ lw_tbl := List.mem_of_getElem? (i := 1444) rfl
set_option maxRecDepth 100000 in
theorem pm_mi_145 : Cond.instanceMethod yX11_fails ∈ lw_tbl := List.mem_of_getElem? (i := 1443) rfl
set_option maxRecDepth 100000 in
theorem pm_me_145 : Cond.selects (pm_R 11) yX11_fails yX11_fails ∈ lw_tbl := List.mem_of_getElem? (i := 55) rfl
set_option maxRecDepth 100000 in
theorem pm_mc_146 : Cond.code yX11_fault cX11_fault 2 (some (.int)) ∈ lw_tbl := List.mem_of_getElem? (i := 1500) rfl
set_option maxRecDepth 100000 in
theorem pm_mi_146 : Cond.instanceMethod yX11_fault ∈ lw_tbl := List.mem_of_getElem? (i := 1498) rfl
set_option maxRecDepth 100000 in
theorem pm_me_146 : Cond.selects (pm_R 11) yX11_fault yX11_fault ∈ lw_tbl := List.mem_of_getElem? (i := 1499) rfl
set_option maxRecDepth 100000 in
theorem pm_mc_147 : Cond.code yX11_feed cX11_feed 8 (some (.int)) ∈ lw_tbl := List.mem_of_getElem? (i := 1810) rfl
set_option maxRecDepth 100000 in
theorem pm_mi_147 : Cond.instanceMethod yX11_feed ∈ lw_tbl := List.mem_of_getElem? (i := 1808) rfl
set_option maxRecDepth 100000 in
theorem pm_me_147 : Cond.selects (pm_R 11) yX11_feed yX11_feed ∈ lw_tbl := List.mem_of_getElem? (i := 1809) rfl
set_option maxRecDepth 100000 in
theorem pm_mc_148 : Cond.code yX11_fit cX11_fit 1 (some (.int)) ∈ lw_tbl := List.mem_of_getElem? (i := 1761) rfl
set_option maxRecDepth 100000 in
theorem pm_mi_148 : Cond.instanceMethod yX11_fit ∈ lw_tbl := List.mem_of_getElem? (i := 1759) rfl
set_option maxRecDepth 100000 in
theorem pm_me_148 : Cond.selects (pm_R 11) yX11_fit yX11_fit ∈ lw_tbl := List.mem_of_getElem? (i := 1760) rfl
set_option maxRecDepth 100000 in
theorem pm_mc_149 : Cond.code yX11_fresh cX11_fresh 3 (some (.long)) ∈ lw_tbl := List.mem_of_getElem? (i := 1452) rfl
set_option maxRecDepth 100000 in
theorem pm_mi_149 : Cond.instanceMethod yX11_fresh ∈ lw_tbl := List.mem_of_getElem? (i := 1451) rfl
set_option maxRecDepth 100000 in
theorem pm_me_149 : Cond.selects (pm_R 11) yX11_fresh yX11_fresh ∈ lw_tbl := List.mem_of_getElem? (i := 57) rfl
set_option maxRecDepth 100000 in
theorem pm_mc_150 : Cond.code yX11_gain cX11_gain 3 (some (.int)) ∈ lw_tbl := List.mem_of_getElem? (i := 1677) rfl
set_option maxRecDepth 100000 in
theorem pm_mi_150 : Cond.instanceMethod yX11_gain ∈ lw_tbl := List.mem_of_getElem? (i := 1676) rfl
set_option maxRecDepth 100000 in
theorem pm_me_150 : Cond.selects (pm_R 11) yX11_gain yX11_gain ∈ lw_tbl := List.mem_of_getElem? (i := 95) rfl
set_option maxRecDepth 100000 in
theorem pm_mc_151 : Cond.code yX11_gainOf cX11_gainOf 5 (some (.int)) ∈ lw_tbl := List.mem_of_getElem? (i := 1685) rfl
set_option maxRecDepth 100000 in
theorem pm_mi_151 : Cond.instanceMethod yX11_gainOf ∈ lw_tbl := List.mem_of_getElem? (i := 1684) rfl
set_option maxRecDepth 100000 in
theorem pm_me_151 : Cond.selects (pm_R 11) yX11_gainOf yX11_gainOf ∈ lw_tbl := List.mem_of_getElem? (i := 97) rfl
set_option maxRecDepth 100000 in
theorem pm_mc_152 : Cond.code yX11_goOn cX11_goOn 3 (none) ∈ lw_tbl := List.mem_of_getElem? (i := 1401) rfl
set_option maxRecDepth 100000 in
theorem pm_mi_152 : Cond.instanceMethod yX11_goOn ∈ lw_tbl := List.mem_of_getElem? (i := 1400) rfl
set_option maxRecDepth 100000 in
theorem pm_me_152 : Cond.selects (pm_R 11) yX11_goOn yX11_goOn ∈ lw_tbl := List.mem_of_getElem? (i := 48) rfl
set_option maxRecDepth 100000 in
theorem pm_mc_153 : Cond.code yX11_held cX11_held 2 (some (.int)) ∈ lw_tbl := List.mem_of_getElem? (i := 1693) rfl
set_option maxRecDepth 100000 in
theorem pm_mi_153 : Cond.instanceMethod yX11_held ∈ lw_tbl := List.mem_of_getElem? (i := 1691) rfl
set_option maxRecDepth 100000 in
theorem pm_me_153 : Cond.selects (pm_R 11) yX11_held yX11_held ∈ lw_tbl := List.mem_of_getElem? (i := 1692) rfl
set_option maxRecDepth 100000 in
theorem pm_mc_154 : Cond.code yX11_heldBy cX11_heldBy 3 (some (.int)) ∈ lw_tbl := List.mem_of_getElem? (i := 1697) rfl
set_option maxRecDepth 100000 in
theorem pm_mi_154 : Cond.instanceMethod yX11_heldBy ∈ lw_tbl := List.mem_of_getElem? (i := 1696) rfl
set_option maxRecDepth 100000 in
theorem pm_me_154 : Cond.selects (pm_R 11) yX11_heldBy yX11_heldBy ∈ lw_tbl := List.mem_of_getElem? (i := 99) rfl
set_option maxRecDepth 100000 in
theorem pm_mc_155 : Cond.code yX11_hole cX11_hole 3 (some (.boolean)) ∈ lw_tbl := List.mem_of_getElem? (i := 1757) rfl
set_option maxRecDepth 100000 in
theorem pm_mi_155 : Cond.instanceMethod yX11_hole ∈ lw_tbl := List.mem_of_getElem? (i := 1755) rfl
set_option maxRecDepth 100000 in
theorem pm_me_155 : Cond.selects (pm_R 11) yX11_hole yX11_hole ∈ lw_tbl := List.mem_of_getElem? (i := 1756) rfl
set_option maxRecDepth 100000 in
theorem pm_mc_156 : Cond.code yX11_image cX11_image 3 (some (.int)) ∈ lw_tbl := List.mem_of_getElem? (i := 1798) rfl
set_option maxRecDepth 100000 in
theorem pm_mi_156 : Cond.instanceMethod yX11_image ∈ lw_tbl := List.mem_of_getElem? (i := 1796) rfl
set_option maxRecDepth 100000 in
theorem pm_me_156 : Cond.selects (pm_R 11) yX11_image yX11_image ∈ lw_tbl := List.mem_of_getElem? (i := 1797) rfl
set_option maxRecDepth 100000 in
theorem pm_mc_157 : Cond.code yX11_isBetter cX11_isBetter 6 (some (.boolean)) ∈ lw_tbl := List.mem_of_getElem? (i := 1673) rfl
set_option maxRecDepth 100000 in
theorem pm_mi_157 : Cond.instanceMethod yX11_isBetter ∈ lw_tbl := List.mem_of_getElem? (i := 1672) rfl
set_option maxRecDepth 100000 in
theorem pm_me_157 : Cond.selects (pm_R 11) yX11_isBetter yX11_isBetter ∈ lw_tbl := List.mem_of_getElem? (i := 94) rfl
set_option maxRecDepth 100000 in
theorem pm_mc_158 : Cond.code yX11_isDigit cX11_isDigit 1 (some (.boolean)) ∈ lw_tbl := List.mem_of_getElem? (i := 1420) rfl
set_option maxRecDepth 100000 in
theorem pm_ms_158 : Cond.static yX11_isDigit ∈ lw_tbl := List.mem_of_getElem? (i := 1419) rfl
set_option maxRecDepth 100000 in
theorem pm_mc_159 : Cond.code yX11_isFull cX11_isFull 1 (some (.boolean)) ∈ lw_tbl := List.mem_of_getElem? (i := 1432) rfl
set_option maxRecDepth 100000 in
theorem pm_mi_159 : Cond.instanceMethod yX11_isFull ∈ lw_tbl := List.mem_of_getElem? (i := 1431) rfl
set_option maxRecDepth 100000 in
theorem pm_me_159 : Cond.selects (pm_R 11) yX11_isFull yX11_isFull ∈ lw_tbl := List.mem_of_getElem? (i := 52) rfl
set_option maxRecDepth 100000 in
theorem pm_mc_160 : Cond.code yX11_isGood cX11_isGood 1 (some (.boolean)) ∈ lw_tbl := List.mem_of_getElem? (i := 1424) rfl
set_option maxRecDepth 100000 in
theorem pm_mi_160 : Cond.instanceMethod yX11_isGood ∈ lw_tbl := List.mem_of_getElem? (i := 1423) rfl
set_option maxRecDepth 100000 in
theorem pm_me_160 : Cond.selects (pm_R 11) yX11_isGood yX11_isGood ∈ lw_tbl := List.mem_of_getElem? (i := 50) rfl
set_option maxRecDepth 100000 in
theorem pm_mc_161 : Cond.code yX11_isGuild cX11_isGuild 1 (some (.boolean)) ∈ lw_tbl := List.mem_of_getElem? (i := 1514) rfl
set_option maxRecDepth 100000 in
theorem pm_ms_161 : Cond.static yX11_isGuild ∈ lw_tbl := List.mem_of_getElem? (i := 1513) rfl
set_option maxRecDepth 100000 in
theorem pm_mc_162 : Cond.code yX11_isIn cX11_isIn 3 (some (.boolean)) ∈ lw_tbl := List.mem_of_getElem? (i := 1511) rfl
set_option maxRecDepth 100000 in
theorem pm_ms_162 : Cond.static yX11_isIn ∈ lw_tbl := List.mem_of_getElem? (i := 1510) rfl
set_option maxRecDepth 100000 in
theorem pm_mc_163 : Cond.code yX11_isKept cX11_isKept 2 (some (.boolean)) ∈ lw_tbl := List.mem_of_getElem? (i := 1411) rfl
set_option maxRecDepth 100000 in
theorem pm_ms_163 : Cond.static yX11_isKept ∈ lw_tbl := List.mem_of_getElem? (i := 1410) rfl
set_option maxRecDepth 100000 in
theorem pm_mc_164 : Cond.code yX11_isLetter cX11_isLetter 1 (some (.boolean)) ∈ lw_tbl := List.mem_of_getElem? (i := 1408) rfl
set_option maxRecDepth 100000 in
theorem pm_ms_164 : Cond.static yX11_isLetter ∈ lw_tbl := List.mem_of_getElem? (i := 1407) rfl
set_option maxRecDepth 100000 in
theorem pm_mc_165 : Cond.code yX11_isOnPath cX11_isOnPath 3 (some (.boolean)) ∈ lw_tbl := List.mem_of_getElem? (i := 1649) rfl
set_option maxRecDepth 100000 in
theorem pm_mi_165 : Cond.instanceMethod yX11_isOnPath ∈ lw_tbl := List.mem_of_getElem? (i := 1648) rfl
set_option maxRecDepth 100000 in
theorem pm_me_165 : Cond.selects (pm_R 11) yX11_isOnPath yX11_isOnPath ∈ lw_tbl := List.mem_of_getElem? (i := 88) rfl
set_option maxRecDepth 100000 in
theorem pm_mc_166 : Cond.code yX11_isPlace cX11_isPlace 2 (some (.boolean)) ∈ lw_tbl := List.mem_of_getElem? (i := 1531) rfl
set_option maxRecDepth 100000 in
theorem pm_mi_166 : Cond.instanceMethod yX11_isPlace ∈ lw_tbl := List.mem_of_getElem? (i := 1530) rfl
set_option maxRecDepth 100000 in
theorem pm_me_166 : Cond.selects (pm_R 11) yX11_isPlace yX11_isPlace ∈ lw_tbl := List.mem_of_getElem? (i := 71) rfl
set_option maxRecDepth 100000 in
theorem pm_mc_167 : Cond.code yX11_isRead cX11_isRead 2 (some (.boolean)) ∈ lw_tbl := List.mem_of_getElem? (i := 1559) rfl
set_option maxRecDepth 100000 in
theorem pm_mi_167 : Cond.instanceMethod yX11_isRead ∈ lw_tbl := List.mem_of_getElem? (i := 1558) rfl
set_option maxRecDepth 100000 in
theorem pm_me_167 : Cond.selects (pm_R 11) yX11_isRead yX11_isRead ∈ lw_tbl := List.mem_of_getElem? (i := 76) rfl
set_option maxRecDepth 100000 in
theorem pm_mc_168 : Cond.code yX11_isSignHere cX11_isSignHere 2 (some (.boolean)) ∈ lw_tbl := List.mem_of_getElem? (i := 1480) rfl
set_option maxRecDepth 100000 in
theorem pm_mi_168 : Cond.instanceMethod yX11_isSignHere ∈ lw_tbl := List.mem_of_getElem? (i := 1479) rfl
set_option maxRecDepth 100000 in
theorem pm_me_168 : Cond.selects (pm_R 11) yX11_isSignHere yX11_isSignHere ∈ lw_tbl := List.mem_of_getElem? (i := 64) rfl
set_option maxRecDepth 100000 in
theorem pm_mc_169 : Cond.code yX11_isSo cX11_isSo 4 (some (.boolean)) ∈ lw_tbl := List.mem_of_getElem? (i := 1794) rfl
set_option maxRecDepth 100000 in
theorem pm_mi_169 : Cond.instanceMethod yX11_isSo ∈ lw_tbl := List.mem_of_getElem? (i := 1793) rfl
set_option maxRecDepth 100000 in
theorem pm_me_169 : Cond.selects (pm_R 11) yX11_isSo yX11_isSo ∈ lw_tbl := List.mem_of_getElem? (i := 106) rfl
set_option maxRecDepth 100000 in
theorem pm_mc_170 : Cond.code yX11_isWord cX11_isWord 3 (some (.boolean)) ∈ lw_tbl := List.mem_of_getElem? (i := 1436) rfl
set_option maxRecDepth 100000 in
theorem pm_mi_170 : Cond.instanceMethod yX11_isWord ∈ lw_tbl := List.mem_of_getElem? (i := 1435) rfl
set_option maxRecDepth 100000 in
theorem pm_me_170 : Cond.selects (pm_R 11) yX11_isWord yX11_isWord ∈ lw_tbl := List.mem_of_getElem? (i := 53) rfl
set_option maxRecDepth 100000 in
theorem pm_mc_171 : Cond.code yX11_isWordOf cX11_isWordOf 2 (some (.boolean)) ∈ lw_tbl := List.mem_of_getElem? (i := 1508) rfl
set_option maxRecDepth 100000 in
theorem pm_mi_171 : Cond.instanceMethod yX11_isWordOf ∈ lw_tbl := List.mem_of_getElem? (i := 1507) rfl
set_option maxRecDepth 100000 in
theorem pm_me_171 : Cond.selects (pm_R 11) yX11_isWordOf yX11_isWordOf ∈ lw_tbl := List.mem_of_getElem? (i := 69) rfl
set_option maxRecDepth 100000 in
theorem pm_mc_172 : Cond.code yX11_keepAct cX11_keepAct 4 (none) ∈ lw_tbl := List.mem_of_getElem? (i := 1603) rfl
set_option maxRecDepth 100000 in
theorem pm_mi_172 : Cond.instanceMethod yX11_keepAct ∈ lw_tbl := List.mem_of_getElem? (i := 1602) rfl
set_option maxRecDepth 100000 in
theorem pm_me_172 : Cond.selects (pm_R 11) yX11_keepAct yX11_keepAct ∈ lw_tbl := List.mem_of_getElem? (i := 83) rfl
set_option maxRecDepth 100000 in
theorem pm_mc_173 : Cond.code yX11_keyOf cX11_keyOf 6 (some (.long)) ∈ lw_tbl := List.mem_of_getElem? (i := 1643) rfl
set_option maxRecDepth 100000 in
theorem pm_mi_173 : Cond.instanceMethod yX11_keyOf ∈ lw_tbl := List.mem_of_getElem? (i := 1642) rfl
set_option maxRecDepth 100000 in
theorem pm_me_173 : Cond.selects (pm_R 11) yX11_keyOf yX11_keyOf ∈ lw_tbl := List.mem_of_getElem? (i := 87) rfl
set_option maxRecDepth 100000 in
theorem pm_mc_174 : Cond.code yX11_known cX11_known 2 (some (.int)) ∈ lw_tbl := List.mem_of_getElem? (i := 1472) rfl
set_option maxRecDepth 100000 in
theorem pm_mi_174 : Cond.instanceMethod yX11_known ∈ lw_tbl := List.mem_of_getElem? (i := 1471) rfl
set_option maxRecDepth 100000 in
theorem pm_me_174 : Cond.selects (pm_R 11) yX11_known yX11_known ∈ lw_tbl := List.mem_of_getElem? (i := 62) rfl
set_option maxRecDepth 100000 in
theorem pm_mc_175 : Cond.code yX11_later cX11_later 2 (some (.int)) ∈ lw_tbl := List.mem_of_getElem? (i := 1785) rfl
set_option maxRecDepth 100000 in
theorem pm_mi_175 : Cond.instanceMethod yX11_later ∈ lw_tbl := List.mem_of_getElem? (i := 1783) rfl
set_option maxRecDepth 100000 in
theorem pm_me_175 : Cond.selects (pm_R 11) yX11_later yX11_later ∈ lw_tbl := List.mem_of_getElem? (i := 1784) rfl
set_option maxRecDepth 100000 in
theorem pm_mc_176 : Cond.code yX11_lay cX11_lay 3 (none) ∈ lw_tbl := List.mem_of_getElem? (i := 1689) rfl
set_option maxRecDepth 100000 in
theorem pm_mi_176 : Cond.instanceMethod yX11_lay ∈ lw_tbl := List.mem_of_getElem? (i := 1688) rfl
set_option maxRecDepth 100000 in
theorem pm_me_176 : Cond.selects (pm_R 11) yX11_lay yX11_lay ∈ lw_tbl := List.mem_of_getElem? (i := 98) rfl
set_option maxRecDepth 100000 in
theorem pm_mc_177 : Cond.code yX11_layEnds cX11_layEnds 5 (none) ∈ lw_tbl := List.mem_of_getElem? (i := 1563) rfl
set_option maxRecDepth 100000 in
theorem pm_mi_177 : Cond.instanceMethod yX11_layEnds ∈ lw_tbl := List.mem_of_getElem? (i := 1562) rfl
set_option maxRecDepth 100000 in
theorem pm_me_177 : Cond.selects (pm_R 11) yX11_layEnds yX11_layEnds ∈ lw_tbl := List.mem_of_getElem? (i := 77) rfl
set_option maxRecDepth 100000 in
theorem pm_mc_178 : Cond.code yX11_layFromNone cX11_layFromNone 1 (some (.boolean)) ∈ lw_tbl := List.mem_of_getElem? (i := 1723) rfl
set_option maxRecDepth 100000 in
theorem pm_mi_178 : Cond.instanceMethod yX11_layFromNone ∈ lw_tbl := List.mem_of_getElem? (i := 1722) rfl
set_option maxRecDepth 100000 in
theorem pm_me_178 : Cond.selects (pm_R 11) yX11_layFromNone yX11_layFromNone ∈ lw_tbl := List.mem_of_getElem? (i := 100) rfl
set_option maxRecDepth 100000 in
theorem pm_mc_179 : Cond.code yX11_layFromRow cX11_layFromRow 2 (some (.boolean)) ∈ lw_tbl := List.mem_of_getElem? (i := 1635) rfl
set_option maxRecDepth 100000 in
theorem pm_mi_179 : Cond.instanceMethod yX11_layFromRow ∈ lw_tbl := List.mem_of_getElem? (i := 1634) rfl
set_option maxRecDepth 100000 in
theorem pm_me_179 : Cond.selects (pm_R 11) yX11_layFromRow yX11_layFromRow ∈ lw_tbl := List.mem_of_getElem? (i := 85) rfl
set_option maxRecDepth 100000 in
theorem pm_mc_180 : Cond.code yX11_layList cX11_layList 6 (some (.boolean)) ∈ lw_tbl := List.mem_of_getElem? (i := 1639) rfl
set_option maxRecDepth 100000 in
theorem pm_mi_180 : Cond.instanceMethod yX11_layList ∈ lw_tbl := List.mem_of_getElem? (i := 1638) rfl
set_option maxRecDepth 100000 in
theorem pm_me_180 : Cond.selects (pm_R 11) yX11_layList yX11_layList ∈ lw_tbl := List.mem_of_getElem? (i := 86) rfl
set_option maxRecDepth 100000 in
theorem pm_mc_181 : Cond.code yX11_layShortest cX11_layShortest 5 (none) ∈ lw_tbl := List.mem_of_getElem? (i := 1735) rfl
set_option maxRecDepth 100000 in
theorem pm_mi_181 : Cond.instanceMethod yX11_layShortest ∈ lw_tbl := List.mem_of_getElem? (i := 1734) rfl
set_option maxRecDepth 100000 in
theorem pm_me_181 : Cond.selects (pm_R 11) yX11_layShortest yX11_layShortest ∈ lw_tbl := List.mem_of_getElem? (i := 102) rfl
set_option maxRecDepth 100000 in
theorem pm_mc_182 : Cond.code yX11_lies cX11_lies 2 (some (.int)) ∈ lw_tbl := List.mem_of_getElem? (i := 1627) rfl
set_option maxRecDepth 100000 in
theorem pm_mi_182 : Cond.instanceMethod yX11_lies ∈ lw_tbl := List.mem_of_getElem? (i := 1625) rfl
set_option maxRecDepth 100000 in
theorem pm_me_182 : Cond.selects (pm_R 11) yX11_lies yX11_lies ∈ lw_tbl := List.mem_of_getElem? (i := 1626) rfl
set_option maxRecDepth 100000 in
theorem pm_mc_183 : Cond.code yX11_longOf cX11_longOf 1 (some (.int)) ∈ lw_tbl := List.mem_of_getElem? (i := 1535) rfl
set_option maxRecDepth 100000 in
theorem pm_mi_183 : Cond.instanceMethod yX11_longOf ∈ lw_tbl := List.mem_of_getElem? (i := 1534) rfl
set_option maxRecDepth 100000 in
theorem pm_me_183 : Cond.selects (pm_R 11) yX11_longOf yX11_longOf ∈ lw_tbl := List.mem_of_getElem? (i := 72) rfl
set_option maxRecDepth 100000 in
theorem pm_mc_184 : Cond.code yX11_lots cX11_lots 4 (some (.int)) ∈ lw_tbl := List.mem_of_getElem? (i := 1719) rfl
set_option maxRecDepth 100000 in
theorem pm_mi_184 : Cond.instanceMethod yX11_lots ∈ lw_tbl := List.mem_of_getElem? (i := 1717) rfl
set_option maxRecDepth 100000 in
theorem pm_me_184 : Cond.selects (pm_R 11) yX11_lots yX11_lots ∈ lw_tbl := List.mem_of_getElem? (i := 1718) rfl
set_option maxRecDepth 100000 in
theorem pm_mc_185 : Cond.code yX11_means cX11_means 2 (some (.int)) ∈ lw_tbl := List.mem_of_getElem? (i := 1591) rfl
set_option maxRecDepth 100000 in
theorem pm_mi_185 : Cond.instanceMethod yX11_means ∈ lw_tbl := List.mem_of_getElem? (i := 1589) rfl
set_option maxRecDepth 100000 in
theorem pm_me_185 : Cond.selects (pm_R 11) yX11_means yX11_means ∈ lw_tbl := List.mem_of_getElem? (i := 1590) rfl
set_option maxRecDepth 100000 in
theorem pm_mc_186 : Cond.code yX11_meansOf cX11_meansOf 5 (some (.int)) ∈ lw_tbl := List.mem_of_getElem? (i := 1595) rfl
set_option maxRecDepth 100000 in
theorem pm_mi_186 : Cond.instanceMethod yX11_meansOf ∈ lw_tbl := List.mem_of_getElem? (i := 1594) rfl
set_option maxRecDepth 100000 in
theorem pm_me_186 : Cond.selects (pm_R 11) yX11_meansOf yX11_meansOf ∈ lw_tbl := List.mem_of_getElem? (i := 82) rfl
set_option maxRecDepth 100000 in
theorem pm_mc_187 : Cond.code yX11_misplaced cX11_misplaced 1 (none) ∈ lw_tbl := List.mem_of_getElem? (i := 1440) rfl
set_option maxRecDepth 100000 in
theorem pm_mi_187 : Cond.instanceMethod yX11_misplaced ∈ lw_tbl := List.mem_of_getElem? (i := 1439) rfl
set_option maxRecDepth 100000 in
theorem pm_me_187 : Cond.selects (pm_R 11) yX11_misplaced yX11_misplaced ∈ lw_tbl := List.mem_of_getElem? (i := 54) rfl
set_option maxRecDepth 100000 in
theorem pm_mc_188 : Cond.code yX11_must cX11_must 2 (none) ∈ lw_tbl := List.mem_of_getElem? (i := 1484) rfl
set_option maxRecDepth 100000 in
theorem pm_mi_188 : Cond.instanceMethod yX11_must ∈ lw_tbl := List.mem_of_getElem? (i := 1483) rfl
set_option maxRecDepth 100000 in
theorem pm_me_188 : Cond.selects (pm_R 11) yX11_must yX11_must ∈ lw_tbl := List.mem_of_getElem? (i := 65) rfl
set_option maxRecDepth 100000 in
theorem pm_mc_189 : Cond.code yX11_next cX11_next 3 (some (.int)) ∈ lw_tbl := List.mem_of_getElem? (i := 1543) rfl
set_option maxRecDepth 100000 in
theorem pm_mi_189 : Cond.instanceMethod yX11_next ∈ lw_tbl := List.mem_of_getElem? (i := 1541) rfl
set_option maxRecDepth 100000 in
theorem pm_me_189 : Cond.selects (pm_R 11) yX11_next yX11_next ∈ lw_tbl := List.mem_of_getElem? (i := 1542) rfl
set_option maxRecDepth 100000 in
theorem pm_mc_190 : Cond.code yX11_numeral cX11_numeral 4 (some (.int)) ∈ lw_tbl := List.mem_of_getElem? (i := 1464) rfl
set_option maxRecDepth 100000 in
theorem pm_mi_190 : Cond.instanceMethod yX11_numeral ∈ lw_tbl := List.mem_of_getElem? (i := 1463) rfl
set_option maxRecDepth 100000 in
theorem pm_me_190 : Cond.selects (pm_R 11) yX11_numeral yX11_numeral ∈ lw_tbl := List.mem_of_getElem? (i := 60) rfl
set_option maxRecDepth 100000 in
theorem pm_mc_191 : Cond.code yX11_orderTurn cX11_orderTurn 6 (some (.int)) ∈ lw_tbl := List.mem_of_getElem? (i := 1704) rfl
set_option maxRecDepth 100000 in
theorem pm_ms_191 : Cond.static yX11_orderTurn ∈ lw_tbl := List.mem_of_getElem? (i := 1703) rfl
set_option maxRecDepth 100000 in
theorem pm_mc_192 : Cond.code yX11_orders cX11_orders 4 (some (.int)) ∈ lw_tbl := List.mem_of_getElem? (i := 1790) rfl
set_option maxRecDepth 100000 in
theorem pm_mi_192 : Cond.instanceMethod yX11_orders ∈ lw_tbl := List.mem_of_getElem? (i := 1788) rfl
set_option maxRecDepth 100000 in
theorem pm_me_192 : Cond.selects (pm_R 11) yX11_orders yX11_orders ∈ lw_tbl := List.mem_of_getElem? (i := 1789) rfl
set_option maxRecDepth 100000 in
theorem pm_mc_193 : Cond.code yX11_packed cX11_packed 3 (some (.int)) ∈ lw_tbl := List.mem_of_getElem? (i := 1657) rfl
set_option maxRecDepth 100000 in
theorem pm_mi_193 : Cond.instanceMethod yX11_packed ∈ lw_tbl := List.mem_of_getElem? (i := 1656) rfl
set_option maxRecDepth 100000 in
theorem pm_me_193 : Cond.selects (pm_R 11) yX11_packed yX11_packed ∈ lw_tbl := List.mem_of_getElem? (i := 90) rfl
set_option maxRecDepth 100000 in
theorem pm_mc_194 : Cond.code yX11_pairOf cX11_pairOf 4 (some (.int)) ∈ lw_tbl := List.mem_of_getElem? (i := 1523) rfl
set_option maxRecDepth 100000 in
theorem pm_mi_194 : Cond.instanceMethod yX11_pairOf ∈ lw_tbl := List.mem_of_getElem? (i := 1522) rfl
set_option maxRecDepth 100000 in
theorem pm_me_194 : Cond.selects (pm_R 11) yX11_pairOf yX11_pairOf ∈ lw_tbl := List.mem_of_getElem? (i := 70) rfl
set_option maxRecDepth 100000 in
theorem pm_mc_195 : Cond.code yX11_plays cX11_plays 6 (some (.int)) ∈ lw_tbl := List.mem_of_getElem? (i := 1665) rfl
set_option maxRecDepth 100000 in
theorem pm_mi_195 : Cond.instanceMethod yX11_plays ∈ lw_tbl := List.mem_of_getElem? (i := 1664) rfl
set_option maxRecDepth 100000 in
theorem pm_me_195 : Cond.selects (pm_R 11) yX11_plays yX11_plays ∈ lw_tbl := List.mem_of_getElem? (i := 92) rfl
set_option maxRecDepth 100000 in
theorem pm_mc_196 : Cond.code yX11_port cX11_port 2 (some (.int)) ∈ lw_tbl := List.mem_of_getElem? (i := 1397) rfl
set_option maxRecDepth 100000 in
theorem pm_mi_196 : Cond.instanceMethod yX11_port ∈ lw_tbl := List.mem_of_getElem? (i := 1395) rfl
set_option maxRecDepth 100000 in
theorem pm_me_196 : Cond.selects (pm_R 11) yX11_port yX11_port ∈ lw_tbl := List.mem_of_getElem? (i := 1396) rfl
set_option maxRecDepth 100000 in
theorem pm_mc_197 : Cond.code yX11_readAlt cX11_readAlt 2 (none) ∈ lw_tbl := List.mem_of_getElem? (i := 1488) rfl
set_option maxRecDepth 100000 in
theorem pm_mi_197 : Cond.instanceMethod yX11_readAlt ∈ lw_tbl := List.mem_of_getElem? (i := 1487) rfl
set_option maxRecDepth 100000 in
theorem pm_me_197 : Cond.selects (pm_R 11) yX11_readAlt yX11_readAlt ∈ lw_tbl := List.mem_of_getElem? (i := 66) rfl
set_option maxRecDepth 100000 in
theorem pm_mc_198 : Cond.code yX11_readLine cX11_readLine 3 (none) ∈ lw_tbl := List.mem_of_getElem? (i := 1428) rfl
set_option maxRecDepth 100000 in
theorem pm_mi_198 : Cond.instanceMethod yX11_readLine ∈ lw_tbl := List.mem_of_getElem? (i := 1427) rfl
set_option maxRecDepth 100000 in
theorem pm_me_198 : Cond.selects (pm_R 11) yX11_readLine yX11_readLine ∈ lw_tbl := List.mem_of_getElem? (i := 51) rfl
set_option maxRecDepth 100000 in
theorem pm_mc_199 : Cond.code yX11_readPair cX11_readPair 6 (none) ∈ lw_tbl := List.mem_of_getElem? (i := 1468) rfl
set_option maxRecDepth 100000 in
theorem pm_mi_199 : Cond.instanceMethod yX11_readPair ∈ lw_tbl := List.mem_of_getElem? (i := 1467) rfl
set_option maxRecDepth 100000 in
theorem pm_me_199 : Cond.selects (pm_R 11) yX11_readPair yX11_readPair ∈ lw_tbl := List.mem_of_getElem? (i := 61) rfl
set_option maxRecDepth 100000 in
theorem pm_mc_200 : Cond.code yX11_readRule cX11_readRule 2 (none) ∈ lw_tbl := List.mem_of_getElem? (i := 1476) rfl
set_option maxRecDepth 100000 in
theorem pm_mi_200 : Cond.instanceMethod yX11_readRule ∈ lw_tbl := List.mem_of_getElem? (i := 1475) rfl
set_option maxRecDepth 100000 in
theorem pm_me_200 : Cond.selects (pm_R 11) yX11_readRule yX11_readRule ∈ lw_tbl := List.mem_of_getElem? (i := 63) rfl
set_option maxRecDepth 100000 in
theorem pm_mc_201 : Cond.code yX11_readTurns cX11_readTurns 2 (none) ∈ lw_tbl := List.mem_of_getElem? (i := 1492) rfl
set_option maxRecDepth 100000 in
theorem pm_mi_201 : Cond.instanceMethod yX11_readTurns ∈ lw_tbl := List.mem_of_getElem? (i := 1491) rfl
set_option maxRecDepth 100000 in
theorem pm_me_201 : Cond.selects (pm_R 11) yX11_readTurns yX11_readTurns ∈ lw_tbl := List.mem_of_getElem? (i := 67) rfl
set_option maxRecDepth 100000 in
theorem pm_mc_202 : Cond.code yX11_readWord cX11_readWord 3 (none) ∈ lw_tbl := List.mem_of_getElem? (i := 1448) rfl
set_option maxRecDepth 100000 in
theorem pm_mi_202 : Cond.instanceMethod yX11_readWord ∈ lw_tbl := List.mem_of_getElem? (i := 1447) rfl
set_option maxRecDepth 100000 in
theorem pm_me_202 : Cond.selects (pm_R 11) yX11_readWord yX11_readWord ∈ lw_tbl := List.mem_of_getElem? (i := 56) rfl
set_option maxRecDepth 100000 in
theorem pm_mc_203 : Cond.code yX11_readings cX11_readings 1 (some (.int)) ∈ lw_tbl := List.mem_of_getElem? (i := 1575) rfl
set_option maxRecDepth 100000 in
theorem pm_mi_203 : Cond.instanceMethod yX11_readings ∈ lw_tbl := List.mem_of_getElem? (i := 1573) rfl
set_option maxRecDepth 100000 in
theorem pm_me_203 : Cond.selects (pm_R 11) yX11_readings yX11_readings ∈ lw_tbl := List.mem_of_getElem? (i := 1574) rfl
set_option maxRecDepth 100000 in
theorem pm_mc_204 : Cond.code yX11_readingsOf cX11_readingsOf 6 (some (.long)) ∈ lw_tbl := List.mem_of_getElem? (i := 1579) rfl
set_option maxRecDepth 100000 in
theorem pm_mi_204 : Cond.instanceMethod yX11_readingsOf ∈ lw_tbl := List.mem_of_getElem? (i := 1578) rfl
set_option maxRecDepth 100000 in
theorem pm_me_204 : Cond.selects (pm_R 11) yX11_readingsOf yX11_readingsOf ∈ lw_tbl := List.mem_of_getElem? (i := 80) rfl
set_option maxRecDepth 100000 in
theorem pm_mc_205 : Cond.code yX11_redo cX11_redo 1 (some (.boolean)) ∈ lw_tbl := List.mem_of_getElem? (i := 1619) rfl
set_option maxRecDepth 100000 in
theorem pm_mi_205 : Cond.instanceMethod yX11_redo ∈ lw_tbl := List.mem_of_getElem? (i := 1617) rfl
set_option maxRecDepth 100000 in
theorem pm_me_205 : Cond.selects (pm_R 11) yX11_redo yX11_redo ∈ lw_tbl := List.mem_of_getElem? (i := 1618) rfl
set_option maxRecDepth 100000 in
theorem pm_mc_206 : Cond.code yX11_ruleOf cX11_ruleOf 4 (some (.int)) ∈ lw_tbl := List.mem_of_getElem? (i := 1460) rfl
set_option maxRecDepth 100000 in
theorem pm_mi_206 : Cond.instanceMethod yX11_ruleOf ∈ lw_tbl := List.mem_of_getElem? (i := 1459) rfl
set_option maxRecDepth 100000 in
theorem pm_me_206 : Cond.selects (pm_R 11) yX11_ruleOf yX11_ruleOf ∈ lw_tbl := List.mem_of_getElem? (i := 59) rfl
set_option maxRecDepth 100000 in
theorem pm_mc_207 : Cond.code yX11_seen cX11_seen 4 (some (.int)) ∈ lw_tbl := List.mem_of_getElem? (i := 1777) rfl
set_option maxRecDepth 100000 in
theorem pm_mi_207 : Cond.instanceMethod yX11_seen ∈ lw_tbl := List.mem_of_getElem? (i := 1775) rfl
set_option maxRecDepth 100000 in
theorem pm_me_207 : Cond.selects (pm_R 11) yX11_seen yX11_seen ∈ lw_tbl := List.mem_of_getElem? (i := 1776) rfl
set_option maxRecDepth 100000 in
theorem pm_mc_208 : Cond.code yX11_sell cX11_sell 4 (some (.int)) ∈ lw_tbl := List.mem_of_getElem? (i := 1607) rfl
set_option maxRecDepth 100000 in
theorem pm_mi_208 : Cond.instanceMethod yX11_sell ∈ lw_tbl := List.mem_of_getElem? (i := 1605) rfl
set_option maxRecDepth 100000 in
theorem pm_me_208 : Cond.selects (pm_R 11) yX11_sell yX11_sell ∈ lw_tbl := List.mem_of_getElem? (i := 1606) rfl
set_option maxRecDepth 100000 in
theorem pm_mc_209 : Cond.code yX11_settle cX11_settle 5 (none) ∈ lw_tbl := List.mem_of_getElem? (i := 1496) rfl
set_option maxRecDepth 100000 in
theorem pm_mi_209 : Cond.instanceMethod yX11_settle ∈ lw_tbl := List.mem_of_getElem? (i := 1495) rfl
set_option maxRecDepth 100000 in
theorem pm_me_209 : Cond.selects (pm_R 11) yX11_settle yX11_settle ∈ lw_tbl := List.mem_of_getElem? (i := 68) rfl
set_option maxRecDepth 100000 in
theorem pm_mc_210 : Cond.code yX11_share cX11_share 7 (some (.int)) ∈ lw_tbl := List.mem_of_getElem? (i := 1701) rfl
set_option maxRecDepth 100000 in
theorem pm_mi_210 : Cond.instanceMethod yX11_share ∈ lw_tbl := List.mem_of_getElem? (i := 1699) rfl
set_option maxRecDepth 100000 in
theorem pm_me_210 : Cond.selects (pm_R 11) yX11_share yX11_share ∈ lw_tbl := List.mem_of_getElem? (i := 1700) rfl
set_option maxRecDepth 100000 in
theorem pm_mc_211 : Cond.code yX11_shortest cX11_shortest 2 (some (.int)) ∈ lw_tbl := List.mem_of_getElem? (i := 1744) rfl
set_option maxRecDepth 100000 in
theorem pm_mi_211 : Cond.instanceMethod yX11_shortest ∈ lw_tbl := List.mem_of_getElem? (i := 1742) rfl
set_option maxRecDepth 100000 in
theorem pm_me_211 : Cond.selects (pm_R 11) yX11_shortest yX11_shortest ∈ lw_tbl := List.mem_of_getElem? (i := 1743) rfl
set_option maxRecDepth 100000 in
theorem pm_mc_212 : Cond.code yX11_sign cX11_sign 2 (some (.int)) ∈ lw_tbl := List.mem_of_getElem? (i := 1405) rfl
set_option maxRecDepth 100000 in
theorem pm_mi_212 : Cond.instanceMethod yX11_sign ∈ lw_tbl := List.mem_of_getElem? (i := 1404) rfl
set_option maxRecDepth 100000 in
theorem pm_me_212 : Cond.selects (pm_R 11) yX11_sign yX11_sign ∈ lw_tbl := List.mem_of_getElem? (i := 49) rfl
set_option maxRecDepth 100000 in
theorem pm_mc_213 : Cond.code yX11_struck cX11_struck 6 (some (.int)) ∈ lw_tbl := List.mem_of_getElem? (i := 1769) rfl
set_option maxRecDepth 100000 in
theorem pm_mi_213 : Cond.instanceMethod yX11_struck ∈ lw_tbl := List.mem_of_getElem? (i := 1767) rfl
set_option maxRecDepth 100000 in
theorem pm_me_213 : Cond.selects (pm_R 11) yX11_struck yX11_struck ∈ lw_tbl := List.mem_of_getElem? (i := 1768) rfl
set_option maxRecDepth 100000 in
theorem pm_mc_214 : Cond.code yX11_sumOf cX11_sumOf 5 (some (.int)) ∈ lw_tbl := List.mem_of_getElem? (i := 1739) rfl
set_option maxRecDepth 100000 in
theorem pm_mi_214 : Cond.instanceMethod yX11_sumOf ∈ lw_tbl := List.mem_of_getElem? (i := 1738) rfl
set_option maxRecDepth 100000 in
theorem pm_me_214 : Cond.selects (pm_R 11) yX11_sumOf yX11_sumOf ∈ lw_tbl := List.mem_of_getElem? (i := 103) rfl
set_option maxRecDepth 100000 in
theorem pm_mc_215 : Cond.code yX11_swap cX11_swap 7 (some (.int)) ∈ lw_tbl := List.mem_of_getElem? (i := 1711) rfl
set_option maxRecDepth 100000 in
theorem pm_mi_215 : Cond.instanceMethod yX11_swap ∈ lw_tbl := List.mem_of_getElem? (i := 1709) rfl
set_option maxRecDepth 100000 in
theorem pm_me_215 : Cond.selects (pm_R 11) yX11_swap yX11_swap ∈ lw_tbl := List.mem_of_getElem? (i := 1710) rfl
set_option maxRecDepth 100000 in
theorem pm_mc_216 : Cond.code yX11_takeCharter cX11_takeCharter 2 (none) ∈ lw_tbl := List.mem_of_getElem? (i := 1653) rfl
set_option maxRecDepth 100000 in
theorem pm_mi_216 : Cond.instanceMethod yX11_takeCharter ∈ lw_tbl := List.mem_of_getElem? (i := 1652) rfl
set_option maxRecDepth 100000 in
theorem pm_me_216 : Cond.selects (pm_R 11) yX11_takeCharter yX11_takeCharter ∈ lw_tbl := List.mem_of_getElem? (i := 89) rfl
set_option maxRecDepth 100000 in
theorem pm_mc_217 : Cond.code yX11_toldTurn cX11_toldTurn 2 (some (.int)) ∈ lw_tbl := List.mem_of_getElem? (i := 1179) rfl
set_option maxRecDepth 100000 in
theorem pm_mi_217 : Cond.instanceMethod yX11_toldTurn ∈ lw_tbl := List.mem_of_getElem? (i := 1178) rfl
set_option maxRecDepth 100000 in
theorem pm_me_217 : Cond.selects (pm_R 11) yX11_toldTurn yX11_toldTurn ∈ lw_tbl := List.mem_of_getElem? (i := 47) rfl
set_option maxRecDepth 100000 in
theorem pm_mc_218 : Cond.code yX11_tryRow cX11_tryRow 2 (none) ∈ lw_tbl := List.mem_of_getElem? (i := 1551) rfl
set_option maxRecDepth 100000 in
theorem pm_mi_218 : Cond.instanceMethod yX11_tryRow ∈ lw_tbl := List.mem_of_getElem? (i := 1550) rfl
set_option maxRecDepth 100000 in
theorem pm_me_218 : Cond.selects (pm_R 11) yX11_tryRow yX11_tryRow ∈ lw_tbl := List.mem_of_getElem? (i := 74) rfl
set_option maxRecDepth 100000 in
theorem pm_mc_219 : Cond.code yX11_tryWithout cX11_tryWithout 4 (none) ∈ lw_tbl := List.mem_of_getElem? (i := 1773) rfl
set_option maxRecDepth 100000 in
theorem pm_mi_219 : Cond.instanceMethod yX11_tryWithout ∈ lw_tbl := List.mem_of_getElem? (i := 1772) rfl
set_option maxRecDepth 100000 in
theorem pm_me_219 : Cond.selects (pm_R 11) yX11_tryWithout yX11_tryWithout ∈ lw_tbl := List.mem_of_getElem? (i := 105) rfl
set_option maxRecDepth 100000 in
theorem pm_mc_220 : Cond.code yX11_turn cX11_turn 2 (some (.int)) ∈ lw_tbl := List.mem_of_getElem? (i := 1527) rfl
set_option maxRecDepth 100000 in
theorem pm_mi_220 : Cond.instanceMethod yX11_turn ∈ lw_tbl := List.mem_of_getElem? (i := 1525) rfl
set_option maxRecDepth 100000 in
theorem pm_me_220 : Cond.selects (pm_R 11) yX11_turn yX11_turn ∈ lw_tbl := List.mem_of_getElem? (i := 1526) rfl
set_option maxRecDepth 100000 in
theorem pm_mc_221 : Cond.code yX11_turnsByOrder cX11_turnsByOrder 3 (none) ∈ lw_tbl := List.mem_of_getElem? (i := 1727) rfl
set_option maxRecDepth 100000 in
theorem pm_mi_221 : Cond.instanceMethod yX11_turnsByOrder ∈ lw_tbl := List.mem_of_getElem? (i := 1726) rfl
set_option maxRecDepth 100000 in
theorem pm_me_221 : Cond.selects (pm_R 11) yX11_turnsByOrder yX11_turnsByOrder ∈ lw_tbl := List.mem_of_getElem? (i := 101) rfl
set_option maxRecDepth 100000 in
theorem pm_mc_222 : Cond.code yX11_turnsNow cX11_turnsNow 2 (none) ∈ lw_tbl := List.mem_of_getElem? (i := 1661) rfl
set_option maxRecDepth 100000 in
theorem pm_mi_222 : Cond.instanceMethod yX11_turnsNow ∈ lw_tbl := List.mem_of_getElem? (i := 1660) rfl
set_option maxRecDepth 100000 in
theorem pm_me_222 : Cond.selects (pm_R 11) yX11_turnsNow yX11_turnsNow ∈ lw_tbl := List.mem_of_getElem? (i := 91) rfl
set_option maxRecDepth 100000 in
theorem pm_mc_223 : Cond.code yX11_undo cX11_undo 1 (some (.boolean)) ∈ lw_tbl := List.mem_of_getElem? (i := 1611) rfl
set_option maxRecDepth 100000 in
theorem pm_mi_223 : Cond.instanceMethod yX11_undo ∈ lw_tbl := List.mem_of_getElem? (i := 1609) rfl
set_option maxRecDepth 100000 in
theorem pm_me_223 : Cond.selects (pm_R 11) yX11_undo yX11_undo ∈ lw_tbl := List.mem_of_getElem? (i := 1610) rfl
set_option maxRecDepth 100000 in
theorem pm_mc_224 : Cond.code yX11_unpack cX11_unpack 3 (none) ∈ lw_tbl := List.mem_of_getElem? (i := 1752) rfl
set_option maxRecDepth 100000 in
theorem pm_mi_224 : Cond.instanceMethod yX11_unpack ∈ lw_tbl := List.mem_of_getElem? (i := 1751) rfl
set_option maxRecDepth 100000 in
theorem pm_me_224 : Cond.selects (pm_R 11) yX11_unpack yX11_unpack ∈ lw_tbl := List.mem_of_getElem? (i := 104) rfl
set_option maxRecDepth 100000 in
theorem pm_mc_225 : Cond.code yX11_untell cX11_untell 2 (some (.boolean)) ∈ lw_tbl := List.mem_of_getElem? (i := 1781) rfl
set_option maxRecDepth 100000 in
theorem pm_mi_225 : Cond.instanceMethod yX11_untell ∈ lw_tbl := List.mem_of_getElem? (i := 1779) rfl
set_option maxRecDepth 100000 in
theorem pm_me_225 : Cond.selects (pm_R 11) yX11_untell yX11_untell ∈ lw_tbl := List.mem_of_getElem? (i := 1780) rfl
set_option maxRecDepth 100000 in
theorem pm_mc_226 : Cond.code yX11_used cX11_used 5 (some (.int)) ∈ lw_tbl := List.mem_of_getElem? (i := 1731) rfl
set_option maxRecDepth 100000 in
theorem pm_mi_226 : Cond.instanceMethod yX11_used ∈ lw_tbl := List.mem_of_getElem? (i := 1729) rfl
set_option maxRecDepth 100000 in
theorem pm_me_226 : Cond.selects (pm_R 11) yX11_used yX11_used ∈ lw_tbl := List.mem_of_getElem? (i := 1730) rfl
set_option maxRecDepth 100000 in
theorem pm_mc_227 : Cond.code yX11_waysBy cX11_waysBy 7 (some (.long)) ∈ lw_tbl := List.mem_of_getElem? (i := 1583) rfl
set_option maxRecDepth 100000 in
theorem pm_mi_227 : Cond.instanceMethod yX11_waysBy ∈ lw_tbl := List.mem_of_getElem? (i := 1582) rfl
set_option maxRecDepth 100000 in
theorem pm_me_227 : Cond.selects (pm_R 11) yX11_waysBy yX11_waysBy ∈ lw_tbl := List.mem_of_getElem? (i := 81) rfl
set_option maxRecDepth 100000 in
theorem pm_mc_228 : Cond.code yX11_wipe cX11_wipe 2 (some (.int)) ∈ lw_tbl := List.mem_of_getElem? (i := 1623) rfl
set_option maxRecDepth 100000 in
theorem pm_mi_228 : Cond.instanceMethod yX11_wipe ∈ lw_tbl := List.mem_of_getElem? (i := 1621) rfl
set_option maxRecDepth 100000 in
theorem pm_me_228 : Cond.selects (pm_R 11) yX11_wipe yX11_wipe ∈ lw_tbl := List.mem_of_getElem? (i := 1622) rfl
set_option maxRecDepth 100000 in
theorem pm_mc_229 : Cond.code yX11_word cX11_word 2 (some (.int)) ∈ lw_tbl := List.mem_of_getElem? (i := 1539) rfl
set_option maxRecDepth 100000 in
theorem pm_mi_229 : Cond.instanceMethod yX11_word ∈ lw_tbl := List.mem_of_getElem? (i := 1537) rfl
set_option maxRecDepth 100000 in
theorem pm_me_229 : Cond.selects (pm_R 11) yX11_word yX11_word ∈ lw_tbl := List.mem_of_getElem? (i := 1538) rfl
set_option maxRecDepth 100000 in
theorem pm_mc_230 : Cond.code yX11_wordIn cX11_wordIn 3 (some (.int)) ∈ lw_tbl := List.mem_of_getElem? (i := 1681) rfl
set_option maxRecDepth 100000 in
theorem pm_mi_230 : Cond.instanceMethod yX11_wordIn ∈ lw_tbl := List.mem_of_getElem? (i := 1680) rfl
set_option maxRecDepth 100000 in
theorem pm_me_230 : Cond.selects (pm_R 11) yX11_wordIn yX11_wordIn ∈ lw_tbl := List.mem_of_getElem? (i := 96) rfl
set_option maxRecDepth 100000 in
theorem pm_mc_231 : Cond.code yX11_wordOf cX11_wordOf 4 (some (.int)) ∈ lw_tbl := List.mem_of_getElem? (i := 1456) rfl
set_option maxRecDepth 100000 in
theorem pm_mi_231 : Cond.instanceMethod yX11_wordOf ∈ lw_tbl := List.mem_of_getElem? (i := 1455) rfl
set_option maxRecDepth 100000 in
theorem pm_me_231 : Cond.selects (pm_R 11) yX11_wordOf yX11_wordOf ∈ lw_tbl := List.mem_of_getElem? (i := 58) rfl
set_option maxRecDepth 100000 in
theorem pm_mc_232 : Cond.code yX11_worth cX11_worth 3 (some (.int)) ∈ lw_tbl := List.mem_of_getElem? (i := 1504) rfl
set_option maxRecDepth 100000 in
theorem pm_mi_232 : Cond.instanceMethod yX11_worth ∈ lw_tbl := List.mem_of_getElem? (i := 1502) rfl
set_option maxRecDepth 100000 in
theorem pm_me_232 : Cond.selects (pm_R 11) yX11_worth yX11_worth ∈ lw_tbl := List.mem_of_getElem? (i := 1503) rfl
set_option maxRecDepth 100000 in
theorem pm_mc_233 : Cond.code yX11_write cX11_write 2 (some (.int)) ∈ lw_tbl := List.mem_of_getElem? (i := 1599) rfl
set_option maxRecDepth 100000 in
theorem pm_mi_233 : Cond.instanceMethod yX11_write ∈ lw_tbl := List.mem_of_getElem? (i := 1597) rfl
set_option maxRecDepth 100000 in
theorem pm_me_233 : Cond.selects (pm_R 11) yX11_write yX11_write ∈ lw_tbl := List.mem_of_getElem? (i := 1598) rfl
set_option maxRecDepth 100000 in
theorem pm_mc_234 : Cond.code yX11_written cX11_written 3 (some (.int)) ∈ lw_tbl := List.mem_of_getElem? (i := 1631) rfl
set_option maxRecDepth 100000 in
theorem pm_mi_234 : Cond.instanceMethod yX11_written ∈ lw_tbl := List.mem_of_getElem? (i := 1629) rfl
set_option maxRecDepth 100000 in
theorem pm_me_234 : Cond.selects (pm_R 11) yX11_written yX11_written ∈ lw_tbl := List.mem_of_getElem? (i := 1630) rfl
set_option maxRecDepth 100000 in
theorem pm_mc_235 : Cond.code yJ7_fill_53178 cJ7_fill_53178 4 (none) ∈ lw_tbl := List.mem_of_getElem? (i := 360) rfl
set_option maxRecDepth 100000 in
theorem pm_ms_235 : Cond.static yJ7_fill_53178 ∈ lw_tbl := List.mem_of_getElem? (i := 359) rfl
set_option maxRecDepth 100000 in
theorem pm_in_0 : Cond.initialized (pm_R 0) ∈ lw_tbl := List.mem_of_getElem? (i := 116) rfl
set_option maxRecDepth 100000 in
theorem pm_in_1 : Cond.initialized (pm_R 1) ∈ lw_tbl := List.mem_of_getElem? (i := 118) rfl
set_option maxRecDepth 100000 in
theorem pm_in_2 : Cond.initialized (pm_R 2) ∈ lw_tbl := List.mem_of_getElem? (i := 109) rfl
set_option maxRecDepth 100000 in
theorem pm_in_3 : Cond.initialized (pm_R 3) ∈ lw_tbl := List.mem_of_getElem? (i := 121) rfl
set_option maxRecDepth 100000 in
theorem pm_in_4 : Cond.initialized (pm_R 4) ∈ lw_tbl := List.mem_of_getElem? (i := 115) rfl
set_option maxRecDepth 100000 in
theorem pm_in_5 : Cond.initialized (pm_R 5) ∈ lw_tbl := List.mem_of_getElem? (i := 119) rfl
set_option maxRecDepth 100000 in
theorem pm_in_6 : Cond.initialized (pm_R 6) ∈ lw_tbl := List.mem_of_getElem? (i := 123) rfl
set_option maxRecDepth 100000 in
theorem pm_in_7 : Cond.initialized (pm_R 7) ∈ lw_tbl := List.mem_of_getElem? (i := 120) rfl
set_option maxRecDepth 100000 in
theorem pm_in_8 : Cond.initialized (pm_R 8) ∈ lw_tbl := List.mem_of_getElem? (i := 110) rfl
set_option maxRecDepth 100000 in
theorem pm_in_9 : Cond.initialized (pm_R 9) ∈ lw_tbl := List.mem_of_getElem? (i := 122) rfl
set_option maxRecDepth 100000 in
theorem pm_in_10 : Cond.initialized (pm_R 10) ∈ lw_tbl := List.mem_of_getElem? (i := 108) rfl
set_option maxRecDepth 100000 in
theorem pm_in_11 : Cond.initialized (pm_R 11) ∈ lw_tbl := List.mem_of_getElem? (i := 124) rfl
set_option maxRecDepth 100000 in
theorem pm_in_13 : Cond.initialized (pm_R 13) ∈ lw_tbl := List.mem_of_getElem? (i := 117) rfl
end
section
/-! The pure machine: a heap of numbers, steps, the least fixed point of runs, contracts by depth. -/
abbrev pm_Hp : Type := Nat → Nat → Int
abbrev pm_Lv : Type := List (Nat × Value)
abbrev pm_Q : Type := Option Value → pm_Hp → Prop
abbrev pm_C : Type := Nat → List Value → pm_Hp → pm_Q → Prop
abbrev pm_X : Type := Nat → pm_Lv → List Value → pm_Hp → Prop
abbrev pm_Nx : Type := Nat × pm_Lv × List Value × pm_Hp
def pm_up (h : pm_Hp) (c j : Nat) (v : Int) : pm_Hp := fun c' j' => if c' = c ∧ j' = j then v else h c' j'
def pm_cp (h : pm_Hp) (s d sp dp n : Nat) : pm_Hp := fun c j => if c = d ∧ dp ≤ j ∧ j < dp + n then h s (sp + (j - dp)) else h c j
def pm_lg (lv : pm_Lv) (i : Nat) : Option Value := (lv.find? (fun q => q.1 == i)).map (fun q => q.2)
def pm_l1 (lv : pm_Lv) (i : Nat) (v : Value) : pm_Lv := (i, v) :: lv.filter (fun q => !(q.1 == i) && !(q.1 + 1 == i && q.2.category == 2))
def pm_l2 (lv : pm_Lv) (i : Nat) (v : Value) : pm_Lv := (i, v) :: lv.filter (fun q => !(q.1 == i) && (!(q.1 == i + 1) && !(q.1 + 1 == i && q.2.category == 2)))
def pm_ins (k pc : Nat) : Option pm_Ins := ((pm_I[k]?).bind (fun l => l.find? (fun q => q.1 == pc))).map (fun q => q.2)
def pm_bop (b : Nat) (x y : Int32) : Option Int32 := match b with
  | 0 => some (x + y)
  | 1 => some (x - y)
  | 2 => some (x * y)
  | 3 => some (x &&& y)
  | 4 => some (x ||| y)
  | 5 => some (x ^^^ y)
  | 6 => some (x <<< (y &&& 31))
  | 7 => some (x >>> (y &&& 31))
  | 8 => if y = 0 then none else some (x - x / y * y)
  | 9 => if y = 0 then none else some (x / y)
  | _ => none
def pm_lop (b : Nat) (x y : Int64) : Option Int64 := match b with
  | 0 => some (x + y)
  | 1 => some (x * y)
  | 2 => some (x &&& y)
  | 3 => some (x ||| y)
  | _ => none
def pm_sop (b : Nat) (x : Int64) (y : Int32) : Option Int64 := match b with
  | 0 => some (x <<< (y.toInt64 &&& 63))
  | 1 => some (x >>> (y.toInt64 &&& 63))
  | _ => none
def pm_cnd (b : Nat) (x y : Int32) : Option Bool := match b with
  | 0 => some (decide (x = y))
  | 1 => some (decide (¬ x = y))
  | 2 => some (decide (x < y))
  | 3 => some (decide (y ≤ x))
  | 4 => some (decide (y < x))
  | 5 => some (decide (x ≤ y))
  | _ => none
def pm_sI {α : Type} (st : List Value) (k : Int32 → List Value → Option α) : Option α := match st with
  | .int x :: r => k x r
  | _ => none
def pm_sL {α : Type} (st : List Value) (k : Int64 → List Value → Option α) : Option α := match st with
  | .long x :: r => k x r
  | _ => none
def pm_sR {α : Type} (st : List Value) (k : Nat → List Value → Option α) : Option α := match st with
  | .ref x :: r => k x r
  | _ => none
def pm_s1 {α : Type} (st : List Value) (k : Value → List Value → Option α) : Option α := match st with
  | v :: r => if v.category = 1 then k v r else none
  | _ => none
def pm_gI {α : Type} (v : Option Value) (k : Int32 → Option α) : Option α := match v with
  | some (.int x) => k x
  | _ => none
def pm_gL {α : Type} (v : Option Value) (k : Int64 → Option α) : Option α := match v with
  | some (.long x) => k x
  | _ => none
def pm_gR {α : Type} (v : Option Value) (k : Nat → Option α) : Option α := match v with
  | some (.ref x) => k x
  | _ => none
/-- the kind of a field of a cell of a class: 0 int, 1 long, 2 reference, 4 boolean -/
def pm_fk (q ci a : Nat) : Option Nat := match pm_S[q]? with
  | some (0, c, ks) => if c = ci then ks[a]? else none
  | _ => none
/-- an array cell: its kind (1 int, 2 byte, 3 boolean, 4 long, 5 reference, 6 the constant row) and its length -/
def pm_ak (q : Nat) : Option (Nat × Nat) := match pm_S[q]? with
  | some (g, n, _) => if g = 0 then none else some (g, n)
  | none => none
def pm_ix {α : Type} (i : Int32) (n : Nat) (k : Nat → Option α) : Option α := if 0 ≤ i.toInt ∧ i.toInt < (n : Int) then k i.toNatClampNeg else none
def pm_cat (st : List Value) : Nat := (st.map fun v => v.category).sum
def pm_go (pc : Nat) (off : Int) : Option Nat := if 0 ≤ (pc : Int) + off then some ((pc : Int) + off).toNat else none
def pm_sw (a pc : Nat) (x : Int32) : Option Nat := match pm_SW[a]? with
  | some (d, lo, hi, offs, _) => if x.toInt < lo ∨ hi < x.toInt then pm_go pc d else (offs[(x.toInt - lo).toNat]?).bind (pm_go pc)
  | none => none
def pm_stp (i : pm_Ins) (pc : Nat) (lv : pm_Lv) (st : List Value) (h : pm_Hp) : Option pm_Nx := match i with
  | (f, _, len, z, a, b, _) => match f with
    | 0 => some (pc + len, lv, .int (Int32.ofInt z) :: st, h)
    | 1 => some (pc + len, lv, .long (Int64.ofInt z) :: st, h)
    | 2 => pm_gI (pm_lg lv a) fun x => some (pc + len, lv, .int x :: st, h)
    | 3 => pm_gL (pm_lg lv a) fun x => some (pc + len, lv, .long x :: st, h)
    | 4 => pm_gR (pm_lg lv a) fun x => some (pc + len, lv, .ref x :: st, h)
    | 5 => pm_sI st fun x t => some (pc + len, pm_l1 lv a (.int x), t, h)
    | 6 => pm_sL st fun x t => some (pc + len, pm_l2 lv a (.long x), t, h)
    | 7 => pm_sR st fun x t => some (pc + len, pm_l1 lv a (.ref x), t, h)
    | 8 => pm_gI (pm_lg lv a) fun x => some (pc + len, pm_l1 lv a (.int (x + Int32.ofInt z)), st, h)
    | 9 => pm_sI st fun y t => pm_sI t fun x u => (pm_bop b x y).bind fun v => some (pc + len, lv, .int v :: u, h)
    | 10 => pm_sI st fun x t => some (pc + len, lv, .int (-x) :: t, h)
    | 11 => pm_sL st fun y t => pm_sL t fun x u => (pm_lop b x y).bind fun v => some (pc + len, lv, .long v :: u, h)
    | 12 => pm_sI st fun y t => pm_sL t fun x u => (pm_sop b x y).bind fun v => some (pc + len, lv, .long v :: u, h)
    | 13 => pm_sL st fun y t => pm_sL t fun x u => some (pc + len, lv, .int (lg_cmp x y) :: u, h)
    | 14 => pm_sI st fun x t => some (pc + len, lv, .long x.toInt64 :: t, h)
    | 15 => pm_sL st fun x t => some (pc + len, lv, .int x.toInt32 :: t, h)
    | 16 => pm_sI st fun x t => some (pc + len, lv, .int x.toInt8.toInt32 :: t, h)
    | 17 => pm_s1 st fun v t => some (pc + len, lv, v :: v :: t, h)
    | 18 => pm_s1 st fun _ t => some (pc + len, lv, t, h)
    | 19 => pm_s1 st fun v t => pm_s1 t fun w u => some (pc + len, lv, v :: w :: v :: w :: u, h)
    | 20 => some (a, lv, st, h)
    | 21 => pm_sI st fun x t => (pm_cnd b x 0).bind fun q => some (if q = true then a else pc + len, lv, t, h)
    | 22 => pm_sI st fun y t => pm_sI t fun x u => (pm_cnd b x y).bind fun q => some (if q = true then a else pc + len, lv, u, h)
    | 23 => pm_sI st fun x t => (pm_sw a pc x).bind fun g => some (g, lv, t, h)
    | 24 => pm_sR st fun q t => if pm_fk q b a = some 0 ∨ pm_fk q b a = some 4 then some (pc + len, lv, .int (Int32.ofInt (h q a)) :: t, h) else none
    | 25 => pm_sR st fun q t => if pm_fk q b a = some 1 then some (pc + len, lv, .long (Int64.ofInt (h q a)) :: t, h) else none
    | 26 => pm_sR st fun q t => if pm_fk q b a = some 2 then some (pc + len, lv, .ref (h q a).toNat :: t, h) else none
    | 27 => pm_sI st fun x t => pm_sR t fun q u => if pm_fk q b a = some 0 ∨ (pm_fk q b a = some 4 ∧ (x = 0 ∨ x = 1)) then some (pc + len, lv, u, pm_up h q a x.toInt) else none
    | 28 => pm_sL st fun x t => pm_sR t fun q u => if pm_fk q b a = some 1 then some (pc + len, lv, u, pm_up h q a x.toInt) else none
    | 29 => pm_sR st fun x t => pm_sR t fun q u => if pm_fk q b a = some 2 then some (pc + len, lv, u, pm_up h q a (x : Int)) else none
    | 30 => some (pc + len, lv, .ref 135 :: st, h)
    | 31 => pm_sR st fun q t => (pm_ak q).bind fun g => if g.1 < 5 then some (pc + len, lv, .int (Int32.ofNat g.2) :: t, h) else none
    | 32 => pm_sI st fun i t => pm_sR t fun q u => (pm_ak q).bind fun g => if g.1 = 1 then pm_ix i g.2 fun j => some (pc + len, lv, .int (Int32.ofInt (h q j)) :: u, h) else if g.1 = 6 then pm_ix i 18 fun j => some (pc + len, lv, .int (Int32.ofInt (pm_O.getD j 0)) :: u, h) else none
    | 33 => pm_sI st fun i t => pm_sR t fun q u => (pm_ak q).bind fun g => if g.1 = 2 ∨ g.1 = 3 then pm_ix i g.2 fun j => some (pc + len, lv, .int (Int32.ofInt (h q j)) :: u, h) else none
    | 34 => pm_sI st fun i t => pm_sR t fun q u => (pm_ak q).bind fun g => if g.1 = 4 then pm_ix i g.2 fun j => some (pc + len, lv, .long (Int64.ofInt (h q j)) :: u, h) else none
    | 35 => pm_sI st fun i t => pm_sR t fun q u => (pm_ak q).bind fun g => if g.1 = 5 then pm_ix i g.2 fun j => some (pc + len, lv, .ref (h q j).toNat :: u, h) else none
    | 36 => pm_sI st fun x t => pm_sI t fun i u => pm_sR u fun q w => (pm_ak q).bind fun g => if g.1 = 1 then pm_ix i g.2 fun j => some (pc + len, lv, w, pm_up h q j x.toInt) else none
    | 37 => pm_sI st fun x t => pm_sI t fun i u => pm_sR u fun q w => (pm_ak q).bind fun g => if (g.1 = 2 ∧ -128 ≤ x.toInt ∧ x.toInt ≤ 127) ∨ (g.1 = 3 ∧ (x = 0 ∨ x = 1)) then pm_ix i g.2 fun j => some (pc + len, lv, w, pm_up h q j x.toInt) else none
    | 38 => pm_sL st fun x t => pm_sI t fun i u => pm_sR u fun q w => (pm_ak q).bind fun g => if g.1 = 4 then pm_ix i g.2 fun j => some (pc + len, lv, w, pm_up h q j x.toInt) else none
    | 45 => pm_sI st fun n t => pm_sI t fun dp u => pm_sR u fun d v => pm_sI v fun sp w => pm_sR w fun s r => (pm_ak s).bind fun gs => (pm_ak d).bind fun gd =>
        if (gs.1 = 1 ∨ gs.1 = 4) ∧ gd.1 = gs.1 ∧ 0 ≤ n.toInt ∧ 0 ≤ dp.toInt ∧ 0 ≤ sp.toInt ∧ sp.toNatClampNeg + n.toNatClampNeg ≤ gs.2 ∧ dp.toNatClampNeg + n.toNatClampNeg ≤ gd.2 ∧ pm_cat r ≤ 8
        then some (pc + len, lv, r, pm_cp h s d sp.toNatClampNeg dp.toNatClampNeg n.toNatClampNeg) else none
    | 46 => (match b with
      | 0 => pm_sI st fun y t => pm_sI t fun x u => if pm_cat u ≤ 8 then some (pc + len, lv, .int (if x < y then y else x) :: u, h) else none
      | 1 => pm_sI st fun y t => pm_sI t fun x u => if pm_cat u ≤ 8 then some (pc + len, lv, .int (if y < x then y else x) :: u, h) else none
      | _ => pm_sL st fun y t => pm_sL t fun x u => if pm_cat u ≤ 8 then some (pc + len, lv, .long (if y < x then y else x) :: u, h) else none)
    | _ => none
/-- a return -/
def pm_ret (f r : Nat) (Q : pm_Q) (st : List Value) (h : pm_Hp) : Prop := match f with
  | 39 => ∃ x : Int32, st = [.int x] ∧ (r = 1 → x = 0 ∨ x = 1) ∧ Q (some (.int x)) h
  | 40 => ∃ x : Int64, st = [.long x] ∧ Q (some (.long x)) h
  | 41 => ∃ q : Nat, st = [.ref q] ∧ Q (some (.ref q)) h
  | 42 => st = [] ∧ Q none h
  | _ => False
/-- a call: of an object's method, of a class's -/
def pm_cv (C : pm_C) (X : pm_X) (a len pc : Nat) (lv : pm_Lv) (st : List Value) (h : pm_Hp) : Prop :=
  ∃ (me : pm_Me) (q : Nat) (As rest : List Value) (ks : List Nat), pm_M[a]? = some me ∧ As.length = me.2.2.2.2.1 ∧ st = As.reverse ++ .ref q :: rest ∧ pm_S[q]? = some (0, me.2.2.2.2.2.1, ks) ∧ pm_cat rest ≤ 8 ∧ C a (.ref q :: As) h (fun r h' => X (pc + len) lv (r.toList ++ rest) h')
def pm_cs (C : pm_C) (X : pm_X) (a len pc : Nat) (lv : pm_Lv) (st : List Value) (h : pm_Hp) : Prop :=
  ∃ (me : pm_Me) (As rest : List Value), pm_M[a]? = some me ∧ As.length = me.2.2.2.2.1 ∧ st = As.reverse ++ rest ∧ pm_cat rest ≤ 8 ∧ C a As h (fun r h' => X (pc + len) lv (r.toList ++ rest) h')
def pm_Fi (C : pm_C) (Q : pm_Q) (X : pm_X) (i : pm_Ins) (pc : Nat) (lv : pm_Lv) (st : List Value) (h : pm_Hp) : Prop :=
  if i.1 = 43 then pm_cv C X i.2.2.2.2.1 i.2.2.1 pc lv st h
  else if i.1 = 44 then pm_cs C X i.2.2.2.2.1 i.2.2.1 pc lv st h
  else if 39 ≤ i.1 ∧ i.1 ≤ 42 then pm_ret i.1 i.2.1 Q st h
  else ∃ nx : pm_Nx, pm_stp i pc lv st h = some nx ∧ X nx.1 nx.2.1 nx.2.2.1 nx.2.2.2
def pm_Fs (C : pm_C) (k : Nat) (Q : pm_Q) (X : pm_X) (pc : Nat) (lv : pm_Lv) (st : List Value) (h : pm_Hp) : Prop := ∃ i : pm_Ins, pm_ins k pc = some i ∧ pm_Fi C Q X i pc lv st h
/-- a run: the least predicate that is closed under the steps -/
def pm_run (C : pm_C) (k : Nat) (Q : pm_Q) (pc : Nat) (lv : pm_Lv) (st : List Value) (h : pm_Hp) : Prop :=
  ∀ X : pm_X, (∀ pc lv st h, pm_Fs C k Q X pc lv st h → X pc lv st h) → X pc lv st h
def pm_mono (C : pm_C) : Prop := ∀ (k : Nat) (as : List Value) (h : pm_Hp) (Q Q' : pm_Q), (∀ r h, Q r h → Q' r h) → C k as h Q → C k as h Q'
theorem pm_ret_mono {f r : Nat} {Q Q' : pm_Q} {st : List Value} {h : pm_Hp} (hQ : ∀ r h, Q r h → Q' r h) (H : pm_ret f r Q st h) : pm_ret f r Q' st h := by
  unfold pm_ret at H ⊢
  split at H
  · obtain ⟨x, h1, h2, h3⟩ := H; exact ⟨x, h1, h2, hQ _ _ h3⟩
  · obtain ⟨x, h1, h3⟩ := H; exact ⟨x, h1, hQ _ _ h3⟩
  · obtain ⟨x, h1, h3⟩ := H; exact ⟨x, h1, hQ _ _ h3⟩
  · exact ⟨H.1, hQ _ _ H.2⟩
  · exact H
theorem pm_Fi_mono {C : pm_C} (hC : pm_mono C) {Q Q' : pm_Q} {X Y : pm_X} (hQ : ∀ r h, Q r h → Q' r h) (hX : ∀ pc lv st h, X pc lv st h → Y pc lv st h) {i : pm_Ins} {pc : Nat} {lv : pm_Lv} {st : List Value} {h : pm_Hp} (H : pm_Fi C Q X i pc lv st h) : pm_Fi C Q' Y i pc lv st h := by
  unfold pm_Fi at H ⊢
  by_cases c1 : i.1 = 43
  · rw [if_pos c1] at H ⊢
    obtain ⟨me, q, As, rest, ks, h1, h2, h3, h4, h5, h6⟩ := H
    exact ⟨me, q, As, rest, ks, h1, h2, h3, h4, h5, hC _ _ _ _ _ (fun r h' => hX _ _ _ _) h6⟩
  · rw [if_neg c1] at H ⊢
    by_cases c2 : i.1 = 44
    · rw [if_pos c2] at H ⊢
      obtain ⟨me, As, rest, h1, h2, h3, h4, h5⟩ := H
      exact ⟨me, As, rest, h1, h2, h3, h4, hC _ _ _ _ _ (fun r h' => hX _ _ _ _) h5⟩
    · rw [if_neg c2] at H ⊢
      by_cases c3 : 39 ≤ i.1 ∧ i.1 ≤ 42
      · rw [if_pos c3] at H ⊢
        exact pm_ret_mono hQ H
      · rw [if_neg c3] at H ⊢
        obtain ⟨nx, h1, h2⟩ := H
        exact ⟨nx, h1, hX _ _ _ _ h2⟩
theorem pm_Fs_mono {C : pm_C} (hC : pm_mono C) {k : Nat} {Q Q' : pm_Q} {X Y : pm_X} (hQ : ∀ r h, Q r h → Q' r h) (hX : ∀ pc lv st h, X pc lv st h → Y pc lv st h) {pc : Nat} {lv : pm_Lv} {st : List Value} {h : pm_Hp} (H : pm_Fs C k Q X pc lv st h) : pm_Fs C k Q' Y pc lv st h := by
  obtain ⟨i, h1, h2⟩ := H
  exact ⟨i, h1, pm_Fi_mono hC hQ hX h2⟩
theorem pm_run_mono {C : pm_C} (hC : pm_mono C) {k : Nat} {Q Q' : pm_Q} (hQ : ∀ r h, Q r h → Q' r h) {pc : Nat} {lv : pm_Lv} {st : List Value} {h : pm_Hp} (H : pm_run C k Q pc lv st h) : pm_run C k Q' pc lv st h := by
  intro X hX
  exact H X (fun pc lv st h hF => hX pc lv st h (pm_Fs_mono hC hQ (fun _ _ _ _ q => q) hF))
theorem pm_fold {C : pm_C} (hC : pm_mono C) {k : Nat} {Q : pm_Q} {pc : Nat} {lv : pm_Lv} {st : List Value} {h : pm_Hp} (H : pm_Fs C k Q (pm_run C k Q) pc lv st h) : pm_run C k Q pc lv st h := by
  intro X hX
  exact hX pc lv st h (pm_Fs_mono hC (fun _ _ q => q) (fun pc lv st h q => q X hX) H)
def pm_Cd : Nat → pm_C
  | 0 => fun _ _ _ _ => False
  | d + 1 => fun k as h Q => (∃ me : pm_Me, pm_M[k]? = some me ∧ (lg_sl as).length ≤ me.2.2.1) ∧ pm_run (pm_Cd d) k Q 0 (lv_args 0 as) [] h
theorem pm_Cd_mono : ∀ d : Nat, pm_mono (pm_Cd d)
  | 0 => fun _ _ _ _ _ _ H => H
  | d + 1 => fun _ _ _ _ _ hQ H => ⟨H.1, pm_run_mono (pm_Cd_mono d) hQ H.2⟩
end
section
/-! The instructions as the class files have them, and what is checked of each of the tables' rows. -/
def pm_f4 (a : Nat) : Fin 4 := ⟨a % 4, Nat.mod_lt _ (by decide)⟩
def pm_cc (b : Nat) : ClassFile.Cond := match b with
  | 0 => .eq
  | 1 => .ne
  | 2 => .lt
  | 3 => .ge
  | 4 => .gt
  | _ => .le
def pm_rb (b : Nat) : Instr := match b with
  | 0 => .iadd
  | 1 => .isub
  | 2 => .imul
  | 3 => .iand
  | 4 => .ior
  | 5 => .ixor
  | 6 => .ishl
  | 7 => .ishr
  | 8 => .irem
  | _ => .idiv
def pm_rl (b : Nat) : Instr := match b with
  | 0 => .ladd
  | 1 => .lmul
  | 2 => .land
  | _ => .lor
def pm_real (i : pm_Ins) : Instr := match i with
  | (f, r, _, z, a, b, c) => match f with
    | 0 => (match r with
      | 0 => .iconst z
      | 1 => .bipush z
      | 2 => .sipush z
      | 3 => .ldc c
      | _ => .ldc_w c)
    | 1 => (match r with
      | 0 => (match a with
        | 0 => .lconst 0
        | _ => .lconst 1)
      | _ => .ldc2_w c)
    | 2 => (match r with
      | 0 => .iload_n (pm_f4 a)
      | _ => .iload a)
    | 3 => (match r with
      | 0 => .lload_n (pm_f4 a)
      | _ => .lload a)
    | 4 => (match r with
      | 0 => .aload_n (pm_f4 a)
      | _ => .aload a)
    | 5 => (match r with
      | 0 => .istore_n (pm_f4 a)
      | _ => .istore a)
    | 6 => (match r with
      | 0 => .lstore_n (pm_f4 a)
      | _ => .lstore a)
    | 7 => (match r with
      | 0 => .astore_n (pm_f4 a)
      | _ => .astore a)
    | 8 => .iinc a z
    | 9 => pm_rb b
    | 10 => .ineg
    | 11 => pm_rl b
    | 12 => (match b with
      | 0 => .lshl
      | _ => .lshr)
    | 13 => .lcmp
    | 14 => .i2l
    | 15 => .l2i
    | 16 => .i2b
    | 17 => .dup
    | 18 => .pop
    | 19 => .dup2
    | 20 => .goto z
    | 21 => .ifCond (pm_cc b) z
    | 22 => .if_icmp (pm_cc b) z
    | 23 => (match pm_SW[a]? with
      | some (d, lo, hi, offs, _) => .tableswitch d lo hi offs.toArray
      | none => .pop)
    | 24 => .getfield c
    | 25 => .getfield c
    | 26 => .getfield c
    | 27 => .putfield c
    | 28 => .putfield c
    | 29 => .putfield c
    | 30 => .getstatic c
    | 31 => .arraylength
    | 32 => .iaload
    | 33 => .baload
    | 34 => .laload
    | 35 => .aaload
    | 36 => .iastore
    | 37 => .bastore
    | 38 => .lastore
    | 39 => .ireturn
    | 40 => .lreturn
    | 41 => .areturn
    | 42 => .return_
    | 43 => .invokevirtual c
    | 44 => .invokestatic c
    | 45 => .invokestatic c
    | 46 => .invokestatic c
    | _ => .pop
/-- the length that a row must have -/
def pm_len (f r : Nat) : Nat := match f with
  | 0 => (match r with
    | 0 => 1
    | 1 => 2
    | 2 => 3
    | 3 => 2
    | _ => 3)
  | 1 => if r = 0 then 1 else 3
  | 2 => if r = 0 then 1 else 2
  | 3 => if r = 0 then 1 else 2
  | 4 => if r = 0 then 1 else 2
  | 5 => if r = 0 then 1 else 2
  | 6 => if r = 0 then 1 else 2
  | 7 => if r = 0 then 1 else 2
  | 8 => 3
  | 20 => 3
  | 21 => 3
  | 22 => 3
  | 24 => 3
  | 25 => 3
  | 26 => 3
  | 27 => 3
  | 28 => 3
  | 29 => 3
  | 30 => 3
  | 43 => 3
  | 44 => 3
  | 45 => 3
  | 46 => 3
  | _ => 1
/-- the calls of arraycopy: class, index -/
def pm_AC : List (Nat × Nat) := [(1, 30), (5, 34)]
/-- what is asked of a row beside its decoding; the method's row, the instruction's place and itself -/
def pm_side (me : pm_Me) (pc : Nat) (i : pm_Ins) : Bool := match me, i with
  | (_, _, ml, rt, _, ow, _), (f, r, len, z, a, b, c) => (f == 23 || len == pm_len f r) && (match f with
    | 0 => (match r with
      | 0 => decide (-1 ≤ z ∧ z ≤ 5)
      | 1 => decide ((Int8.ofInt z).toInt32 = Int32.ofInt z)
      | 2 => decide ((Int16.ofInt z).toInt32 = Int32.ofInt z)
      | _ => pm_CI.elem (ow, c, z))
    | 1 => (match r with
      | 0 => (a == 0 && decide (z = 0)) || (a == 1 && decide (z = 1))
      | _ => pm_CL.elem (ow, c, z))
    | 2 => r != 0 || a < 4
    | 3 => r != 0 || a < 4
    | 4 => r != 0 || a < 4
    | 5 => (r != 0 || a < 4) && decide (a < ml)
    | 6 => (r != 0 || a < 4) && decide (a + 1 < ml)
    | 7 => (r != 0 || a < 4) && decide (a < ml)
    | 8 => decide (a < ml)
    | 9 => decide (b < 10)
    | 11 => decide (b < 4)
    | 12 => decide (b < 2)
    | 20 => decide ((pc : Int) + z = (a : Int))
    | 21 => decide ((pc : Int) + z = (a : Int)) && decide (b < 6)
    | 22 => decide ((pc : Int) + z = (a : Int)) && decide (b < 6)
    | 23 => decide (a < 4)
    | 24 => if r = 0 then pm_FL.elem (ow, c, b, a) && decide (b < 12) && decide (a < pm_N b) else ow == 3 && (c == 29 && (b == 9 && a == 6))
    | 25 => r == 0 && pm_FL.elem (ow, c, b, a) && decide (b < 12) && decide (a < pm_N b)
    | 26 => r == 0 && pm_FL.elem (ow, c, b, a) && decide (b < 12) && decide (a < pm_N b)
    | 27 => r == 0 && pm_FL.elem (ow, c, b, a) && decide (b < 12) && decide (a < pm_N b) && !(pm_T b a).2.2.2
    | 28 => r == 0 && pm_FL.elem (ow, c, b, a) && decide (b < 12) && decide (a < pm_N b) && !(pm_T b a).2.2.2
    | 29 => r == 0 && pm_FL.elem (ow, c, b, a) && decide (b < 12) && decide (a < pm_N b) && !(pm_T b a).2.2.2
    | 30 => if r = 0 then ow == 10 && c == 255 else ow == 3 && c == 34
    | 39 => if r = 0 then decide (rt = some .int) else r == 1 && decide (rt = some .boolean)
    | 40 => decide (rt = some .long)
    | 41 => (match rt with
      | some (.object _) => true
      | _ => false)
    | 42 => decide (rt = none)
    | 43 => pm_ML.elem (ow, c, a) && decide ((pm_M[a]?).map (fun m => m.2.2.2.2.2.2) = some false)
    | 44 => pm_ML.elem (ow, c, a) && decide ((pm_M[a]?).map (fun m => m.2.2.2.2.2.2) = some true)
    | 45 => pm_AC.elem (ow, c)
    | 46 => pm_MA.elem (ow, c, b) && decide (b < 3)
    | _ => decide (f < 46))
def pm_okB (me : pm_Me) (q : Nat × pm_Ins) : Bool := decide (decode me.2.1 q.1 = .ok (pm_real q.2, q.2.2.2.1)) && pm_side me q.1 q.2
end
section
set_option maxRecDepth 100000 in
theorem pm_ok_0 : pm_I0.all (pm_okB (yX0_doAgain, cX0_doAgain, 2, some (.boolean), 0, 0, false)) = true := by decide +kernel
set_option maxRecDepth 100000 in
theorem pm_ok_1 : pm_I1.all (pm_okB (yX0_dropOldest, cX0_dropOldest, 2, none, 0, 0, false)) = true := by decide +kernel
set_option maxRecDepth 100000 in
theorem pm_ok_2 : pm_I2.all (pm_okB (yX0_empty, cX0_empty, 1, none, 0, 0, false)) = true := by decide +kernel
set_option maxRecDepth 100000 in
theorem pm_ok_3 : pm_I3.all (pm_okB (yX0_forgetActs, cX0_forgetActs, 1, none, 0, 0, false)) = true := by decide +kernel
set_option maxRecDepth 100000 in
theorem pm_ok_4 : pm_I4.all (pm_okB (yX0_note, cX0_note, 5, none, 4, 0, false)) = true := by decide +kernel
set_option maxRecDepth 100000 in
theorem pm_ok_5 : pm_I5.all (pm_okB (yX0_putSale, cX0_putSale, 3, none, 2, 0, false)) = true := by decide +kernel
set_option maxRecDepth 100000 in
theorem pm_ok_6 : pm_I6.all (pm_okB (yX0_putWord, cX0_putWord, 2, none, 1, 0, false)) = true := by decide +kernel
set_option maxRecDepth 100000 in
theorem pm_ok_7 : pm_I7.all (pm_okB (yX0_rowWithout, cX0_rowWithout, 5, some (.int), 2, 0, false)) = true := by decide +kernel
set_option maxRecDepth 100000 in
theorem pm_ok_8 : pm_I8.all (pm_okB (yX0_takeBack, cX0_takeBack, 1, some (.boolean), 0, 0, false)) = true := by decide +kernel
set_option maxRecDepth 100000 in
theorem pm_ok_9 : pm_I9.all (pm_okB (yX1_giveBack, cX1_giveBack, 2, none, 1, 1, false)) = true := by decide +kernel
set_option maxRecDepth 100000 in
theorem pm_ok_10 : pm_I10.all (pm_okB (yX1_keep, cX1_keep, 2, none, 1, 1, false)) = true := by decide +kernel
set_option maxRecDepth 100000 in
theorem pm_ok_11 : pm_I11.all (pm_okB (yX2_bindAlt, cX2_bindAlt, 7, some (.boolean), 2, 2, false)) = true := by decide +kernel
set_option maxRecDepth 100000 in
theorem pm_ok_12 : pm_I12.all (pm_okB (yX2_bindParts, cX2_bindParts, 3, some (.boolean), 0, 2, false)) = true := by decide +kernel
set_option maxRecDepth 100000 in
theorem pm_ok_13 : pm_I13.all (pm_okB (yX2_pass, cX2_pass, 2, some (.boolean), 1, 2, false)) = true := by decide +kernel
set_option maxRecDepth 100000 in
theorem pm_ok_14 : pm_I14.all (pm_okB (yX2_passFirst, cX2_passFirst, 2, some (.boolean), 1, 2, false)) = true := by decide +kernel
set_option maxRecDepth 100000 in
theorem pm_ok_15 : pm_I15.all (pm_okB (yX2_passNewName, cX2_passNewName, 1, some (.boolean), 0, 2, false)) = true := by decide +kernel
set_option maxRecDepth 100000 in
theorem pm_ok_16 : pm_I16.all (pm_okB (yX2_passNumber, cX2_passNumber, 3, some (.boolean), 2, 2, false)) = true := by decide +kernel
set_option maxRecDepth 100000 in
theorem pm_ok_17 : pm_I17.all (pm_okB (yX2_passPairName, cX2_passPairName, 3, some (.boolean), 2, 2, false)) = true := by decide +kernel
set_option maxRecDepth 100000 in
theorem pm_ok_18 : pm_I18.all (pm_okB (yX2_readAlt, cX2_readAlt, 2, some (.boolean), 0, 2, false)) = true := by decide +kernel
set_option maxRecDepth 100000 in
theorem pm_ok_19 : pm_I19.all (pm_okB (yX2_readLength, cX2_readLength, 2, some (.boolean), 0, 2, false)) = true := by decide +kernel
set_option maxRecDepth 100000 in
theorem pm_ok_20 : pm_I20.all (pm_okB (yX2_readPair, cX2_readPair, 5, some (.boolean), 0, 2, false)) = true := by decide +kernel
set_option maxRecDepth 100000 in
theorem pm_ok_21 : pm_I21.all (pm_okB (yX2_readRule, cX2_readRule, 5, some (.boolean), 0, 2, false)) = true := by decide +kernel
set_option maxRecDepth 100000 in
theorem pm_ok_22 : pm_I22.all (pm_okB (yX2_readTurns, cX2_readTurns, 3, some (.boolean), 0, 2, false)) = true := by decide +kernel
set_option maxRecDepth 100000 in
theorem pm_ok_23 : pm_I23.all (pm_okB (yX2_readWord, cX2_readWord, 3, some (.boolean), 0, 2, false)) = true := by decide +kernel
set_option maxRecDepth 100000 in
theorem pm_ok_24 : pm_I24.all (pm_okB (yX2_readWorths, cX2_readWorths, 5, some (.boolean), 2, 2, false)) = true := by decide +kernel
set_option maxRecDepth 100000 in
theorem pm_ok_25 : pm_I25.all (pm_okB (yX2_readsInto, cX2_readsInto, 6, some (.boolean), 3, 2, false)) = true := by decide +kernel
set_option maxRecDepth 100000 in
theorem pm_ok_26 : pm_I26.all (pm_okB (yX2_symbolAtHand, cX2_symbolAtHand, 1, some (.int), 0, 2, false)) = true := by decide +kernel
set_option maxRecDepth 100000 in
theorem pm_ok_27 : pm_I27.all (pm_okB (yX3_better, cX3_better, 3, some (.int), 3, 3, true)) = true := by decide +kernel
set_option maxRecDepth 100000 in
theorem pm_ok_28 : pm_I28.all (pm_okB (yX3_clearResults, cX3_clearResults, 4, none, 2, 3, false)) = true := by decide +kernel
set_option maxRecDepth 100000 in
theorem pm_ok_29 : pm_I29.all (pm_okB (yX3_endOf, cX3_endOf, 3, some (.int), 1, 3, false)) = true := by decide +kernel
set_option maxRecDepth 100000 in
theorem pm_ok_30 : pm_I30.all (pm_okB (yX3_findLotEnds, cX3_findLotEnds, 4, none, 1, 3, false)) = true := by decide +kernel
set_option maxRecDepth 100000 in
theorem pm_ok_31 : pm_I31.all (pm_okB (yX3_firstSwap, cX3_firstSwap, 9, some (.int), 2, 3, false)) = true := by decide +kernel
set_option maxRecDepth 100000 in
theorem pm_ok_32 : pm_I32.all (pm_okB (yX3_forget, cX3_forget, 1, none, 0, 3, false)) = true := by decide +kernel
set_option maxRecDepth 100000 in
theorem pm_ok_33 : pm_I33.all (pm_okB (yX3_heldBy, cX3_heldBy, 6, some (.int), 2, 3, false)) = true := by decide +kernel
set_option maxRecDepth 100000 in
theorem pm_ok_34 : pm_I34.all (pm_okB (yX3_isBribed, cX3_isBribed, 3, some (.boolean), 2, 3, false)) = true := by decide +kernel
set_option maxRecDepth 100000 in
theorem pm_ok_35 : pm_I35.all (pm_okB (yX3_leastBribe, cX3_leastBribe, 6, some (.int), 3, 3, false)) = true := by decide +kernel
set_option maxRecDepth 100000 in
theorem pm_ok_36 : pm_I36.all (pm_okB (yX3_meansMore, cX3_meansMore, 4, some (.boolean), 4, 3, true)) = true := by decide +kernel
set_option maxRecDepth 100000 in
theorem pm_ok_37 : pm_I37.all (pm_okB (yX3_offer, cX3_offer, 8, none, 3, 3, false)) = true := by decide +kernel
set_option maxRecDepth 100000 in
theorem pm_ok_38 : pm_I38.all (pm_okB (yX3_sumOf, cX3_sumOf, 5, some (.int), 3, 3, true)) = true := by decide +kernel
set_option maxRecDepth 100000 in
theorem pm_ok_39 : pm_I39.all (pm_okB (yX3_worthTo, cX3_worthTo, 5, some (.int), 3, 3, false)) = true := by decide +kernel
set_option maxRecDepth 100000 in
theorem pm_ok_40 : pm_I40.all (pm_okB (yX4_empty, cX4_empty, 2, none, 0, 4, false)) = true := by decide +kernel
set_option maxRecDepth 100000 in
theorem pm_ok_41 : pm_I41.all (pm_okB (yX4_findShortest, cX4_findShortest, 7, none, 1, 4, false)) = true := by decide +kernel
set_option maxRecDepth 100000 in
theorem pm_ok_42 : pm_I42.all (pm_okB (yX4_hasPlace, cX4_hasPlace, 2, some (.boolean), 1, 4, false)) = true := by decide +kernel
set_option maxRecDepth 100000 in
theorem pm_ok_43 : pm_I43.all (pm_okB (yX4_hasWord, cX4_hasWord, 2, some (.boolean), 1, 4, false)) = true := by decide +kernel
set_option maxRecDepth 100000 in
theorem pm_ok_44 : pm_I44.all (pm_okB (yX4_meaningBehind, cX4_meaningBehind, 5, some (.int), 3, 4, false)) = true := by decide +kernel
set_option maxRecDepth 100000 in
theorem pm_ok_45 : pm_I45.all (pm_okB (yX4_meaningOf, cX4_meaningOf, 6, some (.int), 3, 4, false)) = true := by decide +kernel
set_option maxRecDepth 100000 in
theorem pm_ok_46 : pm_I46.all (pm_okB (yX4_rulesNextTo, cX4_rulesNextTo, 7, some (.int), 2, 4, false)) = true := by decide +kernel
set_option maxRecDepth 100000 in
theorem pm_ok_47 : pm_I47.all (pm_okB (yX4_rulesOfUse, cX4_rulesOfUse, 5, some (.int), 1, 4, false)) = true := by decide +kernel
set_option maxRecDepth 100000 in
theorem pm_ok_48 : pm_I48.all (pm_okB (yX4_sizeOfAlt, cX4_sizeOfAlt, 6, some (.int), 2, 4, false)) = true := by decide +kernel
set_option maxRecDepth 100000 in
theorem pm_ok_49 : pm_I49.all (pm_okB (yX4_symbolOf, cX4_symbolOf, 4, some (.int), 1, 4, false)) = true := by decide +kernel
set_option maxRecDepth 100000 in
theorem pm_ok_50 : pm_I50.all (pm_okB (yX4_turnAt, cX4_turnAt, 2, some (.int), 1, 4, false)) = true := by decide +kernel
set_option maxRecDepth 100000 in
theorem pm_ok_51 : pm_I51.all (pm_okB (yX5_beginColumn, cX5_beginColumn, 9, none, 3, 5, false)) = true := by decide +kernel
set_option maxRecDepth 100000 in
theorem pm_ok_52 : pm_I52.all (pm_okB (yX5_fillColumn, cX5_fillColumn, 12, none, 4, 5, false)) = true := by decide +kernel
set_option maxRecDepth 100000 in
theorem pm_ok_53 : pm_I53.all (pm_okB (yX5_goOn, cX5_goOn, 5, none, 2, 5, false)) = true := by decide +kernel
set_option maxRecDepth 100000 in
theorem pm_ok_54 : pm_I54.all (pm_okB (yX5_nextWords, cX5_nextWords, 5, some (.int), 2, 5, false)) = true := by decide +kernel
set_option maxRecDepth 100000 in
theorem pm_ok_55 : pm_I55.all (pm_okB (yX5_readBeginning, cX5_readBeginning, 5, none, 3, 5, false)) = true := by decide +kernel
set_option maxRecDepth 100000 in
theorem pm_ok_56 : pm_I56.all (pm_okB (yX5_startsOfAlt, cX5_startsOfAlt, 14, some (.long), 3, 5, false)) = true := by decide +kernel
set_option maxRecDepth 100000 in
theorem pm_ok_57 : pm_I57.all (pm_okB (yX6_agree, cX6_agree, 7, some (.boolean), 3, 6, false)) = true := by decide +kernel
set_option maxRecDepth 100000 in
theorem pm_ok_58 : pm_I58.all (pm_okB (yX6_takeBack, cX6_takeBack, 2, some (.boolean), 1, 6, false)) = true := by decide +kernel
set_option maxRecDepth 100000 in
theorem pm_ok_59 : pm_I59.all (pm_okB (yX6_tell, cX6_tell, 4, some (.int), 3, 6, false)) = true := by decide +kernel
set_option maxRecDepth 100000 in
theorem pm_ok_60 : pm_I60.all (pm_okB (yX7_countOf, cX7_countOf, 6, some (.int), 3, 7, false)) = true := by decide +kernel
set_option maxRecDepth 100000 in
theorem pm_ok_61 : pm_I61.all (pm_okB (yX7_fillColumn, cX7_fillColumn, 9, none, 2, 7, false)) = true := by decide +kernel
set_option maxRecDepth 100000 in
theorem pm_ok_62 : pm_I62.all (pm_okB (yX7_forget, cX7_forget, 1, none, 0, 7, false)) = true := by decide +kernel
set_option maxRecDepth 100000 in
theorem pm_ok_63 : pm_I63.all (pm_okB (yX7_waysOfAlt, cX7_waysOfAlt, 12, some (.int), 5, 7, false)) = true := by decide +kernel
set_option maxRecDepth 100000 in
theorem pm_ok_64 : pm_I64.all (pm_okB (yX8_advance, cX8_advance, 2, none, 0, 8, false)) = true := by decide +kernel
set_option maxRecDepth 100000 in
theorem pm_ok_65 : pm_I65.all (pm_okB (yX8_begin, cX8_begin, 3, none, 2, 8, false)) = true := by decide +kernel
set_option maxRecDepth 100000 in
theorem pm_ok_66 : pm_I66.all (pm_okB (yX8_refuse, cX8_refuse, 2, some (.boolean), 1, 8, false)) = true := by decide +kernel
set_option maxRecDepth 100000 in
theorem pm_ok_67 : pm_I67.all (pm_okB (yX8_takeDigits, cX8_takeDigits, 2, none, 0, 8, false)) = true := by decide +kernel
set_option maxRecDepth 100000 in
theorem pm_ok_68 : pm_I68.all (pm_okB (yX8_takeLetters, cX8_takeLetters, 2, none, 0, 8, false)) = true := by decide +kernel
set_option maxRecDepth 100000 in
theorem pm_ok_69 : pm_I69.all (pm_okB (yX9_add, cX9_add, 6, none, 3, 9, false)) = true := by decide +kernel
set_option maxRecDepth 100000 in
theorem pm_ok_70 : pm_I70.all (pm_okB (yX9_addRoot, cX9_addRoot, 4, none, 2, 9, false)) = true := by decide +kernel
set_option maxRecDepth 100000 in
theorem pm_ok_71 : pm_I71.all (pm_okB (yX9_forget, cX9_forget, 1, none, 0, 9, false)) = true := by decide +kernel
set_option maxRecDepth 100000 in
theorem pm_ok_72 : pm_I72.all (pm_okB (yX9_grow, cX9_grow, 8, none, 3, 9, false)) = true := by decide +kernel
set_option maxRecDepth 100000 in
theorem pm_ok_73 : pm_I73.all (pm_okB (yX9_growBehind, cX9_growBehind, 5, none, 4, 9, false)) = true := by decide +kernel
set_option maxRecDepth 100000 in
theorem pm_ok_74 : pm_I74.all (pm_okB (yX9_growFrom, cX9_growFrom, 8, none, 5, 9, false)) = true := by decide +kernel
set_option maxRecDepth 100000 in
theorem pm_ok_75 : pm_I75.all (pm_okB (yX9_hasCharters, cX9_hasCharters, 1, some (.boolean), 0, 9, false)) = true := by decide +kernel
set_option maxRecDepth 100000 in
theorem pm_ok_76 : pm_I76.all (pm_okB (yX9_isCharter, cX9_isCharter, 2, some (.boolean), 1, 9, false)) = true := by decide +kernel
set_option maxRecDepth 100000 in
theorem pm_ok_77 : pm_I77.all (pm_okB (yX9_wordAt, cX9_wordAt, 3, some (.int), 2, 9, false)) = true := by decide +kernel
set_option maxRecDepth 100000 in
theorem pm_ok_78 : pm_I78.all (pm_okB (yX9_wordsInto, cX9_wordsInto, 4, none, 2, 9, false)) = true := by decide +kernel
set_option maxRecDepth 100000 in
theorem pm_ok_79 : pm_I79.all (pm_okB (yX10_about, cX10_about, 2, some (.int), 1, 10, false)) = true := by decide +kernel
set_option maxRecDepth 100000 in
theorem pm_ok_80 : pm_I80.all (pm_okB (yX10_back, cX10_back, 2, some (.int), 1, 10, false)) = true := by decide +kernel
set_option maxRecDepth 100000 in
theorem pm_ok_81 : pm_I81.all (pm_okB (yX10_behind, cX10_behind, 4, some (.int), 3, 10, false)) = true := by decide +kernel
set_option maxRecDepth 100000 in
theorem pm_ok_82 : pm_I82.all (pm_okB (yX10_best, cX10_best, 5, some (.int), 1, 10, false)) = true := by decide +kernel
set_option maxRecDepth 100000 in
theorem pm_ok_83 : pm_I83.all (pm_okB (yX10_bribe, cX10_bribe, 4, some (.int), 2, 10, false)) = true := by decide +kernel
set_option maxRecDepth 100000 in
theorem pm_ok_84 : pm_I84.all (pm_okB (yX10_doubtful, cX10_doubtful, 4, some (.int), 0, 10, false)) = true := by decide +kernel
set_option maxRecDepth 100000 in
theorem pm_ok_85 : pm_I85.all (pm_okB (yX10_end, cX10_end, 2, some (.int), 1, 10, false)) = true := by decide +kernel
set_option maxRecDepth 100000 in
theorem pm_ok_86 : pm_I86.all (pm_okB (yX10_fault, cX10_fault, 2, some (.int), 1, 10, false)) = true := by decide +kernel
set_option maxRecDepth 100000 in
theorem pm_ok_87 : pm_I87.all (pm_okB (yX10_feed, cX10_feed, 6, some (.int), 5, 10, false)) = true := by decide +kernel
set_option maxRecDepth 100000 in
theorem pm_ok_88 : pm_I88.all (pm_okB (yX10_fit, cX10_fit, 4, some (.int), 0, 10, false)) = true := by decide +kernel
set_option maxRecDepth 100000 in
theorem pm_ok_89 : pm_I89.all (pm_okB (yX10_forgetOldPort, cX10_forgetOldPort, 2, none, 0, 10, false)) = true := by decide +kernel
set_option maxRecDepth 100000 in
theorem pm_ok_90 : pm_I90.all (pm_okB (yX10_growEarnest, cX10_growEarnest, 2, some (.object "GuildCharter$Tree"), 0, 10, false)) = true := by decide +kernel
set_option maxRecDepth 100000 in
theorem pm_ok_91 : pm_I91.all (pm_okB (yX10_growHoles, cX10_growHoles, 2, some (.object "GuildCharter$Tree"), 0, 10, false)) = true := by decide +kernel
set_option maxRecDepth 100000 in
theorem pm_ok_92 : pm_I92.all (pm_okB (yX10_growWhole, cX10_growWhole, 1, some (.object "GuildCharter$Tree"), 0, 10, false)) = true := by decide +kernel
set_option maxRecDepth 100000 in
theorem pm_ok_93 : pm_I93.all (pm_okB (yX10_held, cX10_held, 3, some (.int), 1, 10, false)) = true := by decide +kernel
set_option maxRecDepth 100000 in
theorem pm_ok_94 : pm_I94.all (pm_okB (yX10_hole, cX10_hole, 4, some (.boolean), 2, 10, false)) = true := by decide +kernel
set_option maxRecDepth 100000 in
theorem pm_ok_95 : pm_I95.all (pm_okB (yX10_image, cX10_image, 2, some (.int), 1, 10, false)) = true := by decide +kernel
set_option maxRecDepth 100000 in
theorem pm_ok_96 : pm_I96.all (pm_okB (yX10_isGuild, cX10_isGuild, 1, some (.boolean), 1, 10, true)) = true := by decide +kernel
set_option maxRecDepth 100000 in
theorem pm_ok_97 : pm_I97.all (pm_okB (yX10_isUnwritten, cX10_isUnwritten, 2, some (.boolean), 1, 10, false)) = true := by decide +kernel
set_option maxRecDepth 100000 in
theorem pm_ok_98 : pm_I98.all (pm_okB (yX10_later, cX10_later, 2, some (.int), 1, 10, false)) = true := by decide +kernel
set_option maxRecDepth 100000 in
theorem pm_ok_99 : pm_I99.all (pm_okB (yX10_lay, cX10_lay, 4, none, 2, 10, false)) = true := by decide +kernel
set_option maxRecDepth 100000 in
theorem pm_ok_100 : pm_I100.all (pm_okB (yX10_lies, cX10_lies, 2, some (.int), 1, 10, false)) = true := by decide +kernel
set_option maxRecDepth 100000 in
theorem pm_ok_101 : pm_I101.all (pm_okB (yX10_lots, cX10_lots, 5, some (.int), 1, 10, false)) = true := by decide +kernel
set_option maxRecDepth 100000 in
theorem pm_ok_102 : pm_I102.all (pm_okB (yX10_means, cX10_means, 2, some (.int), 1, 10, false)) = true := by decide +kernel
set_option maxRecDepth 100000 in
theorem pm_ok_103 : pm_I103.all (pm_okB (yX10_next, cX10_next, 1, some (.int), 0, 10, false)) = true := by decide +kernel
set_option maxRecDepth 100000 in
theorem pm_ok_104 : pm_I104.all (pm_okB (yX10_nextInEarnest, cX10_nextInEarnest, 1, some (.int), 0, 10, false)) = true := by decide +kernel
set_option maxRecDepth 100000 in
theorem pm_ok_105 : pm_I105.all (pm_okB (yX10_orders, cX10_orders, 5, some (.int), 1, 10, false)) = true := by decide +kernel
set_option maxRecDepth 100000 in
theorem pm_ok_106 : pm_I106.all (pm_okB (yX10_ownAsInEarnest, cX10_ownAsInEarnest, 2, none, 0, 10, false)) = true := by decide +kernel
set_option maxRecDepth 100000 in
theorem pm_ok_107 : pm_I107.all (pm_okB (yX10_ownerInEarnest, cX10_ownerInEarnest, 2, some (.int), 1, 10, false)) = true := by decide +kernel
set_option maxRecDepth 100000 in
theorem pm_ok_108 : pm_I108.all (pm_okB (yX10_port, cX10_port, 2, some (.int), 0, 10, false)) = true := by decide +kernel
set_option maxRecDepth 100000 in
theorem pm_ok_109 : pm_I109.all (pm_okB (yX10_readings, cX10_readings, 1, some (.int), 0, 10, false)) = true := by decide +kernel
set_option maxRecDepth 100000 in
theorem pm_ok_110 : pm_I110.all (pm_okB (yX10_redo, cX10_redo, 1, some (.boolean), 0, 10, false)) = true := by decide +kernel
set_option maxRecDepth 100000 in
theorem pm_ok_111 : pm_I111.all (pm_okB (yX10_seen, cX10_seen, 4, some (.int), 3, 10, false)) = true := by decide +kernel
set_option maxRecDepth 100000 in
theorem pm_ok_112 : pm_I112.all (pm_okB (yX10_sell, cX10_sell, 4, some (.int), 2, 10, false)) = true := by decide +kernel
set_option maxRecDepth 100000 in
theorem pm_ok_113 : pm_I113.all (pm_okB (yX10_share, cX10_share, 6, some (.int), 2, 10, false)) = true := by decide +kernel
set_option maxRecDepth 100000 in
theorem pm_ok_114 : pm_I114.all (pm_okB (yX10_shortest, cX10_shortest, 2, some (.int), 1, 10, false)) = true := by decide +kernel
set_option maxRecDepth 100000 in
theorem pm_ok_115 : pm_I115.all (pm_okB (yX10_sixShares, cX10_sixShares, 7, some (.int), 2, 10, false)) = true := by decide +kernel
set_option maxRecDepth 100000 in
theorem pm_ok_116 : pm_I116.all (pm_okB (yX10_struck, cX10_struck, 7, some (.int), 1, 10, false)) = true := by decide +kernel
set_option maxRecDepth 100000 in
theorem pm_ok_117 : pm_I117.all (pm_okB (yX10_swap, cX10_swap, 2, some (.int), 0, 10, false)) = true := by decide +kernel
set_option maxRecDepth 100000 in
theorem pm_ok_118 : pm_I118.all (pm_okB (yX10_tapeNumber, cX10_tapeNumber, 3, none, 1, 10, false)) = true := by decide +kernel
set_option maxRecDepth 100000 in
theorem pm_ok_119 : pm_I119.all (pm_okB (yX10_turn, cX10_turn, 2, some (.int), 1, 10, false)) = true := by decide +kernel
set_option maxRecDepth 100000 in
theorem pm_ok_120 : pm_I120.all (pm_okB (yX10_undo, cX10_undo, 1, some (.boolean), 0, 10, false)) = true := by decide +kernel
set_option maxRecDepth 100000 in
theorem pm_ok_121 : pm_I121.all (pm_okB (yX10_untell, cX10_untell, 2, some (.boolean), 1, 10, false)) = true := by decide +kernel
set_option maxRecDepth 100000 in
theorem pm_ok_122 : pm_I122.all (pm_okB (yX10_used, cX10_used, 1, some (.int), 0, 10, false)) = true := by decide +kernel
set_option maxRecDepth 100000 in
theorem pm_ok_123 : pm_I123.all (pm_okB (yX10_wipe, cX10_wipe, 2, some (.int), 0, 10, false)) = true := by decide +kernel
set_option maxRecDepth 100000 in
theorem pm_ok_124 : pm_I124.all (pm_okB (yX10_word, cX10_word, 2, some (.int), 1, 10, false)) = true := by decide +kernel
set_option maxRecDepth 100000 in
theorem pm_ok_125 : pm_I125.all (pm_okB (yX10_worth, cX10_worth, 3, some (.int), 2, 10, false)) = true := by decide +kernel
set_option maxRecDepth 100000 in
theorem pm_ok_126 : pm_I126.all (pm_okB (yX10_write, cX10_write, 2, some (.int), 1, 10, false)) = true := by decide +kernel
set_option maxRecDepth 100000 in
theorem pm_ok_127 : pm_I127.all (pm_okB (yX10_written, cX10_written, 4, some (.int), 1, 10, false)) = true := by decide +kernel
set_option maxRecDepth 100000 in
theorem pm_ok_128 : pm_I128.all (pm_okB (yX11_about, cX11_about, 2, some (.int), 1, 11, false)) = true := by decide +kernel
set_option maxRecDepth 100000 in
theorem pm_ok_129 : pm_I129.all (pm_okB (yX11_areGrouped, cX11_areGrouped, 4, some (.boolean), 3, 11, false)) = true := by decide +kernel
set_option maxRecDepth 100000 in
theorem pm_ok_130 : pm_I130.all (pm_okB (yX11_atMost, cX11_atMost, 2, some (.long), 1, 11, true)) = true := by decide +kernel
set_option maxRecDepth 100000 in
theorem pm_ok_131 : pm_I131.all (pm_okB (yX11_back, cX11_back, 3, some (.int), 1, 11, false)) = true := by decide +kernel
set_option maxRecDepth 100000 in
theorem pm_ok_132 : pm_I132.all (pm_okB (yX11_begin, cX11_begin, 2, none, 0, 11, false)) = true := by decide +kernel
set_option maxRecDepth 100000 in
theorem pm_ok_133 : pm_I133.all (pm_okB (yX11_behind, cX11_behind, 4, some (.int), 3, 11, false)) = true := by decide +kernel
set_option maxRecDepth 100000 in
theorem pm_ok_134 : pm_I134.all (pm_okB (yX11_best, cX11_best, 4, some (.int), 1, 11, false)) = true := by decide +kernel
set_option maxRecDepth 100000 in
theorem pm_ok_135 : pm_I135.all (pm_okB (yX11_bribe, cX11_bribe, 3, some (.int), 2, 11, false)) = true := by decide +kernel
set_option maxRecDepth 100000 in
theorem pm_ok_136 : pm_I136.all (pm_okB (yX11_canCome, cX11_canCome, 2, some (.boolean), 1, 11, false)) = true := by decide +kernel
set_option maxRecDepth 100000 in
theorem pm_ok_137 : pm_I137.all (pm_okB (yX11_canGoOn, cX11_canGoOn, 3, some (.boolean), 1, 11, false)) = true := by decide +kernel
set_option maxRecDepth 100000 in
theorem pm_ok_138 : pm_I138.all (pm_okB (yX11_clearBank, cX11_clearBank, 2, none, 0, 11, false)) = true := by decide +kernel
set_option maxRecDepth 100000 in
theorem pm_ok_139 : pm_I139.all (pm_okB (yX11_common, cX11_common, 5, some (.int), 2, 11, true)) = true := by decide +kernel
set_option maxRecDepth 100000 in
theorem pm_ok_140 : pm_I140.all (pm_okB (yX11_doesRead, cX11_doesRead, 8, some (.boolean), 3, 11, false)) = true := by decide +kernel
set_option maxRecDepth 100000 in
theorem pm_ok_141 : pm_I141.all (pm_okB (yX11_doubtful, cX11_doubtful, 4, some (.int), 0, 11, false)) = true := by decide +kernel
set_option maxRecDepth 100000 in
theorem pm_ok_142 : pm_I142.all (pm_okB (yX11_end, cX11_end, 2, some (.int), 1, 11, false)) = true := by decide +kernel
set_option maxRecDepth 100000 in
theorem pm_ok_143 : pm_I143.all (pm_okB (yX11_endsBy, cX11_endsBy, 3, some (.int), 2, 11, false)) = true := by decide +kernel
set_option maxRecDepth 100000 in
theorem pm_ok_144 : pm_I144.all (pm_okB (yX11_exchange, cX11_exchange, 3, none, 1, 11, false)) = true := by decide +kernel
set_option maxRecDepth 100000 in
theorem pm_ok_145 : pm_I145.all (pm_okB (yX11_fails, cX11_fails, 3, none, 2, 11, false)) = true := by decide +kernel
set_option maxRecDepth 100000 in
theorem pm_ok_146 : pm_I146.all (pm_okB (yX11_fault, cX11_fault, 2, some (.int), 1, 11, false)) = true := by decide +kernel
set_option maxRecDepth 100000 in
theorem pm_ok_147 : pm_I147.all (pm_okB (yX11_feed, cX11_feed, 8, some (.int), 5, 11, false)) = true := by decide +kernel
set_option maxRecDepth 100000 in
theorem pm_ok_148 : pm_I148.all (pm_okB (yX11_fit, cX11_fit, 1, some (.int), 0, 11, false)) = true := by decide +kernel
set_option maxRecDepth 100000 in
theorem pm_ok_149 : pm_I149.all (pm_okB (yX11_fresh, cX11_fresh, 3, some (.long), 0, 11, false)) = true := by decide +kernel
set_option maxRecDepth 100000 in
theorem pm_ok_150 : pm_I150.all (pm_okB (yX11_gain, cX11_gain, 3, some (.int), 2, 11, false)) = true := by decide +kernel
set_option maxRecDepth 100000 in
theorem pm_ok_151 : pm_I151.all (pm_okB (yX11_gainOf, cX11_gainOf, 5, some (.int), 2, 11, false)) = true := by decide +kernel
set_option maxRecDepth 100000 in
theorem pm_ok_152 : pm_I152.all (pm_okB (yX11_goOn, cX11_goOn, 3, none, 0, 11, false)) = true := by decide +kernel
set_option maxRecDepth 100000 in
theorem pm_ok_153 : pm_I153.all (pm_okB (yX11_held, cX11_held, 2, some (.int), 1, 11, false)) = true := by decide +kernel
set_option maxRecDepth 100000 in
theorem pm_ok_154 : pm_I154.all (pm_okB (yX11_heldBy, cX11_heldBy, 3, some (.int), 1, 11, false)) = true := by decide +kernel
set_option maxRecDepth 100000 in
theorem pm_ok_155 : pm_I155.all (pm_okB (yX11_hole, cX11_hole, 3, some (.boolean), 2, 11, false)) = true := by decide +kernel
set_option maxRecDepth 100000 in
theorem pm_ok_156 : pm_I156.all (pm_okB (yX11_image, cX11_image, 3, some (.int), 1, 11, false)) = true := by decide +kernel
set_option maxRecDepth 100000 in
theorem pm_ok_157 : pm_I157.all (pm_okB (yX11_isBetter, cX11_isBetter, 6, some (.boolean), 4, 11, false)) = true := by decide +kernel
set_option maxRecDepth 100000 in
theorem pm_ok_158 : pm_I158.all (pm_okB (yX11_isDigit, cX11_isDigit, 1, some (.boolean), 1, 11, true)) = true := by decide +kernel
set_option maxRecDepth 100000 in
theorem pm_ok_159 : pm_I159.all (pm_okB (yX11_isFull, cX11_isFull, 1, some (.boolean), 0, 11, false)) = true := by decide +kernel
set_option maxRecDepth 100000 in
theorem pm_ok_160 : pm_I160.all (pm_okB (yX11_isGood, cX11_isGood, 1, some (.boolean), 0, 11, false)) = true := by decide +kernel
set_option maxRecDepth 100000 in
theorem pm_ok_161 : pm_I161.all (pm_okB (yX11_isGuild, cX11_isGuild, 1, some (.boolean), 1, 11, true)) = true := by decide +kernel
set_option maxRecDepth 100000 in
theorem pm_ok_162 : pm_I162.all (pm_okB (yX11_isIn, cX11_isIn, 3, some (.boolean), 3, 11, true)) = true := by decide +kernel
set_option maxRecDepth 100000 in
theorem pm_ok_163 : pm_I163.all (pm_okB (yX11_isKept, cX11_isKept, 2, some (.boolean), 1, 11, true)) = true := by decide +kernel
set_option maxRecDepth 100000 in
theorem pm_ok_164 : pm_I164.all (pm_okB (yX11_isLetter, cX11_isLetter, 1, some (.boolean), 1, 11, true)) = true := by decide +kernel
set_option maxRecDepth 100000 in
theorem pm_ok_165 : pm_I165.all (pm_okB (yX11_isOnPath, cX11_isOnPath, 3, some (.boolean), 1, 11, false)) = true := by decide +kernel
set_option maxRecDepth 100000 in
theorem pm_ok_166 : pm_I166.all (pm_okB (yX11_isPlace, cX11_isPlace, 2, some (.boolean), 1, 11, false)) = true := by decide +kernel
set_option maxRecDepth 100000 in
theorem pm_ok_167 : pm_I167.all (pm_okB (yX11_isRead, cX11_isRead, 2, some (.boolean), 1, 11, false)) = true := by decide +kernel
set_option maxRecDepth 100000 in
theorem pm_ok_168 : pm_I168.all (pm_okB (yX11_isSignHere, cX11_isSignHere, 2, some (.boolean), 1, 11, false)) = true := by decide +kernel
set_option maxRecDepth 100000 in
theorem pm_ok_169 : pm_I169.all (pm_okB (yX11_isSo, cX11_isSo, 4, some (.boolean), 2, 11, false)) = true := by decide +kernel
set_option maxRecDepth 100000 in
theorem pm_ok_170 : pm_I170.all (pm_okB (yX11_isWord, cX11_isWord, 3, some (.boolean), 1, 11, false)) = true := by decide +kernel
set_option maxRecDepth 100000 in
theorem pm_ok_171 : pm_I171.all (pm_okB (yX11_isWordOf, cX11_isWordOf, 2, some (.boolean), 1, 11, false)) = true := by decide +kernel
set_option maxRecDepth 100000 in
theorem pm_ok_172 : pm_I172.all (pm_okB (yX11_keepAct, cX11_keepAct, 4, none, 2, 11, false)) = true := by decide +kernel
set_option maxRecDepth 100000 in
theorem pm_ok_173 : pm_I173.all (pm_okB (yX11_keyOf, cX11_keyOf, 6, some (.long), 2, 11, false)) = true := by decide +kernel
set_option maxRecDepth 100000 in
theorem pm_ok_174 : pm_I174.all (pm_okB (yX11_known, cX11_known, 2, some (.int), 0, 11, false)) = true := by decide +kernel
set_option maxRecDepth 100000 in
theorem pm_ok_175 : pm_I175.all (pm_okB (yX11_later, cX11_later, 2, some (.int), 1, 11, false)) = true := by decide +kernel
set_option maxRecDepth 100000 in
theorem pm_ok_176 : pm_I176.all (pm_okB (yX11_lay, cX11_lay, 3, none, 1, 11, false)) = true := by decide +kernel
set_option maxRecDepth 100000 in
theorem pm_ok_177 : pm_I177.all (pm_okB (yX11_layEnds, cX11_layEnds, 5, none, 1, 11, false)) = true := by decide +kernel
set_option maxRecDepth 100000 in
theorem pm_ok_178 : pm_I178.all (pm_okB (yX11_layFromNone, cX11_layFromNone, 1, some (.boolean), 0, 11, false)) = true := by decide +kernel
set_option maxRecDepth 100000 in
theorem pm_ok_179 : pm_I179.all (pm_okB (yX11_layFromRow, cX11_layFromRow, 2, some (.boolean), 0, 11, false)) = true := by decide +kernel
set_option maxRecDepth 100000 in
theorem pm_ok_180 : pm_I180.all (pm_okB (yX11_layList, cX11_layList, 6, some (.boolean), 2, 11, false)) = true := by decide +kernel
set_option maxRecDepth 100000 in
theorem pm_ok_181 : pm_I181.all (pm_okB (yX11_layShortest, cX11_layShortest, 5, none, 0, 11, false)) = true := by decide +kernel
set_option maxRecDepth 100000 in
theorem pm_ok_182 : pm_I182.all (pm_okB (yX11_lies, cX11_lies, 2, some (.int), 1, 11, false)) = true := by decide +kernel
set_option maxRecDepth 100000 in
theorem pm_ok_183 : pm_I183.all (pm_okB (yX11_longOf, cX11_longOf, 1, some (.int), 0, 11, false)) = true := by decide +kernel
set_option maxRecDepth 100000 in
theorem pm_ok_184 : pm_I184.all (pm_okB (yX11_lots, cX11_lots, 4, some (.int), 1, 11, false)) = true := by decide +kernel
set_option maxRecDepth 100000 in
theorem pm_ok_185 : pm_I185.all (pm_okB (yX11_means, cX11_means, 2, some (.int), 1, 11, false)) = true := by decide +kernel
set_option maxRecDepth 100000 in
theorem pm_ok_186 : pm_I186.all (pm_okB (yX11_meansOf, cX11_meansOf, 5, some (.int), 2, 11, false)) = true := by decide +kernel
set_option maxRecDepth 100000 in
theorem pm_ok_187 : pm_I187.all (pm_okB (yX11_misplaced, cX11_misplaced, 1, none, 0, 11, false)) = true := by decide +kernel
set_option maxRecDepth 100000 in
theorem pm_ok_188 : pm_I188.all (pm_okB (yX11_must, cX11_must, 2, none, 1, 11, false)) = true := by decide +kernel
set_option maxRecDepth 100000 in
theorem pm_ok_189 : pm_I189.all (pm_okB (yX11_next, cX11_next, 3, some (.int), 0, 11, false)) = true := by decide +kernel
set_option maxRecDepth 100000 in
theorem pm_ok_190 : pm_I190.all (pm_okB (yX11_numeral, cX11_numeral, 4, some (.int), 2, 11, false)) = true := by decide +kernel
set_option maxRecDepth 100000 in
theorem pm_ok_191 : pm_I191.all (pm_okB (yX11_orderTurn, cX11_orderTurn, 6, some (.int), 2, 11, true)) = true := by decide +kernel
set_option maxRecDepth 100000 in
theorem pm_ok_192 : pm_I192.all (pm_okB (yX11_orders, cX11_orders, 4, some (.int), 1, 11, false)) = true := by decide +kernel
set_option maxRecDepth 100000 in
theorem pm_ok_193 : pm_I193.all (pm_okB (yX11_packed, cX11_packed, 3, some (.int), 0, 11, false)) = true := by decide +kernel
set_option maxRecDepth 100000 in
theorem pm_ok_194 : pm_I194.all (pm_okB (yX11_pairOf, cX11_pairOf, 4, some (.int), 3, 11, false)) = true := by decide +kernel
set_option maxRecDepth 100000 in
theorem pm_ok_195 : pm_I195.all (pm_okB (yX11_plays, cX11_plays, 6, some (.int), 1, 11, false)) = true := by decide +kernel
set_option maxRecDepth 100000 in
theorem pm_ok_196 : pm_I196.all (pm_okB (yX11_port, cX11_port, 2, some (.int), 0, 11, false)) = true := by decide +kernel
set_option maxRecDepth 100000 in
theorem pm_ok_197 : pm_I197.all (pm_okB (yX11_readAlt, cX11_readAlt, 2, none, 0, 11, false)) = true := by decide +kernel
set_option maxRecDepth 100000 in
theorem pm_ok_198 : pm_I198.all (pm_okB (yX11_readLine, cX11_readLine, 3, none, 0, 11, false)) = true := by decide +kernel
set_option maxRecDepth 100000 in
theorem pm_ok_199 : pm_I199.all (pm_okB (yX11_readPair, cX11_readPair, 6, none, 0, 11, false)) = true := by decide +kernel
set_option maxRecDepth 100000 in
theorem pm_ok_200 : pm_I200.all (pm_okB (yX11_readRule, cX11_readRule, 2, none, 0, 11, false)) = true := by decide +kernel
set_option maxRecDepth 100000 in
theorem pm_ok_201 : pm_I201.all (pm_okB (yX11_readTurns, cX11_readTurns, 2, none, 0, 11, false)) = true := by decide +kernel
set_option maxRecDepth 100000 in
theorem pm_ok_202 : pm_I202.all (pm_okB (yX11_readWord, cX11_readWord, 3, none, 0, 11, false)) = true := by decide +kernel
set_option maxRecDepth 100000 in
theorem pm_ok_203 : pm_I203.all (pm_okB (yX11_readings, cX11_readings, 1, some (.int), 0, 11, false)) = true := by decide +kernel
set_option maxRecDepth 100000 in
theorem pm_ok_204 : pm_I204.all (pm_okB (yX11_readingsOf, cX11_readingsOf, 6, some (.long), 1, 11, false)) = true := by decide +kernel
set_option maxRecDepth 100000 in
theorem pm_ok_205 : pm_I205.all (pm_okB (yX11_redo, cX11_redo, 1, some (.boolean), 0, 11, false)) = true := by decide +kernel
set_option maxRecDepth 100000 in
theorem pm_ok_206 : pm_I206.all (pm_okB (yX11_ruleOf, cX11_ruleOf, 4, some (.int), 1, 11, false)) = true := by decide +kernel
set_option maxRecDepth 100000 in
theorem pm_ok_207 : pm_I207.all (pm_okB (yX11_seen, cX11_seen, 4, some (.int), 3, 11, false)) = true := by decide +kernel
set_option maxRecDepth 100000 in
theorem pm_ok_208 : pm_I208.all (pm_okB (yX11_sell, cX11_sell, 4, some (.int), 2, 11, false)) = true := by decide +kernel
set_option maxRecDepth 100000 in
theorem pm_ok_209 : pm_I209.all (pm_okB (yX11_settle, cX11_settle, 5, none, 0, 11, false)) = true := by decide +kernel
set_option maxRecDepth 100000 in
theorem pm_ok_210 : pm_I210.all (pm_okB (yX11_share, cX11_share, 7, some (.int), 2, 11, false)) = true := by decide +kernel
set_option maxRecDepth 100000 in
theorem pm_ok_211 : pm_I211.all (pm_okB (yX11_shortest, cX11_shortest, 2, some (.int), 1, 11, false)) = true := by decide +kernel
set_option maxRecDepth 100000 in
theorem pm_ok_212 : pm_I212.all (pm_okB (yX11_sign, cX11_sign, 2, some (.int), 1, 11, false)) = true := by decide +kernel
set_option maxRecDepth 100000 in
theorem pm_ok_213 : pm_I213.all (pm_okB (yX11_struck, cX11_struck, 6, some (.int), 1, 11, false)) = true := by decide +kernel
set_option maxRecDepth 100000 in
theorem pm_ok_214 : pm_I214.all (pm_okB (yX11_sumOf, cX11_sumOf, 5, some (.int), 1, 11, false)) = true := by decide +kernel
set_option maxRecDepth 100000 in
theorem pm_ok_215 : pm_I215.all (pm_okB (yX11_swap, cX11_swap, 7, some (.int), 0, 11, false)) = true := by decide +kernel
set_option maxRecDepth 100000 in
theorem pm_ok_216 : pm_I216.all (pm_okB (yX11_takeCharter, cX11_takeCharter, 2, none, 0, 11, false)) = true := by decide +kernel
set_option maxRecDepth 100000 in
theorem pm_ok_217 : pm_I217.all (pm_okB (yX11_toldTurn, cX11_toldTurn, 2, some (.int), 1, 11, false)) = true := by decide +kernel
set_option maxRecDepth 100000 in
theorem pm_ok_218 : pm_I218.all (pm_okB (yX11_tryRow, cX11_tryRow, 2, none, 0, 11, false)) = true := by decide +kernel
set_option maxRecDepth 100000 in
theorem pm_ok_219 : pm_I219.all (pm_okB (yX11_tryWithout, cX11_tryWithout, 4, none, 1, 11, false)) = true := by decide +kernel
set_option maxRecDepth 100000 in
theorem pm_ok_220 : pm_I220.all (pm_okB (yX11_turn, cX11_turn, 2, some (.int), 1, 11, false)) = true := by decide +kernel
set_option maxRecDepth 100000 in
theorem pm_ok_221 : pm_I221.all (pm_okB (yX11_turnsByOrder, cX11_turnsByOrder, 3, none, 1, 11, false)) = true := by decide +kernel
set_option maxRecDepth 100000 in
theorem pm_ok_222 : pm_I222.all (pm_okB (yX11_turnsNow, cX11_turnsNow, 2, none, 0, 11, false)) = true := by decide +kernel
set_option maxRecDepth 100000 in
theorem pm_ok_223 : pm_I223.all (pm_okB (yX11_undo, cX11_undo, 1, some (.boolean), 0, 11, false)) = true := by decide +kernel
set_option maxRecDepth 100000 in
theorem pm_ok_224 : pm_I224.all (pm_okB (yX11_unpack, cX11_unpack, 3, none, 1, 11, false)) = true := by decide +kernel
set_option maxRecDepth 100000 in
theorem pm_ok_225 : pm_I225.all (pm_okB (yX11_untell, cX11_untell, 2, some (.boolean), 1, 11, false)) = true := by decide +kernel
set_option maxRecDepth 100000 in
theorem pm_ok_226 : pm_I226.all (pm_okB (yX11_used, cX11_used, 5, some (.int), 0, 11, false)) = true := by decide +kernel
set_option maxRecDepth 100000 in
theorem pm_ok_227 : pm_I227.all (pm_okB (yX11_waysBy, cX11_waysBy, 7, some (.long), 3, 11, false)) = true := by decide +kernel
set_option maxRecDepth 100000 in
theorem pm_ok_228 : pm_I228.all (pm_okB (yX11_wipe, cX11_wipe, 2, some (.int), 0, 11, false)) = true := by decide +kernel
set_option maxRecDepth 100000 in
theorem pm_ok_229 : pm_I229.all (pm_okB (yX11_word, cX11_word, 2, some (.int), 1, 11, false)) = true := by decide +kernel
set_option maxRecDepth 100000 in
theorem pm_ok_230 : pm_I230.all (pm_okB (yX11_wordIn, cX11_wordIn, 3, some (.int), 2, 11, false)) = true := by decide +kernel
set_option maxRecDepth 100000 in
theorem pm_ok_231 : pm_I231.all (pm_okB (yX11_wordOf, cX11_wordOf, 4, some (.int), 1, 11, false)) = true := by decide +kernel
set_option maxRecDepth 100000 in
theorem pm_ok_232 : pm_I232.all (pm_okB (yX11_worth, cX11_worth, 3, some (.int), 2, 11, false)) = true := by decide +kernel
set_option maxRecDepth 100000 in
theorem pm_ok_233 : pm_I233.all (pm_okB (yX11_write, cX11_write, 2, some (.int), 1, 11, false)) = true := by decide +kernel
set_option maxRecDepth 100000 in
theorem pm_ok_234 : pm_I234.all (pm_okB (yX11_written, cX11_written, 3, some (.int), 1, 11, false)) = true := by decide +kernel
set_option maxRecDepth 100000 in
theorem pm_ok_235 : pm_I235.all (pm_okB (yJ7_fill_53178, cJ7_fill_53178, 4, none, 2, 13, true)) = true := by decide +kernel
theorem pm_ok : ∀ (k : Nat) (me : pm_Me) (l : List (Nat × pm_Ins)), k < 236 → pm_M[k]? = some me → pm_I[k]? = some l → l.all (pm_okB me) = true := fun k => match k with
  | 0 => fun _ _ _ h1 h2 => by cases h1; cases h2; exact pm_ok_0
  | 1 => fun _ _ _ h1 h2 => by cases h1; cases h2; exact pm_ok_1
  | 2 => fun _ _ _ h1 h2 => by cases h1; cases h2; exact pm_ok_2
  | 3 => fun _ _ _ h1 h2 => by cases h1; cases h2; exact pm_ok_3
  | 4 => fun _ _ _ h1 h2 => by cases h1; cases h2; exact pm_ok_4
  | 5 => fun _ _ _ h1 h2 => by cases h1; cases h2; exact pm_ok_5
  | 6 => fun _ _ _ h1 h2 => by cases h1; cases h2; exact pm_ok_6
  | 7 => fun _ _ _ h1 h2 => by cases h1; cases h2; exact pm_ok_7
  | 8 => fun _ _ _ h1 h2 => by cases h1; cases h2; exact pm_ok_8
  | 9 => fun _ _ _ h1 h2 => by cases h1; cases h2; exact pm_ok_9
  | 10 => fun _ _ _ h1 h2 => by cases h1; cases h2; exact pm_ok_10
  | 11 => fun _ _ _ h1 h2 => by cases h1; cases h2; exact pm_ok_11
  | 12 => fun _ _ _ h1 h2 => by cases h1; cases h2; exact pm_ok_12
  | 13 => fun _ _ _ h1 h2 => by cases h1; cases h2; exact pm_ok_13
  | 14 => fun _ _ _ h1 h2 => by cases h1; cases h2; exact pm_ok_14
  | 15 => fun _ _ _ h1 h2 => by cases h1; cases h2; exact pm_ok_15
  | 16 => fun _ _ _ h1 h2 => by cases h1; cases h2; exact pm_ok_16
  | 17 => fun _ _ _ h1 h2 => by cases h1; cases h2; exact pm_ok_17
  | 18 => fun _ _ _ h1 h2 => by cases h1; cases h2; exact pm_ok_18
  | 19 => fun _ _ _ h1 h2 => by cases h1; cases h2; exact pm_ok_19
  | 20 => fun _ _ _ h1 h2 => by cases h1; cases h2; exact pm_ok_20
  | 21 => fun _ _ _ h1 h2 => by cases h1; cases h2; exact pm_ok_21
  | 22 => fun _ _ _ h1 h2 => by cases h1; cases h2; exact pm_ok_22
  | 23 => fun _ _ _ h1 h2 => by cases h1; cases h2; exact pm_ok_23
  | 24 => fun _ _ _ h1 h2 => by cases h1; cases h2; exact pm_ok_24
  | 25 => fun _ _ _ h1 h2 => by cases h1; cases h2; exact pm_ok_25
  | 26 => fun _ _ _ h1 h2 => by cases h1; cases h2; exact pm_ok_26
  | 27 => fun _ _ _ h1 h2 => by cases h1; cases h2; exact pm_ok_27
  | 28 => fun _ _ _ h1 h2 => by cases h1; cases h2; exact pm_ok_28
  | 29 => fun _ _ _ h1 h2 => by cases h1; cases h2; exact pm_ok_29
  | 30 => fun _ _ _ h1 h2 => by cases h1; cases h2; exact pm_ok_30
  | 31 => fun _ _ _ h1 h2 => by cases h1; cases h2; exact pm_ok_31
  | 32 => fun _ _ _ h1 h2 => by cases h1; cases h2; exact pm_ok_32
  | 33 => fun _ _ _ h1 h2 => by cases h1; cases h2; exact pm_ok_33
  | 34 => fun _ _ _ h1 h2 => by cases h1; cases h2; exact pm_ok_34
  | 35 => fun _ _ _ h1 h2 => by cases h1; cases h2; exact pm_ok_35
  | 36 => fun _ _ _ h1 h2 => by cases h1; cases h2; exact pm_ok_36
  | 37 => fun _ _ _ h1 h2 => by cases h1; cases h2; exact pm_ok_37
  | 38 => fun _ _ _ h1 h2 => by cases h1; cases h2; exact pm_ok_38
  | 39 => fun _ _ _ h1 h2 => by cases h1; cases h2; exact pm_ok_39
  | 40 => fun _ _ _ h1 h2 => by cases h1; cases h2; exact pm_ok_40
  | 41 => fun _ _ _ h1 h2 => by cases h1; cases h2; exact pm_ok_41
  | 42 => fun _ _ _ h1 h2 => by cases h1; cases h2; exact pm_ok_42
  | 43 => fun _ _ _ h1 h2 => by cases h1; cases h2; exact pm_ok_43
  | 44 => fun _ _ _ h1 h2 => by cases h1; cases h2; exact pm_ok_44
  | 45 => fun _ _ _ h1 h2 => by cases h1; cases h2; exact pm_ok_45
  | 46 => fun _ _ _ h1 h2 => by cases h1; cases h2; exact pm_ok_46
  | 47 => fun _ _ _ h1 h2 => by cases h1; cases h2; exact pm_ok_47
  | 48 => fun _ _ _ h1 h2 => by cases h1; cases h2; exact pm_ok_48
  | 49 => fun _ _ _ h1 h2 => by cases h1; cases h2; exact pm_ok_49
  | 50 => fun _ _ _ h1 h2 => by cases h1; cases h2; exact pm_ok_50
  | 51 => fun _ _ _ h1 h2 => by cases h1; cases h2; exact pm_ok_51
  | 52 => fun _ _ _ h1 h2 => by cases h1; cases h2; exact pm_ok_52
  | 53 => fun _ _ _ h1 h2 => by cases h1; cases h2; exact pm_ok_53
  | 54 => fun _ _ _ h1 h2 => by cases h1; cases h2; exact pm_ok_54
  | 55 => fun _ _ _ h1 h2 => by cases h1; cases h2; exact pm_ok_55
  | 56 => fun _ _ _ h1 h2 => by cases h1; cases h2; exact pm_ok_56
  | 57 => fun _ _ _ h1 h2 => by cases h1; cases h2; exact pm_ok_57
  | 58 => fun _ _ _ h1 h2 => by cases h1; cases h2; exact pm_ok_58
  | 59 => fun _ _ _ h1 h2 => by cases h1; cases h2; exact pm_ok_59
  | 60 => fun _ _ _ h1 h2 => by cases h1; cases h2; exact pm_ok_60
  | 61 => fun _ _ _ h1 h2 => by cases h1; cases h2; exact pm_ok_61
  | 62 => fun _ _ _ h1 h2 => by cases h1; cases h2; exact pm_ok_62
  | 63 => fun _ _ _ h1 h2 => by cases h1; cases h2; exact pm_ok_63
  | 64 => fun _ _ _ h1 h2 => by cases h1; cases h2; exact pm_ok_64
  | 65 => fun _ _ _ h1 h2 => by cases h1; cases h2; exact pm_ok_65
  | 66 => fun _ _ _ h1 h2 => by cases h1; cases h2; exact pm_ok_66
  | 67 => fun _ _ _ h1 h2 => by cases h1; cases h2; exact pm_ok_67
  | 68 => fun _ _ _ h1 h2 => by cases h1; cases h2; exact pm_ok_68
  | 69 => fun _ _ _ h1 h2 => by cases h1; cases h2; exact pm_ok_69
  | 70 => fun _ _ _ h1 h2 => by cases h1; cases h2; exact pm_ok_70
  | 71 => fun _ _ _ h1 h2 => by cases h1; cases h2; exact pm_ok_71
  | 72 => fun _ _ _ h1 h2 => by cases h1; cases h2; exact pm_ok_72
  | 73 => fun _ _ _ h1 h2 => by cases h1; cases h2; exact pm_ok_73
  | 74 => fun _ _ _ h1 h2 => by cases h1; cases h2; exact pm_ok_74
  | 75 => fun _ _ _ h1 h2 => by cases h1; cases h2; exact pm_ok_75
  | 76 => fun _ _ _ h1 h2 => by cases h1; cases h2; exact pm_ok_76
  | 77 => fun _ _ _ h1 h2 => by cases h1; cases h2; exact pm_ok_77
  | 78 => fun _ _ _ h1 h2 => by cases h1; cases h2; exact pm_ok_78
  | 79 => fun _ _ _ h1 h2 => by cases h1; cases h2; exact pm_ok_79
  | 80 => fun _ _ _ h1 h2 => by cases h1; cases h2; exact pm_ok_80
  | 81 => fun _ _ _ h1 h2 => by cases h1; cases h2; exact pm_ok_81
  | 82 => fun _ _ _ h1 h2 => by cases h1; cases h2; exact pm_ok_82
  | 83 => fun _ _ _ h1 h2 => by cases h1; cases h2; exact pm_ok_83
  | 84 => fun _ _ _ h1 h2 => by cases h1; cases h2; exact pm_ok_84
  | 85 => fun _ _ _ h1 h2 => by cases h1; cases h2; exact pm_ok_85
  | 86 => fun _ _ _ h1 h2 => by cases h1; cases h2; exact pm_ok_86
  | 87 => fun _ _ _ h1 h2 => by cases h1; cases h2; exact pm_ok_87
  | 88 => fun _ _ _ h1 h2 => by cases h1; cases h2; exact pm_ok_88
  | 89 => fun _ _ _ h1 h2 => by cases h1; cases h2; exact pm_ok_89
  | 90 => fun _ _ _ h1 h2 => by cases h1; cases h2; exact pm_ok_90
  | 91 => fun _ _ _ h1 h2 => by cases h1; cases h2; exact pm_ok_91
  | 92 => fun _ _ _ h1 h2 => by cases h1; cases h2; exact pm_ok_92
  | 93 => fun _ _ _ h1 h2 => by cases h1; cases h2; exact pm_ok_93
  | 94 => fun _ _ _ h1 h2 => by cases h1; cases h2; exact pm_ok_94
  | 95 => fun _ _ _ h1 h2 => by cases h1; cases h2; exact pm_ok_95
  | 96 => fun _ _ _ h1 h2 => by cases h1; cases h2; exact pm_ok_96
  | 97 => fun _ _ _ h1 h2 => by cases h1; cases h2; exact pm_ok_97
  | 98 => fun _ _ _ h1 h2 => by cases h1; cases h2; exact pm_ok_98
  | 99 => fun _ _ _ h1 h2 => by cases h1; cases h2; exact pm_ok_99
  | 100 => fun _ _ _ h1 h2 => by cases h1; cases h2; exact pm_ok_100
  | 101 => fun _ _ _ h1 h2 => by cases h1; cases h2; exact pm_ok_101
  | 102 => fun _ _ _ h1 h2 => by cases h1; cases h2; exact pm_ok_102
  | 103 => fun _ _ _ h1 h2 => by cases h1; cases h2; exact pm_ok_103
  | 104 => fun _ _ _ h1 h2 => by cases h1; cases h2; exact pm_ok_104
  | 105 => fun _ _ _ h1 h2 => by cases h1; cases h2; exact pm_ok_105
  | 106 => fun _ _ _ h1 h2 => by cases h1; cases h2; exact pm_ok_106
  | 107 => fun _ _ _ h1 h2 => by cases h1; cases h2; exact pm_ok_107
  | 108 => fun _ _ _ h1 h2 => by cases h1; cases h2; exact pm_ok_108
  | 109 => fun _ _ _ h1 h2 => by cases h1; cases h2; exact pm_ok_109
  | 110 => fun _ _ _ h1 h2 => by cases h1; cases h2; exact pm_ok_110
  | 111 => fun _ _ _ h1 h2 => by cases h1; cases h2; exact pm_ok_111
  | 112 => fun _ _ _ h1 h2 => by cases h1; cases h2; exact pm_ok_112
  | 113 => fun _ _ _ h1 h2 => by cases h1; cases h2; exact pm_ok_113
  | 114 => fun _ _ _ h1 h2 => by cases h1; cases h2; exact pm_ok_114
  | 115 => fun _ _ _ h1 h2 => by cases h1; cases h2; exact pm_ok_115
  | 116 => fun _ _ _ h1 h2 => by cases h1; cases h2; exact pm_ok_116
  | 117 => fun _ _ _ h1 h2 => by cases h1; cases h2; exact pm_ok_117
  | 118 => fun _ _ _ h1 h2 => by cases h1; cases h2; exact pm_ok_118
  | 119 => fun _ _ _ h1 h2 => by cases h1; cases h2; exact pm_ok_119
  | 120 => fun _ _ _ h1 h2 => by cases h1; cases h2; exact pm_ok_120
  | 121 => fun _ _ _ h1 h2 => by cases h1; cases h2; exact pm_ok_121
  | 122 => fun _ _ _ h1 h2 => by cases h1; cases h2; exact pm_ok_122
  | 123 => fun _ _ _ h1 h2 => by cases h1; cases h2; exact pm_ok_123
  | 124 => fun _ _ _ h1 h2 => by cases h1; cases h2; exact pm_ok_124
  | 125 => fun _ _ _ h1 h2 => by cases h1; cases h2; exact pm_ok_125
  | 126 => fun _ _ _ h1 h2 => by cases h1; cases h2; exact pm_ok_126
  | 127 => fun _ _ _ h1 h2 => by cases h1; cases h2; exact pm_ok_127
  | 128 => fun _ _ _ h1 h2 => by cases h1; cases h2; exact pm_ok_128
  | 129 => fun _ _ _ h1 h2 => by cases h1; cases h2; exact pm_ok_129
  | 130 => fun _ _ _ h1 h2 => by cases h1; cases h2; exact pm_ok_130
  | 131 => fun _ _ _ h1 h2 => by cases h1; cases h2; exact pm_ok_131
  | 132 => fun _ _ _ h1 h2 => by cases h1; cases h2; exact pm_ok_132
  | 133 => fun _ _ _ h1 h2 => by cases h1; cases h2; exact pm_ok_133
  | 134 => fun _ _ _ h1 h2 => by cases h1; cases h2; exact pm_ok_134
  | 135 => fun _ _ _ h1 h2 => by cases h1; cases h2; exact pm_ok_135
  | 136 => fun _ _ _ h1 h2 => by cases h1; cases h2; exact pm_ok_136
  | 137 => fun _ _ _ h1 h2 => by cases h1; cases h2; exact pm_ok_137
  | 138 => fun _ _ _ h1 h2 => by cases h1; cases h2; exact pm_ok_138
  | 139 => fun _ _ _ h1 h2 => by cases h1; cases h2; exact pm_ok_139
  | 140 => fun _ _ _ h1 h2 => by cases h1; cases h2; exact pm_ok_140
  | 141 => fun _ _ _ h1 h2 => by cases h1; cases h2; exact pm_ok_141
  | 142 => fun _ _ _ h1 h2 => by cases h1; cases h2; exact pm_ok_142
  | 143 => fun _ _ _ h1 h2 => by cases h1; cases h2; exact pm_ok_143
  | 144 => fun _ _ _ h1 h2 => by cases h1; cases h2; exact pm_ok_144
  | 145 => fun _ _ _ h1 h2 => by cases h1; cases h2; exact pm_ok_145
  | 146 => fun _ _ _ h1 h2 => by cases h1; cases h2; exact pm_ok_146
  | 147 => fun _ _ _ h1 h2 => by cases h1; cases h2; exact pm_ok_147
  | 148 => fun _ _ _ h1 h2 => by cases h1; cases h2; exact pm_ok_148
  | 149 => fun _ _ _ h1 h2 => by cases h1; cases h2; exact pm_ok_149
  | 150 => fun _ _ _ h1 h2 => by cases h1; cases h2; exact pm_ok_150
  | 151 => fun _ _ _ h1 h2 => by cases h1; cases h2; exact pm_ok_151
  | 152 => fun _ _ _ h1 h2 => by cases h1; cases h2; exact pm_ok_152
  | 153 => fun _ _ _ h1 h2 => by cases h1; cases h2; exact pm_ok_153
  | 154 => fun _ _ _ h1 h2 => by cases h1; cases h2; exact pm_ok_154
  | 155 => fun _ _ _ h1 h2 => by cases h1; cases h2; exact pm_ok_155
  | 156 => fun _ _ _ h1 h2 => by cases h1; cases h2; exact pm_ok_156
  | 157 => fun _ _ _ h1 h2 => by cases h1; cases h2; exact pm_ok_157
  | 158 => fun _ _ _ h1 h2 => by cases h1; cases h2; exact pm_ok_158
  | 159 => fun _ _ _ h1 h2 => by cases h1; cases h2; exact pm_ok_159
  | 160 => fun _ _ _ h1 h2 => by cases h1; cases h2; exact pm_ok_160
  | 161 => fun _ _ _ h1 h2 => by cases h1; cases h2; exact pm_ok_161
  | 162 => fun _ _ _ h1 h2 => by cases h1; cases h2; exact pm_ok_162
  | 163 => fun _ _ _ h1 h2 => by cases h1; cases h2; exact pm_ok_163
  | 164 => fun _ _ _ h1 h2 => by cases h1; cases h2; exact pm_ok_164
  | 165 => fun _ _ _ h1 h2 => by cases h1; cases h2; exact pm_ok_165
  | 166 => fun _ _ _ h1 h2 => by cases h1; cases h2; exact pm_ok_166
  | 167 => fun _ _ _ h1 h2 => by cases h1; cases h2; exact pm_ok_167
  | 168 => fun _ _ _ h1 h2 => by cases h1; cases h2; exact pm_ok_168
  | 169 => fun _ _ _ h1 h2 => by cases h1; cases h2; exact pm_ok_169
  | 170 => fun _ _ _ h1 h2 => by cases h1; cases h2; exact pm_ok_170
  | 171 => fun _ _ _ h1 h2 => by cases h1; cases h2; exact pm_ok_171
  | 172 => fun _ _ _ h1 h2 => by cases h1; cases h2; exact pm_ok_172
  | 173 => fun _ _ _ h1 h2 => by cases h1; cases h2; exact pm_ok_173
  | 174 => fun _ _ _ h1 h2 => by cases h1; cases h2; exact pm_ok_174
  | 175 => fun _ _ _ h1 h2 => by cases h1; cases h2; exact pm_ok_175
  | 176 => fun _ _ _ h1 h2 => by cases h1; cases h2; exact pm_ok_176
  | 177 => fun _ _ _ h1 h2 => by cases h1; cases h2; exact pm_ok_177
  | 178 => fun _ _ _ h1 h2 => by cases h1; cases h2; exact pm_ok_178
  | 179 => fun _ _ _ h1 h2 => by cases h1; cases h2; exact pm_ok_179
  | 180 => fun _ _ _ h1 h2 => by cases h1; cases h2; exact pm_ok_180
  | 181 => fun _ _ _ h1 h2 => by cases h1; cases h2; exact pm_ok_181
  | 182 => fun _ _ _ h1 h2 => by cases h1; cases h2; exact pm_ok_182
  | 183 => fun _ _ _ h1 h2 => by cases h1; cases h2; exact pm_ok_183
  | 184 => fun _ _ _ h1 h2 => by cases h1; cases h2; exact pm_ok_184
  | 185 => fun _ _ _ h1 h2 => by cases h1; cases h2; exact pm_ok_185
  | 186 => fun _ _ _ h1 h2 => by cases h1; cases h2; exact pm_ok_186
  | 187 => fun _ _ _ h1 h2 => by cases h1; cases h2; exact pm_ok_187
  | 188 => fun _ _ _ h1 h2 => by cases h1; cases h2; exact pm_ok_188
  | 189 => fun _ _ _ h1 h2 => by cases h1; cases h2; exact pm_ok_189
  | 190 => fun _ _ _ h1 h2 => by cases h1; cases h2; exact pm_ok_190
  | 191 => fun _ _ _ h1 h2 => by cases h1; cases h2; exact pm_ok_191
  | 192 => fun _ _ _ h1 h2 => by cases h1; cases h2; exact pm_ok_192
  | 193 => fun _ _ _ h1 h2 => by cases h1; cases h2; exact pm_ok_193
  | 194 => fun _ _ _ h1 h2 => by cases h1; cases h2; exact pm_ok_194
  | 195 => fun _ _ _ h1 h2 => by cases h1; cases h2; exact pm_ok_195
  | 196 => fun _ _ _ h1 h2 => by cases h1; cases h2; exact pm_ok_196
  | 197 => fun _ _ _ h1 h2 => by cases h1; cases h2; exact pm_ok_197
  | 198 => fun _ _ _ h1 h2 => by cases h1; cases h2; exact pm_ok_198
  | 199 => fun _ _ _ h1 h2 => by cases h1; cases h2; exact pm_ok_199
  | 200 => fun _ _ _ h1 h2 => by cases h1; cases h2; exact pm_ok_200
  | 201 => fun _ _ _ h1 h2 => by cases h1; cases h2; exact pm_ok_201
  | 202 => fun _ _ _ h1 h2 => by cases h1; cases h2; exact pm_ok_202
  | 203 => fun _ _ _ h1 h2 => by cases h1; cases h2; exact pm_ok_203
  | 204 => fun _ _ _ h1 h2 => by cases h1; cases h2; exact pm_ok_204
  | 205 => fun _ _ _ h1 h2 => by cases h1; cases h2; exact pm_ok_205
  | 206 => fun _ _ _ h1 h2 => by cases h1; cases h2; exact pm_ok_206
  | 207 => fun _ _ _ h1 h2 => by cases h1; cases h2; exact pm_ok_207
  | 208 => fun _ _ _ h1 h2 => by cases h1; cases h2; exact pm_ok_208
  | 209 => fun _ _ _ h1 h2 => by cases h1; cases h2; exact pm_ok_209
  | 210 => fun _ _ _ h1 h2 => by cases h1; cases h2; exact pm_ok_210
  | 211 => fun _ _ _ h1 h2 => by cases h1; cases h2; exact pm_ok_211
  | 212 => fun _ _ _ h1 h2 => by cases h1; cases h2; exact pm_ok_212
  | 213 => fun _ _ _ h1 h2 => by cases h1; cases h2; exact pm_ok_213
  | 214 => fun _ _ _ h1 h2 => by cases h1; cases h2; exact pm_ok_214
  | 215 => fun _ _ _ h1 h2 => by cases h1; cases h2; exact pm_ok_215
  | 216 => fun _ _ _ h1 h2 => by cases h1; cases h2; exact pm_ok_216
  | 217 => fun _ _ _ h1 h2 => by cases h1; cases h2; exact pm_ok_217
  | 218 => fun _ _ _ h1 h2 => by cases h1; cases h2; exact pm_ok_218
  | 219 => fun _ _ _ h1 h2 => by cases h1; cases h2; exact pm_ok_219
  | 220 => fun _ _ _ h1 h2 => by cases h1; cases h2; exact pm_ok_220
  | 221 => fun _ _ _ h1 h2 => by cases h1; cases h2; exact pm_ok_221
  | 222 => fun _ _ _ h1 h2 => by cases h1; cases h2; exact pm_ok_222
  | 223 => fun _ _ _ h1 h2 => by cases h1; cases h2; exact pm_ok_223
  | 224 => fun _ _ _ h1 h2 => by cases h1; cases h2; exact pm_ok_224
  | 225 => fun _ _ _ h1 h2 => by cases h1; cases h2; exact pm_ok_225
  | 226 => fun _ _ _ h1 h2 => by cases h1; cases h2; exact pm_ok_226
  | 227 => fun _ _ _ h1 h2 => by cases h1; cases h2; exact pm_ok_227
  | 228 => fun _ _ _ h1 h2 => by cases h1; cases h2; exact pm_ok_228
  | 229 => fun _ _ _ h1 h2 => by cases h1; cases h2; exact pm_ok_229
  | 230 => fun _ _ _ h1 h2 => by cases h1; cases h2; exact pm_ok_230
  | 231 => fun _ _ _ h1 h2 => by cases h1; cases h2; exact pm_ok_231
  | 232 => fun _ _ _ h1 h2 => by cases h1; cases h2; exact pm_ok_232
  | 233 => fun _ _ _ h1 h2 => by cases h1; cases h2; exact pm_ok_233
  | 234 => fun _ _ _ h1 h2 => by cases h1; cases h2; exact pm_ok_234
  | 235 => fun _ _ _ h1 h2 => by cases h1; cases h2; exact pm_ok_235
  | k + 236 => fun _ _ h _ _ => absurd h (by omega)
end
section
/-! The world of cells that a heap of numbers spells, and what holds of a method's frame. -/
def pm_vr (ad : Nat → Nat) (v : Value) : Value := match v with
  | .ref q => .ref (ad q)
  | .int x => .int x
  | .long x => .long x
  | .float x => .float x
  | .double x => .double x
  | .null => .null
  | .retAddr x => .retAddr x
def pm_lr (ad : Nat → Nat) (lv : pm_Lv) : pm_Lv := lv.map (fun q => (q.1, pm_vr ad q.2))
theorem pm_vr_cat (ad : Nat → Nat) (v : Value) : (pm_vr ad v).category = v.category := by cases v <;> rfl
def pm_vK (ad : Nat → Nat) (k : Nat) (z : Int) : Value := match k with
  | 1 => .long (Int64.ofInt z)
  | 2 => .ref (ad z.toNat)
  | _ => .int (Int32.ofInt z)
def pm_mF (ad : Nat → Nat) (f : Nat → Int) : Nat → List Nat → List Value
  | _, [] => []
  | j, k :: ks => pm_vK ad k (f j) :: pm_mF ad f (j + 1) ks
theorem pm_mF_get (ad : Nat → Nat) (f : Nat → Int) : ∀ (ks : List Nat) (j i : Nat), (pm_mF ad f j ks)[i]? = (ks[i]?).map (fun k => pm_vK ad k (f (j + i)))
  | [], _, _ => by simp [pm_mF]
  | k :: ks, j, 0 => by simp [pm_mF]
  | k :: ks, j, i + 1 => by
    simp only [pm_mF, List.getElem?_cons_succ]
    rw [pm_mF_get ad f ks (j + 1) i, show j + 1 + i = j + (i + 1) by omega]
theorem pm_mF_len (ad : Nat → Nat) (f : Nat → Int) : ∀ (ks : List Nat) (j : Nat), (pm_mF ad f j ks).length = ks.length
  | [], _ => rfl
  | k :: ks, j => by simp only [pm_mF, List.length_cons]; rw [pm_mF_len ad f ks (j + 1)]
/-- the five classes of arrays -/
abbrev pm_cK : Type := ClassId × ClassId × ClassId × ClassId × ClassId
abbrev pm_ty (k : pm_cK) : List (ClassId × FieldType) := [(k.1, .byte), (k.2.1, .int), (k.2.2.1, .long), (k.2.2.2.1, .boolean), (k.2.2.2.2, .object "GuildCharter$Image")]
def pm_cE (k : pm_cK) (ad : Nat → Nat) (f : Nat → Int) (sh : pm_Sh) : va_E := match sh.1 with
  | 0 => .inr (sh.2.1, pm_mF ad f 0 sh.2.2)
  | 1 => .inl (k.2.1, sh.2.1, .inl (fun j => Int32.ofInt (f j)))
  | 2 => .inl (k.1, sh.2.1, .inl (fun j => Int32.ofInt (f j)))
  | 3 => .inl (k.2.2.2.1, sh.2.1, .inl (fun j => Int32.ofInt (f j)))
  | 4 => .inl (k.2.2.1, sh.2.1, .inr (.inl (fun j => Int64.ofInt (f j))))
  | _ => .inl (k.2.2.2.2, sh.2.1, .inr (.inr (.inr (.inr (fun j => some (ad (f j).toNat))))))
def pm_Wl (k : pm_cK) (ad : Nat → Nat) (h : pm_Hp) : Nat → List pm_Sh → va_W
  | _, [] => []
  | q, s :: ss => (ad q, pm_cE k ad (h q) s) :: pm_Wl k ad h (q + 1) ss
theorem pm_Wl_get (k : pm_cK) (ad : Nat → Nat) (h : pm_Hp) : ∀ (ss : List pm_Sh) (q i : Nat), (pm_Wl k ad h q ss)[i]? = (ss[i]?).map (fun s => (ad (q + i), pm_cE k ad (h (q + i)) s))
  | [], _, _ => by simp [pm_Wl]
  | s :: ss, q, 0 => by simp [pm_Wl]
  | s :: ss, q, i + 1 => by
    simp only [pm_Wl, List.getElem?_cons_succ]
    rw [pm_Wl_get k ad h ss (q + 1) i, show q + 1 + i = q + (i + 1) by omega]
abbrev pm_Sw : List pm_Sh := pm_S.take 135
/-- the world -/
def pm_Wd (k : pm_cK) (ad : Nat → Nat) (h : pm_Hp) : va_W := pm_Wl k ad h 0 pm_Sw
theorem pm_S_len : pm_S.length = 136 := by decide +kernel
theorem pm_S_last : pm_S[135]? = some (6, 18, []) := by decide +kernel
theorem pm_S_in {q : Nat} {s : pm_Sh} (h : pm_S[q]? = some s) (h6 : s.1 ≠ 6) : pm_Sw[q]? = some s := by
  have hl : q < 136 := by
    have := (List.getElem?_eq_some_iff.mp h).1
    rw [pm_S_len] at this; exact this
  have hq : q < 135 := by
    rcases Nat.lt_or_ge q 135 with a | a
    · exact a
    · have : q = 135 := by omega
      subst this
      rw [pm_S_last] at h
      cases h
      exact absurd rfl h6
  rw [List.getElem?_take_of_lt hq]; exact h
theorem pm_S_6 {q g n : Nat} {x : List Nat} (h : pm_S[q]? = some (g, n, x)) (h6 : g = 6) : q = 135 := by
  subst h6
  have hl : q < 136 := by
    have := (List.getElem?_eq_some_iff.mp h).1
    rw [pm_S_len] at this; exact this
  have hf : ∀ j : Nat, j < 135 → (pm_S[j]?).all (fun s => s.1 != 6) = true := by decide +kernel
  rcases Nat.lt_or_ge q 135 with a | a
  · have := hf q a
    rw [h] at this
    simp at this
  · omega
theorem pm_Wd_at (k : pm_cK) (ad : Nat → Nat) (h : pm_Hp) {q : Nat} {s : pm_Sh} (hs : pm_S[q]? = some s) (h6 : s.1 ≠ 6) : (pm_Wd k ad h)[q]? = some (ad q, pm_cE k ad (h q) s) := by
  unfold pm_Wd
  rw [pm_Wl_get, pm_S_in hs h6, Nat.zero_add]
  rfl
theorem pm_Wd_set (k : pm_cK) (ad : Nat → Nat) {h h' : pm_Hp} {q : Nat} {s : pm_Sh} {x : Nat × va_E} (hs : pm_S[q]? = some s) (h6 : s.1 ≠ 6) (hx : x = (ad q, pm_cE k ad (h' q) s)) (ho : ∀ c, c ≠ q → h' c = h c) : (pm_Wd k ad h).set q x = pm_Wd k ad h' := by
  apply List.ext_getElem?
  intro i
  rw [List.getElem?_set]
  by_cases hi : q = i
  · subst hi
    have hlt : q < (pm_Wd k ad h).length := (List.getElem?_eq_some_iff.mp (pm_Wd_at k ad h hs h6)).1
    rw [if_pos rfl, if_pos hlt, pm_Wd_at k ad h' hs h6, hx]
  · rw [if_neg hi]
    unfold pm_Wd
    rw [pm_Wl_get, pm_Wl_get, Nat.zero_add, ho i (fun e => hi e.symm)]
/-- the words that every method carries -/
def pm_G : List Cond := lw_tbl.filter goodWord
theorem pm_inG {w : Cond} (h : w ∈ lw_tbl) (hg : goodWord w = true) : w ∈ pm_G := List.mem_filter.mpr ⟨h, hg⟩
/-- the constant row, and the two links within the nest -/
def pm_E (ad : Nat → Nat) (A : Nat → Prop) (U : State) (H : Heap) : Prop :=
  va_Z "GuildCharter" "ORDER_GUILDS" "[I" (.ref (ad 135)) A U H ∧ va_T .int (ad 135) 18 (fun j => .int (Int32.ofInt (pm_O.getD j 0))) A U H ∧ va_Nw (.fieldLinkNest RX3 29 RX9 "length" "I" "GuildCharter") U ∧ va_Nw (.fieldLinkNest RX3 34 RX10 "ORDER_GUILDS" "[I" "GuildCharter") U
theorem pm_E_at {ad : Nat → Nat} {A B : Nat → Prop} {s U : State} {H : Heap} {locs : List Loc} (h : pm_E ad A s s.heap) (hS : va_S A s.heap H locs) (hAB : ∀ q, B q → A q) (hU : U.heap = H) (hW : s.WarmedH U.vm) : pm_E ad B U U.heap := by
  subst hU
  obtain ⟨h1, h2, h3, h4⟩ := h
  exact ⟨((h1.moved hW.alike).kept hS.2.1).narrow hAB, ((h2.moved hW.alike).kept hS.2.1).narrow hAB, h3.warmF hW, h4.warmF hW⟩
theorem pm_E_same {ad : Nat → Nat} {A : Nat → Prop} {u U : State} (hv : U.vm = u.vm) (hh : U.heap = u.heap) (h : pm_E ad A u u.heap) : pm_E ad A U U.heap := by
  obtain ⟨h1, h2, h3, h4⟩ := h
  have ha : u.vm.Alike U.vm := by rw [hv]; exact Vm.Alike.refl u.vm
  rw [hh]
  exact ⟨h1.moved ha, h2.moved ha, h3.same rfl hv.symm, h4.same rfl hv.symm⟩
/-- a method's frame: the machine, its code, its class, the words, the tables, the constant row, the room -/
def pm_Gx (p : Program) (s : State) (m : MethodId) (args : Array Value) (c : Code) (R : Room) (D : va_G) (k : pm_cK) (ad : Nat → Nat) (A : Nat → Prop) (me : pm_Me) : Prop :=
  (p.tables.exec = Jvm.exec ∧ c.code = me.2.1 ∧ c.maxLocals = me.2.2.1 ∧ s.vm.findClass (pm_R me.2.2.2.2.2.1) = some m.cls ∧ ∀ w ∈ pm_G, w.before args s = true) ∧ va_K D vwCl (pm_ty k) s ∧ pm_E ad A s s.heap ∧ (∀ q, s.heap.size ≤ q → A q) ∧ 1 ≤ R.frames ∧ 60 ≤ R.locals
def pm_Wo (D : va_G) (k : pm_cK) (ad : Nat → Nat) (A : Nat → Prop) (s : State) (h : pm_Hp) (H : Heap) (locs : List Loc) : Prop := va_P D vwCl (pm_Wd k ad h) H ∧ va_D A (pm_Wd k ad h) ∧ va_S A s.heap H locs
/-- the goal at a place, as a predicate of the pure machine's states -/
def pm_Sx (p : Program) (l : Launch) (e : Env) (R : Room) (s : State) (m : MethodId) (args : Array Value) (below : List Frame) (meth : Method) (c : Code) (cells slots : Nat) (Q : State → Prop) (D : va_G) (k : pm_cK) (ad : Nat → Nat) (A : Nat → Prop) (nL : Nat) : pm_X :=
  fun pc lv st h => ∀ (H : Heap) (locs : List Loc) (ls : Array Slot), pm_Wo D k ad A s h H locs → lv_has ls nL (pm_lr ad lv) → W p l e R s m args below meth c H locs cells slots Q (F0 m pc ls (st.map (pm_vr ad)))
-- small things
theorem pm_sI_some {α : Type} {st : List Value} {k : Int32 → List Value → Option α} {r : α} (h : pm_sI st k = some r) : ∃ x t, st = .int x :: t ∧ k x t = some r := by
  unfold pm_sI at h
  split at h
  · exact ⟨_, _, rfl, h⟩
  · cases h
theorem pm_sL_some {α : Type} {st : List Value} {k : Int64 → List Value → Option α} {r : α} (h : pm_sL st k = some r) : ∃ x t, st = .long x :: t ∧ k x t = some r := by
  unfold pm_sL at h
  split at h
  · exact ⟨_, _, rfl, h⟩
  · cases h
theorem pm_sR_some {α : Type} {st : List Value} {k : Nat → List Value → Option α} {r : α} (h : pm_sR st k = some r) : ∃ x t, st = .ref x :: t ∧ k x t = some r := by
  unfold pm_sR at h
  split at h
  · exact ⟨_, _, rfl, h⟩
  · cases h
theorem pm_s1_some {α : Type} {st : List Value} {k : Value → List Value → Option α} {r : α} (h : pm_s1 st k = some r) : ∃ v t, st = v :: t ∧ v.category = 1 ∧ k v t = some r := by
  unfold pm_s1 at h
  split at h
  · split at h
    · exact ⟨_, _, rfl, by assumption, h⟩
    · cases h
  · cases h
theorem pm_gI_some {α : Type} {v : Option Value} {k : Int32 → Option α} {r : α} (h : pm_gI v k = some r) : ∃ x, v = some (.int x) ∧ k x = some r := by
  unfold pm_gI at h
  split at h
  · exact ⟨_, rfl, h⟩
  · cases h
theorem pm_gL_some {α : Type} {v : Option Value} {k : Int64 → Option α} {r : α} (h : pm_gL v k = some r) : ∃ x, v = some (.long x) ∧ k x = some r := by
  unfold pm_gL at h
  split at h
  · exact ⟨_, rfl, h⟩
  · cases h
theorem pm_gR_some {α : Type} {v : Option Value} {k : Nat → Option α} {r : α} (h : pm_gR v k = some r) : ∃ x, v = some (.ref x) ∧ k x = some r := by
  unfold pm_gR at h
  split at h
  · exact ⟨_, rfl, h⟩
  · cases h
theorem pm_ix_some {α : Type} {i : Int32} {n : Nat} {k : Nat → Option α} {r : α} (h : pm_ix i n k = some r) : vp_in i n ∧ k i.toNatClampNeg = some r := by
  unfold pm_ix at h
  split at h
  · exact ⟨vp_in_iff.mpr (by assumption), h⟩
  · cases h
theorem pm_lg_mem {lv : pm_Lv} {i : Nat} {v : Value} (h : pm_lg lv i = some v) : (i, v) ∈ lv := by
  unfold pm_lg at h
  cases hf : lv.find? (fun q => q.1 == i) with
  | none => rw [hf] at h; cases h
  | some q =>
    rw [hf] at h
    have h1 := List.find?_some hf
    have h2 := List.mem_of_find?_eq_some hf
    simp only [Option.map_some, Option.some.injEq] at h
    have : q = (i, v) := Prod.ext (by simpa using h1) h
    rw [← this]; exact h2
theorem pm_lr_at {ad : Nat → Nat} {lv : pm_Lv} {i : Nat} {v : Value} {ls : Array Slot} {nL : Nat} (hl : lv_has ls nL (pm_lr ad lv)) (h : pm_lg lv i = some v) : ls[i]? = some (.val (pm_vr ad v)) :=
  hl.2.2 (i, pm_vr ad v) (List.mem_map.mpr ⟨(i, v), pm_lg_mem h, rfl⟩)
theorem pm_lr_l1 (ad : Nat → Nat) (lv : pm_Lv) (i : Nat) (v : Value) : pm_lr ad (pm_l1 lv i v) = (i, pm_vr ad v) :: (pm_lr ad lv).filter (fun q => !(q.1 == i) && !(q.1 + 1 == i && q.2.category == 2)) := by
  unfold pm_lr pm_l1
  rw [List.map_cons, List.filter_map]
  congr 2
  apply List.filter_congr
  intro q _
  simp [Function.comp, pm_vr_cat]
theorem pm_lr_l2 (ad : Nat → Nat) (lv : pm_Lv) (i : Nat) (v : Value) : pm_lr ad (pm_l2 lv i v) = (i, pm_vr ad v) :: (pm_lr ad lv).filter (fun q => !(q.1 == i) && (!(q.1 == i + 1) && !(q.1 + 1 == i && q.2.category == 2))) := by
  unfold pm_lr pm_l2
  rw [List.map_cons, List.filter_map]
  congr 2
  apply List.filter_congr
  intro q _
  simp [Function.comp, pm_vr_cat]
theorem pm_lr_args (ad : Nat → Nat) : ∀ (vs : List Value) (i : Nat), pm_lr ad (lv_args i vs) = lv_args i (vs.map (pm_vr ad))
  | [], _ => rfl
  | v :: vs, i => by
    show (i, pm_vr ad v) :: pm_lr ad (lv_args _ vs) = (i, pm_vr ad v) :: lv_args _ _
    rw [pm_lr_args ad vs, pm_vr_cat]
theorem pm_sl_len (ad : Nat → Nat) : ∀ vs : List Value, (lg_sl (vs.map (pm_vr ad))).length = (lg_sl vs).length
  | [] => rfl
  | v :: vs => by
    have ih := pm_sl_len ad vs
    unfold lg_sl at ih ⊢
    simp only [List.map_cons, List.flatMap_cons, List.length_append]
    rw [ih, pm_vr_cat]
    by_cases hc : v.category = 2 <;> simp [hc]
theorem pm_cat_map (ad : Nat → Nat) : ∀ vs : List Value, ((vs.map (pm_vr ad)).map fun v => v.category).sum = pm_cat vs
  | [] => rfl
  | v :: vs => by
    have ih := pm_cat_map ad vs
    unfold pm_cat at ih ⊢
    simp only [List.map_cons, List.sum_cons]
    rw [ih, pm_vr_cat]
end
section
/-! What the tables say: fields, kinds, links. -/
def pm_tf : Nat → Nat → FieldType := fun b => match b with
  | 0 => tyX0
  | 1 => tyX1
  | 2 => tyX2
  | 3 => tyX3
  | 4 => tyX4
  | 5 => tyX5
  | 6 => tyX6
  | 7 => tyX7
  | 8 => tyX8
  | 9 => tyX9
  | 10 => tyX10
  | _ => tyX11
theorem pm_12 {P : Nat → Prop} (h0 : P 0) (h1 : P 1) (h2 : P 2) (h3 : P 3) (h4 : P 4) (h5 : P 5) (h6 : P 6) (h7 : P 7) (h8 : P 8) (h9 : P 9) (h10 : P 10) (h11 : P 11) : ∀ b, b < 12 → P b := fun b hb => match b, hb with
  | 0, _ => h0
  | 1, _ => h1
  | 2, _ => h2
  | 3, _ => h3
  | 4, _ => h4
  | 5, _ => h5
  | 6, _ => h6
  | 7, _ => h7
  | 8, _ => h8
  | 9, _ => h9
  | 10, _ => h10
  | 11, _ => h11
  | b + 12, h => absurd h (by omega)
theorem pm_cl : ∀ b, b < 12 → vwCl[b]? = some (pm_R b, pm_T b, pm_N b) := pm_12 rfl rfl rfl rfl rfl rfl rfl rfl rfl rfl rfl rfl
theorem pm_tf_ok : ∀ b, b < 12 → ∀ k, k < pm_N b → parseFieldDescriptor (pm_T b k).2.2.1 = some (pm_tf b k) := pm_12 tyX0_ok tyX1_ok tyX2_ok tyX3_ok tyX4_ok tyX5_ok tyX6_ok tyX7_ok tyX8_ok tyX9_ok tyX10_ok tyX11_ok
theorem pm_nm : ∀ b, b < 12 → ∀ x, x < pm_N b → ∀ y, y < pm_N b → x ≠ y → (pm_T b x).2.1 ≠ (pm_T b y).2.1 := pm_12 nmX0 nmX1 nmX2 nmX3 nmX4 nmX5 nmX6 nmX7 nmX8 nmX9 nmX10 nmX11
theorem pm_gl {w : Cond} {C : String} {T : u_T} {N : Nat} (h : w ∈ u_ws C T N) : goodWord w = true := by
  unfold u_ws at h
  obtain ⟨k, -, rfl⟩ := List.mem_map.mp h
  unfold u_lay
  split <;> rfl
theorem pm_inU : ∀ b, b < 12 → ∀ w ∈ u_ws (pm_R b) (pm_T b) (pm_N b), w ∈ pm_G :=
  pm_12 (fun w h => pm_inG (inX0 w h) (pm_gl h)) (fun w h => pm_inG (inX1 w h) (pm_gl h)) (fun w h => pm_inG (inX2 w h) (pm_gl h)) (fun w h => pm_inG (inX3 w h) (pm_gl h)) (fun w h => pm_inG (inX4 w h) (pm_gl h)) (fun w h => pm_inG (inX5 w h) (pm_gl h)) (fun w h => pm_inG (inX6 w h) (pm_gl h)) (fun w h => pm_inG (inX7 w h) (pm_gl h)) (fun w h => pm_inG (inX8 w h) (pm_gl h)) (fun w h => pm_inG (inX9 w h) (pm_gl h)) (fun w h => pm_inG (inX10 w h) (pm_gl h)) (fun w h => pm_inG (inX11 w h) (pm_gl h))
theorem pm_T1 : ∀ b, b < 12 → ∀ k, (pm_T b k).1 = pm_R b := by
  intro b hb
  refine pm_12 (P := fun b => ∀ k, (pm_T b k).1 = pm_R b) ?_ ?_ ?_ ?_ ?_ ?_ ?_ ?_ ?_ ?_ ?_ ?_ b hb
  · intro k; show (TX0 k).1 = RX0; unfold TX0; split <;> rfl
  · intro k; show (TX1 k).1 = RX1; unfold TX1; split <;> rfl
  · intro k; show (TX2 k).1 = RX2; unfold TX2; split <;> rfl
  · intro k; show (TX3 k).1 = RX3; unfold TX3; split <;> rfl
  · intro k; show (TX4 k).1 = RX4; unfold TX4; split <;> rfl
  · intro k; show (TX5 k).1 = RX5; unfold TX5; split <;> rfl
  · intro k; show (TX6 k).1 = RX6; unfold TX6; split <;> rfl
  · intro k; show (TX7 k).1 = RX7; unfold TX7; split <;> rfl
  · intro k; show (TX8 k).1 = RX8; unfold TX8; split <;> rfl
  · intro k; show (TX9 k).1 = RX9; unfold TX9; split <;> rfl
  · intro k; show (TX10 k).1 = RX10; unfold TX10; split <;> rfl
  · intro k; show (TX11 k).1 = RX11; unfold TX11; split <;> rfl
/-- does a type go with a kind -/
def pm_kt (k : Nat) (t : FieldType) : Bool := match k, t with
  | 0, .int => true
  | 4, .boolean => true
  | 1, .long => true
  | 2, .object _ => true
  | 2, .array _ => true
  | _, _ => false
theorem pm_ko : pm_S.all (fun s => s.1 != 0 || ((List.range s.2.2.length).all (fun a => pm_kt (s.2.2.getD a 9) (pm_tf s.2.1 a)) && (s.2.2.length == pm_N s.2.1 && decide (s.2.1 < 12)))) = true := by decide +kernel
theorem pm_fk_some {q ci a k : Nat} (h : pm_fk q ci a = some k) : ∃ ks, pm_S[q]? = some (0, ci, ks) ∧ ks[a]? = some k ∧ pm_kt k (pm_tf ci a) = true ∧ a < pm_N ci ∧ ci < 12 ∧ ks.length = pm_N ci := by
  unfold pm_fk at h
  split at h
  · rename_i c ks hs
    split at h
    · rename_i hc
      subst hc
      have h1 := List.all_eq_true.mp pm_ko _ (List.mem_of_getElem? hs)
      have hl := (List.getElem?_eq_some_iff.mp h).1
      simp only [bne_self_eq_false, Bool.false_or, Bool.and_eq_true, beq_iff_eq, decide_eq_true_eq] at h1
      obtain ⟨h1, h2, h3⟩ := h1
      have h4 := List.all_eq_true.mp h1 a (List.mem_range.mpr hl)
      rw [List.getD_eq_getElem?_getD, h] at h4
      exact ⟨ks, hs, h, h4, by omega, h3, h2⟩
    · cases h
  · cases h
theorem pm_ak_some {q : Nat} {g : Nat × Nat} (h : pm_ak q = some g) : ∃ x, pm_S[q]? = some (g.1, g.2, x) ∧ g.1 ≠ 0 := by
  unfold pm_ak at h
  split at h
  · rename_i g' n x hs
    split at h
    · cases h
    · cases h; exact ⟨x, hs, by assumption⟩
  · cases h
theorem pm_link {ow c b a : Nat} (h : pm_FL.elem (ow, c, b, a) = true) : Cond.fieldLink (pm_R ow) c (pm_R b) (pm_T b a).2.1 (pm_T b a).2.2.1 ∈ pm_G :=
  pm_inG (pm_FL_ok _ (List.elem_iff.mp h)) rfl
theorem pm_mF_set (ad : Nat → Nat) {f g : Nat → Int} {ks : List Nat} {a kd : Nat} {v : Value} (hk : ks[a]? = some kd) (hv : v = pm_vK ad kd (g a)) (ho : ∀ j, j ≠ a → g j = f j) : (pm_mF ad f 0 ks).set a v = pm_mF ad g 0 ks := by
  apply List.ext_getElem?
  intro i
  have hl : a < ks.length := (List.getElem?_eq_some_iff.mp hk).1
  rw [List.getElem?_set, pm_mF_len, pm_mF_get, pm_mF_get, Nat.zero_add]
  by_cases hi : a = i
  · subst hi
    rw [if_pos rfl, if_pos hl, hk, hv]; rfl
  · rw [if_neg hi, ho i (fun e => hi e.symm)]
theorem pm_up_at (h : pm_Hp) (q a : Nat) (z : Int) : pm_up h q a z q a = z := if_pos ⟨rfl, rfl⟩
theorem pm_up_nj (h : pm_Hp) (q a : Nat) (z : Int) (j : Nat) (hj : j ≠ a) : pm_up h q a z q j = h q j := if_neg (fun e => hj e.2)
theorem pm_up_nc (h : pm_Hp) (q a : Nat) (z : Int) (c : Nat) (hc : c ≠ q) : pm_up h q a z c = h c := funext fun _ => if_neg (fun e => hc e.1)
theorem pm_oi (x : Int32) : Int32.ofInt x.toInt = x := by first | exact Int32.ofInt_toInt x | simp
theorem pm_ol (x : Int64) : Int64.ofInt x.toInt = x := by first | exact Int64.ofInt_toInt x | simp
/-- an array's row, one place new -/
theorem pm_ar (h : pm_Hp) (q j : Nat) (x : Int32) : (fun i => Int32.ofInt (pm_up h q j x.toInt q i)) = upd (fun i => Int32.ofInt (h q i)) j x := by
  funext i
  unfold upd
  by_cases hi : i = j
  · subst hi; rw [pm_up_at, if_pos rfl, pm_oi]
  · rw [pm_up_nj _ _ _ _ _ hi, if_neg hi]
theorem pm_arL (h : pm_Hp) (q j : Nat) (x : Int64) : (fun i => Int64.ofInt (pm_up h q j x.toInt q i)) = vp_updL (fun i => Int64.ofInt (h q i)) j x := by
  funext i
  unfold vp_updL
  by_cases hi : i = j
  · subst hi; rw [pm_up_at, if_pos rfl, pm_ol]
  · rw [pm_up_nj _ _ _ _ _ hi, if_neg hi]
theorem pm_nb {x : Int32} (h : -128 ≤ x.toInt ∧ x.toInt ≤ 127) : vp_nar .byte x = x := by
  rw [vp_nar_byte]
  apply Int32.toInt_inj.mp
  rw [Int8.toInt_toInt32, Int32.toInt_toInt8]
  rw [Int.bmod_def]
  omega
theorem pm_nz {x : Int32} (h : x = 0 ∨ x = 1) : vp_nar .boolean x = x := by
  rcases h with rfl | rfl <;> decide +kernel
theorem pm_nnz {x : Int32} (h : x = 0 ∨ x = 1) : narrow .boolean (.int x) = .int x := by
  rcases h with rfl | rfl <;> decide +kernel
end
section
section
variable {p : Program} {l : Launch} {e : Env} {R : Room} {s : State} {m : MethodId} {args : Array Value} {below : List Frame} {meth : Method} {c : Code} {H : Heap} {locs : List Loc} {cells slots : Nat} {Q : State → Prop} {D : va_G} {k : pm_cK} {ad : Nat → Nat} {A : Nat → Prop} {me : pm_Me} {pc : Nat} {lv : pm_Lv} {st : List Value} {h : pm_Hp} {nx : pm_Nx} {ls : Array Slot} {r len a b i : Nat} {z : Int}

theorem pm_o0 (G : pm_Gx p s m args c R D k ad A me) (hd : decode me.2.1 pc = .ok (pm_real (0, r, len, z, a, b, i), len)) (hs : pm_side me pc (0, r, len, z, a, b, i) = true) (ht : pm_stp (0, r, len, z, a, b, i) pc lv st h = some nx) (hW : pm_Wo D k ad A s h H locs) (hl : lv_has ls me.2.2.1 (pm_lr ad lv)) (X : pm_Sx p l e R s m args below meth c cells slots Q D k ad A me.2.2.1 nx.1 nx.2.1 nx.2.2.1 nx.2.2.2) : W p l e R s m args below meth c H locs cells slots Q (F0 m pc ls (st.map (pm_vr ad))) := by
  obtain ⟨my, bt, ml, rt, np, ow, sta⟩ := me
  obtain ⟨⟨hx, hb, hml, hown, hts⟩, hK, hE, hA, hR1, hR2⟩ := G
  cases ht
  match r, hd, hs with
  | 0, hd, hs => simp [pm_side, pm_len] at hs; obtain ⟨rfl, hs⟩ := hs; exact lv_iconst hx hb hd rfl (X _ _ _ hW hl)
  | 1, hd, hs => simp [pm_side, pm_len] at hs; obtain ⟨rfl, h2⟩ := hs; exact lv_bipush hx hb hd h2 (X _ _ _ hW hl)
  | 2, hd, hs => simp [pm_side, pm_len] at hs; obtain ⟨rfl, h2⟩ := hs; exact lv_sipush hx hb hd h2 (X _ _ _ hW hl)
  | 3, hd, hs => simp [pm_side, pm_len] at hs; obtain ⟨rfl, h2⟩ := hs; exact lv_ldc hx hb hown (hts _ (pm_inG (pm_CI_ok (ow, i, z) h2) rfl)) hd (X _ _ _ hW hl)
  | r + 4, hd, hs => simp [pm_side, pm_len] at hs; obtain ⟨rfl, h2⟩ := hs; exact lv_ldcw hx hb hown (hts _ (pm_inG (pm_CI_ok (ow, i, z) h2) rfl)) hd (X _ _ _ hW hl)

theorem pm_o1 (G : pm_Gx p s m args c R D k ad A me) (hd : decode me.2.1 pc = .ok (pm_real (1, r, len, z, a, b, i), len)) (hs : pm_side me pc (1, r, len, z, a, b, i) = true) (ht : pm_stp (1, r, len, z, a, b, i) pc lv st h = some nx) (hW : pm_Wo D k ad A s h H locs) (hl : lv_has ls me.2.2.1 (pm_lr ad lv)) (X : pm_Sx p l e R s m args below meth c cells slots Q D k ad A me.2.2.1 nx.1 nx.2.1 nx.2.2.1 nx.2.2.2) : W p l e R s m args below meth c H locs cells slots Q (F0 m pc ls (st.map (pm_vr ad))) := by
  obtain ⟨my, bt, ml, rt, np, ow, sta⟩ := me
  obtain ⟨⟨hx, hb, hml, hown, hts⟩, hK, hE, hA, hR1, hR2⟩ := G
  cases ht
  match r, hd, hs with
  | 0, hd, hs =>
    simp [pm_side, pm_len] at hs
    obtain ⟨rfl, h2⟩ := hs
    rcases h2 with ⟨rfl, rfl⟩ | ⟨rfl, rfl⟩
    · exact lv_lconst hx hb hd (by decide) (X _ _ _ hW hl)
    · exact lv_lconst hx hb hd (by decide) (X _ _ _ hW hl)
  | r + 1, hd, hs => simp [pm_side, pm_len] at hs; obtain ⟨rfl, h2⟩ := hs; exact lv_ldc2 hx hb hown (hts _ (pm_inG (pm_CL_ok (ow, i, z) h2) rfl)) hd (X _ _ _ hW hl)

theorem pm_o2 (G : pm_Gx p s m args c R D k ad A me) (hd : decode me.2.1 pc = .ok (pm_real (2, r, len, z, a, b, i), len)) (hs : pm_side me pc (2, r, len, z, a, b, i) = true) (ht : pm_stp (2, r, len, z, a, b, i) pc lv st h = some nx) (hW : pm_Wo D k ad A s h H locs) (hl : lv_has ls me.2.2.1 (pm_lr ad lv)) (X : pm_Sx p l e R s m args below meth c cells slots Q D k ad A me.2.2.1 nx.1 nx.2.1 nx.2.2.1 nx.2.2.2) : W p l e R s m args below meth c H locs cells slots Q (F0 m pc ls (st.map (pm_vr ad))) := by
  obtain ⟨my, bt, ml, rt, np, ow, sta⟩ := me
  obtain ⟨⟨hx, hb, hml, hown, hts⟩, hK, hE, hA, hR1, hR2⟩ := G
  simp [pm_side, pm_len] at hs
  obtain ⟨x, hg, ht⟩ := pm_gI_some ht
  cases ht
  have hv := pm_lr_at hl hg
  match r, hd, hs with
  | 0, hd, hs => obtain ⟨rfl, hs⟩ := hs; exact lv_iload_n hx hb hd (Nat.mod_eq_of_lt (by omega)) hv (X _ _ _ hW hl)
  | r + 1, hd, hs => simp at hs; subst hs; exact lv_iload hx hb hd hv (X _ _ _ hW hl)

theorem pm_o3 (G : pm_Gx p s m args c R D k ad A me) (hd : decode me.2.1 pc = .ok (pm_real (3, r, len, z, a, b, i), len)) (hs : pm_side me pc (3, r, len, z, a, b, i) = true) (ht : pm_stp (3, r, len, z, a, b, i) pc lv st h = some nx) (hW : pm_Wo D k ad A s h H locs) (hl : lv_has ls me.2.2.1 (pm_lr ad lv)) (X : pm_Sx p l e R s m args below meth c cells slots Q D k ad A me.2.2.1 nx.1 nx.2.1 nx.2.2.1 nx.2.2.2) : W p l e R s m args below meth c H locs cells slots Q (F0 m pc ls (st.map (pm_vr ad))) := by
  obtain ⟨my, bt, ml, rt, np, ow, sta⟩ := me
  obtain ⟨⟨hx, hb, hml, hown, hts⟩, hK, hE, hA, hR1, hR2⟩ := G
  simp [pm_side, pm_len] at hs
  obtain ⟨x, hg, ht⟩ := pm_gL_some ht
  cases ht
  have hv := pm_lr_at hl hg
  match r, hd, hs with
  | 0, hd, hs => obtain ⟨rfl, hs⟩ := hs; exact lv_lload_n hx hb hd (Nat.mod_eq_of_lt (by omega)) hv (X _ _ _ hW hl)
  | r + 1, hd, hs => simp at hs; subst hs; exact lv_lload hx hb hd hv (X _ _ _ hW hl)

theorem pm_o4 (G : pm_Gx p s m args c R D k ad A me) (hd : decode me.2.1 pc = .ok (pm_real (4, r, len, z, a, b, i), len)) (hs : pm_side me pc (4, r, len, z, a, b, i) = true) (ht : pm_stp (4, r, len, z, a, b, i) pc lv st h = some nx) (hW : pm_Wo D k ad A s h H locs) (hl : lv_has ls me.2.2.1 (pm_lr ad lv)) (X : pm_Sx p l e R s m args below meth c cells slots Q D k ad A me.2.2.1 nx.1 nx.2.1 nx.2.2.1 nx.2.2.2) : W p l e R s m args below meth c H locs cells slots Q (F0 m pc ls (st.map (pm_vr ad))) := by
  obtain ⟨my, bt, ml, rt, np, ow, sta⟩ := me
  obtain ⟨⟨hx, hb, hml, hown, hts⟩, hK, hE, hA, hR1, hR2⟩ := G
  simp [pm_side, pm_len] at hs
  obtain ⟨x, hg, ht⟩ := pm_gR_some ht
  cases ht
  have hv := pm_lr_at hl hg
  match r, hd, hs with
  | 0, hd, hs => obtain ⟨rfl, hs⟩ := hs; exact lv_aload_n hx hb hd (Nat.mod_eq_of_lt (by omega)) hv (X _ _ _ hW hl)
  | r + 1, hd, hs => simp at hs; subst hs; exact lv_aload hx hb hd hv (X _ _ _ hW hl)

theorem pm_o5 (G : pm_Gx p s m args c R D k ad A me) (hd : decode me.2.1 pc = .ok (pm_real (5, r, len, z, a, b, i), len)) (hs : pm_side me pc (5, r, len, z, a, b, i) = true) (ht : pm_stp (5, r, len, z, a, b, i) pc lv st h = some nx) (hW : pm_Wo D k ad A s h H locs) (hl : lv_has ls me.2.2.1 (pm_lr ad lv)) (X : pm_Sx p l e R s m args below meth c cells slots Q D k ad A me.2.2.1 nx.1 nx.2.1 nx.2.2.1 nx.2.2.2) : W p l e R s m args below meth c H locs cells slots Q (F0 m pc ls (st.map (pm_vr ad))) := by
  obtain ⟨my, bt, ml, rt, np, ow, sta⟩ := me
  obtain ⟨⟨hx, hb, hml, hown, hts⟩, hK, hE, hA, hR1, hR2⟩ := G
  simp [pm_side, pm_len] at hs
  obtain ⟨x, t, rfl, ht⟩ := pm_sI_some ht
  cases ht
  match r, hd, hs with
  | 0, hd, hs => simp at hs; obtain ⟨rfl, hs, hn⟩ := hs; exact lv_istore_n hx hb hd (Nat.mod_eq_of_lt (by omega)) hl hn rfl (fun ls' hl' => X _ _ ls' hW (by rw [pm_lr_l1]; exact hl'))
  | r + 1, hd, hs => simp at hs; obtain ⟨rfl, hn⟩ := hs; exact lv_istore hx hb hd hl hn rfl (fun ls' hl' => X _ _ ls' hW (by rw [pm_lr_l1]; exact hl'))

theorem pm_o6 (G : pm_Gx p s m args c R D k ad A me) (hd : decode me.2.1 pc = .ok (pm_real (6, r, len, z, a, b, i), len)) (hs : pm_side me pc (6, r, len, z, a, b, i) = true) (ht : pm_stp (6, r, len, z, a, b, i) pc lv st h = some nx) (hW : pm_Wo D k ad A s h H locs) (hl : lv_has ls me.2.2.1 (pm_lr ad lv)) (X : pm_Sx p l e R s m args below meth c cells slots Q D k ad A me.2.2.1 nx.1 nx.2.1 nx.2.2.1 nx.2.2.2) : W p l e R s m args below meth c H locs cells slots Q (F0 m pc ls (st.map (pm_vr ad))) := by
  obtain ⟨my, bt, ml, rt, np, ow, sta⟩ := me
  obtain ⟨⟨hx, hb, hml, hown, hts⟩, hK, hE, hA, hR1, hR2⟩ := G
  simp [pm_side, pm_len] at hs
  obtain ⟨x, t, rfl, ht⟩ := pm_sL_some ht
  cases ht
  match r, hd, hs with
  | 0, hd, hs => simp at hs; obtain ⟨rfl, hs, hn⟩ := hs; exact lv_lstore_n hx hb hd (Nat.mod_eq_of_lt (by omega)) hl hn rfl (fun ls' hl' => X _ _ ls' hW (by rw [pm_lr_l2]; exact hl'))
  | r + 1, hd, hs => simp at hs; obtain ⟨rfl, hn⟩ := hs; exact lv_lstore hx hb hd hl hn rfl (fun ls' hl' => X _ _ ls' hW (by rw [pm_lr_l2]; exact hl'))

theorem pm_o7 (G : pm_Gx p s m args c R D k ad A me) (hd : decode me.2.1 pc = .ok (pm_real (7, r, len, z, a, b, i), len)) (hs : pm_side me pc (7, r, len, z, a, b, i) = true) (ht : pm_stp (7, r, len, z, a, b, i) pc lv st h = some nx) (hW : pm_Wo D k ad A s h H locs) (hl : lv_has ls me.2.2.1 (pm_lr ad lv)) (X : pm_Sx p l e R s m args below meth c cells slots Q D k ad A me.2.2.1 nx.1 nx.2.1 nx.2.2.1 nx.2.2.2) : W p l e R s m args below meth c H locs cells slots Q (F0 m pc ls (st.map (pm_vr ad))) := by
  obtain ⟨my, bt, ml, rt, np, ow, sta⟩ := me
  obtain ⟨⟨hx, hb, hml, hown, hts⟩, hK, hE, hA, hR1, hR2⟩ := G
  simp [pm_side, pm_len] at hs
  obtain ⟨x, t, rfl, ht⟩ := pm_sR_some ht
  cases ht
  match r, hd, hs with
  | 0, hd, hs => simp at hs; obtain ⟨rfl, hs, hn⟩ := hs; exact lv_astore_n hx hb hd (Nat.mod_eq_of_lt (by omega)) hl hn rfl (fun ls' hl' => X _ _ ls' hW (by rw [pm_lr_l1]; exact hl'))
  | r + 1, hd, hs => simp at hs; obtain ⟨rfl, hn⟩ := hs; exact lv_astore hx hb hd hl hn rfl (fun ls' hl' => X _ _ ls' hW (by rw [pm_lr_l1]; exact hl'))

theorem pm_o8 (G : pm_Gx p s m args c R D k ad A me) (hd : decode me.2.1 pc = .ok (pm_real (8, r, len, z, a, b, i), len)) (hs : pm_side me pc (8, r, len, z, a, b, i) = true) (ht : pm_stp (8, r, len, z, a, b, i) pc lv st h = some nx) (hW : pm_Wo D k ad A s h H locs) (hl : lv_has ls me.2.2.1 (pm_lr ad lv)) (X : pm_Sx p l e R s m args below meth c cells slots Q D k ad A me.2.2.1 nx.1 nx.2.1 nx.2.2.1 nx.2.2.2) : W p l e R s m args below meth c H locs cells slots Q (F0 m pc ls (st.map (pm_vr ad))) := by
  obtain ⟨my, bt, ml, rt, np, ow, sta⟩ := me
  obtain ⟨⟨hx, hb, hml, hown, hts⟩, hK, hE, hA, hR1, hR2⟩ := G
  simp [pm_side, pm_len] at hs
  obtain ⟨x, hg, ht⟩ := pm_gI_some ht
  cases ht
  obtain ⟨rfl, hn⟩ := hs
  obtain ⟨j, hj⟩ := List.getElem?_of_mem (List.mem_map.mpr ⟨(a, Value.int x), pm_lg_mem hg, rfl⟩ : ((a, Value.int x) : Nat × Value) ∈ pm_lr ad lv)
  exact lv_iinc hx hb hd hl hj rfl hn rfl (fun ls' hl' => X _ _ ls' hW (by rw [pm_lr_l1]; exact hl'))

theorem pm_o9 (G : pm_Gx p s m args c R D k ad A me) (hd : decode me.2.1 pc = .ok (pm_real (9, r, len, z, a, b, i), len)) (hs : pm_side me pc (9, r, len, z, a, b, i) = true) (ht : pm_stp (9, r, len, z, a, b, i) pc lv st h = some nx) (hW : pm_Wo D k ad A s h H locs) (hl : lv_has ls me.2.2.1 (pm_lr ad lv)) (X : pm_Sx p l e R s m args below meth c cells slots Q D k ad A me.2.2.1 nx.1 nx.2.1 nx.2.2.1 nx.2.2.2) : W p l e R s m args below meth c H locs cells slots Q (F0 m pc ls (st.map (pm_vr ad))) := by
  obtain ⟨my, bt, ml, rt, np, ow, sta⟩ := me
  obtain ⟨⟨hx, hb, hml, hown, hts⟩, hK, hE, hA, hR1, hR2⟩ := G
  simp [pm_side, pm_len] at hs
  obtain ⟨y, t, rfl, hu0⟩ := pm_sI_some ht
  obtain ⟨x, u, rfl, hu⟩ := pm_sI_some hu0
  obtain ⟨rfl, hs⟩ := hs
  match b, hs, hd, hu with
  | 0, _, hd, hu => cases hu; exact lv_iadd hx hb hd (X _ _ _ hW hl)
  | 1, _, hd, hu => cases hu; exact lv_isub hx hb hd (X _ _ _ hW hl)
  | 2, _, hd, hu => cases hu; exact lv_imul hx hb hd (X _ _ _ hW hl)
  | 3, _, hd, hu => cases hu; exact lv_iand hx hb hd (X _ _ _ hW hl)
  | 4, _, hd, hu => cases hu; exact lv_ior hx hb hd (X _ _ _ hW hl)
  | 5, _, hd, hu => cases hu; exact lv_ixor hx hb hd (X _ _ _ hW hl)
  | 6, _, hd, hu => cases hu; exact lv_ishl hx hb hd (X _ _ _ hW hl)
  | 7, _, hd, hu => cases hu; exact lv_ishr hx hb hd (X _ _ _ hW hl)
  | 8, _, hd, hu =>
    by_cases hy : y = 0
    · rw [show pm_bop 8 x y = none from if_pos hy] at hu; cases hu
    · rw [show pm_bop 8 x y = some _ from if_neg hy] at hu
      cases hu; exact lv_irem hx hb hd hy (X _ _ _ hW hl)
  | 9, _, hd, hu =>
    by_cases hy : y = 0
    · rw [show pm_bop 9 x y = none from if_pos hy] at hu; cases hu
    · rw [show pm_bop 9 x y = some _ from if_neg hy] at hu
      cases hu; exact lv_idiv hx hb hd hy (X _ _ _ hW hl)
  | b + 10, hs, _, _ => exact absurd hs (by omega)

theorem pm_o10 (G : pm_Gx p s m args c R D k ad A me) (hd : decode me.2.1 pc = .ok (pm_real (10, r, len, z, a, b, i), len)) (hs : pm_side me pc (10, r, len, z, a, b, i) = true) (ht : pm_stp (10, r, len, z, a, b, i) pc lv st h = some nx) (hW : pm_Wo D k ad A s h H locs) (hl : lv_has ls me.2.2.1 (pm_lr ad lv)) (X : pm_Sx p l e R s m args below meth c cells slots Q D k ad A me.2.2.1 nx.1 nx.2.1 nx.2.2.1 nx.2.2.2) : W p l e R s m args below meth c H locs cells slots Q (F0 m pc ls (st.map (pm_vr ad))) := by
  obtain ⟨my, bt, ml, rt, np, ow, sta⟩ := me
  obtain ⟨⟨hx, hb, hml, hown, hts⟩, hK, hE, hA, hR1, hR2⟩ := G
  simp [pm_side, pm_len] at hs
  obtain ⟨x, t, rfl, hu⟩ := pm_sI_some ht
  cases hu
  subst hs
  exact lv_ineg hx hb hd (X _ _ _ hW hl)

theorem pm_o11 (G : pm_Gx p s m args c R D k ad A me) (hd : decode me.2.1 pc = .ok (pm_real (11, r, len, z, a, b, i), len)) (hs : pm_side me pc (11, r, len, z, a, b, i) = true) (ht : pm_stp (11, r, len, z, a, b, i) pc lv st h = some nx) (hW : pm_Wo D k ad A s h H locs) (hl : lv_has ls me.2.2.1 (pm_lr ad lv)) (X : pm_Sx p l e R s m args below meth c cells slots Q D k ad A me.2.2.1 nx.1 nx.2.1 nx.2.2.1 nx.2.2.2) : W p l e R s m args below meth c H locs cells slots Q (F0 m pc ls (st.map (pm_vr ad))) := by
  obtain ⟨my, bt, ml, rt, np, ow, sta⟩ := me
  obtain ⟨⟨hx, hb, hml, hown, hts⟩, hK, hE, hA, hR1, hR2⟩ := G
  simp [pm_side, pm_len] at hs
  obtain ⟨y, t, rfl, hu0⟩ := pm_sL_some ht
  obtain ⟨x, u, rfl, hu⟩ := pm_sL_some hu0
  obtain ⟨rfl, hs⟩ := hs
  match b, hs, hd, hu with
  | 0, _, hd, hu => cases hu; exact lv_ladd hx hb hd (X _ _ _ hW hl)
  | 1, _, hd, hu => cases hu; exact lv_lmul hx hb hd (X _ _ _ hW hl)
  | 2, _, hd, hu => cases hu; exact lv_land hx hb hd (X _ _ _ hW hl)
  | 3, _, hd, hu => cases hu; exact lv_lor hx hb hd (X _ _ _ hW hl)
  | b + 4, hs, _, _ => exact absurd hs (by omega)

theorem pm_o12 (G : pm_Gx p s m args c R D k ad A me) (hd : decode me.2.1 pc = .ok (pm_real (12, r, len, z, a, b, i), len)) (hs : pm_side me pc (12, r, len, z, a, b, i) = true) (ht : pm_stp (12, r, len, z, a, b, i) pc lv st h = some nx) (hW : pm_Wo D k ad A s h H locs) (hl : lv_has ls me.2.2.1 (pm_lr ad lv)) (X : pm_Sx p l e R s m args below meth c cells slots Q D k ad A me.2.2.1 nx.1 nx.2.1 nx.2.2.1 nx.2.2.2) : W p l e R s m args below meth c H locs cells slots Q (F0 m pc ls (st.map (pm_vr ad))) := by
  obtain ⟨my, bt, ml, rt, np, ow, sta⟩ := me
  obtain ⟨⟨hx, hb, hml, hown, hts⟩, hK, hE, hA, hR1, hR2⟩ := G
  simp [pm_side, pm_len] at hs
  obtain ⟨y, t, rfl, hu0⟩ := pm_sI_some ht
  obtain ⟨x, u, rfl, hu⟩ := pm_sL_some hu0
  obtain ⟨rfl, hs⟩ := hs
  match b, hs, hd, hu with
  | 0, _, hd, hu => cases hu; exact lv_lshl hx hb hd rfl (X _ _ _ hW hl)
  | 1, _, hd, hu => cases hu; exact lv_lshr hx hb hd rfl (X _ _ _ hW hl)
  | b + 2, hs, _, _ => exact absurd hs (by omega)

theorem pm_o13 (G : pm_Gx p s m args c R D k ad A me) (hd : decode me.2.1 pc = .ok (pm_real (13, r, len, z, a, b, i), len)) (hs : pm_side me pc (13, r, len, z, a, b, i) = true) (ht : pm_stp (13, r, len, z, a, b, i) pc lv st h = some nx) (hW : pm_Wo D k ad A s h H locs) (hl : lv_has ls me.2.2.1 (pm_lr ad lv)) (X : pm_Sx p l e R s m args below meth c cells slots Q D k ad A me.2.2.1 nx.1 nx.2.1 nx.2.2.1 nx.2.2.2) : W p l e R s m args below meth c H locs cells slots Q (F0 m pc ls (st.map (pm_vr ad))) := by
  obtain ⟨my, bt, ml, rt, np, ow, sta⟩ := me
  obtain ⟨⟨hx, hb, hml, hown, hts⟩, hK, hE, hA, hR1, hR2⟩ := G
  simp [pm_side, pm_len] at hs
  obtain ⟨y, t, rfl, hu0⟩ := pm_sL_some ht
  obtain ⟨x, u, rfl, hu⟩ := pm_sL_some hu0
  cases hu
  subst hs
  exact W.lcmp hx hb hd (X _ _ _ hW hl)

theorem pm_o14 (G : pm_Gx p s m args c R D k ad A me) (hd : decode me.2.1 pc = .ok (pm_real (14, r, len, z, a, b, i), len)) (hs : pm_side me pc (14, r, len, z, a, b, i) = true) (ht : pm_stp (14, r, len, z, a, b, i) pc lv st h = some nx) (hW : pm_Wo D k ad A s h H locs) (hl : lv_has ls me.2.2.1 (pm_lr ad lv)) (X : pm_Sx p l e R s m args below meth c cells slots Q D k ad A me.2.2.1 nx.1 nx.2.1 nx.2.2.1 nx.2.2.2) : W p l e R s m args below meth c H locs cells slots Q (F0 m pc ls (st.map (pm_vr ad))) := by
  obtain ⟨my, bt, ml, rt, np, ow, sta⟩ := me
  obtain ⟨⟨hx, hb, hml, hown, hts⟩, hK, hE, hA, hR1, hR2⟩ := G
  simp [pm_side, pm_len] at hs
  obtain ⟨x, t, rfl, hu⟩ := pm_sI_some ht
  cases hu
  subst hs
  exact lv_i2l hx hb hd rfl (X _ _ _ hW hl)

theorem pm_o15 (G : pm_Gx p s m args c R D k ad A me) (hd : decode me.2.1 pc = .ok (pm_real (15, r, len, z, a, b, i), len)) (hs : pm_side me pc (15, r, len, z, a, b, i) = true) (ht : pm_stp (15, r, len, z, a, b, i) pc lv st h = some nx) (hW : pm_Wo D k ad A s h H locs) (hl : lv_has ls me.2.2.1 (pm_lr ad lv)) (X : pm_Sx p l e R s m args below meth c cells slots Q D k ad A me.2.2.1 nx.1 nx.2.1 nx.2.2.1 nx.2.2.2) : W p l e R s m args below meth c H locs cells slots Q (F0 m pc ls (st.map (pm_vr ad))) := by
  obtain ⟨my, bt, ml, rt, np, ow, sta⟩ := me
  obtain ⟨⟨hx, hb, hml, hown, hts⟩, hK, hE, hA, hR1, hR2⟩ := G
  simp [pm_side, pm_len] at hs
  obtain ⟨x, t, rfl, hu⟩ := pm_sL_some ht
  cases hu
  subst hs
  exact lv_l2i hx hb hd rfl (X _ _ _ hW hl)

theorem pm_o16 (G : pm_Gx p s m args c R D k ad A me) (hd : decode me.2.1 pc = .ok (pm_real (16, r, len, z, a, b, i), len)) (hs : pm_side me pc (16, r, len, z, a, b, i) = true) (ht : pm_stp (16, r, len, z, a, b, i) pc lv st h = some nx) (hW : pm_Wo D k ad A s h H locs) (hl : lv_has ls me.2.2.1 (pm_lr ad lv)) (X : pm_Sx p l e R s m args below meth c cells slots Q D k ad A me.2.2.1 nx.1 nx.2.1 nx.2.2.1 nx.2.2.2) : W p l e R s m args below meth c H locs cells slots Q (F0 m pc ls (st.map (pm_vr ad))) := by
  obtain ⟨my, bt, ml, rt, np, ow, sta⟩ := me
  obtain ⟨⟨hx, hb, hml, hown, hts⟩, hK, hE, hA, hR1, hR2⟩ := G
  simp [pm_side, pm_len] at hs
  obtain ⟨x, t, rfl, hu⟩ := pm_sI_some ht
  cases hu
  subst hs
  exact lv_i2b hx hb hd rfl (X _ _ _ hW hl)

theorem pm_o17 (G : pm_Gx p s m args c R D k ad A me) (hd : decode me.2.1 pc = .ok (pm_real (17, r, len, z, a, b, i), len)) (hs : pm_side me pc (17, r, len, z, a, b, i) = true) (ht : pm_stp (17, r, len, z, a, b, i) pc lv st h = some nx) (hW : pm_Wo D k ad A s h H locs) (hl : lv_has ls me.2.2.1 (pm_lr ad lv)) (X : pm_Sx p l e R s m args below meth c cells slots Q D k ad A me.2.2.1 nx.1 nx.2.1 nx.2.2.1 nx.2.2.2) : W p l e R s m args below meth c H locs cells slots Q (F0 m pc ls (st.map (pm_vr ad))) := by
  obtain ⟨my, bt, ml, rt, np, ow, sta⟩ := me
  obtain ⟨⟨hx, hb, hml, hown, hts⟩, hK, hE, hA, hR1, hR2⟩ := G
  simp [pm_side, pm_len] at hs
  obtain ⟨v, t, rfl, hc, ht⟩ := pm_s1_some ht
  cases ht
  subst hs
  exact lv_dup hx hb hd ((pm_vr_cat ad v).trans hc) (X _ _ _ hW hl)

theorem pm_o18 (G : pm_Gx p s m args c R D k ad A me) (hd : decode me.2.1 pc = .ok (pm_real (18, r, len, z, a, b, i), len)) (hs : pm_side me pc (18, r, len, z, a, b, i) = true) (ht : pm_stp (18, r, len, z, a, b, i) pc lv st h = some nx) (hW : pm_Wo D k ad A s h H locs) (hl : lv_has ls me.2.2.1 (pm_lr ad lv)) (X : pm_Sx p l e R s m args below meth c cells slots Q D k ad A me.2.2.1 nx.1 nx.2.1 nx.2.2.1 nx.2.2.2) : W p l e R s m args below meth c H locs cells slots Q (F0 m pc ls (st.map (pm_vr ad))) := by
  obtain ⟨my, bt, ml, rt, np, ow, sta⟩ := me
  obtain ⟨⟨hx, hb, hml, hown, hts⟩, hK, hE, hA, hR1, hR2⟩ := G
  simp [pm_side, pm_len] at hs
  obtain ⟨v, t, rfl, hc, ht⟩ := pm_s1_some ht
  cases ht
  subst hs
  exact lv_pop hx hb hd ((pm_vr_cat ad v).trans hc) (X _ _ _ hW hl)

theorem pm_o19 (G : pm_Gx p s m args c R D k ad A me) (hd : decode me.2.1 pc = .ok (pm_real (19, r, len, z, a, b, i), len)) (hs : pm_side me pc (19, r, len, z, a, b, i) = true) (ht : pm_stp (19, r, len, z, a, b, i) pc lv st h = some nx) (hW : pm_Wo D k ad A s h H locs) (hl : lv_has ls me.2.2.1 (pm_lr ad lv)) (X : pm_Sx p l e R s m args below meth c cells slots Q D k ad A me.2.2.1 nx.1 nx.2.1 nx.2.2.1 nx.2.2.2) : W p l e R s m args below meth c H locs cells slots Q (F0 m pc ls (st.map (pm_vr ad))) := by
  obtain ⟨my, bt, ml, rt, np, ow, sta⟩ := me
  obtain ⟨⟨hx, hb, hml, hown, hts⟩, hK, hE, hA, hR1, hR2⟩ := G
  simp [pm_side, pm_len] at hs
  obtain ⟨v, t, rfl, hc, ht⟩ := pm_s1_some ht
  obtain ⟨w, u, rfl, hc2, ht⟩ := pm_s1_some ht
  cases ht
  subst hs
  exact lv_dup2_11 hx hb hd ((pm_vr_cat ad v).trans hc) ((pm_vr_cat ad w).trans hc2) (X _ _ _ hW hl)

theorem pm_o20 (G : pm_Gx p s m args c R D k ad A me) (hd : decode me.2.1 pc = .ok (pm_real (20, r, len, z, a, b, i), len)) (hs : pm_side me pc (20, r, len, z, a, b, i) = true) (ht : pm_stp (20, r, len, z, a, b, i) pc lv st h = some nx) (hW : pm_Wo D k ad A s h H locs) (hl : lv_has ls me.2.2.1 (pm_lr ad lv)) (X : pm_Sx p l e R s m args below meth c cells slots Q D k ad A me.2.2.1 nx.1 nx.2.1 nx.2.2.1 nx.2.2.2) : W p l e R s m args below meth c H locs cells slots Q (F0 m pc ls (st.map (pm_vr ad))) := by
  obtain ⟨my, bt, ml, rt, np, ow, sta⟩ := me
  obtain ⟨⟨hx, hb, hml, hown, hts⟩, hK, hE, hA, hR1, hR2⟩ := G
  simp [pm_side, pm_len] at hs
  cases ht
  obtain ⟨rfl, hz⟩ := hs
  exact lv_goto hx hb hd hz (X _ _ _ hW hl)

theorem pm_o21 (G : pm_Gx p s m args c R D k ad A me) (hd : decode me.2.1 pc = .ok (pm_real (21, r, len, z, a, b, i), len)) (hs : pm_side me pc (21, r, len, z, a, b, i) = true) (ht : pm_stp (21, r, len, z, a, b, i) pc lv st h = some nx) (hW : pm_Wo D k ad A s h H locs) (hl : lv_has ls me.2.2.1 (pm_lr ad lv)) (X : pm_Sx p l e R s m args below meth c cells slots Q D k ad A me.2.2.1 nx.1 nx.2.1 nx.2.2.1 nx.2.2.2) : W p l e R s m args below meth c H locs cells slots Q (F0 m pc ls (st.map (pm_vr ad))) := by
  obtain ⟨my, bt, ml, rt, np, ow, sta⟩ := me
  obtain ⟨⟨hx, hb, hml, hown, hts⟩, hK, hE, hA, hR1, hR2⟩ := G
  simp [pm_side, pm_len] at hs
  obtain ⟨x, t, rfl, hu⟩ := pm_sI_some ht
  obtain ⟨rfl, hz, hs⟩ := hs
  match b, hs, hd, hu with
  | 0, _, hd, hu => cases hu; exact lv_if_eq hx hb hd hz (fun c1 => by have y1 := X _ _ _ hW hl; dsimp only at y1; rw [if_pos (decide_eq_true c1)] at y1; exact y1) (fun c1 => by have y1 := X _ _ _ hW hl; dsimp only at y1; rw [if_neg (fun q => c1 (of_decide_eq_true q))] at y1; exact y1)
  | 1, _, hd, hu => cases hu; exact lv_if_ne hx hb hd hz (fun c1 => by have y1 := X _ _ _ hW hl; dsimp only at y1; rw [if_pos (decide_eq_true c1)] at y1; exact y1) (fun c1 => by have y1 := X _ _ _ hW hl; dsimp only at y1; rw [if_neg (by simp [c1])] at y1; exact y1)
  | 2, _, hd, hu => cases hu; exact lv_if_lt hx hb hd hz (fun c1 => by have y1 := X _ _ _ hW hl; dsimp only at y1; rw [if_pos (decide_eq_true c1)] at y1; exact y1) (fun c1 => by have y1 := X _ _ _ hW hl; dsimp only at y1; rw [if_neg (fun q => c1 (of_decide_eq_true q))] at y1; exact y1)
  | 3, _, hd, hu => cases hu; exact lv_if_ge hx hb hd hz (fun c1 => by have y1 := X _ _ _ hW hl; dsimp only at y1; rw [if_pos (decide_eq_true c1)] at y1; exact y1) (fun c1 => by have y1 := X _ _ _ hW hl; dsimp only at y1; rw [if_neg (fun q => c1 (of_decide_eq_true q))] at y1; exact y1)
  | 4, _, hd, hu => cases hu; exact lv_if_gt hx hb hd hz (fun c1 => by have y1 := X _ _ _ hW hl; dsimp only at y1; rw [if_pos (decide_eq_true c1)] at y1; exact y1) (fun c1 => by have y1 := X _ _ _ hW hl; dsimp only at y1; rw [if_neg (fun q => c1 (of_decide_eq_true q))] at y1; exact y1)
  | 5, _, hd, hu => cases hu; exact lv_if_le hx hb hd hz (fun c1 => by have y1 := X _ _ _ hW hl; dsimp only at y1; rw [if_pos (decide_eq_true c1)] at y1; exact y1) (fun c1 => by have y1 := X _ _ _ hW hl; dsimp only at y1; rw [if_neg (fun q => c1 (of_decide_eq_true q))] at y1; exact y1)
  | b + 6, hs, _, _ => exact absurd hs (by omega)

theorem pm_o22 (G : pm_Gx p s m args c R D k ad A me) (hd : decode me.2.1 pc = .ok (pm_real (22, r, len, z, a, b, i), len)) (hs : pm_side me pc (22, r, len, z, a, b, i) = true) (ht : pm_stp (22, r, len, z, a, b, i) pc lv st h = some nx) (hW : pm_Wo D k ad A s h H locs) (hl : lv_has ls me.2.2.1 (pm_lr ad lv)) (X : pm_Sx p l e R s m args below meth c cells slots Q D k ad A me.2.2.1 nx.1 nx.2.1 nx.2.2.1 nx.2.2.2) : W p l e R s m args below meth c H locs cells slots Q (F0 m pc ls (st.map (pm_vr ad))) := by
  obtain ⟨my, bt, ml, rt, np, ow, sta⟩ := me
  obtain ⟨⟨hx, hb, hml, hown, hts⟩, hK, hE, hA, hR1, hR2⟩ := G
  simp [pm_side, pm_len] at hs
  obtain ⟨y, t, rfl, hu0⟩ := pm_sI_some ht
  obtain ⟨x, u, rfl, hu⟩ := pm_sI_some hu0
  obtain ⟨rfl, hz, hs⟩ := hs
  match b, hs, hd, hu with
  | 0, _, hd, hu => cases hu; exact lv_icmp_eq hx hb hd hz (fun c1 => by have y1 := X _ _ _ hW hl; dsimp only at y1; rw [if_pos (decide_eq_true c1)] at y1; exact y1) (fun c1 => by have y1 := X _ _ _ hW hl; dsimp only at y1; rw [if_neg (fun q => c1 (of_decide_eq_true q))] at y1; exact y1)
  | 1, _, hd, hu => cases hu; exact lv_icmp_ne hx hb hd hz (fun c1 => by have y1 := X _ _ _ hW hl; dsimp only at y1; rw [if_pos (decide_eq_true c1)] at y1; exact y1) (fun c1 => by have y1 := X _ _ _ hW hl; dsimp only at y1; rw [if_neg (by simp [c1])] at y1; exact y1)
  | 2, _, hd, hu => cases hu; exact lv_icmp_lt hx hb hd hz (fun c1 => by have y1 := X _ _ _ hW hl; dsimp only at y1; rw [if_pos (decide_eq_true c1)] at y1; exact y1) (fun c1 => by have y1 := X _ _ _ hW hl; dsimp only at y1; rw [if_neg (fun q => c1 (of_decide_eq_true q))] at y1; exact y1)
  | 3, _, hd, hu => cases hu; exact lv_icmp_ge hx hb hd hz (fun c1 => by have y1 := X _ _ _ hW hl; dsimp only at y1; rw [if_pos (decide_eq_true c1)] at y1; exact y1) (fun c1 => by have y1 := X _ _ _ hW hl; dsimp only at y1; rw [if_neg (fun q => c1 (of_decide_eq_true q))] at y1; exact y1)
  | 4, _, hd, hu => cases hu; exact lv_icmp_gt hx hb hd hz (fun c1 => by have y1 := X _ _ _ hW hl; dsimp only at y1; rw [if_pos (decide_eq_true c1)] at y1; exact y1) (fun c1 => by have y1 := X _ _ _ hW hl; dsimp only at y1; rw [if_neg (fun q => c1 (of_decide_eq_true q))] at y1; exact y1)
  | 5, _, hd, hu => cases hu; exact lv_icmp_le hx hb hd hz (fun c1 => by have y1 := X _ _ _ hW hl; dsimp only at y1; rw [if_pos (decide_eq_true c1)] at y1; exact y1) (fun c1 => by have y1 := X _ _ _ hW hl; dsimp only at y1; rw [if_neg (fun q => c1 (of_decide_eq_true q))] at y1; exact y1)
  | b + 6, hs, _, _ => exact absurd hs (by omega)

theorem pm_o23 (G : pm_Gx p s m args c R D k ad A me) (hd : decode me.2.1 pc = .ok (pm_real (23, r, len, z, a, b, i), len)) (hs : pm_side me pc (23, r, len, z, a, b, i) = true) (ht : pm_stp (23, r, len, z, a, b, i) pc lv st h = some nx) (hW : pm_Wo D k ad A s h H locs) (hl : lv_has ls me.2.2.1 (pm_lr ad lv)) (X : pm_Sx p l e R s m args below meth c cells slots Q D k ad A me.2.2.1 nx.1 nx.2.1 nx.2.2.1 nx.2.2.2) : W p l e R s m args below meth c H locs cells slots Q (F0 m pc ls (st.map (pm_vr ad))) := by
  obtain ⟨my, bt, ml, rt, np, ow, sta⟩ := me
  obtain ⟨⟨hx, hb, hml, hown, hts⟩, hK, hE, hA, hR1, hR2⟩ := G
  simp [pm_side, pm_len] at hs
  obtain ⟨x, t, rfl, hu⟩ := pm_sI_some ht
  cases hg : pm_sw a pc x with
  | none => rw [hg] at hu; cases hu
  | some g =>
    rw [hg] at hu
    cases hu
    unfold pm_sw at hg
    cases hw : pm_SW[a]? with
    | none => rw [hw] at hg; cases hg
    | some q =>
      obtain ⟨d, lo, hi, offs, p0⟩ := q
      rw [hw] at hg
      have hd' : decode bt pc = .ok (.tableswitch d lo hi offs.toArray, len) := by
        rw [show decode bt pc = _ from hd]; simp only [pm_real, hw]
      have hgo : ∀ o : Int, pm_go pc o = some g → (pc : Int) + o = (g : Int) := by
        intro o ho
        unfold pm_go at ho
        split at ho
        · cases ho; omega
        · cases ho
      dsimp only at hg
      split at hg
      · rename_i hc
        exact lv_tableOut hx hb hd' hc (hgo _ hg) (X _ _ _ hW hl)
      · rename_i hc
        cases ho : offs[(x.toInt - lo).toNat]? with
        | none => rw [ho] at hg; cases hg
        | some o =>
          rw [ho] at hg
          exact lv_tableIn hx hb hd' (fun q => hc (Or.inl q)) (fun q => hc (Or.inr q)) (by rw [List.getElem?_toArray]; exact ho) (hgo o hg) (X _ _ _ hW hl)

end
end
section
section
variable {p : Program} {l : Launch} {e : Env} {R : Room} {s : State} {m : MethodId} {args : Array Value} {below : List Frame} {meth : Method} {c : Code} {H : Heap} {locs : List Loc} {cells slots : Nat} {Q : State → Prop} {D : va_G} {k : pm_cK} {ad : Nat → Nat} {A : Nat → Prop} {me : pm_Me} {pc : Nat} {lv : pm_Lv} {st : List Value} {h : pm_Hp} {nx : pm_Nx} {ls : Array Slot} {r len a b i : Nat} {z : Int}

theorem pm_o24 (G : pm_Gx p s m args c R D k ad A me) (hd : decode me.2.1 pc = .ok (pm_real (24, r, len, z, a, b, i), len)) (hs : pm_side me pc (24, r, len, z, a, b, i) = true) (ht : pm_stp (24, r, len, z, a, b, i) pc lv st h = some nx) (hW : pm_Wo D k ad A s h H locs) (hl : lv_has ls me.2.2.1 (pm_lr ad lv)) (X : pm_Sx p l e R s m args below meth c cells slots Q D k ad A me.2.2.1 nx.1 nx.2.1 nx.2.2.1 nx.2.2.2) : W p l e R s m args below meth c H locs cells slots Q (F0 m pc ls (st.map (pm_vr ad))) := by
  obtain ⟨my, bt, ml, rt, np, ow, sta⟩ := me
  obtain ⟨⟨hx, hb, hml, hown, hts⟩, hK, hE, hA, hR1, hR2⟩ := G
  obtain ⟨q, t, rfl, hu⟩ := pm_sR_some ht
  by_cases hk0 : pm_fk q b a = some 0 ∨ pm_fk q b a = some 4
  · rw [if_pos hk0] at hu
    cases hu
    obtain ⟨kd, hkd, hkv⟩ : ∃ kd, pm_fk q b a = some kd ∧ ∀ z, pm_vK ad kd z = .int (Int32.ofInt z) := by
      rcases hk0 with e1 | e1
      · exact ⟨0, e1, fun _ => rfl⟩
      · exact ⟨4, e1, fun _ => rfl⟩
    obtain ⟨ks, hS, hka, hkt, haN, hb12, hlen⟩ := pm_fk_some hkd
    have he := pm_Wd_at k ad h hS (by decide : (0 : Nat) ≠ 6)
    have hv : (pm_mF ad (h q) 0 ks)[a]? = some (pm_vK ad kd (h q a)) := by rw [pm_mF_get, hka, Nat.zero_add]; rfl
    rw [hkv] at hv
    match r, hd, hs with
    | 0, hd, hs =>
      simp [pm_side, pm_len] at hs
      obtain ⟨rfl, h3⟩ := hs
      have hm := h3.1.1
      exact va_get hx hb hts (pm_inU b hb12) hown hK hW.1 q he (pm_cl b hb12) a haN (hts _ (pm_inG (pm_FL_ok (ow, i, b, a) hm) rfl)) (fun x1 h1 => by rw [← pm_T1 b hb12 a]; exact h1) hv hd (X _ _ _ hW hl)
    | r + 1, hd, hs =>
      simp [pm_side, pm_len] at hs
      obtain ⟨rfl, rfl, rfl, rfl, rfl⟩ := hs
      exact va_getN hx hb hts (pm_inU 9 hb12) hown hK hW.1 q he (pm_cl 9 hb12) 6 haN (va_tabs rfl rfl hE.2.2.1) (fun x1 h1 => h1) hv hd (X _ _ _ hW hl)
  · rw [if_neg hk0] at hu; cases hu

theorem pm_o25 (G : pm_Gx p s m args c R D k ad A me) (hd : decode me.2.1 pc = .ok (pm_real (25, r, len, z, a, b, i), len)) (hs : pm_side me pc (25, r, len, z, a, b, i) = true) (ht : pm_stp (25, r, len, z, a, b, i) pc lv st h = some nx) (hW : pm_Wo D k ad A s h H locs) (hl : lv_has ls me.2.2.1 (pm_lr ad lv)) (X : pm_Sx p l e R s m args below meth c cells slots Q D k ad A me.2.2.1 nx.1 nx.2.1 nx.2.2.1 nx.2.2.2) : W p l e R s m args below meth c H locs cells slots Q (F0 m pc ls (st.map (pm_vr ad))) := by
  obtain ⟨my, bt, ml, rt, np, ow, sta⟩ := me
  obtain ⟨⟨hx, hb, hml, hown, hts⟩, hK, hE, hA, hR1, hR2⟩ := G
  obtain ⟨q, t, rfl, hu⟩ := pm_sR_some ht
  by_cases hk0 : pm_fk q b a = some 1
  · rw [if_pos hk0] at hu
    cases hu
    obtain ⟨kd, hkd, hkv⟩ : ∃ kd, pm_fk q b a = some kd ∧ ∀ z, pm_vK ad kd z = .long (Int64.ofInt z) := by
      exact ⟨1, hk0, fun _ => rfl⟩
    obtain ⟨ks, hS, hka, hkt, haN, hb12, hlen⟩ := pm_fk_some hkd
    have he := pm_Wd_at k ad h hS (by decide : (0 : Nat) ≠ 6)
    have hv : (pm_mF ad (h q) 0 ks)[a]? = some (pm_vK ad kd (h q a)) := by rw [pm_mF_get, hka, Nat.zero_add]; rfl
    rw [hkv] at hv
    simp [pm_side, pm_len] at hs
    obtain ⟨rfl, h3⟩ := hs
    have hm := h3.1.1.2
    exact va_get hx hb hts (pm_inU b hb12) hown hK hW.1 q he (pm_cl b hb12) a haN (hts _ (pm_inG (pm_FL_ok (ow, i, b, a) hm) rfl)) (fun x1 h1 => by rw [← pm_T1 b hb12 a]; exact h1) hv hd (X _ _ _ hW hl)
  · rw [if_neg hk0] at hu; cases hu

theorem pm_o26 (G : pm_Gx p s m args c R D k ad A me) (hd : decode me.2.1 pc = .ok (pm_real (26, r, len, z, a, b, i), len)) (hs : pm_side me pc (26, r, len, z, a, b, i) = true) (ht : pm_stp (26, r, len, z, a, b, i) pc lv st h = some nx) (hW : pm_Wo D k ad A s h H locs) (hl : lv_has ls me.2.2.1 (pm_lr ad lv)) (X : pm_Sx p l e R s m args below meth c cells slots Q D k ad A me.2.2.1 nx.1 nx.2.1 nx.2.2.1 nx.2.2.2) : W p l e R s m args below meth c H locs cells slots Q (F0 m pc ls (st.map (pm_vr ad))) := by
  obtain ⟨my, bt, ml, rt, np, ow, sta⟩ := me
  obtain ⟨⟨hx, hb, hml, hown, hts⟩, hK, hE, hA, hR1, hR2⟩ := G
  obtain ⟨q, t, rfl, hu⟩ := pm_sR_some ht
  by_cases hk0 : pm_fk q b a = some 2
  · rw [if_pos hk0] at hu
    cases hu
    obtain ⟨kd, hkd, hkv⟩ : ∃ kd, pm_fk q b a = some kd ∧ ∀ z, pm_vK ad kd z = .ref (ad z.toNat) := by
      exact ⟨2, hk0, fun _ => rfl⟩
    obtain ⟨ks, hS, hka, hkt, haN, hb12, hlen⟩ := pm_fk_some hkd
    have he := pm_Wd_at k ad h hS (by decide : (0 : Nat) ≠ 6)
    have hv : (pm_mF ad (h q) 0 ks)[a]? = some (pm_vK ad kd (h q a)) := by rw [pm_mF_get, hka, Nat.zero_add]; rfl
    rw [hkv] at hv
    simp [pm_side, pm_len] at hs
    obtain ⟨rfl, h3⟩ := hs
    have hm := h3.1.1.2
    exact va_get hx hb hts (pm_inU b hb12) hown hK hW.1 q he (pm_cl b hb12) a haN (hts _ (pm_inG (pm_FL_ok (ow, i, b, a) hm) rfl)) (fun x1 h1 => by rw [← pm_T1 b hb12 a]; exact h1) hv hd (X _ _ _ hW hl)
  · rw [if_neg hk0] at hu; cases hu

theorem pm_o27 (G : pm_Gx p s m args c R D k ad A me) (hd : decode me.2.1 pc = .ok (pm_real (27, r, len, z, a, b, i), len)) (hs : pm_side me pc (27, r, len, z, a, b, i) = true) (ht : pm_stp (27, r, len, z, a, b, i) pc lv st h = some nx) (hW : pm_Wo D k ad A s h H locs) (hl : lv_has ls me.2.2.1 (pm_lr ad lv)) (X : pm_Sx p l e R s m args below meth c cells slots Q D k ad A me.2.2.1 nx.1 nx.2.1 nx.2.2.1 nx.2.2.2) : W p l e R s m args below meth c H locs cells slots Q (F0 m pc ls (st.map (pm_vr ad))) := by
  obtain ⟨my, bt, ml, rt, np, ow, sta⟩ := me
  obtain ⟨⟨hx, hb, hml, hown, hts⟩, hK, hE, hA, hR1, hR2⟩ := G
  obtain ⟨x, t, rfl, hu0⟩ := pm_sI_some ht
  obtain ⟨q, u, rfl, hu⟩ := pm_sR_some hu0
  by_cases hk0 : pm_fk q b a = some 0 ∨ (pm_fk q b a = some 4 ∧ (x = 0 ∨ x = 1))
  · rw [if_pos hk0] at hu
    cases hu
    obtain ⟨kd, hkd, hkv, hty⟩ : ∃ kd, pm_fk q b a = some kd ∧ Value.int x = pm_vK ad kd x.toInt ∧ ∀ ty, pm_kt kd ty = true → narrow ty (Value.int x) = Value.int x ∧ fits ty (Value.int x) = true := by
      rcases hk0 with e1 | ⟨e1, e2⟩
      · exact ⟨0, e1, by show _ = Value.int _; rw [pm_oi], fun ty h1 => by cases ty <;> first | exact ⟨rfl, rfl⟩ | cases h1⟩
      · exact ⟨4, e1, by show _ = Value.int _; rw [pm_oi], fun ty h1 => by cases ty <;> first | (rcases e2 with rfl | rfl <;> exact ⟨by decide +kernel, by decide +kernel⟩) | cases h1⟩
    obtain ⟨ks, hS, hka, hkt, haN, hb12, hlen⟩ := pm_fk_some hkd
    have he := pm_Wd_at k ad h hS (by decide : (0 : Nat) ≠ 6)
    have hset : (pm_Wd k ad h).set q (ad q, .inr (b, (pm_mF ad (h q) 0 ks).set a (Value.int x))) = pm_Wd k ad (pm_up h q a x.toInt) := by
      refine pm_Wd_set k ad hS (by decide : (0 : Nat) ≠ 6) ?_ (fun c1 hc => pm_up_nc _ _ _ _ _ hc)
      show _ = (ad q, Sum.inr (b, pm_mF ad (pm_up h q a x.toInt q) 0 ks))
      rw [pm_mF_set ad hka (by rw [pm_up_at]; exact hkv) (fun j hj => pm_up_nj _ _ _ _ _ hj)]
    obtain ⟨hn, hf⟩ := hty _ hkt
    simp [pm_side, pm_len] at hs
    obtain ⟨rfl, h3, hfin⟩ := hs
    have hm := h3.1.1.2
    exact va_put hx hb hts (pm_inU b hb12) (pm_tf b) (pm_tf_ok b hb12) (pm_nm b hb12) hown hK hW.1 hW.2.1 hW.2.2 q he (pm_cl b hb12) a haN (hts _ (pm_inG (pm_FL_ok (ow, i, b, a) hm) rfl)) (fun x1 h1 => by rw [← pm_T1 b hb12 a]; exact h1) hfin (pm_tf_ok b hb12 a haN) hn hf (by rw [pm_mF_len, hlen]; exact haN) hd (fun H1 locs1 hP1 hD1 hS1 => X _ _ _ ⟨by rw [← hset]; exact hP1, by rw [← hset]; exact hD1, hS1⟩ hl)
  · rw [if_neg hk0] at hu; cases hu

theorem pm_o28 (G : pm_Gx p s m args c R D k ad A me) (hd : decode me.2.1 pc = .ok (pm_real (28, r, len, z, a, b, i), len)) (hs : pm_side me pc (28, r, len, z, a, b, i) = true) (ht : pm_stp (28, r, len, z, a, b, i) pc lv st h = some nx) (hW : pm_Wo D k ad A s h H locs) (hl : lv_has ls me.2.2.1 (pm_lr ad lv)) (X : pm_Sx p l e R s m args below meth c cells slots Q D k ad A me.2.2.1 nx.1 nx.2.1 nx.2.2.1 nx.2.2.2) : W p l e R s m args below meth c H locs cells slots Q (F0 m pc ls (st.map (pm_vr ad))) := by
  obtain ⟨my, bt, ml, rt, np, ow, sta⟩ := me
  obtain ⟨⟨hx, hb, hml, hown, hts⟩, hK, hE, hA, hR1, hR2⟩ := G
  obtain ⟨x, t, rfl, hu0⟩ := pm_sL_some ht
  obtain ⟨q, u, rfl, hu⟩ := pm_sR_some hu0
  by_cases hk0 : pm_fk q b a = some 1
  · rw [if_pos hk0] at hu
    cases hu
    obtain ⟨kd, hkd, hkv, hty⟩ : ∃ kd, pm_fk q b a = some kd ∧ Value.long x = pm_vK ad kd x.toInt ∧ ∀ ty, pm_kt kd ty = true → narrow ty (Value.long x) = Value.long x ∧ fits ty (Value.long x) = true := by
      exact ⟨1, hk0, by show _ = Value.long _; rw [pm_ol], fun ty h1 => by cases ty <;> first | exact ⟨rfl, rfl⟩ | cases h1⟩
    obtain ⟨ks, hS, hka, hkt, haN, hb12, hlen⟩ := pm_fk_some hkd
    have he := pm_Wd_at k ad h hS (by decide : (0 : Nat) ≠ 6)
    have hset : (pm_Wd k ad h).set q (ad q, .inr (b, (pm_mF ad (h q) 0 ks).set a (Value.long x))) = pm_Wd k ad (pm_up h q a x.toInt) := by
      refine pm_Wd_set k ad hS (by decide : (0 : Nat) ≠ 6) ?_ (fun c1 hc => pm_up_nc _ _ _ _ _ hc)
      show _ = (ad q, Sum.inr (b, pm_mF ad (pm_up h q a x.toInt q) 0 ks))
      rw [pm_mF_set ad hka (by rw [pm_up_at]; exact hkv) (fun j hj => pm_up_nj _ _ _ _ _ hj)]
    obtain ⟨hn, hf⟩ := hty _ hkt
    simp [pm_side, pm_len] at hs
    obtain ⟨rfl, h3, hfin⟩ := hs
    have hm := h3.1.1.2
    exact va_put hx hb hts (pm_inU b hb12) (pm_tf b) (pm_tf_ok b hb12) (pm_nm b hb12) hown hK hW.1 hW.2.1 hW.2.2 q he (pm_cl b hb12) a haN (hts _ (pm_inG (pm_FL_ok (ow, i, b, a) hm) rfl)) (fun x1 h1 => by rw [← pm_T1 b hb12 a]; exact h1) hfin (pm_tf_ok b hb12 a haN) hn hf (by rw [pm_mF_len, hlen]; exact haN) hd (fun H1 locs1 hP1 hD1 hS1 => X _ _ _ ⟨by rw [← hset]; exact hP1, by rw [← hset]; exact hD1, hS1⟩ hl)
  · rw [if_neg hk0] at hu; cases hu

theorem pm_o29 (G : pm_Gx p s m args c R D k ad A me) (hd : decode me.2.1 pc = .ok (pm_real (29, r, len, z, a, b, i), len)) (hs : pm_side me pc (29, r, len, z, a, b, i) = true) (ht : pm_stp (29, r, len, z, a, b, i) pc lv st h = some nx) (hW : pm_Wo D k ad A s h H locs) (hl : lv_has ls me.2.2.1 (pm_lr ad lv)) (X : pm_Sx p l e R s m args below meth c cells slots Q D k ad A me.2.2.1 nx.1 nx.2.1 nx.2.2.1 nx.2.2.2) : W p l e R s m args below meth c H locs cells slots Q (F0 m pc ls (st.map (pm_vr ad))) := by
  obtain ⟨my, bt, ml, rt, np, ow, sta⟩ := me
  obtain ⟨⟨hx, hb, hml, hown, hts⟩, hK, hE, hA, hR1, hR2⟩ := G
  obtain ⟨x, t, rfl, hu0⟩ := pm_sR_some ht
  obtain ⟨q, u, rfl, hu⟩ := pm_sR_some hu0
  by_cases hk0 : pm_fk q b a = some 2
  · rw [if_pos hk0] at hu
    cases hu
    obtain ⟨kd, hkd, hkv, hty⟩ : ∃ kd, pm_fk q b a = some kd ∧ Value.ref (ad x) = pm_vK ad kd (x : Int) ∧ ∀ ty, pm_kt kd ty = true → narrow ty (Value.ref (ad x)) = Value.ref (ad x) ∧ fits ty (Value.ref (ad x)) = true := by
      exact ⟨2, hk0, by show _ = Value.ref (ad ((x : Int).toNat)); rw [Int.toNat_natCast], fun ty h1 => by cases ty <;> first | exact ⟨rfl, rfl⟩ | cases h1⟩
    obtain ⟨ks, hS, hka, hkt, haN, hb12, hlen⟩ := pm_fk_some hkd
    have he := pm_Wd_at k ad h hS (by decide : (0 : Nat) ≠ 6)
    have hset : (pm_Wd k ad h).set q (ad q, .inr (b, (pm_mF ad (h q) 0 ks).set a (Value.ref (ad x)))) = pm_Wd k ad (pm_up h q a (x : Int)) := by
      refine pm_Wd_set k ad hS (by decide : (0 : Nat) ≠ 6) ?_ (fun c1 hc => pm_up_nc _ _ _ _ _ hc)
      show _ = (ad q, Sum.inr (b, pm_mF ad (pm_up h q a (x : Int) q) 0 ks))
      rw [pm_mF_set ad hka (by rw [pm_up_at]; exact hkv) (fun j hj => pm_up_nj _ _ _ _ _ hj)]
    obtain ⟨hn, hf⟩ := hty _ hkt
    simp [pm_side, pm_len] at hs
    obtain ⟨rfl, h3, hfin⟩ := hs
    have hm := h3.1.1.2
    exact va_put hx hb hts (pm_inU b hb12) (pm_tf b) (pm_tf_ok b hb12) (pm_nm b hb12) hown hK hW.1 hW.2.1 hW.2.2 q he (pm_cl b hb12) a haN (hts _ (pm_inG (pm_FL_ok (ow, i, b, a) hm) rfl)) (fun x1 h1 => by rw [← pm_T1 b hb12 a]; exact h1) hfin (pm_tf_ok b hb12 a haN) hn hf (by rw [pm_mF_len, hlen]; exact haN) hd (fun H1 locs1 hP1 hD1 hS1 => X _ _ _ ⟨by rw [← hset]; exact hP1, by rw [← hset]; exact hD1, hS1⟩ hl)
  · rw [if_neg hk0] at hu; cases hu

theorem pm_o30 (G : pm_Gx p s m args c R D k ad A me) (hd : decode me.2.1 pc = .ok (pm_real (30, r, len, z, a, b, i), len)) (hs : pm_side me pc (30, r, len, z, a, b, i) = true) (ht : pm_stp (30, r, len, z, a, b, i) pc lv st h = some nx) (hW : pm_Wo D k ad A s h H locs) (hl : lv_has ls me.2.2.1 (pm_lr ad lv)) (X : pm_Sx p l e R s m args below meth c cells slots Q D k ad A me.2.2.1 nx.1 nx.2.1 nx.2.2.1 nx.2.2.2) : W p l e R s m args below meth c H locs cells slots Q (F0 m pc ls (st.map (pm_vr ad))) := by
  obtain ⟨my, bt, ml, rt, np, ow, sta⟩ := me
  obtain ⟨⟨hx, hb, hml, hown, hts⟩, hK, hE, hA, hR1, hR2⟩ := G
  cases ht
  match r, hd, hs with
  | 0, hd, hs =>
    simp [pm_side, pm_len] at hs
    obtain ⟨rfl, rfl, rfl⟩ := hs
    exact va_gets hx hb hE.1 hW.2.2 hown (hts _ (pm_inG pm_gs0 rfl)) (fun x1 h1 => h1) hd (X _ _ _ hW hl)
  | r + 1, hd, hs =>
    simp [pm_side, pm_len] at hs
    obtain ⟨rfl, rfl, rfl⟩ := hs
    exact va_getsN hx hb hE.1 hW.2.2 hown (va_tabs rfl rfl hE.2.2.2) (fun x1 h1 => h1) hd (X _ _ _ hW hl)

theorem pm_o31 (G : pm_Gx p s m args c R D k ad A me) (hd : decode me.2.1 pc = .ok (pm_real (31, r, len, z, a, b, i), len)) (hs : pm_side me pc (31, r, len, z, a, b, i) = true) (ht : pm_stp (31, r, len, z, a, b, i) pc lv st h = some nx) (hW : pm_Wo D k ad A s h H locs) (hl : lv_has ls me.2.2.1 (pm_lr ad lv)) (X : pm_Sx p l e R s m args below meth c cells slots Q D k ad A me.2.2.1 nx.1 nx.2.1 nx.2.2.1 nx.2.2.2) : W p l e R s m args below meth c H locs cells slots Q (F0 m pc ls (st.map (pm_vr ad))) := by
  obtain ⟨my, bt, ml, rt, np, ow, sta⟩ := me
  obtain ⟨⟨hx, hb, hml, hown, hts⟩, hK, hE, hA, hR1, hR2⟩ := G
  obtain ⟨q, t, rfl, hu⟩ := pm_sR_some ht
  cases hg : pm_ak q with
  | none => rw [hg] at hu; cases hu
  | some g =>
    rw [hg] at hu
    obtain ⟨g1, n⟩ := g
    obtain ⟨xs, hS, hg0⟩ := pm_ak_some hg
    dsimp only [Option.bind_some] at hu
    dsimp only at hS
    split at hu
    · rename_i h5
      cases hu
      simp [pm_side, pm_len] at hs
      subst hs
      have he := pm_Wd_at k ad h hS (by show g1 ≠ 6; omega)
      match g1, h5, hg0, he with
      | 0, _, h0, _ => exact absurd rfl h0
      | 1, _, _, he => exact va_alen hx hb hK hW.1 q 1 he rfl rfl hd (X _ _ _ hW hl)
      | 2, _, _, he => exact va_alen hx hb hK hW.1 q 0 he rfl rfl hd (X _ _ _ hW hl)
      | 3, _, _, he => exact va_alen hx hb hK hW.1 q 3 he rfl rfl hd (X _ _ _ hW hl)
      | 4, _, _, he => exact va_alen hx hb hK hW.1 q 2 he rfl rfl hd (X _ _ _ hW hl)
      | g + 5, h5, _, _ => exact absurd h5 (by omega)
    · cases hu

theorem pm_o32 (G : pm_Gx p s m args c R D k ad A me) (hd : decode me.2.1 pc = .ok (pm_real (32, r, len, z, a, b, i), len)) (hs : pm_side me pc (32, r, len, z, a, b, i) = true) (ht : pm_stp (32, r, len, z, a, b, i) pc lv st h = some nx) (hW : pm_Wo D k ad A s h H locs) (hl : lv_has ls me.2.2.1 (pm_lr ad lv)) (X : pm_Sx p l e R s m args below meth c cells slots Q D k ad A me.2.2.1 nx.1 nx.2.1 nx.2.2.1 nx.2.2.2) : W p l e R s m args below meth c H locs cells slots Q (F0 m pc ls (st.map (pm_vr ad))) := by
  obtain ⟨my, bt, ml, rt, np, ow, sta⟩ := me
  obtain ⟨⟨hx, hb, hml, hown, hts⟩, hK, hE, hA, hR1, hR2⟩ := G
  obtain ⟨j, t, rfl, hu0⟩ := pm_sI_some ht
  obtain ⟨q, u, rfl, hu⟩ := pm_sR_some hu0
  cases hg : pm_ak q with
  | none => rw [hg] at hu; cases hu
  | some g =>
    rw [hg] at hu
    obtain ⟨g1, n⟩ := g
    obtain ⟨xs, hS, hg0⟩ := pm_ak_some hg
    dsimp only [Option.bind_some] at hu
    dsimp only at hS
    simp [pm_side, pm_len] at hs
    subst hs
    split at hu
    · rename_i h1
      obtain ⟨hin, hu⟩ := pm_ix_some hu
      cases hu
      subst h1
      have he := pm_Wd_at k ad h hS (by decide : (1 : Nat) ≠ 6)
      exact va_iald hx hb hK hW.1 q 1 he rfl hin hd (X _ _ _ hW hl)
    · split at hu
      · rename_i h1 h6
        obtain ⟨hin, hu⟩ := pm_ix_some hu
        cases hu
        have hq := pm_S_6 hS h6
        subst hq
        exact va_ti hx hb hE.2.1 hW.2.2 hin rfl hd (X _ _ _ hW hl)
      · cases hu

theorem pm_o33 (G : pm_Gx p s m args c R D k ad A me) (hd : decode me.2.1 pc = .ok (pm_real (33, r, len, z, a, b, i), len)) (hs : pm_side me pc (33, r, len, z, a, b, i) = true) (ht : pm_stp (33, r, len, z, a, b, i) pc lv st h = some nx) (hW : pm_Wo D k ad A s h H locs) (hl : lv_has ls me.2.2.1 (pm_lr ad lv)) (X : pm_Sx p l e R s m args below meth c cells slots Q D k ad A me.2.2.1 nx.1 nx.2.1 nx.2.2.1 nx.2.2.2) : W p l e R s m args below meth c H locs cells slots Q (F0 m pc ls (st.map (pm_vr ad))) := by
  obtain ⟨my, bt, ml, rt, np, ow, sta⟩ := me
  obtain ⟨⟨hx, hb, hml, hown, hts⟩, hK, hE, hA, hR1, hR2⟩ := G
  obtain ⟨j, t, rfl, hu0⟩ := pm_sI_some ht
  obtain ⟨q, u, rfl, hu⟩ := pm_sR_some hu0
  cases hg : pm_ak q with
  | none => rw [hg] at hu; cases hu
  | some g =>
    rw [hg] at hu
    obtain ⟨g1, n⟩ := g
    obtain ⟨xs, hS, hg0⟩ := pm_ak_some hg
    dsimp only [Option.bind_some] at hu
    dsimp only at hS
    simp [pm_side, pm_len] at hs
    subst hs
    split at hu
    · rename_i h1
      obtain ⟨hin, hu⟩ := pm_ix_some hu
      cases hu
      rcases h1 with h1 | h1
      · skip
        subst h1
        have he := pm_Wd_at k ad h hS (by decide : (2 : Nat) ≠ 6)
        exact va_bald hx hb hK hW.1 q 0 he rfl hin hd (X _ _ _ hW hl)
      · skip
        subst h1
        have he := pm_Wd_at k ad h hS (by decide : (3 : Nat) ≠ 6)
        exact va_zald hx hb hK hW.1 q 3 he rfl hin hd (X _ _ _ hW hl)
    · cases hu

theorem pm_o34 (G : pm_Gx p s m args c R D k ad A me) (hd : decode me.2.1 pc = .ok (pm_real (34, r, len, z, a, b, i), len)) (hs : pm_side me pc (34, r, len, z, a, b, i) = true) (ht : pm_stp (34, r, len, z, a, b, i) pc lv st h = some nx) (hW : pm_Wo D k ad A s h H locs) (hl : lv_has ls me.2.2.1 (pm_lr ad lv)) (X : pm_Sx p l e R s m args below meth c cells slots Q D k ad A me.2.2.1 nx.1 nx.2.1 nx.2.2.1 nx.2.2.2) : W p l e R s m args below meth c H locs cells slots Q (F0 m pc ls (st.map (pm_vr ad))) := by
  obtain ⟨my, bt, ml, rt, np, ow, sta⟩ := me
  obtain ⟨⟨hx, hb, hml, hown, hts⟩, hK, hE, hA, hR1, hR2⟩ := G
  obtain ⟨j, t, rfl, hu0⟩ := pm_sI_some ht
  obtain ⟨q, u, rfl, hu⟩ := pm_sR_some hu0
  cases hg : pm_ak q with
  | none => rw [hg] at hu; cases hu
  | some g =>
    rw [hg] at hu
    obtain ⟨g1, n⟩ := g
    obtain ⟨xs, hS, hg0⟩ := pm_ak_some hg
    dsimp only [Option.bind_some] at hu
    dsimp only at hS
    simp [pm_side, pm_len] at hs
    subst hs
    split at hu
    · rename_i h1
      obtain ⟨hin, hu⟩ := pm_ix_some hu
      cases hu
      subst h1
      have he := pm_Wd_at k ad h hS (by decide : (4 : Nat) ≠ 6)
      exact va_lald hx hb hK hW.1 q 2 he rfl hin hd (X _ _ _ hW hl)
    · cases hu

theorem pm_o35 (G : pm_Gx p s m args c R D k ad A me) (hd : decode me.2.1 pc = .ok (pm_real (35, r, len, z, a, b, i), len)) (hs : pm_side me pc (35, r, len, z, a, b, i) = true) (ht : pm_stp (35, r, len, z, a, b, i) pc lv st h = some nx) (hW : pm_Wo D k ad A s h H locs) (hl : lv_has ls me.2.2.1 (pm_lr ad lv)) (X : pm_Sx p l e R s m args below meth c cells slots Q D k ad A me.2.2.1 nx.1 nx.2.1 nx.2.2.1 nx.2.2.2) : W p l e R s m args below meth c H locs cells slots Q (F0 m pc ls (st.map (pm_vr ad))) := by
  obtain ⟨my, bt, ml, rt, np, ow, sta⟩ := me
  obtain ⟨⟨hx, hb, hml, hown, hts⟩, hK, hE, hA, hR1, hR2⟩ := G
  obtain ⟨j, t, rfl, hu0⟩ := pm_sI_some ht
  obtain ⟨q, u, rfl, hu⟩ := pm_sR_some hu0
  cases hg : pm_ak q with
  | none => rw [hg] at hu; cases hu
  | some g =>
    rw [hg] at hu
    obtain ⟨g1, n⟩ := g
    obtain ⟨xs, hS, hg0⟩ := pm_ak_some hg
    dsimp only [Option.bind_some] at hu
    dsimp only at hS
    simp [pm_side, pm_len] at hs
    subst hs
    split at hu
    · rename_i h1
      obtain ⟨hin, hu⟩ := pm_ix_some hu
      cases hu
      subst h1
      have he := pm_Wd_at k ad h hS (by decide : (5 : Nat) ≠ 6)
      exact va_aldq hx hb hK hW.1 q 4 he rfl hin hd (X _ _ _ hW hl)
    · cases hu

theorem pm_o36 (G : pm_Gx p s m args c R D k ad A me) (hd : decode me.2.1 pc = .ok (pm_real (36, r, len, z, a, b, i), len)) (hs : pm_side me pc (36, r, len, z, a, b, i) = true) (ht : pm_stp (36, r, len, z, a, b, i) pc lv st h = some nx) (hW : pm_Wo D k ad A s h H locs) (hl : lv_has ls me.2.2.1 (pm_lr ad lv)) (X : pm_Sx p l e R s m args below meth c cells slots Q D k ad A me.2.2.1 nx.1 nx.2.1 nx.2.2.1 nx.2.2.2) : W p l e R s m args below meth c H locs cells slots Q (F0 m pc ls (st.map (pm_vr ad))) := by
  obtain ⟨my, bt, ml, rt, np, ow, sta⟩ := me
  obtain ⟨⟨hx, hb, hml, hown, hts⟩, hK, hE, hA, hR1, hR2⟩ := G
  obtain ⟨x, t, rfl, hu0⟩ := pm_sI_some ht
  obtain ⟨j, u, rfl, hu1⟩ := pm_sI_some hu0
  obtain ⟨q, w, rfl, hu⟩ := pm_sR_some hu1
  cases hg : pm_ak q with
  | none => rw [hg] at hu; cases hu
  | some g =>
    rw [hg] at hu
    obtain ⟨g1, n⟩ := g
    obtain ⟨xs, hS, hg0⟩ := pm_ak_some hg
    dsimp only [Option.bind_some] at hu
    dsimp only at hS
    simp [pm_side, pm_len] at hs
    subst hs
    split at hu
    · rename_i h1
      obtain ⟨hin, hu⟩ := pm_ix_some hu
      cases hu

      subst h1
      have he := pm_Wd_at k ad h hS (by decide : (1 : Nat) ≠ 6)
      have hset : (pm_Wd k ad h).set q (ad q, .inl (k.2.1, n, .inl (upd (fun i => Int32.ofInt (h q i)) j.toNatClampNeg x))) = pm_Wd k ad (pm_up h q j.toNatClampNeg x.toInt) := pm_Wd_set k ad hS (by decide : (1 : Nat) ≠ 6) (by
        show _ = (ad q, Sum.inl (k.2.1, n, Sum.inl (fun i => Int32.ofInt (pm_up h q j.toNatClampNeg x.toInt q i))))
        rw [pm_ar]) (fun c1 hc => pm_up_nc _ _ _ _ _ hc)
      exact va_iast hx hb hK hW.1 hW.2.1 hW.2.2 q 1 he rfl hin hd (fun H1 locs1 hP1 hD1 hS1 => X _ _ _ ⟨by rw [← hset]; exact hP1, by rw [← hset]; exact hD1, hS1⟩ hl)
    · cases hu

theorem pm_o37 (G : pm_Gx p s m args c R D k ad A me) (hd : decode me.2.1 pc = .ok (pm_real (37, r, len, z, a, b, i), len)) (hs : pm_side me pc (37, r, len, z, a, b, i) = true) (ht : pm_stp (37, r, len, z, a, b, i) pc lv st h = some nx) (hW : pm_Wo D k ad A s h H locs) (hl : lv_has ls me.2.2.1 (pm_lr ad lv)) (X : pm_Sx p l e R s m args below meth c cells slots Q D k ad A me.2.2.1 nx.1 nx.2.1 nx.2.2.1 nx.2.2.2) : W p l e R s m args below meth c H locs cells slots Q (F0 m pc ls (st.map (pm_vr ad))) := by
  obtain ⟨my, bt, ml, rt, np, ow, sta⟩ := me
  obtain ⟨⟨hx, hb, hml, hown, hts⟩, hK, hE, hA, hR1, hR2⟩ := G
  obtain ⟨x, t, rfl, hu0⟩ := pm_sI_some ht
  obtain ⟨j, u, rfl, hu1⟩ := pm_sI_some hu0
  obtain ⟨q, w, rfl, hu⟩ := pm_sR_some hu1
  cases hg : pm_ak q with
  | none => rw [hg] at hu; cases hu
  | some g =>
    rw [hg] at hu
    obtain ⟨g1, n⟩ := g
    obtain ⟨xs, hS, hg0⟩ := pm_ak_some hg
    dsimp only [Option.bind_some] at hu
    dsimp only at hS
    simp [pm_side, pm_len] at hs
    subst hs
    split at hu
    · rename_i h1
      obtain ⟨hin, hu⟩ := pm_ix_some hu
      cases hu
      rcases h1 with ⟨h1, hr⟩ | ⟨h1, hr⟩

      all_goals subst h1
      · have he := pm_Wd_at k ad h hS (by decide : (2 : Nat) ≠ 6)
        have hset : (pm_Wd k ad h).set q (ad q, .inl (k.1, n, .inl (upd (fun i => Int32.ofInt (h q i)) j.toNatClampNeg (vp_nar .byte x)))) = pm_Wd k ad (pm_up h q j.toNatClampNeg x.toInt) := pm_Wd_set k ad hS (by decide : (2 : Nat) ≠ 6) (by
          show _ = (ad q, Sum.inl (k.1, n, Sum.inl (fun i => Int32.ofInt (pm_up h q j.toNatClampNeg x.toInt q i))))
          rw [pm_ar, pm_nb hr]) (fun c1 hc => pm_up_nc _ _ _ _ _ hc)
        exact va_bast hx hb hK hW.1 hW.2.1 hW.2.2 q 0 he rfl hin hd (fun H1 locs1 hP1 hD1 hS1 => X _ _ _ ⟨by rw [← hset]; exact hP1, by rw [← hset]; exact hD1, hS1⟩ hl)
      · have he := pm_Wd_at k ad h hS (by decide : (3 : Nat) ≠ 6)
        have hset : (pm_Wd k ad h).set q (ad q, .inl (k.2.2.2.1, n, .inl (upd (fun i => Int32.ofInt (h q i)) j.toNatClampNeg (vp_nar .boolean x)))) = pm_Wd k ad (pm_up h q j.toNatClampNeg x.toInt) := pm_Wd_set k ad hS (by decide : (3 : Nat) ≠ 6) (by
          show _ = (ad q, Sum.inl (k.2.2.2.1, n, Sum.inl (fun i => Int32.ofInt (pm_up h q j.toNatClampNeg x.toInt q i))))
          rw [pm_ar, pm_nz hr]) (fun c1 hc => pm_up_nc _ _ _ _ _ hc)
        exact va_zast hx hb hK hW.1 hW.2.1 hW.2.2 q 3 he rfl hin hd (fun H1 locs1 hP1 hD1 hS1 => X _ _ _ ⟨by rw [← hset]; exact hP1, by rw [← hset]; exact hD1, hS1⟩ hl)
    · cases hu

theorem pm_o38 (G : pm_Gx p s m args c R D k ad A me) (hd : decode me.2.1 pc = .ok (pm_real (38, r, len, z, a, b, i), len)) (hs : pm_side me pc (38, r, len, z, a, b, i) = true) (ht : pm_stp (38, r, len, z, a, b, i) pc lv st h = some nx) (hW : pm_Wo D k ad A s h H locs) (hl : lv_has ls me.2.2.1 (pm_lr ad lv)) (X : pm_Sx p l e R s m args below meth c cells slots Q D k ad A me.2.2.1 nx.1 nx.2.1 nx.2.2.1 nx.2.2.2) : W p l e R s m args below meth c H locs cells slots Q (F0 m pc ls (st.map (pm_vr ad))) := by
  obtain ⟨my, bt, ml, rt, np, ow, sta⟩ := me
  obtain ⟨⟨hx, hb, hml, hown, hts⟩, hK, hE, hA, hR1, hR2⟩ := G
  obtain ⟨x, t, rfl, hu0⟩ := pm_sL_some ht
  obtain ⟨j, u, rfl, hu1⟩ := pm_sI_some hu0
  obtain ⟨q, w, rfl, hu⟩ := pm_sR_some hu1
  cases hg : pm_ak q with
  | none => rw [hg] at hu; cases hu
  | some g =>
    rw [hg] at hu
    obtain ⟨g1, n⟩ := g
    obtain ⟨xs, hS, hg0⟩ := pm_ak_some hg
    dsimp only [Option.bind_some] at hu
    dsimp only at hS
    simp [pm_side, pm_len] at hs
    subst hs
    split at hu
    · rename_i h1
      obtain ⟨hin, hu⟩ := pm_ix_some hu
      cases hu

      subst h1
      have he := pm_Wd_at k ad h hS (by decide : (4 : Nat) ≠ 6)
      have hset : (pm_Wd k ad h).set q (ad q, .inl (k.2.2.1, n, .inr (.inl (vp_updL (fun i => Int64.ofInt (h q i)) j.toNatClampNeg x)))) = pm_Wd k ad (pm_up h q j.toNatClampNeg x.toInt) := pm_Wd_set k ad hS (by decide : (4 : Nat) ≠ 6) (by
        show _ = (ad q, Sum.inl (k.2.2.1, n, Sum.inr (Sum.inl (fun i => Int64.ofInt (pm_up h q j.toNatClampNeg x.toInt q i)))))
        rw [pm_arL]) (fun c1 hc => pm_up_nc _ _ _ _ _ hc)
      exact va_last hx hb hK hW.1 hW.2.1 hW.2.2 q 2 he rfl hin hd (fun H1 locs1 hP1 hD1 hS1 => X _ _ _ ⟨by rw [← hset]; exact hP1, by rw [← hset]; exact hD1, hS1⟩ hl)
    · cases hu

theorem pm_o45 (G : pm_Gx p s m args c R D k ad A me) (hd : decode me.2.1 pc = .ok (pm_real (45, r, len, z, a, b, i), len)) (hs : pm_side me pc (45, r, len, z, a, b, i) = true) (ht : pm_stp (45, r, len, z, a, b, i) pc lv st h = some nx) (hW : pm_Wo D k ad A s h H locs) (hl : lv_has ls me.2.2.1 (pm_lr ad lv)) (X : pm_Sx p l e R s m args below meth c cells slots Q D k ad A me.2.2.1 nx.1 nx.2.1 nx.2.2.1 nx.2.2.2) : W p l e R s m args below meth c H locs cells slots Q (F0 m pc ls (st.map (pm_vr ad))) := by
  obtain ⟨my, bt, ml, rt, np, ow, sta⟩ := me
  obtain ⟨⟨hx, hb, hml, hown, hts⟩, hK, hE, hA, hR1, hR2⟩ := G
  obtain ⟨nn, t, rfl, hu0⟩ := pm_sI_some ht
  obtain ⟨dp, u, rfl, hu1⟩ := pm_sI_some hu0
  obtain ⟨d, v, rfl, hu2⟩ := pm_sR_some hu1
  obtain ⟨sp, w, rfl, hu3⟩ := pm_sI_some hu2
  obtain ⟨q, rr, rfl, hu⟩ := pm_sR_some hu3
  cases hg : pm_ak q with
  | none => rw [hg] at hu; cases hu
  | some gs =>
    rw [hg] at hu
    cases hg2 : pm_ak d with
    | none => rw [hg2] at hu; cases hu
    | some gd =>
      rw [hg2] at hu
      obtain ⟨g1, n0⟩ := gs
      obtain ⟨g2, n1⟩ := gd
      obtain ⟨xs, hS, hg0⟩ := pm_ak_some hg
      obtain ⟨ys, hS2, hg02⟩ := pm_ak_some hg2
      dsimp only [Option.bind_some] at hu
      dsimp only at hS hS2
      split at hu
      · rename_i hc
        cases hu
        obtain ⟨c1, c2, c3, c4, c5, c6, c7, c8⟩ := hc
        subst c2
        simp [pm_side, pm_len] at hs
        obtain ⟨rfl, hac⟩ := hs
        have hneg : ∀ y : Int32, 0 ≤ y.toInt → ¬ y < 0 := fun y hy hlt => by rw [Int32.lt_iff_toInt_lt, Int32.toInt_zero] at hlt; omega
        have hlink : (Cond.methodLink (pm_R ow) i arraycopyName).before args s = true := by
          simp [pm_AC] at hac
          rcases hac with ⟨rfl, rfl⟩ | ⟨rfl, rfl⟩
          · exact hts _ (pm_inG pm_ac_1 rfl)
          · exact hts _ (pm_inG pm_ac_5 rfl)
        have hloc : ((rr.map (pm_vr ad)).map fun v => v.category).sum + (nativeFrameWords "java/lang/System" "arraycopy" 5 + 11) ≤ R.locals := by
          rw [pm_cat_map, show nativeFrameWords "java/lang/System" "arraycopy" 5 = 7 from by decide +kernel]; omega
        rcases c1 with c1 | c1
        · subst c1
          have he := pm_Wd_at k ad h hS (by decide : (1 : Nat) ≠ 6)
          have he2 := pm_Wd_at k ad h hS2 (by decide : (1 : Nat) ≠ 6)
          have hset : (pm_Wd k ad h).set d (ad d, .inl (k.2.1, n1, .inl (va_cpy (fun i => Int32.ofInt (h q i)) (fun i => Int32.ofInt (h d i)) sp.toNatClampNeg dp.toNatClampNeg nn.toNatClampNeg))) = pm_Wd k ad (pm_cp h q d sp.toNatClampNeg dp.toNatClampNeg nn.toNatClampNeg) := pm_Wd_set k ad hS2 (by decide : (1 : Nat) ≠ 6) (by
            show _ = (ad d, Sum.inl (k.2.1, n1, Sum.inl (fun i => Int32.ofInt (pm_cp h q d sp.toNatClampNeg dp.toNatClampNeg nn.toNatClampNeg d i))))
            congr 5
            funext j
            unfold va_cpy pm_cp
            by_cases hj : dp.toNatClampNeg ≤ j ∧ j < dp.toNatClampNeg + nn.toNatClampNeg
            · rw [if_pos hj, if_pos ⟨rfl, hj⟩]
            · rw [if_neg hj, if_neg (fun e1 => hj e1.2)]) (fun c1 hc => funext fun j => if_neg (fun e1 => hc e1.1))
          exact va_copyi hx hb (hml.trans hl.1.symm) hown hlink (hts _ (pm_inG pm_acn rfl)) (hts _ (pm_inG pm_acs rfl)) (hts _ (pm_inG pm_aci rfl)) hK hW.1 hW.2.1 hW.2.2 q d 1 1 he he2 rfl rfl rfl (hneg _ c5) (hneg _ c4) (hneg _ c3) c6 c7 (fun _ _ => rfl) hR1 hloc hd (fun H1 locs1 hP1 hD1 hS1 => X _ _ _ ⟨by rw [← hset]; exact hP1, by rw [← hset]; exact hD1, hS1⟩ hl)
        · subst c1
          have he := pm_Wd_at k ad h hS (by decide : (4 : Nat) ≠ 6)
          have he2 := pm_Wd_at k ad h hS2 (by decide : (4 : Nat) ≠ 6)
          have hset : (pm_Wd k ad h).set d (ad d, .inl (k.2.2.1, n1, .inr (.inl (va_cpy (fun i => Int64.ofInt (h q i)) (fun i => Int64.ofInt (h d i)) sp.toNatClampNeg dp.toNatClampNeg nn.toNatClampNeg)))) = pm_Wd k ad (pm_cp h q d sp.toNatClampNeg dp.toNatClampNeg nn.toNatClampNeg) := pm_Wd_set k ad hS2 (by decide : (4 : Nat) ≠ 6) (by
            show _ = (ad d, Sum.inl (k.2.2.1, n1, Sum.inr (Sum.inl (fun i => Int64.ofInt (pm_cp h q d sp.toNatClampNeg dp.toNatClampNeg nn.toNatClampNeg d i)))))
            congr 6
            funext j
            unfold va_cpy pm_cp
            by_cases hj : dp.toNatClampNeg ≤ j ∧ j < dp.toNatClampNeg + nn.toNatClampNeg
            · rw [if_pos hj, if_pos ⟨rfl, hj⟩]
            · rw [if_neg hj, if_neg (fun e1 => hj e1.2)]) (fun c1 hc => funext fun j => if_neg (fun e1 => hc e1.1))
          exact va_copyl hx hb (hml.trans hl.1.symm) hown hlink (hts _ (pm_inG pm_acn rfl)) (hts _ (pm_inG pm_acs rfl)) (hts _ (pm_inG pm_aci rfl)) hK hW.1 hW.2.1 hW.2.2 q d 2 2 he he2 rfl rfl rfl (hneg _ c5) (hneg _ c4) (hneg _ c3) c6 c7 (fun _ _ => rfl) hR1 hloc hd (fun H1 locs1 hP1 hD1 hS1 => X _ _ _ ⟨by rw [← hset]; exact hP1, by rw [← hset]; exact hD1, hS1⟩ hl)
      · cases hu

theorem pm_o46 (hcs : cells ≤ R.cells ∧ slots ≤ R.slots) (G : pm_Gx p s m args c R D k ad A me) (hd : decode me.2.1 pc = .ok (pm_real (46, r, len, z, a, b, i), len)) (hs : pm_side me pc (46, r, len, z, a, b, i) = true) (ht : pm_stp (46, r, len, z, a, b, i) pc lv st h = some nx) (hW : pm_Wo D k ad A s h H locs) (hl : lv_has ls me.2.2.1 (pm_lr ad lv)) (X : pm_Sx p l e R s m args below meth c cells slots Q D k ad A me.2.2.1 nx.1 nx.2.1 nx.2.2.1 nx.2.2.2) : W p l e R s m args below meth c H locs cells slots Q (F0 m pc ls (st.map (pm_vr ad))) := by
  obtain ⟨my, bt, ml, rt, np, ow, sta⟩ := me
  obtain ⟨⟨hx, hb, hml, hown, hts⟩, hK, hE, hA, hR1, hR2⟩ := G
  have hrm : ∀ u : List Value, pm_cat u ≤ 8 → ∀ n : Nat, n ≤ 15 → ((u.map (pm_vr ad)).map fun v => v.category).sum + n ≤ R.locals := fun u hu n hn => by rw [pm_cat_map]; omega
  match b, hd, hs, ht with
  | 0, hd, hs, ht =>
    simp [pm_side, pm_len] at hs
    obtain ⟨rfl, hm⟩ := hs
    obtain ⟨y, t, rfl, hu0⟩ := pm_sI_some ht
    obtain ⟨x, u, rfl, hu⟩ := pm_sI_some hu0
    split at hu
    · rename_i hc
      cases hu
      exact va_mmax hx hb (hml.trans hl.1.symm) hown (hts _ (pm_inG (pm_MA_ok (ow, i, 0) hm) rfl)) (hts _ (pm_inG pm_mas_0 rfl)) (hts _ (pm_inG pm_mai rfl)) (hts _ (pm_inG pm_mac_0 rfl)) hR1 (hrm _ hc 13 (by omega)) hcs.1 hcs.2 hd (X _ _ _ hW hl)
    · cases hu
  | 1, hd, hs, ht =>
    simp [pm_side, pm_len] at hs
    obtain ⟨rfl, hm⟩ := hs
    obtain ⟨y, t, rfl, hu0⟩ := pm_sI_some ht
    obtain ⟨x, u, rfl, hu⟩ := pm_sI_some hu0
    split at hu
    · rename_i hc
      cases hu
      exact va_mmin hx hb (hml.trans hl.1.symm) hown (hts _ (pm_inG (pm_MA_ok (ow, i, 1) hm) rfl)) (hts _ (pm_inG pm_mas_1 rfl)) (hts _ (pm_inG pm_mai rfl)) (hts _ (pm_inG pm_mac_1 rfl)) hR1 (hrm _ hc 13 (by omega)) hcs.1 hcs.2 hd (X _ _ _ hW hl)
    · cases hu
  | 2, hd, hs, ht =>
    simp [pm_side, pm_len] at hs
    obtain ⟨rfl, hm⟩ := hs
    obtain ⟨y, t, rfl, hu0⟩ := pm_sL_some ht
    obtain ⟨x, u, rfl, hu⟩ := pm_sL_some hu0
    split at hu
    · rename_i hc
      cases hu
      exact va_mmin_long hx hb (hml.trans hl.1.symm) hown (hts _ (pm_inG (pm_MA_ok (ow, i, 2) hm) rfl)) (hts _ (pm_inG pm_mas_2 rfl)) (hts _ (pm_inG pm_mai rfl)) (hts _ (pm_inG pm_mac_2 rfl)) hR1 (hrm _ hc 15 (by omega)) hcs.1 hcs.2 hd (X _ _ _ hW hl)
    · cases hu
  | b + 3, hd, hs, ht =>
    simp [pm_side, pm_len] at hs
    exact absurd hs.2.2 (by omega)

theorem pm_step1 {i : pm_Ins} (hcs : cells ≤ R.cells ∧ slots ≤ R.slots) (G : pm_Gx p s m args c R D k ad A me) (hd : decode me.2.1 pc = .ok (pm_real i, i.2.2.1)) (hs : pm_side me pc i = true) (ht : pm_stp i pc lv st h = some nx) (hW : pm_Wo D k ad A s h H locs) (hl : lv_has ls me.2.2.1 (pm_lr ad lv)) (X : pm_Sx p l e R s m args below meth c cells slots Q D k ad A me.2.2.1 nx.1 nx.2.1 nx.2.2.1 nx.2.2.2) : W p l e R s m args below meth c H locs cells slots Q (F0 m pc ls (st.map (pm_vr ad))) := by
  obtain ⟨f, r, len, z, a, b, i⟩ := i
  have hf : f < 47 := by
    rcases Nat.lt_or_ge f 47 with q | q
    · exact q
    · exfalso
      unfold pm_stp at ht
      dsimp only at ht
      split at ht <;> first | omega | cases ht
  match f, hf, hd, hs, ht with
  | 0, _, hd, hs, ht => exact pm_o0 G hd hs ht hW hl X
  | 1, _, hd, hs, ht => exact pm_o1 G hd hs ht hW hl X
  | 2, _, hd, hs, ht => exact pm_o2 G hd hs ht hW hl X
  | 3, _, hd, hs, ht => exact pm_o3 G hd hs ht hW hl X
  | 4, _, hd, hs, ht => exact pm_o4 G hd hs ht hW hl X
  | 5, _, hd, hs, ht => exact pm_o5 G hd hs ht hW hl X
  | 6, _, hd, hs, ht => exact pm_o6 G hd hs ht hW hl X
  | 7, _, hd, hs, ht => exact pm_o7 G hd hs ht hW hl X
  | 8, _, hd, hs, ht => exact pm_o8 G hd hs ht hW hl X
  | 9, _, hd, hs, ht => exact pm_o9 G hd hs ht hW hl X
  | 10, _, hd, hs, ht => exact pm_o10 G hd hs ht hW hl X
  | 11, _, hd, hs, ht => exact pm_o11 G hd hs ht hW hl X
  | 12, _, hd, hs, ht => exact pm_o12 G hd hs ht hW hl X
  | 13, _, hd, hs, ht => exact pm_o13 G hd hs ht hW hl X
  | 14, _, hd, hs, ht => exact pm_o14 G hd hs ht hW hl X
  | 15, _, hd, hs, ht => exact pm_o15 G hd hs ht hW hl X
  | 16, _, hd, hs, ht => exact pm_o16 G hd hs ht hW hl X
  | 17, _, hd, hs, ht => exact pm_o17 G hd hs ht hW hl X
  | 18, _, hd, hs, ht => exact pm_o18 G hd hs ht hW hl X
  | 19, _, hd, hs, ht => exact pm_o19 G hd hs ht hW hl X
  | 20, _, hd, hs, ht => exact pm_o20 G hd hs ht hW hl X
  | 21, _, hd, hs, ht => exact pm_o21 G hd hs ht hW hl X
  | 22, _, hd, hs, ht => exact pm_o22 G hd hs ht hW hl X
  | 23, _, hd, hs, ht => exact pm_o23 G hd hs ht hW hl X
  | 24, _, hd, hs, ht => exact pm_o24 G hd hs ht hW hl X
  | 25, _, hd, hs, ht => exact pm_o25 G hd hs ht hW hl X
  | 26, _, hd, hs, ht => exact pm_o26 G hd hs ht hW hl X
  | 27, _, hd, hs, ht => exact pm_o27 G hd hs ht hW hl X
  | 28, _, hd, hs, ht => exact pm_o28 G hd hs ht hW hl X
  | 29, _, hd, hs, ht => exact pm_o29 G hd hs ht hW hl X
  | 30, _, hd, hs, ht => exact pm_o30 G hd hs ht hW hl X
  | 31, _, hd, hs, ht => exact pm_o31 G hd hs ht hW hl X
  | 32, _, hd, hs, ht => exact pm_o32 G hd hs ht hW hl X
  | 33, _, hd, hs, ht => exact pm_o33 G hd hs ht hW hl X
  | 34, _, hd, hs, ht => exact pm_o34 G hd hs ht hW hl X
  | 35, _, hd, hs, ht => exact pm_o35 G hd hs ht hW hl X
  | 36, _, hd, hs, ht => exact pm_o36 G hd hs ht hW hl X
  | 37, _, hd, hs, ht => exact pm_o37 G hd hs ht hW hl X
  | 38, _, hd, hs, ht => exact pm_o38 G hd hs ht hW hl X
  | 39, _, _, _, ht => cases ht
  | 40, _, _, _, ht => cases ht
  | 41, _, _, _, ht => cases ht
  | 42, _, _, _, ht => cases ht
  | 43, _, _, _, ht => cases ht
  | 44, _, _, _, ht => cases ht
  | 45, _, hd, hs, ht => exact pm_o45 G hd hs ht hW hl X
  | 46, _, hd, hs, ht => exact pm_o46 hcs G hd hs ht hW hl X
  | f + 47, hf, _, _, _ => exact absurd hf (by omega)

end
end
section
/-! What is to be known of a method's row: its words are among those that every method carries. -/
def pm_Mk (me : pm_Me) : Prop :=
  Cond.code me.1 me.2.1 me.2.2.1 me.2.2.2.1 ∈ pm_G ∧ Cond.initialized me.1.cls ∈ pm_G ∧ (me.1.cls ≠ "java/lang/invoke/MethodHandle" ∧ me.1.cls ≠ "java/lang/invoke/VarHandle" ∧ (parseMethodDescriptor me.1.desc).map (fun d => d.parameters.length) = some me.2.2.2.2.1) ∧ me.1.cls = pm_R me.2.2.2.2.2.1 ∧ plainName me.1.cls = true ∧
  (match me.2.2.2.2.2.2 with
    | true => Cond.static me.1 ∈ pm_G
    | false => Cond.instanceMethod me.1 ∈ pm_G ∧ Cond.selects me.1.cls me.1 me.1 ∈ pm_G) ∧
  me.2.2.1 ≤ 41 ∧ (me.2.2.2.1 = none ∨ me.2.2.2.1 = some .int ∨ me.2.2.2.1 = some .boolean ∨ me.2.2.2.1 = some .long ∨ ∃ C, me.2.2.2.1 = some (.object C))
end
section
set_option maxRecDepth 100000 in
theorem pm_mk_0 : pm_Mk (yX0_doAgain, cX0_doAgain, 2, some (.boolean), 0, 0, false) := ⟨pm_inG pm_mc_0 rfl, pm_inG pm_in_0 rfl, by decide +kernel, rfl, by decide +kernel, ⟨pm_inG pm_mi_0 rfl, pm_inG pm_me_0 rfl⟩, by decide, Or.inr (Or.inr (Or.inl rfl))⟩
set_option maxRecDepth 100000 in
theorem pm_mk_1 : pm_Mk (yX0_dropOldest, cX0_dropOldest, 2, none, 0, 0, false) := ⟨pm_inG pm_mc_1 rfl, pm_inG pm_in_0 rfl, by decide +kernel, rfl, by decide +kernel, ⟨pm_inG pm_mi_1 rfl, pm_inG pm_me_1 rfl⟩, by decide, Or.inl rfl⟩
set_option maxRecDepth 100000 in
theorem pm_mk_2 : pm_Mk (yX0_empty, cX0_empty, 1, none, 0, 0, false) := ⟨pm_inG pm_mc_2 rfl, pm_inG pm_in_0 rfl, by decide +kernel, rfl, by decide +kernel, ⟨pm_inG pm_mi_2 rfl, pm_inG pm_me_2 rfl⟩, by decide, Or.inl rfl⟩
set_option maxRecDepth 100000 in
theorem pm_mk_3 : pm_Mk (yX0_forgetActs, cX0_forgetActs, 1, none, 0, 0, false) := ⟨pm_inG pm_mc_3 rfl, pm_inG pm_in_0 rfl, by decide +kernel, rfl, by decide +kernel, ⟨pm_inG pm_mi_3 rfl, pm_inG pm_me_3 rfl⟩, by decide, Or.inl rfl⟩
set_option maxRecDepth 100000 in
theorem pm_mk_4 : pm_Mk (yX0_note, cX0_note, 5, none, 4, 0, false) := ⟨pm_inG pm_mc_4 rfl, pm_inG pm_in_0 rfl, by decide +kernel, rfl, by decide +kernel, ⟨pm_inG pm_mi_4 rfl, pm_inG pm_me_4 rfl⟩, by decide, Or.inl rfl⟩
set_option maxRecDepth 100000 in
theorem pm_mk_5 : pm_Mk (yX0_putSale, cX0_putSale, 3, none, 2, 0, false) := ⟨pm_inG pm_mc_5 rfl, pm_inG pm_in_0 rfl, by decide +kernel, rfl, by decide +kernel, ⟨pm_inG pm_mi_5 rfl, pm_inG pm_me_5 rfl⟩, by decide, Or.inl rfl⟩
set_option maxRecDepth 100000 in
theorem pm_mk_6 : pm_Mk (yX0_putWord, cX0_putWord, 2, none, 1, 0, false) := ⟨pm_inG pm_mc_6 rfl, pm_inG pm_in_0 rfl, by decide +kernel, rfl, by decide +kernel, ⟨pm_inG pm_mi_6 rfl, pm_inG pm_me_6 rfl⟩, by decide, Or.inl rfl⟩
set_option maxRecDepth 100000 in
theorem pm_mk_7 : pm_Mk (yX0_rowWithout, cX0_rowWithout, 5, some (.int), 2, 0, false) := ⟨pm_inG pm_mc_7 rfl, pm_inG pm_in_0 rfl, by decide +kernel, rfl, by decide +kernel, ⟨pm_inG pm_mi_7 rfl, pm_inG pm_me_7 rfl⟩, by decide, Or.inr (Or.inl rfl)⟩
set_option maxRecDepth 100000 in
theorem pm_mk_8 : pm_Mk (yX0_takeBack, cX0_takeBack, 1, some (.boolean), 0, 0, false) := ⟨pm_inG pm_mc_8 rfl, pm_inG pm_in_0 rfl, by decide +kernel, rfl, by decide +kernel, ⟨pm_inG pm_mi_8 rfl, pm_inG pm_me_8 rfl⟩, by decide, Or.inr (Or.inr (Or.inl rfl))⟩
set_option maxRecDepth 100000 in
theorem pm_mk_9 : pm_Mk (yX1_giveBack, cX1_giveBack, 2, none, 1, 1, false) := ⟨pm_inG pm_mc_9 rfl, pm_inG pm_in_1 rfl, by decide +kernel, rfl, by decide +kernel, ⟨pm_inG pm_mi_9 rfl, pm_inG pm_me_9 rfl⟩, by decide, Or.inl rfl⟩
set_option maxRecDepth 100000 in
theorem pm_mk_10 : pm_Mk (yX1_keep, cX1_keep, 2, none, 1, 1, false) := ⟨pm_inG pm_mc_10 rfl, pm_inG pm_in_1 rfl, by decide +kernel, rfl, by decide +kernel, ⟨pm_inG pm_mi_10 rfl, pm_inG pm_me_10 rfl⟩, by decide, Or.inl rfl⟩
set_option maxRecDepth 100000 in
theorem pm_mk_11 : pm_Mk (yX2_bindAlt, cX2_bindAlt, 7, some (.boolean), 2, 2, false) := ⟨pm_inG pm_mc_11 rfl, pm_inG pm_in_2 rfl, by decide +kernel, rfl, by decide +kernel, ⟨pm_inG pm_mi_11 rfl, pm_inG pm_me_11 rfl⟩, by decide, Or.inr (Or.inr (Or.inl rfl))⟩
set_option maxRecDepth 100000 in
theorem pm_mk_12 : pm_Mk (yX2_bindParts, cX2_bindParts, 3, some (.boolean), 0, 2, false) := ⟨pm_inG pm_mc_12 rfl, pm_inG pm_in_2 rfl, by decide +kernel, rfl, by decide +kernel, ⟨pm_inG pm_mi_12 rfl, pm_inG pm_me_12 rfl⟩, by decide, Or.inr (Or.inr (Or.inl rfl))⟩
set_option maxRecDepth 100000 in
theorem pm_mk_13 : pm_Mk (yX2_pass, cX2_pass, 2, some (.boolean), 1, 2, false) := ⟨pm_inG pm_mc_13 rfl, pm_inG pm_in_2 rfl, by decide +kernel, rfl, by decide +kernel, ⟨pm_inG pm_mi_13 rfl, pm_inG pm_me_13 rfl⟩, by decide, Or.inr (Or.inr (Or.inl rfl))⟩
set_option maxRecDepth 100000 in
theorem pm_mk_14 : pm_Mk (yX2_passFirst, cX2_passFirst, 2, some (.boolean), 1, 2, false) := ⟨pm_inG pm_mc_14 rfl, pm_inG pm_in_2 rfl, by decide +kernel, rfl, by decide +kernel, ⟨pm_inG pm_mi_14 rfl, pm_inG pm_me_14 rfl⟩, by decide, Or.inr (Or.inr (Or.inl rfl))⟩
set_option maxRecDepth 100000 in
theorem pm_mk_15 : pm_Mk (yX2_passNewName, cX2_passNewName, 1, some (.boolean), 0, 2, false) := ⟨pm_inG pm_mc_15 rfl, pm_inG pm_in_2 rfl, by decide +kernel, rfl, by decide +kernel, ⟨pm_inG pm_mi_15 rfl, pm_inG pm_me_15 rfl⟩, by decide, Or.inr (Or.inr (Or.inl rfl))⟩
set_option maxRecDepth 100000 in
theorem pm_mk_16 : pm_Mk (yX2_passNumber, cX2_passNumber, 3, some (.boolean), 2, 2, false) := ⟨pm_inG pm_mc_16 rfl, pm_inG pm_in_2 rfl, by decide +kernel, rfl, by decide +kernel, ⟨pm_inG pm_mi_16 rfl, pm_inG pm_me_16 rfl⟩, by decide, Or.inr (Or.inr (Or.inl rfl))⟩
set_option maxRecDepth 100000 in
theorem pm_mk_17 : pm_Mk (yX2_passPairName, cX2_passPairName, 3, some (.boolean), 2, 2, false) := ⟨pm_inG pm_mc_17 rfl, pm_inG pm_in_2 rfl, by decide +kernel, rfl, by decide +kernel, ⟨pm_inG pm_mi_17 rfl, pm_inG pm_me_17 rfl⟩, by decide, Or.inr (Or.inr (Or.inl rfl))⟩
set_option maxRecDepth 100000 in
theorem pm_mk_18 : pm_Mk (yX2_readAlt, cX2_readAlt, 2, some (.boolean), 0, 2, false) := ⟨pm_inG pm_mc_18 rfl, pm_inG pm_in_2 rfl, by decide +kernel, rfl, by decide +kernel, ⟨pm_inG pm_mi_18 rfl, pm_inG pm_me_18 rfl⟩, by decide, Or.inr (Or.inr (Or.inl rfl))⟩
set_option maxRecDepth 100000 in
theorem pm_mk_19 : pm_Mk (yX2_readLength, cX2_readLength, 2, some (.boolean), 0, 2, false) := ⟨pm_inG pm_mc_19 rfl, pm_inG pm_in_2 rfl, by decide +kernel, rfl, by decide +kernel, ⟨pm_inG pm_mi_19 rfl, pm_inG pm_me_19 rfl⟩, by decide, Or.inr (Or.inr (Or.inl rfl))⟩
set_option maxRecDepth 100000 in
theorem pm_mk_20 : pm_Mk (yX2_readPair, cX2_readPair, 5, some (.boolean), 0, 2, false) := ⟨pm_inG pm_mc_20 rfl, pm_inG pm_in_2 rfl, by decide +kernel, rfl, by decide +kernel, ⟨pm_inG pm_mi_20 rfl, pm_inG pm_me_20 rfl⟩, by decide, Or.inr (Or.inr (Or.inl rfl))⟩
set_option maxRecDepth 100000 in
theorem pm_mk_21 : pm_Mk (yX2_readRule, cX2_readRule, 5, some (.boolean), 0, 2, false) := ⟨pm_inG pm_mc_21 rfl, pm_inG pm_in_2 rfl, by decide +kernel, rfl, by decide +kernel, ⟨pm_inG pm_mi_21 rfl, pm_inG pm_me_21 rfl⟩, by decide, Or.inr (Or.inr (Or.inl rfl))⟩
set_option maxRecDepth 100000 in
theorem pm_mk_22 : pm_Mk (yX2_readTurns, cX2_readTurns, 3, some (.boolean), 0, 2, false) := ⟨pm_inG pm_mc_22 rfl, pm_inG pm_in_2 rfl, by decide +kernel, rfl, by decide +kernel, ⟨pm_inG pm_mi_22 rfl, pm_inG pm_me_22 rfl⟩, by decide, Or.inr (Or.inr (Or.inl rfl))⟩
set_option maxRecDepth 100000 in
theorem pm_mk_23 : pm_Mk (yX2_readWord, cX2_readWord, 3, some (.boolean), 0, 2, false) := ⟨pm_inG pm_mc_23 rfl, pm_inG pm_in_2 rfl, by decide +kernel, rfl, by decide +kernel, ⟨pm_inG pm_mi_23 rfl, pm_inG pm_me_23 rfl⟩, by decide, Or.inr (Or.inr (Or.inl rfl))⟩
set_option maxRecDepth 100000 in
theorem pm_mk_24 : pm_Mk (yX2_readWorths, cX2_readWorths, 5, some (.boolean), 2, 2, false) := ⟨pm_inG pm_mc_24 rfl, pm_inG pm_in_2 rfl, by decide +kernel, rfl, by decide +kernel, ⟨pm_inG pm_mi_24 rfl, pm_inG pm_me_24 rfl⟩, by decide, Or.inr (Or.inr (Or.inl rfl))⟩
set_option maxRecDepth 100000 in
theorem pm_mk_25 : pm_Mk (yX2_readsInto, cX2_readsInto, 6, some (.boolean), 3, 2, false) := ⟨pm_inG pm_mc_25 rfl, pm_inG pm_in_2 rfl, by decide +kernel, rfl, by decide +kernel, ⟨pm_inG pm_mi_25 rfl, pm_inG pm_me_25 rfl⟩, by decide, Or.inr (Or.inr (Or.inl rfl))⟩
set_option maxRecDepth 100000 in
theorem pm_mk_26 : pm_Mk (yX2_symbolAtHand, cX2_symbolAtHand, 1, some (.int), 0, 2, false) := ⟨pm_inG pm_mc_26 rfl, pm_inG pm_in_2 rfl, by decide +kernel, rfl, by decide +kernel, ⟨pm_inG pm_mi_26 rfl, pm_inG pm_me_26 rfl⟩, by decide, Or.inr (Or.inl rfl)⟩
set_option maxRecDepth 100000 in
theorem pm_mk_27 : pm_Mk (yX3_better, cX3_better, 3, some (.int), 3, 3, true) := ⟨pm_inG pm_mc_27 rfl, pm_inG pm_in_3 rfl, by decide +kernel, rfl, by decide +kernel, pm_inG pm_ms_27 rfl, by decide, Or.inr (Or.inl rfl)⟩
set_option maxRecDepth 100000 in
theorem pm_mk_28 : pm_Mk (yX3_clearResults, cX3_clearResults, 4, none, 2, 3, false) := ⟨pm_inG pm_mc_28 rfl, pm_inG pm_in_3 rfl, by decide +kernel, rfl, by decide +kernel, ⟨pm_inG pm_mi_28 rfl, pm_inG pm_me_28 rfl⟩, by decide, Or.inl rfl⟩
set_option maxRecDepth 100000 in
theorem pm_mk_29 : pm_Mk (yX3_endOf, cX3_endOf, 3, some (.int), 1, 3, false) := ⟨pm_inG pm_mc_29 rfl, pm_inG pm_in_3 rfl, by decide +kernel, rfl, by decide +kernel, ⟨pm_inG pm_mi_29 rfl, pm_inG pm_me_29 rfl⟩, by decide, Or.inr (Or.inl rfl)⟩
set_option maxRecDepth 100000 in
theorem pm_mk_30 : pm_Mk (yX3_findLotEnds, cX3_findLotEnds, 4, none, 1, 3, false) := ⟨pm_inG pm_mc_30 rfl, pm_inG pm_in_3 rfl, by decide +kernel, rfl, by decide +kernel, ⟨pm_inG pm_mi_30 rfl, pm_inG pm_me_30 rfl⟩, by decide, Or.inl rfl⟩
set_option maxRecDepth 100000 in
theorem pm_mk_31 : pm_Mk (yX3_firstSwap, cX3_firstSwap, 9, some (.int), 2, 3, false) := ⟨pm_inG pm_mc_31 rfl, pm_inG pm_in_3 rfl, by decide +kernel, rfl, by decide +kernel, ⟨pm_inG pm_mi_31 rfl, pm_inG pm_me_31 rfl⟩, by decide, Or.inr (Or.inl rfl)⟩
set_option maxRecDepth 100000 in
theorem pm_mk_32 : pm_Mk (yX3_forget, cX3_forget, 1, none, 0, 3, false) := ⟨pm_inG pm_mc_32 rfl, pm_inG pm_in_3 rfl, by decide +kernel, rfl, by decide +kernel, ⟨pm_inG pm_mi_32 rfl, pm_inG pm_me_32 rfl⟩, by decide, Or.inl rfl⟩
set_option maxRecDepth 100000 in
theorem pm_mk_33 : pm_Mk (yX3_heldBy, cX3_heldBy, 6, some (.int), 2, 3, false) := ⟨pm_inG pm_mc_33 rfl, pm_inG pm_in_3 rfl, by decide +kernel, rfl, by decide +kernel, ⟨pm_inG pm_mi_33 rfl, pm_inG pm_me_33 rfl⟩, by decide, Or.inr (Or.inl rfl)⟩
set_option maxRecDepth 100000 in
theorem pm_mk_34 : pm_Mk (yX3_isBribed, cX3_isBribed, 3, some (.boolean), 2, 3, false) := ⟨pm_inG pm_mc_34 rfl, pm_inG pm_in_3 rfl, by decide +kernel, rfl, by decide +kernel, ⟨pm_inG pm_mi_34 rfl, pm_inG pm_me_34 rfl⟩, by decide, Or.inr (Or.inr (Or.inl rfl))⟩
set_option maxRecDepth 100000 in
theorem pm_mk_35 : pm_Mk (yX3_leastBribe, cX3_leastBribe, 6, some (.int), 3, 3, false) := ⟨pm_inG pm_mc_35 rfl, pm_inG pm_in_3 rfl, by decide +kernel, rfl, by decide +kernel, ⟨pm_inG pm_mi_35 rfl, pm_inG pm_me_35 rfl⟩, by decide, Or.inr (Or.inl rfl)⟩
set_option maxRecDepth 100000 in
theorem pm_mk_36 : pm_Mk (yX3_meansMore, cX3_meansMore, 4, some (.boolean), 4, 3, true) := ⟨pm_inG pm_mc_36 rfl, pm_inG pm_in_3 rfl, by decide +kernel, rfl, by decide +kernel, pm_inG pm_ms_36 rfl, by decide, Or.inr (Or.inr (Or.inl rfl))⟩
set_option maxRecDepth 100000 in
theorem pm_mk_37 : pm_Mk (yX3_offer, cX3_offer, 8, none, 3, 3, false) := ⟨pm_inG pm_mc_37 rfl, pm_inG pm_in_3 rfl, by decide +kernel, rfl, by decide +kernel, ⟨pm_inG pm_mi_37 rfl, pm_inG pm_me_37 rfl⟩, by decide, Or.inl rfl⟩
set_option maxRecDepth 100000 in
theorem pm_mk_38 : pm_Mk (yX3_sumOf, cX3_sumOf, 5, some (.int), 3, 3, true) := ⟨pm_inG pm_mc_38 rfl, pm_inG pm_in_3 rfl, by decide +kernel, rfl, by decide +kernel, pm_inG pm_ms_38 rfl, by decide, Or.inr (Or.inl rfl)⟩
set_option maxRecDepth 100000 in
theorem pm_mk_39 : pm_Mk (yX3_worthTo, cX3_worthTo, 5, some (.int), 3, 3, false) := ⟨pm_inG pm_mc_39 rfl, pm_inG pm_in_3 rfl, by decide +kernel, rfl, by decide +kernel, ⟨pm_inG pm_mi_39 rfl, pm_inG pm_me_39 rfl⟩, by decide, Or.inr (Or.inl rfl)⟩
set_option maxRecDepth 100000 in
theorem pm_mk_40 : pm_Mk (yX4_empty, cX4_empty, 2, none, 0, 4, false) := ⟨pm_inG pm_mc_40 rfl, pm_inG pm_in_4 rfl, by decide +kernel, rfl, by decide +kernel, ⟨pm_inG pm_mi_40 rfl, pm_inG pm_me_40 rfl⟩, by decide, Or.inl rfl⟩
set_option maxRecDepth 100000 in
theorem pm_mk_41 : pm_Mk (yX4_findShortest, cX4_findShortest, 7, none, 1, 4, false) := ⟨pm_inG pm_mc_41 rfl, pm_inG pm_in_4 rfl, by decide +kernel, rfl, by decide +kernel, ⟨pm_inG pm_mi_41 rfl, pm_inG pm_me_41 rfl⟩, by decide, Or.inl rfl⟩
set_option maxRecDepth 100000 in
theorem pm_mk_42 : pm_Mk (yX4_hasPlace, cX4_hasPlace, 2, some (.boolean), 1, 4, false) := ⟨pm_inG pm_mc_42 rfl, pm_inG pm_in_4 rfl, by decide +kernel, rfl, by decide +kernel, ⟨pm_inG pm_mi_42 rfl, pm_inG pm_me_42 rfl⟩, by decide, Or.inr (Or.inr (Or.inl rfl))⟩
set_option maxRecDepth 100000 in
theorem pm_mk_43 : pm_Mk (yX4_hasWord, cX4_hasWord, 2, some (.boolean), 1, 4, false) := ⟨pm_inG pm_mc_43 rfl, pm_inG pm_in_4 rfl, by decide +kernel, rfl, by decide +kernel, ⟨pm_inG pm_mi_43 rfl, pm_inG pm_me_43 rfl⟩, by decide, Or.inr (Or.inr (Or.inl rfl))⟩
set_option maxRecDepth 100000 in
theorem pm_mk_44 : pm_Mk (yX4_meaningBehind, cX4_meaningBehind, 5, some (.int), 3, 4, false) := ⟨pm_inG pm_mc_44 rfl, pm_inG pm_in_4 rfl, by decide +kernel, rfl, by decide +kernel, ⟨pm_inG pm_mi_44 rfl, pm_inG pm_me_44 rfl⟩, by decide, Or.inr (Or.inl rfl)⟩
set_option maxRecDepth 100000 in
theorem pm_mk_45 : pm_Mk (yX4_meaningOf, cX4_meaningOf, 6, some (.int), 3, 4, false) := ⟨pm_inG pm_mc_45 rfl, pm_inG pm_in_4 rfl, by decide +kernel, rfl, by decide +kernel, ⟨pm_inG pm_mi_45 rfl, pm_inG pm_me_45 rfl⟩, by decide, Or.inr (Or.inl rfl)⟩
set_option maxRecDepth 100000 in
theorem pm_mk_46 : pm_Mk (yX4_rulesNextTo, cX4_rulesNextTo, 7, some (.int), 2, 4, false) := ⟨pm_inG pm_mc_46 rfl, pm_inG pm_in_4 rfl, by decide +kernel, rfl, by decide +kernel, ⟨pm_inG pm_mi_46 rfl, pm_inG pm_me_46 rfl⟩, by decide, Or.inr (Or.inl rfl)⟩
set_option maxRecDepth 100000 in
theorem pm_mk_47 : pm_Mk (yX4_rulesOfUse, cX4_rulesOfUse, 5, some (.int), 1, 4, false) := ⟨pm_inG pm_mc_47 rfl, pm_inG pm_in_4 rfl, by decide +kernel, rfl, by decide +kernel, ⟨pm_inG pm_mi_47 rfl, pm_inG pm_me_47 rfl⟩, by decide, Or.inr (Or.inl rfl)⟩
set_option maxRecDepth 100000 in
theorem pm_mk_48 : pm_Mk (yX4_sizeOfAlt, cX4_sizeOfAlt, 6, some (.int), 2, 4, false) := ⟨pm_inG pm_mc_48 rfl, pm_inG pm_in_4 rfl, by decide +kernel, rfl, by decide +kernel, ⟨pm_inG pm_mi_48 rfl, pm_inG pm_me_48 rfl⟩, by decide, Or.inr (Or.inl rfl)⟩
set_option maxRecDepth 100000 in
theorem pm_mk_49 : pm_Mk (yX4_symbolOf, cX4_symbolOf, 4, some (.int), 1, 4, false) := ⟨pm_inG pm_mc_49 rfl, pm_inG pm_in_4 rfl, by decide +kernel, rfl, by decide +kernel, ⟨pm_inG pm_mi_49 rfl, pm_inG pm_me_49 rfl⟩, by decide, Or.inr (Or.inl rfl)⟩
set_option maxRecDepth 100000 in
theorem pm_mk_50 : pm_Mk (yX4_turnAt, cX4_turnAt, 2, some (.int), 1, 4, false) := ⟨pm_inG pm_mc_50 rfl, pm_inG pm_in_4 rfl, by decide +kernel, rfl, by decide +kernel, ⟨pm_inG pm_mi_50 rfl, pm_inG pm_me_50 rfl⟩, by decide, Or.inr (Or.inl rfl)⟩
set_option maxRecDepth 100000 in
theorem pm_mk_51 : pm_Mk (yX5_beginColumn, cX5_beginColumn, 9, none, 3, 5, false) := ⟨pm_inG pm_mc_51 rfl, pm_inG pm_in_5 rfl, by decide +kernel, rfl, by decide +kernel, ⟨pm_inG pm_mi_51 rfl, pm_inG pm_me_51 rfl⟩, by decide, Or.inl rfl⟩
set_option maxRecDepth 100000 in
theorem pm_mk_52 : pm_Mk (yX5_fillColumn, cX5_fillColumn, 12, none, 4, 5, false) := ⟨pm_inG pm_mc_52 rfl, pm_inG pm_in_5 rfl, by decide +kernel, rfl, by decide +kernel, ⟨pm_inG pm_mi_52 rfl, pm_inG pm_me_52 rfl⟩, by decide, Or.inl rfl⟩
set_option maxRecDepth 100000 in
theorem pm_mk_53 : pm_Mk (yX5_goOn, cX5_goOn, 5, none, 2, 5, false) := ⟨pm_inG pm_mc_53 rfl, pm_inG pm_in_5 rfl, by decide +kernel, rfl, by decide +kernel, ⟨pm_inG pm_mi_53 rfl, pm_inG pm_me_53 rfl⟩, by decide, Or.inl rfl⟩
set_option maxRecDepth 100000 in
theorem pm_mk_54 : pm_Mk (yX5_nextWords, cX5_nextWords, 5, some (.int), 2, 5, false) := ⟨pm_inG pm_mc_54 rfl, pm_inG pm_in_5 rfl, by decide +kernel, rfl, by decide +kernel, ⟨pm_inG pm_mi_54 rfl, pm_inG pm_me_54 rfl⟩, by decide, Or.inr (Or.inl rfl)⟩
set_option maxRecDepth 100000 in
theorem pm_mk_55 : pm_Mk (yX5_readBeginning, cX5_readBeginning, 5, none, 3, 5, false) := ⟨pm_inG pm_mc_55 rfl, pm_inG pm_in_5 rfl, by decide +kernel, rfl, by decide +kernel, ⟨pm_inG pm_mi_55 rfl, pm_inG pm_me_55 rfl⟩, by decide, Or.inl rfl⟩
set_option maxRecDepth 100000 in
theorem pm_mk_56 : pm_Mk (yX5_startsOfAlt, cX5_startsOfAlt, 14, some (.long), 3, 5, false) := ⟨pm_inG pm_mc_56 rfl, pm_inG pm_in_5 rfl, by decide +kernel, rfl, by decide +kernel, ⟨pm_inG pm_mi_56 rfl, pm_inG pm_me_56 rfl⟩, by decide, Or.inr (Or.inr (Or.inr (Or.inl rfl)))⟩
set_option maxRecDepth 100000 in
theorem pm_mk_57 : pm_Mk (yX6_agree, cX6_agree, 7, some (.boolean), 3, 6, false) := ⟨pm_inG pm_mc_57 rfl, pm_inG pm_in_6 rfl, by decide +kernel, rfl, by decide +kernel, ⟨pm_inG pm_mi_57 rfl, pm_inG pm_me_57 rfl⟩, by decide, Or.inr (Or.inr (Or.inl rfl))⟩
set_option maxRecDepth 100000 in
theorem pm_mk_58 : pm_Mk (yX6_takeBack, cX6_takeBack, 2, some (.boolean), 1, 6, false) := ⟨pm_inG pm_mc_58 rfl, pm_inG pm_in_6 rfl, by decide +kernel, rfl, by decide +kernel, ⟨pm_inG pm_mi_58 rfl, pm_inG pm_me_58 rfl⟩, by decide, Or.inr (Or.inr (Or.inl rfl))⟩
set_option maxRecDepth 100000 in
theorem pm_mk_59 : pm_Mk (yX6_tell, cX6_tell, 4, some (.int), 3, 6, false) := ⟨pm_inG pm_mc_59 rfl, pm_inG pm_in_6 rfl, by decide +kernel, rfl, by decide +kernel, ⟨pm_inG pm_mi_59 rfl, pm_inG pm_me_59 rfl⟩, by decide, Or.inr (Or.inl rfl)⟩
set_option maxRecDepth 100000 in
theorem pm_mk_60 : pm_Mk (yX7_countOf, cX7_countOf, 6, some (.int), 3, 7, false) := ⟨pm_inG pm_mc_60 rfl, pm_inG pm_in_7 rfl, by decide +kernel, rfl, by decide +kernel, ⟨pm_inG pm_mi_60 rfl, pm_inG pm_me_60 rfl⟩, by decide, Or.inr (Or.inl rfl)⟩
set_option maxRecDepth 100000 in
theorem pm_mk_61 : pm_Mk (yX7_fillColumn, cX7_fillColumn, 9, none, 2, 7, false) := ⟨pm_inG pm_mc_61 rfl, pm_inG pm_in_7 rfl, by decide +kernel, rfl, by decide +kernel, ⟨pm_inG pm_mi_61 rfl, pm_inG pm_me_61 rfl⟩, by decide, Or.inl rfl⟩
set_option maxRecDepth 100000 in
theorem pm_mk_62 : pm_Mk (yX7_forget, cX7_forget, 1, none, 0, 7, false) := ⟨pm_inG pm_mc_62 rfl, pm_inG pm_in_7 rfl, by decide +kernel, rfl, by decide +kernel, ⟨pm_inG pm_mi_62 rfl, pm_inG pm_me_62 rfl⟩, by decide, Or.inl rfl⟩
set_option maxRecDepth 100000 in
theorem pm_mk_63 : pm_Mk (yX7_waysOfAlt, cX7_waysOfAlt, 12, some (.int), 5, 7, false) := ⟨pm_inG pm_mc_63 rfl, pm_inG pm_in_7 rfl, by decide +kernel, rfl, by decide +kernel, ⟨pm_inG pm_mi_63 rfl, pm_inG pm_me_63 rfl⟩, by decide, Or.inr (Or.inl rfl)⟩
set_option maxRecDepth 100000 in
theorem pm_mk_64 : pm_Mk (yX8_advance, cX8_advance, 2, none, 0, 8, false) := ⟨pm_inG pm_mc_64 rfl, pm_inG pm_in_8 rfl, by decide +kernel, rfl, by decide +kernel, ⟨pm_inG pm_mi_64 rfl, pm_inG pm_me_64 rfl⟩, by decide, Or.inl rfl⟩
set_option maxRecDepth 100000 in
theorem pm_mk_65 : pm_Mk (yX8_begin, cX8_begin, 3, none, 2, 8, false) := ⟨pm_inG pm_mc_65 rfl, pm_inG pm_in_8 rfl, by decide +kernel, rfl, by decide +kernel, ⟨pm_inG pm_mi_65 rfl, pm_inG pm_me_65 rfl⟩, by decide, Or.inl rfl⟩
set_option maxRecDepth 100000 in
theorem pm_mk_66 : pm_Mk (yX8_refuse, cX8_refuse, 2, some (.boolean), 1, 8, false) := ⟨pm_inG pm_mc_66 rfl, pm_inG pm_in_8 rfl, by decide +kernel, rfl, by decide +kernel, ⟨pm_inG pm_mi_66 rfl, pm_inG pm_me_66 rfl⟩, by decide, Or.inr (Or.inr (Or.inl rfl))⟩
set_option maxRecDepth 100000 in
theorem pm_mk_67 : pm_Mk (yX8_takeDigits, cX8_takeDigits, 2, none, 0, 8, false) := ⟨pm_inG pm_mc_67 rfl, pm_inG pm_in_8 rfl, by decide +kernel, rfl, by decide +kernel, ⟨pm_inG pm_mi_67 rfl, pm_inG pm_me_67 rfl⟩, by decide, Or.inl rfl⟩
set_option maxRecDepth 100000 in
theorem pm_mk_68 : pm_Mk (yX8_takeLetters, cX8_takeLetters, 2, none, 0, 8, false) := ⟨pm_inG pm_mc_68 rfl, pm_inG pm_in_8 rfl, by decide +kernel, rfl, by decide +kernel, ⟨pm_inG pm_mi_68 rfl, pm_inG pm_me_68 rfl⟩, by decide, Or.inl rfl⟩
set_option maxRecDepth 100000 in
theorem pm_mk_69 : pm_Mk (yX9_add, cX9_add, 6, none, 3, 9, false) := ⟨pm_inG pm_mc_69 rfl, pm_inG pm_in_9 rfl, by decide +kernel, rfl, by decide +kernel, ⟨pm_inG pm_mi_69 rfl, pm_inG pm_me_69 rfl⟩, by decide, Or.inl rfl⟩
set_option maxRecDepth 100000 in
theorem pm_mk_70 : pm_Mk (yX9_addRoot, cX9_addRoot, 4, none, 2, 9, false) := ⟨pm_inG pm_mc_70 rfl, pm_inG pm_in_9 rfl, by decide +kernel, rfl, by decide +kernel, ⟨pm_inG pm_mi_70 rfl, pm_inG pm_me_70 rfl⟩, by decide, Or.inl rfl⟩
set_option maxRecDepth 100000 in
theorem pm_mk_71 : pm_Mk (yX9_forget, cX9_forget, 1, none, 0, 9, false) := ⟨pm_inG pm_mc_71 rfl, pm_inG pm_in_9 rfl, by decide +kernel, rfl, by decide +kernel, ⟨pm_inG pm_mi_71 rfl, pm_inG pm_me_71 rfl⟩, by decide, Or.inl rfl⟩
set_option maxRecDepth 100000 in
theorem pm_mk_72 : pm_Mk (yX9_grow, cX9_grow, 8, none, 3, 9, false) := ⟨pm_inG pm_mc_72 rfl, pm_inG pm_in_9 rfl, by decide +kernel, rfl, by decide +kernel, ⟨pm_inG pm_mi_72 rfl, pm_inG pm_me_72 rfl⟩, by decide, Or.inl rfl⟩
set_option maxRecDepth 100000 in
theorem pm_mk_73 : pm_Mk (yX9_growBehind, cX9_growBehind, 5, none, 4, 9, false) := ⟨pm_inG pm_mc_73 rfl, pm_inG pm_in_9 rfl, by decide +kernel, rfl, by decide +kernel, ⟨pm_inG pm_mi_73 rfl, pm_inG pm_me_73 rfl⟩, by decide, Or.inl rfl⟩
set_option maxRecDepth 100000 in
theorem pm_mk_74 : pm_Mk (yX9_growFrom, cX9_growFrom, 8, none, 5, 9, false) := ⟨pm_inG pm_mc_74 rfl, pm_inG pm_in_9 rfl, by decide +kernel, rfl, by decide +kernel, ⟨pm_inG pm_mi_74 rfl, pm_inG pm_me_74 rfl⟩, by decide, Or.inl rfl⟩
set_option maxRecDepth 100000 in
theorem pm_mk_75 : pm_Mk (yX9_hasCharters, cX9_hasCharters, 1, some (.boolean), 0, 9, false) := ⟨pm_inG pm_mc_75 rfl, pm_inG pm_in_9 rfl, by decide +kernel, rfl, by decide +kernel, ⟨pm_inG pm_mi_75 rfl, pm_inG pm_me_75 rfl⟩, by decide, Or.inr (Or.inr (Or.inl rfl))⟩
set_option maxRecDepth 100000 in
theorem pm_mk_76 : pm_Mk (yX9_isCharter, cX9_isCharter, 2, some (.boolean), 1, 9, false) := ⟨pm_inG pm_mc_76 rfl, pm_inG pm_in_9 rfl, by decide +kernel, rfl, by decide +kernel, ⟨pm_inG pm_mi_76 rfl, pm_inG pm_me_76 rfl⟩, by decide, Or.inr (Or.inr (Or.inl rfl))⟩
set_option maxRecDepth 100000 in
theorem pm_mk_77 : pm_Mk (yX9_wordAt, cX9_wordAt, 3, some (.int), 2, 9, false) := ⟨pm_inG pm_mc_77 rfl, pm_inG pm_in_9 rfl, by decide +kernel, rfl, by decide +kernel, ⟨pm_inG pm_mi_77 rfl, pm_inG pm_me_77 rfl⟩, by decide, Or.inr (Or.inl rfl)⟩
set_option maxRecDepth 100000 in
theorem pm_mk_78 : pm_Mk (yX9_wordsInto, cX9_wordsInto, 4, none, 2, 9, false) := ⟨pm_inG pm_mc_78 rfl, pm_inG pm_in_9 rfl, by decide +kernel, rfl, by decide +kernel, ⟨pm_inG pm_mi_78 rfl, pm_inG pm_me_78 rfl⟩, by decide, Or.inl rfl⟩
set_option maxRecDepth 100000 in
theorem pm_mk_79 : pm_Mk (yX10_about, cX10_about, 2, some (.int), 1, 10, false) := ⟨pm_inG pm_mc_79 rfl, pm_inG pm_in_10 rfl, by decide +kernel, rfl, by decide +kernel, ⟨pm_inG pm_mi_79 rfl, pm_inG pm_me_79 rfl⟩, by decide, Or.inr (Or.inl rfl)⟩
set_option maxRecDepth 100000 in
theorem pm_mk_80 : pm_Mk (yX10_back, cX10_back, 2, some (.int), 1, 10, false) := ⟨pm_inG pm_mc_80 rfl, pm_inG pm_in_10 rfl, by decide +kernel, rfl, by decide +kernel, ⟨pm_inG pm_mi_80 rfl, pm_inG pm_me_80 rfl⟩, by decide, Or.inr (Or.inl rfl)⟩
set_option maxRecDepth 100000 in
theorem pm_mk_81 : pm_Mk (yX10_behind, cX10_behind, 4, some (.int), 3, 10, false) := ⟨pm_inG pm_mc_81 rfl, pm_inG pm_in_10 rfl, by decide +kernel, rfl, by decide +kernel, ⟨pm_inG pm_mi_81 rfl, pm_inG pm_me_81 rfl⟩, by decide, Or.inr (Or.inl rfl)⟩
set_option maxRecDepth 100000 in
theorem pm_mk_82 : pm_Mk (yX10_best, cX10_best, 5, some (.int), 1, 10, false) := ⟨pm_inG pm_mc_82 rfl, pm_inG pm_in_10 rfl, by decide +kernel, rfl, by decide +kernel, ⟨pm_inG pm_mi_82 rfl, pm_inG pm_me_82 rfl⟩, by decide, Or.inr (Or.inl rfl)⟩
set_option maxRecDepth 100000 in
theorem pm_mk_83 : pm_Mk (yX10_bribe, cX10_bribe, 4, some (.int), 2, 10, false) := ⟨pm_inG pm_mc_83 rfl, pm_inG pm_in_10 rfl, by decide +kernel, rfl, by decide +kernel, ⟨pm_inG pm_mi_83 rfl, pm_inG pm_me_83 rfl⟩, by decide, Or.inr (Or.inl rfl)⟩
set_option maxRecDepth 100000 in
theorem pm_mk_84 : pm_Mk (yX10_doubtful, cX10_doubtful, 4, some (.int), 0, 10, false) := ⟨pm_inG pm_mc_84 rfl, pm_inG pm_in_10 rfl, by decide +kernel, rfl, by decide +kernel, ⟨pm_inG pm_mi_84 rfl, pm_inG pm_me_84 rfl⟩, by decide, Or.inr (Or.inl rfl)⟩
set_option maxRecDepth 100000 in
theorem pm_mk_85 : pm_Mk (yX10_end, cX10_end, 2, some (.int), 1, 10, false) := ⟨pm_inG pm_mc_85 rfl, pm_inG pm_in_10 rfl, by decide +kernel, rfl, by decide +kernel, ⟨pm_inG pm_mi_85 rfl, pm_inG pm_me_85 rfl⟩, by decide, Or.inr (Or.inl rfl)⟩
set_option maxRecDepth 100000 in
theorem pm_mk_86 : pm_Mk (yX10_fault, cX10_fault, 2, some (.int), 1, 10, false) := ⟨pm_inG pm_mc_86 rfl, pm_inG pm_in_10 rfl, by decide +kernel, rfl, by decide +kernel, ⟨pm_inG pm_mi_86 rfl, pm_inG pm_me_86 rfl⟩, by decide, Or.inr (Or.inl rfl)⟩
set_option maxRecDepth 100000 in
theorem pm_mk_87 : pm_Mk (yX10_feed, cX10_feed, 6, some (.int), 5, 10, false) := ⟨pm_inG pm_mc_87 rfl, pm_inG pm_in_10 rfl, by decide +kernel, rfl, by decide +kernel, ⟨pm_inG pm_mi_87 rfl, pm_inG pm_me_87 rfl⟩, by decide, Or.inr (Or.inl rfl)⟩
set_option maxRecDepth 100000 in
theorem pm_mk_88 : pm_Mk (yX10_fit, cX10_fit, 4, some (.int), 0, 10, false) := ⟨pm_inG pm_mc_88 rfl, pm_inG pm_in_10 rfl, by decide +kernel, rfl, by decide +kernel, ⟨pm_inG pm_mi_88 rfl, pm_inG pm_me_88 rfl⟩, by decide, Or.inr (Or.inl rfl)⟩
set_option maxRecDepth 100000 in
theorem pm_mk_89 : pm_Mk (yX10_forgetOldPort, cX10_forgetOldPort, 2, none, 0, 10, false) := ⟨pm_inG pm_mc_89 rfl, pm_inG pm_in_10 rfl, by decide +kernel, rfl, by decide +kernel, ⟨pm_inG pm_mi_89 rfl, pm_inG pm_me_89 rfl⟩, by decide, Or.inl rfl⟩
set_option maxRecDepth 100000 in
theorem pm_mk_90 : pm_Mk (yX10_growEarnest, cX10_growEarnest, 2, some (.object "GuildCharter$Tree"), 0, 10, false) := ⟨pm_inG pm_mc_90 rfl, pm_inG pm_in_10 rfl, by decide +kernel, rfl, by decide +kernel, ⟨pm_inG pm_mi_90 rfl, pm_inG pm_me_90 rfl⟩, by decide, Or.inr (Or.inr (Or.inr (Or.inr ⟨_, rfl⟩)))⟩
set_option maxRecDepth 100000 in
theorem pm_mk_91 : pm_Mk (yX10_growHoles, cX10_growHoles, 2, some (.object "GuildCharter$Tree"), 0, 10, false) := ⟨pm_inG pm_mc_91 rfl, pm_inG pm_in_10 rfl, by decide +kernel, rfl, by decide +kernel, ⟨pm_inG pm_mi_91 rfl, pm_inG pm_me_91 rfl⟩, by decide, Or.inr (Or.inr (Or.inr (Or.inr ⟨_, rfl⟩)))⟩
set_option maxRecDepth 100000 in
theorem pm_mk_92 : pm_Mk (yX10_growWhole, cX10_growWhole, 1, some (.object "GuildCharter$Tree"), 0, 10, false) := ⟨pm_inG pm_mc_92 rfl, pm_inG pm_in_10 rfl, by decide +kernel, rfl, by decide +kernel, ⟨pm_inG pm_mi_92 rfl, pm_inG pm_me_92 rfl⟩, by decide, Or.inr (Or.inr (Or.inr (Or.inr ⟨_, rfl⟩)))⟩
set_option maxRecDepth 100000 in
theorem pm_mk_93 : pm_Mk (yX10_held, cX10_held, 3, some (.int), 1, 10, false) := ⟨pm_inG pm_mc_93 rfl, pm_inG pm_in_10 rfl, by decide +kernel, rfl, by decide +kernel, ⟨pm_inG pm_mi_93 rfl, pm_inG pm_me_93 rfl⟩, by decide, Or.inr (Or.inl rfl)⟩
set_option maxRecDepth 100000 in
theorem pm_mk_94 : pm_Mk (yX10_hole, cX10_hole, 4, some (.boolean), 2, 10, false) := ⟨pm_inG pm_mc_94 rfl, pm_inG pm_in_10 rfl, by decide +kernel, rfl, by decide +kernel, ⟨pm_inG pm_mi_94 rfl, pm_inG pm_me_94 rfl⟩, by decide, Or.inr (Or.inr (Or.inl rfl))⟩
set_option maxRecDepth 100000 in
theorem pm_mk_95 : pm_Mk (yX10_image, cX10_image, 2, some (.int), 1, 10, false) := ⟨pm_inG pm_mc_95 rfl, pm_inG pm_in_10 rfl, by decide +kernel, rfl, by decide +kernel, ⟨pm_inG pm_mi_95 rfl, pm_inG pm_me_95 rfl⟩, by decide, Or.inr (Or.inl rfl)⟩
set_option maxRecDepth 100000 in
theorem pm_mk_96 : pm_Mk (yX10_isGuild, cX10_isGuild, 1, some (.boolean), 1, 10, true) := ⟨pm_inG pm_mc_96 rfl, pm_inG pm_in_10 rfl, by decide +kernel, rfl, by decide +kernel, pm_inG pm_ms_96 rfl, by decide, Or.inr (Or.inr (Or.inl rfl))⟩
set_option maxRecDepth 100000 in
theorem pm_mk_97 : pm_Mk (yX10_isUnwritten, cX10_isUnwritten, 2, some (.boolean), 1, 10, false) := ⟨pm_inG pm_mc_97 rfl, pm_inG pm_in_10 rfl, by decide +kernel, rfl, by decide +kernel, ⟨pm_inG pm_mi_97 rfl, pm_inG pm_me_97 rfl⟩, by decide, Or.inr (Or.inr (Or.inl rfl))⟩
set_option maxRecDepth 100000 in
theorem pm_mk_98 : pm_Mk (yX10_later, cX10_later, 2, some (.int), 1, 10, false) := ⟨pm_inG pm_mc_98 rfl, pm_inG pm_in_10 rfl, by decide +kernel, rfl, by decide +kernel, ⟨pm_inG pm_mi_98 rfl, pm_inG pm_me_98 rfl⟩, by decide, Or.inr (Or.inl rfl)⟩
set_option maxRecDepth 100000 in
theorem pm_mk_99 : pm_Mk (yX10_lay, cX10_lay, 4, none, 2, 10, false) := ⟨pm_inG pm_mc_99 rfl, pm_inG pm_in_10 rfl, by decide +kernel, rfl, by decide +kernel, ⟨pm_inG pm_mi_99 rfl, pm_inG pm_me_99 rfl⟩, by decide, Or.inl rfl⟩
set_option maxRecDepth 100000 in
theorem pm_mk_100 : pm_Mk (yX10_lies, cX10_lies, 2, some (.int), 1, 10, false) := ⟨pm_inG pm_mc_100 rfl, pm_inG pm_in_10 rfl, by decide +kernel, rfl, by decide +kernel, ⟨pm_inG pm_mi_100 rfl, pm_inG pm_me_100 rfl⟩, by decide, Or.inr (Or.inl rfl)⟩
set_option maxRecDepth 100000 in
theorem pm_mk_101 : pm_Mk (yX10_lots, cX10_lots, 5, some (.int), 1, 10, false) := ⟨pm_inG pm_mc_101 rfl, pm_inG pm_in_10 rfl, by decide +kernel, rfl, by decide +kernel, ⟨pm_inG pm_mi_101 rfl, pm_inG pm_me_101 rfl⟩, by decide, Or.inr (Or.inl rfl)⟩
set_option maxRecDepth 100000 in
theorem pm_mk_102 : pm_Mk (yX10_means, cX10_means, 2, some (.int), 1, 10, false) := ⟨pm_inG pm_mc_102 rfl, pm_inG pm_in_10 rfl, by decide +kernel, rfl, by decide +kernel, ⟨pm_inG pm_mi_102 rfl, pm_inG pm_me_102 rfl⟩, by decide, Or.inr (Or.inl rfl)⟩
set_option maxRecDepth 100000 in
theorem pm_mk_103 : pm_Mk (yX10_next, cX10_next, 1, some (.int), 0, 10, false) := ⟨pm_inG pm_mc_103 rfl, pm_inG pm_in_10 rfl, by decide +kernel, rfl, by decide +kernel, ⟨pm_inG pm_mi_103 rfl, pm_inG pm_me_103 rfl⟩, by decide, Or.inr (Or.inl rfl)⟩
set_option maxRecDepth 100000 in
theorem pm_mk_104 : pm_Mk (yX10_nextInEarnest, cX10_nextInEarnest, 1, some (.int), 0, 10, false) := ⟨pm_inG pm_mc_104 rfl, pm_inG pm_in_10 rfl, by decide +kernel, rfl, by decide +kernel, ⟨pm_inG pm_mi_104 rfl, pm_inG pm_me_104 rfl⟩, by decide, Or.inr (Or.inl rfl)⟩
set_option maxRecDepth 100000 in
theorem pm_mk_105 : pm_Mk (yX10_orders, cX10_orders, 5, some (.int), 1, 10, false) := ⟨pm_inG pm_mc_105 rfl, pm_inG pm_in_10 rfl, by decide +kernel, rfl, by decide +kernel, ⟨pm_inG pm_mi_105 rfl, pm_inG pm_me_105 rfl⟩, by decide, Or.inr (Or.inl rfl)⟩
set_option maxRecDepth 100000 in
theorem pm_mk_106 : pm_Mk (yX10_ownAsInEarnest, cX10_ownAsInEarnest, 2, none, 0, 10, false) := ⟨pm_inG pm_mc_106 rfl, pm_inG pm_in_10 rfl, by decide +kernel, rfl, by decide +kernel, ⟨pm_inG pm_mi_106 rfl, pm_inG pm_me_106 rfl⟩, by decide, Or.inl rfl⟩
set_option maxRecDepth 100000 in
theorem pm_mk_107 : pm_Mk (yX10_ownerInEarnest, cX10_ownerInEarnest, 2, some (.int), 1, 10, false) := ⟨pm_inG pm_mc_107 rfl, pm_inG pm_in_10 rfl, by decide +kernel, rfl, by decide +kernel, ⟨pm_inG pm_mi_107 rfl, pm_inG pm_me_107 rfl⟩, by decide, Or.inr (Or.inl rfl)⟩
set_option maxRecDepth 100000 in
theorem pm_mk_108 : pm_Mk (yX10_port, cX10_port, 2, some (.int), 0, 10, false) := ⟨pm_inG pm_mc_108 rfl, pm_inG pm_in_10 rfl, by decide +kernel, rfl, by decide +kernel, ⟨pm_inG pm_mi_108 rfl, pm_inG pm_me_108 rfl⟩, by decide, Or.inr (Or.inl rfl)⟩
set_option maxRecDepth 100000 in
theorem pm_mk_109 : pm_Mk (yX10_readings, cX10_readings, 1, some (.int), 0, 10, false) := ⟨pm_inG pm_mc_109 rfl, pm_inG pm_in_10 rfl, by decide +kernel, rfl, by decide +kernel, ⟨pm_inG pm_mi_109 rfl, pm_inG pm_me_109 rfl⟩, by decide, Or.inr (Or.inl rfl)⟩
set_option maxRecDepth 100000 in
theorem pm_mk_110 : pm_Mk (yX10_redo, cX10_redo, 1, some (.boolean), 0, 10, false) := ⟨pm_inG pm_mc_110 rfl, pm_inG pm_in_10 rfl, by decide +kernel, rfl, by decide +kernel, ⟨pm_inG pm_mi_110 rfl, pm_inG pm_me_110 rfl⟩, by decide, Or.inr (Or.inr (Or.inl rfl))⟩
set_option maxRecDepth 100000 in
theorem pm_mk_111 : pm_Mk (yX10_seen, cX10_seen, 4, some (.int), 3, 10, false) := ⟨pm_inG pm_mc_111 rfl, pm_inG pm_in_10 rfl, by decide +kernel, rfl, by decide +kernel, ⟨pm_inG pm_mi_111 rfl, pm_inG pm_me_111 rfl⟩, by decide, Or.inr (Or.inl rfl)⟩
set_option maxRecDepth 100000 in
theorem pm_mk_112 : pm_Mk (yX10_sell, cX10_sell, 4, some (.int), 2, 10, false) := ⟨pm_inG pm_mc_112 rfl, pm_inG pm_in_10 rfl, by decide +kernel, rfl, by decide +kernel, ⟨pm_inG pm_mi_112 rfl, pm_inG pm_me_112 rfl⟩, by decide, Or.inr (Or.inl rfl)⟩
set_option maxRecDepth 100000 in
theorem pm_mk_113 : pm_Mk (yX10_share, cX10_share, 6, some (.int), 2, 10, false) := ⟨pm_inG pm_mc_113 rfl, pm_inG pm_in_10 rfl, by decide +kernel, rfl, by decide +kernel, ⟨pm_inG pm_mi_113 rfl, pm_inG pm_me_113 rfl⟩, by decide, Or.inr (Or.inl rfl)⟩
set_option maxRecDepth 100000 in
theorem pm_mk_114 : pm_Mk (yX10_shortest, cX10_shortest, 2, some (.int), 1, 10, false) := ⟨pm_inG pm_mc_114 rfl, pm_inG pm_in_10 rfl, by decide +kernel, rfl, by decide +kernel, ⟨pm_inG pm_mi_114 rfl, pm_inG pm_me_114 rfl⟩, by decide, Or.inr (Or.inl rfl)⟩
set_option maxRecDepth 100000 in
theorem pm_mk_115 : pm_Mk (yX10_sixShares, cX10_sixShares, 7, some (.int), 2, 10, false) := ⟨pm_inG pm_mc_115 rfl, pm_inG pm_in_10 rfl, by decide +kernel, rfl, by decide +kernel, ⟨pm_inG pm_mi_115 rfl, pm_inG pm_me_115 rfl⟩, by decide, Or.inr (Or.inl rfl)⟩
set_option maxRecDepth 100000 in
theorem pm_mk_116 : pm_Mk (yX10_struck, cX10_struck, 7, some (.int), 1, 10, false) := ⟨pm_inG pm_mc_116 rfl, pm_inG pm_in_10 rfl, by decide +kernel, rfl, by decide +kernel, ⟨pm_inG pm_mi_116 rfl, pm_inG pm_me_116 rfl⟩, by decide, Or.inr (Or.inl rfl)⟩
set_option maxRecDepth 100000 in
theorem pm_mk_117 : pm_Mk (yX10_swap, cX10_swap, 2, some (.int), 0, 10, false) := ⟨pm_inG pm_mc_117 rfl, pm_inG pm_in_10 rfl, by decide +kernel, rfl, by decide +kernel, ⟨pm_inG pm_mi_117 rfl, pm_inG pm_me_117 rfl⟩, by decide, Or.inr (Or.inl rfl)⟩
set_option maxRecDepth 100000 in
theorem pm_mk_118 : pm_Mk (yX10_tapeNumber, cX10_tapeNumber, 3, none, 1, 10, false) := ⟨pm_inG pm_mc_118 rfl, pm_inG pm_in_10 rfl, by decide +kernel, rfl, by decide +kernel, ⟨pm_inG pm_mi_118 rfl, pm_inG pm_me_118 rfl⟩, by decide, Or.inl rfl⟩
set_option maxRecDepth 100000 in
theorem pm_mk_119 : pm_Mk (yX10_turn, cX10_turn, 2, some (.int), 1, 10, false) := ⟨pm_inG pm_mc_119 rfl, pm_inG pm_in_10 rfl, by decide +kernel, rfl, by decide +kernel, ⟨pm_inG pm_mi_119 rfl, pm_inG pm_me_119 rfl⟩, by decide, Or.inr (Or.inl rfl)⟩
set_option maxRecDepth 100000 in
theorem pm_mk_120 : pm_Mk (yX10_undo, cX10_undo, 1, some (.boolean), 0, 10, false) := ⟨pm_inG pm_mc_120 rfl, pm_inG pm_in_10 rfl, by decide +kernel, rfl, by decide +kernel, ⟨pm_inG pm_mi_120 rfl, pm_inG pm_me_120 rfl⟩, by decide, Or.inr (Or.inr (Or.inl rfl))⟩
set_option maxRecDepth 100000 in
theorem pm_mk_121 : pm_Mk (yX10_untell, cX10_untell, 2, some (.boolean), 1, 10, false) := ⟨pm_inG pm_mc_121 rfl, pm_inG pm_in_10 rfl, by decide +kernel, rfl, by decide +kernel, ⟨pm_inG pm_mi_121 rfl, pm_inG pm_me_121 rfl⟩, by decide, Or.inr (Or.inr (Or.inl rfl))⟩
set_option maxRecDepth 100000 in
theorem pm_mk_122 : pm_Mk (yX10_used, cX10_used, 1, some (.int), 0, 10, false) := ⟨pm_inG pm_mc_122 rfl, pm_inG pm_in_10 rfl, by decide +kernel, rfl, by decide +kernel, ⟨pm_inG pm_mi_122 rfl, pm_inG pm_me_122 rfl⟩, by decide, Or.inr (Or.inl rfl)⟩
set_option maxRecDepth 100000 in
theorem pm_mk_123 : pm_Mk (yX10_wipe, cX10_wipe, 2, some (.int), 0, 10, false) := ⟨pm_inG pm_mc_123 rfl, pm_inG pm_in_10 rfl, by decide +kernel, rfl, by decide +kernel, ⟨pm_inG pm_mi_123 rfl, pm_inG pm_me_123 rfl⟩, by decide, Or.inr (Or.inl rfl)⟩
set_option maxRecDepth 100000 in
theorem pm_mk_124 : pm_Mk (yX10_word, cX10_word, 2, some (.int), 1, 10, false) := ⟨pm_inG pm_mc_124 rfl, pm_inG pm_in_10 rfl, by decide +kernel, rfl, by decide +kernel, ⟨pm_inG pm_mi_124 rfl, pm_inG pm_me_124 rfl⟩, by decide, Or.inr (Or.inl rfl)⟩
set_option maxRecDepth 100000 in
theorem pm_mk_125 : pm_Mk (yX10_worth, cX10_worth, 3, some (.int), 2, 10, false) := ⟨pm_inG pm_mc_125 rfl, pm_inG pm_in_10 rfl, by decide +kernel, rfl, by decide +kernel, ⟨pm_inG pm_mi_125 rfl, pm_inG pm_me_125 rfl⟩, by decide, Or.inr (Or.inl rfl)⟩
set_option maxRecDepth 100000 in
theorem pm_mk_126 : pm_Mk (yX10_write, cX10_write, 2, some (.int), 1, 10, false) := ⟨pm_inG pm_mc_126 rfl, pm_inG pm_in_10 rfl, by decide +kernel, rfl, by decide +kernel, ⟨pm_inG pm_mi_126 rfl, pm_inG pm_me_126 rfl⟩, by decide, Or.inr (Or.inl rfl)⟩
set_option maxRecDepth 100000 in
theorem pm_mk_127 : pm_Mk (yX10_written, cX10_written, 4, some (.int), 1, 10, false) := ⟨pm_inG pm_mc_127 rfl, pm_inG pm_in_10 rfl, by decide +kernel, rfl, by decide +kernel, ⟨pm_inG pm_mi_127 rfl, pm_inG pm_me_127 rfl⟩, by decide, Or.inr (Or.inl rfl)⟩
set_option maxRecDepth 100000 in
theorem pm_mk_128 : pm_Mk (yX11_about, cX11_about, 2, some (.int), 1, 11, false) := ⟨pm_inG pm_mc_128 rfl, pm_inG pm_in_11 rfl, by decide +kernel, rfl, by decide +kernel, ⟨pm_inG pm_mi_128 rfl, pm_inG pm_me_128 rfl⟩, by decide, Or.inr (Or.inl rfl)⟩
set_option maxRecDepth 100000 in
theorem pm_mk_129 : pm_Mk (yX11_areGrouped, cX11_areGrouped, 4, some (.boolean), 3, 11, false) := ⟨pm_inG pm_mc_129 rfl, pm_inG pm_in_11 rfl, by decide +kernel, rfl, by decide +kernel, ⟨pm_inG pm_mi_129 rfl, pm_inG pm_me_129 rfl⟩, by decide, Or.inr (Or.inr (Or.inl rfl))⟩
set_option maxRecDepth 100000 in
theorem pm_mk_130 : pm_Mk (yX11_atMost, cX11_atMost, 2, some (.long), 1, 11, true) := ⟨pm_inG pm_mc_130 rfl, pm_inG pm_in_11 rfl, by decide +kernel, rfl, by decide +kernel, pm_inG pm_ms_130 rfl, by decide, Or.inr (Or.inr (Or.inr (Or.inl rfl)))⟩
set_option maxRecDepth 100000 in
theorem pm_mk_131 : pm_Mk (yX11_back, cX11_back, 3, some (.int), 1, 11, false) := ⟨pm_inG pm_mc_131 rfl, pm_inG pm_in_11 rfl, by decide +kernel, rfl, by decide +kernel, ⟨pm_inG pm_mi_131 rfl, pm_inG pm_me_131 rfl⟩, by decide, Or.inr (Or.inl rfl)⟩
set_option maxRecDepth 100000 in
theorem pm_mk_132 : pm_Mk (yX11_begin, cX11_begin, 2, none, 0, 11, false) := ⟨pm_inG pm_mc_132 rfl, pm_inG pm_in_11 rfl, by decide +kernel, rfl, by decide +kernel, ⟨pm_inG pm_mi_132 rfl, pm_inG pm_me_132 rfl⟩, by decide, Or.inl rfl⟩
set_option maxRecDepth 100000 in
theorem pm_mk_133 : pm_Mk (yX11_behind, cX11_behind, 4, some (.int), 3, 11, false) := ⟨pm_inG pm_mc_133 rfl, pm_inG pm_in_11 rfl, by decide +kernel, rfl, by decide +kernel, ⟨pm_inG pm_mi_133 rfl, pm_inG pm_me_133 rfl⟩, by decide, Or.inr (Or.inl rfl)⟩
set_option maxRecDepth 100000 in
theorem pm_mk_134 : pm_Mk (yX11_best, cX11_best, 4, some (.int), 1, 11, false) := ⟨pm_inG pm_mc_134 rfl, pm_inG pm_in_11 rfl, by decide +kernel, rfl, by decide +kernel, ⟨pm_inG pm_mi_134 rfl, pm_inG pm_me_134 rfl⟩, by decide, Or.inr (Or.inl rfl)⟩
set_option maxRecDepth 100000 in
theorem pm_mk_135 : pm_Mk (yX11_bribe, cX11_bribe, 3, some (.int), 2, 11, false) := ⟨pm_inG pm_mc_135 rfl, pm_inG pm_in_11 rfl, by decide +kernel, rfl, by decide +kernel, ⟨pm_inG pm_mi_135 rfl, pm_inG pm_me_135 rfl⟩, by decide, Or.inr (Or.inl rfl)⟩
set_option maxRecDepth 100000 in
theorem pm_mk_136 : pm_Mk (yX11_canCome, cX11_canCome, 2, some (.boolean), 1, 11, false) := ⟨pm_inG pm_mc_136 rfl, pm_inG pm_in_11 rfl, by decide +kernel, rfl, by decide +kernel, ⟨pm_inG pm_mi_136 rfl, pm_inG pm_me_136 rfl⟩, by decide, Or.inr (Or.inr (Or.inl rfl))⟩
set_option maxRecDepth 100000 in
theorem pm_mk_137 : pm_Mk (yX11_canGoOn, cX11_canGoOn, 3, some (.boolean), 1, 11, false) := ⟨pm_inG pm_mc_137 rfl, pm_inG pm_in_11 rfl, by decide +kernel, rfl, by decide +kernel, ⟨pm_inG pm_mi_137 rfl, pm_inG pm_me_137 rfl⟩, by decide, Or.inr (Or.inr (Or.inl rfl))⟩
set_option maxRecDepth 100000 in
theorem pm_mk_138 : pm_Mk (yX11_clearBank, cX11_clearBank, 2, none, 0, 11, false) := ⟨pm_inG pm_mc_138 rfl, pm_inG pm_in_11 rfl, by decide +kernel, rfl, by decide +kernel, ⟨pm_inG pm_mi_138 rfl, pm_inG pm_me_138 rfl⟩, by decide, Or.inl rfl⟩
set_option maxRecDepth 100000 in
theorem pm_mk_139 : pm_Mk (yX11_common, cX11_common, 5, some (.int), 2, 11, true) := ⟨pm_inG pm_mc_139 rfl, pm_inG pm_in_11 rfl, by decide +kernel, rfl, by decide +kernel, pm_inG pm_ms_139 rfl, by decide, Or.inr (Or.inl rfl)⟩
set_option maxRecDepth 100000 in
theorem pm_mk_140 : pm_Mk (yX11_doesRead, cX11_doesRead, 8, some (.boolean), 3, 11, false) := ⟨pm_inG pm_mc_140 rfl, pm_inG pm_in_11 rfl, by decide +kernel, rfl, by decide +kernel, ⟨pm_inG pm_mi_140 rfl, pm_inG pm_me_140 rfl⟩, by decide, Or.inr (Or.inr (Or.inl rfl))⟩
set_option maxRecDepth 100000 in
theorem pm_mk_141 : pm_Mk (yX11_doubtful, cX11_doubtful, 4, some (.int), 0, 11, false) := ⟨pm_inG pm_mc_141 rfl, pm_inG pm_in_11 rfl, by decide +kernel, rfl, by decide +kernel, ⟨pm_inG pm_mi_141 rfl, pm_inG pm_me_141 rfl⟩, by decide, Or.inr (Or.inl rfl)⟩
set_option maxRecDepth 100000 in
theorem pm_mk_142 : pm_Mk (yX11_end, cX11_end, 2, some (.int), 1, 11, false) := ⟨pm_inG pm_mc_142 rfl, pm_inG pm_in_11 rfl, by decide +kernel, rfl, by decide +kernel, ⟨pm_inG pm_mi_142 rfl, pm_inG pm_me_142 rfl⟩, by decide, Or.inr (Or.inl rfl)⟩
set_option maxRecDepth 100000 in
theorem pm_mk_143 : pm_Mk (yX11_endsBy, cX11_endsBy, 3, some (.int), 2, 11, false) := ⟨pm_inG pm_mc_143 rfl, pm_inG pm_in_11 rfl, by decide +kernel, rfl, by decide +kernel, ⟨pm_inG pm_mi_143 rfl, pm_inG pm_me_143 rfl⟩, by decide, Or.inr (Or.inl rfl)⟩
set_option maxRecDepth 100000 in
theorem pm_mk_144 : pm_Mk (yX11_exchange, cX11_exchange, 3, none, 1, 11, false) := ⟨pm_inG pm_mc_144 rfl, pm_inG pm_in_11 rfl, by decide +kernel, rfl, by decide +kernel, ⟨pm_inG pm_mi_144 rfl, pm_inG pm_me_144 rfl⟩, by decide, Or.inl rfl⟩
set_option maxRecDepth 100000 in
theorem pm_mk_145 : pm_Mk (yX11_fails, cX11_fails, 3, none, 2, 11, false) := ⟨pm_inG pm_mc_145 rfl, pm_inG pm_in_11 rfl, by decide +kernel, rfl, by decide +kernel, ⟨pm_inG pm_mi_145 rfl, pm_inG pm_me_145 rfl⟩, by decide, Or.inl rfl⟩
set_option maxRecDepth 100000 in
theorem pm_mk_146 : pm_Mk (yX11_fault, cX11_fault, 2, some (.int), 1, 11, false) := ⟨pm_inG pm_mc_146 rfl, pm_inG pm_in_11 rfl, by decide +kernel, rfl, by decide +kernel, ⟨pm_inG pm_mi_146 rfl, pm_inG pm_me_146 rfl⟩, by decide, Or.inr (Or.inl rfl)⟩
set_option maxRecDepth 100000 in
theorem pm_mk_147 : pm_Mk (yX11_feed, cX11_feed, 8, some (.int), 5, 11, false) := ⟨pm_inG pm_mc_147 rfl, pm_inG pm_in_11 rfl, by decide +kernel, rfl, by decide +kernel, ⟨pm_inG pm_mi_147 rfl, pm_inG pm_me_147 rfl⟩, by decide, Or.inr (Or.inl rfl)⟩
set_option maxRecDepth 100000 in
theorem pm_mk_148 : pm_Mk (yX11_fit, cX11_fit, 1, some (.int), 0, 11, false) := ⟨pm_inG pm_mc_148 rfl, pm_inG pm_in_11 rfl, by decide +kernel, rfl, by decide +kernel, ⟨pm_inG pm_mi_148 rfl, pm_inG pm_me_148 rfl⟩, by decide, Or.inr (Or.inl rfl)⟩
set_option maxRecDepth 100000 in
theorem pm_mk_149 : pm_Mk (yX11_fresh, cX11_fresh, 3, some (.long), 0, 11, false) := ⟨pm_inG pm_mc_149 rfl, pm_inG pm_in_11 rfl, by decide +kernel, rfl, by decide +kernel, ⟨pm_inG pm_mi_149 rfl, pm_inG pm_me_149 rfl⟩, by decide, Or.inr (Or.inr (Or.inr (Or.inl rfl)))⟩
set_option maxRecDepth 100000 in
theorem pm_mk_150 : pm_Mk (yX11_gain, cX11_gain, 3, some (.int), 2, 11, false) := ⟨pm_inG pm_mc_150 rfl, pm_inG pm_in_11 rfl, by decide +kernel, rfl, by decide +kernel, ⟨pm_inG pm_mi_150 rfl, pm_inG pm_me_150 rfl⟩, by decide, Or.inr (Or.inl rfl)⟩
set_option maxRecDepth 100000 in
theorem pm_mk_151 : pm_Mk (yX11_gainOf, cX11_gainOf, 5, some (.int), 2, 11, false) := ⟨pm_inG pm_mc_151 rfl, pm_inG pm_in_11 rfl, by decide +kernel, rfl, by decide +kernel, ⟨pm_inG pm_mi_151 rfl, pm_inG pm_me_151 rfl⟩, by decide, Or.inr (Or.inl rfl)⟩
set_option maxRecDepth 100000 in
theorem pm_mk_152 : pm_Mk (yX11_goOn, cX11_goOn, 3, none, 0, 11, false) := ⟨pm_inG pm_mc_152 rfl, pm_inG pm_in_11 rfl, by decide +kernel, rfl, by decide +kernel, ⟨pm_inG pm_mi_152 rfl, pm_inG pm_me_152 rfl⟩, by decide, Or.inl rfl⟩
set_option maxRecDepth 100000 in
theorem pm_mk_153 : pm_Mk (yX11_held, cX11_held, 2, some (.int), 1, 11, false) := ⟨pm_inG pm_mc_153 rfl, pm_inG pm_in_11 rfl, by decide +kernel, rfl, by decide +kernel, ⟨pm_inG pm_mi_153 rfl, pm_inG pm_me_153 rfl⟩, by decide, Or.inr (Or.inl rfl)⟩
set_option maxRecDepth 100000 in
theorem pm_mk_154 : pm_Mk (yX11_heldBy, cX11_heldBy, 3, some (.int), 1, 11, false) := ⟨pm_inG pm_mc_154 rfl, pm_inG pm_in_11 rfl, by decide +kernel, rfl, by decide +kernel, ⟨pm_inG pm_mi_154 rfl, pm_inG pm_me_154 rfl⟩, by decide, Or.inr (Or.inl rfl)⟩
set_option maxRecDepth 100000 in
theorem pm_mk_155 : pm_Mk (yX11_hole, cX11_hole, 3, some (.boolean), 2, 11, false) := ⟨pm_inG pm_mc_155 rfl, pm_inG pm_in_11 rfl, by decide +kernel, rfl, by decide +kernel, ⟨pm_inG pm_mi_155 rfl, pm_inG pm_me_155 rfl⟩, by decide, Or.inr (Or.inr (Or.inl rfl))⟩
set_option maxRecDepth 100000 in
theorem pm_mk_156 : pm_Mk (yX11_image, cX11_image, 3, some (.int), 1, 11, false) := ⟨pm_inG pm_mc_156 rfl, pm_inG pm_in_11 rfl, by decide +kernel, rfl, by decide +kernel, ⟨pm_inG pm_mi_156 rfl, pm_inG pm_me_156 rfl⟩, by decide, Or.inr (Or.inl rfl)⟩
set_option maxRecDepth 100000 in
theorem pm_mk_157 : pm_Mk (yX11_isBetter, cX11_isBetter, 6, some (.boolean), 4, 11, false) := ⟨pm_inG pm_mc_157 rfl, pm_inG pm_in_11 rfl, by decide +kernel, rfl, by decide +kernel, ⟨pm_inG pm_mi_157 rfl, pm_inG pm_me_157 rfl⟩, by decide, Or.inr (Or.inr (Or.inl rfl))⟩
set_option maxRecDepth 100000 in
theorem pm_mk_158 : pm_Mk (yX11_isDigit, cX11_isDigit, 1, some (.boolean), 1, 11, true) := ⟨pm_inG pm_mc_158 rfl, pm_inG pm_in_11 rfl, by decide +kernel, rfl, by decide +kernel, pm_inG pm_ms_158 rfl, by decide, Or.inr (Or.inr (Or.inl rfl))⟩
set_option maxRecDepth 100000 in
theorem pm_mk_159 : pm_Mk (yX11_isFull, cX11_isFull, 1, some (.boolean), 0, 11, false) := ⟨pm_inG pm_mc_159 rfl, pm_inG pm_in_11 rfl, by decide +kernel, rfl, by decide +kernel, ⟨pm_inG pm_mi_159 rfl, pm_inG pm_me_159 rfl⟩, by decide, Or.inr (Or.inr (Or.inl rfl))⟩
set_option maxRecDepth 100000 in
theorem pm_mk_160 : pm_Mk (yX11_isGood, cX11_isGood, 1, some (.boolean), 0, 11, false) := ⟨pm_inG pm_mc_160 rfl, pm_inG pm_in_11 rfl, by decide +kernel, rfl, by decide +kernel, ⟨pm_inG pm_mi_160 rfl, pm_inG pm_me_160 rfl⟩, by decide, Or.inr (Or.inr (Or.inl rfl))⟩
set_option maxRecDepth 100000 in
theorem pm_mk_161 : pm_Mk (yX11_isGuild, cX11_isGuild, 1, some (.boolean), 1, 11, true) := ⟨pm_inG pm_mc_161 rfl, pm_inG pm_in_11 rfl, by decide +kernel, rfl, by decide +kernel, pm_inG pm_ms_161 rfl, by decide, Or.inr (Or.inr (Or.inl rfl))⟩
set_option maxRecDepth 100000 in
theorem pm_mk_162 : pm_Mk (yX11_isIn, cX11_isIn, 3, some (.boolean), 3, 11, true) := ⟨pm_inG pm_mc_162 rfl, pm_inG pm_in_11 rfl, by decide +kernel, rfl, by decide +kernel, pm_inG pm_ms_162 rfl, by decide, Or.inr (Or.inr (Or.inl rfl))⟩
set_option maxRecDepth 100000 in
theorem pm_mk_163 : pm_Mk (yX11_isKept, cX11_isKept, 2, some (.boolean), 1, 11, true) := ⟨pm_inG pm_mc_163 rfl, pm_inG pm_in_11 rfl, by decide +kernel, rfl, by decide +kernel, pm_inG pm_ms_163 rfl, by decide, Or.inr (Or.inr (Or.inl rfl))⟩
set_option maxRecDepth 100000 in
theorem pm_mk_164 : pm_Mk (yX11_isLetter, cX11_isLetter, 1, some (.boolean), 1, 11, true) := ⟨pm_inG pm_mc_164 rfl, pm_inG pm_in_11 rfl, by decide +kernel, rfl, by decide +kernel, pm_inG pm_ms_164 rfl, by decide, Or.inr (Or.inr (Or.inl rfl))⟩
set_option maxRecDepth 100000 in
theorem pm_mk_165 : pm_Mk (yX11_isOnPath, cX11_isOnPath, 3, some (.boolean), 1, 11, false) := ⟨pm_inG pm_mc_165 rfl, pm_inG pm_in_11 rfl, by decide +kernel, rfl, by decide +kernel, ⟨pm_inG pm_mi_165 rfl, pm_inG pm_me_165 rfl⟩, by decide, Or.inr (Or.inr (Or.inl rfl))⟩
set_option maxRecDepth 100000 in
theorem pm_mk_166 : pm_Mk (yX11_isPlace, cX11_isPlace, 2, some (.boolean), 1, 11, false) := ⟨pm_inG pm_mc_166 rfl, pm_inG pm_in_11 rfl, by decide +kernel, rfl, by decide +kernel, ⟨pm_inG pm_mi_166 rfl, pm_inG pm_me_166 rfl⟩, by decide, Or.inr (Or.inr (Or.inl rfl))⟩
set_option maxRecDepth 100000 in
theorem pm_mk_167 : pm_Mk (yX11_isRead, cX11_isRead, 2, some (.boolean), 1, 11, false) := ⟨pm_inG pm_mc_167 rfl, pm_inG pm_in_11 rfl, by decide +kernel, rfl, by decide +kernel, ⟨pm_inG pm_mi_167 rfl, pm_inG pm_me_167 rfl⟩, by decide, Or.inr (Or.inr (Or.inl rfl))⟩
set_option maxRecDepth 100000 in
theorem pm_mk_168 : pm_Mk (yX11_isSignHere, cX11_isSignHere, 2, some (.boolean), 1, 11, false) := ⟨pm_inG pm_mc_168 rfl, pm_inG pm_in_11 rfl, by decide +kernel, rfl, by decide +kernel, ⟨pm_inG pm_mi_168 rfl, pm_inG pm_me_168 rfl⟩, by decide, Or.inr (Or.inr (Or.inl rfl))⟩
set_option maxRecDepth 100000 in
theorem pm_mk_169 : pm_Mk (yX11_isSo, cX11_isSo, 4, some (.boolean), 2, 11, false) := ⟨pm_inG pm_mc_169 rfl, pm_inG pm_in_11 rfl, by decide +kernel, rfl, by decide +kernel, ⟨pm_inG pm_mi_169 rfl, pm_inG pm_me_169 rfl⟩, by decide, Or.inr (Or.inr (Or.inl rfl))⟩
set_option maxRecDepth 100000 in
theorem pm_mk_170 : pm_Mk (yX11_isWord, cX11_isWord, 3, some (.boolean), 1, 11, false) := ⟨pm_inG pm_mc_170 rfl, pm_inG pm_in_11 rfl, by decide +kernel, rfl, by decide +kernel, ⟨pm_inG pm_mi_170 rfl, pm_inG pm_me_170 rfl⟩, by decide, Or.inr (Or.inr (Or.inl rfl))⟩
set_option maxRecDepth 100000 in
theorem pm_mk_171 : pm_Mk (yX11_isWordOf, cX11_isWordOf, 2, some (.boolean), 1, 11, false) := ⟨pm_inG pm_mc_171 rfl, pm_inG pm_in_11 rfl, by decide +kernel, rfl, by decide +kernel, ⟨pm_inG pm_mi_171 rfl, pm_inG pm_me_171 rfl⟩, by decide, Or.inr (Or.inr (Or.inl rfl))⟩
set_option maxRecDepth 100000 in
theorem pm_mk_172 : pm_Mk (yX11_keepAct, cX11_keepAct, 4, none, 2, 11, false) := ⟨pm_inG pm_mc_172 rfl, pm_inG pm_in_11 rfl, by decide +kernel, rfl, by decide +kernel, ⟨pm_inG pm_mi_172 rfl, pm_inG pm_me_172 rfl⟩, by decide, Or.inl rfl⟩
set_option maxRecDepth 100000 in
theorem pm_mk_173 : pm_Mk (yX11_keyOf, cX11_keyOf, 6, some (.long), 2, 11, false) := ⟨pm_inG pm_mc_173 rfl, pm_inG pm_in_11 rfl, by decide +kernel, rfl, by decide +kernel, ⟨pm_inG pm_mi_173 rfl, pm_inG pm_me_173 rfl⟩, by decide, Or.inr (Or.inr (Or.inr (Or.inl rfl)))⟩
set_option maxRecDepth 100000 in
theorem pm_mk_174 : pm_Mk (yX11_known, cX11_known, 2, some (.int), 0, 11, false) := ⟨pm_inG pm_mc_174 rfl, pm_inG pm_in_11 rfl, by decide +kernel, rfl, by decide +kernel, ⟨pm_inG pm_mi_174 rfl, pm_inG pm_me_174 rfl⟩, by decide, Or.inr (Or.inl rfl)⟩
set_option maxRecDepth 100000 in
theorem pm_mk_175 : pm_Mk (yX11_later, cX11_later, 2, some (.int), 1, 11, false) := ⟨pm_inG pm_mc_175 rfl, pm_inG pm_in_11 rfl, by decide +kernel, rfl, by decide +kernel, ⟨pm_inG pm_mi_175 rfl, pm_inG pm_me_175 rfl⟩, by decide, Or.inr (Or.inl rfl)⟩
set_option maxRecDepth 100000 in
theorem pm_mk_176 : pm_Mk (yX11_lay, cX11_lay, 3, none, 1, 11, false) := ⟨pm_inG pm_mc_176 rfl, pm_inG pm_in_11 rfl, by decide +kernel, rfl, by decide +kernel, ⟨pm_inG pm_mi_176 rfl, pm_inG pm_me_176 rfl⟩, by decide, Or.inl rfl⟩
set_option maxRecDepth 100000 in
theorem pm_mk_177 : pm_Mk (yX11_layEnds, cX11_layEnds, 5, none, 1, 11, false) := ⟨pm_inG pm_mc_177 rfl, pm_inG pm_in_11 rfl, by decide +kernel, rfl, by decide +kernel, ⟨pm_inG pm_mi_177 rfl, pm_inG pm_me_177 rfl⟩, by decide, Or.inl rfl⟩
set_option maxRecDepth 100000 in
theorem pm_mk_178 : pm_Mk (yX11_layFromNone, cX11_layFromNone, 1, some (.boolean), 0, 11, false) := ⟨pm_inG pm_mc_178 rfl, pm_inG pm_in_11 rfl, by decide +kernel, rfl, by decide +kernel, ⟨pm_inG pm_mi_178 rfl, pm_inG pm_me_178 rfl⟩, by decide, Or.inr (Or.inr (Or.inl rfl))⟩
set_option maxRecDepth 100000 in
theorem pm_mk_179 : pm_Mk (yX11_layFromRow, cX11_layFromRow, 2, some (.boolean), 0, 11, false) := ⟨pm_inG pm_mc_179 rfl, pm_inG pm_in_11 rfl, by decide +kernel, rfl, by decide +kernel, ⟨pm_inG pm_mi_179 rfl, pm_inG pm_me_179 rfl⟩, by decide, Or.inr (Or.inr (Or.inl rfl))⟩
set_option maxRecDepth 100000 in
theorem pm_mk_180 : pm_Mk (yX11_layList, cX11_layList, 6, some (.boolean), 2, 11, false) := ⟨pm_inG pm_mc_180 rfl, pm_inG pm_in_11 rfl, by decide +kernel, rfl, by decide +kernel, ⟨pm_inG pm_mi_180 rfl, pm_inG pm_me_180 rfl⟩, by decide, Or.inr (Or.inr (Or.inl rfl))⟩
set_option maxRecDepth 100000 in
theorem pm_mk_181 : pm_Mk (yX11_layShortest, cX11_layShortest, 5, none, 0, 11, false) := ⟨pm_inG pm_mc_181 rfl, pm_inG pm_in_11 rfl, by decide +kernel, rfl, by decide +kernel, ⟨pm_inG pm_mi_181 rfl, pm_inG pm_me_181 rfl⟩, by decide, Or.inl rfl⟩
set_option maxRecDepth 100000 in
theorem pm_mk_182 : pm_Mk (yX11_lies, cX11_lies, 2, some (.int), 1, 11, false) := ⟨pm_inG pm_mc_182 rfl, pm_inG pm_in_11 rfl, by decide +kernel, rfl, by decide +kernel, ⟨pm_inG pm_mi_182 rfl, pm_inG pm_me_182 rfl⟩, by decide, Or.inr (Or.inl rfl)⟩
set_option maxRecDepth 100000 in
theorem pm_mk_183 : pm_Mk (yX11_longOf, cX11_longOf, 1, some (.int), 0, 11, false) := ⟨pm_inG pm_mc_183 rfl, pm_inG pm_in_11 rfl, by decide +kernel, rfl, by decide +kernel, ⟨pm_inG pm_mi_183 rfl, pm_inG pm_me_183 rfl⟩, by decide, Or.inr (Or.inl rfl)⟩
set_option maxRecDepth 100000 in
theorem pm_mk_184 : pm_Mk (yX11_lots, cX11_lots, 4, some (.int), 1, 11, false) := ⟨pm_inG pm_mc_184 rfl, pm_inG pm_in_11 rfl, by decide +kernel, rfl, by decide +kernel, ⟨pm_inG pm_mi_184 rfl, pm_inG pm_me_184 rfl⟩, by decide, Or.inr (Or.inl rfl)⟩
set_option maxRecDepth 100000 in
theorem pm_mk_185 : pm_Mk (yX11_means, cX11_means, 2, some (.int), 1, 11, false) := ⟨pm_inG pm_mc_185 rfl, pm_inG pm_in_11 rfl, by decide +kernel, rfl, by decide +kernel, ⟨pm_inG pm_mi_185 rfl, pm_inG pm_me_185 rfl⟩, by decide, Or.inr (Or.inl rfl)⟩
set_option maxRecDepth 100000 in
theorem pm_mk_186 : pm_Mk (yX11_meansOf, cX11_meansOf, 5, some (.int), 2, 11, false) := ⟨pm_inG pm_mc_186 rfl, pm_inG pm_in_11 rfl, by decide +kernel, rfl, by decide +kernel, ⟨pm_inG pm_mi_186 rfl, pm_inG pm_me_186 rfl⟩, by decide, Or.inr (Or.inl rfl)⟩
set_option maxRecDepth 100000 in
theorem pm_mk_187 : pm_Mk (yX11_misplaced, cX11_misplaced, 1, none, 0, 11, false) := ⟨pm_inG pm_mc_187 rfl, pm_inG pm_in_11 rfl, by decide +kernel, rfl, by decide +kernel, ⟨pm_inG pm_mi_187 rfl, pm_inG pm_me_187 rfl⟩, by decide, Or.inl rfl⟩
set_option maxRecDepth 100000 in
theorem pm_mk_188 : pm_Mk (yX11_must, cX11_must, 2, none, 1, 11, false) := ⟨pm_inG pm_mc_188 rfl, pm_inG pm_in_11 rfl, by decide +kernel, rfl, by decide +kernel, ⟨pm_inG pm_mi_188 rfl, pm_inG pm_me_188 rfl⟩, by decide, Or.inl rfl⟩
set_option maxRecDepth 100000 in
theorem pm_mk_189 : pm_Mk (yX11_next, cX11_next, 3, some (.int), 0, 11, false) := ⟨pm_inG pm_mc_189 rfl, pm_inG pm_in_11 rfl, by decide +kernel, rfl, by decide +kernel, ⟨pm_inG pm_mi_189 rfl, pm_inG pm_me_189 rfl⟩, by decide, Or.inr (Or.inl rfl)⟩
set_option maxRecDepth 100000 in
theorem pm_mk_190 : pm_Mk (yX11_numeral, cX11_numeral, 4, some (.int), 2, 11, false) := ⟨pm_inG pm_mc_190 rfl, pm_inG pm_in_11 rfl, by decide +kernel, rfl, by decide +kernel, ⟨pm_inG pm_mi_190 rfl, pm_inG pm_me_190 rfl⟩, by decide, Or.inr (Or.inl rfl)⟩
set_option maxRecDepth 100000 in
theorem pm_mk_191 : pm_Mk (yX11_orderTurn, cX11_orderTurn, 6, some (.int), 2, 11, true) := ⟨pm_inG pm_mc_191 rfl, pm_inG pm_in_11 rfl, by decide +kernel, rfl, by decide +kernel, pm_inG pm_ms_191 rfl, by decide, Or.inr (Or.inl rfl)⟩
set_option maxRecDepth 100000 in
theorem pm_mk_192 : pm_Mk (yX11_orders, cX11_orders, 4, some (.int), 1, 11, false) := ⟨pm_inG pm_mc_192 rfl, pm_inG pm_in_11 rfl, by decide +kernel, rfl, by decide +kernel, ⟨pm_inG pm_mi_192 rfl, pm_inG pm_me_192 rfl⟩, by decide, Or.inr (Or.inl rfl)⟩
set_option maxRecDepth 100000 in
theorem pm_mk_193 : pm_Mk (yX11_packed, cX11_packed, 3, some (.int), 0, 11, false) := ⟨pm_inG pm_mc_193 rfl, pm_inG pm_in_11 rfl, by decide +kernel, rfl, by decide +kernel, ⟨pm_inG pm_mi_193 rfl, pm_inG pm_me_193 rfl⟩, by decide, Or.inr (Or.inl rfl)⟩
set_option maxRecDepth 100000 in
theorem pm_mk_194 : pm_Mk (yX11_pairOf, cX11_pairOf, 4, some (.int), 3, 11, false) := ⟨pm_inG pm_mc_194 rfl, pm_inG pm_in_11 rfl, by decide +kernel, rfl, by decide +kernel, ⟨pm_inG pm_mi_194 rfl, pm_inG pm_me_194 rfl⟩, by decide, Or.inr (Or.inl rfl)⟩
set_option maxRecDepth 100000 in
theorem pm_mk_195 : pm_Mk (yX11_plays, cX11_plays, 6, some (.int), 1, 11, false) := ⟨pm_inG pm_mc_195 rfl, pm_inG pm_in_11 rfl, by decide +kernel, rfl, by decide +kernel, ⟨pm_inG pm_mi_195 rfl, pm_inG pm_me_195 rfl⟩, by decide, Or.inr (Or.inl rfl)⟩
set_option maxRecDepth 100000 in
theorem pm_mk_196 : pm_Mk (yX11_port, cX11_port, 2, some (.int), 0, 11, false) := ⟨pm_inG pm_mc_196 rfl, pm_inG pm_in_11 rfl, by decide +kernel, rfl, by decide +kernel, ⟨pm_inG pm_mi_196 rfl, pm_inG pm_me_196 rfl⟩, by decide, Or.inr (Or.inl rfl)⟩
set_option maxRecDepth 100000 in
theorem pm_mk_197 : pm_Mk (yX11_readAlt, cX11_readAlt, 2, none, 0, 11, false) := ⟨pm_inG pm_mc_197 rfl, pm_inG pm_in_11 rfl, by decide +kernel, rfl, by decide +kernel, ⟨pm_inG pm_mi_197 rfl, pm_inG pm_me_197 rfl⟩, by decide, Or.inl rfl⟩
set_option maxRecDepth 100000 in
theorem pm_mk_198 : pm_Mk (yX11_readLine, cX11_readLine, 3, none, 0, 11, false) := ⟨pm_inG pm_mc_198 rfl, pm_inG pm_in_11 rfl, by decide +kernel, rfl, by decide +kernel, ⟨pm_inG pm_mi_198 rfl, pm_inG pm_me_198 rfl⟩, by decide, Or.inl rfl⟩
set_option maxRecDepth 100000 in
theorem pm_mk_199 : pm_Mk (yX11_readPair, cX11_readPair, 6, none, 0, 11, false) := ⟨pm_inG pm_mc_199 rfl, pm_inG pm_in_11 rfl, by decide +kernel, rfl, by decide +kernel, ⟨pm_inG pm_mi_199 rfl, pm_inG pm_me_199 rfl⟩, by decide, Or.inl rfl⟩
set_option maxRecDepth 100000 in
theorem pm_mk_200 : pm_Mk (yX11_readRule, cX11_readRule, 2, none, 0, 11, false) := ⟨pm_inG pm_mc_200 rfl, pm_inG pm_in_11 rfl, by decide +kernel, rfl, by decide +kernel, ⟨pm_inG pm_mi_200 rfl, pm_inG pm_me_200 rfl⟩, by decide, Or.inl rfl⟩
set_option maxRecDepth 100000 in
theorem pm_mk_201 : pm_Mk (yX11_readTurns, cX11_readTurns, 2, none, 0, 11, false) := ⟨pm_inG pm_mc_201 rfl, pm_inG pm_in_11 rfl, by decide +kernel, rfl, by decide +kernel, ⟨pm_inG pm_mi_201 rfl, pm_inG pm_me_201 rfl⟩, by decide, Or.inl rfl⟩
set_option maxRecDepth 100000 in
theorem pm_mk_202 : pm_Mk (yX11_readWord, cX11_readWord, 3, none, 0, 11, false) := ⟨pm_inG pm_mc_202 rfl, pm_inG pm_in_11 rfl, by decide +kernel, rfl, by decide +kernel, ⟨pm_inG pm_mi_202 rfl, pm_inG pm_me_202 rfl⟩, by decide, Or.inl rfl⟩
set_option maxRecDepth 100000 in
theorem pm_mk_203 : pm_Mk (yX11_readings, cX11_readings, 1, some (.int), 0, 11, false) := ⟨pm_inG pm_mc_203 rfl, pm_inG pm_in_11 rfl, by decide +kernel, rfl, by decide +kernel, ⟨pm_inG pm_mi_203 rfl, pm_inG pm_me_203 rfl⟩, by decide, Or.inr (Or.inl rfl)⟩
set_option maxRecDepth 100000 in
theorem pm_mk_204 : pm_Mk (yX11_readingsOf, cX11_readingsOf, 6, some (.long), 1, 11, false) := ⟨pm_inG pm_mc_204 rfl, pm_inG pm_in_11 rfl, by decide +kernel, rfl, by decide +kernel, ⟨pm_inG pm_mi_204 rfl, pm_inG pm_me_204 rfl⟩, by decide, Or.inr (Or.inr (Or.inr (Or.inl rfl)))⟩
set_option maxRecDepth 100000 in
theorem pm_mk_205 : pm_Mk (yX11_redo, cX11_redo, 1, some (.boolean), 0, 11, false) := ⟨pm_inG pm_mc_205 rfl, pm_inG pm_in_11 rfl, by decide +kernel, rfl, by decide +kernel, ⟨pm_inG pm_mi_205 rfl, pm_inG pm_me_205 rfl⟩, by decide, Or.inr (Or.inr (Or.inl rfl))⟩
set_option maxRecDepth 100000 in
theorem pm_mk_206 : pm_Mk (yX11_ruleOf, cX11_ruleOf, 4, some (.int), 1, 11, false) := ⟨pm_inG pm_mc_206 rfl, pm_inG pm_in_11 rfl, by decide +kernel, rfl, by decide +kernel, ⟨pm_inG pm_mi_206 rfl, pm_inG pm_me_206 rfl⟩, by decide, Or.inr (Or.inl rfl)⟩
set_option maxRecDepth 100000 in
theorem pm_mk_207 : pm_Mk (yX11_seen, cX11_seen, 4, some (.int), 3, 11, false) := ⟨pm_inG pm_mc_207 rfl, pm_inG pm_in_11 rfl, by decide +kernel, rfl, by decide +kernel, ⟨pm_inG pm_mi_207 rfl, pm_inG pm_me_207 rfl⟩, by decide, Or.inr (Or.inl rfl)⟩
set_option maxRecDepth 100000 in
theorem pm_mk_208 : pm_Mk (yX11_sell, cX11_sell, 4, some (.int), 2, 11, false) := ⟨pm_inG pm_mc_208 rfl, pm_inG pm_in_11 rfl, by decide +kernel, rfl, by decide +kernel, ⟨pm_inG pm_mi_208 rfl, pm_inG pm_me_208 rfl⟩, by decide, Or.inr (Or.inl rfl)⟩
set_option maxRecDepth 100000 in
theorem pm_mk_209 : pm_Mk (yX11_settle, cX11_settle, 5, none, 0, 11, false) := ⟨pm_inG pm_mc_209 rfl, pm_inG pm_in_11 rfl, by decide +kernel, rfl, by decide +kernel, ⟨pm_inG pm_mi_209 rfl, pm_inG pm_me_209 rfl⟩, by decide, Or.inl rfl⟩
set_option maxRecDepth 100000 in
theorem pm_mk_210 : pm_Mk (yX11_share, cX11_share, 7, some (.int), 2, 11, false) := ⟨pm_inG pm_mc_210 rfl, pm_inG pm_in_11 rfl, by decide +kernel, rfl, by decide +kernel, ⟨pm_inG pm_mi_210 rfl, pm_inG pm_me_210 rfl⟩, by decide, Or.inr (Or.inl rfl)⟩
set_option maxRecDepth 100000 in
theorem pm_mk_211 : pm_Mk (yX11_shortest, cX11_shortest, 2, some (.int), 1, 11, false) := ⟨pm_inG pm_mc_211 rfl, pm_inG pm_in_11 rfl, by decide +kernel, rfl, by decide +kernel, ⟨pm_inG pm_mi_211 rfl, pm_inG pm_me_211 rfl⟩, by decide, Or.inr (Or.inl rfl)⟩
set_option maxRecDepth 100000 in
theorem pm_mk_212 : pm_Mk (yX11_sign, cX11_sign, 2, some (.int), 1, 11, false) := ⟨pm_inG pm_mc_212 rfl, pm_inG pm_in_11 rfl, by decide +kernel, rfl, by decide +kernel, ⟨pm_inG pm_mi_212 rfl, pm_inG pm_me_212 rfl⟩, by decide, Or.inr (Or.inl rfl)⟩
set_option maxRecDepth 100000 in
theorem pm_mk_213 : pm_Mk (yX11_struck, cX11_struck, 6, some (.int), 1, 11, false) := ⟨pm_inG pm_mc_213 rfl, pm_inG pm_in_11 rfl, by decide +kernel, rfl, by decide +kernel, ⟨pm_inG pm_mi_213 rfl, pm_inG pm_me_213 rfl⟩, by decide, Or.inr (Or.inl rfl)⟩
set_option maxRecDepth 100000 in
theorem pm_mk_214 : pm_Mk (yX11_sumOf, cX11_sumOf, 5, some (.int), 1, 11, false) := ⟨pm_inG pm_mc_214 rfl, pm_inG pm_in_11 rfl, by decide +kernel, rfl, by decide +kernel, ⟨pm_inG pm_mi_214 rfl, pm_inG pm_me_214 rfl⟩, by decide, Or.inr (Or.inl rfl)⟩
set_option maxRecDepth 100000 in
theorem pm_mk_215 : pm_Mk (yX11_swap, cX11_swap, 7, some (.int), 0, 11, false) := ⟨pm_inG pm_mc_215 rfl, pm_inG pm_in_11 rfl, by decide +kernel, rfl, by decide +kernel, ⟨pm_inG pm_mi_215 rfl, pm_inG pm_me_215 rfl⟩, by decide, Or.inr (Or.inl rfl)⟩
set_option maxRecDepth 100000 in
theorem pm_mk_216 : pm_Mk (yX11_takeCharter, cX11_takeCharter, 2, none, 0, 11, false) := ⟨pm_inG pm_mc_216 rfl, pm_inG pm_in_11 rfl, by decide +kernel, rfl, by decide +kernel, ⟨pm_inG pm_mi_216 rfl, pm_inG pm_me_216 rfl⟩, by decide, Or.inl rfl⟩
set_option maxRecDepth 100000 in
theorem pm_mk_217 : pm_Mk (yX11_toldTurn, cX11_toldTurn, 2, some (.int), 1, 11, false) := ⟨pm_inG pm_mc_217 rfl, pm_inG pm_in_11 rfl, by decide +kernel, rfl, by decide +kernel, ⟨pm_inG pm_mi_217 rfl, pm_inG pm_me_217 rfl⟩, by decide, Or.inr (Or.inl rfl)⟩
set_option maxRecDepth 100000 in
theorem pm_mk_218 : pm_Mk (yX11_tryRow, cX11_tryRow, 2, none, 0, 11, false) := ⟨pm_inG pm_mc_218 rfl, pm_inG pm_in_11 rfl, by decide +kernel, rfl, by decide +kernel, ⟨pm_inG pm_mi_218 rfl, pm_inG pm_me_218 rfl⟩, by decide, Or.inl rfl⟩
set_option maxRecDepth 100000 in
theorem pm_mk_219 : pm_Mk (yX11_tryWithout, cX11_tryWithout, 4, none, 1, 11, false) := ⟨pm_inG pm_mc_219 rfl, pm_inG pm_in_11 rfl, by decide +kernel, rfl, by decide +kernel, ⟨pm_inG pm_mi_219 rfl, pm_inG pm_me_219 rfl⟩, by decide, Or.inl rfl⟩
set_option maxRecDepth 100000 in
theorem pm_mk_220 : pm_Mk (yX11_turn, cX11_turn, 2, some (.int), 1, 11, false) := ⟨pm_inG pm_mc_220 rfl, pm_inG pm_in_11 rfl, by decide +kernel, rfl, by decide +kernel, ⟨pm_inG pm_mi_220 rfl, pm_inG pm_me_220 rfl⟩, by decide, Or.inr (Or.inl rfl)⟩
set_option maxRecDepth 100000 in
theorem pm_mk_221 : pm_Mk (yX11_turnsByOrder, cX11_turnsByOrder, 3, none, 1, 11, false) := ⟨pm_inG pm_mc_221 rfl, pm_inG pm_in_11 rfl, by decide +kernel, rfl, by decide +kernel, ⟨pm_inG pm_mi_221 rfl, pm_inG pm_me_221 rfl⟩, by decide, Or.inl rfl⟩
set_option maxRecDepth 100000 in
theorem pm_mk_222 : pm_Mk (yX11_turnsNow, cX11_turnsNow, 2, none, 0, 11, false) := ⟨pm_inG pm_mc_222 rfl, pm_inG pm_in_11 rfl, by decide +kernel, rfl, by decide +kernel, ⟨pm_inG pm_mi_222 rfl, pm_inG pm_me_222 rfl⟩, by decide, Or.inl rfl⟩
set_option maxRecDepth 100000 in
theorem pm_mk_223 : pm_Mk (yX11_undo, cX11_undo, 1, some (.boolean), 0, 11, false) := ⟨pm_inG pm_mc_223 rfl, pm_inG pm_in_11 rfl, by decide +kernel, rfl, by decide +kernel, ⟨pm_inG pm_mi_223 rfl, pm_inG pm_me_223 rfl⟩, by decide, Or.inr (Or.inr (Or.inl rfl))⟩
set_option maxRecDepth 100000 in
theorem pm_mk_224 : pm_Mk (yX11_unpack, cX11_unpack, 3, none, 1, 11, false) := ⟨pm_inG pm_mc_224 rfl, pm_inG pm_in_11 rfl, by decide +kernel, rfl, by decide +kernel, ⟨pm_inG pm_mi_224 rfl, pm_inG pm_me_224 rfl⟩, by decide, Or.inl rfl⟩
set_option maxRecDepth 100000 in
theorem pm_mk_225 : pm_Mk (yX11_untell, cX11_untell, 2, some (.boolean), 1, 11, false) := ⟨pm_inG pm_mc_225 rfl, pm_inG pm_in_11 rfl, by decide +kernel, rfl, by decide +kernel, ⟨pm_inG pm_mi_225 rfl, pm_inG pm_me_225 rfl⟩, by decide, Or.inr (Or.inr (Or.inl rfl))⟩
set_option maxRecDepth 100000 in
theorem pm_mk_226 : pm_Mk (yX11_used, cX11_used, 5, some (.int), 0, 11, false) := ⟨pm_inG pm_mc_226 rfl, pm_inG pm_in_11 rfl, by decide +kernel, rfl, by decide +kernel, ⟨pm_inG pm_mi_226 rfl, pm_inG pm_me_226 rfl⟩, by decide, Or.inr (Or.inl rfl)⟩
set_option maxRecDepth 100000 in
theorem pm_mk_227 : pm_Mk (yX11_waysBy, cX11_waysBy, 7, some (.long), 3, 11, false) := ⟨pm_inG pm_mc_227 rfl, pm_inG pm_in_11 rfl, by decide +kernel, rfl, by decide +kernel, ⟨pm_inG pm_mi_227 rfl, pm_inG pm_me_227 rfl⟩, by decide, Or.inr (Or.inr (Or.inr (Or.inl rfl)))⟩
set_option maxRecDepth 100000 in
theorem pm_mk_228 : pm_Mk (yX11_wipe, cX11_wipe, 2, some (.int), 0, 11, false) := ⟨pm_inG pm_mc_228 rfl, pm_inG pm_in_11 rfl, by decide +kernel, rfl, by decide +kernel, ⟨pm_inG pm_mi_228 rfl, pm_inG pm_me_228 rfl⟩, by decide, Or.inr (Or.inl rfl)⟩
set_option maxRecDepth 100000 in
theorem pm_mk_229 : pm_Mk (yX11_word, cX11_word, 2, some (.int), 1, 11, false) := ⟨pm_inG pm_mc_229 rfl, pm_inG pm_in_11 rfl, by decide +kernel, rfl, by decide +kernel, ⟨pm_inG pm_mi_229 rfl, pm_inG pm_me_229 rfl⟩, by decide, Or.inr (Or.inl rfl)⟩
set_option maxRecDepth 100000 in
theorem pm_mk_230 : pm_Mk (yX11_wordIn, cX11_wordIn, 3, some (.int), 2, 11, false) := ⟨pm_inG pm_mc_230 rfl, pm_inG pm_in_11 rfl, by decide +kernel, rfl, by decide +kernel, ⟨pm_inG pm_mi_230 rfl, pm_inG pm_me_230 rfl⟩, by decide, Or.inr (Or.inl rfl)⟩
set_option maxRecDepth 100000 in
theorem pm_mk_231 : pm_Mk (yX11_wordOf, cX11_wordOf, 4, some (.int), 1, 11, false) := ⟨pm_inG pm_mc_231 rfl, pm_inG pm_in_11 rfl, by decide +kernel, rfl, by decide +kernel, ⟨pm_inG pm_mi_231 rfl, pm_inG pm_me_231 rfl⟩, by decide, Or.inr (Or.inl rfl)⟩
set_option maxRecDepth 100000 in
theorem pm_mk_232 : pm_Mk (yX11_worth, cX11_worth, 3, some (.int), 2, 11, false) := ⟨pm_inG pm_mc_232 rfl, pm_inG pm_in_11 rfl, by decide +kernel, rfl, by decide +kernel, ⟨pm_inG pm_mi_232 rfl, pm_inG pm_me_232 rfl⟩, by decide, Or.inr (Or.inl rfl)⟩
set_option maxRecDepth 100000 in
theorem pm_mk_233 : pm_Mk (yX11_write, cX11_write, 2, some (.int), 1, 11, false) := ⟨pm_inG pm_mc_233 rfl, pm_inG pm_in_11 rfl, by decide +kernel, rfl, by decide +kernel, ⟨pm_inG pm_mi_233 rfl, pm_inG pm_me_233 rfl⟩, by decide, Or.inr (Or.inl rfl)⟩
set_option maxRecDepth 100000 in
theorem pm_mk_234 : pm_Mk (yX11_written, cX11_written, 3, some (.int), 1, 11, false) := ⟨pm_inG pm_mc_234 rfl, pm_inG pm_in_11 rfl, by decide +kernel, rfl, by decide +kernel, ⟨pm_inG pm_mi_234 rfl, pm_inG pm_me_234 rfl⟩, by decide, Or.inr (Or.inl rfl)⟩
set_option maxRecDepth 100000 in
theorem pm_mk_235 : pm_Mk (yJ7_fill_53178, cJ7_fill_53178, 4, none, 2, 13, true) := ⟨pm_inG pm_mc_235 rfl, pm_inG pm_in_13 rfl, by decide +kernel, rfl, by decide +kernel, pm_inG pm_ms_235 rfl, by decide, Or.inl rfl⟩
theorem pm_mk : ∀ (k : Nat) (me : pm_Me), k < 236 → pm_M[k]? = some me → pm_Mk me := fun k => match k with
  | 0 => fun _ _ h => by cases h; exact pm_mk_0
  | 1 => fun _ _ h => by cases h; exact pm_mk_1
  | 2 => fun _ _ h => by cases h; exact pm_mk_2
  | 3 => fun _ _ h => by cases h; exact pm_mk_3
  | 4 => fun _ _ h => by cases h; exact pm_mk_4
  | 5 => fun _ _ h => by cases h; exact pm_mk_5
  | 6 => fun _ _ h => by cases h; exact pm_mk_6
  | 7 => fun _ _ h => by cases h; exact pm_mk_7
  | 8 => fun _ _ h => by cases h; exact pm_mk_8
  | 9 => fun _ _ h => by cases h; exact pm_mk_9
  | 10 => fun _ _ h => by cases h; exact pm_mk_10
  | 11 => fun _ _ h => by cases h; exact pm_mk_11
  | 12 => fun _ _ h => by cases h; exact pm_mk_12
  | 13 => fun _ _ h => by cases h; exact pm_mk_13
  | 14 => fun _ _ h => by cases h; exact pm_mk_14
  | 15 => fun _ _ h => by cases h; exact pm_mk_15
  | 16 => fun _ _ h => by cases h; exact pm_mk_16
  | 17 => fun _ _ h => by cases h; exact pm_mk_17
  | 18 => fun _ _ h => by cases h; exact pm_mk_18
  | 19 => fun _ _ h => by cases h; exact pm_mk_19
  | 20 => fun _ _ h => by cases h; exact pm_mk_20
  | 21 => fun _ _ h => by cases h; exact pm_mk_21
  | 22 => fun _ _ h => by cases h; exact pm_mk_22
  | 23 => fun _ _ h => by cases h; exact pm_mk_23
  | 24 => fun _ _ h => by cases h; exact pm_mk_24
  | 25 => fun _ _ h => by cases h; exact pm_mk_25
  | 26 => fun _ _ h => by cases h; exact pm_mk_26
  | 27 => fun _ _ h => by cases h; exact pm_mk_27
  | 28 => fun _ _ h => by cases h; exact pm_mk_28
  | 29 => fun _ _ h => by cases h; exact pm_mk_29
  | 30 => fun _ _ h => by cases h; exact pm_mk_30
  | 31 => fun _ _ h => by cases h; exact pm_mk_31
  | 32 => fun _ _ h => by cases h; exact pm_mk_32
  | 33 => fun _ _ h => by cases h; exact pm_mk_33
  | 34 => fun _ _ h => by cases h; exact pm_mk_34
  | 35 => fun _ _ h => by cases h; exact pm_mk_35
  | 36 => fun _ _ h => by cases h; exact pm_mk_36
  | 37 => fun _ _ h => by cases h; exact pm_mk_37
  | 38 => fun _ _ h => by cases h; exact pm_mk_38
  | 39 => fun _ _ h => by cases h; exact pm_mk_39
  | 40 => fun _ _ h => by cases h; exact pm_mk_40
  | 41 => fun _ _ h => by cases h; exact pm_mk_41
  | 42 => fun _ _ h => by cases h; exact pm_mk_42
  | 43 => fun _ _ h => by cases h; exact pm_mk_43
  | 44 => fun _ _ h => by cases h; exact pm_mk_44
  | 45 => fun _ _ h => by cases h; exact pm_mk_45
  | 46 => fun _ _ h => by cases h; exact pm_mk_46
  | 47 => fun _ _ h => by cases h; exact pm_mk_47
  | 48 => fun _ _ h => by cases h; exact pm_mk_48
  | 49 => fun _ _ h => by cases h; exact pm_mk_49
  | 50 => fun _ _ h => by cases h; exact pm_mk_50
  | 51 => fun _ _ h => by cases h; exact pm_mk_51
  | 52 => fun _ _ h => by cases h; exact pm_mk_52
  | 53 => fun _ _ h => by cases h; exact pm_mk_53
  | 54 => fun _ _ h => by cases h; exact pm_mk_54
  | 55 => fun _ _ h => by cases h; exact pm_mk_55
  | 56 => fun _ _ h => by cases h; exact pm_mk_56
  | 57 => fun _ _ h => by cases h; exact pm_mk_57
  | 58 => fun _ _ h => by cases h; exact pm_mk_58
  | 59 => fun _ _ h => by cases h; exact pm_mk_59
  | 60 => fun _ _ h => by cases h; exact pm_mk_60
  | 61 => fun _ _ h => by cases h; exact pm_mk_61
  | 62 => fun _ _ h => by cases h; exact pm_mk_62
  | 63 => fun _ _ h => by cases h; exact pm_mk_63
  | 64 => fun _ _ h => by cases h; exact pm_mk_64
  | 65 => fun _ _ h => by cases h; exact pm_mk_65
  | 66 => fun _ _ h => by cases h; exact pm_mk_66
  | 67 => fun _ _ h => by cases h; exact pm_mk_67
  | 68 => fun _ _ h => by cases h; exact pm_mk_68
  | 69 => fun _ _ h => by cases h; exact pm_mk_69
  | 70 => fun _ _ h => by cases h; exact pm_mk_70
  | 71 => fun _ _ h => by cases h; exact pm_mk_71
  | 72 => fun _ _ h => by cases h; exact pm_mk_72
  | 73 => fun _ _ h => by cases h; exact pm_mk_73
  | 74 => fun _ _ h => by cases h; exact pm_mk_74
  | 75 => fun _ _ h => by cases h; exact pm_mk_75
  | 76 => fun _ _ h => by cases h; exact pm_mk_76
  | 77 => fun _ _ h => by cases h; exact pm_mk_77
  | 78 => fun _ _ h => by cases h; exact pm_mk_78
  | 79 => fun _ _ h => by cases h; exact pm_mk_79
  | 80 => fun _ _ h => by cases h; exact pm_mk_80
  | 81 => fun _ _ h => by cases h; exact pm_mk_81
  | 82 => fun _ _ h => by cases h; exact pm_mk_82
  | 83 => fun _ _ h => by cases h; exact pm_mk_83
  | 84 => fun _ _ h => by cases h; exact pm_mk_84
  | 85 => fun _ _ h => by cases h; exact pm_mk_85
  | 86 => fun _ _ h => by cases h; exact pm_mk_86
  | 87 => fun _ _ h => by cases h; exact pm_mk_87
  | 88 => fun _ _ h => by cases h; exact pm_mk_88
  | 89 => fun _ _ h => by cases h; exact pm_mk_89
  | 90 => fun _ _ h => by cases h; exact pm_mk_90
  | 91 => fun _ _ h => by cases h; exact pm_mk_91
  | 92 => fun _ _ h => by cases h; exact pm_mk_92
  | 93 => fun _ _ h => by cases h; exact pm_mk_93
  | 94 => fun _ _ h => by cases h; exact pm_mk_94
  | 95 => fun _ _ h => by cases h; exact pm_mk_95
  | 96 => fun _ _ h => by cases h; exact pm_mk_96
  | 97 => fun _ _ h => by cases h; exact pm_mk_97
  | 98 => fun _ _ h => by cases h; exact pm_mk_98
  | 99 => fun _ _ h => by cases h; exact pm_mk_99
  | 100 => fun _ _ h => by cases h; exact pm_mk_100
  | 101 => fun _ _ h => by cases h; exact pm_mk_101
  | 102 => fun _ _ h => by cases h; exact pm_mk_102
  | 103 => fun _ _ h => by cases h; exact pm_mk_103
  | 104 => fun _ _ h => by cases h; exact pm_mk_104
  | 105 => fun _ _ h => by cases h; exact pm_mk_105
  | 106 => fun _ _ h => by cases h; exact pm_mk_106
  | 107 => fun _ _ h => by cases h; exact pm_mk_107
  | 108 => fun _ _ h => by cases h; exact pm_mk_108
  | 109 => fun _ _ h => by cases h; exact pm_mk_109
  | 110 => fun _ _ h => by cases h; exact pm_mk_110
  | 111 => fun _ _ h => by cases h; exact pm_mk_111
  | 112 => fun _ _ h => by cases h; exact pm_mk_112
  | 113 => fun _ _ h => by cases h; exact pm_mk_113
  | 114 => fun _ _ h => by cases h; exact pm_mk_114
  | 115 => fun _ _ h => by cases h; exact pm_mk_115
  | 116 => fun _ _ h => by cases h; exact pm_mk_116
  | 117 => fun _ _ h => by cases h; exact pm_mk_117
  | 118 => fun _ _ h => by cases h; exact pm_mk_118
  | 119 => fun _ _ h => by cases h; exact pm_mk_119
  | 120 => fun _ _ h => by cases h; exact pm_mk_120
  | 121 => fun _ _ h => by cases h; exact pm_mk_121
  | 122 => fun _ _ h => by cases h; exact pm_mk_122
  | 123 => fun _ _ h => by cases h; exact pm_mk_123
  | 124 => fun _ _ h => by cases h; exact pm_mk_124
  | 125 => fun _ _ h => by cases h; exact pm_mk_125
  | 126 => fun _ _ h => by cases h; exact pm_mk_126
  | 127 => fun _ _ h => by cases h; exact pm_mk_127
  | 128 => fun _ _ h => by cases h; exact pm_mk_128
  | 129 => fun _ _ h => by cases h; exact pm_mk_129
  | 130 => fun _ _ h => by cases h; exact pm_mk_130
  | 131 => fun _ _ h => by cases h; exact pm_mk_131
  | 132 => fun _ _ h => by cases h; exact pm_mk_132
  | 133 => fun _ _ h => by cases h; exact pm_mk_133
  | 134 => fun _ _ h => by cases h; exact pm_mk_134
  | 135 => fun _ _ h => by cases h; exact pm_mk_135
  | 136 => fun _ _ h => by cases h; exact pm_mk_136
  | 137 => fun _ _ h => by cases h; exact pm_mk_137
  | 138 => fun _ _ h => by cases h; exact pm_mk_138
  | 139 => fun _ _ h => by cases h; exact pm_mk_139
  | 140 => fun _ _ h => by cases h; exact pm_mk_140
  | 141 => fun _ _ h => by cases h; exact pm_mk_141
  | 142 => fun _ _ h => by cases h; exact pm_mk_142
  | 143 => fun _ _ h => by cases h; exact pm_mk_143
  | 144 => fun _ _ h => by cases h; exact pm_mk_144
  | 145 => fun _ _ h => by cases h; exact pm_mk_145
  | 146 => fun _ _ h => by cases h; exact pm_mk_146
  | 147 => fun _ _ h => by cases h; exact pm_mk_147
  | 148 => fun _ _ h => by cases h; exact pm_mk_148
  | 149 => fun _ _ h => by cases h; exact pm_mk_149
  | 150 => fun _ _ h => by cases h; exact pm_mk_150
  | 151 => fun _ _ h => by cases h; exact pm_mk_151
  | 152 => fun _ _ h => by cases h; exact pm_mk_152
  | 153 => fun _ _ h => by cases h; exact pm_mk_153
  | 154 => fun _ _ h => by cases h; exact pm_mk_154
  | 155 => fun _ _ h => by cases h; exact pm_mk_155
  | 156 => fun _ _ h => by cases h; exact pm_mk_156
  | 157 => fun _ _ h => by cases h; exact pm_mk_157
  | 158 => fun _ _ h => by cases h; exact pm_mk_158
  | 159 => fun _ _ h => by cases h; exact pm_mk_159
  | 160 => fun _ _ h => by cases h; exact pm_mk_160
  | 161 => fun _ _ h => by cases h; exact pm_mk_161
  | 162 => fun _ _ h => by cases h; exact pm_mk_162
  | 163 => fun _ _ h => by cases h; exact pm_mk_163
  | 164 => fun _ _ h => by cases h; exact pm_mk_164
  | 165 => fun _ _ h => by cases h; exact pm_mk_165
  | 166 => fun _ _ h => by cases h; exact pm_mk_166
  | 167 => fun _ _ h => by cases h; exact pm_mk_167
  | 168 => fun _ _ h => by cases h; exact pm_mk_168
  | 169 => fun _ _ h => by cases h; exact pm_mk_169
  | 170 => fun _ _ h => by cases h; exact pm_mk_170
  | 171 => fun _ _ h => by cases h; exact pm_mk_171
  | 172 => fun _ _ h => by cases h; exact pm_mk_172
  | 173 => fun _ _ h => by cases h; exact pm_mk_173
  | 174 => fun _ _ h => by cases h; exact pm_mk_174
  | 175 => fun _ _ h => by cases h; exact pm_mk_175
  | 176 => fun _ _ h => by cases h; exact pm_mk_176
  | 177 => fun _ _ h => by cases h; exact pm_mk_177
  | 178 => fun _ _ h => by cases h; exact pm_mk_178
  | 179 => fun _ _ h => by cases h; exact pm_mk_179
  | 180 => fun _ _ h => by cases h; exact pm_mk_180
  | 181 => fun _ _ h => by cases h; exact pm_mk_181
  | 182 => fun _ _ h => by cases h; exact pm_mk_182
  | 183 => fun _ _ h => by cases h; exact pm_mk_183
  | 184 => fun _ _ h => by cases h; exact pm_mk_184
  | 185 => fun _ _ h => by cases h; exact pm_mk_185
  | 186 => fun _ _ h => by cases h; exact pm_mk_186
  | 187 => fun _ _ h => by cases h; exact pm_mk_187
  | 188 => fun _ _ h => by cases h; exact pm_mk_188
  | 189 => fun _ _ h => by cases h; exact pm_mk_189
  | 190 => fun _ _ h => by cases h; exact pm_mk_190
  | 191 => fun _ _ h => by cases h; exact pm_mk_191
  | 192 => fun _ _ h => by cases h; exact pm_mk_192
  | 193 => fun _ _ h => by cases h; exact pm_mk_193
  | 194 => fun _ _ h => by cases h; exact pm_mk_194
  | 195 => fun _ _ h => by cases h; exact pm_mk_195
  | 196 => fun _ _ h => by cases h; exact pm_mk_196
  | 197 => fun _ _ h => by cases h; exact pm_mk_197
  | 198 => fun _ _ h => by cases h; exact pm_mk_198
  | 199 => fun _ _ h => by cases h; exact pm_mk_199
  | 200 => fun _ _ h => by cases h; exact pm_mk_200
  | 201 => fun _ _ h => by cases h; exact pm_mk_201
  | 202 => fun _ _ h => by cases h; exact pm_mk_202
  | 203 => fun _ _ h => by cases h; exact pm_mk_203
  | 204 => fun _ _ h => by cases h; exact pm_mk_204
  | 205 => fun _ _ h => by cases h; exact pm_mk_205
  | 206 => fun _ _ h => by cases h; exact pm_mk_206
  | 207 => fun _ _ h => by cases h; exact pm_mk_207
  | 208 => fun _ _ h => by cases h; exact pm_mk_208
  | 209 => fun _ _ h => by cases h; exact pm_mk_209
  | 210 => fun _ _ h => by cases h; exact pm_mk_210
  | 211 => fun _ _ h => by cases h; exact pm_mk_211
  | 212 => fun _ _ h => by cases h; exact pm_mk_212
  | 213 => fun _ _ h => by cases h; exact pm_mk_213
  | 214 => fun _ _ h => by cases h; exact pm_mk_214
  | 215 => fun _ _ h => by cases h; exact pm_mk_215
  | 216 => fun _ _ h => by cases h; exact pm_mk_216
  | 217 => fun _ _ h => by cases h; exact pm_mk_217
  | 218 => fun _ _ h => by cases h; exact pm_mk_218
  | 219 => fun _ _ h => by cases h; exact pm_mk_219
  | 220 => fun _ _ h => by cases h; exact pm_mk_220
  | 221 => fun _ _ h => by cases h; exact pm_mk_221
  | 222 => fun _ _ h => by cases h; exact pm_mk_222
  | 223 => fun _ _ h => by cases h; exact pm_mk_223
  | 224 => fun _ _ h => by cases h; exact pm_mk_224
  | 225 => fun _ _ h => by cases h; exact pm_mk_225
  | 226 => fun _ _ h => by cases h; exact pm_mk_226
  | 227 => fun _ _ h => by cases h; exact pm_mk_227
  | 228 => fun _ _ h => by cases h; exact pm_mk_228
  | 229 => fun _ _ h => by cases h; exact pm_mk_229
  | 230 => fun _ _ h => by cases h; exact pm_mk_230
  | 231 => fun _ _ h => by cases h; exact pm_mk_231
  | 232 => fun _ _ h => by cases h; exact pm_mk_232
  | 233 => fun _ _ h => by cases h; exact pm_mk_233
  | 234 => fun _ _ h => by cases h; exact pm_mk_234
  | 235 => fun _ _ h => by cases h; exact pm_mk_235
  | k + 236 => fun _ h _ => absurd h (by omega)
end
section
/-! The pure machine's runs are the real machine's: contracts of all methods out of 'pm_Cd'. -/
def pm_ws (me : pm_Me) : List Cond := Cond.code me.1 me.2.1 me.2.2.1 me.2.2.2.1 :: pm_G
def pm_rm (d : Nat) : Room := { frames := d, cells := 0, slots := 0, locals := 60 * d }
def pm_B (D : va_G) (k : pm_cK) (ad : Nat → Nat) (A : Nat → Prop) (u : pm_Hp) (t : State) : Prop := va_P D vwCl (pm_Wd k ad u) t.heap ∧ va_D A (pm_Wd k ad u)
def pm_Qc (D : va_G) (k : pm_cK) (ad : Nat → Nat) (rt : Option FieldType) (Q : pm_Q) (A : Nat → Prop) : Array Value → State → Outcome → State → Prop := match rt with
  | none => va_Qv (fun u => Q none u) (pm_B D k ad A) A
  | some .long => va_Ql (fun r u => Q (some (.long r)) u) (pm_B D k ad A) A
  | some (.object _) => va_Qr (fun u : pm_Hp × Nat => Q (some (.ref u.2)) u.1) (fun u a t => a = ad u.2 ∧ pm_B D k ad A u.1 t) A
  | some _ => va_Qi (fun r u => Q (some (.int r)) u) (pm_B D k ad A) A
def pm_pre (D : va_G) (k : pm_cK) (ad : Nat → Nat) (h : pm_Hp) (sz : Nat) (U : State) : Prop := U.heap.size = sz ∧ va_P D vwCl (pm_Wd k ad h) U.heap ∧ va_K D vwCl (pm_ty k) U ∧ va_D (fun _ => True) (pm_Wd k ad h) ∧ pm_E ad (va_A (pm_Wd k ad h) sz) U U.heap
def pm_Mt (l : Launch) (d : Nat) : Prop := ∀ (a : Nat) (me : pm_Me) (as : List Value) (h : pm_Hp) (Q : pm_Q) (D : va_G) (k : pm_cK) (ad : Nat → Nat) (sz : Nat), pm_M[a]? = some me → a < 236 → pm_Cd d a as h Q →
  Met l me.1 (pm_ws me) (pm_rm d) (va_Pc (as.map (pm_vr ad)) (pm_pre D k ad h sz)) (pm_Qc D k ad me.2.2.2.1 Q (va_A (pm_Wd k ad h) sz)) 0 0 (va_A (pm_Wd k ad h) sz)
theorem pm_blind {av : List Value} {D : va_G} {k : pm_cK} {ad : Nat → Nat} {h : pm_Hp} {sz : Nat} : FrameBlind (va_Pc av (pm_pre D k ad h sz)) := fun a U g mk q => by
  obtain ⟨q0, q1, qP, qK, qD, qE⟩ := q
  exact ⟨q0, q1, qP, va_K.moved (u := U) (U := U.calling g mk a) (Vm.Alike.refl U.vm) qK, qD, pm_E_same (u := U) (U := U.calling g mk a) rfl rfl qE⟩
theorem pm_good {me : pm_Me} (hm : pm_Mk me) : GoodIn pm_G (pm_ws me) := fun w hw => by
  have hg : w ∈ pm_G := by
    rcases List.mem_cons.mp hw with rfl | h1
    · exact hm.1
    · exact h1
  exact ⟨hg, good_of_word (List.mem_filter.mp hg).2⟩
section
variable {p : Program} {l : Launch} {e : Env} {R : Room} {s : State} {m : MethodId} {args : Array Value} {below : List Frame} {meth : Method} {c : Code} {H : Heap} {locs : List Loc} {cells slots : Nat} {Q : State → Prop} {D : va_G} {k : pm_cK} {ad : Nat → Nat} {A : Nat → Prop} {me : pm_Me} {pc : Nat} {lv : pm_Lv} {st : List Value} {h : pm_Hp} {ls : Array Slot} {cc : ByteArray} {nL a q d i : Nat} {own : String} {As rest : List Value} {Q' : pm_Q} {ks : List Nat}
theorem pm_free (hD : va_D A (pm_Wd k ad h)) (hS : va_S A s.heap H locs) (hA : ∀ q, s.heap.size ≤ q → A q) : ∀ q, va_A (pm_Wd k ad h) H.size q → A q := fun q hq => by
  rcases hq with ⟨j, e1, hj⟩ | hq
  · exact hD.2 j _ hj
  · exact hA q (Nat.le_trans hS.1 hq)
theorem pm_preS (hK : va_K D vwCl (pm_ty k) s) (hE : pm_E ad A s s.heap) (hA : ∀ q, s.heap.size ≤ q → A q) (hW : pm_Wo D k ad A s h H locs) (av : List Value) : PreS s H (va_Pc av (pm_pre D k ad h H.size)) av :=
  ⟨pm_blind, fun U hU hw => ⟨rfl, by rw [hU], by rw [hU]; exact hW.1, va_K.moved hw.alike hK, hW.2.1.weaken (fun _ _ _ _ => trivial), pm_E_at hE hW.2.2 (pm_free hW.2.1 hW.2.2 hA) hU hw⟩⟩
theorem pm_callB (hts : ∀ w ∈ pm_G, w.before args s = true) (hm : pm_Mk me) (hlink : Cond.methodLink own i me.1 ∈ pm_G) (hR : d + 1 ≤ R.frames ∧ 60 * d + 60 ≤ R.locals) : CallB R s args own i me.1 me.2.1 me.2.2.1 me.2.2.2.1 (pm_ws me) (pm_rm d) 0 0 me.2.2.2.2.1 :=
  callB_of (ws' := pm_G) me.2.2.2.2.1 hts (pm_good hm) rfl rfl rfl (hts _ hm.2.1) (hts _ hlink) hm.2.2.1 ⟨hR.1, by have h1 := hm.2.2.2.2.2.2.1; show 8 + (me.2.2.1 + 11) + 60 * d ≤ R.locals; omega⟩
/-- behind a call -/
theorem pm_after {rt : Option FieldType} {A1 : Nat → Prop} {av : Array Value} {st0 : List Value} (hrt : rt = none ∨ rt = some .int ∨ rt = some .boolean ∨ rt = some .long ∨ ∃ C, rt = some (.object C))
    (hr : va_Run p l e R s m args below meth c H locs cells slots 0 0 (F0 m pc ls st0) rest (pm_Qc D k ad rt Q' A1 av) A1) (hS : va_S A s.heap H locs) (hF : ∀ q, A1 q → A q)
    (kk : ∀ (r : Option Value) (u : pm_Hp) (H1 : Heap) (locs1 : List Loc), Q' r u → pm_Wo D k ad A s u H1 locs1 → W p l e R s m args below meth c H1 locs1 cells slots Q (F0 m (pc + 3) ls ((r.map (pm_vr ad)).toList ++ rest))) : W p l e R s m args below meth c H locs cells slots Q (F0 m pc ls st0) := by
  rcases hrt with rfl | rfl | rfl | rfl | ⟨C, rfl⟩
  · exact va_callv (a := av) hr hS (fun q _ h1 => hF q h1) hF (fun u t H1 locs1 ht hvm hw hB hz1 hk1 hS1 => kk none u H1 locs1 hw ⟨by rw [← ht]; exact hB.1, hB.2.weaken (fun _ _ _ h1 => hF _ h1), hS1⟩)
  · exact va_calli (a := av) hr hS (fun q _ h1 => hF q h1) hF (fun r u t H1 locs1 ht hvm hw hB hz1 hk1 hS1 => kk (some (.int r)) u H1 locs1 hw ⟨by rw [← ht]; exact hB.1, hB.2.weaken (fun _ _ _ h1 => hF _ h1), hS1⟩)
  · exact va_calli (a := av) hr hS (fun q _ h1 => hF q h1) hF (fun r u t H1 locs1 ht hvm hw hB hz1 hk1 hS1 => kk (some (.int r)) u H1 locs1 hw ⟨by rw [← ht]; exact hB.1, hB.2.weaken (fun _ _ _ h1 => hF _ h1), hS1⟩)
  · exact va_calll (a := av) hr hS (fun q _ h1 => hF q h1) hF (fun r u t H1 locs1 ht hvm hw hB hz1 hk1 hS1 => kk (some (.long r)) u H1 locs1 hw ⟨by rw [← ht]; exact hB.1, hB.2.weaken (fun _ _ _ h1 => hF _ h1), hS1⟩)
  · refine va_callr (a := av) hr hS (fun q _ h1 => hF q h1) hF (fun u ra t H1 locs1 ht hvm hw hB hz1 hk1 hS1 => ?_)
    obtain ⟨rfl, hB1, hB2⟩ := hB
    exact kk (some (.ref u.2)) u.1 H1 locs1 hw ⟨by rw [← ht]; exact hB1, hB2.weaken (fun _ _ _ h1 => hF _ h1), hS1⟩
/-- a call of an object's method -/
theorem pm_callV (IH : pm_Mt l d) (hx : p.tables.exec = Jvm.exec) (hb : c.code = cc) (hml : c.maxLocals = nL) (hown : s.vm.findClass own = some m.cls) (hts : ∀ w ∈ pm_G, w.before args s = true) (hK : va_K D vwCl (pm_ty k) s) (hE : pm_E ad A s s.heap) (hA : ∀ q, s.heap.size ≤ q → A q) (hW : pm_Wo D k ad A s h H locs)
    (hM : pm_M[a]? = some me) (ha : a < 236) (hsta : me.2.2.2.2.2.2 = false) (hlink : Cond.methodLink own i me.1 ∈ pm_G) (hC : pm_Cd d a (.ref q :: As) h Q') (hn : As.length = me.2.2.2.2.1) (hq : pm_S[q]? = some (0, me.2.2.2.2.2.1, ks)) (hls : ls.size = nL) (hroom : (rest.map fun v => v.category).sum ≤ 8) (hR : d + 1 ≤ R.frames ∧ 60 * d + 60 ≤ R.locals) (hcs : cells ≤ R.cells ∧ slots ≤ R.slots) (hdg : decode cc pc = .ok (.invokevirtual i, 3))
    (kk : ∀ (r : Option Value) (u : pm_Hp) (H1 : Heap) (locs1 : List Loc), Q' r u → pm_Wo D k ad A s u H1 locs1 → W p l e R s m args below meth c H1 locs1 cells slots Q (F0 m (pc + 3) ls ((r.map (pm_vr ad)).toList ++ rest))) : W p l e R s m args below meth c H locs cells slots Q (F0 m pc ls ((As.map (pm_vr ad)).reverse ++ .ref (ad q) :: rest)) := by
  have hm := pm_mk a me ha hM
  have hF := pm_free hW.2.1 hW.2.2 hA
  have hinst : Cond.instanceMethod me.1 ∈ pm_G ∧ Cond.selects me.1.cls me.1 me.1 ∈ pm_G := by
    have h1 := hm.2.2.2.2.2.1
    rw [hsta] at h1
    exact h1
  have hb12 : me.2.2.2.2.2.1 < 12 := by
    have h1 := List.all_eq_true.mp pm_ko _ (List.mem_of_getElem? hq)
    simp only [bne_self_eq_false, Bool.false_or, Bool.and_eq_true, beq_iff_eq, decide_eq_true_eq] at h1
    exact h1.2.2
  have hrec := va_recv hK hW.1 (pm_cl _ hb12) (pm_Wd_at k ad h hq (by decide : (0 : Nat) ≠ 6))
  refine pm_after hm.2.2.2.2.2.2.2 (va_runV (rest := rest) ⟨hx, hb, hml, hown, hts⟩ (IH a me (.ref q :: As) h Q' D k ad H.size hM ha hC) ⟨pm_callB hts hm hlink hR, hts _ hinst.1, hts _ hinst.2⟩ ⟨pm_blind, ?_, (pm_preS hK hE hA hW _).2⟩ rfl (by rw [List.length_map]; exact hn) hls rfl (lv_room hroom) hdg hcs) hW.2.2 hF kk
  rw [hm.2.2.2.1]
  exact hrec
/-- a call of a class's method -/
theorem pm_callS (IH : pm_Mt l d) (hx : p.tables.exec = Jvm.exec) (hb : c.code = cc) (hml : c.maxLocals = nL) (hown : s.vm.findClass own = some m.cls) (hts : ∀ w ∈ pm_G, w.before args s = true) (hK : va_K D vwCl (pm_ty k) s) (hE : pm_E ad A s s.heap) (hA : ∀ q, s.heap.size ≤ q → A q) (hW : pm_Wo D k ad A s h H locs)
    (hM : pm_M[a]? = some me) (ha : a < 236) (hsta : me.2.2.2.2.2.2 = true) (hlink : Cond.methodLink own i me.1 ∈ pm_G) (hC : pm_Cd d a As h Q') (hn : As.length = me.2.2.2.2.1) (hls : ls.size = nL) (hroom : (rest.map fun v => v.category).sum ≤ 8) (hR : d + 1 ≤ R.frames ∧ 60 * d + 60 ≤ R.locals) (hcs : cells ≤ R.cells ∧ slots ≤ R.slots) (hdg : decode cc pc = .ok (.invokestatic i, 3))
    (kk : ∀ (r : Option Value) (u : pm_Hp) (H1 : Heap) (locs1 : List Loc), Q' r u → pm_Wo D k ad A s u H1 locs1 → W p l e R s m args below meth c H1 locs1 cells slots Q (F0 m (pc + 3) ls ((r.map (pm_vr ad)).toList ++ rest))) : W p l e R s m args below meth c H locs cells slots Q (F0 m pc ls ((As.map (pm_vr ad)).reverse ++ rest)) := by
  have hm := pm_mk a me ha hM
  have hF := pm_free hW.2.1 hW.2.2 hA
  have hstt : Cond.static me.1 ∈ pm_G := by
    have h1 := hm.2.2.2.2.2.1
    rw [hsta] at h1
    exact h1
  exact pm_after hm.2.2.2.2.2.2.2 (va_runS (rest := rest) ⟨hx, hb, hml, hown, hts⟩ (IH a me As h Q' D k ad H.size hM ha hC) ⟨pm_callB hts hm hlink hR, hts _ hstt⟩ (pm_preS hK hE hA hW _) rfl (by rw [List.length_map]; exact hn) hls rfl (lv_room hroom) hdg hcs) hW.2.2 hF kk
/-- a return -/
theorem pm_oret {f r len b : Nat} {z : Int} (hf : 39 ≤ f ∧ f ≤ 42) (G : pm_Gx p s m args c R D k ad A me) (hr : meth.sig.returnType = me.2.2.2.1) (hlocks : meth.locks = false) (hd : decode me.2.1 pc = .ok (pm_real (f, r, len, z, a, b, i), len)) (hs : pm_side me pc (f, r, len, z, a, b, i) = true) (ht : pm_ret f r Q' st h) (hW : pm_Wo D k ad A s h H locs) : W p l e R s m args below meth c H locs cells slots (MQ below (pm_Qc D k ad me.2.2.2.1 Q' A) args s cells slots A) (F0 m pc ls (st.map (pm_vr ad))) := by
  obtain ⟨my, bt, ml, rt, np, ow, sta⟩ := me
  obtain ⟨⟨hx, hb, hml, hown, hts⟩, hK, hE, hA, hR1, hR2⟩ := G
  match f, hf, hd, hs, ht with
  | 39, _, hd, hs, ht =>
    obtain ⟨x, rfl, hz, hq⟩ := ht
    match r, hd, hs, hz with
    | 0, hd, hs, hz =>
      simp [pm_side, pm_len] at hs
      obtain ⟨rfl, h2⟩ := hs
      subst h2
      exact W.iret hx hb hr (fun t ht _ => ⟨⟨x, h, rfl, hq, by rw [ht]; exact hW.1, hW.2.1⟩, hW.2.2.F ht⟩) hW.2.2.2.2 hd hlocks
    | r + 1, hd, hs, hz =>
      simp [pm_side, pm_len] at hs
      obtain ⟨rfl, h1, h2⟩ := hs
      subst h1
      subst h2
      exact W.zret hx hb hr (pm_nnz (hz rfl)) (fun t ht _ => ⟨⟨x, h, rfl, hq, by rw [ht]; exact hW.1, hW.2.1⟩, hW.2.2.F ht⟩) hW.2.2.2.2 hd hlocks
  | 40, _, hd, hs, ht =>
    obtain ⟨x, rfl, hq⟩ := ht
    simp [pm_side, pm_len] at hs
    obtain ⟨rfl, h2⟩ := hs
    subst h2
    exact W.lret hx hb hr (fun t ht _ => ⟨⟨x, h, rfl, hq, by rw [ht]; exact hW.1, hW.2.1⟩, hW.2.2.F ht⟩) hW.2.2.2.2 hd hlocks
  | 41, _, hd, hs, ht =>
    obtain ⟨x, rfl, hq⟩ := ht
    match rt, hr, hs with
    | some (.object C), hr, hs =>
      simp [pm_side, pm_len] at hs
      subst hs
      exact W.aret hx hb hr (Or.inl ⟨C, rfl⟩) (Or.inr ⟨ad x, rfl⟩) (fun t ht _ => ⟨⟨(h, x), ad x, rfl, hq, rfl, by rw [ht]; exact hW.1, hW.2.1⟩, hW.2.2.F ht⟩) hW.2.2.2.2 hd hlocks
    | none, _, hs => simp [pm_side, pm_len] at hs
    | some .int, _, hs => simp [pm_side, pm_len] at hs
    | some .long, _, hs => simp [pm_side, pm_len] at hs
    | some .boolean, _, hs => simp [pm_side, pm_len] at hs
    | some .byte, _, hs => simp [pm_side, pm_len] at hs
    | some .char, _, hs => simp [pm_side, pm_len] at hs
    | some .short, _, hs => simp [pm_side, pm_len] at hs
    | some .float, _, hs => simp [pm_side, pm_len] at hs
    | some .double, _, hs => simp [pm_side, pm_len] at hs
    | some (.array _), _, hs => simp [pm_side, pm_len] at hs
  | 42, _, hd, hs, ht =>
    obtain ⟨rfl, hq⟩ := ht
    simp [pm_side, pm_len] at hs
    obtain ⟨rfl, h2⟩ := hs
    subst h2
    exact W.vret hx hb hr (fun t ht _ => ⟨⟨h, rfl, hq, by rw [ht]; exact hW.1, hW.2.1⟩, hW.2.2.F ht⟩) hW.2.2.2.2 hd hlocks
  | f + 43, hf, _, _, _ => exact absurd hf.2 (by omega)
end
theorem pm_ML_lt : ∀ q ∈ pm_ML, q.2.2 < 236 := by decide +kernel
theorem pm_ok1 {a pc : Nat} {me : pm_Me} {i : pm_Ins} (ha : a < 236) (hM : pm_M[a]? = some me) (hi : pm_ins a pc = some i) : decode me.2.1 pc = .ok (pm_real i, i.2.2.1) ∧ pm_side me pc i = true := by
  unfold pm_ins at hi
  cases hl : pm_I[a]? with
  | none => rw [hl] at hi; cases hi
  | some l =>
    rw [hl] at hi
    simp only [Option.bind_some] at hi
    cases hf : l.find? (fun q => q.1 == pc) with
    | none => rw [hf] at hi; cases hi
    | some q =>
      rw [hf] at hi
      simp only [Option.map_some, Option.some.injEq] at hi
      have h1 := List.all_eq_true.mp (pm_ok a me l ha hM hl) q (List.mem_of_find?_eq_some hf)
      have h2 : q.1 = pc := by simpa using List.find?_some hf
      unfold pm_okB at h1
      rw [Bool.and_eq_true, decide_eq_true_eq, h2, hi] at h1
      exact h1
/-- ALL METHODS: a contract of the pure machine is one of the real machine -/
theorem pm_met (l : Launch) : ∀ d : Nat, pm_Mt l d
  | 0 => fun _ _ _ _ _ _ _ _ _ _ _ hC => hC.elim
  | d + 1 => by
    intro a me as h Qp D k ad sz hM ha hC
    have IH := pm_met l d
    have hm := pm_mk a me ha hM
    obtain ⟨⟨me', hM', hlen⟩, hrun⟩ := hC
    cases hM.symm.trans hM'
    refine Met.ofW (cc := me.2.1) (maxL := me.2.2.1) (ret := me.2.2.2.1) hm.2.2.2.2.1 (ws' := pm_G) rfl ?_
    intro p e s m args below meth c s₁ B hml hv
    obtain ⟨rfl, hsz, hP, hK, hD0, hE⟩ := hv
    have hts0 := atoms_spec (ws := pm_ws me) B.pre
    have hown : s.vm.findClass me.1.cls = some m.cls := findClass_of_methodNamed B.named
    rw [hm.2.2.2.1] at hown
    subst hsz
    have hD := hD0.self (sz := s.heap.size)
    have hA : ∀ q : Nat, s.heap.size ≤ q → va_A (pm_Wd k ad h) s.heap.size q := fun q h1 => Or.inr h1
    have hl := lv_entry (as.map (pm_vr ad)) (n := me.2.2.1) (by rw [pm_sl_len]; exact hlen)
    rw [lg_entry_eq]
    have G : pm_Gx p s m (as.map (pm_vr ad)).toArray c (pm_rm (d + 1)) D k ad (va_A (pm_Wd k ad h) s.heap.size) me := ⟨⟨B.exec, B.bytes, hml, hown, fun w hw => hts0 w (List.mem_cons_of_mem _ hw)⟩, hK, hE, hA, by show 1 ≤ d + 1; omega, by show 60 ≤ 60 * (d + 1); omega⟩
    rw [← pm_lr_args] at hl
    refine hrun (pm_Sx p l e (pm_rm (d + 1)) s m (as.map (pm_vr ad)).toArray below meth c 0 0 (MQ below (pm_Qc D k ad me.2.2.2.1 Qp (va_A (pm_Wd k ad h) s.heap.size)) (as.map (pm_vr ad)).toArray s 0 0 (va_A (pm_Wd k ad h) s.heap.size)) D k ad (va_A (pm_Wd k ad h) s.heap.size) me.2.2.1) ?_ s.heap [] _ ⟨hP, hD, va_S.rf⟩ hl
    intro pc lv st h1 hF H locs ls hW hl
    obtain ⟨i, hi, hF⟩ := hF
    obtain ⟨hd, hs⟩ := pm_ok1 ha hM hi
    unfold pm_Fi at hF
    obtain ⟨f, r, len, z, a1, b, ix⟩ := i
    dsimp only at hF
    by_cases c1 : f = 43
    · subst c1
      rw [if_pos rfl] at hF
      obtain ⟨me1, q, As, rest, ks, g1, g2, g3, g4, g5, g6⟩ := hF
      obtain ⟨my, bt, ml, rt, np, ow, sta⟩ := me
      simp [pm_side, pm_len] at hs
      obtain ⟨rfl, hml1, hst⟩ := hs
      obtain ⟨y, rr, hy1, hy2⟩ := pm_ML_ok _ hml1
      have e1 : me1 = (y, rr) := Option.some.inj (g1.symm.trans hy1)
      have hsta : me1.2.2.2.2.2.2 = false := by
          rw [g1] at hst
          simp only [Option.some.injEq] at hst
          obtain ⟨x1, x2, x3, x4, x5, x6, x7⟩ := me1
          simp at hst
          first | exact hst | (obtain ⟨_, _, _, _, _, _, h0⟩ := hst; cases h0; rfl) | (subst hst; rfl)
      obtain ⟨⟨hx, hb, hml2, hown2, hts⟩, hK2, hE2, hA2, hR1, hR2⟩ := G
      rw [g3, List.map_append, List.map_reverse]
      exact pm_callV IH hx hb hml2 hown2 hts hK2 hE2 hA2 hW g1 (pm_ML_lt _ hml1) hsta (pm_inG (by rw [e1]; exact hy2) rfl) g6 g2 g4 hl.1 (by rw [pm_cat_map]; exact g5) ⟨by show d + 1 ≤ d + 1; omega, by show 60 * d + 60 ≤ 60 * (d + 1); omega⟩ ⟨Nat.le_refl _, Nat.le_refl _⟩ hd (fun r1 u H1 locs1 hq hW1 => by
        have h9 := hq H1 locs1 ls hW1 hl
        rw [List.map_append, show (r1.toList).map (pm_vr ad) = (r1.map (pm_vr ad)).toList by cases r1 <;> rfl] at h9
        exact h9)
    · rw [if_neg c1] at hF
      by_cases c2 : f = 44
      · subst c2
        rw [if_pos rfl] at hF
        obtain ⟨me1, As, rest, g1, g2, g3, g4, g5⟩ := hF
        obtain ⟨my, bt, ml, rt, np, ow, sta⟩ := me
        simp [pm_side, pm_len] at hs
        obtain ⟨rfl, hml1, hst⟩ := hs
        obtain ⟨y, rr, hy1, hy2⟩ := pm_ML_ok _ hml1
        have e1 : me1 = (y, rr) := Option.some.inj (g1.symm.trans hy1)
        have hsta : me1.2.2.2.2.2.2 = true := by
          rw [g1] at hst
          simp only [Option.some.injEq] at hst
          obtain ⟨x1, x2, x3, x4, x5, x6, x7⟩ := me1
          simp at hst
          first | exact hst | (obtain ⟨_, _, _, _, _, _, h0⟩ := hst; cases h0; rfl) | (subst hst; rfl)
        obtain ⟨⟨hx, hb, hml2, hown2, hts⟩, hK2, hE2, hA2, hR1, hR2⟩ := G
        rw [g3, List.map_append, List.map_reverse]
        exact pm_callS IH hx hb hml2 hown2 hts hK2 hE2 hA2 hW g1 (pm_ML_lt _ hml1) hsta (pm_inG (by rw [e1]; exact hy2) rfl) g5 g2 hl.1 (by rw [pm_cat_map]; exact g4) ⟨by show d + 1 ≤ d + 1; omega, by show 60 * d + 60 ≤ 60 * (d + 1); omega⟩ ⟨Nat.le_refl _, Nat.le_refl _⟩ hd (fun r1 u H1 locs1 hq hW1 => by
          have h9 := hq H1 locs1 ls hW1 hl
          rw [List.map_append, show (r1.toList).map (pm_vr ad) = (r1.map (pm_vr ad)).toList by cases r1 <;> rfl] at h9
          exact h9)
      · rw [if_neg c2] at hF
        by_cases c3 : 39 ≤ f ∧ f ≤ 42
        · rw [if_pos c3] at hF
          exact pm_oret c3 G B.returns B.notSynchronized hd hs hF hW
        · rw [if_neg c3] at hF
          obtain ⟨nx, h2, h3⟩ := hF
          exact pm_step1 ⟨Nat.le_refl _, Nat.le_refl _⟩ G hd hs h2 hW hl h3
end
section
/-! The checker: forms over names, their ranges. -/
abbrev ck_L : Type := List (Nat × Int)
abbrev ck_F : Type := Int × ck_L
abbrev ck_V : Type := Nat × ck_F
abbrev ck_E : Type := List (Nat × Int × Int)
abbrev ck_K : Type := List (ck_L × Int × Int)
abbrev ck_R : Type := Nat → Int
def ck_le (a b : Int) : Bool := match b - a with
  | .ofNat _ => true
  | .negSucc _ => false
def ck_z (a : Int) : Bool := match a with
  | .ofNat n => Nat.beq n 0
  | .negSucc _ => false
def ck_mx (a b : Int) : Int := bif ck_le a b then b else a
def ck_mn (a b : Int) : Int := bif ck_le a b then a else b
theorem ck_le_iff {a b : Int} : ck_le a b = true ↔ a ≤ b := by
  unfold ck_le
  cases h : b - a with
  | ofNat n =>
    have h1 : b - a = (n : Int) := h
    simp
    omega
  | negSucc n =>
    have h1 : b - a = -((n : Int) + 1) := by rw [h]; exact Int.negSucc_eq n
    simp
    omega
theorem ck_le_no {a b : Int} (h : ck_le a b = false) : b < a := by
  rcases Int.lt_or_le b a with h1 | h1
  · exact h1
  · rw [ck_le_iff.mpr h1] at h
    cases h
theorem ck_z_iff {a : Int} : ck_z a = true ↔ a = 0 := by
  unfold ck_z
  cases a with
  | ofNat n =>
    constructor
    · intro h
      have h1 := Nat.eq_of_beq_eq_true h
      subst h1
      rfl
    · intro h
      have h1 : (n : Int) = 0 := h
      have h2 : n = 0 := by omega
      subst h2
      rfl
  | negSucc n =>
    constructor
    · intro h
      cases h
    · intro h
      cases h
theorem ck_mx_le {a b x : Int} (h1 : a ≤ x) (h2 : b ≤ x) : ck_mx a b ≤ x := by
  unfold ck_mx
  cases ck_le a b
  · exact h1
  · exact h2
theorem ck_le_mn {a b x : Int} (h1 : x ≤ a) (h2 : x ≤ b) : x ≤ ck_mn a b := by
  unfold ck_mn
  cases ck_le a b
  · exact h2
  · exact h1
noncomputable def ck_lv (r : ck_R) (l : ck_L) : Int := List.rec (motive := fun _ => Int) 0 (fun p _ ih => p.2 * r p.1 + ih) l
noncomputable def ck_ev (r : ck_R) (f : ck_F) : Int := f.1 + ck_lv r f.2
theorem ck_lv_cons (r : ck_R) (p : Nat × Int) (l : ck_L) : ck_lv r (p :: l) = p.2 * r p.1 + ck_lv r l := rfl
noncomputable def ck_in (n : Nat) (c : Int) (l : ck_L) : ck_L :=
  List.rec (motive := fun _ => ck_L) [(n, c)] (fun p t ih => bif Nat.beq n p.1 then (bif ck_z (c + p.2) then t else (n, c + p.2) :: t) else (bif Nat.blt n p.1 then (n, c) :: p :: t else p :: ih)) l
theorem ck_in_cons (n : Nat) (c : Int) (p : Nat × Int) (t : ck_L) : ck_in n c (p :: t) = (bif Nat.beq n p.1 then (bif ck_z (c + p.2) then t else (n, c + p.2) :: t) else (bif Nat.blt n p.1 then (n, c) :: p :: t else p :: ck_in n c t)) := rfl
theorem ck_lv_in (r : ck_R) (n : Nat) (c : Int) (l : ck_L) : ck_lv r (ck_in n c l) = c * r n + ck_lv r l := by
  induction l with
  | nil => rfl
  | cons p t ih =>
    rw [ck_in_cons, ck_lv_cons]
    cases hb : Nat.beq n p.1 with
    | true =>
      have h1 := Nat.eq_of_beq_eq_true hb
      cases hz : ck_z (c + p.2) with
      | true =>
        have h2 := ck_z_iff.mp hz
        show ck_lv r t = _
        have h3 : c * r n + p.2 * r p.1 = 0 := by
          rw [h1, ← Int.add_mul, h2, Int.zero_mul]
        omega
      | false =>
        show ck_lv r ((n, c + p.2) :: t) = _
        rw [ck_lv_cons]
        show (c + p.2) * r n + _ = _
        rw [Int.add_mul, h1]
        omega
    | false =>
      cases hl : Nat.blt n p.1 with
      | true => rfl
      | false =>
        show ck_lv r (p :: ck_in n c t) = _
        rw [ck_lv_cons, ih]
        omega
noncomputable def ck_ad (l1 l2 : ck_L) : ck_L := List.rec (motive := fun _ => ck_L) l2 (fun p _ ih => ck_in p.1 p.2 ih) l1
theorem ck_lv_ad (r : ck_R) (l1 l2 : ck_L) : ck_lv r (ck_ad l1 l2) = ck_lv r l1 + ck_lv r l2 := by
  induction l1 with
  | nil => show ck_lv r l2 = 0 + ck_lv r l2; omega
  | cons p t ih =>
    show ck_lv r (ck_in p.1 p.2 (ck_ad t l2)) = _
    rw [ck_lv_in, ih, ck_lv_cons]
    omega
noncomputable def ck_sc (k : Int) (l : ck_L) : ck_L := bif ck_z k then [] else List.rec (motive := fun _ => ck_L) [] (fun p _ ih => (p.1, k * p.2) :: ih) l
theorem ck_lv_sc (r : ck_R) (k : Int) (l : ck_L) : ck_lv r (ck_sc k l) = k * ck_lv r l := by
  unfold ck_sc
  cases hz : ck_z k with
  | true =>
    rw [ck_z_iff.mp hz, Int.zero_mul]
    rfl
  | false =>
    show ck_lv r (List.rec (motive := fun _ => ck_L) [] (fun p _ ih => (p.1, k * p.2) :: ih) l) = _
    induction l with
    | nil => show (0 : Int) = k * 0; rw [Int.mul_zero]
    | cons p t ih =>
      show (k * p.2) * r p.1 + ck_lv r (List.rec (motive := fun _ => ck_L) [] (fun p _ ih => (p.1, k * p.2) :: ih) t) = k * (p.2 * r p.1 + ck_lv r t)
      rw [ih, Int.mul_add, Int.mul_assoc]
noncomputable def ck_fa (f g : ck_F) : ck_F := (f.1 + g.1, ck_ad f.2 g.2)
noncomputable def ck_fs (f g : ck_F) : ck_F := (f.1 - g.1, ck_ad (ck_sc (-1) g.2) f.2)
noncomputable def ck_fk (k : Int) (f : ck_F) : ck_F := (k * f.1, ck_sc k f.2)
theorem ck_ev_fa (r : ck_R) (f g : ck_F) : ck_ev r (ck_fa f g) = ck_ev r f + ck_ev r g := by
  show f.1 + g.1 + ck_lv r (ck_ad f.2 g.2) = (f.1 + ck_lv r f.2) + (g.1 + ck_lv r g.2)
  rw [ck_lv_ad]
  omega
theorem ck_ev_fs (r : ck_R) (f g : ck_F) : ck_ev r (ck_fs f g) = ck_ev r f - ck_ev r g := by
  show f.1 - g.1 + ck_lv r (ck_ad (ck_sc (-1) g.2) f.2) = (f.1 + ck_lv r f.2) - (g.1 + ck_lv r g.2)
  rw [ck_lv_ad, ck_lv_sc]
  omega
theorem ck_ev_fk (r : ck_R) (k : Int) (f : ck_F) : ck_ev r (ck_fk k f) = k * ck_ev r f := by
  show k * f.1 + ck_lv r (ck_sc k f.2) = k * (f.1 + ck_lv r f.2)
  rw [ck_lv_sc, Int.mul_add]
theorem ck_ev_k (r : ck_R) (c : Int) : ck_ev r (c, []) = c := by
  show c + 0 = c
  omega
theorem ck_ev_v (r : ck_R) (n : Nat) : ck_ev r (0, [(n, 1)]) = r n := by
  show 0 + (1 * r n + 0) = r n
  omega
/-- names below a number -/
noncomputable def ck_wl (n : Nat) (l : ck_L) : Bool := List.rec (motive := fun _ => Bool) true (fun p _ ih => bif Nat.blt p.1 n then ih else false) l
theorem ck_wl_ok {n : Nat} {l : ck_L} {r r' : ck_R} (h : ck_wl n l = true) (hr : ∀ i, i < n → r' i = r i) : ck_lv r' l = ck_lv r l := by
  induction l with
  | nil => rfl
  | cons p t ih =>
    have h0 : (bif Nat.blt p.1 n then ck_wl n t else false) = true := h
    cases hb : Nat.blt p.1 n with
    | true =>
      rw [hb] at h0
      rw [ck_lv_cons, ck_lv_cons, ih h0, hr p.1 (by have h1 := hb; simp only [Nat.blt_eq] at h1; exact h1)]
    | false => rw [hb] at h0; cases h0
/-- intervals -/
def ck_es (E : ck_E) (r : ck_R) : Prop := ∀ p ∈ E, p.2.1 ≤ r p.1 ∧ r p.1 ≤ p.2.2
def ck_ks (K : ck_K) (r : ck_R) : Prop := ∀ k ∈ K, k.2.1 ≤ ck_lv r k.1 ∧ ck_lv r k.1 ≤ k.2.2
noncomputable def ck_iv (E : ck_E) (n : Nat) : Option (Int × Int) := List.rec (motive := fun _ => Option (Int × Int)) none (fun p _ ih => bif Nat.beq n p.1 then some p.2 else ih) E
theorem ck_iv_ok {E : ck_E} {r : ck_R} {n : Nat} {a b : Int} (h : ck_iv E n = some (a, b)) (hE : ck_es E r) : a ≤ r n ∧ r n ≤ b := by
  induction E with
  | nil => cases h
  | cons p t ih =>
    have h0 : (bif Nat.beq n p.1 then some p.2 else ck_iv t n) = some (a, b) := h
    cases hb : Nat.beq n p.1 with
    | true =>
      rw [hb] at h0
      have h1 := Nat.eq_of_beq_eq_true hb
      have h2 : p.2 = (a, b) := Option.some.inj h0
      have h3 := hE p (List.mem_cons_self ..)
      rw [h2, ← h1] at h3
      exact h3
    | false =>
      rw [hb] at h0
      exact ih h0 (fun q hq => hE q (List.mem_cons_of_mem _ hq))
noncomputable def ck_pl0 (E : ck_E) (c : Int) (l : ck_L) : Option (Int × Int) := List.rec (motive := fun _ => Option (Int × Int)) (some (c, c)) (fun p _ ih => match ih with
  | none => none
  | some w => match ck_iv E p.1 with
    | none => none
    | some q => bif ck_le 0 p.2 then some (w.1 + p.2 * q.1, w.2 + p.2 * q.2) else some (w.1 + p.2 * q.2, w.2 + p.2 * q.1)) l
noncomputable def ck_pl (E : ck_E) (f : ck_F) : Option (Int × Int) := ck_pl0 E f.1 f.2
theorem ck_pl0_cons {E : ck_E} {c : Int} {p : Nat × Int} {t : ck_L} {x : Int × Int} (h : ck_pl0 E c (p :: t) = some x) : ∃ w q, ck_pl0 E c t = some w ∧ ck_iv E p.1 = some q ∧ (0 ≤ p.2 ∧ x = (w.1 + p.2 * q.1, w.2 + p.2 * q.2) ∨ p.2 < 0 ∧ x = (w.1 + p.2 * q.2, w.2 + p.2 * q.1)) := by
  have h0 : (match ck_pl0 E c t with
    | none => none
    | some w => match ck_iv E p.1 with
      | none => none
      | some q => bif ck_le 0 p.2 then some (w.1 + p.2 * q.1, w.2 + p.2 * q.2) else some (w.1 + p.2 * q.2, w.2 + p.2 * q.1)) = some x := h
  cases hw : ck_pl0 E c t with
  | none => rw [hw] at h0; cases h0
  | some w =>
    rw [hw] at h0
    cases hq : ck_iv E p.1 with
    | none => rw [hq] at h0; cases h0
    | some q =>
      rw [hq] at h0
      refine ⟨w, q, rfl, rfl, ?_⟩
      cases hb : ck_le 0 p.2 with
      | true => rw [hb] at h0; exact Or.inl ⟨ck_le_iff.mp hb, (Option.some.inj h0).symm⟩
      | false => rw [hb] at h0; exact Or.inr ⟨ck_le_no hb, (Option.some.inj h0).symm⟩
theorem ck_mul_mono {c a b : Int} (hc : 0 ≤ c) (h : a ≤ b) : c * a ≤ c * b := Int.mul_le_mul_of_nonneg_left h hc
theorem ck_mul_anti {c a b : Int} (hc : c < 0) (h : a ≤ b) : c * b ≤ c * a := by
  have h1 := Int.mul_le_mul_of_nonneg_left h (show (0 : Int) ≤ -c by omega)
  rw [Int.neg_mul, Int.neg_mul] at h1
  omega
theorem ck_pl0_ok {E : ck_E} {r : ck_R} {c : Int} (hE : ck_es E r) : ∀ {l : ck_L} {x : Int × Int}, ck_pl0 E c l = some x → x.1 ≤ c + ck_lv r l ∧ c + ck_lv r l ≤ x.2
  | [], x, h => by
    have h1 : (c, c) = x := Option.some.inj h
    subst h1
    show c ≤ c + 0 ∧ c + 0 ≤ c
    omega
  | p :: t, x, h => by
    obtain ⟨w, q, hw, hq, h1⟩ := ck_pl0_cons h
    have hi := ck_pl0_ok hE hw
    have hv := ck_iv_ok (a := q.1) (b := q.2) hq hE
    rw [ck_lv_cons]
    rcases h1 with ⟨h2, rfl⟩ | ⟨h2, rfl⟩
    · have h3 := ck_mul_mono h2 hv.1
      have h4 := ck_mul_mono h2 hv.2
      show w.1 + p.2 * q.1 ≤ _ ∧ _ ≤ w.2 + p.2 * q.2
      omega
    · have h3 := ck_mul_anti h2 hv.1
      have h4 := ck_mul_anti h2 hv.2
      show w.1 + p.2 * q.2 ≤ _ ∧ _ ≤ w.2 + p.2 * q.1
      omega
theorem ck_pl_ok {E : ck_E} {r : ck_R} {f : ck_F} {x : Int × Int} (hE : ck_es E r) (h : ck_pl E f = some x) : x.1 ≤ ck_ev r f ∧ ck_ev r f ≤ x.2 := ck_pl0_ok hE h
/-- ranges by constraints -/
noncomputable def ck_co (l : ck_L) (n : Nat) : Int := List.rec (motive := fun _ => Int) 0 (fun p _ ih => bif Nat.beq n p.1 then p.2 else ih) l
noncomputable def ck_mu (l lp : ck_L) : Int := List.rec (motive := fun _ => Int) 0 (fun p _ ih => bif ck_z (ck_co l p.1) then ih else (bif ck_z (ck_co l p.1 % p.2) then ck_co l p.1 / p.2 else ih)) lp
def ck_me (acc r : Option (Int × Int)) (m a b : Int) : Option (Int × Int) := match r with
  | none => acc
  | some x => match acc with
    | none => bif ck_le 0 m then some (x.1 + m * a, x.2 + m * b) else some (x.1 + m * b, x.2 + m * a)
    | some y => bif ck_le 0 m then some (ck_mx y.1 (x.1 + m * a), ck_mn y.2 (x.2 + m * b)) else some (ck_mx y.1 (x.1 + m * b), ck_mn y.2 (x.2 + m * a))
noncomputable def ck_rs (ih : ck_F → Option (Int × Int)) (E : ck_E) (f : ck_F) (K : ck_K) : Option (Int × Int) := List.rec (motive := fun _ => Option (Int × Int)) (ck_pl E f) (fun k _ acc => bif ck_z (ck_mu f.2 k.1) then acc else ck_me acc (ih (ck_fs f (0, ck_sc (ck_mu f.2 k.1) k.1))) (ck_mu f.2 k.1) k.2.1 k.2.2) K
noncomputable def ck_rg (d : Nat) (E : ck_E) (K : ck_K) : ck_F → Option (Int × Int) := Nat.rec (motive := fun _ => ck_F → Option (Int × Int)) (fun f => ck_pl E f) (fun _ ih f => ck_rs ih E f K) d
def ck_bd (r : ck_R) (f : ck_F) (o : Option (Int × Int)) : Prop := ∀ x, o = some x → x.1 ≤ ck_ev r f ∧ ck_ev r f ≤ x.2
theorem ck_me_ok {r : ck_R} {f : ck_F} {acc q : Option (Int × Int)} {m a b : Int} {l : ck_L} (h1 : ck_bd r f acc) (h2 : ck_bd r (ck_fs f (0, ck_sc m l)) q) (h3 : a ≤ ck_lv r l ∧ ck_lv r l ≤ b) : ck_bd r f (ck_me acc q m a b) := by
  unfold ck_me
  cases q with
  | none => exact h1
  | some x =>
    have h4 := h2 x rfl
    rw [ck_ev_fs] at h4
    have h5 : ck_ev r (0, ck_sc m l) = m * ck_lv r l := by
      show 0 + ck_lv r (ck_sc m l) = _
      rw [ck_lv_sc]
      omega
    rw [h5] at h4
    have key : (ck_le 0 m = true → x.1 + m * a ≤ ck_ev r f ∧ ck_ev r f ≤ x.2 + m * b) ∧ (ck_le 0 m = false → x.1 + m * b ≤ ck_ev r f ∧ ck_ev r f ≤ x.2 + m * a) := by
      constructor
      · intro h
        have h6 := ck_mul_mono (ck_le_iff.mp h) h3.1
        have h7 := ck_mul_mono (ck_le_iff.mp h) h3.2
        omega
      · intro h
        have h6 := ck_mul_anti (ck_le_no h) h3.1
        have h7 := ck_mul_anti (ck_le_no h) h3.2
        omega
    cases acc with
    | none =>
      cases hm : ck_le 0 m with
      | true => intro y hy; have := Option.some.inj hy; subst this; exact key.1 hm
      | false => intro y hy; have := Option.some.inj hy; subst this; exact key.2 hm
    | some z =>
      have hz := h1 z rfl
      cases hm : ck_le 0 m with
      | true => intro y hy; have := Option.some.inj hy; subst this; exact ⟨ck_mx_le hz.1 (key.1 hm).1, ck_le_mn hz.2 (key.1 hm).2⟩
      | false => intro y hy; have := Option.some.inj hy; subst this; exact ⟨ck_mx_le hz.1 (key.2 hm).1, ck_le_mn hz.2 (key.2 hm).2⟩
theorem ck_rs_ok {ih : ck_F → Option (Int × Int)} {E : ck_E} {r : ck_R} {f : ck_F} (hi : ∀ g, ck_bd r g (ih g)) (hE : ck_es E r) : ∀ {K : ck_K}, ck_ks K r → ck_bd r f (ck_rs ih E f K)
  | [], _ => fun _ hx => ck_pl_ok hE hx
  | k :: t, hK => by
    have h1 : ck_bd r f (ck_rs ih E f t) := ck_rs_ok hi hE (fun q hq => hK q (List.mem_cons_of_mem _ hq))
    show ck_bd r f (bif ck_z (ck_mu f.2 k.1) then ck_rs ih E f t else ck_me (ck_rs ih E f t) (ih (ck_fs f (0, ck_sc (ck_mu f.2 k.1) k.1))) (ck_mu f.2 k.1) k.2.1 k.2.2)
    cases ck_z (ck_mu f.2 k.1) with
    | true => exact h1
    | false => exact ck_me_ok h1 (hi _) (hK k (List.mem_cons_self ..))
theorem ck_rg_ok {E : ck_E} {K : ck_K} {r : ck_R} (hE : ck_es E r) (hK : ck_ks K r) : ∀ (d : Nat) (f : ck_F), ck_bd r f (ck_rg d E K f)
  | 0 => fun _ _ hx => ck_pl_ok hE hx
  | d + 1 => fun f => ck_rs_ok (f := f) (ck_rg_ok hE hK d) hE hK
/-- at most 0, by the plain range, then by constraints -/
noncomputable def ck_np (E : ck_E) (K : ck_K) (f : ck_F) : Bool := match ck_pl E f with
  | some x => bif ck_le x.2 0 then true else (match ck_rg 2 E K f with
    | some y => ck_le y.2 0
    | none => false)
  | none => false
theorem ck_np_ok {E : ck_E} {K : ck_K} {r : ck_R} {f : ck_F} (hE : ck_es E r) (hK : ck_ks K r) (h : ck_np E K f = true) : ck_ev r f ≤ 0 := by
  unfold ck_np at h
  cases hp : ck_pl E f with
  | none => rw [hp] at h; cases h
  | some x =>
    rw [hp] at h
    have h1 := ck_pl_ok hE hp
    cases hb : ck_le x.2 0 with
    | true => have h2 := ck_le_iff.mp hb; omega
    | false =>
      simp only [hb, cond_false] at h
      cases hg : ck_rg 2 E K f with
      | none => rw [hg] at h; cases h
      | some y =>
        rw [hg] at h
        have h2 := ck_rg_ok hE hK 2 f y hg
        have h3 := ck_le_iff.mp h
        omega
/-- a form that is 0 -/
noncomputable def ck_eq0 (E : ck_E) (K : ck_K) (f : ck_F) : Bool := match f.2 with
  | [] => ck_z f.1
  | _ :: _ => match ck_rg 2 E K f with
    | some y => bif ck_z y.1 then ck_z y.2 else false
    | none => false
theorem ck_eq0_ok {E : ck_E} {K : ck_K} {r : ck_R} {f : ck_F} (hE : ck_es E r) (hK : ck_ks K r) (h : ck_eq0 E K f = true) : ck_ev r f = 0 := by
  obtain ⟨c, l⟩ := f
  unfold ck_eq0 at h
  cases l with
  | nil =>
    have h1 := ck_z_iff.mp h
    rw [ck_ev_k]
    exact h1
  | cons p t =>
    dsimp only at h
    cases hg : ck_rg 2 E K (c, p :: t) with
    | none => rw [hg] at h; cases h
    | some y =>
      rw [hg] at h
      dsimp only at h
      have h2 := ck_rg_ok hE hK 2 _ y hg
      cases hz : ck_z y.1 with
      | false => rw [hz] at h; cases h
      | true =>
        rw [hz] at h
        have h3 := ck_z_iff.mp hz
        have h4 := ck_z_iff.mp h
        omega
end
section
/-! The checker: what is taken as true of a form. -/
noncomputable def ck_se (n : Nat) (lo hi : Int) (E : ck_E) : Option ck_E := List.rec (motive := fun _ => Option ck_E) (some []) (fun p t ih => bif Nat.beq n p.1 then (bif ck_le (ck_mx p.2.1 lo) (ck_mn p.2.2 hi) then some ((p.1, ck_mx p.2.1 lo, ck_mn p.2.2 hi) :: t) else none) else (match ih with
  | none => none
  | some t' => some (p :: t'))) E
theorem ck_es_cons {p : Nat × Int × Int} {E : ck_E} {r : ck_R} (h1 : p.2.1 ≤ r p.1 ∧ r p.1 ≤ p.2.2) (h2 : ck_es E r) : ck_es (p :: E) r := by
  intro q hq
  rcases List.mem_cons.mp hq with rfl | h
  · exact h1
  · exact h2 q h
theorem ck_se_ok {n : Nat} {lo hi : Int} {r : ck_R} (h1 : lo ≤ r n) (h2 : r n ≤ hi) : ∀ {E : ck_E}, ck_es E r → ∃ E', ck_se n lo hi E = some E' ∧ ck_es E' r
  | [], h => ⟨[], rfl, h⟩
  | p :: t, h => by
    have ht : ck_es t r := fun q hq => h q (List.mem_cons_of_mem _ hq)
    have hp := h p (List.mem_cons_self ..)
    obtain ⟨t', e1, h3⟩ := ck_se_ok h1 h2 ht
    show ∃ E', (bif Nat.beq n p.1 then (bif ck_le (ck_mx p.2.1 lo) (ck_mn p.2.2 hi) then some ((p.1, ck_mx p.2.1 lo, ck_mn p.2.2 hi) :: t) else none) else (match ck_se n lo hi t with
      | none => none
      | some t' => some (p :: t'))) = some E' ∧ ck_es E' r
    cases hb : Nat.beq n p.1 with
    | true =>
      have e2 := Nat.eq_of_beq_eq_true hb
      subst e2
      have h4 := ck_mx_le hp.1 h1
      have h5 := ck_le_mn hp.2 h2
      rw [ck_le_iff.mpr (Int.le_trans h4 h5)]
      exact ⟨_, rfl, ck_es_cons ⟨h4, h5⟩ ht⟩
    | false =>
      rw [e1]
      exact ⟨_, rfl, ck_es_cons hp h3⟩
theorem ck_pl0_one {E : ck_E} {r : ck_R} {c : Int} (hE : ck_es E r) : ∀ {l : ck_L} {x : Int × Int}, ck_pl0 E c l = some x → ∀ p ∈ l, ∀ q, ck_iv E p.1 = some q → (0 ≤ p.2 → x.1 - p.2 * q.1 + p.2 * r p.1 ≤ c + ck_lv r l) ∧ (p.2 < 0 → x.1 - p.2 * q.2 + p.2 * r p.1 ≤ c + ck_lv r l)
  | [], _, _ => fun _ hp => absurd hp List.not_mem_nil
  | p0 :: t, x, h => by
    intro p hp q hq
    obtain ⟨w, q0, hw, hq0, h1⟩ := ck_pl0_cons h
    have hi := ck_pl0_ok hE hw
    have hv := ck_iv_ok (a := q0.1) (b := q0.2) hq0 hE
    rw [ck_lv_cons]
    rcases List.mem_cons.mp hp with rfl | hp
    · have e1 : q0 = q := Option.some.inj (hq0.symm.trans hq)
      subst e1
      rcases h1 with ⟨h2, rfl⟩ | ⟨h2, rfl⟩
      · refine ⟨fun _ => ?_, fun h3 => by omega⟩
        show w.1 + p.2 * q0.1 - p.2 * q0.1 + p.2 * r p.1 ≤ _
        omega
      · refine ⟨fun h3 => by omega, fun _ => ?_⟩
        show w.1 + p.2 * q0.2 - p.2 * q0.2 + p.2 * r p.1 ≤ _
        omega
    · have h5 := ck_pl0_one hE hw p hp q hq
      rcases h1 with ⟨h2, rfl⟩ | ⟨h2, rfl⟩
      · have h3 := ck_mul_mono h2 hv.1
        refine ⟨fun h6 => ?_, fun h6 => ?_⟩
        · have h7 := h5.1 h6
          show w.1 + p0.2 * q0.1 - p.2 * q.1 + p.2 * r p.1 ≤ _
          omega
        · have h7 := h5.2 h6
          show w.1 + p0.2 * q0.1 - p.2 * q.2 + p.2 * r p.1 ≤ _
          omega
      · have h3 := ck_mul_anti h2 hv.2
        refine ⟨fun h6 => ?_, fun h6 => ?_⟩
        · have h7 := h5.1 h6
          show w.1 + p0.2 * q0.2 - p.2 * q.1 + p.2 * r p.1 ≤ _
          omega
        · have h7 := h5.2 h6
          show w.1 + p0.2 * q0.2 - p.2 * q.2 + p.2 * r p.1 ≤ _
          omega
noncomputable def ck_s1 (E : ck_E) (lo : Int) (p : Nat × Int) (E1 : ck_E) : Option ck_E := match ck_iv E p.1 with
  | none => some E1
  | some q => bif ck_le 1 p.2 then ck_se p.1 q.1 ((p.2 * q.1 - lo) / p.2) E1 else (bif ck_le p.2 (-1) then ck_se p.1 (-((p.2 * q.2 - lo) / (-p.2))) q.2 E1 else some E1)
noncomputable def ck_s2 (E : ck_E) (lo : Int) (l : ck_L) : Option ck_E := List.rec (motive := fun _ => Option ck_E) (some E) (fun p _ ih => match ih with
  | none => none
  | some E1 => ck_s1 E lo p E1) l
/-- intervals, if a form is at most 0 -/
noncomputable def ck_sv (E : ck_E) (f : ck_F) : Option ck_E := match ck_pl E f with
  | none => some E
  | some x => bif ck_le 1 x.1 then none else ck_s2 E x.1 f.2
theorem ck_s1_ok {E E1 : ck_E} {r : ck_R} {c lo : Int} {l : ck_L} {x : Int × Int} {p : Nat × Int} (hE : ck_es E r) (h1 : ck_es E1 r) (hx : ck_pl0 E c l = some x) (hp : p ∈ l) (h0 : c + ck_lv r l ≤ 0) (hlo : lo = x.1) : ∃ E', ck_s1 E lo p E1 = some E' ∧ ck_es E' r := by
  subst hlo
  unfold ck_s1
  cases hq : ck_iv E p.1 with
  | none => exact ⟨_, rfl, h1⟩
  | some q =>
    have hv := ck_iv_ok (a := q.1) (b := q.2) hq hE
    have h2 := ck_pl0_one hE hx p hp q hq
    cases hb : ck_le 1 p.2 with
    | true =>
      have h3 := ck_le_iff.mp hb
      have h4 := h2.1 (by omega)
      refine ck_se_ok hv.1 ?_ h1
      refine Int.le_ediv_of_mul_le (by omega) ?_
      rw [Int.mul_comm]
      omega
    | false =>
      show ∃ E', (bif ck_le p.2 (-1) then ck_se p.1 (-((p.2 * q.2 - x.1) / (-p.2))) q.2 E1 else some E1) = some E' ∧ ck_es E' r
      cases hb2 : ck_le p.2 (-1) with
      | true =>
        have h3 := ck_le_iff.mp hb2
        have h4 := h2.2 (by omega)
        refine ck_se_ok ?_ hv.2 h1
        have h5 : -(r p.1) ≤ (p.2 * q.2 - x.1) / (-p.2) := by
          refine Int.le_ediv_of_mul_le (by omega) ?_
          rw [Int.neg_mul_neg, Int.mul_comm]
          omega
        omega
      | false => exact ⟨_, rfl, h1⟩
theorem ck_s2_ok {E : ck_E} {r : ck_R} {c : Int} {l : ck_L} {x : Int × Int} (hE : ck_es E r) (hx : ck_pl0 E c l = some x) (h0 : c + ck_lv r l ≤ 0) : ∀ l' : ck_L, (∀ p ∈ l', p ∈ l) → ∃ E', ck_s2 E x.1 l' = some E' ∧ ck_es E' r
  | [], _ => ⟨E, rfl, hE⟩
  | p :: t, hl => by
    obtain ⟨E1, e1, h1⟩ := ck_s2_ok hE hx h0 t (fun q hq => hl q (List.mem_cons_of_mem _ hq))
    obtain ⟨E2, e2, h2⟩ := ck_s1_ok hE h1 hx (hl p (List.mem_cons_self ..)) h0 rfl
    refine ⟨E2, ?_, h2⟩
    show (match ck_s2 E x.1 t with
      | none => none
      | some E1 => ck_s1 E x.1 p E1) = some E2
    rw [e1]
    exact e2
theorem ck_sv_ok {E : ck_E} {r : ck_R} {f : ck_F} (hE : ck_es E r) (h0 : ck_ev r f ≤ 0) : ∃ E', ck_sv E f = some E' ∧ ck_es E' r := by
  unfold ck_sv
  cases hx : ck_pl E f with
  | none => exact ⟨E, rfl, hE⟩
  | some x =>
    have h1 := ck_pl_ok hE hx
    dsimp only
    cases hb : ck_le 1 x.1 with
    | true => have h2 := ck_le_iff.mp hb; omega
    | false => exact ck_s2_ok hE hx h0 f.2 (fun _ h => h)
/-- constraints -/
noncomputable def ck_sh (l lp : ck_L) : Bool := List.rec (motive := fun _ => Bool) false (fun p _ ih => bif ck_z (ck_co lp p.1) then ih else true) l
noncomputable def ck_v2 (k : ck_L × Int × Int) (E : ck_E) : Option ck_E := match ck_sv E (-k.2.2, k.1) with
  | none => none
  | some E1 => ck_sv E1 (k.2.1, ck_sc (-1) k.1)
noncomputable def ck_vs (l : ck_L) (E : ck_E) (K : ck_K) : Option ck_E := List.rec (motive := fun _ => Option ck_E) (some E) (fun k _ ih => match ih with
  | none => none
  | some E1 => bif ck_sh l k.1 then ck_v2 k E1 else some E1) K
theorem ck_v2_ok {k : ck_L × Int × Int} {E : ck_E} {r : ck_R} (hE : ck_es E r) (hk : k.2.1 ≤ ck_lv r k.1 ∧ ck_lv r k.1 ≤ k.2.2) : ∃ E', ck_v2 k E = some E' ∧ ck_es E' r := by
  obtain ⟨E1, e1, h1⟩ := ck_sv_ok (f := (-k.2.2, k.1)) hE (by show -k.2.2 + ck_lv r k.1 ≤ 0; omega)
  unfold ck_v2
  rw [e1]
  refine ck_sv_ok (f := (k.2.1, ck_sc (-1) k.1)) h1 ?_
  show k.2.1 + ck_lv r (ck_sc (-1) k.1) ≤ 0
  rw [ck_lv_sc]
  omega
theorem ck_vs_ok {l : ck_L} {E : ck_E} {r : ck_R} (hE : ck_es E r) : ∀ {K : ck_K}, ck_ks K r → ∃ E', ck_vs l E K = some E' ∧ ck_es E' r
  | [], _ => ⟨E, rfl, hE⟩
  | k :: t, hK => by
    obtain ⟨E1, e1, h1⟩ := ck_vs_ok (l := l) hE (fun q hq => hK q (List.mem_cons_of_mem _ hq))
    show ∃ E', (match ck_vs l E t with
      | none => none
      | some E1 => bif ck_sh l k.1 then ck_v2 k E1 else some E1) = some E' ∧ ck_es E' r
    rw [e1]
    cases hb : ck_sh l k.1 with
    | true =>
      obtain ⟨E2, e2, h2⟩ := ck_v2_ok h1 (hK k (List.mem_cons_self ..))
      exact ⟨E2, e2, h2⟩
    | false => exact ⟨E1, rfl, h1⟩
noncomputable def ck_el (l : ck_L) : ck_L → Bool := List.rec (motive := fun _ => ck_L → Bool) (fun m => match m with
  | [] => true
  | _ :: _ => false) (fun p _ ih m => match m with
  | [] => false
  | q :: u => bif Nat.beq p.1 q.1 then (bif ck_z (p.2 - q.2) then ih u else false) else false) l
theorem ck_el_ok : ∀ {l m : ck_L}, ck_el l m = true → l = m
  | [], [], _ => rfl
  | [], _ :: _, h => by cases h
  | _ :: _, [], h => by cases h
  | p :: t, q :: u, h => by
    have h0 : (bif Nat.beq p.1 q.1 then (bif ck_z (p.2 - q.2) then ck_el t u else false) else false) = true := h
    cases hb : Nat.beq p.1 q.1 with
    | false => rw [hb] at h0; cases h0
    | true =>
      rw [hb] at h0
      cases hz : ck_z (p.2 - q.2) with
      | false => rw [hz] at h0; cases h0
      | true =>
        rw [hz] at h0
        have e1 := Nat.eq_of_beq_eq_true hb
        have e2 := ck_z_iff.mp hz
        have e3 : p.2 = q.2 := by omega
        rw [ck_el_ok h0, show p = q from Prod.ext e1 e3]
noncomputable def ck_ak (l : ck_L) (a b : Int) (K : ck_K) : ck_K := List.rec (motive := fun _ => ck_K) [(l, a, b)] (fun k t ih => bif ck_el l k.1 then (k.1, ck_mx k.2.1 a, ck_mn k.2.2 b) :: t else k :: ih) K
theorem ck_ks_cons {k : ck_L × Int × Int} {K : ck_K} {r : ck_R} (h1 : k.2.1 ≤ ck_lv r k.1 ∧ ck_lv r k.1 ≤ k.2.2) (h2 : ck_ks K r) : ck_ks (k :: K) r := by
  intro q hq
  rcases List.mem_cons.mp hq with rfl | h
  · exact h1
  · exact h2 q h
theorem ck_ak_ok {l : ck_L} {a b : Int} {r : ck_R} (h : a ≤ ck_lv r l ∧ ck_lv r l ≤ b) : ∀ {K : ck_K}, ck_ks K r → ck_ks (ck_ak l a b K) r
  | [], hK => ck_ks_cons h hK
  | k :: t, hK => by
    have ht : ck_ks t r := fun q hq => hK q (List.mem_cons_of_mem _ hq)
    have hk := hK k (List.mem_cons_self ..)
    show ck_ks (bif ck_el l k.1 then (k.1, ck_mx k.2.1 a, ck_mn k.2.2 b) :: t else k :: ck_ak l a b t) r
    cases hb : ck_el l k.1 with
    | true =>
      have e1 := ck_el_ok hb
      rw [e1] at h
      exact ck_ks_cons ⟨ck_mx_le hk.1 h.1, ck_le_mn hk.2 h.2⟩ ht
    | false => exact ck_ks_cons hk (ck_ak_ok h ht)
/-- a form at most 0, with at least two names: a constraint -/
noncomputable def ck_ac (E : ck_E) (K : ck_K) (f : ck_F) : ck_K := match f.2 with
  | [] => K
  | p :: t => match t with
    | [] => K
    | _ :: _ => match ck_pl E f with
      | none => K
      | some x => bif ck_le 0 p.2 then ck_ak f.2 (x.1 - f.1) (-f.1) K else ck_ak (ck_sc (-1) f.2) f.1 (f.1 - x.1) K
theorem ck_ac_ok {E : ck_E} {K : ck_K} {f : ck_F} {r : ck_R} (hE : ck_es E r) (hK : ck_ks K r) (h0 : ck_ev r f ≤ 0) : ck_ks (ck_ac E K f) r := by
  obtain ⟨c, l⟩ := f
  unfold ck_ac
  match l, h0 with
  | [], _ => exact hK
  | [_], _ => exact hK
  | p :: q :: t, h0 =>
    dsimp only
    cases hx : ck_pl E (c, p :: q :: t) with
    | none => exact hK
    | some x =>
      have h1 := ck_pl_ok hE hx
      have h2 : ck_ev r (c, p :: q :: t) = c + ck_lv r (p :: q :: t) := rfl
      dsimp only
      cases hb : ck_le 0 p.2 with
      | true => exact ck_ak_ok ⟨by omega, by omega⟩ hK
      | false =>
        refine ck_ak_ok ?_ hK
        rw [ck_lv_sc]
        constructor <;> omega
noncomputable def ck_as (E : ck_E) (K : ck_K) (f : ck_F) : Option (ck_E × ck_K) := match ck_rg 2 E K f with
  | none => some (E, K)
  | some x => bif ck_le 1 x.1 then none else (bif ck_le x.2 0 then some (E, K) else (match ck_sv E f with
    | none => none
    | some E1 => match ck_vs f.2 E1 (ck_ac E K f) with
      | none => none
      | some E2 => some (E2, ck_ac E K f)))
theorem ck_as_ok {E : ck_E} {K : ck_K} {f : ck_F} {r : ck_R} (hE : ck_es E r) (hK : ck_ks K r) (h0 : ck_ev r f ≤ 0) : ∃ x, ck_as E K f = some x ∧ ck_es x.1 r ∧ ck_ks x.2 r := by
  unfold ck_as
  cases hx : ck_rg 2 E K f with
  | none => exact ⟨_, rfl, hE, hK⟩
  | some x =>
    have h1 := ck_rg_ok hE hK 2 f x hx
    dsimp only
    cases hb : ck_le 1 x.1 with
    | true => have h2 := ck_le_iff.mp hb; omega
    | false =>
      cases hb2 : ck_le x.2 0 with
      | true => exact ⟨_, rfl, hE, hK⟩
      | false =>
        obtain ⟨E1, e1, h2⟩ := ck_sv_ok hE h0
        have h3 := ck_ac_ok hE hK h0
        obtain ⟨E2, e2, h4⟩ := ck_vs_ok (l := f.2) h2 h3
        rw [e1]
        dsimp only [cond_false]
        rw [e2]
        exact ⟨_, rfl, h4, h3⟩
/-- a test of a difference: 0 eq, 1 ne, 2 lt, 3 ge, 4 gt, 5 le -/
noncomputable def ck_ts (b : Nat) (E : ck_E) (K : ck_K) (d : ck_F) : Option (ck_E × ck_K) := match b with
  | 0 => (match ck_as E K d with
    | none => none
    | some x => ck_as x.1 x.2 (ck_fk (-1) d))
  | 1 => (match ck_rg 2 E K d with
    | none => some (E, K)
    | some x => bif ck_z x.1 then (bif ck_z x.2 then none else ck_as E K (ck_fs (1, []) d)) else (bif ck_z x.2 then ck_as E K (ck_fa (1, []) d) else some (E, K)))
  | 2 => ck_as E K (ck_fa (1, []) d)
  | 3 => ck_as E K (ck_fk (-1) d)
  | 4 => ck_as E K (ck_fs (1, []) d)
  | _ => ck_as E K d
def ck_tc (b : Nat) (x : Int) : Prop := match b with
  | 0 => x = 0
  | 1 => x ≠ 0
  | 2 => x < 0
  | 3 => 0 ≤ x
  | 4 => 0 < x
  | _ => x ≤ 0
theorem ck_ts_ok {b : Nat} {E : ck_E} {K : ck_K} {d : ck_F} {r : ck_R} (hE : ck_es E r) (hK : ck_ks K r) (h0 : ck_tc b (ck_ev r d)) : ∃ x, ck_ts b E K d = some x ∧ ck_es x.1 r ∧ ck_ks x.2 r := by
  have hm : ck_ev r (ck_fk (-1) d) = - ck_ev r d := by rw [ck_ev_fk]; omega
  have hp : ck_ev r (ck_fa (1, []) d) = 1 + ck_ev r d := by rw [ck_ev_fa, ck_ev_k]
  have hn : ck_ev r (ck_fs (1, []) d) = 1 - ck_ev r d := by rw [ck_ev_fs, ck_ev_k]
  match b, h0 with
  | 0, h0 =>
    have h1 : ck_ev r d = 0 := h0
    obtain ⟨x, e1, h2, h3⟩ := ck_as_ok (f := d) hE hK (by omega)
    show ∃ y, (match ck_as E K d with
      | none => none
      | some x => ck_as x.1 x.2 (ck_fk (-1) d)) = some y ∧ ck_es y.1 r ∧ ck_ks y.2 r
    rw [e1]
    exact ck_as_ok h2 h3 (by omega)
  | 1, h0 =>
    have h1 : ck_ev r d ≠ 0 := h0
    show ∃ y, (match ck_rg 2 E K d with
      | none => some (E, K)
      | some x => bif ck_z x.1 then (bif ck_z x.2 then none else ck_as E K (ck_fs (1, []) d)) else (bif ck_z x.2 then ck_as E K (ck_fa (1, []) d) else some (E, K))) = some y ∧ ck_es y.1 r ∧ ck_ks y.2 r
    cases hx : ck_rg 2 E K d with
    | none => exact ⟨_, rfl, hE, hK⟩
    | some x =>
      have h2 := ck_rg_ok hE hK 2 d x hx
      dsimp only
      cases hz1 : ck_z x.1 with
      | true =>
        have h3 := ck_z_iff.mp hz1
        cases hz2 : ck_z x.2 with
        | true => have h4 := ck_z_iff.mp hz2; omega
        | false => exact ck_as_ok hE hK (by omega)
      | false =>
        cases hz2 : ck_z x.2 with
        | true => have h4 := ck_z_iff.mp hz2; exact ck_as_ok hE hK (by omega)
        | false => exact ⟨_, rfl, hE, hK⟩
  | 2, h0 => have h1 : ck_ev r d < 0 := h0; exact ck_as_ok hE hK (by omega)
  | 3, h0 => have h1 : 0 ≤ ck_ev r d := h0; exact ck_as_ok hE hK (by omega)
  | 4, h0 => have h1 : 0 < ck_ev r d := h0; exact ck_as_ok hE hK (by omega)
  | _ + 5, h0 => exact ck_as_ok hE hK h0
end
section
def ck_D : List (Nat × Nat × List (Int × Int)) := [(0, 0, [(.ofNat 1, .ofNat 1), (.ofNat 0, .ofNat 1600), (.ofNat 2, .ofNat 2), (.ofNat 18, .ofNat 28), (.ofNat 18, .ofNat 28), (.ofNat 38, .ofNat 38), (.ofNat 45, .ofNat 45), (.ofNat 55, .ofNat 55), (.ofNat 58, .ofNat 58), (.ofNat 61, .ofNat 61), (.ofNat 65, .ofNat 65), (.ofNat 70, .ofNat 70), (.ofNat 75, .ofNat 75), (.negSucc 2147483647, .ofNat 2147483647), (.ofNat 80, .ofNat 80), (.ofNat 86, .ofNat 86), (.ofNat 0, .ofNat 6), (.ofNat 87, .ofNat 87)]), (1, 1600, [(.negSucc 127, .ofNat 127)]), (0, 0, [(.ofNat 3, .ofNat 3), (.ofNat 6, .ofNat 28), (.ofNat 16, .ofNat 16), (.ofNat 17, .ofNat 17)]), (0, 0, [(.ofNat 4, .ofNat 4), (.ofNat 1, .ofNat 5), (.ofNat 0, .ofNat 1600), (.ofNat 0, .ofNat 1600), (.ofNat 0, .ofNat 1600), (.ofNat 0, .ofNat 11), (.negSucc 9223372036854775807, .ofNat 9223372036854775807), (.negSucc 2147483647, .ofNat 2147483647), (.ofNat 0, .ofNat 7), (.negSucc 0, .ofNat 1600)]), (1, 6, [(.negSucc 9223372036854775807, .ofNat 9223372036854775807)]), (1, 0, [(.negSucc 127, .ofNat 127)]), (0, 0, [(.ofNat 0, .ofNat 8), (.ofNat 7, .ofNat 7), (.ofNat 8, .ofNat 8), (.ofNat 0, .ofNat 12), (.ofNat 9, .ofNat 9), (.ofNat 10, .ofNat 10), (.ofNat 0, .ofNat 8), (.ofNat 11, .ofNat 11), (.ofNat 12, .ofNat 12), (.ofNat 0, .ofNat 24), (.ofNat 13, .ofNat 13), (.ofNat 14, .ofNat 14), (.ofNat 1, .ofNat 6), (.ofNat 0, .ofNat 1), (.ofNat 0, .ofNat 6), (.ofNat 15, .ofNat 15)]), (1, 8, [(.negSucc 9223372036854775807, .ofNat 9223372036854775807)]), (1, 24, [(.negSucc 49, .ofNat 49)]), (1, 64, [(.ofNat 0, .ofNat 1)]), (1, 192, [(.negSucc 49, .ofNat 49)]), (1, 8, [(.negSucc 9223372036854775807, .ofNat 9223372036854775807)]), (1, 9, [(.ofNat 0, .ofNat 24)]), (1, 24, [(.ofNat 0, .ofNat 4)]), (1, 96, [(.ofNat 0, .ofNat 15)]), (1, 6, [(.ofNat 0, .ofNat 2)]), (1, 96, [(.negSucc 9223372036854775807, .ofNat 9223372036854775807)]), (1, 96, [(.ofNat 0, .ofNat 1600)]), (0, 0, [(.ofNat 0, .ofNat 8), (.ofNat 19, .ofNat 19), (.ofNat 20, .ofNat 20), (.ofNat 0, .ofNat 12), (.ofNat 21, .ofNat 21), (.ofNat 22, .ofNat 22), (.ofNat 0, .ofNat 8), (.ofNat 23, .ofNat 23), (.ofNat 24, .ofNat 24), (.ofNat 0, .ofNat 24), (.ofNat 25, .ofNat 25), (.ofNat 26, .ofNat 26), (.ofNat 1, .ofNat 6), (.ofNat 0, .ofNat 1), (.ofNat 0, .ofNat 6), (.ofNat 27, .ofNat 27)]), (1, 8, [(.negSucc 9223372036854775807, .ofNat 9223372036854775807)]), (1, 24, [(.negSucc 49, .ofNat 49)]), (1, 64, [(.ofNat 0, .ofNat 1)]), (1, 192, [(.negSucc 49, .ofNat 49)]), (1, 8, [(.negSucc 9223372036854775807, .ofNat 9223372036854775807)]), (1, 9, [(.ofNat 0, .ofNat 24)]), (1, 24, [(.ofNat 0, .ofNat 4)]), (1, 96, [(.ofNat 0, .ofNat 15)]), (1, 6, [(.ofNat 0, .ofNat 2)]), (0, 0, [(.ofNat 0, .ofNat 8), (.ofNat 29, .ofNat 29), (.ofNat 30, .ofNat 30), (.ofNat 0, .ofNat 12), (.ofNat 31, .ofNat 31), (.ofNat 32, .ofNat 32), (.ofNat 0, .ofNat 8), (.ofNat 33, .ofNat 33), (.ofNat 34, .ofNat 34), (.ofNat 0, .ofNat 24), (.ofNat 35, .ofNat 35), (.ofNat 36, .ofNat 36), (.ofNat 1, .ofNat 6), (.ofNat 0, .ofNat 1), (.ofNat 0, .ofNat 6), (.ofNat 37, .ofNat 37)]), (1, 8, [(.negSucc 9223372036854775807, .ofNat 9223372036854775807)]), (1, 24, [(.negSucc 49, .ofNat 49)]), (1, 64, [(.ofNat 0, .ofNat 1)]), (1, 192, [(.negSucc 49, .ofNat 49)]), (1, 8, [(.negSucc 9223372036854775807, .ofNat 9223372036854775807)]), (1, 9, [(.ofNat 0, .ofNat 24)]), (1, 24, [(.ofNat 0, .ofNat 4)]), (1, 96, [(.ofNat 0, .ofNat 15)]), (1, 6, [(.ofNat 0, .ofNat 2)]), (0, 0, [(.ofNat 39, .ofNat 39), (.ofNat 0, .ofNat 6), (.ofNat 40, .ofNat 40), (.ofNat 41, .ofNat 41), (.ofNat 42, .ofNat 42), (.ofNat 43, .ofNat 43), (.ofNat 44, .ofNat 44), (.ofNat 0, .ofNat 40), (.ofNat 0, .ofNat 40)]), (1, 6, [(.ofNat 0, .ofNat 7)]), (1, 6, [(.negSucc 0, .ofNat 2)]), (1, 40, [(.ofNat 0, .ofNat 1)]), (1, 40, [(.ofNat 0, .ofNat 5)]), (1, 40, [(.negSucc 0, .ofNat 2)]), (1, 40, [(.ofNat 0, .ofNat 7)]), (0, 0, [(.ofNat 46, .ofNat 46), (.ofNat 49, .ofNat 49), (.ofNat 52, .ofNat 52)]), (0, 0, [(.ofNat 0, .ofNat 1), (.ofNat 47, .ofNat 47), (.ofNat 0, .ofNat 6), (.ofNat 48, .ofNat 48)]), (1, 6, [(.ofNat 0, .ofNat 7)]), (1, 6, [(.negSucc 0, .ofNat 2)]), (0, 0, [(.ofNat 0, .ofNat 1), (.ofNat 50, .ofNat 50), (.ofNat 0, .ofNat 6), (.ofNat 51, .ofNat 51)]), (1, 6, [(.ofNat 0, .ofNat 7)]), (1, 6, [(.negSucc 0, .ofNat 2)]), (0, 0, [(.ofNat 0, .ofNat 1), (.ofNat 53, .ofNat 53), (.ofNat 0, .ofNat 6), (.ofNat 54, .ofNat 54)]), (1, 6, [(.ofNat 0, .ofNat 7)]), (1, 6, [(.negSucc 0, .ofNat 2)]), (0, 0, [(.ofNat 56, .ofNat 56), (.ofNat 57, .ofNat 57)]), (1, 112, [(.negSucc 9223372036854775807, .ofNat 9223372036854775807)]), (1, 112, [(.negSucc 9223372036854775807, .ofNat 9223372036854775807)]), (0, 0, [(.ofNat 59, .ofNat 59), (.ofNat 0, .ofNat 6), (.ofNat 60, .ofNat 60)]), (1, 6, [(.negSucc 2147483647, .ofNat 2147483647)]), (1, 784, [(.negSucc 2147483647, .ofNat 2147483647)]), (0, 0, [(.ofNat 62, .ofNat 62), (.ofNat 63, .ofNat 63), (.ofNat 64, .ofNat 64), (.ofNat 0, .ofNat 1), (.negSucc 0, .ofNat 2), (.negSucc 2147483647, .ofNat 2147483647), (.negSucc 2147483647, .ofNat 2147483647), (.negSucc 2147483647, .ofNat 2147483647), (.negSucc 2147483647, .ofNat 2147483647)]), (1, 6, [(.ofNat 0, .ofNat 2)]), (1, 3000, [(.negSucc 2147483647, .ofNat 2147483647)]), (1, 6, [(.ofNat 0, .ofNat 2999)]), (0, 0, [(.ofNat 0, .ofNat 3000), (.ofNat 0, .ofNat 1), (.ofNat 66, .ofNat 66), (.ofNat 67, .ofNat 67), (.ofNat 68, .ofNat 68), (.ofNat 69, .ofNat 69), (.ofNat 0, .ofNat 6), (.ofNat 0, .ofNat 1), (.negSucc 2147483647, .ofNat 2147483647), (.ofNat 0, .ofNat 6), (.negSucc 2147483647, .ofNat 2147483647)]), (1, 3000, [(.negSucc 0, .ofNat 2999)]), (1, 3000, [(.ofNat 0, .ofNat 6)]), (1, 9000, [(.negSucc 2147483647, .ofNat 2147483647)]), (1, 3000, [(.negSucc 2147483647, .ofNat 2147483647)]), (0, 0, [(.ofNat 0, .ofNat 3000), (.ofNat 0, .ofNat 1), (.ofNat 71, .ofNat 71), (.ofNat 72, .ofNat 72), (.ofNat 73, .ofNat 73), (.ofNat 74, .ofNat 74), (.ofNat 0, .ofNat 6), (.ofNat 0, .ofNat 1), (.negSucc 2147483647, .ofNat 2147483647), (.ofNat 0, .ofNat 6), (.negSucc 2147483647, .ofNat 2147483647)]), (1, 3000, [(.negSucc 0, .ofNat 2999)]), (1, 3000, [(.ofNat 0, .ofNat 6)]), (1, 9000, [(.negSucc 2147483647, .ofNat 2147483647)]), (1, 3000, [(.negSucc 2147483647, .ofNat 2147483647)]), (0, 0, [(.ofNat 0, .ofNat 3000), (.ofNat 0, .ofNat 1), (.ofNat 76, .ofNat 76), (.ofNat 77, .ofNat 77), (.ofNat 78, .ofNat 78), (.ofNat 79, .ofNat 79), (.ofNat 0, .ofNat 6), (.ofNat 0, .ofNat 1), (.negSucc 2147483647, .ofNat 2147483647), (.ofNat 0, .ofNat 6), (.negSucc 2147483647, .ofNat 2147483647)]), (1, 3000, [(.negSucc 0, .ofNat 2999)]), (1, 3000, [(.ofNat 0, .ofNat 6)]), (1, 9000, [(.negSucc 2147483647, .ofNat 2147483647)]), (1, 3000, [(.negSucc 2147483647, .ofNat 2147483647)]), (0, 0, [(.ofNat 0, .ofNat 30), (.ofNat 0, .ofNat 100000), (.ofNat 81, .ofNat 81), (.ofNat 82, .ofNat 82), (.ofNat 83, .ofNat 83), (.ofNat 84, .ofNat 84), (.ofNat 85, .ofNat 85)]), (1, 30, [(.negSucc 2147483647, .ofNat 2147483647)]), (1, 30, [(.negSucc 2147483647, .ofNat 2147483647)]), (1, 30, [(.ofNat 0, .ofNat 1)]), (1, 30, [(.negSucc 2147483647, .ofNat 2147483647)]), (1, 30, [(.negSucc 2147483647, .ofNat 2147483647)]), (1, 6, [(.negSucc 2147483647, .ofNat 2147483647)]), (1, 16, [(.negSucc 2147483647, .ofNat 2147483647)]), (0, 0, [(.ofNat 89, .ofNat 89), (.ofNat 90, .ofNat 90), (.ofNat 0, .ofNat 1600), (.ofNat 0, .ofNat 1600), (.ofNat 0, .ofNat 7), (.negSucc 0, .ofNat 1600), (.ofNat 0, .ofNat 1600), (.ofNat 0, .ofNat 1601), (.ofNat 0, .ofNat 5), (.negSucc 2147483647, .ofNat 2147483647), (.negSucc 9223372036854775807, .ofNat 9223372036854775807), (.ofNat 91, .ofNat 91), (.ofNat 92, .ofNat 92), (.ofNat 93, .ofNat 93), (.ofNat 94, .ofNat 94), (.ofNat 95, .ofNat 95), (.ofNat 96, .ofNat 96), (.ofNat 97, .ofNat 97), (.ofNat 98, .ofNat 98), (.ofNat 99, .ofNat 99), (.ofNat 100, .ofNat 100), (.ofNat 101, .ofNat 101), (.ofNat 102, .ofNat 102), (.ofNat 103, .ofNat 103), (.ofNat 104, .ofNat 104), (.ofNat 105, .ofNat 105), (.ofNat 106, .ofNat 106), (.ofNat 107, .ofNat 107), (.ofNat 108, .ofNat 108), (.ofNat 0, .ofNat 1), (.ofNat 0, .ofNat 1), (.ofNat 109, .ofNat 109), (.ofNat 110, .ofNat 110), (.ofNat 111, .ofNat 111), (.ofNat 112, .ofNat 112), (.ofNat 113, .ofNat 113), (.ofNat 114, .ofNat 114), (.ofNat 115, .ofNat 115), (.ofNat 116, .ofNat 116), (.ofNat 0, .ofNat 6), (.ofNat 117, .ofNat 117), (.ofNat 118, .ofNat 118), (.ofNat 0, .ofNat 40), (.ofNat 0, .ofNat 40), (.ofNat 119, .ofNat 119), (.ofNat 120, .ofNat 120), (.ofNat 121, .ofNat 121), (.ofNat 122, .ofNat 122), (.ofNat 0, .ofNat 3001), (.ofNat 0, .ofNat 6), (.ofNat 0, .ofNat 3001), (.negSucc 9223372036854775807, .ofNat 9223372036854775807), (.ofNat 123, .ofNat 123), (.ofNat 124, .ofNat 124), (.negSucc 0, .ofNat 2), (.negSucc 2147483647, .ofNat 2147483647), (.negSucc 2147483647, .ofNat 2147483647), (.ofNat 0, .ofNat 100), (.ofNat 125, .ofNat 125), (.ofNat 0, .ofNat 6), (.ofNat 126, .ofNat 126), (.ofNat 127, .ofNat 127), (.ofNat 128, .ofNat 128), (.ofNat 129, .ofNat 129), (.ofNat 130, .ofNat 130), (.ofNat 131, .ofNat 131), (.ofNat 0, .ofNat 30), (.ofNat 0, .ofNat 100000), (.ofNat 132, .ofNat 132), (.ofNat 133, .ofNat 133), (.ofNat 134, .ofNat 134)]), (1, 1620, [(.negSucc 127, .ofNat 127)]), (1, 1600, [(.negSucc 127, .ofNat 127)]), (1, 2, [(.ofNat 0, .ofNat 8)]), (1, 2, [(.ofNat 0, .ofNat 12)]), (1, 2, [(.ofNat 0, .ofNat 8)]), (1, 2, [(.ofNat 0, .ofNat 24)]), (1, 2, [(.ofNat 0, .ofNat 6)]), (1, 2, [(.ofNat 0, .ofNat 6)]), (1, 12, [(.ofNat 0, .ofNat 2)]), (1, 48, [(.negSucc 49, .ofNat 49)]), (1, 384, [(.negSucc 49, .ofNat 49)]), (1, 48, [(.ofNat 0, .ofNat 7)]), (1, 48, [(.ofNat 0, .ofNat 4)]), (1, 192, [(.ofNat 0, .ofNat 15)]), (1, 192, [(.ofNat 0, .ofNat 1600)]), (1, 128, [(.ofNat 0, .ofNat 1)]), (1, 2, [(.ofNat 0, .ofNat 1)]), (1, 16, [(.negSucc 9223372036854775807, .ofNat 9223372036854775807)]), (1, 16, [(.negSucc 9223372036854775807, .ofNat 9223372036854775807)]), (1, 192, [(.negSucc 9223372036854775807, .ofNat 9223372036854775807)]), (1, 6, [(.negSucc 0, .ofNat 7)]), (1, 56, [(.negSucc 2147483647, .ofNat 2147483647)]), (1, 448, [(.negSucc 9223372036854775807, .ofNat 9223372036854775807)]), (1, 7, [(.negSucc 9223372036854775807, .ofNat 9223372036854775807)]), (1, 7, [(.negSucc 9223372036854775807, .ofNat 9223372036854775807)]), (1, 6, [(.ofNat 0, .ofNat 7)]), (1, 6, [(.ofNat 0, .ofNat 2)]), (1, 6, [(.negSucc 0, .ofNat 7)]), (1, 40, [(.negSucc 0, .ofNat 5)]), (1, 40, [(.ofNat 0, .ofNat 7)]), (1, 3001, [(.negSucc 2147483647, .ofNat 2147483647)]), (1, 9003, [(.negSucc 599, .ofNat 600)]), (1, 3001, [(.ofNat 0, .ofNat 3000)]), (1, 3001, [(.ofNat 0, .ofNat 3000)]), (1, 7, [(.negSucc 0, .ofNat 8)]), (1, 6, [(.ofNat 0, .ofNat 2)]), (1, 6, [(.negSucc 2147483647, .ofNat 2147483647)]), (1, 8, [(.ofNat 0, .ofNat 1000000)]), (1, 30, [(.negSucc 2147483647, .ofNat 2147483647)]), (1, 30, [(.negSucc 2147483647, .ofNat 2147483647)]), (1, 30, [(.negSucc 2147483647, .ofNat 2147483647)]), (1, 30, [(.negSucc 2147483647, .ofNat 2147483647)]), (1, 30, [(.ofNat 0, .ofNat 1)]), (1, 3, [(.negSucc 0, .ofNat 6)]), (1, 18, [(.ofNat 0, .ofNat 7)]), (1, 18, [(.ofNat 0, .ofNat 2)])]
def ck_Kd : List (Nat × Nat × Nat × Nat × Nat × Int × Int × Int) := [(4, 18, 6, 25, 0, .ofNat 0, .ofNat 1, .ofNat 4), (4, 28, 6, 35, 0, .ofNat 0, .ofNat 1, .ofNat 4), (4, 18, 9, 25, 0, .ofNat 0, .ofNat 1, .ofNat 4), (4, 28, 9, 35, 0, .ofNat 0, .ofNat 1, .ofNat 4), (3, 41, 0, 44, 0, .ofNat 0, .ofNat 0, .ofNat 2), (2, 66, 0, 67, 0, .ofNat 0, .ofNat 0, .ofNat 5), (2, 71, 0, 72, 0, .ofNat 0, .ofNat 0, .ofNat 5), (2, 76, 0, 77, 0, .ofNat 0, .ofNat 0, .ofNat 5), (1, 63, 0, 0, 0, .ofNat 0, .negSucc 0, .ofNat 2999), (1, 109, 0, 0, 0, .ofNat 0, .ofNat 0, .ofNat 7), (1, 123, 0, 0, 0, .ofNat 0, .ofNat 0, .ofNat 7), (1, 87, 0, 0, 0, .ofNat 0, .ofNat 0, .ofNat 7), (5, 88, 42, 117, 43, .ofNat 0, .ofNat 0, .ofNat 0), (3, 117, 0, 118, 0, .negSucc 0, .ofNat 0, .ofNat 2), (6, 126, 0, 0, 0, .ofNat 0, .ofNat 0, .ofNat 0)]
end
section
/-! The checker: facts about the heap, windows of writes. -/
abbrev ck_O : Type := List (Nat × ck_F × ck_F)
abbrev ck_S : Type := Nat × ck_E × ck_K × ck_O × ck_O
abbrev ck_Ds : Type := Nat × Nat × Nat × Nat × Nat × Int × Int × Int
def ck_dv (c j : Nat) : Option (Int × Int) := match ck_D[c]? with
  | none => none
  | some x => match x.1 with
    | 0 => x.2.2[j]?
    | _ => if j < x.2.1 then x.2.2[0]? else none
def ck_dec (h : pm_Hp) : Prop := ∀ (c j : Nat) (v : Int × Int), ck_dv c j = some v → v.1 ≤ h c j ∧ h c j ≤ v.2
def ck_cn (h : pm_Hp) (c i : Nat) : Nat → Int
  | 0 => 0
  | m + 1 => ck_cn h c i m + (if h c (i + m) = -1 then 1 else 0)
def ck_f5 (h : pm_Hp) (A sa B sb : Nat) (x y : Int) : Prop := 0 ≤ h A sa ∧ 0 ≤ h A sb ∧ h A sa + h A sb ≤ 40 ∧ ck_cn h B 0 (h A sa).toNat ≤ x ∧ ck_cn h B (h A sa).toNat (h A sb).toNat ≤ -y
def ck_vl (x : Int) : Int := if x ≤ 0 then 1000001 else x
def ck_f6 (h : pm_Hp) (A : Nat) : Int := ck_vl (h A 0) + ck_vl (h A 1) + ck_vl (h A 2) + ck_vl (h A 3) + ck_vl (h A 4) + ck_vl (h A 5) + ck_vl (h A 6) + ck_vl (h A 7)
def ck_ft0 (h : pm_Hp) (d : ck_Ds) (a b : Int) : Prop := match d with
  | (t, A, sa, B, sb, th, lo, hi) => match t with
    | 1 => ∀ j : Nat, a ≤ (j : Int) → (j : Int) < b → lo ≤ h A j ∧ h A j ≤ hi
    | 2 => ∀ j : Nat, a ≤ (j : Int) → (j : Int) < b → 1 ≤ j → 0 ≤ h A j ∧ h A j < (j : Int) ∧ h B (h A j).toNat ≤ hi
    | 3 => ∀ j : Nat, a ≤ (j : Int) → (j : Int) < b → h A j ≤ th ∨ lo ≤ h B j ∧ h B j ≤ hi
    | 4 => h A sa ≤ th ∨ lo ≤ h B sb ∧ h B sb ≤ hi
    | 5 => ck_f5 h A sa B sb a b
    | 6 => ck_f6 h A ≤ a
    | _ => True
def ck_kd (k : Nat) : ck_Ds := match ck_Kd[k]? with
  | some d => d
  | none => (0, 0, 0, 0, 0, 0, 0, 0)
def ck_ft (h : pm_Hp) (k : Nat) (a b : Int) : Prop := ck_ft0 h (ck_kd k) a b
theorem ck_ft0_mono {h : pm_Hp} {d : ck_Ds} {a b a' b' : Int} (h1 : a ≤ a') (h2 : b' ≤ b) (H : ck_ft0 h d a b) : ck_ft0 h d a' b' := by
  obtain ⟨t, A, sa, B, sb, th, lo, hi⟩ := d
  match t, H with
  | 0, _ => exact trivial
  | 1, H => exact fun j g1 g2 => H j (by omega) (by omega)
  | 2, H => exact fun j g1 g2 => H j (by omega) (by omega)
  | 3, H => exact fun j g1 g2 => H j (by omega) (by omega)
  | 4, H => exact H
  | 5, H =>
    obtain ⟨g1, g2, g3, g4, g5⟩ := H
    exact ⟨g1, g2, g3, by omega, by omega⟩
  | 6, H =>
    have H' : ck_f6 h A ≤ a := H
    show ck_f6 h A ≤ a'
    omega
  | _ + 7, _ => exact trivial
/-- what of the heap a fact speaks of -/
def ck_sm (h h' : pm_Hp) (d : ck_Ds) (a b : Int) : Prop := match d with
  | (t, A, sa, B, sb, _, _, _) => match t with
    | 1 => ∀ j : Nat, a ≤ (j : Int) → (j : Int) < b → h' A j = h A j
    | 2 => ∀ j : Nat, (j : Int) < b → h' A j = h A j ∧ h' B j = h B j
    | 3 => ∀ j : Nat, a ≤ (j : Int) → (j : Int) < b → h' A j = h A j ∧ h' B j = h B j
    | 4 => h' A sa = h A sa ∧ h' B sb = h B sb
    | 5 => h' A sa = h A sa ∧ h' A sb = h A sb ∧ ∀ j : Nat, h' B j = h B j
    | 6 => ∀ j : Nat, h' A j = h A j
    | _ => True
theorem ck_cn_same {h h' : pm_Hp} {B : Nat} (H : ∀ j : Nat, h' B j = h B j) (i : Nat) : ∀ m : Nat, ck_cn h' B i m = ck_cn h B i m
  | 0 => rfl
  | m + 1 => by
    show ck_cn h' B i m + _ = ck_cn h B i m + _
    rw [ck_cn_same H i m, H]
theorem ck_ft0_sem {h h' : pm_Hp} {d : ck_Ds} {a b : Int} (hs : ck_sm h h' d a b) (H : ck_ft0 h d a b) : ck_ft0 h' d a b := by
  obtain ⟨t, A, sa, B, sb, th, lo, hi⟩ := d
  match t, H, hs with
  | 0, _, _ => exact trivial
  | 1, H, hs => exact fun j g1 g2 => by rw [hs j g1 g2]; exact H j g1 g2
  | 2, H, hs =>
    intro j g1 g2 g3
    have h1 := H j g1 g2 g3
    have e1 := (hs j g2).1
    rw [e1]
    have e2 := (hs (h A j).toNat (by omega)).2
    rw [e2]
    exact h1
  | 3, H, hs => exact fun j g1 g2 => by rw [(hs j g1 g2).1, (hs j g1 g2).2]; exact H j g1 g2
  | 4, H, hs =>
    show h' A sa ≤ th ∨ lo ≤ h' B sb ∧ h' B sb ≤ hi
    rw [hs.1, hs.2]
    exact H
  | 5, H, hs =>
    show ck_f5 h' A sa B sb a b
    unfold ck_f5
    rw [hs.1, hs.2.1, ck_cn_same hs.2.2, ck_cn_same hs.2.2]
    exact H
  | 6, H, hs =>
    show ck_f6 h' A ≤ a
    unfold ck_f6
    rw [hs 0, hs 1, hs 2, hs 3, hs 4, hs 5, hs 6, hs 7]
    exact H
  | _ + 7, _, _ => exact trivial
/-- windows -/
def ck_ow (h h' : pm_Hp) (r : ck_R) (W : ck_O) : Prop := ∀ c j : Nat, h' c j = h c j ∨ ∃ w ∈ W, w.1 = c ∧ ck_ev r w.2.1 ≤ (j : Int) ∧ (j : Int) < ck_ev r w.2.2
/-- nothing of the cell from a to b is in the window -/
noncomputable def ck_kr (N : ck_F → Bool) (w : Nat × ck_F × ck_F) (c : Nat) (a b : ck_F) : Bool := bif Nat.beq w.1 c then (bif N (ck_fs b w.2.1) then true else N (ck_fs w.2.2 a)) else true
noncomputable def ck_ku (N : ck_F → Bool) (w : Nat × ck_F × ck_F) (c : Nat) (b : ck_F) : Bool := bif Nat.beq w.1 c then N (ck_fs b w.2.1) else true
noncomputable def ck_k1 (N : ck_F → Bool) (w a : Nat × ck_F × ck_F) : Bool := match ck_kd a.1 with
  | (t, A, sa, B, sb, _, _, _) => match t with
    | 1 => ck_kr N w A a.2.1 a.2.2
    | 2 => bif ck_ku N w A a.2.2 then ck_ku N w B a.2.2 else false
    | 3 => bif ck_kr N w A a.2.1 a.2.2 then ck_kr N w B a.2.1 a.2.2 else false
    | 4 => bif ck_kr N w A ((sa : Int), []) ((sa : Int) + 1, []) then ck_kr N w B ((sb : Int), []) ((sb : Int) + 1, []) else false
    | 5 => bif ck_kr N w A ((sa : Int), []) ((sa : Int) + 1, []) then (bif ck_kr N w A ((sb : Int), []) ((sb : Int) + 1, []) then (bif Nat.beq w.1 B then false else true) else false) else false
    | 6 => bif Nat.beq w.1 A then false else true
    | _ => true
noncomputable def ck_kf (N : ck_F → Bool) (W : ck_O) (a : Nat × ck_F × ck_F) : Bool := List.rec (motive := fun _ => Bool) true (fun w _ ih => bif ck_k1 N w a then ih else false) W
noncomputable def ck_ko (N : ck_F → Bool) (W : ck_O) (c : Nat) (f : ck_F) : Bool := List.rec (motive := fun _ => Bool) true (fun w _ ih => bif ck_kr N w c f (ck_fa (1, []) f) then ih else false) W
theorem ck_and {a b : Bool} (h : (bif a then b else false) = true) : a = true ∧ b = true := by
  cases a with
  | true => exact ⟨rfl, h⟩
  | false => cases h
theorem ck_or {a b : Bool} (h : (bif a then true else b) = true) : a = true ∨ b = true := by
  cases a with
  | true => exact Or.inl rfl
  | false => exact Or.inr h
theorem ck_kf_all {N : ck_F → Bool} {a : Nat × ck_F × ck_F} : ∀ {W : ck_O}, ck_kf N W a = true → ∀ w ∈ W, ck_k1 N w a = true
  | [], _ => fun _ h => absurd h List.not_mem_nil
  | w :: t, h => by
    have h0 : (bif ck_k1 N w a then ck_kf N t a else false) = true := h
    obtain ⟨h1, h2⟩ := ck_and h0
    intro q hq
    rcases List.mem_cons.mp hq with rfl | hq
    · exact h1
    · exact ck_kf_all h2 q hq
theorem ck_ko_all {N : ck_F → Bool} {c : Nat} {f : ck_F} : ∀ {W : ck_O}, ck_ko N W c f = true → ∀ w ∈ W, ck_kr N w c f (ck_fa (1, []) f) = true
  | [], _ => fun _ h => absurd h List.not_mem_nil
  | w :: t, h => by
    have h0 : (bif ck_kr N w c f (ck_fa (1, []) f) then ck_ko N t c f else false) = true := h
    obtain ⟨h1, h2⟩ := ck_and h0
    intro q hq
    rcases List.mem_cons.mp hq with rfl | hq
    · exact h1
    · exact ck_ko_all h2 q hq
section
variable {N : ck_F → Bool} {r : ck_R} {W : ck_O} {h h' : pm_Hp}
theorem ck_kr_ok (hN : ∀ f, N f = true → ck_ev r f ≤ 0) {w : Nat × ck_F × ck_F} {c : Nat} {a b : ck_F} {j : Nat} (hk : ck_kr N w c a b = true) (hc : w.1 = c) (h1 : ck_ev r a ≤ (j : Int)) (h2 : (j : Int) < ck_ev r b) (h3 : ck_ev r w.2.1 ≤ (j : Int)) (h4 : (j : Int) < ck_ev r w.2.2) : False := by
  have e1 : Nat.beq w.1 c = true := by rw [hc]; exact Nat.beq_refl c
  unfold ck_kr at hk
  rw [e1] at hk
  rcases ck_or hk with g | g
  · have g1 := hN _ g
    rw [ck_ev_fs] at g1
    omega
  · have g1 := hN _ g
    rw [ck_ev_fs] at g1
    omega
theorem ck_ku_ok (hN : ∀ f, N f = true → ck_ev r f ≤ 0) {w : Nat × ck_F × ck_F} {c : Nat} {b : ck_F} {j : Nat} (hk : ck_ku N w c b = true) (hc : w.1 = c) (h2 : (j : Int) < ck_ev r b) (h3 : ck_ev r w.2.1 ≤ (j : Int)) : False := by
  have e1 : Nat.beq w.1 c = true := by rw [hc]; exact Nat.beq_refl c
  unfold ck_ku at hk
  rw [e1] at hk
  have g1 := hN _ hk
  rw [ck_ev_fs] at g1
  omega
theorem ck_ne_ok {w : Nat × ck_F × ck_F} {c : Nat} (hk : (bif Nat.beq w.1 c then false else true) = true) (hc : w.1 = c) : False := by
  have e1 : Nat.beq w.1 c = true := by rw [hc]; exact Nat.beq_refl c
  rw [e1] at hk
  cases hk
theorem ck_win_sm (hN : ∀ f, N f = true → ck_ev r f ≤ 0) (hW : ck_ow h h' r W) {a : Nat × ck_F × ck_F} (hk : ck_kf N W a = true) : ck_sm h h' (ck_kd a.1) (ck_ev r a.2.1) (ck_ev r a.2.2) := by
  have hall := ck_kf_all hk
  have key : ∀ (c j : Nat), (∀ w ∈ W, w.1 = c → ck_ev r w.2.1 ≤ (j : Int) → (j : Int) < ck_ev r w.2.2 → False) → h' c j = h c j := by
    intro c j H
    rcases hW c j with e | ⟨w, hw, h1, h2, h3⟩
    · exact e
    · exact (H w hw h1 h2 h3).elim
  have slot : ∀ s : Nat, ck_ev r ((s : Int), []) ≤ (s : Int) ∧ (s : Int) < ck_ev r ((s : Int) + 1, []) := by
    intro s
    rw [ck_ev_k, ck_ev_k]
    omega
  unfold ck_k1 at hall
  generalize ck_kd a.1 = d at hall
  obtain ⟨t, A, sa, B, sb, th, lo, hi⟩ := d
  match t, hall with
  | 0, _ => exact trivial
  | 1, hall => exact fun j g1 g2 => key A j (fun w hw e1 e2 e3 => ck_kr_ok hN (hall w hw) e1 g1 g2 e2 e3)
  | 2, hall => exact fun j g2 => ⟨key A j (fun w hw e1 e2 e3 => ck_ku_ok hN (ck_and (hall w hw)).1 e1 g2 e2), key B j (fun w hw e1 e2 e3 => ck_ku_ok hN (ck_and (hall w hw)).2 e1 g2 e2)⟩
  | 3, hall => exact fun j g1 g2 => ⟨key A j (fun w hw e1 e2 e3 => ck_kr_ok hN (ck_and (hall w hw)).1 e1 g1 g2 e2 e3), key B j (fun w hw e1 e2 e3 => ck_kr_ok hN (ck_and (hall w hw)).2 e1 g1 g2 e2 e3)⟩
  | 4, hall => exact ⟨key A sa (fun w hw e1 e2 e3 => ck_kr_ok hN (ck_and (hall w hw)).1 e1 (slot sa).1 (slot sa).2 e2 e3), key B sb (fun w hw e1 e2 e3 => ck_kr_ok hN (ck_and (hall w hw)).2 e1 (slot sb).1 (slot sb).2 e2 e3)⟩
  | 5, hall => exact ⟨key A sa (fun w hw e1 e2 e3 => ck_kr_ok hN (ck_and (hall w hw)).1 e1 (slot sa).1 (slot sa).2 e2 e3), key A sb (fun w hw e1 e2 e3 => ck_kr_ok hN (ck_and (ck_and (hall w hw)).2).1 e1 (slot sb).1 (slot sb).2 e2 e3), fun j => key B j (fun w hw e1 e2 e3 => ck_ne_ok (ck_and (ck_and (hall w hw)).2).2 e1)⟩
  | 6, hall => exact fun j => key A j (fun w hw e1 e2 e3 => ck_ne_ok (hall w hw) e1)
  | _ + 7, _ => exact trivial
theorem ck_win_ft (hN : ∀ f, N f = true → ck_ev r f ≤ 0) (hW : ck_ow h h' r W) {a : Nat × ck_F × ck_F} (hk : ck_kf N W a = true) (H : ck_ft h a.1 (ck_ev r a.2.1) (ck_ev r a.2.2)) : ck_ft h' a.1 (ck_ev r a.2.1) (ck_ev r a.2.2) := ck_ft0_sem (ck_win_sm hN hW hk) H
theorem ck_win_o (hN : ∀ f, N f = true → ck_ev r f ≤ 0) (hW : ck_ow h h' r W) {c : Nat} {f : ck_F} (hk : ck_ko N W c f = true) (hp : 0 ≤ ck_ev r f) : h' c (ck_ev r f).toNat = h c (ck_ev r f).toNat := by
  rcases hW c (ck_ev r f).toNat with e | ⟨w, hw, h1, h2, h3⟩
  · exact e
  · refine (ck_kr_ok hN (ck_ko_all hk w hw) h1 (j := (ck_ev r f).toNat) (by omega) ?_ h2 h3).elim
    rw [ck_ev_fa, ck_ev_k]
    omega
end
end
section
/-! The checker: states, reading and writing. -/
noncomputable def ck_nth {α : Type} (l : List α) : Nat → Option α := List.rec (motive := fun _ => Nat → Option α) (fun _ => none) (fun a _ ih n => match n with
  | 0 => some a
  | n + 1 => ih n) l
theorem ck_nth_ok {α : Type} : ∀ (l : List α) (n : Nat), ck_nth l n = l[n]?
  | [], n => by simp; rfl
  | a :: t, 0 => by simp; rfl
  | a :: t, n + 1 => by
    rw [List.getElem?_cons_succ]
    exact ck_nth_ok t n
def ck_os (h : pm_Hp) (r : ck_R) (O : ck_O) : Prop := ∀ o ∈ O, 0 ≤ ck_ev r o.2.1 ∧ h o.1 (ck_ev r o.2.1).toNat = ck_ev r o.2.2
def ck_fts (h : pm_Hp) (r : ck_R) (A : ck_O) : Prop := ∀ a ∈ A, ck_ft h a.1 (ck_ev r a.2.1) (ck_ev r a.2.2)
def ck_sat (M : ck_O) (h0 : pm_Hp) (S : ck_S) (h : pm_Hp) (r : ck_R) : Prop := ck_es S.2.1 r ∧ ck_ks S.2.2.1 r ∧ ck_os h r S.2.2.2.1 ∧ ck_fts h r S.2.2.2.2 ∧ ck_ow h0 h r M
def ck_G (n : Nat) (P : ck_R → Prop) : Prop := ∃ r0 : ck_R, ∀ r : ck_R, (∀ i, i < n → r i = r0 i) → P r
theorem ck_G_mono {n : Nat} {P P' : ck_R → Prop} (H : ck_G n P) (h : ∀ r, P r → P' r) : ck_G n P' := by
  obtain ⟨r0, H⟩ := H
  exact ⟨r0, fun r hr => h r (H r hr)⟩
theorem ck_G_new {n : Nat} {P P' : ck_R → Prop} (H : ck_G n P) (v : Int) (h : ∀ r, P r → r n = v → P' r) : ck_G (n + 1) P' := by
  obtain ⟨r0, H⟩ := H
  refine ⟨fun i => if i = n then v else r0 i, fun r hr => h r (H r (fun i hi => ?_)) ?_⟩
  · rw [hr i (by omega)]
    exact if_neg (by omega)
  · rw [hr n (by omega)]
    exact if_pos rfl
theorem ck_G_wf {n : Nat} {P : ck_R → Prop} {f : ck_F} (H : ck_G n P) (hf : ck_wl n f.2 = true) : ∃ z : Int, ck_G n (fun r => P r ∧ ck_ev r f = z) := by
  obtain ⟨r0, H⟩ := H
  refine ⟨ck_ev r0 f, r0, fun r hr => ⟨H r hr, ?_⟩⟩
  show f.1 + ck_lv r f.2 = f.1 + ck_lv r0 f.2
  rw [ck_wl_ok hf hr]
theorem ck_G_ex {n : Nat} {P : ck_R → Prop} (H : ck_G n P) : ∃ r, P r := by
  obtain ⟨r0, H⟩ := H
  exact ⟨r0, H r0 (fun _ _ => rfl)⟩
noncomputable def ck_N (S : ck_S) : ck_F → Bool := ck_np S.2.1 S.2.2.1
theorem ck_N_ok {M : ck_O} {h0 h : pm_Hp} {S : ck_S} {r : ck_R} (H : ck_sat M h0 S h r) : ∀ f, ck_N S f = true → ck_ev r f ≤ 0 := fun _ h1 => ck_np_ok H.1 H.2.1 h1
noncomputable def ck_nm (E : ck_E) (f : ck_F) : ck_F := match f.2 with
  | [] => f
  | _ :: _ => match ck_pl E f with
    | none => f
    | some x => bif ck_z (x.1 - x.2) then (x.1, []) else f
theorem ck_nm_ok {E : ck_E} {r : ck_R} (hE : ck_es E r) (f : ck_F) : ck_ev r (ck_nm E f) = ck_ev r f := by
  obtain ⟨c, l⟩ := f
  unfold ck_nm
  cases l with
  | nil => rfl
  | cons p t =>
    dsimp only
    cases hx : ck_pl E (c, p :: t) with
    | none => rfl
    | some x =>
      have h1 := ck_pl_ok hE hx
      dsimp only
      cases hz : ck_z (x.1 - x.2) with
      | false => rfl
      | true =>
        have h2 := ck_z_iff.mp hz
        show ck_ev r (x.1, []) = _
        rw [ck_ev_k]
        omega
noncomputable def ck_of (E : ck_E) (K : ck_K) (c : Nat) (i : ck_F) (O : ck_O) : Option ck_F := List.rec (motive := fun _ => Option ck_F) none (fun o _ ih => bif Nat.beq o.1 c then (bif ck_eq0 E K (ck_fs o.2.1 i) then some o.2.2 else ih) else ih) O
theorem ck_of_ok {E : ck_E} {K : ck_K} {c : Nat} {i v : ck_F} {h : pm_Hp} {r : ck_R} (hE : ck_es E r) (hK : ck_ks K r) : ∀ {O : ck_O}, ck_os h r O → ck_of E K c i O = some v → h c (ck_ev r i).toNat = ck_ev r v
  | [], _, h1 => by cases h1
  | o :: t, hO, h1 => by
    have ht : ck_os h r t := fun q hq => hO q (List.mem_cons_of_mem _ hq)
    have ho := hO o (List.mem_cons_self ..)
    have h2 : (bif Nat.beq o.1 c then (bif ck_eq0 E K (ck_fs o.2.1 i) then some o.2.2 else ck_of E K c i t) else ck_of E K c i t) = some v := h1
    cases hb : Nat.beq o.1 c with
    | false => rw [hb] at h2; exact ck_of_ok hE hK ht h2
    | true =>
      rw [hb] at h2
      cases hz : ck_eq0 E K (ck_fs o.2.1 i) with
      | false => rw [hz] at h2; exact ck_of_ok hE hK ht h2
      | true =>
        rw [hz] at h2
        have e1 := Nat.eq_of_beq_eq_true hb
        have e2 := ck_eq0_ok hE hK hz
        rw [ck_ev_fs] at e2
        have e3 : ck_ev r i = ck_ev r o.2.1 := by omega
        have e4 : o.2.2 = v := Option.some.inj h2
        rw [e3, ← e1, ← e4]
        exact ho.2
def ck_cI (f : ck_F) : Option Nat := match f.2 with
  | [] => (match f.1 with
    | .ofNat n => some n
    | .negSucc _ => none)
  | _ :: _ => none
theorem ck_cI_ok {f : ck_F} {n : Nat} (h : ck_cI f = some n) (r : ck_R) : ck_ev r f = (n : Int) := by
  obtain ⟨c, l⟩ := f
  unfold ck_cI at h
  cases l with
  | cons p t => cases h
  | nil =>
    cases c with
    | negSucc m => cases h
    | ofNat m =>
      have e1 : m = n := Option.some.inj h
      rw [ck_ev_k, e1]
      rfl
/-- the declared range at an index that stands -/
noncomputable def ck_ix (N : ck_F → Bool) (c : Nat) (i : ck_F) : Option (Int × Int) := match ck_nth ck_D c with
  | none => none
  | some x => match x.1 with
    | 0 => (match ck_cI i with
      | none => none
      | some j => ck_nth x.2.2 j)
    | _ => bif N (ck_fk (-1) i) then (bif N (ck_fa (1 - (x.2.1 : Int), []) i) then ck_nth x.2.2 0 else none) else none
theorem ck_ix_ok {N : ck_F → Bool} {r : ck_R} {c : Nat} {i : ck_F} {v : Int × Int} (hN : ∀ f, N f = true → ck_ev r f ≤ 0) (h : ck_ix N c i = some v) : 0 ≤ ck_ev r i ∧ ck_dv c (ck_ev r i).toNat = some v := by
  unfold ck_ix at h
  unfold ck_dv
  rw [ck_nth_ok] at h
  cases hx : ck_D[c]? with
  | none => rw [hx] at h; cases h
  | some x =>
    rw [hx] at h
    dsimp only at h ⊢
    obtain ⟨t, n, l⟩ := x
    match t, h with
    | 0, h =>
      dsimp only at h ⊢
      cases hj : ck_cI i with
      | none => rw [hj] at h; cases h
      | some j =>
        rw [hj] at h
        dsimp only at h
        rw [ck_nth_ok] at h
        rw [ck_cI_ok hj r]
        exact ⟨by omega, by rw [Int.toNat_natCast]; exact h⟩
    | t + 1, h =>
      dsimp only at h ⊢
      obtain ⟨h1, h2⟩ : N (ck_fk (-1) i) = true ∧ (bif N (ck_fa (1 - (n : Int), []) i) then ck_nth l 0 else none) = some v := by
        cases hb : N (ck_fk (-1) i) with
        | true => rw [hb] at h; exact ⟨rfl, h⟩
        | false => rw [hb] at h; cases h
      have g1 := hN _ h1
      rw [ck_ev_fk] at g1
      cases hb : N (ck_fa (1 - (n : Int), []) i) with
      | false => rw [hb] at h2; cases h2
      | true =>
        rw [hb] at h2
        have g2 := hN _ hb
        rw [ck_ev_fa, ck_ev_k] at g2
        have h3 : ck_nth l 0 = some v := h2
        rw [ck_nth_ok] at h3
        exact ⟨by omega, by rw [if_pos (by omega)]; exact h3⟩
/-- facts of ranges that cover an index -/
noncomputable def ck_rf (N : ck_F → Bool) (c : Nat) (i : ck_F) (v : Int × Int) (A : ck_O) : Int × Int := List.rec (motive := fun _ => Int × Int) v (fun a _ ih => match ck_kd a.1 with
  | (t, B, _, _, _, _, lo, hi) => bif Nat.beq t 1 then (bif Nat.beq B c then (bif N (ck_fs a.2.1 i) then (bif N (ck_fs (ck_fa (1, []) i) a.2.2) then (ck_mx ih.1 lo, ck_mn ih.2 hi) else ih) else ih) else ih) else ih) A
theorem ck_rf_ok {N : ck_F → Bool} {r : ck_R} {c : Nat} {i : ck_F} {v : Int × Int} {h : pm_Hp} (hN : ∀ f, N f = true → ck_ev r f ≤ 0) (hp : 0 ≤ ck_ev r i) (hv : v.1 ≤ h c (ck_ev r i).toNat ∧ h c (ck_ev r i).toNat ≤ v.2) : ∀ {A : ck_O}, ck_fts h r A → (ck_rf N c i v A).1 ≤ h c (ck_ev r i).toNat ∧ h c (ck_ev r i).toNat ≤ (ck_rf N c i v A).2
  | [], _ => hv
  | a :: t, hA => by
    have ht : ck_fts h r t := fun q hq => hA q (List.mem_cons_of_mem _ hq)
    have ha := hA a (List.mem_cons_self ..)
    have ih := ck_rf_ok hN hp hv ht
    have e0 : ck_rf N c i v (a :: t) = (match ck_kd a.1 with
      | (t', B, _, _, _, _, lo, hi) => bif Nat.beq t' 1 then (bif Nat.beq B c then (bif N (ck_fs a.2.1 i) then (bif N (ck_fs (ck_fa (1, []) i) a.2.2) then (ck_mx (ck_rf N c i v t).1 lo, ck_mn (ck_rf N c i v t).2 hi) else ck_rf N c i v t) else ck_rf N c i v t) else ck_rf N c i v t) else ck_rf N c i v t) := rfl
    rw [e0]
    unfold ck_ft at ha
    generalize ck_kd a.1 = d at ha
    obtain ⟨t', B, sa, B', sb, th, lo, hi⟩ := d
    dsimp only
    cases b1 : Nat.beq t' 1 with
    | false => exact ih
    | true =>
      cases b2 : Nat.beq B c with
      | false => exact ih
      | true =>
        cases b3 : N (ck_fs a.2.1 i) with
        | false => exact ih
        | true =>
          cases b4 : N (ck_fs (ck_fa (1, []) i) a.2.2) with
          | false => exact ih
          | true =>
            have e1 := Nat.eq_of_beq_eq_true b1
            have e2 := Nat.eq_of_beq_eq_true b2
            subst e1
            subst e2
            have g1 := hN _ b3
            have g2 := hN _ b4
            rw [ck_ev_fs] at g1 g2
            rw [ck_ev_fa, ck_ev_k] at g2
            have ha1 : ∀ j : Nat, ck_ev r a.2.1 ≤ (j : Int) → (j : Int) < ck_ev r a.2.2 → lo ≤ h B j ∧ h B j ≤ hi := ha
            have g3 := ha1 (ck_ev r i).toNat (by omega) (by omega)
            exact ⟨ck_mx_le ih.1 g3.1, ck_le_mn ih.2 g3.2⟩
noncomputable def ck_rd (S : ck_S) (c : Nat) (idx : ck_F) : Option (ck_S × ck_F) := match ck_ix (ck_N S) c (ck_nm S.2.1 idx) with
  | none => none
  | some v => match ck_of S.2.1 S.2.2.1 c (ck_nm S.2.1 idx) S.2.2.2.1 with
    | some f => some (S, f)
    | none => match ck_rf (ck_N S) c (ck_nm S.2.1 idx) v S.2.2.2.2 with
      | (lo, hi) => bif ck_z (lo - hi) then some (S, (lo, [])) else some ((S.1 + 1, (S.1, lo, hi) :: S.2.1, S.2.2.1, (c, ck_nm S.2.1 idx, (0, [(S.1, 1)])) :: S.2.2.2.1, S.2.2.2.2), (0, [(S.1, 1)]))
theorem ck_rd_ok {M : ck_O} {h0 h : pm_Hp} {S S' : ck_S} {c : Nat} {idx v : ck_F} {z : Int} {P : ck_R → Prop} (hd : ck_dec h) (hr : ck_rd S c idx = some (S', v)) (H : ck_G S.1 (fun r => P r ∧ ck_sat M h0 S h r ∧ ck_ev r idx = z)) : 0 ≤ z ∧ (∃ w, ck_dv c z.toNat = some w) ∧ ck_G S'.1 (fun r => P r ∧ ck_sat M h0 S' h r ∧ ck_ev r v = h c z.toNat) := by
  unfold ck_rd at hr
  cases hi : ck_ix (ck_N S) c (ck_nm S.2.1 idx) with
  | none => rw [hi] at hr; cases hr
  | some iv =>
    rw [hi] at hr
    dsimp only at hr
    obtain ⟨r1, hr1⟩ := ck_G_ex H
    have q1 := ck_ix_ok (ck_N_ok hr1.2.1) hi
    rw [ck_nm_ok hr1.2.1.1, hr1.2.2] at q1
    refine ⟨q1.1, ⟨_, q1.2⟩, ?_⟩
    cases hf : ck_of S.2.1 S.2.2.1 c (ck_nm S.2.1 idx) S.2.2.2.1 with
    | some f =>
      rw [hf] at hr
      cases hr
      refine ck_G_mono H (fun r hr => ⟨hr.1, hr.2.1, ?_⟩)
      have g1 := ck_of_ok hr.2.1.1 hr.2.1.2.1 hr.2.1.2.2.1 hf
      rw [ck_nm_ok hr.2.1.1, hr.2.2] at g1
      exact g1.symm
    | none =>
      rw [hf] at hr
      dsimp only at hr
      generalize hg : ck_rf (ck_N S) c (ck_nm S.2.1 idx) iv S.2.2.2.2 = x at hr
      obtain ⟨lo, hi⟩ := x
      dsimp only at hr
      have key : ∀ r, P r ∧ ck_sat M h0 S h r ∧ ck_ev r idx = z → lo ≤ h c z.toNat ∧ h c z.toNat ≤ hi := by
        intro r hr
        have g1 := ck_rf_ok (N := ck_N S) (c := c) (i := ck_nm S.2.1 idx) (v := iv) (h := h) (ck_N_ok hr.2.1) (by rw [ck_nm_ok hr.2.1.1, hr.2.2]; exact q1.1) (by rw [ck_nm_ok hr.2.1.1, hr.2.2]; exact hd c z.toNat iv q1.2) hr.2.1.2.2.2.1
        rw [hg, ck_nm_ok hr.2.1.1, hr.2.2] at g1
        exact g1
      cases hz : ck_z (lo - hi) with
      | true =>
        rw [hz] at hr
        cases hr
        refine ck_G_mono H (fun r hr => ⟨hr.1, hr.2.1, ?_⟩)
        have g1 := key r hr
        have g2 := ck_z_iff.mp hz
        rw [ck_ev_k]
        omega
      | false =>
        rw [hz] at hr
        cases hr
        refine ck_G_new H (h c z.toNat) (fun r hr hv => ?_)
        have g1 := key r hr
        refine ⟨hr.1, ⟨ck_es_cons (by show lo ≤ r S.1 ∧ r S.1 ≤ hi; rw [hv]; exact g1) hr.2.1.1, hr.2.1.2.1, ?_, hr.2.1.2.2.2⟩, by rw [ck_ev_v]; exact hv⟩
        intro o ho
        rcases List.mem_cons.mp ho with rfl | ho
        · show 0 ≤ ck_ev r (ck_nm S.2.1 idx) ∧ h c (ck_ev r (ck_nm S.2.1 idx)).toNat = ck_ev r (0, [(S.1, 1)])
          rw [ck_nm_ok hr.2.1.1, hr.2.2, ck_ev_v]
          exact ⟨q1.1, hv.symm⟩
        · exact hr.2.1.2.2.1 o ho
end
section
/-! The checker: writing. -/
noncomputable def ck_mw (N : ck_F → Bool) (c : Nat) (a b : ck_F) (M : ck_O) : Bool := List.rec (motive := fun _ => Bool) false (fun w _ ih => bif Nat.beq w.1 c then (bif N (ck_fs w.2.1 a) then (bif N (ck_fs b w.2.2) then true else ih) else ih) else ih) M
theorem ck_mw_ok {N : ck_F → Bool} {r : ck_R} {c : Nat} {a b : ck_F} (hN : ∀ f, N f = true → ck_ev r f ≤ 0) : ∀ {M : ck_O}, ck_mw N c a b M = true → ∃ w ∈ M, w.1 = c ∧ ck_ev r w.2.1 ≤ ck_ev r a ∧ ck_ev r b ≤ ck_ev r w.2.2
  | [], h => by cases h
  | w :: t, h => by
    have h0 : (bif Nat.beq w.1 c then (bif N (ck_fs w.2.1 a) then (bif N (ck_fs b w.2.2) then true else ck_mw N c a b t) else ck_mw N c a b t) else ck_mw N c a b t) = true := h
    have rest : ck_mw N c a b t = true → ∃ w' ∈ w :: t, w'.1 = c ∧ ck_ev r w'.2.1 ≤ ck_ev r a ∧ ck_ev r b ≤ ck_ev r w'.2.2 := fun h1 => by
      obtain ⟨w', h2, h3⟩ := ck_mw_ok hN h1
      exact ⟨w', List.mem_cons_of_mem _ h2, h3⟩
    cases b1 : Nat.beq w.1 c with
    | false => rw [b1] at h0; exact rest h0
    | true =>
      rw [b1] at h0
      cases b2 : N (ck_fs w.2.1 a) with
      | false => rw [b2] at h0; exact rest h0
      | true =>
        rw [b2] at h0
        cases b3 : N (ck_fs b w.2.2) with
        | false => rw [b3] at h0; exact rest h0
        | true =>
          have g1 := hN _ b2
          have g2 := hN _ b3
          rw [ck_ev_fs] at g1 g2
          exact ⟨w, List.mem_cons_self .., Nat.eq_of_beq_eq_true b1, by omega, by omega⟩
noncomputable def ck_ok (N : ck_F → Bool) (W : ck_O) (O : ck_O) : ck_O := List.rec (motive := fun _ => ck_O) [] (fun o _ ih => bif ck_ko N W o.1 o.2.1 then o :: ih else ih) O
theorem ck_ok_ok {N : ck_F → Bool} {r : ck_R} {W : ck_O} {h h' : pm_Hp} (hN : ∀ f, N f = true → ck_ev r f ≤ 0) (hW : ck_ow h h' r W) : ∀ {O : ck_O}, ck_os h r O → ck_os h' r (ck_ok N W O)
  | [], _ => fun _ h1 => absurd h1 List.not_mem_nil
  | o :: t, hO => by
    have ht := ck_ok_ok hN hW (O := t) (fun q hq => hO q (List.mem_cons_of_mem _ hq))
    have ho := hO o (List.mem_cons_self ..)
    show ck_os h' r (bif ck_ko N W o.1 o.2.1 then o :: ck_ok N W t else ck_ok N W t)
    cases hb : ck_ko N W o.1 o.2.1 with
    | false => exact ht
    | true =>
      intro q hq
      rcases List.mem_cons.mp hq with rfl | hq
      · exact ⟨ho.1, by rw [ck_win_o hN hW hb ho.1]; exact ho.2⟩
      · exact ht q hq
/-- facts behind windows of writes -/
noncomputable def ck_fk2 (N : ck_F → Bool) (W : ck_O) (A : ck_O) : ck_O := List.rec (motive := fun _ => ck_O) [] (fun a _ ih => bif ck_kf N W a then a :: ih else ih) A
theorem ck_fk2_ok {N : ck_F → Bool} {r : ck_R} {W : ck_O} {h h' : pm_Hp} (hN : ∀ f, N f = true → ck_ev r f ≤ 0) (hW : ck_ow h h' r W) : ∀ {A : ck_O}, ck_fts h r A → ck_fts h' r (ck_fk2 N W A)
  | [], _ => fun _ h1 => absurd h1 List.not_mem_nil
  | a :: t, hA => by
    have ht := ck_fk2_ok hN hW (A := t) (fun q hq => hA q (List.mem_cons_of_mem _ hq))
    have ha := hA a (List.mem_cons_self ..)
    show ck_fts h' r (bif ck_kf N W a then a :: ck_fk2 N W t else ck_fk2 N W t)
    cases hb : ck_kf N W a with
    | false => exact ht
    | true =>
      intro q hq
      rcases List.mem_cons.mp hq with rfl | hq
      · exact ck_win_ft hN hW hb ha
      · exact ht q hq
noncomputable def ck_t1 (N : ck_F → Bool) (i : ck_F) (a : Nat × ck_F × ck_F) : ck_O := bif N (ck_fs i a.2.2) then [(a.1, a.2.1, i)] else []
noncomputable def ck_t2 (N : ck_F → Bool) (i : ck_F) (a : Nat × ck_F × ck_F) : ck_O := bif N (ck_fs a.2.1 (ck_fa (1, []) i)) then [(a.1, ck_fa (1, []) i, a.2.2)] else []
noncomputable def ck_in2 (N : ck_F → Bool) (lo hi : Int) (v : ck_F) : Bool := bif N (ck_fs (lo, []) v) then N (ck_fs v (hi, [])) else false
theorem ck_in2_ok {N : ck_F → Bool} {r : ck_R} {lo hi : Int} {v : ck_F} (hN : ∀ f, N f = true → ck_ev r f ≤ 0) (h : ck_in2 N lo hi v = true) : lo ≤ ck_ev r v ∧ ck_ev r v ≤ hi := by
  obtain ⟨h1, h2⟩ := ck_and h
  have g1 := hN _ h1
  have g2 := hN _ h2
  rw [ck_ev_fs, ck_ev_k] at g1 g2
  omega
/-- a fact behind one write: of the cell c at i the value v, where old stood -/
noncomputable def ck_fw (N : ck_F → Bool) (c : Nat) (i v : ck_F) (old : Option ck_F) (a : Nat × ck_F × ck_F) : ck_O := bif ck_k1 N (c, i, ck_fa (1, []) i) a then [a] else (match ck_kd a.1 with
  | (t, A, _, B, _, _, lo, hi) => match t with
    | 1 => bif ck_in2 N lo hi v then [a] else ck_t1 N i a ++ ck_t2 N i a
    | 2 => ck_t1 N i a
    | 3 => bif (bif Nat.beq c A then false else ck_in2 N lo hi v) then [a] else ck_t1 N i a ++ ck_t2 N i a
    | 6 => (match old with
      | none => []
      | some o => bif (bif Nat.beq c A then (bif ck_in2 N 1 1000000 v then (bif N (ck_fs i (7, [])) then (bif N o then true else N (ck_fs (ck_fa (1, []) v) o)) else false) else false) else false) then [(a.1, ck_fs a.2.1 (1, []), a.2.2)] else [])
    | _ => [])
theorem ck_up_ow {h : pm_Hp} {r : ck_R} {c : Nat} {i : ck_F} {x : Int} (hp : 0 ≤ ck_ev r i) : ck_ow h (pm_up h c (ck_ev r i).toNat x) r [(c, i, ck_fa (1, []) i)] := by
  intro c' j
  by_cases e : c' = c ∧ j = (ck_ev r i).toNat
  · refine Or.inr ⟨_, List.mem_cons_self .., e.1.symm, ?_, ?_⟩
    · show ck_ev r i ≤ (j : Int)
      omega
    · show (j : Int) < ck_ev r (ck_fa (1, []) i)
      rw [ck_ev_fa, ck_ev_k]
      omega
  · exact Or.inl (if_neg e)
theorem ck_up_at (h : pm_Hp) (c j : Nat) (x : Int) : pm_up h c j x c j = x := if_pos ⟨rfl, rfl⟩
theorem ck_up_ne {h : pm_Hp} {c j c' j' : Nat} {x : Int} (e : ¬ (c' = c ∧ j' = j)) : pm_up h c j x c' j' = h c' j' := if_neg e
theorem ck_f6_up {h : pm_Hp} {A z : Nat} {x : Int} (hz : z ≤ 7) (hx : 1 ≤ x ∧ x ≤ 1000000) (ho : h A z ≤ 0 ∨ x + 1 ≤ h A z) : ck_f6 (pm_up h A z x) A ≤ ck_f6 h A - 1 := by
  have key : ck_vl x ≤ ck_vl (h A z) - 1 := by
    unfold ck_vl
    rcases ho with ho | ho
    · rw [if_neg (by omega), if_pos ho]
      omega
    · rw [if_neg (by omega), if_neg (by omega)]
      omega
  have at_ : ∀ j : Nat, pm_up h A z x A j = if j = z then x else h A j := by
    intro j
    by_cases e : j = z
    · rw [if_pos e, e]
      exact ck_up_at h A z x
    · rw [if_neg e]
      exact ck_up_ne (fun q => e q.2)
  unfold ck_f6
  rw [at_, at_, at_, at_, at_, at_, at_, at_]
  match z, hz, key with
  | 0, _, key => simp only [if_true, show ((1 : Nat) = 0) = False by simp, show ((2 : Nat) = 0) = False by simp, show ((3 : Nat) = 0) = False by simp, show ((4 : Nat) = 0) = False by simp, show ((5 : Nat) = 0) = False by simp, show ((6 : Nat) = 0) = False by simp, show ((7 : Nat) = 0) = False by simp, if_false]; omega
  | 1, _, key => simp; omega
  | 2, _, key => simp; omega
  | 3, _, key => simp; omega
  | 4, _, key => simp; omega
  | 5, _, key => simp; omega
  | 6, _, key => simp; omega
  | 7, _, key => simp; omega
  | _ + 8, hz, _ => omega
theorem ck_t1_ok {N : ck_F → Bool} {r : ck_R} {h h' : pm_Hp} {i : ck_F} {a : Nat × ck_F × ck_F} (hN : ∀ f, N f = true → ck_ev r f ≤ 0) (hs : ck_sm h h' (ck_kd a.1) (ck_ev r a.2.1) (ck_ev r i)) (ha : ck_ft h a.1 (ck_ev r a.2.1) (ck_ev r a.2.2)) : ck_fts h' r (ck_t1 N i a) := by
  unfold ck_t1
  cases hb : N (ck_fs i a.2.2) with
  | false => exact fun _ h1 => absurd h1 List.not_mem_nil
  | true =>
    have g1 := hN _ hb
    rw [ck_ev_fs] at g1
    intro q hq
    rcases List.mem_cons.mp hq with rfl | hq
    · show ck_ft h' a.1 (ck_ev r a.2.1) (ck_ev r i)
      exact ck_ft0_sem hs (ck_ft0_mono (Int.le_refl _) (by omega) ha)
    · exact absurd hq List.not_mem_nil
theorem ck_t2_ok {N : ck_F → Bool} {r : ck_R} {h h' : pm_Hp} {i : ck_F} {a : Nat × ck_F × ck_F} (hN : ∀ f, N f = true → ck_ev r f ≤ 0) (hs : ck_sm h h' (ck_kd a.1) (ck_ev r i + 1) (ck_ev r a.2.2)) (ha : ck_ft h a.1 (ck_ev r a.2.1) (ck_ev r a.2.2)) : ck_fts h' r (ck_t2 N i a) := by
  unfold ck_t2
  cases hb : N (ck_fs a.2.1 (ck_fa (1, []) i)) with
  | false => exact fun _ h1 => absurd h1 List.not_mem_nil
  | true =>
    have g1 := hN _ hb
    have e1 : ck_ev r (ck_fa (1, []) i) = ck_ev r i + 1 := by rw [ck_ev_fa, ck_ev_k]; omega
    rw [ck_ev_fs, e1] at g1
    intro q hq
    rcases List.mem_cons.mp hq with rfl | hq
    · show ck_ft h' a.1 (ck_ev r (ck_fa (1, []) i)) (ck_ev r a.2.2)
      rw [e1]
      exact ck_ft0_sem hs (ck_ft0_mono (by omega) (Int.le_refl _) ha)
    · exact absurd hq List.not_mem_nil
theorem ck_fts_app {h : pm_Hp} {r : ck_R} {A B : ck_O} (h1 : ck_fts h r A) (h2 : ck_fts h r B) : ck_fts h r (A ++ B) := by
  intro q hq
  rcases List.mem_append.mp hq with hq | hq
  · exact h1 q hq
  · exact h2 q hq
theorem ck_fts_one {h : pm_Hp} {r : ck_R} {a : Nat × ck_F × ck_F} (h1 : ck_ft h a.1 (ck_ev r a.2.1) (ck_ev r a.2.2)) : ck_fts h r [a] := by
  intro q hq
  rcases List.mem_cons.mp hq with rfl | hq
  · exact h1
  · exact absurd hq List.not_mem_nil
theorem ck_fts_nil {h : pm_Hp} {r : ck_R} : ck_fts h r [] := fun _ h1 => absurd h1 List.not_mem_nil
theorem ck_fw_ok {N : ck_F → Bool} {r : ck_R} {h : pm_Hp} {c : Nat} {i v : ck_F} {old : Option ck_F} {a : Nat × ck_F × ck_F} (hN : ∀ f, N f = true → ck_ev r f ≤ 0) (hp : 0 ≤ ck_ev r i) (ho : ∀ o, old = some o → h c (ck_ev r i).toNat = ck_ev r o) (ha : ck_ft h a.1 (ck_ev r a.2.1) (ck_ev r a.2.2)) : ck_fts (pm_up h c (ck_ev r i).toNat (ck_ev r v)) r (ck_fw N c i v old a) := by
  unfold ck_fw
  have hW := ck_up_ow (h := h) (c := c) (x := ck_ev r v) hp
  cases hk : ck_k1 N (c, i, ck_fa (1, []) i) a with
  | true =>
    refine ck_fts_one (ck_win_ft hN hW ?_ ha)
    show (bif ck_k1 N (c, i, ck_fa (1, []) i) a then true else false) = true
    rw [hk]
    rfl
  | false =>
    have hs1 : ck_kd a.1 = ck_kd a.1 → (ck_kd a.1).1 = 1 ∨ (ck_kd a.1).1 = 2 ∨ (ck_kd a.1).1 = 3 → ck_sm h (pm_up h c (ck_ev r i).toNat (ck_ev r v)) (ck_kd a.1) (ck_ev r a.2.1) (ck_ev r i) := by
      intro _ ht
      generalize ck_kd a.1 = d at ht
      obtain ⟨t, A, sa, B, sb, th, lo, hi⟩ := d
      rcases ht with ht | ht | ht
      · have e1 : t = 1 := ht
        subst e1
        exact fun j g1 g2 => ck_up_ne (fun q => by omega)
      · have e1 : t = 2 := ht
        subst e1
        exact fun j g2 => ⟨ck_up_ne (fun q => by omega), ck_up_ne (fun q => by omega)⟩
      · have e1 : t = 3 := ht
        subst e1
        exact fun j g1 g2 => ⟨ck_up_ne (fun q => by omega), ck_up_ne (fun q => by omega)⟩
    have hs2 : (ck_kd a.1).1 = 1 ∨ (ck_kd a.1).1 = 3 → ck_sm h (pm_up h c (ck_ev r i).toNat (ck_ev r v)) (ck_kd a.1) (ck_ev r i + 1) (ck_ev r a.2.2) := by
      intro ht
      generalize ck_kd a.1 = d at ht
      obtain ⟨t, A, sa, B, sb, th, lo, hi⟩ := d
      rcases ht with ht | ht
      · have e1 : t = 1 := ht
        subst e1
        exact fun j g1 g2 => ck_up_ne (fun q => by omega)
      · have e1 : t = 3 := ht
        subst e1
        exact fun j g1 g2 => ⟨ck_up_ne (fun q => by omega), ck_up_ne (fun q => by omega)⟩
    have ha0 := ha
    have t1 := fun ht => ck_t1_ok (N := N) (a := a) hN (hs1 rfl ht) ha0
    have t2 := fun ht => ck_t2_ok (N := N) (a := a) hN (hs2 ht) ha0
    unfold ck_ft at ha
    simp only [cond_false]
    have one : ∀ h' : pm_Hp, ck_ft0 h' (ck_kd a.1) (ck_ev r a.2.1) (ck_ev r a.2.2) → ck_fts h' r [a] := fun h' q => ck_fts_one q
    have six : ∀ (h' : pm_Hp) (b : Int), ck_ft0 h' (ck_kd a.1) (ck_ev r a.2.1 - 1) (ck_ev r a.2.2) → ck_fts h' r [(a.1, ck_fs a.2.1 (1, []), a.2.2)] := fun h' b q => ck_fts_one (by
      show ck_ft0 h' (ck_kd a.1) (ck_ev r (ck_fs a.2.1 (1, []))) (ck_ev r a.2.2)
      rw [ck_ev_fs, ck_ev_k]
      exact q)
    generalize ck_kd a.1 = d at ha t1 t2 one six
    obtain ⟨t, A, sa, B, sb, th, lo, hi⟩ := d
    dsimp only
    match t, ha, t1, t2, one, six with
    | 0, _, _, _, _, _ => exact ck_fts_nil
    | 1, ha, t1, t2, one, six =>
      cases hb : ck_in2 N lo hi v with
      | false => exact ck_fts_app (t1 (Or.inl rfl)) (t2 (Or.inl rfl))
      | true =>
        have g1 := ck_in2_ok hN hb
        refine one _ (fun j q1 q2 => ?_)
        have ha1 : ∀ j : Nat, ck_ev r a.2.1 ≤ (j : Int) → (j : Int) < ck_ev r a.2.2 → lo ≤ h A j ∧ h A j ≤ hi := ha
        by_cases e : A = c ∧ j = (ck_ev r i).toNat
        · rw [e.1, e.2, ck_up_at]
          exact g1
        · rw [ck_up_ne e]
          exact ha1 j q1 q2
    | 2, ha, t1, t2, one, six => exact t1 (Or.inr (Or.inl rfl))
    | 3, ha, t1, t2, one, six =>
      cases hb : (bif Nat.beq c A then false else ck_in2 N lo hi v) with
      | false => exact ck_fts_app (t1 (Or.inr (Or.inr rfl))) (t2 (Or.inr rfl))
      | true =>
        have hA : ¬ A = c := by
          intro e
          have e1 : Nat.beq c A = true := by rw [e]; exact Nat.beq_refl c
          rw [e1] at hb
          cases hb
        have hb2 : ck_in2 N lo hi v = true := by
          cases e1 : Nat.beq c A with
          | true => rw [e1] at hb; cases hb
          | false => rw [e1] at hb; exact hb
        have g1 := ck_in2_ok hN hb2
        refine one _ (fun j q1 q2 => ?_)
        have ha1 : ∀ j : Nat, ck_ev r a.2.1 ≤ (j : Int) → (j : Int) < ck_ev r a.2.2 → h A j ≤ th ∨ lo ≤ h B j ∧ h B j ≤ hi := ha
        by_cases e : B = c ∧ j = (ck_ev r i).toNat
        · right
          rw [e.1, e.2, ck_up_at]
          exact g1
        · rw [ck_up_ne e, ck_up_ne (fun q => hA q.1)]
          exact ha1 j q1 q2
    | 4, _, _, _, _, _ => exact ck_fts_nil
    | 5, _, _, _, _, _ => exact ck_fts_nil
    | 6, ha, t1, t2, one, six =>
      cases old with
      | none => exact ck_fts_nil
      | some o =>
        dsimp only
        cases hb : (bif Nat.beq c A then (bif ck_in2 N 1 1000000 v then (bif N (ck_fs i (7, [])) then (bif N o then true else N (ck_fs (ck_fa (1, []) v) o)) else false) else false) else false) with
        | false => exact ck_fts_nil
        | true =>
          obtain ⟨b1, b2⟩ := ck_and hb
          obtain ⟨b3, b4⟩ := ck_and b2
          obtain ⟨b5, b6⟩ := ck_and b4
          have e1 := Nat.eq_of_beq_eq_true b1
          subst e1
          have g1 := ck_in2_ok hN b3
          have g2 := hN _ b5
          rw [ck_ev_fs, ck_ev_k] at g2
          have g3 := ho o rfl
          have ha1 : ck_f6 h c ≤ ck_ev r a.2.1 := ha
          refine six _ 0 ?_
          have g5 : ck_f6 (pm_up h c (ck_ev r i).toNat (ck_ev r v)) c ≤ ck_f6 h c - 1 := by
            refine ck_f6_up (by omega) g1 ?_
            rw [g3]
            rcases ck_or b6 with b7 | b7
            · exact Or.inl (hN _ b7)
            · have g4 := hN _ b7
              rw [ck_ev_fs, ck_ev_fa, ck_ev_k] at g4
              exact Or.inr (by omega)
          show ck_f6 (pm_up h c (ck_ev r i).toNat (ck_ev r v)) c ≤ ck_ev r a.2.1 - 1
          omega
    | _ + 7, _, _, _, _, _ => exact ck_fts_nil
noncomputable def ck_fwl (N : ck_F → Bool) (c : Nat) (i v : ck_F) (old : Option ck_F) (A : ck_O) : ck_O := List.rec (motive := fun _ => ck_O) [] (fun a _ ih => ck_fw N c i v old a ++ ih) A
theorem ck_fwl_ok {N : ck_F → Bool} {r : ck_R} {h : pm_Hp} {c : Nat} {i v : ck_F} {old : Option ck_F} (hN : ∀ f, N f = true → ck_ev r f ≤ 0) (hp : 0 ≤ ck_ev r i) (ho : ∀ o, old = some o → h c (ck_ev r i).toNat = ck_ev r o) : ∀ {A : ck_O}, ck_fts h r A → ck_fts (pm_up h c (ck_ev r i).toNat (ck_ev r v)) r (ck_fwl N c i v old A)
  | [], _ => ck_fts_nil
  | a :: t, hA => ck_fts_app (ck_fw_ok hN hp ho (hA a (List.mem_cons_self ..))) (ck_fwl_ok hN hp ho (A := t) (fun q hq => hA q (List.mem_cons_of_mem _ hq)))
noncomputable def ck_wr (M : ck_O) (S : ck_S) (c : Nat) (idx v : ck_F) : Option ck_S := match ck_ix (ck_N S) c (ck_nm S.2.1 idx) with
  | none => none
  | some w => bif (bif ck_in2 (ck_N S) w.1 w.2 v then ck_mw (ck_N S) c (ck_nm S.2.1 idx) (ck_fa (1, []) (ck_nm S.2.1 idx)) M else false) then some (S.1, S.2.1, S.2.2.1, (c, ck_nm S.2.1 idx, v) :: ck_ok (ck_N S) [(c, ck_nm S.2.1 idx, ck_fa (1, []) (ck_nm S.2.1 idx))] S.2.2.2.1, ck_fwl (ck_N S) c (ck_nm S.2.1 idx) v (ck_of S.2.1 S.2.2.1 c (ck_nm S.2.1 idx) S.2.2.2.1) S.2.2.2.2) else none
theorem ck_wr_ok {M : ck_O} {h0 h : pm_Hp} {S S' : ck_S} {c : Nat} {idx v : ck_F} {r : ck_R} {z : Nat} {x : Int} (hw : ck_wr M S c idx v = some S') (H : ck_sat M h0 S h r) (hz : ck_ev r idx = (z : Int)) (hx : ck_ev r v = x) (hd : ck_dec h) : S'.1 = S.1 ∧ ck_sat M h0 S' (pm_up h c z x) r ∧ ck_dec (pm_up h c z x) ∧ ∃ w, ck_dv c z = some w ∧ w.1 ≤ x ∧ x ≤ w.2 := by
  subst hx
  unfold ck_wr at hw
  cases hi : ck_ix (ck_N S) c (ck_nm S.2.1 idx) with
  | none => rw [hi] at hw; cases hw
  | some w =>
    rw [hi] at hw
    dsimp only at hw
    cases hb : (bif ck_in2 (ck_N S) w.1 w.2 v then ck_mw (ck_N S) c (ck_nm S.2.1 idx) (ck_fa (1, []) (ck_nm S.2.1 idx)) M else false) with
    | false => rw [hb] at hw; cases hw
    | true =>
      rw [hb] at hw
      cases hw
      have hN := ck_N_ok H
      have e0 := ck_nm_ok H.1 idx
      have q1 := ck_ix_ok hN hi
      obtain ⟨b1, b2⟩ := ck_and hb
      have g1 := ck_in2_ok hN b1
      obtain ⟨m, hm, hm1, hm2, hm3⟩ := ck_mw_ok hN b2
      have ez : (ck_ev r (ck_nm S.2.1 idx)).toNat = z := by rw [e0, hz]; exact Int.toNat_natCast z
      have hW := ck_up_ow (h := h) (c := c) (i := ck_nm S.2.1 idx) (x := ck_ev r v) q1.1
      have hA := ck_fwl_ok (N := ck_N S) (h := h) (c := c) (i := ck_nm S.2.1 idx) (v := v) (old := ck_of S.2.1 S.2.2.1 c (ck_nm S.2.1 idx) S.2.2.2.1) hN q1.1 (fun o ho => ck_of_ok H.1 H.2.1 H.2.2.1 ho) H.2.2.2.1
      have hO := ck_ok_ok (N := ck_N S) hN hW H.2.2.1
      rw [ez] at hA hW hO q1
      refine ⟨rfl, ⟨H.1, H.2.1, ?_, hA, ?_⟩, ?_, w, q1.2, g1⟩
      · intro o ho
        rcases List.mem_cons.mp ho with rfl | ho
        · show 0 ≤ ck_ev r (ck_nm S.2.1 idx) ∧ pm_up h c z (ck_ev r v) c (ck_ev r (ck_nm S.2.1 idx)).toNat = ck_ev r v
          rw [ez, ck_up_at]
          exact ⟨q1.1, rfl⟩
        · exact hO o ho
      · intro c' j
        by_cases e : c' = c ∧ j = z
        · refine Or.inr ⟨m, hm, hm1.trans e.1.symm, ?_, ?_⟩
          · rw [e0, hz] at hm2
            rw [e.2]
            exact hm2
          · rw [ck_ev_fa, ck_ev_k, e0, hz] at hm3
            rw [e.2]
            omega
        · rw [ck_up_ne e]
          exact H.2.2.2.2 c' j
      · intro c' j w' hw'
        by_cases e : c' = c ∧ j = z
        · obtain ⟨rfl, rfl⟩ := e
          rw [ck_up_at]
          have e1 : w = w' := Option.some.inj (q1.2.symm.trans hw')
          rw [← e1]
          exact g1
        · rw [ck_up_ne e]
          exact hd c' j w' hw'
end
section
/-! The checker: numbers of 32 and 64 bits. -/
abbrev ck_W : Type := Bool × ck_F × Int × Int
def ck_lo : Int := .negSucc 2147483647
def ck_hi : Int := .ofNat 2147483647
def ck_ll : Int := .negSucc 9223372036854775807
def ck_lh : Int := .ofNat 9223372036854775807
theorem ck_lo_eq : ck_lo = -2147483648 := rfl
theorem ck_hi_eq : ck_hi = 2147483647 := rfl
theorem ck_ll_eq : ck_ll = -9223372036854775808 := rfl
theorem ck_lh_eq : ck_lh = 9223372036854775807 := rfl
def ck_top : ck_W := (false, (.ofNat 0, []), ck_lo, ck_hi)
def ck_tol : ck_W := (false, (.ofNat 0, []), ck_ll, ck_lh)
def ck_rz (r : ck_R) (w : ck_W) (v : Int) : Prop := (w.1 = true → v = ck_ev r w.2.1) ∧ (w.1 = false → w.2.2.1 ≤ v ∧ v ≤ w.2.2.2)
theorem ck_rz_f {r : ck_R} {f : ck_F} {a b v : Int} (h : v = ck_ev r f) : ck_rz r (true, f, a, b) v := ⟨fun _ => h, fun h1 => by cases h1⟩
theorem ck_rz_i {r : ck_R} {f : ck_F} {a b v : Int} (h1 : a ≤ v) (h2 : v ≤ b) : ck_rz r (false, f, a, b) v := ⟨fun h => (by cases h), fun _ => ⟨h1, h2⟩⟩
theorem ck_i32 (x : Int32) : -2147483648 ≤ x.toInt ∧ x.toInt ≤ 2147483647 := by
  have h1 := Int32.le_toInt x
  have h2 := Int32.toInt_lt x
  constructor <;> omega
theorem ck_i64 (x : Int64) : -9223372036854775808 ≤ x.toInt ∧ x.toInt ≤ 9223372036854775807 := by
  have h1 := Int64.le_toInt x
  have h2 := Int64.toInt_lt x
  constructor <;> omega
theorem ck_top_ok (r : ck_R) (x : Int32) : ck_rz r ck_top x.toInt := ck_rz_i (ck_i32 x).1 (ck_i32 x).2
theorem ck_tol_ok (r : ck_R) (x : Int64) : ck_rz r ck_tol x.toInt := ck_rz_i (ck_i64 x).1 (ck_i64 x).2
theorem ck_bm {x : Int} (h1 : -2147483648 ≤ x) (h2 : x ≤ 2147483647) : x.bmod (2 ^ 32) = x := Int.bmod_eq_of_le (by omega) (by omega)
theorem ck_bm8 {x : Int} (h1 : -128 ≤ x) (h2 : x ≤ 127) : x.bmod (2 ^ 8) = x := Int.bmod_eq_of_le (by omega) (by omega)
theorem ck_bml {x : Int} (h1 : -9223372036854775808 ≤ x) (h2 : x ≤ 9223372036854775807) : x.bmod (2 ^ 64) = x := Int.bmod_eq_of_le (by omega) (by omega)
noncomputable def ck_fi (E : ck_E) (f : ck_F) : ck_W := match ck_pl E f with
  | none => ck_top
  | some w => bif ck_le ck_lo w.1 then (bif ck_le w.2 ck_hi then (true, f, .ofNat 0, .ofNat 0) else ck_top) else ck_top
noncomputable def ck_fl (E : ck_E) (f : ck_F) : ck_W := match ck_pl E f with
  | none => ck_tol
  | some w => bif ck_le ck_ll w.1 then (bif ck_le w.2 ck_lh then (true, f, .ofNat 0, .ofNat 0) else ck_tol) else ck_tol
theorem ck_fi_ok {E : ck_E} {r : ck_R} {f : ck_F} {x : Int32} (hE : ck_es E r) (h : x.toInt = (ck_ev r f).bmod (2 ^ 32)) : ck_rz r (ck_fi E f) x.toInt := by
  unfold ck_fi
  cases hp : ck_pl E f with
  | none => exact ck_top_ok r x
  | some w =>
    have h1 := ck_pl_ok hE hp
    dsimp only
    cases b1 : ck_le ck_lo w.1 with
    | false => exact ck_top_ok r x
    | true =>
      cases b2 : ck_le w.2 ck_hi with
      | false => exact ck_top_ok r x
      | true =>
        have g1 := ck_le_iff.mp b1
        have g2 := ck_le_iff.mp b2
        rw [ck_lo_eq] at g1
        rw [ck_hi_eq] at g2
        exact ck_rz_f (h.trans (ck_bm (by omega) (by omega)))
theorem ck_fl_ok {E : ck_E} {r : ck_R} {f : ck_F} {x : Int64} (hE : ck_es E r) (h : x.toInt = (ck_ev r f).bmod (2 ^ 64)) : ck_rz r (ck_fl E f) x.toInt := by
  unfold ck_fl
  cases hp : ck_pl E f with
  | none => exact ck_tol_ok r x
  | some w =>
    have h1 := ck_pl_ok hE hp
    dsimp only
    cases b1 : ck_le ck_ll w.1 with
    | false => exact ck_tol_ok r x
    | true =>
      cases b2 : ck_le w.2 ck_lh with
      | false => exact ck_tol_ok r x
      | true =>
        have g1 := ck_le_iff.mp b1
        have g2 := ck_le_iff.mp b2
        rw [ck_ll_eq] at g1
        rw [ck_lh_eq] at g2
        exact ck_rz_f (h.trans (ck_bml (by omega) (by omega)))
/-! bits -/
theorem ck_nn {x : Int32} (h : 0 ≤ x.toInt) : x.toInt = (x.toBitVec.toNat : Int) := by
  have h1 : x.toInt = x.toBitVec.toInt := rfl
  rw [h1, BitVec.toInt_eq_toNat_cond] at h ⊢
  have h2 := x.toBitVec.isLt
  split
  · rfl
  · rename_i h3
    rw [if_neg h3] at h
    omega
theorem ck_nl {x : Int32} (h : x.toBitVec.toNat < 2147483648) : x.toInt = (x.toBitVec.toNat : Int) := BitVec.toInt_eq_toNat_of_lt (by omega)
theorem ck_and_l {x y : Int32} (h : 0 ≤ x.toInt) : 0 ≤ (x &&& y).toInt ∧ (x &&& y).toInt ≤ x.toInt := by
  have e1 := ck_nn h
  have h1 := ck_i32 x
  have e2 : (x &&& y).toBitVec.toNat = x.toBitVec.toNat &&& y.toBitVec.toNat := by
    rw [Int32.toBitVec_and, BitVec.toNat_and]
  have h2 := @Nat.and_le_left x.toBitVec.toNat y.toBitVec.toNat
  rw [← e2] at h2
  have e3 := ck_nl (x := x &&& y) (by omega)
  omega
theorem ck_and_r {x y : Int32} (h : 0 ≤ y.toInt) : 0 ≤ (x &&& y).toInt ∧ (x &&& y).toInt ≤ y.toInt := by
  have e1 := ck_nn h
  have h1 := ck_i32 y
  have e2 : (x &&& y).toBitVec.toNat = x.toBitVec.toNat &&& y.toBitVec.toNat := by
    rw [Int32.toBitVec_and, BitVec.toNat_and]
  have h2 := @Nat.and_le_right x.toBitVec.toNat y.toBitVec.toNat
  rw [← e2] at h2
  have e3 := ck_nl (x := x &&& y) (by omega)
  omega
def ck_pw (b : Int) : Int := .ofNat (2 ^ (Nat.log2 b.toNat + 1) - 1)
theorem ck_pw_lt {n : Nat} {b : Int} (h : (n : Int) ≤ b) : n < 2 ^ (Nat.log2 b.toNat + 1) := by
  have h1 := @Nat.lt_log2_self b.toNat
  omega
theorem ck_or_ok {x y : Int32} {b : Int} (hx : 0 ≤ x.toInt) (hy : 0 ≤ y.toInt) (h1 : x.toInt ≤ b) (h2 : y.toInt ≤ b) : x.toInt ≤ (x ||| y).toInt ∧ y.toInt ≤ (x ||| y).toInt ∧ (x ||| y).toInt ≤ ck_pw b := by
  have e1 := ck_nn hx
  have e2 := ck_nn hy
  have h3 := ck_i32 x
  have h4 := ck_i32 y
  have e3 : (x ||| y).toBitVec.toNat = x.toBitVec.toNat ||| y.toBitVec.toNat := by
    rw [Int32.toBitVec_or, BitVec.toNat_or]
  have h5 : (x ||| y).toBitVec.toNat < 2 ^ 31 := by
    rw [e3]
    exact Nat.or_lt_two_pow (by omega) (by omega)
  have e4 := ck_nl (x := x ||| y) (by omega)
  have h6 : (x ||| y).toBitVec.toNat < 2 ^ (Nat.log2 b.toNat + 1) := by
    rw [e3]
    exact Nat.or_lt_two_pow (ck_pw_lt (by omega)) (ck_pw_lt (by omega))
  have h7 := @Nat.left_le_or x.toBitVec.toNat y.toBitVec.toNat
  have h8 := @Nat.right_le_or x.toBitVec.toNat y.toBitVec.toNat
  rw [← e3] at h7 h8
  have e5 : ck_pw b = ((2 ^ (Nat.log2 b.toNat + 1) - 1 : Nat) : Int) := rfl
  rw [e5]
  refine ⟨by omega, by omega, ?_⟩
  omega
theorem ck_xor_ok {x y : Int32} {b : Int} (hx : 0 ≤ x.toInt) (hy : 0 ≤ y.toInt) (h1 : x.toInt ≤ b) (h2 : y.toInt ≤ b) : 0 ≤ (x ^^^ y).toInt ∧ (x ^^^ y).toInt ≤ ck_pw b := by
  have e1 := ck_nn hx
  have e2 := ck_nn hy
  have h3 := ck_i32 x
  have h4 := ck_i32 y
  have e3 : (x ^^^ y).toBitVec.toNat = x.toBitVec.toNat ^^^ y.toBitVec.toNat := by
    rw [Int32.toBitVec_xor, BitVec.toNat_xor]
  have h5 : (x ^^^ y).toBitVec.toNat < 2 ^ 31 := by
    rw [e3]
    exact Nat.xor_lt_two_pow (by omega) (by omega)
  have e4 := ck_nl (x := x ^^^ y) (by omega)
  have h6 : (x ^^^ y).toBitVec.toNat < 2 ^ (Nat.log2 b.toNat + 1) := by
    rw [e3]
    exact Nat.xor_lt_two_pow (ck_pw_lt (by omega)) (ck_pw_lt (by omega))
  have e5 : ck_pw b = ((2 ^ (Nat.log2 b.toNat + 1) - 1 : Nat) : Int) := rfl
  rw [e5]
  refine ⟨by omega, ?_⟩
  omega
theorem ck_of_int {x : Int32} {n : Int} (h : x.toInt = n) : x = Int32.ofInt n := by
  rw [← h]
  exact (Int32.ofInt_toInt x).symm
theorem ck_shl1 : ∀ n : Nat, n < 31 → ((1 : Int32) <<< (Int32.ofInt (n : Int) &&& 31)).toInt = ((2 ^ n : Nat) : Int) := by decide
theorem ck_shr_k : ∀ n : Nat, n < 32 → ((Int32.ofInt (n : Int) &&& 31).toBitVec.smod 32).toNat = n := by decide
theorem ck_pow_mono {a b : Nat} (h : a ≤ b) : (2 : Nat) ^ a ≤ 2 ^ b := Nat.pow_le_pow_right (by omega) h
theorem ck_shl_ok {x y : Int32} {c d : Int} (hx : x.toInt = 1) (h1 : 0 ≤ c) (h2 : c ≤ y.toInt) (h3 : y.toInt ≤ d) (h4 : d ≤ 30) : ((2 ^ c.toNat : Nat) : Int) ≤ (x <<< (y &&& 31)).toInt ∧ (x <<< (y &&& 31)).toInt ≤ ((2 ^ d.toNat : Nat) : Int) := by
  have e1 : x = 1 := ck_of_int hx
  have e2 : y = Int32.ofInt (y.toInt.toNat : Int) := ck_of_int (by omega)
  have e3 := ck_shl1 y.toInt.toNat (by omega)
  rw [← e2] at e3
  rw [e1, e3]
  have h5 := @ck_pow_mono c.toNat y.toInt.toNat (by omega)
  have h6 := @ck_pow_mono y.toInt.toNat d.toNat (by omega)
  omega
theorem ck_shr_ok {x y : Int32} {b : Int} (h1 : 0 ≤ x.toInt) (h2 : x.toInt ≤ b) : 0 ≤ (x >>> (y &&& 31)).toInt ∧ (x >>> (y &&& 31)).toInt ≤ b := by
  have e1 := pk_shr x (y &&& 31) _ rfl
  rw [e1, Int.shiftRight_eq_div_pow]
  have h3 := Int.ediv_le_self (a := x.toInt) (((2 ^ ((y &&& 31).toBitVec.smod 32).toNat : Nat) : Int)) h1
  have h4 : 0 ≤ x.toInt / (((2 ^ ((y &&& 31).toBitVec.smod 32).toNat : Nat) : Int)) := Int.ediv_nonneg h1 (Int.natCast_nonneg _)
  exact ⟨h4, Int.le_trans h3 h2⟩
theorem ck_shrk_ok {x y : Int32} {a b c : Int} (hy : y.toInt = c) (h1 : a ≤ x.toInt) (h2 : x.toInt ≤ b) (h3 : 0 ≤ c) (h4 : c ≤ 31) : a / ((2 ^ c.toNat : Nat) : Int) ≤ (x >>> (y &&& 31)).toInt ∧ (x >>> (y &&& 31)).toInt ≤ b / ((2 ^ c.toNat : Nat) : Int) := by
  have e2 : y = Int32.ofInt (c.toNat : Int) := ck_of_int (by omega)
  have e3 := ck_shr_k c.toNat (by omega)
  rw [← e2] at e3
  have e1 := pk_shr x (y &&& 31) c.toNat e3
  rw [e1, Int.shiftRight_eq_div_pow]
  have hp : (0 : Int) < ((2 ^ c.toNat : Nat) : Int) := by
    have := Nat.two_pow_pos c.toNat
    omega
  exact ⟨Int.ediv_le_ediv hp h1, Int.ediv_le_ediv hp h2⟩
theorem ck_tdiv_nn {x y : Int} (h1 : 0 ≤ x) (h2 : 0 < y) : 0 ≤ x.tdiv y ∧ x.tdiv y ≤ x := by
  rw [Int.tdiv_eq_ediv_of_nonneg h1]
  exact ⟨Int.ediv_nonneg h1 (by omega), Int.ediv_le_self _ h1⟩
theorem ck_tdiv_bd {x y : Int} (h2 : 0 < y) : (0 ≤ x → 0 ≤ x.tdiv y ∧ x.tdiv y ≤ x) ∧ (x < 0 → x ≤ x.tdiv y ∧ x.tdiv y ≤ 0) := by
  refine ⟨fun h => ck_tdiv_nn h h2, fun h => ?_⟩
  have h3 := @ck_tdiv_nn (-x) y (by omega) h2
  rw [Int.neg_tdiv] at h3
  omega
theorem ck_div_ok {x y : Int32} (hy : 1 ≤ y.toInt) : (x / y).toInt = x.toInt.tdiv y.toInt := by
  refine Int32.toInt_div_of_ne_right x y ?_
  intro e
  rw [e] at hy
  exact absurd hy (by decide)
theorem ck_rem_ok {x y : Int32} (hy : 1 ≤ y.toInt) : (x - x / y * y).toInt = x.toInt.tmod y.toInt := by
  have e1 := ck_div_ok (x := x) hy
  have h1 := ck_i32 x
  have h2 := @ck_tdiv_bd x.toInt y.toInt (by omega)
  have h3 := Int.mul_tdiv_add_tmod x.toInt y.toInt
  have h4 := Int.tmod_lt_of_pos x.toInt (show 0 < y.toInt by omega)
  have h5 : (0 ≤ x.toInt → 0 ≤ x.toInt.tmod y.toInt) := fun h => Int.tmod_nonneg _ h
  have h6 : (x.toInt < 0 → x.toInt.tmod y.toInt ≤ 0) := fun h => by
    have h7 := Int.tmod_nonneg (a := -x.toInt) y.toInt (by omega)
    rw [Int.neg_tmod] at h7
    omega
  have e2 : y.toInt * x.toInt.tdiv y.toInt = x.toInt.tdiv y.toInt * y.toInt := Int.mul_comm _ _
  have h8 : (x.toInt < 0 → x.toInt ≤ x.toInt.tdiv y.toInt * y.toInt) := fun h => by have := h6 h; omega
  have h9 : (0 ≤ x.toInt → 0 ≤ x.toInt.tdiv y.toInt * y.toInt) := fun h => Int.mul_nonneg (h2.1 h).1 (by omega)
  have h10 : (x.toInt < 0 → x.toInt.tdiv y.toInt * y.toInt ≤ 0) := fun h => by
    have h11 := Int.mul_nonneg (show 0 ≤ -(x.toInt.tdiv y.toInt) by have := (h2.2 h).2; omega) (show 0 ≤ y.toInt by omega)
    rw [Int.neg_mul] at h11
    omega
  have b1 : (x / y * y).toInt = x.toInt.tdiv y.toInt * y.toInt := by
    rw [Int32.toInt_mul, e1]
    refine ck_bm ?_ ?_
    · rcases Int.lt_or_le x.toInt 0 with h | h
      · have := h8 h; omega
      · have := h9 h; omega
    · rcases Int.lt_or_le x.toInt 0 with h | h
      · have := h10 h; omega
      · have := h5 h; omega
  rw [Int32.toInt_sub, b1]
  have e3 : x.toInt - x.toInt.tdiv y.toInt * y.toInt = x.toInt.tmod y.toInt := by omega
  rw [e3]
  have h12 := ck_i32 y
  refine ck_bm ?_ (by omega)
  rcases Int.lt_or_le x.toInt 0 with h | h
  · have := h10 h; omega
  · have := h5 h; omega
theorem ck_tmod_bd {x y d : Int} (hy : 1 ≤ y) (hd : y ≤ d) : (0 ≤ x → 0 ≤ x.tmod y ∧ x.tmod y ≤ x ∧ x.tmod y ≤ d - 1) ∧ 1 - d ≤ x.tmod y ∧ x.tmod y ≤ d - 1 := by
  have h4 := Int.tmod_lt_of_pos x (show 0 < y by omega)
  have h5 : ∀ x : Int, 0 ≤ x → 0 ≤ x.tmod y := fun x h => Int.tmod_nonneg _ h
  have h3 := Int.mul_tdiv_add_tmod x y
  have h2 := @ck_tdiv_bd x y (by omega)
  refine ⟨fun h => ⟨h5 x h, ?_, by omega⟩, ?_, by omega⟩
  · have := Int.mul_nonneg (show 0 ≤ y by omega) (h2.1 h).1
    omega
  · rcases Int.lt_or_le x 0 with h | h
    · have h7 := Int.tmod_lt_of_pos (-x) (show 0 < y by omega)
      rw [Int.neg_tmod] at h7
      omega
    · have := h5 x h; omega
noncomputable def ck_bc (b : Nat) (p q : Int × Int) : ck_W := match b with
  | 3 => bif ck_le 0 p.1 then (bif ck_le 0 q.1 then (false, (.ofNat 0, []), .ofNat 0, ck_mn p.2 q.2) else (false, (.ofNat 0, []), .ofNat 0, p.2)) else (bif ck_le 0 q.1 then (false, (.ofNat 0, []), .ofNat 0, q.2) else ck_top)
  | 4 => bif ck_le 0 p.1 then (bif ck_le 0 q.1 then (false, (.ofNat 0, []), ck_mx p.1 q.1, ck_pw (ck_mx p.2 q.2)) else ck_top) else ck_top
  | 5 => bif ck_le 0 p.1 then (bif ck_le 0 q.1 then (false, (.ofNat 0, []), .ofNat 0, ck_pw (ck_mx p.2 q.2)) else ck_top) else ck_top
  | 6 => bif (bif ck_z (p.1 - 1) then (bif ck_z (p.2 - 1) then (bif ck_le 0 q.1 then ck_le q.2 30 else false) else false) else false) then (false, (.ofNat 0, []), .ofNat (2 ^ q.1.toNat), .ofNat (2 ^ q.2.toNat)) else ck_top
  | 7 => bif ck_le 0 p.1 then (bif (bif ck_z (q.1 - q.2) then (bif ck_le 0 q.1 then ck_le q.1 31 else false) else false) then (false, (.ofNat 0, []), p.1 / .ofNat (2 ^ q.1.toNat), p.2 / .ofNat (2 ^ q.1.toNat)) else (false, (.ofNat 0, []), .ofNat 0, p.2)) else ck_top
  | _ => ck_top
noncomputable def ck_bd2 (b : Nat) (p q : Int × Int) : Option ck_W := bif ck_le 1 q.1 then (match b with
  | 8 => bif ck_le 0 p.1 then some (false, (.ofNat 0, []), .ofNat 0, ck_mn p.2 (q.2 - 1)) else some (false, (.ofNat 0, []), 1 - q.2, q.2 - 1)
  | _ => bif ck_le 0 p.1 then some (false, (.ofNat 0, []), .ofNat 0, p.2) else some (false, (.ofNat 0, []), ck_mn p.1 0, ck_mx p.2 0)) else none
noncomputable def ck_bo1 (E : ck_E) (b : Nat) (x y : ck_F) (p q : Int × Int) : Option ck_W := match b with
  | 0 => some (ck_fi E (ck_fa x y))
  | 1 => some (ck_fi E (ck_fs x y))
  | _ => bif (bif ck_z (p.1 - p.2) then ck_z (q.1 - q.2) else false) then (match pm_bop b (Int32.ofInt p.1) (Int32.ofInt q.1) with
    | none => none
    | some z => some (true, (z.toInt, []), .ofNat 0, .ofNat 0)) else (match b with
    | 2 => bif ck_z (q.1 - q.2) then some (ck_fi E (ck_fk q.1 x)) else (bif ck_z (p.1 - p.2) then some (ck_fi E (ck_fk p.1 y)) else some ck_top)
    | 8 => ck_bd2 8 p q
    | 9 => ck_bd2 9 p q
    | _ => bif Nat.blt b 8 then some (ck_bc b p q) else none)
noncomputable def ck_bo (E : ck_E) (b : Nat) (x y : ck_F) : Option ck_W := match ck_pl E x with
  | none => none
  | some p => match ck_pl E y with
    | none => none
    | some q => ck_bo1 E b x y p q
theorem ck_mx_l (a b : Int) : a ≤ ck_mx a b := by
  unfold ck_mx
  cases h : ck_le a b with
  | true => exact ck_le_iff.mp h
  | false => exact Int.le_refl a
theorem ck_mx_r (a b : Int) : b ≤ ck_mx a b := by
  unfold ck_mx
  cases h : ck_le a b with
  | true => exact Int.le_refl b
  | false => have := ck_le_no h; exact (by omega : b ≤ a)
theorem ck_mn_l (a b : Int) : ck_mn a b ≤ a := by
  unfold ck_mn
  cases h : ck_le a b with
  | true => exact Int.le_refl a
  | false => have := ck_le_no h; exact (by omega : b ≤ a)
theorem ck_mn_r (a b : Int) : ck_mn a b ≤ b := by
  unfold ck_mn
  cases h : ck_le a b with
  | true => exact ck_le_iff.mp h
  | false => exact Int.le_refl b
theorem ck_bc_ok {b : Nat} {p q : Int × Int} {x y z : Int32} {r : ck_R} (hx : p.1 ≤ x.toInt ∧ x.toInt ≤ p.2) (hy : q.1 ≤ y.toInt ∧ y.toInt ≤ q.2) (hz : pm_bop b x y = some z) : ck_rz r (ck_bc b p q) z.toInt := by
  match b, hz with
  | 0, _ => exact ck_top_ok r z
  | 1, _ => exact ck_top_ok r z
  | 2, _ => exact ck_top_ok r z
  | 3, hz =>
    cases hz
    show ck_rz r (bif ck_le 0 p.1 then (bif ck_le 0 q.1 then (false, (.ofNat 0, []), .ofNat 0, ck_mn p.2 q.2) else (false, (.ofNat 0, []), .ofNat 0, p.2)) else (bif ck_le 0 q.1 then (false, (.ofNat 0, []), .ofNat 0, q.2) else ck_top)) _
    cases b1 : ck_le 0 p.1 with
    | true =>
      have g1 := ck_le_iff.mp b1
      have h1 := ck_and_l (x := x) (y := y) (by omega)
      cases b2 : ck_le 0 q.1 with
      | true =>
        have g2 := ck_le_iff.mp b2
        have h2 := ck_and_r (x := x) (y := y) (by omega)
        exact ck_rz_i h1.1 (ck_le_mn (by omega) (by omega))
      | false => exact ck_rz_i h1.1 (by omega)
    | false =>
      cases b2 : ck_le 0 q.1 with
      | true =>
        have g2 := ck_le_iff.mp b2
        have h2 := ck_and_r (x := x) (y := y) (by omega)
        exact ck_rz_i h2.1 (by omega)
      | false => exact ck_top_ok r _
  | 4, hz =>
    cases hz
    show ck_rz r (bif ck_le 0 p.1 then (bif ck_le 0 q.1 then (false, (.ofNat 0, []), ck_mx p.1 q.1, ck_pw (ck_mx p.2 q.2)) else ck_top) else ck_top) _
    cases b1 : ck_le 0 p.1 with
    | false => exact ck_top_ok r _
    | true =>
      cases b2 : ck_le 0 q.1 with
      | false => exact ck_top_ok r _
      | true =>
        have g1 := ck_le_iff.mp b1
        have g2 := ck_le_iff.mp b2
        have h1 := ck_or_ok (x := x) (y := y) (b := ck_mx p.2 q.2) (by omega) (by omega) (Int.le_trans hx.2 (ck_mx_l _ _)) (Int.le_trans hy.2 (ck_mx_r _ _))
        exact ck_rz_i (ck_mx_le (by omega) (by omega)) h1.2.2
  | 5, hz =>
    cases hz
    show ck_rz r (bif ck_le 0 p.1 then (bif ck_le 0 q.1 then (false, (.ofNat 0, []), .ofNat 0, ck_pw (ck_mx p.2 q.2)) else ck_top) else ck_top) _
    cases b1 : ck_le 0 p.1 with
    | false => exact ck_top_ok r _
    | true =>
      cases b2 : ck_le 0 q.1 with
      | false => exact ck_top_ok r _
      | true =>
        have g1 := ck_le_iff.mp b1
        have g2 := ck_le_iff.mp b2
        have h1 := ck_xor_ok (x := x) (y := y) (b := ck_mx p.2 q.2) (by omega) (by omega) (Int.le_trans hx.2 (ck_mx_l _ _)) (Int.le_trans hy.2 (ck_mx_r _ _))
        exact ck_rz_i h1.1 h1.2
  | 6, hz =>
    cases hz
    show ck_rz r (bif (bif ck_z (p.1 - 1) then (bif ck_z (p.2 - 1) then (bif ck_le 0 q.1 then ck_le q.2 30 else false) else false) else false) then (false, (.ofNat 0, []), .ofNat (2 ^ q.1.toNat), .ofNat (2 ^ q.2.toNat)) else ck_top) _
    cases hb : (bif ck_z (p.1 - 1) then (bif ck_z (p.2 - 1) then (bif ck_le 0 q.1 then ck_le q.2 30 else false) else false) else false) with
    | false => exact ck_top_ok r _
    | true =>
      obtain ⟨b1, b2⟩ := ck_and hb
      obtain ⟨b3, b4⟩ := ck_and b2
      obtain ⟨b5, b6⟩ := ck_and b4
      have g1 := ck_z_iff.mp b1
      have g2 := ck_z_iff.mp b3
      have g3 := ck_le_iff.mp b5
      have g4 := ck_le_iff.mp b6
      have h1 := ck_shl_ok (x := x) (y := y) (c := q.1) (d := q.2) (by omega) g3 hy.1 hy.2 g4
      exact ck_rz_i h1.1 h1.2
  | 7, hz =>
    cases hz
    show ck_rz r (bif ck_le 0 p.1 then (bif (bif ck_z (q.1 - q.2) then (bif ck_le 0 q.1 then ck_le q.1 31 else false) else false) then (false, (.ofNat 0, []), p.1 / .ofNat (2 ^ q.1.toNat), p.2 / .ofNat (2 ^ q.1.toNat)) else (false, (.ofNat 0, []), .ofNat 0, p.2)) else ck_top) _
    cases b1 : ck_le 0 p.1 with
    | false => exact ck_top_ok r _
    | true =>
      have g1 := ck_le_iff.mp b1
      cases hb : (bif ck_z (q.1 - q.2) then (bif ck_le 0 q.1 then ck_le q.1 31 else false) else false) with
      | false =>
        have h1 := ck_shr_ok (x := x) (y := y) (b := p.2) (by omega) hx.2
        exact ck_rz_i h1.1 h1.2
      | true =>
        obtain ⟨b2, b3⟩ := ck_and hb
        obtain ⟨b4, b5⟩ := ck_and b3
        have g2 := ck_z_iff.mp b2
        have g3 := ck_le_iff.mp b4
        have g4 := ck_le_iff.mp b5
        have h1 := ck_shrk_ok (x := x) (y := y) (a := p.1) (b := p.2) (c := q.1) (by omega) hx.1 hx.2 g3 g4
        exact ck_rz_i h1.1 h1.2
  | _ + 8, _ => exact ck_top_ok r z
theorem ck_ne0 {y : Int32} (h : 1 ≤ y.toInt) : ¬ y = 0 := by
  intro e
  rw [e] at h
  exact absurd h (by decide)
theorem ck_bd8_ok {p q : Int × Int} {x y : Int32} {r : ck_R} {w : ck_W} (hx : p.1 ≤ x.toInt ∧ x.toInt ≤ p.2) (hy : q.1 ≤ y.toInt ∧ y.toInt ≤ q.2) (hw : ck_bd2 8 p q = some w) : ∃ z, pm_bop 8 x y = some z ∧ ck_rz r w z.toInt := by
  unfold ck_bd2 at hw
  cases b1 : ck_le 1 q.1 with
  | false => rw [b1] at hw; cases hw
  | true =>
    rw [b1] at hw
    have g1 := ck_le_iff.mp b1
    have hy1 : 1 ≤ y.toInt := by omega
    refine ⟨x - x / y * y, if_neg (ck_ne0 hy1), ?_⟩
    have e1 := ck_rem_ok (x := x) hy1
    have h1 := ck_tmod_bd (x := x.toInt) hy1 hy.2
    rw [e1]
    dsimp only [cond_true] at hw
    cases b2 : ck_le 0 p.1 with
    | true =>
      rw [b2] at hw
      cases hw
      have g2 := ck_le_iff.mp b2
      have h2 := h1.1 (by omega)
      exact ck_rz_i h2.1 (ck_le_mn (by omega) (by omega))
    | false =>
      rw [b2] at hw
      cases hw
      exact ck_rz_i (by omega) (by omega)
theorem ck_bd9_ok {p q : Int × Int} {x y : Int32} {r : ck_R} {w : ck_W} (hx : p.1 ≤ x.toInt ∧ x.toInt ≤ p.2) (hy : q.1 ≤ y.toInt ∧ y.toInt ≤ q.2) (hw : ck_bd2 9 p q = some w) : ∃ z, pm_bop 9 x y = some z ∧ ck_rz r w z.toInt := by
  unfold ck_bd2 at hw
  cases b1 : ck_le 1 q.1 with
  | false => rw [b1] at hw; cases hw
  | true =>
    rw [b1] at hw
    have g1 := ck_le_iff.mp b1
    have hy1 : 1 ≤ y.toInt := by omega
    refine ⟨x / y, if_neg (ck_ne0 hy1), ?_⟩
    have e1 := ck_div_ok (x := x) hy1
    have h1 := @ck_tdiv_bd x.toInt y.toInt (by omega)
    rw [e1]
    dsimp only [cond_true] at hw
    cases b2 : ck_le 0 p.1 with
    | true =>
      rw [b2] at hw
      cases hw
      have g2 := ck_le_iff.mp b2
      have h2 := h1.1 (by omega)
      exact ck_rz_i h2.1 (by omega)
    | false =>
      rw [b2] at hw
      cases hw
      rcases Int.lt_or_le x.toInt 0 with h | h
      · have h2 := h1.2 h
        exact ck_rz_i (Int.le_trans (ck_mn_l _ _) (by omega)) (Int.le_trans h2.2 (ck_mx_r _ _))
      · have h2 := h1.1 h
        exact ck_rz_i (Int.le_trans (ck_mn_r _ _) h2.1) (Int.le_trans (by omega) (ck_mx_l _ _))
theorem ck_bop_some {b : Nat} (hb : b < 8) (x y : Int32) : ∃ z, pm_bop b x y = some z := by
  match b, hb with
  | 0, _ => exact ⟨_, rfl⟩
  | 1, _ => exact ⟨_, rfl⟩
  | 2, _ => exact ⟨_, rfl⟩
  | 3, _ => exact ⟨_, rfl⟩
  | 4, _ => exact ⟨_, rfl⟩
  | 5, _ => exact ⟨_, rfl⟩
  | 6, _ => exact ⟨_, rfl⟩
  | 7, _ => exact ⟨_, rfl⟩
  | b + 8, hb => omega
theorem ck_bo_ok {E : ck_E} {r : ck_R} {b : Nat} {x y : ck_F} {w : ck_W} {X Y : Int32} (hw : ck_bo E b x y = some w) (hE : ck_es E r) (hX : X.toInt = ck_ev r x) (hY : Y.toInt = ck_ev r y) : ∃ Z, pm_bop b X Y = some Z ∧ ck_rz r w Z.toInt := by
  unfold ck_bo at hw
  cases hp : ck_pl E x with
  | none => rw [hp] at hw; cases hw
  | some p =>
    rw [hp] at hw
    dsimp only at hw
    cases hq : ck_pl E y with
    | none => rw [hq] at hw; cases hw
    | some q =>
      rw [hq] at hw
      dsimp only at hw
      have h1 := ck_pl_ok hE hp
      have h2 := ck_pl_ok hE hq
      rw [← hX] at h1
      rw [← hY] at h2
      have gen : ∀ b : Nat, (bif (bif ck_z (p.1 - p.2) then ck_z (q.1 - q.2) else false) then (match pm_bop b (Int32.ofInt p.1) (Int32.ofInt q.1) with
          | none => none
          | some z => some (true, (z.toInt, []), .ofNat 0, .ofNat 0)) else (match b with
          | 2 => bif ck_z (q.1 - q.2) then some (ck_fi E (ck_fk q.1 x)) else (bif ck_z (p.1 - p.2) then some (ck_fi E (ck_fk p.1 y)) else some ck_top)
          | 8 => ck_bd2 8 p q
          | 9 => ck_bd2 9 p q
          | _ => bif Nat.blt b 8 then some (ck_bc b p q) else none)) = some w → ∃ Z, pm_bop b X Y = some Z ∧ ck_rz r w Z.toInt := by
        intro b hw
        cases hb : (bif ck_z (p.1 - p.2) then ck_z (q.1 - q.2) else false) with
        | true =>
          rw [hb] at hw
          dsimp only [cond_true] at hw
          obtain ⟨b1, b2⟩ := ck_and hb
          have g1 := ck_z_iff.mp b1
          have g2 := ck_z_iff.mp b2
          have e1 : X = Int32.ofInt p.1 := ck_of_int (by omega)
          have e2 : Y = Int32.ofInt q.1 := ck_of_int (by omega)
          rw [← e1, ← e2] at hw
          cases hz : pm_bop b X Y with
          | none => rw [hz] at hw; cases hw
          | some z =>
            rw [hz] at hw
            cases hw
            exact ⟨z, rfl, ck_rz_f (by rw [ck_ev_k])⟩
        | false =>
          rw [hb] at hw
          dsimp only [cond_false] at hw
          have small : ∀ b : Nat, (bif Nat.blt b 8 then some (ck_bc b p q) else none) = some w → ∃ Z, pm_bop b X Y = some Z ∧ ck_rz r w Z.toInt := by
            intro b hw
            cases hl : Nat.blt b 8 with
            | false => rw [hl] at hw; cases hw
            | true =>
              rw [hl] at hw
              cases hw
              have hl2 : b < 8 := by simp only [Nat.blt_eq] at hl; exact hl
              obtain ⟨z, hz⟩ := ck_bop_some hl2 X Y
              exact ⟨z, hz, ck_bc_ok h1 h2 hz⟩
          match b, hw with
          | 0, hw => exact small 0 hw
          | 1, hw => exact small 1 hw
          | 2, hw =>
            refine ⟨X * Y, rfl, ?_⟩
            cases b1 : ck_z (q.1 - q.2) with
            | true =>
              rw [b1] at hw
              cases hw
              have g1 := ck_z_iff.mp b1
              refine ck_fi_ok hE ?_
              rw [Int32.toInt_mul, ck_ev_fk, ← hX, show Y.toInt = q.1 by omega, Int.mul_comm]
            | false =>
              rw [b1] at hw
              dsimp only [cond_false] at hw
              cases b2 : ck_z (p.1 - p.2) with
              | true =>
                rw [b2] at hw
                cases hw
                have g1 := ck_z_iff.mp b2
                refine ck_fi_ok hE ?_
                rw [Int32.toInt_mul, ck_ev_fk, ← hY, show X.toInt = p.1 by omega]
              | false =>
                rw [b2] at hw
                cases hw
                exact ck_top_ok r _
          | 3, hw => exact small 3 hw
          | 4, hw => exact small 4 hw
          | 5, hw => exact small 5 hw
          | 6, hw => exact small 6 hw
          | 7, hw => exact small 7 hw
          | 8, hw => exact ck_bd8_ok h1 h2 hw
          | 9, hw => exact ck_bd9_ok h1 h2 hw
          | b + 10, hw => exact small (b + 10) hw
      match b, hw with
      | 0, hw =>
        cases hw
        exact ⟨X + Y, rfl, ck_fi_ok hE (by rw [Int32.toInt_add, ck_ev_fa, hX, hY])⟩
      | 1, hw =>
        cases hw
        exact ⟨X - Y, rfl, ck_fi_ok hE (by rw [Int32.toInt_sub, ck_ev_fs, hX, hY])⟩
      | b + 2, hw => exact gen (b + 2) hw
end
section
/-! The checker: locals, stacks, what is pushed. -/
abbrev ck_Lc : Type := List (Nat × ck_V)
abbrev ck_T : Type := ck_S × Nat × ck_Lc × List ck_V
def ck_vr (r : ck_R) (a : ck_V) (v : Value) : Prop := match a.1 with
  | 0 => ∃ x : Int32, v = .int x ∧ x.toInt = ck_ev r a.2
  | 1 => ∃ x : Int64, v = .long x ∧ x.toInt = ck_ev r a.2
  | 2 => ∃ q : Nat, v = .ref q ∧ (q : Int) = ck_ev r a.2
  | _ => False
def ck_ss (r : ck_R) : List ck_V → List Value → Prop
  | [], [] => True
  | a :: s, v :: t => ck_vr r a v ∧ ck_ss r s t
  | _, _ => False
def ck_ls (r : ck_R) (loc : ck_Lc) (lv : pm_Lv) : Prop := ∀ p ∈ loc, ∃ v, pm_lg lv p.1 = some v ∧ ck_vr r p.2 v
def ck_H (M : ck_O) (h0 : pm_Hp) (Φ : ck_R → Prop) (T : ck_T) (pc : Nat) (lv : pm_Lv) (st : List Value) (h : pm_Hp) : Prop := T.2.1 = pc ∧ ck_dec h ∧ ck_G T.1.1 (fun r => Φ r ∧ ck_sat M h0 T.1 h r ∧ ck_ls r T.2.2.1 lv ∧ ck_ss r T.2.2.2 st)
noncomputable def ck_lg (loc : ck_Lc) (i : Nat) : Option ck_V := List.rec (motive := fun _ => Option ck_V) none (fun p _ ih => bif Nat.beq p.1 i then some p.2 else ih) loc
theorem ck_lg_ok {r : ck_R} {lv : pm_Lv} {i : Nat} {a : ck_V} : ∀ {loc : ck_Lc}, ck_lg loc i = some a → ck_ls r loc lv → ∃ v, pm_lg lv i = some v ∧ ck_vr r a v
  | [], h, _ => by cases h
  | p :: t, h, hl => by
    have h0 : (bif Nat.beq p.1 i then some p.2 else ck_lg t i) = some a := h
    cases hb : Nat.beq p.1 i with
    | true =>
      rw [hb] at h0
      have e1 := Nat.eq_of_beq_eq_true hb
      have e2 : p.2 = a := Option.some.inj h0
      have h1 := hl p (List.mem_cons_self ..)
      rw [e1, e2] at h1
      exact h1
    | false =>
      rw [hb] at h0
      exact ck_lg_ok h0 (fun q hq => hl q (List.mem_cons_of_mem _ hq))
noncomputable def ck_lf (i : Nat) (two : Bool) (loc : ck_Lc) : ck_Lc := List.rec (motive := fun _ => ck_Lc) [] (fun p _ ih => bif Nat.beq p.1 i then ih else (bif (bif two then Nat.beq p.1 (i + 1) else false) then ih else (bif (bif Nat.beq (p.1 + 1) i then Nat.beq p.2.1 1 else false) then ih else p :: ih))) loc
theorem ck_beq_no {a b : Nat} (h : Nat.beq a b = false) : ¬ a = b := by
  intro e
  rw [e, Nat.beq_refl] at h
  cases h
theorem ck_lf_mem {i : Nat} {two : Bool} {p : Nat × ck_V} : ∀ {loc : ck_Lc}, p ∈ ck_lf i two loc → p ∈ loc ∧ ¬ p.1 = i ∧ (two = true → ¬ p.1 = i + 1) ∧ ¬ (p.1 + 1 = i ∧ p.2.1 = 1)
  | [], h => absurd h List.not_mem_nil
  | q :: t, h => by
    have h0 : p ∈ (bif Nat.beq q.1 i then ck_lf i two t else (bif (bif two then Nat.beq q.1 (i + 1) else false) then ck_lf i two t else (bif (bif Nat.beq (q.1 + 1) i then Nat.beq q.2.1 1 else false) then ck_lf i two t else q :: ck_lf i two t))) := h
    have rest : p ∈ ck_lf i two t → p ∈ q :: t ∧ ¬ p.1 = i ∧ (two = true → ¬ p.1 = i + 1) ∧ ¬ (p.1 + 1 = i ∧ p.2.1 = 1) := fun h1 => by
      have h2 := ck_lf_mem h1
      exact ⟨List.mem_cons_of_mem _ h2.1, h2.2⟩
    cases b1 : Nat.beq q.1 i with
    | true => rw [b1] at h0; exact rest h0
    | false =>
      rw [b1] at h0
      dsimp only [cond_false] at h0
      cases b2 : (bif two then Nat.beq q.1 (i + 1) else false) with
      | true => rw [b2] at h0; exact rest h0
      | false =>
        rw [b2] at h0
        dsimp only [cond_false] at h0
        cases b3 : (bif Nat.beq (q.1 + 1) i then Nat.beq q.2.1 1 else false) with
        | true => rw [b3] at h0; exact rest h0
        | false =>
          rw [b3] at h0
          rcases List.mem_cons.mp h0 with rfl | h1
          · refine ⟨List.mem_cons_self .., ck_beq_no b1, ?_, ?_⟩
            · intro e
              rw [e] at b2
              exact ck_beq_no b2
            · intro e
              rw [e.1, e.2, Nat.beq_refl] at b3
              cases b3
          · exact rest h1
theorem ck_find_filter {α : Type} {p f : α → Bool} {x : α} : ∀ {l : List α}, l.find? p = some x → f x = true → (l.filter f).find? p = some x
  | [], h, _ => by cases h
  | a :: t, h, hf => by
    rw [List.find?_cons] at h
    cases hp : p a with
    | true =>
      rw [hp] at h
      have e1 : a = x := Option.some.inj h
      subst e1
      rw [List.filter_cons_of_pos hf, List.find?_cons, hp]
    | false =>
      rw [hp] at h
      have ih := ck_find_filter (l := t) h hf
      cases ha : f a with
      | true => rw [List.filter_cons_of_pos ha, List.find?_cons, hp]; exact ih
      | false => rw [List.filter_cons_of_neg (by rw [ha]; exact Bool.false_ne_true)]; exact ih
theorem ck_lg_find {lv : pm_Lv} {j : Nat} {w : Value} (h : pm_lg lv j = some w) : lv.find? (fun q => q.1 == j) = some (j, w) := by
  unfold pm_lg at h
  cases hx : lv.find? (fun q => q.1 == j) with
  | none => rw [hx] at h; cases h
  | some x =>
    rw [hx] at h
    have e1 : x.2 = w := Option.some.inj h
    have e2 : x.1 = j := by simpa using List.find?_some hx
    rw [show x = (j, w) from Prod.ext e2 e1]
theorem ck_lg_hd (lv : pm_Lv) (i : Nat) (v : Value) : pm_lg ((i, v) :: lv) i = some v := by
  unfold pm_lg
  rw [List.find?_cons]
  simp
theorem ck_lg_tl {lv : pm_Lv} {i j : Nat} {v : Value} (h : ¬ j = i) : pm_lg ((i, v) :: lv) j = pm_lg lv j := by
  unfold pm_lg
  rw [List.find?_cons]
  have e1 : ((i, v).1 == j) = false := by
    simp only [beq_eq_false_iff_ne, ne_eq]
    intro e
    exact h e.symm
  rw [e1]
theorem ck_lg_l1 {lv : pm_Lv} {i j : Nat} {v w : Value} (h : pm_lg lv j = some w) (h1 : ¬ j = i) (h2 : ¬ (j + 1 = i ∧ w.category = 2)) : pm_lg (pm_l1 lv i v) j = some w := by
  unfold pm_l1
  rw [ck_lg_tl h1]
  unfold pm_lg
  rw [ck_find_filter (ck_lg_find h) (by
    simp only [Bool.and_eq_true, Bool.not_eq_true', beq_eq_false_iff_ne, ne_eq, Bool.and_eq_false_iff]
    refine ⟨h1, ?_⟩
    by_cases e : j + 1 = i
    · exact Or.inr (fun e2 => h2 ⟨e, e2⟩)
    · exact Or.inl e)]
  rfl
theorem ck_lg_l2 {lv : pm_Lv} {i j : Nat} {v w : Value} (h : pm_lg lv j = some w) (h1 : ¬ j = i) (h3 : ¬ j = i + 1) (h2 : ¬ (j + 1 = i ∧ w.category = 2)) : pm_lg (pm_l2 lv i v) j = some w := by
  unfold pm_l2
  rw [ck_lg_tl h1]
  unfold pm_lg
  rw [ck_find_filter (ck_lg_find h) (by
    simp only [Bool.and_eq_true, Bool.not_eq_true', beq_eq_false_iff_ne, ne_eq, Bool.and_eq_false_iff]
    refine ⟨h1, h3, ?_⟩
    by_cases e : j + 1 = i
    · exact Or.inr (fun e2 => h2 ⟨e, e2⟩)
    · exact Or.inl e)]
  rfl
theorem ck_vr_cat {r : ck_R} {a : ck_V} {v : Value} (h : ck_vr r a v) : v.category = (bif Nat.beq a.1 1 then 2 else 1) := by
  obtain ⟨t, f⟩ := a
  match t, h with
  | 0, h => obtain ⟨x, rfl, _⟩ := h; rfl
  | 1, h => obtain ⟨x, rfl, _⟩ := h; rfl
  | 2, h => obtain ⟨x, rfl, _⟩ := h; rfl
  | _ + 3, h => exact h.elim
theorem ck_vr_cat2 {r : ck_R} {a : ck_V} {v : Value} (h : ck_vr r a v) (h2 : v.category = 2) : a.1 = 1 := by
  have h1 := ck_vr_cat h
  cases hb : Nat.beq a.1 1 with
  | true => exact Nat.eq_of_beq_eq_true hb
  | false => rw [hb, h2] at h1; cases h1
theorem ck_ls_l1 {r : ck_R} {loc : ck_Lc} {lv : pm_Lv} {i : Nat} {a : ck_V} {v : Value} (hl : ck_ls r loc lv) (hv : ck_vr r a v) : ck_ls r ((i, a) :: ck_lf i false loc) (pm_l1 lv i v) := by
  intro p hp
  rcases List.mem_cons.mp hp with rfl | hp
  · exact ⟨v, ck_lg_hd _ i v, hv⟩
  · obtain ⟨h1, h2, _, h3⟩ := ck_lf_mem hp
    obtain ⟨w, h4, h5⟩ := hl p h1
    exact ⟨w, ck_lg_l1 h4 h2 (fun e => h3 ⟨e.1, ck_vr_cat2 h5 e.2⟩), h5⟩
theorem ck_ls_l2 {r : ck_R} {loc : ck_Lc} {lv : pm_Lv} {i : Nat} {a : ck_V} {v : Value} (hl : ck_ls r loc lv) (hv : ck_vr r a v) : ck_ls r ((i, a) :: ck_lf i true loc) (pm_l2 lv i v) := by
  intro p hp
  rcases List.mem_cons.mp hp with rfl | hp
  · exact ⟨v, ck_lg_hd _ i v, hv⟩
  · obtain ⟨h1, h2, h6, h3⟩ := ck_lf_mem hp
    obtain ⟨w, h4, h5⟩ := hl p h1
    exact ⟨w, ck_lg_l2 h4 h2 (h6 rfl) (fun e => h3 ⟨e.1, ck_vr_cat2 h5 e.2⟩), h5⟩
noncomputable def ck_cat (s : List ck_V) : Nat := List.rec (motive := fun _ => Nat) 0 (fun a _ ih => (bif Nat.beq a.1 1 then 2 else 1) + ih) s
theorem ck_cat_ok {r : ck_R} : ∀ {s : List ck_V} {st : List Value}, ck_ss r s st → pm_cat st = ck_cat s
  | [], [], _ => rfl
  | [], _ :: _, h => h.elim
  | _ :: _, [], h => h.elim
  | a :: s, v :: t, h => by
    have h1 := ck_cat_ok h.2
    show (v.category :: t.map fun v => v.category).sum = (bif Nat.beq a.1 1 then 2 else 1) + ck_cat s
    rw [List.sum_cons, ck_vr_cat h.1, ← h1]
    rfl
/-- pops -/
def ck_pI {α : Type} (s : List ck_V) (k : ck_F → List ck_V → Option α) : Option α := match s with
  | [] => none
  | a :: t => match a.1 with
    | 0 => k a.2 t
    | _ => none
def ck_pL {α : Type} (s : List ck_V) (k : ck_F → List ck_V → Option α) : Option α := match s with
  | [] => none
  | a :: t => match a.1 with
    | 1 => k a.2 t
    | _ => none
def ck_pR {α : Type} (s : List ck_V) (k : Nat → List ck_V → Option α) : Option α := match s with
  | [] => none
  | a :: t => match a.1 with
    | 2 => (match ck_cI a.2 with
      | none => none
      | some q => k q t)
    | _ => none
theorem ck_pI_ok {α : Type} {s : List ck_V} {k : ck_F → List ck_V → Option α} {y : α} {st : List Value} {r0 : ck_R} (h : ck_pI s k = some y) (h0 : ck_ss r0 s st) : ∃ f t x st', st = .int x :: st' ∧ k f t = some y ∧ ∀ r, ck_ss r s st → x.toInt = ck_ev r f ∧ ck_ss r t st' := by
  match s, st, h, h0 with
  | [], _, h, _ => cases h
  | a :: t, [], _, h0 => exact h0.elim
  | (0, f) :: t, v :: st', h, h0 =>
    obtain ⟨⟨x, rfl, _⟩, _⟩ := h0
    refine ⟨f, t, x, st', rfl, h, fun r hr => ?_⟩
    obtain ⟨⟨x', e1, e2⟩, h2⟩ := hr
    cases e1
    exact ⟨e2, h2⟩
  | (n + 1, f) :: t, v :: st', h, h0 => cases h
theorem ck_pL_ok {α : Type} {s : List ck_V} {k : ck_F → List ck_V → Option α} {y : α} {st : List Value} {r0 : ck_R} (h : ck_pL s k = some y) (h0 : ck_ss r0 s st) : ∃ f t x st', st = .long x :: st' ∧ k f t = some y ∧ ∀ r, ck_ss r s st → x.toInt = ck_ev r f ∧ ck_ss r t st' := by
  match s, st, h, h0 with
  | [], _, h, _ => cases h
  | a :: t, [], _, h0 => exact h0.elim
  | (0, f) :: t, v :: st', h, h0 => cases h
  | (1, f) :: t, v :: st', h, h0 =>
    obtain ⟨⟨x, rfl, _⟩, _⟩ := h0
    refine ⟨f, t, x, st', rfl, h, fun r hr => ?_⟩
    obtain ⟨⟨x', e1, e2⟩, h2⟩ := hr
    cases e1
    exact ⟨e2, h2⟩
  | (n + 2, f) :: t, v :: st', h, h0 => cases h
theorem ck_pR_ok {α : Type} {s : List ck_V} {k : Nat → List ck_V → Option α} {y : α} {st : List Value} {r0 : ck_R} (h : ck_pR s k = some y) (h0 : ck_ss r0 s st) : ∃ q t st', st = .ref q :: st' ∧ k q t = some y ∧ ∀ r, ck_ss r s st → ck_ss r t st' := by
  match s, st, h, h0 with
  | [], _, h, _ => cases h
  | a :: t, [], _, h0 => exact h0.elim
  | (0, f) :: t, v :: st', h, h0 => cases h
  | (1, f) :: t, v :: st', h, h0 => cases h
  | (2, f) :: t, v :: st', h, h0 =>
    obtain ⟨⟨q, rfl, hq⟩, _⟩ := h0
    have h1 : (match ck_cI f with
      | none => none
      | some q => k q t) = some y := h
    cases hc : ck_cI f with
    | none => rw [hc] at h1; cases h1
    | some q' =>
      rw [hc] at h1
      have e1 := ck_cI_ok hc r0
      have e2 : q' = q := by
        have hq' : (q : Int) = ck_ev r0 f := hq
        omega
      subst e2
      exact ⟨q', t, st', rfl, h1, fun r hr => hr.2⟩
  | (n + 3, f) :: t, v :: st', h, h0 => cases h
/-- a result is pushed: a form, or a new name -/
def ck_pu (S : ck_S) (w : ck_W) : ck_S × ck_F := bif w.1 then (S, w.2.1) else ((S.1 + 1, (S.1, w.2.2.1, w.2.2.2) :: S.2.1, S.2.2.1, S.2.2.2.1, S.2.2.2.2), (.ofNat 0, [(S.1, .ofNat 1)]))
theorem ck_pu_ok {M : ck_O} {h0 h : pm_Hp} {S : ck_S} {w : ck_W} {v : Int} {P : ck_R → Prop} (H : ck_G S.1 (fun r => P r ∧ ck_sat M h0 S h r)) (hw : ∀ r, P r → ck_sat M h0 S h r → ck_rz r w v) : ck_G (ck_pu S w).1.1 (fun r => P r ∧ ck_sat M h0 (ck_pu S w).1 h r ∧ v = ck_ev r (ck_pu S w).2) := by
  unfold ck_pu
  cases hb : w.1 with
  | true => exact ck_G_mono H (fun r hr => ⟨hr.1, hr.2, (hw r hr.1 hr.2).1 hb⟩)
  | false =>
    refine ck_G_new H v (fun r hr hv => ?_)
    have h1 := (hw r hr.1 hr.2).2 hb
    refine ⟨hr.1, ⟨ck_es_cons (by show w.2.2.1 ≤ r S.1 ∧ r S.1 ≤ w.2.2.2; rw [hv]; exact h1) hr.2.1, hr.2.2⟩, ?_⟩
    show v = ck_ev r (0, [(S.1, 1)])
    rw [ck_ev_v]
    exact hv.symm
/-- a test: none or one state -/
noncomputable def ck_tw (S : ck_S) (b : Nat) (d : ck_F) : List ck_S := match ck_ts b S.2.1 S.2.2.1 d with
  | none => []
  | some x => [(S.1, x.1, x.2, S.2.2.2.1, S.2.2.2.2)]
theorem ck_tw_ok {M : ck_O} {h0 h : pm_Hp} {S : ck_S} {b : Nat} {d : ck_F} {P : ck_R → Prop} (H : ck_G S.1 (fun r => P r ∧ ck_sat M h0 S h r)) (hw : ∀ r, P r → ck_tc b (ck_ev r d)) : ∃ S' ∈ ck_tw S b d, ck_G S'.1 (fun r => P r ∧ ck_sat M h0 S' h r) := by
  obtain ⟨r0, hr0⟩ := ck_G_ex H
  obtain ⟨x, e1, _⟩ := ck_ts_ok hr0.2.1 hr0.2.2.1 (hw r0 hr0.1)
  unfold ck_tw
  rw [e1]
  refine ⟨_, List.mem_cons_self .., ck_G_mono H (fun r hr => ?_)⟩
  obtain ⟨x', e2, h2, h3⟩ := ck_ts_ok hr.2.1 hr.2.2.1 (hw r hr.1)
  have e3 : x = x' := Option.some.inj (e1.symm.trans e2)
  subst e3
  exact ⟨hr.1, h2, h3, hr.2.2.2⟩
end
section
/-! The checker: what the tables of declared ranges hold. -/
def ck_sub (a b : Int) (v : Int × Int) : Bool := bif ck_le a v.1 then ck_le v.2 b else false
def ck_ck (k : Nat) (v : Int × Int) : Bool := match k with
  | 0 => ck_sub ck_lo ck_hi v
  | 1 => ck_sub ck_ll ck_lh v
  | 2 => ck_le 0 v.1
  | 4 => ck_sub 0 1 v
  | _ => false
def ck_c2 : List Nat → List (Int × Int) → Bool
  | [], [] => true
  | k :: ks, v :: vs => bif ck_ck k v then ck_c2 ks vs else false
  | _, _ => false
def ck_ca (g : Nat) (v : Int × Int) : Bool := match g with
  | 1 => ck_sub ck_lo ck_hi v
  | 2 => ck_sub (-128) 127 v
  | 3 => ck_sub 0 1 v
  | 4 => ck_sub ck_ll ck_lh v
  | _ => false
def ck_c3 (s : pm_Sh) (x : Nat × Nat × List (Int × Int)) : Bool := match s.1 with
  | 0 => Nat.beq x.1 0 && ck_c2 s.2.2 x.2.2
  | 5 => Nat.beq x.1 0 && (Nat.beq x.2.2.length s.2.1 && x.2.2.all (fun v => ck_le 0 v.1))
  | g => Nat.beq x.1 1 && (Nat.beq x.2.1 s.2.1 && (match x.2.2 with
    | [v] => ck_ca g v
    | _ => false))
def ck_c4 : List pm_Sh → List (Nat × Nat × List (Int × Int)) → Bool
  | _, [] => true
  | [], _ :: _ => false
  | s :: ss, x :: xs => bif ck_c3 s x then ck_c4 ss xs else false
theorem ck_D_ok : ck_c4 pm_S ck_D = true := by decide +kernel
theorem ck_c4_at : ∀ {ss : List pm_Sh} {xs : List (Nat × Nat × List (Int × Int))} {c : Nat} {x : Nat × Nat × List (Int × Int)}, ck_c4 ss xs = true → xs[c]? = some x → ∃ s, ss[c]? = some s ∧ ck_c3 s x = true
  | _, [], _, _, _, h => by simp at h
  | [], _ :: _, _, _, h, _ => by cases h
  | s :: ss, x :: xs, 0, y, h, hx => by
    have h0 : (bif ck_c3 s x then ck_c4 ss xs else false) = true := h
    have e1 : x = y := by simpa using hx
    subst e1
    exact ⟨s, by simp, (ck_and h0).1⟩
  | s :: ss, x :: xs, c + 1, y, h, hx => by
    have h0 : (bif ck_c3 s x then ck_c4 ss xs else false) = true := h
    obtain ⟨s', h1, h2⟩ := ck_c4_at (c := c) (ck_and h0).2 (by simpa using hx)
    exact ⟨s', by simpa using h1, h2⟩
theorem ck_c2_at : ∀ {ks : List Nat} {vs : List (Int × Int)} {j : Nat} {v : Int × Int}, ck_c2 ks vs = true → vs[j]? = some v → ∃ k, ks[j]? = some k ∧ ck_ck k v = true
  | [], [], _, _, _, h => by simp at h
  | [], _ :: _, _, _, h, _ => by cases h
  | _ :: _, [], _, _, h, _ => by cases h
  | k :: ks, v :: vs, 0, y, h, hx => by
    have h0 : (bif ck_ck k v then ck_c2 ks vs else false) = true := h
    have e1 : v = y := by simpa using hx
    subst e1
    exact ⟨k, by simp, (ck_and h0).1⟩
  | k :: ks, v :: vs, j + 1, y, h, hx => by
    have h0 : (bif ck_ck k v then ck_c2 ks vs else false) = true := h
    obtain ⟨s', h1, h2⟩ := ck_c2_at (j := j) (ck_and h0).2 (by simpa using hx)
    exact ⟨s', by simpa using h1, h2⟩
theorem ck_sub_ok {a b : Int} {v : Int × Int} (h : ck_sub a b v = true) : a ≤ v.1 ∧ v.2 ≤ b := ⟨ck_le_iff.mp (ck_and h).1, ck_le_iff.mp (ck_and h).2⟩
/-- what a declared range says of its cell's shape -/
theorem ck_dv_ok {c j : Nat} {v : Int × Int} (h : ck_dv c j = some v) : ∃ s, pm_S[c]? = some s ∧ ((s.1 = 0 ∧ ∃ k, s.2.2[j]? = some k ∧ ck_ck k v = true) ∨ (s.1 = 5 ∧ j < s.2.1 ∧ 0 ≤ v.1) ∨ (j < s.2.1 ∧ ck_ca s.1 v = true)) := by
  unfold ck_dv at h
  cases hx : ck_D[c]? with
  | none => rw [hx] at h; cases h
  | some x =>
    rw [hx] at h
    dsimp only at h
    obtain ⟨s, hs, h1⟩ := ck_c4_at ck_D_ok hx
    refine ⟨s, hs, ?_⟩
    obtain ⟨g, n, ks⟩ := s
    obtain ⟨t, m, vs⟩ := x
    unfold ck_c3 at h1
    dsimp only at h h1 ⊢
    split at h1
    · rw [Bool.and_eq_true] at h1
      have e1 := Nat.eq_of_beq_eq_true h1.1
      subst e1
      left
      exact ⟨rfl, ck_c2_at h1.2 h⟩
    · rw [Bool.and_eq_true, Bool.and_eq_true] at h1
      have e1 := Nat.eq_of_beq_eq_true h1.1
      have e2 := Nat.eq_of_beq_eq_true h1.2.1
      subst e1
      subst e2
      right
      left
      have h3 : vs[j]? = some v := h
      have h4 := List.all_eq_true.mp h1.2.2 v (List.mem_of_getElem? h3)
      refine ⟨rfl, ?_, ck_le_iff.mp h4⟩
      rcases Nat.lt_or_ge j vs.length with q | q
      · exact q
      · rw [List.getElem?_eq_none q] at h3
        cases h3
    · rw [Bool.and_eq_true, Bool.and_eq_true] at h1
      have e1 := Nat.eq_of_beq_eq_true h1.1
      have e2 := Nat.eq_of_beq_eq_true h1.2.1
      subst e1
      subst e2
      right
      right
      have h3 : (if j < m then vs[0]? else none) = some v := h
      by_cases hj : j < m
      · rw [if_pos hj] at h3
        refine ⟨hj, ?_⟩
        have h4 := h1.2.2
        match vs, h3, h4 with
        | [w], h3, h4 =>
          have e3 : w = v := by simpa using h3
          rw [← e3]
          exact h4
      · rw [if_neg hj] at h3
        cases h3
theorem ck_fk_S {q b a k : Nat} (h : pm_fk q b a = some k) : ∃ ks, pm_S[q]? = some (0, b, ks) ∧ ks[a]? = some k := by
  unfold pm_fk at h
  split at h
  · rename_i c ks hS
    split at h
    · rename_i e
      subst e
      exact ⟨ks, hS, h⟩
    · cases h
  · cases h
theorem ck_ak_S {q g n : Nat} (h : pm_ak q = some (g, n)) : ∃ l, pm_S[q]? = some (g, n, l) ∧ ¬ g = 0 := by
  unfold pm_ak at h
  split at h
  · rename_i g' n' l hS
    split at h
    · cases h
    · rename_i e
      cases h
      exact ⟨l, hS, e⟩
  · cases h
theorem ck_dv_f {q b a k : Nat} {v : Int × Int} (h : ck_dv q a = some v) (hk : pm_fk q b a = some k) : ck_ck k v = true := by
  obtain ⟨s, hs, h1⟩ := ck_dv_ok h
  obtain ⟨ks, h2, h3⟩ := ck_fk_S hk
  have e1 : s = (0, b, ks) := Option.some.inj (hs.symm.trans h2)
  subst e1
  rcases h1 with ⟨_, k', h4, h5⟩ | ⟨e, _⟩ | ⟨_, h4⟩
  · have e2 : k' = k := Option.some.inj (h4.symm.trans h3)
    rw [← e2]
    exact h5
  · cases e
  · cases h4
theorem ck_dv_a {q g n j : Nat} {v : Int × Int} (h : ck_dv q j = some v) (hk : pm_ak q = some (g, n)) : j < n ∧ ((g = 5 ∧ 0 ≤ v.1) ∨ ck_ca g v = true) := by
  obtain ⟨s, hs, h1⟩ := ck_dv_ok h
  obtain ⟨l, h2, h3⟩ := ck_ak_S hk
  have e1 : s = (g, n, l) := Option.some.inj (hs.symm.trans h2)
  subst e1
  rcases h1 with ⟨e, _⟩ | ⟨e, h4, h5⟩ | ⟨h4, h5⟩
  · exact absurd e h3
  · exact ⟨h4, Or.inl ⟨e, h5⟩⟩
  · exact ⟨h4, Or.inr h5⟩
/-- lookups that the kernel runs fast -/
noncomputable def ck_fk3 (q b a : Nat) : Option Nat := match ck_nth pm_S q with
  | none => none
  | some x => match x.1 with
    | 0 => bif Nat.beq x.2.1 b then ck_nth x.2.2 a else none
    | _ => none
theorem ck_fk3_ok {q b a k : Nat} (h : ck_fk3 q b a = some k) : pm_fk q b a = some k := by
  unfold ck_fk3 at h
  rw [ck_nth_ok] at h
  unfold pm_fk
  cases hx : pm_S[q]? with
  | none => rw [hx] at h; cases h
  | some x =>
    rw [hx] at h
    obtain ⟨g, c, ks⟩ := x
    match g, h with
    | 0, h =>
      dsimp only at h ⊢
      cases hb : Nat.beq c b with
      | false => rw [hb] at h; cases h
      | true =>
        rw [hb] at h
        show (if c = b then ks[a]? else none) = some k
        rw [if_pos (Nat.eq_of_beq_eq_true hb), ← ck_nth_ok]
        exact h
    | g + 1, h => cases h
noncomputable def ck_ak3 (q : Nat) : Option (Nat × Nat) := match ck_nth pm_S q with
  | none => none
  | some x => match x.1 with
    | 0 => none
    | g + 1 => some (g + 1, x.2.1)
theorem ck_ak3_ok {q : Nat} {g : Nat × Nat} (h : ck_ak3 q = some g) : pm_ak q = some g := by
  unfold ck_ak3 at h
  rw [ck_nth_ok] at h
  unfold pm_ak
  cases hx : pm_S[q]? with
  | none => rw [hx] at h; cases h
  | some x =>
    rw [hx] at h
    obtain ⟨g', c, ks⟩ := x
    match g', h with
    | 0, h => cases h
    | g' + 1, h =>
      cases h
      dsimp only
      rw [if_neg (by omega)]
noncomputable def ck_ins (k pc : Nat) : Option pm_Ins := match ck_nth pm_I k with
  | none => none
  | some l => List.rec (motive := fun _ => Option pm_Ins) none (fun q _ ih => bif Nat.beq q.1 pc then some q.2 else ih) l
theorem ck_ins_l {pc : Nat} {i : pm_Ins} : ∀ {l : List (Nat × pm_Ins)}, (List.rec (motive := fun _ => Option pm_Ins) none (fun q _ ih => bif Nat.beq q.1 pc then some q.2 else ih) l : Option pm_Ins) = some i → (l.find? (fun q => q.1 == pc)).map (fun q => q.2) = some i
  | [], h => by cases h
  | q :: t, h => by
    have h0 : (bif Nat.beq q.1 pc then some q.2 else (List.rec (motive := fun _ => Option pm_Ins) none (fun q _ ih => bif Nat.beq q.1 pc then some q.2 else ih) t : Option pm_Ins)) = some i := h
    rw [List.find?_cons]
    cases hb : Nat.beq q.1 pc with
    | true =>
      rw [hb] at h0
      have e1 : (q.1 == pc) = true := by rw [Nat.eq_of_beq_eq_true hb]; simp
      rw [e1]
      exact h0
    | false =>
      rw [hb] at h0
      have e1 : (q.1 == pc) = false := by simpa using ck_beq_no hb
      rw [e1]
      exact ck_ins_l h0
theorem ck_ins_ok {k pc : Nat} {i : pm_Ins} (h : ck_ins k pc = some i) : pm_ins k pc = some i := by
  unfold ck_ins at h
  rw [ck_nth_ok] at h
  unfold pm_ins
  cases hx : pm_I[k]? with
  | none => rw [hx] at h; cases h
  | some l =>
    rw [hx] at h
    exact ck_ins_l h
end
