-- ===== PART A: goes FIRST, ahead of the names: the tables' words, and 'selects' of the private methods out of them =====
/-- a private method of a class that the tables say can be made, by its rows of tables_1 -/
def lw_okq (q : MethodName × Nat) : Prop := (q.1.cls ≠ "java/lang/invoke/MethodHandle" ∧ q.1.cls ≠ "java/lang/invoke/VarHandle") ∧ Cond.instantiable q.1.cls q.2 ∈ tables_1 ∧ Cond.privateMethod q.1 ∈ tables_1 ∧ Cond.instanceMethod q.1 ∈ tables_1
theorem lw_p0 : lw_okq (⟨"ResumableCoder", "startAfresh", "()V"⟩, 15) := ⟨⟨by decide +kernel, by decide +kernel⟩, List.mem_of_getElem? (i := 21) (by decide +kernel), List.mem_of_getElem? (i := 208) (by decide +kernel), List.mem_of_getElem? (i := 209) (by decide +kernel)⟩
theorem lw_p1 : lw_okq (⟨"ResumableCoder", "makeMoves", "(Z)I"⟩, 15) := ⟨⟨by decide +kernel, by decide +kernel⟩, List.mem_of_getElem? (i := 21) (by decide +kernel), List.mem_of_getElem? (i := 257) (by decide +kernel), List.mem_of_getElem? (i := 258) (by decide +kernel)⟩
theorem lw_p2 : lw_okq (⟨"ResumableCoder", "look", "()V"⟩, 15) := ⟨⟨by decide +kernel, by decide +kernel⟩, List.mem_of_getElem? (i := 21) (by decide +kernel), List.mem_of_getElem? (i := 261) (by decide +kernel), List.mem_of_getElem? (i := 262) (by decide +kernel)⟩
theorem lw_p3 : lw_okq (⟨"ResumableCoder$Move", "set", "(II)V"⟩, 4) := ⟨⟨by decide +kernel, by decide +kernel⟩, List.mem_of_getElem? (i := 59) (by decide +kernel), List.mem_of_getElem? (i := 269) (by decide +kernel), List.mem_of_getElem? (i := 270) (by decide +kernel)⟩
theorem lw_p4 : lw_okq (⟨"ResumableCoder$Page", "leastByteOf", "(I)I"⟩, 1) := ⟨⟨by decide +kernel, by decide +kernel⟩, List.mem_of_getElem? (i := 29) (by decide +kernel), List.mem_of_getElem? (i := 283) (by decide +kernel), List.mem_of_getElem? (i := 284) (by decide +kernel)⟩
theorem lw_p5 : lw_okq (⟨"ResumableCoder$Utf16", "addBytes", "(ILResumableCoder$Move;)V"⟩, 5) := ⟨⟨by decide +kernel, by decide +kernel⟩, List.mem_of_getElem? (i := 93) (by decide +kernel), List.mem_of_getElem? (i := 331) (by decide +kernel), List.mem_of_getElem? (i := 332) (by decide +kernel)⟩
theorem lw_p6 : lw_okq (⟨"ResumableCoder$Utf7", "leaveShift", "(LResumableCoder$Move;)V"⟩, 2) := ⟨⟨by decide +kernel, by decide +kernel⟩, List.mem_of_getElem? (i := 115) (by decide +kernel), List.mem_of_getElem? (i := 440) (by decide +kernel), List.mem_of_getElem? (i := 441) (by decide +kernel)⟩
theorem lw_p7 : lw_okq (⟨"ResumableCoder$Utf7", "encodeShifted", "(ILResumableCoder$Move;)V"⟩, 2) := ⟨⟨by decide +kernel, by decide +kernel⟩, List.mem_of_getElem? (i := 115) (by decide +kernel), List.mem_of_getElem? (i := 465) (by decide +kernel), List.mem_of_getElem? (i := 466) (by decide +kernel)⟩
theorem lw_p8 : lw_okq (⟨"ResumableCoder$Utf8", "addEncoding", "(ILResumableCoder$Move;)V"⟩, 1) := ⟨⟨by decide +kernel, by decide +kernel⟩, List.mem_of_getElem? (i := 83) (by decide +kernel), List.mem_of_getElem? (i := 489) (by decide +kernel), List.mem_of_getElem? (i := 490) (by decide +kernel)⟩
theorem lw_p9 : lw_okq (⟨"ResumableCoder$Page", "characterOf", "(I)I"⟩, 1) := ⟨⟨by decide +kernel, by decide +kernel⟩, List.mem_of_getElem? (i := 29) (by decide +kernel), List.mem_of_getElem? (i := 511) (by decide +kernel), List.mem_of_getElem? (i := 512) (by decide +kernel)⟩
theorem lw_p10 : lw_okq (⟨"ResumableCoder$Utf16", "decodeCharacter", "(LResumableCoder$Units;LResumableCoder$Move;)V"⟩, 5) := ⟨⟨by decide +kernel, by decide +kernel⟩, List.mem_of_getElem? (i := 93) (by decide +kernel), List.mem_of_getElem? (i := 523) (by decide +kernel), List.mem_of_getElem? (i := 524) (by decide +kernel)⟩
theorem lw_p11 : lw_okq (⟨"ResumableCoder$Utf16", "characterAt", "(LResumableCoder$Units;I)I"⟩, 5) := ⟨⟨by decide +kernel, by decide +kernel⟩, List.mem_of_getElem? (i := 93) (by decide +kernel), List.mem_of_getElem? (i := 527) (by decide +kernel), List.mem_of_getElem? (i := 528) (by decide +kernel)⟩
theorem lw_p12 : lw_okq (⟨"ResumableCoder$Utf7", "decodePlain", "(ILResumableCoder$Move;)V"⟩, 2) := ⟨⟨by decide +kernel, by decide +kernel⟩, List.mem_of_getElem? (i := 115) (by decide +kernel), List.mem_of_getElem? (i := 537) (by decide +kernel), List.mem_of_getElem? (i := 538) (by decide +kernel)⟩
theorem lw_p13 : lw_okq (⟨"ResumableCoder$Utf7", "decodeSign", "(ILResumableCoder$Move;)V"⟩, 2) := ⟨⟨by decide +kernel, by decide +kernel⟩, List.mem_of_getElem? (i := 115) (by decide +kernel), List.mem_of_getElem? (i := 541) (by decide +kernel), List.mem_of_getElem? (i := 542) (by decide +kernel)⟩
theorem lw_p14 : lw_okq (⟨"ResumableCoder$Utf7", "decodeEnd", "(ILResumableCoder$Move;)V"⟩, 2) := ⟨⟨by decide +kernel, by decide +kernel⟩, List.mem_of_getElem? (i := 115) (by decide +kernel), List.mem_of_getElem? (i := 545) (by decide +kernel), List.mem_of_getElem? (i := 546) (by decide +kernel)⟩
theorem lw_p15 : lw_okq (⟨"ResumableCoder$Utf8", "lengthBehind", "(I)I"⟩, 1) := ⟨⟨by decide +kernel, by decide +kernel⟩, List.mem_of_getElem? (i := 83) (by decide +kernel), List.mem_of_getElem? (i := 556) (by decide +kernel), List.mem_of_getElem? (i := 557) (by decide +kernel)⟩
def lw_privs_1 : List (MethodName × Nat) := [(⟨"ResumableCoder", "startAfresh", "()V"⟩, 15), (⟨"ResumableCoder", "makeMoves", "(Z)I"⟩, 15), (⟨"ResumableCoder", "look", "()V"⟩, 15), (⟨"ResumableCoder$Move", "set", "(II)V"⟩, 4), (⟨"ResumableCoder$Page", "leastByteOf", "(I)I"⟩, 1), (⟨"ResumableCoder$Utf16", "addBytes", "(ILResumableCoder$Move;)V"⟩, 5), (⟨"ResumableCoder$Utf7", "leaveShift", "(LResumableCoder$Move;)V"⟩, 2), (⟨"ResumableCoder$Utf7", "encodeShifted", "(ILResumableCoder$Move;)V"⟩, 2), (⟨"ResumableCoder$Utf8", "addEncoding", "(ILResumableCoder$Move;)V"⟩, 1), (⟨"ResumableCoder$Page", "characterOf", "(I)I"⟩, 1), (⟨"ResumableCoder$Utf16", "decodeCharacter", "(LResumableCoder$Units;LResumableCoder$Move;)V"⟩, 5), (⟨"ResumableCoder$Utf16", "characterAt", "(LResumableCoder$Units;I)I"⟩, 5), (⟨"ResumableCoder$Utf7", "decodePlain", "(ILResumableCoder$Move;)V"⟩, 2), (⟨"ResumableCoder$Utf7", "decodeSign", "(ILResumableCoder$Move;)V"⟩, 2), (⟨"ResumableCoder$Utf7", "decodeEnd", "(ILResumableCoder$Move;)V"⟩, 2), (⟨"ResumableCoder$Utf8", "lengthBehind", "(I)I"⟩, 1)]
theorem lw_r1 : ∀ q ∈ lw_privs_1, lw_okq q := List.forall_mem_cons.mpr ⟨lw_p0, List.forall_mem_cons.mpr ⟨lw_p1, List.forall_mem_cons.mpr ⟨lw_p2, List.forall_mem_cons.mpr ⟨lw_p3, List.forall_mem_cons.mpr ⟨lw_p4, List.forall_mem_cons.mpr ⟨lw_p5, List.forall_mem_cons.mpr ⟨lw_p6, List.forall_mem_cons.mpr ⟨lw_p7, List.forall_mem_cons.mpr ⟨lw_p8, List.forall_mem_cons.mpr ⟨lw_p9, List.forall_mem_cons.mpr ⟨lw_p10, List.forall_mem_cons.mpr ⟨lw_p11, List.forall_mem_cons.mpr ⟨lw_p12, List.forall_mem_cons.mpr ⟨lw_p13, List.forall_mem_cons.mpr ⟨lw_p14, List.forall_mem_cons.mpr ⟨lw_p15, fun _ h => absurd h List.not_mem_nil⟩⟩⟩⟩⟩⟩⟩⟩⟩⟩⟩⟩⟩⟩⟩⟩
theorem lw_p16 : lw_okq (⟨"ResumableCoder$Utf8", "countFitting", "(LResumableCoder$Units;I)I"⟩, 1) := ⟨⟨by decide +kernel, by decide +kernel⟩, List.mem_of_getElem? (i := 83) (by decide +kernel), List.mem_of_getElem? (i := 560) (by decide +kernel), List.mem_of_getElem? (i := 561) (by decide +kernel)⟩
theorem lw_p17 : lw_okq (⟨"ResumableCoder$Utf8", "isNext", "(LResumableCoder$Units;I)Z"⟩, 1) := ⟨⟨by decide +kernel, by decide +kernel⟩, List.mem_of_getElem? (i := 83) (by decide +kernel), List.mem_of_getElem? (i := 566) (by decide +kernel), List.mem_of_getElem? (i := 567) (by decide +kernel)⟩
theorem lw_p18 : lw_okq (⟨"ResumableCoder$Utf8", "greatestSecond", "(I)I"⟩, 1) := ⟨⟨by decide +kernel, by decide +kernel⟩, List.mem_of_getElem? (i := 83) (by decide +kernel), List.mem_of_getElem? (i := 573) (by decide +kernel), List.mem_of_getElem? (i := 574) (by decide +kernel)⟩
theorem lw_p19 : lw_okq (⟨"ResumableCoder", "makeStep", "()I"⟩, 15) := ⟨⟨by decide +kernel, by decide +kernel⟩, List.mem_of_getElem? (i := 21) (by decide +kernel), List.mem_of_getElem? (i := 588) (by decide +kernel), List.mem_of_getElem? (i := 589) (by decide +kernel)⟩
theorem lw_p20 : lw_okq (⟨"ResumableCoder", "fits", "()Z"⟩, 15) := ⟨⟨by decide +kernel, by decide +kernel⟩, List.mem_of_getElem? (i := 21) (by decide +kernel), List.mem_of_getElem? (i := 592) (by decide +kernel), List.mem_of_getElem? (i := 593) (by decide +kernel)⟩
theorem lw_p21 : lw_okq (⟨"ResumableCoder", "takeUnits", "(I)V"⟩, 15) := ⟨⟨by decide +kernel, by decide +kernel⟩, List.mem_of_getElem? (i := 21) (by decide +kernel), List.mem_of_getElem? (i := 596) (by decide +kernel), List.mem_of_getElem? (i := 597) (by decide +kernel)⟩
theorem lw_p22 : lw_okq (⟨"ResumableCoder", "putUnits", "()V"⟩, 15) := ⟨⟨by decide +kernel, by decide +kernel⟩, List.mem_of_getElem? (i := 21) (by decide +kernel), List.mem_of_getElem? (i := 609) (by decide +kernel), List.mem_of_getElem? (i := 610) (by decide +kernel)⟩
theorem lw_p23 : lw_okq (⟨"ResumableCoder", "meetFault", "()I"⟩, 15) := ⟨⟨by decide +kernel, by decide +kernel⟩, List.mem_of_getElem? (i := 21) (by decide +kernel), List.mem_of_getElem? (i := 629) (by decide +kernel), List.mem_of_getElem? (i := 630) (by decide +kernel)⟩
theorem lw_p24 : lw_okq (⟨"ResumableCoder", "addReplacement", "()V"⟩, 15) := ⟨⟨by decide +kernel, by decide +kernel⟩, List.mem_of_getElem? (i := 21) (by decide +kernel), List.mem_of_getElem? (i := 633) (by decide +kernel), List.mem_of_getElem? (i := 634) (by decide +kernel)⟩
theorem lw_p25 : lw_okq (⟨"ResumableCoder", "passOver", "(I)V"⟩, 15) := ⟨⟨by decide +kernel, by decide +kernel⟩, List.mem_of_getElem? (i := 21) (by decide +kernel), List.mem_of_getElem? (i := 650) (by decide +kernel), List.mem_of_getElem? (i := 651) (by decide +kernel)⟩
theorem lw_p26 : lw_okq (⟨"ResumableCoderModel", "renew", "()V"⟩, 32) := ⟨⟨by decide +kernel, by decide +kernel⟩, List.mem_of_getElem? (i := 718) (by decide +kernel), List.mem_of_getElem? (i := 825) (by decide +kernel), List.mem_of_getElem? (i := 826) (by decide +kernel)⟩
theorem lw_p27 : lw_okq (⟨"ResumableCoderModel", "passOver", "(IZ)V"⟩, 32) := ⟨⟨by decide +kernel, by decide +kernel⟩, List.mem_of_getElem? (i := 718) (by decide +kernel), List.mem_of_getElem? (i := 878) (by decide +kernel), List.mem_of_getElem? (i := 879) (by decide +kernel)⟩
theorem lw_p28 : lw_okq (⟨"ResumableCoderModel", "take", "(I)V"⟩, 32) := ⟨⟨by decide +kernel, by decide +kernel⟩, List.mem_of_getElem? (i := 718) (by decide +kernel), List.mem_of_getElem? (i := 882) (by decide +kernel), List.mem_of_getElem? (i := 883) (by decide +kernel)⟩
theorem lw_p29 : lw_okq (⟨"ResumableCoderModel", "look", "()I"⟩, 32) := ⟨⟨by decide +kernel, by decide +kernel⟩, List.mem_of_getElem? (i := 718) (by decide +kernel), List.mem_of_getElem? (i := 890) (by decide +kernel), List.mem_of_getElem? (i := 891) (by decide +kernel)⟩
theorem lw_p30 : lw_okq (⟨"ResumableCoderModel", "encodeEight", "()I"⟩, 32) := ⟨⟨by decide +kernel, by decide +kernel⟩, List.mem_of_getElem? (i := 718) (by decide +kernel), List.mem_of_getElem? (i := 894) (by decide +kernel), List.mem_of_getElem? (i := 895) (by decide +kernel)⟩
theorem lw_p31 : lw_okq (⟨"ResumableCoderModel", "putEight", "(I)V"⟩, 32) := ⟨⟨by decide +kernel, by decide +kernel⟩, List.mem_of_getElem? (i := 718) (by decide +kernel), List.mem_of_getElem? (i := 908) (by decide +kernel), List.mem_of_getElem? (i := 909) (by decide +kernel)⟩
def lw_privs_2 : List (MethodName × Nat) := [(⟨"ResumableCoder$Utf8", "countFitting", "(LResumableCoder$Units;I)I"⟩, 1), (⟨"ResumableCoder$Utf8", "isNext", "(LResumableCoder$Units;I)Z"⟩, 1), (⟨"ResumableCoder$Utf8", "greatestSecond", "(I)I"⟩, 1), (⟨"ResumableCoder", "makeStep", "()I"⟩, 15), (⟨"ResumableCoder", "fits", "()Z"⟩, 15), (⟨"ResumableCoder", "takeUnits", "(I)V"⟩, 15), (⟨"ResumableCoder", "putUnits", "()V"⟩, 15), (⟨"ResumableCoder", "meetFault", "()I"⟩, 15), (⟨"ResumableCoder", "addReplacement", "()V"⟩, 15), (⟨"ResumableCoder", "passOver", "(I)V"⟩, 15), (⟨"ResumableCoderModel", "renew", "()V"⟩, 32), (⟨"ResumableCoderModel", "passOver", "(IZ)V"⟩, 32), (⟨"ResumableCoderModel", "take", "(I)V"⟩, 32), (⟨"ResumableCoderModel", "look", "()I"⟩, 32), (⟨"ResumableCoderModel", "encodeEight", "()I"⟩, 32), (⟨"ResumableCoderModel", "putEight", "(I)V"⟩, 32)]
theorem lw_r2 : ∀ q ∈ lw_privs_2, lw_okq q := List.forall_mem_cons.mpr ⟨lw_p16, List.forall_mem_cons.mpr ⟨lw_p17, List.forall_mem_cons.mpr ⟨lw_p18, List.forall_mem_cons.mpr ⟨lw_p19, List.forall_mem_cons.mpr ⟨lw_p20, List.forall_mem_cons.mpr ⟨lw_p21, List.forall_mem_cons.mpr ⟨lw_p22, List.forall_mem_cons.mpr ⟨lw_p23, List.forall_mem_cons.mpr ⟨lw_p24, List.forall_mem_cons.mpr ⟨lw_p25, List.forall_mem_cons.mpr ⟨lw_p26, List.forall_mem_cons.mpr ⟨lw_p27, List.forall_mem_cons.mpr ⟨lw_p28, List.forall_mem_cons.mpr ⟨lw_p29, List.forall_mem_cons.mpr ⟨lw_p30, List.forall_mem_cons.mpr ⟨lw_p31, fun _ h => absurd h List.not_mem_nil⟩⟩⟩⟩⟩⟩⟩⟩⟩⟩⟩⟩⟩⟩⟩⟩
theorem lw_p32 : lw_okq (⟨"ResumableCoderModel", "result", "(I)V"⟩, 32) := ⟨⟨by decide +kernel, by decide +kernel⟩, List.mem_of_getElem? (i := 718) (by decide +kernel), List.mem_of_getElem? (i := 913) (by decide +kernel), List.mem_of_getElem? (i := 914) (by decide +kernel)⟩
theorem lw_p33 : lw_okq (⟨"ResumableCoderModel", "step", "(I)I"⟩, 32) := ⟨⟨by decide +kernel, by decide +kernel⟩, List.mem_of_getElem? (i := 718) (by decide +kernel), List.mem_of_getElem? (i := 917) (by decide +kernel), List.mem_of_getElem? (i := 918) (by decide +kernel)⟩
theorem lw_p34 : lw_okq (⟨"ResumableCoderModel", "fault", "(II)I"⟩, 32) := ⟨⟨by decide +kernel, by decide +kernel⟩, List.mem_of_getElem? (i := 718) (by decide +kernel), List.mem_of_getElem? (i := 921) (by decide +kernel), List.mem_of_getElem? (i := 922) (by decide +kernel)⟩
theorem lw_p35 : lw_okq (⟨"ResumableCoderModel", "decodeEight", "()I"⟩, 32) := ⟨⟨by decide +kernel, by decide +kernel⟩, List.mem_of_getElem? (i := 718) (by decide +kernel), List.mem_of_getElem? (i := 925) (by decide +kernel), List.mem_of_getElem? (i := 926) (by decide +kernel)⟩
theorem lw_p36 : lw_okq (⟨"ResumableCoderModel", "begins", "(I)Z"⟩, 32) := ⟨⟨by decide +kernel, by decide +kernel⟩, List.mem_of_getElem? (i := 718) (by decide +kernel), List.mem_of_getElem? (i := 932) (by decide +kernel), List.mem_of_getElem? (i := 933) (by decide +kernel)⟩
theorem lw_p37 : lw_okq (⟨"ResumableCoderModel", "least", "(II)I"⟩, 32) := ⟨⟨by decide +kernel, by decide +kernel⟩, List.mem_of_getElem? (i := 718) (by decide +kernel), List.mem_of_getElem? (i := 936) (by decide +kernel), List.mem_of_getElem? (i := 937) (by decide +kernel)⟩
theorem lw_p38 : lw_okq (⟨"ResumableCoderModel", "some", "(III)Z"⟩, 32) := ⟨⟨by decide +kernel, by decide +kernel⟩, List.mem_of_getElem? (i := 718) (by decide +kernel), List.mem_of_getElem? (i := 940) (by decide +kernel), List.mem_of_getElem? (i := 941) (by decide +kernel)⟩
theorem lw_p39 : lw_okq (⟨"ResumableCoderModel", "encodeSixteen", "()I"⟩, 32) := ⟨⟨by decide +kernel, by decide +kernel⟩, List.mem_of_getElem? (i := 718) (by decide +kernel), List.mem_of_getElem? (i := 945) (by decide +kernel), List.mem_of_getElem? (i := 946) (by decide +kernel)⟩
theorem lw_p40 : lw_okq (⟨"ResumableCoderModel", "putSixteen", "(IZ)V"⟩, 32) := ⟨⟨by decide +kernel, by decide +kernel⟩, List.mem_of_getElem? (i := 718) (by decide +kernel), List.mem_of_getElem? (i := 949) (by decide +kernel), List.mem_of_getElem? (i := 950) (by decide +kernel)⟩
theorem lw_p41 : lw_okq (⟨"ResumableCoderModel", "decodeSixteen", "()I"⟩, 32) := ⟨⟨by decide +kernel, by decide +kernel⟩, List.mem_of_getElem? (i := 718) (by decide +kernel), List.mem_of_getElem? (i := 953) (by decide +kernel), List.mem_of_getElem? (i := 954) (by decide +kernel)⟩
theorem lw_p42 : lw_okq (⟨"ResumableCoderModel", "character", "(I)I"⟩, 32) := ⟨⟨by decide +kernel, by decide +kernel⟩, List.mem_of_getElem? (i := 718) (by decide +kernel), List.mem_of_getElem? (i := 957) (by decide +kernel), List.mem_of_getElem? (i := 958) (by decide +kernel)⟩
theorem lw_p43 : lw_okq (⟨"ResumableCoderModel", "encodeSeven", "()I"⟩, 32) := ⟨⟨by decide +kernel, by decide +kernel⟩, List.mem_of_getElem? (i := 718) (by decide +kernel), List.mem_of_getElem? (i := 961) (by decide +kernel), List.mem_of_getElem? (i := 962) (by decide +kernel)⟩
theorem lw_p44 : lw_okq (⟨"ResumableCoderModel", "unshift", "()V"⟩, 32) := ⟨⟨by decide +kernel, by decide +kernel⟩, List.mem_of_getElem? (i := 718) (by decide +kernel), List.mem_of_getElem? (i := 968) (by decide +kernel), List.mem_of_getElem? (i := 969) (by decide +kernel)⟩
theorem lw_p45 : lw_okq (⟨"ResumableCoderModel", "decodeSeven", "()I"⟩, 32) := ⟨⟨by decide +kernel, by decide +kernel⟩, List.mem_of_getElem? (i := 718) (by decide +kernel), List.mem_of_getElem? (i := 975) (by decide +kernel), List.mem_of_getElem? (i := 976) (by decide +kernel)⟩
theorem lw_p46 : lw_okq (⟨"ResumableCoderModel", "encodePage", "()I"⟩, 32) := ⟨⟨by decide +kernel, by decide +kernel⟩, List.mem_of_getElem? (i := 718) (by decide +kernel), List.mem_of_getElem? (i := 982) (by decide +kernel), List.mem_of_getElem? (i := 983) (by decide +kernel)⟩
theorem lw_p47 : lw_okq (⟨"ResumableCoderModel", "decodePage", "()I"⟩, 32) := ⟨⟨by decide +kernel, by decide +kernel⟩, List.mem_of_getElem? (i := 718) (by decide +kernel), List.mem_of_getElem? (i := 986) (by decide +kernel), List.mem_of_getElem? (i := 987) (by decide +kernel)⟩
def lw_privs_3 : List (MethodName × Nat) := [(⟨"ResumableCoderModel", "result", "(I)V"⟩, 32), (⟨"ResumableCoderModel", "step", "(I)I"⟩, 32), (⟨"ResumableCoderModel", "fault", "(II)I"⟩, 32), (⟨"ResumableCoderModel", "decodeEight", "()I"⟩, 32), (⟨"ResumableCoderModel", "begins", "(I)Z"⟩, 32), (⟨"ResumableCoderModel", "least", "(II)I"⟩, 32), (⟨"ResumableCoderModel", "some", "(III)Z"⟩, 32), (⟨"ResumableCoderModel", "encodeSixteen", "()I"⟩, 32), (⟨"ResumableCoderModel", "putSixteen", "(IZ)V"⟩, 32), (⟨"ResumableCoderModel", "decodeSixteen", "()I"⟩, 32), (⟨"ResumableCoderModel", "character", "(I)I"⟩, 32), (⟨"ResumableCoderModel", "encodeSeven", "()I"⟩, 32), (⟨"ResumableCoderModel", "unshift", "()V"⟩, 32), (⟨"ResumableCoderModel", "decodeSeven", "()I"⟩, 32), (⟨"ResumableCoderModel", "encodePage", "()I"⟩, 32), (⟨"ResumableCoderModel", "decodePage", "()I"⟩, 32)]
theorem lw_r3 : ∀ q ∈ lw_privs_3, lw_okq q := List.forall_mem_cons.mpr ⟨lw_p32, List.forall_mem_cons.mpr ⟨lw_p33, List.forall_mem_cons.mpr ⟨lw_p34, List.forall_mem_cons.mpr ⟨lw_p35, List.forall_mem_cons.mpr ⟨lw_p36, List.forall_mem_cons.mpr ⟨lw_p37, List.forall_mem_cons.mpr ⟨lw_p38, List.forall_mem_cons.mpr ⟨lw_p39, List.forall_mem_cons.mpr ⟨lw_p40, List.forall_mem_cons.mpr ⟨lw_p41, List.forall_mem_cons.mpr ⟨lw_p42, List.forall_mem_cons.mpr ⟨lw_p43, List.forall_mem_cons.mpr ⟨lw_p44, List.forall_mem_cons.mpr ⟨lw_p45, List.forall_mem_cons.mpr ⟨lw_p46, List.forall_mem_cons.mpr ⟨lw_p47, fun _ h => absurd h List.not_mem_nil⟩⟩⟩⟩⟩⟩⟩⟩⟩⟩⟩⟩⟩⟩⟩⟩
theorem lw_p48 : lw_okq (⟨"ResumableCoderModel", "fits", "(I)Z"⟩, 32) := ⟨⟨by decide +kernel, by decide +kernel⟩, List.mem_of_getElem? (i := 718) (by decide +kernel), List.mem_of_getElem? (i := 990) (by decide +kernel), List.mem_of_getElem? (i := 991) (by decide +kernel)⟩
theorem lw_p49 : lw_okq (⟨"ResumableCoderModel", "putOut", "()V"⟩, 32) := ⟨⟨by decide +kernel, by decide +kernel⟩, List.mem_of_getElem? (i := 718) (by decide +kernel), List.mem_of_getElem? (i := 994) (by decide +kernel), List.mem_of_getElem? (i := 995) (by decide +kernel)⟩
theorem lw_p50 : lw_okq (⟨"ResumableCoderModel", "become", "()V"⟩, 32) := ⟨⟨by decide +kernel, by decide +kernel⟩, List.mem_of_getElem? (i := 718) (by decide +kernel), List.mem_of_getElem? (i := 998) (by decide +kernel), List.mem_of_getElem? (i := 999) (by decide +kernel)⟩
theorem lw_p51 : lw_okq (⟨"ResumableCoderModel", "meet", "(Z)I"⟩, 32) := ⟨⟨by decide +kernel, by decide +kernel⟩, List.mem_of_getElem? (i := 718) (by decide +kernel), List.mem_of_getElem? (i := 1002) (by decide +kernel), List.mem_of_getElem? (i := 1003) (by decide +kernel)⟩
theorem lw_p52 : lw_okq (⟨"ResumableCoderModel", "replacement", "()V"⟩, 32) := ⟨⟨by decide +kernel, by decide +kernel⟩, List.mem_of_getElem? (i := 718) (by decide +kernel), List.mem_of_getElem? (i := 1006) (by decide +kernel), List.mem_of_getElem? (i := 1007) (by decide +kernel)⟩
def lw_privs_4 : List (MethodName × Nat) := [(⟨"ResumableCoderModel", "fits", "(I)Z"⟩, 32), (⟨"ResumableCoderModel", "putOut", "()V"⟩, 32), (⟨"ResumableCoderModel", "become", "()V"⟩, 32), (⟨"ResumableCoderModel", "meet", "(Z)I"⟩, 32), (⟨"ResumableCoderModel", "replacement", "()V"⟩, 32)]
theorem lw_r4 : ∀ q ∈ lw_privs_4, lw_okq q := List.forall_mem_cons.mpr ⟨lw_p48, List.forall_mem_cons.mpr ⟨lw_p49, List.forall_mem_cons.mpr ⟨lw_p50, List.forall_mem_cons.mpr ⟨lw_p51, List.forall_mem_cons.mpr ⟨lw_p52, fun _ h => absurd h List.not_mem_nil⟩⟩⟩⟩⟩
def lw_privs : List (MethodName × Nat) := lw_privs_1 ++ (lw_privs_2 ++ (lw_privs_3 ++ (lw_privs_4)))
def lw_tbl : List Cond := k2_sels lw_privs ++ tables_1
theorem lw_privs_ok : ∀ q ∈ lw_privs, lw_okq q := by
  show ∀ q ∈ lw_privs_1 ++ (lw_privs_2 ++ (lw_privs_3 ++ (lw_privs_4))), lw_okq q
  exact List.forall_mem_append.mpr ⟨lw_r1, List.forall_mem_append.mpr ⟨lw_r2, List.forall_mem_append.mpr ⟨lw_r3, lw_r4⟩⟩⟩
def RX0 : String := "ResumableCoder$Form"
def TX0 : u_T := fun k => match k with
  | _ => ("", "", "", false)
def tyX0 : Nat → FieldType := fun k => match k with
  | _ => .int
theorem nmX0 : ∀ a, a < 0 → ∀ b, b < 0 → a ≠ b → (TX0 a).2.1 ≠ (TX0 b).2.1 := by decide +kernel
theorem tyX0_ok : ∀ k, k < 0 → parseFieldDescriptor (TX0 k).2.2.1 = some (tyX0 k) := by decide +kernel
abbrev cX0_init : ByteArray := prog_2_method_1_code
def yX0_init : MethodName := ⟨RX0, "<init>", "()V"⟩
abbrev cX0_begin : ByteArray := prog_2_method_4_code
def yX0_begin : MethodName := ⟨RX0, "begin", "()V"⟩
abbrev cX0_stepMade : ByteArray := prog_2_method_5_code
def yX0_stepMade : MethodName := ⟨RX0, "stepMade", "()V"⟩
abbrev cX0_passedOver : ByteArray := prog_2_method_6_code
def yX0_passedOver : MethodName := ⟨RX0, "passedOver", "()V"⟩
abbrev cX0_finish : ByteArray := prog_2_method_7_code
def yX0_finish : MethodName := ⟨RX0, "finish", "(LResumableCoder$Move;)Z"⟩
abbrev cX0_addReplacement : ByteArray := prog_2_method_8_code
def yX0_addReplacement : MethodName := ⟨RX0, "addReplacement", "(LResumableCoder$Move;)V"⟩
def RX1 : String := "ResumableCoder$Move"
def TX1 : u_T := fun k => match k with
  | 0 => ("ResumableCoder$Move", "units", "[I", true)
  | 1 => ("ResumableCoder$Move", "kind", "I", false)
  | 2 => ("ResumableCoder$Move", "takes", "I", false)
  | _ => ("ResumableCoder$Move", "puts", "I", false)
def tyX1 : Nat → FieldType := fun k => match k with
  | 0 => .array .int
  | 1 => .int
  | 2 => .int
  | _ => .int
theorem nmX1 : ∀ a, a < 4 → ∀ b, b < 4 → a ≠ b → (TX1 a).2.1 ≠ (TX1 b).2.1 := by decide +kernel
theorem tyX1_ok : ∀ k, k < 4 → parseFieldDescriptor (TX1 k).2.2.1 = some (tyX1 k) := by decide +kernel
abbrev cX1_init : ByteArray := prog_3_method_1_code
def yX1_init : MethodName := ⟨RX1, "<init>", "()V"⟩
abbrev cX1_setNeed : ByteArray := prog_3_method_2_code
def yX1_setNeed : MethodName := ⟨RX1, "setNeed", "()V"⟩
abbrev cX1_setStep : ByteArray := prog_3_method_3_code
def yX1_setStep : MethodName := ⟨RX1, "setStep", "(I)V"⟩
abbrev cX1_setBad : ByteArray := prog_3_method_4_code
def yX1_setBad : MethodName := ⟨RX1, "setBad", "(I)V"⟩
abbrev cX1_setUnknown : ByteArray := prog_3_method_5_code
def yX1_setUnknown : MethodName := ⟨RX1, "setUnknown", "(I)V"⟩
abbrev cX1_add : ByteArray := prog_3_method_6_code
def yX1_add : MethodName := ⟨RX1, "add", "(I)V"⟩
abbrev cX1_unitAt : ByteArray := prog_3_method_7_code
def yX1_unitAt : MethodName := ⟨RX1, "unitAt", "(I)I"⟩
abbrev cX1_set : ByteArray := prog_3_method_8_code
def yX1_set : MethodName := ⟨RX1, "set", "(II)V"⟩
def RX2 : String := "ResumableCoder$Page"
def TX2 : u_T := fun k => match k with
  | _ => ("ResumableCoder$Page", "characters", "[I", true)
def tyX2 : Nat → FieldType := fun k => match k with
  | _ => .array .int
theorem nmX2 : ∀ a, a < 1 → ∀ b, b < 1 → a ≠ b → (TX2 a).2.1 ≠ (TX2 b).2.1 := by decide +kernel
theorem tyX2_ok : ∀ k, k < 1 → parseFieldDescriptor (TX2 k).2.2.1 = some (tyX2 k) := by decide +kernel
abbrev cX2_init : ByteArray := prog_4_method_1_code
def yX2_init : MethodName := ⟨RX2, "<init>", "()V"⟩
abbrev cX2_assign : ByteArray := prog_4_method_2_code
def yX2_assign : MethodName := ⟨RX2, "assign", "(II)V"⟩
abbrev cX2_encode : ByteArray := prog_4_method_3_code
def yX2_encode : MethodName := ⟨RX2, "encode", "(LResumableCoder$Units;LResumableCoder$Move;)V"⟩
abbrev cX2_decode : ByteArray := prog_4_method_4_code
def yX2_decode : MethodName := ⟨RX2, "decode", "(LResumableCoder$Units;LResumableCoder$Move;)V"⟩
abbrev cX2_characterOf : ByteArray := prog_4_method_5_code
def yX2_characterOf : MethodName := ⟨RX2, "characterOf", "(I)I"⟩
abbrev cX2_leastByteOf : ByteArray := prog_4_method_6_code
def yX2_leastByteOf : MethodName := ⟨RX2, "leastByteOf", "(I)I"⟩
def RX3 : String := "ResumableCoder$Shift"
def TX3 : u_T := fun k => match k with
  | 0 => ("ResumableCoder$Shift", "shifted", "Z", false)
  | 1 => ("ResumableCoder$Shift", "justBegun", "Z", false)
  | 2 => ("ResumableCoder$Shift", "bits", "I", false)
  | _ => ("ResumableCoder$Shift", "kept", "I", false)
def tyX3 : Nat → FieldType := fun k => match k with
  | 0 => .boolean
  | 1 => .boolean
  | 2 => .int
  | _ => .int
theorem nmX3 : ∀ a, a < 4 → ∀ b, b < 4 → a ≠ b → (TX3 a).2.1 ≠ (TX3 b).2.1 := by decide +kernel
theorem tyX3_ok : ∀ k, k < 4 → parseFieldDescriptor (TX3 k).2.2.1 = some (tyX3 k) := by decide +kernel
abbrev cX3_init : ByteArray := prog_5_method_1_code
def yX3_init : MethodName := ⟨RX3, "<init>", "()V"⟩
abbrev cX3_becomePlain : ByteArray := prog_5_method_2_code
def yX3_becomePlain : MethodName := ⟨RX3, "becomePlain", "()V"⟩
abbrev cX3_becomeShifted : ByteArray := prog_5_method_3_code
def yX3_becomeShifted : MethodName := ⟨RX3, "becomeShifted", "()V"⟩
abbrev cX3_copy : ByteArray := prog_5_method_4_code
def yX3_copy : MethodName := ⟨RX3, "copy", "(LResumableCoder$Shift;)V"⟩
abbrev cX3_keep : ByteArray := prog_5_method_5_code
def yX3_keep : MethodName := ⟨RX3, "keep", "(II)V"⟩
abbrev cX3_removeFirst : ByteArray := prog_5_method_6_code
def yX3_removeFirst : MethodName := ⟨RX3, "removeFirst", "(I)I"⟩
abbrev cX3_holdsRemains : ByteArray := prog_5_method_7_code
def yX3_holdsRemains : MethodName := ⟨RX3, "holdsRemains", "()Z"⟩
def RX4 : String := "ResumableCoder$Surrogates"
def TX4 : u_T := fun k => match k with
  | _ => ("", "", "", false)
def tyX4 : Nat → FieldType := fun k => match k with
  | _ => .int
theorem nmX4 : ∀ a, a < 0 → ∀ b, b < 0 → a ≠ b → (TX4 a).2.1 ≠ (TX4 b).2.1 := by decide +kernel
theorem tyX4_ok : ∀ k, k < 0 → parseFieldDescriptor (TX4 k).2.2.1 = some (tyX4 k) := by decide +kernel
abbrev cX4_isHigh : ByteArray := prog_6_method_2_code
def yX4_isHigh : MethodName := ⟨RX4, "isHigh", "(I)Z"⟩
abbrev cX4_isLow : ByteArray := prog_6_method_3_code
def yX4_isLow : MethodName := ⟨RX4, "isLow", "(I)Z"⟩
abbrev cX4_isEither : ByteArray := prog_6_method_4_code
def yX4_isEither : MethodName := ⟨RX4, "isEither", "(I)Z"⟩
abbrev cX4_isPair : ByteArray := prog_6_method_5_code
def yX4_isPair : MethodName := ⟨RX4, "isPair", "(II)Z"⟩
abbrev cX4_codePoint : ByteArray := prog_6_method_6_code
def yX4_codePoint : MethodName := ⟨RX4, "codePoint", "(II)I"⟩
abbrev cX4_addCharacters : ByteArray := prog_6_method_7_code
def yX4_addCharacters : MethodName := ⟨RX4, "addCharacters", "(ILResumableCoder$Move;)V"⟩
abbrev cX4_setForUnpaired : ByteArray := prog_6_method_8_code
def yX4_setForUnpaired : MethodName := ⟨RX4, "setForUnpaired", "(LResumableCoder$Units;LResumableCoder$Move;)V"⟩
def RX5 : String := "ResumableCoder$Units"
def TX5 : u_T := fun k => match k with
  | 0 => ("ResumableCoder$Units", "row", "[I", true)
  | _ => ("ResumableCoder$Units", "size", "I", false)
def tyX5 : Nat → FieldType := fun k => match k with
  | 0 => .array .int
  | _ => .int
theorem nmX5 : ∀ a, a < 2 → ∀ b, b < 2 → a ≠ b → (TX5 a).2.1 ≠ (TX5 b).2.1 := by decide +kernel
theorem tyX5_ok : ∀ k, k < 2 → parseFieldDescriptor (TX5 k).2.2.1 = some (tyX5 k) := by decide +kernel
abbrev cX5_init : ByteArray := prog_7_method_1_code
def yX5_init : MethodName := ⟨RX5, "<init>", "(I)V"⟩
abbrev cX5_count : ByteArray := prog_7_method_2_code
def yX5_count : MethodName := ⟨RX5, "count", "()I"⟩
abbrev cX5_at : ByteArray := prog_7_method_3_code
def yX5_at : MethodName := ⟨RX5, "at", "(I)I"⟩
abbrev cX5_add : ByteArray := prog_7_method_4_code
def yX5_add : MethodName := ⟨RX5, "add", "(I)V"⟩
abbrev cX5_drop : ByteArray := prog_7_method_5_code
def yX5_drop : MethodName := ⟨RX5, "drop", "(I)V"⟩
abbrev cX5_clear : ByteArray := prog_7_method_6_code
def yX5_clear : MethodName := ⟨RX5, "clear", "()V"⟩
def RX6 : String := "ResumableCoder$Utf16"
def TX6 : u_T := fun k => match k with
  | 0 => ("ResumableCoder$Utf16", "marked", "Z", true)
  | 1 => ("ResumableCoder$Utf16", "little", "Z", true)
  | 2 => ("ResumableCoder$Utf16", "first", "Z", false)
  | 3 => ("ResumableCoder$Utf16", "highLast", "Z", false)
  | _ => ("ResumableCoder$Utf16", "nextHighLast", "Z", false)
def tyX6 : Nat → FieldType := fun k => match k with
  | 0 => .boolean
  | 1 => .boolean
  | 2 => .boolean
  | 3 => .boolean
  | _ => .boolean
theorem nmX6 : ∀ a, a < 5 → ∀ b, b < 5 → a ≠ b → (TX6 a).2.1 ≠ (TX6 b).2.1 := by decide +kernel
theorem tyX6_ok : ∀ k, k < 5 → parseFieldDescriptor (TX6 k).2.2.1 = some (tyX6 k) := by decide +kernel
abbrev cX6_init : ByteArray := prog_8_method_1_code
def yX6_init : MethodName := ⟨RX6, "<init>", "(ZZ)V"⟩
abbrev cX6_begin : ByteArray := prog_8_method_2_code
def yX6_begin : MethodName := ⟨RX6, "begin", "()V"⟩
abbrev cX6_stepMade : ByteArray := prog_8_method_3_code
def yX6_stepMade : MethodName := ⟨RX6, "stepMade", "()V"⟩
abbrev cX6_passedOver : ByteArray := prog_8_method_4_code
def yX6_passedOver : MethodName := ⟨RX6, "passedOver", "()V"⟩
abbrev cX6_encode : ByteArray := prog_8_method_5_code
def yX6_encode : MethodName := ⟨RX6, "encode", "(LResumableCoder$Units;LResumableCoder$Move;)V"⟩
abbrev cX6_addReplacement : ByteArray := prog_8_method_6_code
def yX6_addReplacement : MethodName := ⟨RX6, "addReplacement", "(LResumableCoder$Move;)V"⟩
abbrev cX6_decode : ByteArray := prog_8_method_7_code
def yX6_decode : MethodName := ⟨RX6, "decode", "(LResumableCoder$Units;LResumableCoder$Move;)V"⟩
abbrev cX6_isMark : ByteArray := prog_8_method_8_code
def yX6_isMark : MethodName := ⟨RX6, "isMark", "(II)Z"⟩
abbrev cX6_decodeCharacter : ByteArray := prog_8_method_9_code
def yX6_decodeCharacter : MethodName := ⟨RX6, "decodeCharacter", "(LResumableCoder$Units;LResumableCoder$Move;)V"⟩
abbrev cX6_characterAt : ByteArray := prog_8_method_10_code
def yX6_characterAt : MethodName := ⟨RX6, "characterAt", "(LResumableCoder$Units;I)I"⟩
abbrev cX6_addBytes : ByteArray := prog_8_method_11_code
def yX6_addBytes : MethodName := ⟨RX6, "addBytes", "(ILResumableCoder$Move;)V"⟩
def RX7 : String := "ResumableCoder$Utf7"
def TX7 : u_T := fun k => match k with
  | 0 => ("ResumableCoder$Utf7", "now", "LResumableCoder$Shift;", true)
  | _ => ("ResumableCoder$Utf7", "next", "LResumableCoder$Shift;", true)
def tyX7 : Nat → FieldType := fun k => match k with
  | 0 => .object "ResumableCoder$Shift"
  | _ => .object "ResumableCoder$Shift"
theorem nmX7 : ∀ a, a < 2 → ∀ b, b < 2 → a ≠ b → (TX7 a).2.1 ≠ (TX7 b).2.1 := by decide +kernel
theorem tyX7_ok : ∀ k, k < 2 → parseFieldDescriptor (TX7 k).2.2.1 = some (tyX7 k) := by decide +kernel
abbrev cX7_init : ByteArray := prog_9_method_1_code
def yX7_init : MethodName := ⟨RX7, "<init>", "()V"⟩
abbrev cX7_begin : ByteArray := prog_9_method_2_code
def yX7_begin : MethodName := ⟨RX7, "begin", "()V"⟩
abbrev cX7_stepMade : ByteArray := prog_9_method_3_code
def yX7_stepMade : MethodName := ⟨RX7, "stepMade", "()V"⟩
abbrev cX7_passedOver : ByteArray := prog_9_method_4_code
def yX7_passedOver : MethodName := ⟨RX7, "passedOver", "()V"⟩
abbrev cX7_encode : ByteArray := prog_9_method_5_code
def yX7_encode : MethodName := ⟨RX7, "encode", "(LResumableCoder$Units;LResumableCoder$Move;)V"⟩
abbrev cX7_finish : ByteArray := prog_9_method_6_code
def yX7_finish : MethodName := ⟨RX7, "finish", "(LResumableCoder$Move;)Z"⟩
abbrev cX7_encodeShifted : ByteArray := prog_9_method_7_code
def yX7_encodeShifted : MethodName := ⟨RX7, "encodeShifted", "(ILResumableCoder$Move;)V"⟩
abbrev cX7_leaveShift : ByteArray := prog_9_method_8_code
def yX7_leaveShift : MethodName := ⟨RX7, "leaveShift", "(LResumableCoder$Move;)V"⟩
abbrev cX7_decode : ByteArray := prog_9_method_9_code
def yX7_decode : MethodName := ⟨RX7, "decode", "(LResumableCoder$Units;LResumableCoder$Move;)V"⟩
abbrev cX7_decodePlain : ByteArray := prog_9_method_10_code
def yX7_decodePlain : MethodName := ⟨RX7, "decodePlain", "(ILResumableCoder$Move;)V"⟩
abbrev cX7_decodeSign : ByteArray := prog_9_method_11_code
def yX7_decodeSign : MethodName := ⟨RX7, "decodeSign", "(ILResumableCoder$Move;)V"⟩
abbrev cX7_decodeEnd : ByteArray := prog_9_method_12_code
def yX7_decodeEnd : MethodName := ⟨RX7, "decodeEnd", "(ILResumableCoder$Move;)V"⟩
abbrev cX7_isDirect : ByteArray := prog_9_method_13_code
def yX7_isDirect : MethodName := ⟨RX7, "isDirect", "(I)Z"⟩
abbrev cX7_valueOf : ByteArray := prog_9_method_14_code
def yX7_valueOf : MethodName := ⟨RX7, "valueOf", "(I)I"⟩
def RX8 : String := "ResumableCoder$Utf8"
def TX8 : u_T := fun k => match k with
  | _ => ("ResumableCoder$Utf8", "modified", "Z", true)
def tyX8 : Nat → FieldType := fun k => match k with
  | _ => .boolean
theorem nmX8 : ∀ a, a < 1 → ∀ b, b < 1 → a ≠ b → (TX8 a).2.1 ≠ (TX8 b).2.1 := by decide +kernel
theorem tyX8_ok : ∀ k, k < 1 → parseFieldDescriptor (TX8 k).2.2.1 = some (tyX8 k) := by decide +kernel
abbrev cX8_init : ByteArray := prog_10_method_1_code
def yX8_init : MethodName := ⟨RX8, "<init>", "(Z)V"⟩
abbrev cX8_encode : ByteArray := prog_10_method_2_code
def yX8_encode : MethodName := ⟨RX8, "encode", "(LResumableCoder$Units;LResumableCoder$Move;)V"⟩
abbrev cX8_decode : ByteArray := prog_10_method_3_code
def yX8_decode : MethodName := ⟨RX8, "decode", "(LResumableCoder$Units;LResumableCoder$Move;)V"⟩
abbrev cX8_addEncoding : ByteArray := prog_10_method_4_code
def yX8_addEncoding : MethodName := ⟨RX8, "addEncoding", "(ILResumableCoder$Move;)V"⟩
abbrev cX8_addLast : ByteArray := prog_10_method_5_code
def yX8_addLast : MethodName := ⟨RX8, "addLast", "(IILResumableCoder$Move;)V"⟩
abbrev cX8_lengthBehind : ByteArray := prog_10_method_6_code
def yX8_lengthBehind : MethodName := ⟨RX8, "lengthBehind", "(I)I"⟩
abbrev cX8_countFitting : ByteArray := prog_10_method_7_code
def yX8_countFitting : MethodName := ⟨RX8, "countFitting", "(LResumableCoder$Units;I)I"⟩
abbrev cX8_isNext : ByteArray := prog_10_method_8_code
def yX8_isNext : MethodName := ⟨RX8, "isNext", "(LResumableCoder$Units;I)Z"⟩
abbrev cX8_leastSecond : ByteArray := prog_10_method_9_code
def yX8_leastSecond : MethodName := ⟨RX8, "leastSecond", "(I)I"⟩
abbrev cX8_greatestSecond : ByteArray := prog_10_method_10_code
def yX8_greatestSecond : MethodName := ⟨RX8, "greatestSecond", "(I)I"⟩
abbrev cX8_codePointOf : ByteArray := prog_10_method_11_code
def yX8_codePointOf : MethodName := ⟨RX8, "codePointOf", "(LResumableCoder$Units;I)I"⟩
def RX9 : String := "ResumableCoder"
def TX9 : u_T := fun k => match k with
  | 0 => ("ResumableCoder", "page", "LResumableCoder$Page;", true)
  | 1 => ("ResumableCoder", "forms", "[LResumableCoder$Form;", true)
  | 2 => ("ResumableCoder", "input", "LResumableCoder$Units;", true)
  | 3 => ("ResumableCoder", "output", "LResumableCoder$Units;", true)
  | 4 => ("ResumableCoder", "move", "LResumableCoder$Move;", true)
  | 5 => ("ResumableCoder", "form", "LResumableCoder$Form;", false)
  | 6 => ("ResumableCoder", "phase", "I", false)
  | 7 => ("ResumableCoder", "encoding", "Z", false)
  | 8 => ("ResumableCoder", "badAction", "I", false)
  | 9 => ("ResumableCoder", "unknownAction", "I", false)
  | 10 => ("ResumableCoder", "roomNow", "I", false)
  | 11 => ("ResumableCoder", "takenCount", "I", false)
  | 12 => ("ResumableCoder", "putCount", "I", false)
  | 13 => ("ResumableCoder", "faultCount", "I", false)
  | _ => ("ResumableCoder", "reported", "I", false)
def tyX9 : Nat → FieldType := fun k => match k with
  | 0 => .object "ResumableCoder$Page"
  | 1 => .array (.object "ResumableCoder$Form")
  | 2 => .object "ResumableCoder$Units"
  | 3 => .object "ResumableCoder$Units"
  | 4 => .object "ResumableCoder$Move"
  | 5 => .object "ResumableCoder$Form"
  | 6 => .int
  | 7 => .boolean
  | 8 => .int
  | 9 => .int
  | 10 => .int
  | 11 => .int
  | 12 => .int
  | 13 => .int
  | _ => .int
theorem nmX9 : ∀ a, a < 15 → ∀ b, b < 15 → a ≠ b → (TX9 a).2.1 ≠ (TX9 b).2.1 := by decide +kernel
theorem tyX9_ok : ∀ k, k < 15 → parseFieldDescriptor (TX9 k).2.2.1 = some (tyX9 k) := by decide +kernel
abbrev cX9_init : ByteArray := prog_1_method_1_code
def yX9_init : MethodName := ⟨RX9, "<init>", "()V"⟩
abbrev cX9_open : ByteArray := prog_1_method_2_code
def yX9_open : MethodName := ⟨RX9, "open", "(IZII)Z"⟩
abbrev cX9_map : ByteArray := prog_1_method_3_code
def yX9_map : MethodName := ⟨RX9, "map", "(II)Z"⟩
abbrev cX9_give : ByteArray := prog_1_method_4_code
def yX9_give : MethodName := ⟨RX9, "give", "(I)Z"⟩
abbrev cX9_room : ByteArray := prog_1_method_5_code
def yX9_room : MethodName := ⟨RX9, "room", "(I)Z"⟩
abbrev cX9_code : ByteArray := prog_1_method_6_code
def yX9_code : MethodName := ⟨RX9, "code", "(Z)I"⟩
abbrev cX9_flush : ByteArray := prog_1_method_7_code
def yX9_flush : MethodName := ⟨RX9, "flush", "()I"⟩
abbrev cX9_reset : ByteArray := prog_1_method_8_code
def yX9_reset : MethodName := ⟨RX9, "reset", "()Z"⟩
abbrev cX9_pass : ByteArray := prog_1_method_9_code
def yX9_pass : MethodName := ⟨RX9, "pass", "()Z"⟩
abbrev cX9_fetch : ByteArray := prog_1_method_10_code
def yX9_fetch : MethodName := ⟨RX9, "fetch", "()I"⟩
abbrev cX9_state : ByteArray := prog_1_method_11_code
def yX9_state : MethodName := ⟨RX9, "state", "()I"⟩
abbrev cX9_waiting : ByteArray := prog_1_method_12_code
def yX9_waiting : MethodName := ⟨RX9, "waiting", "()I"⟩
abbrev cX9_ready : ByteArray := prog_1_method_13_code
def yX9_ready : MethodName := ⟨RX9, "ready", "()I"⟩
abbrev cX9_taken : ByteArray := prog_1_method_14_code
def yX9_taken : MethodName := ⟨RX9, "taken", "()I"⟩
abbrev cX9_put : ByteArray := prog_1_method_15_code
def yX9_put : MethodName := ⟨RX9, "put", "()I"⟩
abbrev cX9_faults : ByteArray := prog_1_method_16_code
def yX9_faults : MethodName := ⟨RX9, "faults", "()I"⟩
abbrev cX9_isBelow : ByteArray := prog_1_method_17_code
def yX9_isBelow : MethodName := ⟨RX9, "isBelow", "(II)Z"⟩
abbrev cX9_startAfresh : ByteArray := prog_1_method_18_code
def yX9_startAfresh : MethodName := ⟨RX9, "startAfresh", "()V"⟩
abbrev cX9_makeMoves : ByteArray := prog_1_method_19_code
def yX9_makeMoves : MethodName := ⟨RX9, "makeMoves", "(Z)I"⟩
abbrev cX9_look : ByteArray := prog_1_method_20_code
def yX9_look : MethodName := ⟨RX9, "look", "()V"⟩
abbrev cX9_makeStep : ByteArray := prog_1_method_21_code
def yX9_makeStep : MethodName := ⟨RX9, "makeStep", "()I"⟩
abbrev cX9_meetFault : ByteArray := prog_1_method_22_code
def yX9_meetFault : MethodName := ⟨RX9, "meetFault", "()I"⟩
abbrev cX9_addReplacement : ByteArray := prog_1_method_23_code
def yX9_addReplacement : MethodName := ⟨RX9, "addReplacement", "()V"⟩
abbrev cX9_fits : ByteArray := prog_1_method_24_code
def yX9_fits : MethodName := ⟨RX9, "fits", "()Z"⟩
abbrev cX9_takeUnits : ByteArray := prog_1_method_25_code
def yX9_takeUnits : MethodName := ⟨RX9, "takeUnits", "(I)V"⟩
abbrev cX9_putUnits : ByteArray := prog_1_method_26_code
def yX9_putUnits : MethodName := ⟨RX9, "putUnits", "()V"⟩
abbrev cX9_passOver : ByteArray := prog_1_method_27_code
def yX9_passOver : MethodName := ⟨RX9, "passOver", "(I)V"⟩
def RX10 : String := "ResumableCoderModel"
def TX10 : u_T := fun k => match k with
  | 0 => ("ResumableCoderModel", "there", "Z", false)
  | 1 => ("ResumableCoderModel", "set", "I", false)
  | 2 => ("ResumableCoderModel", "encodes", "Z", false)
  | 3 => ("ResumableCoderModel", "badAction", "I", false)
  | 4 => ("ResumableCoderModel", "unknownAction", "I", false)
  | 5 => ("ResumableCoderModel", "page", "[I", false)
  | 6 => ("ResumableCoderModel", "room", "I", false)
  | 7 => ("ResumableCoderModel", "state", "I", false)
  | 8 => ("ResumableCoderModel", "wait", "[I", false)
  | 9 => ("ResumableCoderModel", "waits", "I", false)
  | 10 => ("ResumableCoderModel", "ready", "[I", false)
  | 11 => ("ResumableCoderModel", "readies", "I", false)
  | 12 => ("ResumableCoderModel", "takenAll", "I", false)
  | 13 => ("ResumableCoderModel", "putAll", "I", false)
  | 14 => ("ResumableCoderModel", "met", "I", false)
  | 15 => ("ResumableCoderModel", "took", "Z", false)
  | 16 => ("ResumableCoderModel", "gave", "Z", false)
  | 17 => ("ResumableCoderModel", "swapped", "Z", false)
  | 18 => ("ResumableCoderModel", "shifted", "Z", false)
  | 19 => ("ResumableCoderModel", "begun", "Z", false)
  | 20 => ("ResumableCoderModel", "bits", "I", false)
  | 21 => ("ResumableCoderModel", "kept", "I", false)
  | 22 => ("ResumableCoderModel", "pending", "I", false)
  | 23 => ("ResumableCoderModel", "pendingBad", "Z", false)
  | 24 => ("ResumableCoderModel", "n", "I", false)
  | 25 => ("ResumableCoderModel", "out", "[I", false)
  | 26 => ("ResumableCoderModel", "outs", "I", false)
  | 27 => ("ResumableCoderModel", "nextShifted", "Z", false)
  | 28 => ("ResumableCoderModel", "nextBegun", "Z", false)
  | 29 => ("ResumableCoderModel", "nextBits", "I", false)
  | 30 => ("ResumableCoderModel", "nextKept", "I", false)
  | _ => ("ResumableCoderModel", "nextSwapped", "Z", false)
def tyX10 : Nat → FieldType := fun k => match k with
  | 0 => .boolean
  | 1 => .int
  | 2 => .boolean
  | 3 => .int
  | 4 => .int
  | 5 => .array .int
  | 6 => .int
  | 7 => .int
  | 8 => .array .int
  | 9 => .int
  | 10 => .array .int
  | 11 => .int
  | 12 => .int
  | 13 => .int
  | 14 => .int
  | 15 => .boolean
  | 16 => .boolean
  | 17 => .boolean
  | 18 => .boolean
  | 19 => .boolean
  | 20 => .int
  | 21 => .int
  | 22 => .int
  | 23 => .boolean
  | 24 => .int
  | 25 => .array .int
  | 26 => .int
  | 27 => .boolean
  | 28 => .boolean
  | 29 => .int
  | 30 => .int
  | _ => .boolean
theorem nmX10 : ∀ a, a < 32 → ∀ b, b < 32 → a ≠ b → (TX10 a).2.1 ≠ (TX10 b).2.1 := by decide +kernel
theorem tyX10_ok : ∀ k, k < 32 → parseFieldDescriptor (TX10 k).2.2.1 = some (tyX10 k) := by decide +kernel
abbrev cX10_init : ByteArray := prog_12_method_1_code
def yX10_init : MethodName := ⟨RX10, "<init>", "()V"⟩
abbrev cX10_open : ByteArray := prog_12_method_2_code
def yX10_open : MethodName := ⟨RX10, "open", "(IZII)Z"⟩
abbrev cX10_renew : ByteArray := prog_12_method_3_code
def yX10_renew : MethodName := ⟨RX10, "renew", "()V"⟩
abbrev cX10_map : ByteArray := prog_12_method_4_code
def yX10_map : MethodName := ⟨RX10, "map", "(II)Z"⟩
abbrev cX10_give : ByteArray := prog_12_method_5_code
def yX10_give : MethodName := ⟨RX10, "give", "(I)Z"⟩
abbrev cX10_room : ByteArray := prog_12_method_6_code
def yX10_room : MethodName := ⟨RX10, "room", "(I)Z"⟩
abbrev cX10_reset : ByteArray := prog_12_method_7_code
def yX10_reset : MethodName := ⟨RX10, "reset", "()Z"⟩
abbrev cX10_fetch : ByteArray := prog_12_method_8_code
def yX10_fetch : MethodName := ⟨RX10, "fetch", "()I"⟩
abbrev cX10_state : ByteArray := prog_12_method_9_code
def yX10_state : MethodName := ⟨RX10, "state", "()I"⟩
abbrev cX10_waiting : ByteArray := prog_12_method_10_code
def yX10_waiting : MethodName := ⟨RX10, "waiting", "()I"⟩
abbrev cX10_ready : ByteArray := prog_12_method_11_code
def yX10_ready : MethodName := ⟨RX10, "ready", "()I"⟩
abbrev cX10_taken : ByteArray := prog_12_method_12_code
def yX10_taken : MethodName := ⟨RX10, "taken", "()I"⟩
abbrev cX10_put : ByteArray := prog_12_method_13_code
def yX10_put : MethodName := ⟨RX10, "put", "()I"⟩
abbrev cX10_faults : ByteArray := prog_12_method_14_code
def yX10_faults : MethodName := ⟨RX10, "faults", "()I"⟩
abbrev cX10_high : ByteArray := prog_12_method_15_code
def yX10_high : MethodName := ⟨RX10, "high", "(I)Z"⟩
abbrev cX10_low : ByteArray := prog_12_method_16_code
def yX10_low : MethodName := ⟨RX10, "low", "(I)Z"⟩
abbrev cX10_result : ByteArray := prog_12_method_17_code
def yX10_result : MethodName := ⟨RX10, "result", "(I)V"⟩
abbrev cX10_fault : ByteArray := prog_12_method_18_code
def yX10_fault : MethodName := ⟨RX10, "fault", "(II)I"⟩
abbrev cX10_step : ByteArray := prog_12_method_19_code
def yX10_step : MethodName := ⟨RX10, "step", "(I)I"⟩
abbrev cX10_look : ByteArray := prog_12_method_20_code
def yX10_look : MethodName := ⟨RX10, "look", "()I"⟩
abbrev cX10_putEight : ByteArray := prog_12_method_21_code
def yX10_putEight : MethodName := ⟨RX10, "putEight", "(I)V"⟩
abbrev cX10_encodeEight : ByteArray := prog_12_method_22_code
def yX10_encodeEight : MethodName := ⟨RX10, "encodeEight", "()I"⟩
abbrev cX10_lengthOf : ByteArray := prog_12_method_23_code
def yX10_lengthOf : MethodName := ⟨RX10, "lengthOf", "(I)I"⟩
abbrev cX10_some : ByteArray := prog_12_method_24_code
def yX10_some : MethodName := ⟨RX10, "some", "(III)Z"⟩
abbrev cX10_least : ByteArray := prog_12_method_25_code
def yX10_least : MethodName := ⟨RX10, "least", "(II)I"⟩
abbrev cX10_begins : ByteArray := prog_12_method_26_code
def yX10_begins : MethodName := ⟨RX10, "begins", "(I)Z"⟩
abbrev cX10_decodeEight : ByteArray := prog_12_method_27_code
def yX10_decodeEight : MethodName := ⟨RX10, "decodeEight", "()I"⟩
abbrev cX10_putSixteen : ByteArray := prog_12_method_28_code
def yX10_putSixteen : MethodName := ⟨RX10, "putSixteen", "(IZ)V"⟩
abbrev cX10_encodeSixteen : ByteArray := prog_12_method_29_code
def yX10_encodeSixteen : MethodName := ⟨RX10, "encodeSixteen", "()I"⟩
abbrev cX10_character : ByteArray := prog_12_method_30_code
def yX10_character : MethodName := ⟨RX10, "character", "(I)I"⟩
abbrev cX10_decodeSixteen : ByteArray := prog_12_method_31_code
def yX10_decodeSixteen : MethodName := ⟨RX10, "decodeSixteen", "()I"⟩
abbrev cX10_direct : ByteArray := prog_12_method_32_code
def yX10_direct : MethodName := ⟨RX10, "direct", "(I)Z"⟩
abbrev cX10_sign : ByteArray := prog_12_method_33_code
def yX10_sign : MethodName := ⟨RX10, "sign", "(I)I"⟩
abbrev cX10_six : ByteArray := prog_12_method_34_code
def yX10_six : MethodName := ⟨RX10, "six", "(I)I"⟩
abbrev cX10_encodeSeven : ByteArray := prog_12_method_35_code
def yX10_encodeSeven : MethodName := ⟨RX10, "encodeSeven", "()I"⟩
abbrev cX10_unshift : ByteArray := prog_12_method_36_code
def yX10_unshift : MethodName := ⟨RX10, "unshift", "()V"⟩
abbrev cX10_decodeSeven : ByteArray := prog_12_method_37_code
def yX10_decodeSeven : MethodName := ⟨RX10, "decodeSeven", "()I"⟩
abbrev cX10_decodePage : ByteArray := prog_12_method_38_code
def yX10_decodePage : MethodName := ⟨RX10, "decodePage", "()I"⟩
abbrev cX10_encodePage : ByteArray := prog_12_method_39_code
def yX10_encodePage : MethodName := ⟨RX10, "encodePage", "()I"⟩
abbrev cX10_fits : ByteArray := prog_12_method_40_code
def yX10_fits : MethodName := ⟨RX10, "fits", "(I)Z"⟩
abbrev cX10_putOut : ByteArray := prog_12_method_41_code
def yX10_putOut : MethodName := ⟨RX10, "putOut", "()V"⟩
abbrev cX10_take : ByteArray := prog_12_method_42_code
def yX10_take : MethodName := ⟨RX10, "take", "(I)V"⟩
abbrev cX10_passOver : ByteArray := prog_12_method_43_code
def yX10_passOver : MethodName := ⟨RX10, "passOver", "(IZ)V"⟩
abbrev cX10_pass : ByteArray := prog_12_method_44_code
def yX10_pass : MethodName := ⟨RX10, "pass", "()Z"⟩
abbrev cX10_become : ByteArray := prog_12_method_45_code
def yX10_become : MethodName := ⟨RX10, "become", "()V"⟩
abbrev cX10_replacement : ByteArray := prog_12_method_46_code
def yX10_replacement : MethodName := ⟨RX10, "replacement", "()V"⟩
abbrev cX10_code : ByteArray := prog_12_method_47_code
def yX10_code : MethodName := ⟨RX10, "code", "(Z)I"⟩
abbrev cX10_meet : ByteArray := prog_12_method_48_code
def yX10_meet : MethodName := ⟨RX10, "meet", "(Z)I"⟩
abbrev cX10_flush : ByteArray := prog_12_method_49_code
def yX10_flush : MethodName := ⟨RX10, "flush", "()I"⟩
def RJx145de : String := "java/io/Serializable"
def TJx145de : u_T := fun k => match k with
  | _ => ("", "", "", false)
def RJx9f9b0 : String := "java/lang/CharSequence"
def TJx9f9b0 : u_T := fun k => match k with
  | _ => ("", "", "", false)
def RJ11 : String := "java/lang/Character"
def TJ11 : u_T := fun k => match k with
  | _ => ("", "", "", false)
abbrev cJ11_isValidCodePoint_9a6ad : ByteArray := prog_13_method_11_code
def yJ11_isValidCodePoint_9a6ad : MethodName := ⟨RJ11, "isValidCodePoint", "(I)Z"⟩
abbrev cJ11_highSurrogate_5068e : ByteArray := prog_13_method_28_code
def yJ11_highSurrogate_5068e : MethodName := ⟨RJ11, "highSurrogate", "(I)C"⟩
abbrev cJ11_lowSurrogate_5068e : ByteArray := prog_13_method_29_code
def yJ11_lowSurrogate_5068e : MethodName := ⟨RJ11, "lowSurrogate", "(I)C"⟩
def RJxb160c : String := "java/lang/Comparable"
def TJxb160c : u_T := fun k => match k with
  | _ => ("", "", "", false)
def RJ9 : String := "java/lang/Math"
def TJ9 : u_T := fun k => match k with
  | _ => ("", "", "", false)
abbrev cJ9_max_7cf53 : ByteArray := prog_14_method_65_code
def yJ9_max_7cf53 : MethodName := ⟨RJ9, "max", "(II)I"⟩
abbrev cJ9_min_7cf53 : ByteArray := prog_14_method_69_code
def yJ9_min_7cf53 : MethodName := ⟨RJ9, "min", "(II)I"⟩
def RJ0 : String := "java/lang/String"
def TJ0 : u_T := fun k => match k with
  | _ => ("", "", "", false)
abbrev cJ0_length_8abf5 : ByteArray := prog_15_method_54_code
def yJ0_length_8abf5 : MethodName := ⟨RJ0, "length", "()I"⟩
abbrev cJ0_charAt_5068e : ByteArray := prog_15_method_56_code
def yJ0_charAt_5068e : MethodName := ⟨RJ0, "charAt", "(I)C"⟩
abbrev cJ0_indexOf_0f7a4 : ByteArray := prog_15_method_79_code
def yJ0_indexOf_0f7a4 : MethodName := ⟨RJ0, "indexOf", "(I)I"⟩
abbrev cJ0_indexOf_7cf53 : ByteArray := prog_15_method_80_code
def yJ0_indexOf_7cf53 : MethodName := ⟨RJ0, "indexOf", "(II)I"⟩
abbrev cJ0_coder_7d493 : ByteArray := prog_15_method_152_code
def yJ0_coder_7d493 : MethodName := ⟨RJ0, "coder", "()B"⟩
abbrev cJ0_isLatin1_aae02 : ByteArray := prog_15_method_154_code
def yJ0_isLatin1_aae02 : MethodName := ⟨RJ0, "isLatin1", "()Z"⟩
abbrev cJ0_checkIndex_df160 : ByteArray := prog_15_method_155_code
def yJ0_checkIndex_df160 : MethodName := ⟨RJ0, "checkIndex", "(II)V"⟩
abbrev cJ0_checkBoundsBeginEnd_23922 : ByteArray := prog_15_method_158_code
def yJ0_checkBoundsBeginEnd_23922 : MethodName := ⟨RJ0, "checkBoundsBeginEnd", "(III)V"⟩
def RJ1 : String := "java/lang/StringLatin1"
def TJ1 : u_T := fun k => match k with
  | _ => ("", "", "", false)
abbrev cJ1_charAt_3b067 : ByteArray := prog_16_method_2_code
def yJ1_charAt_3b067 : MethodName := ⟨RJ1, "charAt", "([BI)C"⟩
abbrev cJ1_canEncode_9a6ad : ByteArray := prog_16_method_4_code
def yJ1_canEncode_9a6ad : MethodName := ⟨RJ1, "canEncode", "(I)Z"⟩
abbrev cJ1_indexOf_4cfef : ByteArray := prog_16_method_22_code
def yJ1_indexOf_4cfef : MethodName := ⟨RJ1, "indexOf", "([BIII)I"⟩
abbrev cJ1_indexOfChar_4cfef : ByteArray := prog_16_method_23_code
def yJ1_indexOfChar_4cfef : MethodName := ⟨RJ1, "indexOfChar", "([BIII)I"⟩
def RJ2 : String := "java/lang/StringUTF16"
def TJ2 : u_T := fun k => match k with
  | _ => ("", "", "", false)
abbrev cJ2_getChar_3b067 : ByteArray := prog_17_method_5_code
def yJ2_getChar_3b067 : MethodName := ⟨RJ2, "getChar", "([BI)C"⟩
abbrev cJ2_length_9d52b : ByteArray := prog_17_method_6_code
def yJ2_length_9d52b : MethodName := ⟨RJ2, "length", "([B)I"⟩
abbrev cJ2_indexOf_4cfef : ByteArray := prog_17_method_40_code
def yJ2_indexOf_4cfef : MethodName := ⟨RJ2, "indexOf", "([BIII)I"⟩
abbrev cJ2_indexOfChar_4cfef : ByteArray := prog_17_method_47_code
def yJ2_indexOfChar_4cfef : MethodName := ⟨RJ2, "indexOfChar", "([BIII)I"⟩
abbrev cJ2_indexOfCharUnsafe_4cfef : ByteArray := prog_17_method_48_code
def yJ2_indexOfCharUnsafe_4cfef : MethodName := ⟨RJ2, "indexOfCharUnsafe", "([BIII)I"⟩
abbrev cJ2_indexOfSupplementary_4cfef : ByteArray := prog_17_method_49_code
def yJ2_indexOfSupplementary_4cfef : MethodName := ⟨RJ2, "indexOfSupplementary", "([BIII)I"⟩
abbrev cJ2_charAt_3b067 : ByteArray := prog_17_method_83_code
def yJ2_charAt_3b067 : MethodName := ⟨RJ2, "charAt", "([BI)C"⟩
abbrev cJ2_checkIndex_2214a : ByteArray := prog_17_method_91_code
def yJ2_checkIndex_2214a : MethodName := ⟨RJ2, "checkIndex", "(I[B)V"⟩
abbrev cJ2_checkBoundsBeginEnd_d044e : ByteArray := prog_17_method_93_code
def yJ2_checkBoundsBeginEnd_d044e : MethodName := ⟨RJ2, "checkBoundsBeginEnd", "(II[B)V"⟩
def RJ10 : String := "java/lang/System"
def TJ10 : u_T := fun k => match k with
  | _ => ("", "", "", false)
def RJxfd54e : String := "java/lang/constant/Constable"
def TJxfd54e : u_T := fun k => match k with
  | _ => ("", "", "", false)
def RJx3cf43 : String := "java/lang/constant/ConstantDesc"
def TJx3cf43 : u_T := fun k => match k with
  | _ => ("", "", "", false)
def RJ7 : String := "java/util/Arrays"
def TJ7 : u_T := fun k => match k with
  | _ => ("", "", "", false)
abbrev cJ7_fill_53178 : ByteArray := prog_19_method_103_code
def yJ7_fill_53178 : MethodName := ⟨RJ7, "fill", "([II)V"⟩
def RJ3 : String := "jdk/internal/util/Preconditions"
def TJ3 : u_T := fun k => match k with
  | _ => ("", "", "", false)
abbrev cJ3_checkIndex_8e157 : ByteArray := prog_20_method_11_code
def yJ3_checkIndex_8e157 : MethodName := ⟨RJ3, "checkIndex", "(IILjava/util/function/BiFunction;)I"⟩
abbrev cJ3_checkFromToIndex_8c36e : ByteArray := prog_20_method_12_code
def yJ3_checkFromToIndex_8c36e : MethodName := ⟨RJ3, "checkFromToIndex", "(IIILjava/util/function/BiFunction;)I"⟩
def RL : String := "ResumableCoderLaw"
abbrev cL_law : ByteArray := code
def yL_law : MethodName := ⟨RL, "law", "([I)Z"⟩
abbrev vwCl : List vw_C := [(RX1, TX1, 4), (RX2, TX2, 1), (RX3, TX3, 4), (RX5, TX5, 2), (RX6, TX6, 5), (RX7, TX7, 2), (RX8, TX8, 1), (RX9, TX9, 15), (RX10, TX10, 32)]
