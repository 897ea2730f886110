section
-- ===== PART A: goes FIRST, ahead of the names: the tables' words, and 'selects' of the private methods out of them =====
/-- a private method of a class that the tables say can be made, by its rows of tables_1 -/
def lw_okq (q : MethodName × Nat) : Prop := (q.1.cls ≠ "java/lang/invoke/MethodHandle" ∧ q.1.cls ≠ "java/lang/invoke/VarHandle") ∧ Cond.instantiable q.1.cls q.2 ∈ tables_1 ∧ Cond.privateMethod q.1 ∈ tables_1 ∧ Cond.instanceMethod q.1 ∈ tables_1
theorem lw_p0 : lw_okq (⟨"ResumableCoder", "startAfresh", "()V"⟩, 15) := ⟨⟨by decide +kernel, by decide +kernel⟩, List.mem_of_getElem? (i := 21) (by decide +kernel), List.mem_of_getElem? (i := 208) (by decide +kernel), List.mem_of_getElem? (i := 209) (by decide +kernel)⟩
theorem lw_p1 : lw_okq (⟨"ResumableCoder", "makeMoves", "(Z)I"⟩, 15) := ⟨⟨by decide +kernel, by decide +kernel⟩, List.mem_of_getElem? (i := 21) (by decide +kernel), List.mem_of_getElem? (i := 257) (by decide +kernel), List.mem_of_getElem? (i := 258) (by decide +kernel)⟩
theorem lw_p2 : lw_okq (⟨"ResumableCoder", "look", "()V"⟩, 15) := ⟨⟨by decide +kernel, by decide +kernel⟩, List.mem_of_getElem? (i := 21) (by decide +kernel), List.mem_of_getElem? (i := 261) (by decide +kernel), List.mem_of_getElem? (i := 262) (by decide +kernel)⟩
theorem lw_p3 : lw_okq (⟨"ResumableCoder$Move", "set", "(II)V"⟩, 4) := ⟨⟨by decide +kernel, by decide +kernel⟩, List.mem_of_getElem? (i := 59) (by decide +kernel), List.mem_of_getElem? (i := 269) (by decide +kernel), List.mem_of_getElem? (i := 270) (by decide +kernel)⟩
theorem lw_p4 : lw_okq (⟨"ResumableCoder$Page", "leastByteOf", "(I)I"⟩, 1) := ⟨⟨by decide +kernel, by decide +kernel⟩, List.mem_of_getElem? (i := 29) (by decide +kernel), List.mem_of_getElem? (i := 283) (by decide +kernel), List.mem_of_getElem? (i := 284) (by decide +kernel)⟩
theorem lw_p5 : lw_okq (⟨"ResumableCoder$Utf16", "addBytes", "(ILResumableCoder$Move;)V"⟩, 5) := ⟨⟨by decide +kernel, by decide +kernel⟩, List.mem_of_getElem? (i := 93) (by decide +kernel), List.mem_of_getElem? (i := 331) (by decide +kernel), List.mem_of_getElem? (i := 332) (by decide +kernel)⟩
theorem lw_p6 : lw_okq (⟨"ResumableCoder$Utf7", "leaveShift", "(LResumableCoder$Move;)V"⟩, 2) := ⟨⟨by decide +kernel, by decide +kernel⟩, List.mem_of_getElem? (i := 115) (by decide +kernel), List.mem_of_getElem? (i := 440) (by decide +kernel), List.mem_of_getElem? (i := 441) (by decide +kernel)⟩
theorem lw_p7 : lw_okq (⟨"ResumableCoder$Utf7", "encodeShifted", "(ILResumableCoder$Move;)V"⟩, 2) := ⟨⟨by decide +kernel, by decide +kernel⟩, List.mem_of_getElem? (i := 115) (by decide +kernel), List.mem_of_getElem? (i := 465) (by decide +kernel), List.mem_of_getElem? (i := 466) (by decide +kernel)⟩
theorem lw_p8 : lw_okq (⟨"ResumableCoder$Utf8", "addEncoding", "(ILResumableCoder$Move;)V"⟩, 1) := ⟨⟨by decide +kernel, by decide +kernel⟩, List.mem_of_getElem? (i := 83) (by decide +kernel), List.mem_of_getElem? (i := 489) (by decide +kernel), List.mem_of_getElem? (i := 490) (by decide +kernel)⟩
theorem lw_p9 : lw_okq (⟨"ResumableCoder$Page", "characterOf", "(I)I"⟩, 1) := ⟨⟨by decide +kernel, by decide +kernel⟩, List.mem_of_getElem? (i := 29) (by decide +kernel), List.mem_of_getElem? (i := 511) (by decide +kernel), List.mem_of_getElem? (i := 512) (by decide +kernel)⟩
theorem lw_p10 : lw_okq (⟨"ResumableCoder$Utf16", "decodeCharacter", "(LResumableCoder$Units;LResumableCoder$Move;)V"⟩, 5) := ⟨⟨by decide +kernel, by decide +kernel⟩, List.mem_of_getElem? (i := 93) (by decide +kernel), List.mem_of_getElem? (i := 523) (by decide +kernel), List.mem_of_getElem? (i := 524) (by decide +kernel)⟩
theorem lw_p11 : lw_okq (⟨"ResumableCoder$Utf16", "characterAt", "(LResumableCoder$Units;I)I"⟩, 5) := ⟨⟨by decide +kernel, by decide +kernel⟩, List.mem_of_getElem? (i := 93) (by decide +kernel), List.mem_of_getElem? (i := 527) (by decide +kernel), List.mem_of_getElem? (i := 528) (by decide +kernel)⟩
theorem lw_p12 : lw_okq (⟨"ResumableCoder$Utf7", "decodePlain", "(ILResumableCoder$Move;)V"⟩, 2) := ⟨⟨by decide +kernel, by decide +kernel⟩, List.mem_of_getElem? (i := 115) (by decide +kernel), List.mem_of_getElem? (i := 537) (by decide +kernel), List.mem_of_getElem? (i := 538) (by decide +kernel)⟩
theorem lw_p13 : lw_okq (⟨"ResumableCoder$Utf7", "decodeSign", "(ILResumableCoder$Move;)V"⟩, 2) := ⟨⟨by decide +kernel, by decide +kernel⟩, List.mem_of_getElem? (i := 115) (by decide +kernel), List.mem_of_getElem? (i := 541) (by decide +kernel), List.mem_of_getElem? (i := 542) (by decide +kernel)⟩
theorem lw_p14 : lw_okq (⟨"ResumableCoder$Utf7", "decodeEnd", "(ILResumableCoder$Move;)V"⟩, 2) := ⟨⟨by decide +kernel, by decide +kernel⟩, List.mem_of_getElem? (i := 115) (by decide +kernel), List.mem_of_getElem? (i := 545) (by decide +kernel), List.mem_of_getElem? (i := 546) (by decide +kernel)⟩
theorem lw_p15 : lw_okq (⟨"ResumableCoder$Utf8", "lengthBehind", "(I)I"⟩, 1) := ⟨⟨by decide +kernel, by decide +kernel⟩, List.mem_of_getElem? (i := 83) (by decide +kernel), List.mem_of_getElem? (i := 556) (by decide +kernel), List.mem_of_getElem? (i := 557) (by decide +kernel)⟩
def lw_privs_1 : List (MethodName × Nat) := [(⟨"ResumableCoder", "startAfresh", "()V"⟩, 15), (⟨"ResumableCoder", "makeMoves", "(Z)I"⟩, 15), (⟨"ResumableCoder", "look", "()V"⟩, 15), (⟨"ResumableCoder$Move", "set", "(II)V"⟩, 4), (⟨"ResumableCoder$Page", "leastByteOf", "(I)I"⟩, 1), (⟨"ResumableCoder$Utf16", "addBytes", "(ILResumableCoder$Move;)V"⟩, 5), (⟨"ResumableCoder$Utf7", "leaveShift", "(LResumableCoder$Move;)V"⟩, 2), (⟨"ResumableCoder$Utf7", "encodeShifted", "(ILResumableCoder$Move;)V"⟩, 2), (⟨"ResumableCoder$Utf8", "addEncoding", "(ILResumableCoder$Move;)V"⟩, 1), (⟨"ResumableCoder$Page", "characterOf", "(I)I"⟩, 1), (⟨"ResumableCoder$Utf16", "decodeCharacter", "(LResumableCoder$Units;LResumableCoder$Move;)V"⟩, 5), (⟨"ResumableCoder$Utf16", "characterAt", "(LResumableCoder$Units;I)I"⟩, 5), (⟨"ResumableCoder$Utf7", "decodePlain", "(ILResumableCoder$Move;)V"⟩, 2), (⟨"ResumableCoder$Utf7", "decodeSign", "(ILResumableCoder$Move;)V"⟩, 2), (⟨"ResumableCoder$Utf7", "decodeEnd", "(ILResumableCoder$Move;)V"⟩, 2), (⟨"ResumableCoder$Utf8", "lengthBehind", "(I)I"⟩, 1)]
theorem lw_r1 : ∀ q ∈ lw_privs_1, lw_okq q := List.forall_mem_cons.mpr ⟨lw_p0, List.forall_mem_cons.mpr ⟨lw_p1, List.forall_mem_cons.mpr ⟨lw_p2, List.forall_mem_cons.mpr ⟨lw_p3, List.forall_mem_cons.mpr ⟨lw_p4, List.forall_mem_cons.mpr ⟨lw_p5, List.forall_mem_cons.mpr ⟨lw_p6, List.forall_mem_cons.mpr ⟨lw_p7, List.forall_mem_cons.mpr ⟨lw_p8, List.forall_mem_cons.mpr ⟨lw_p9, List.forall_mem_cons.mpr ⟨lw_p10, List.forall_mem_cons.mpr ⟨lw_p11, List.forall_mem_cons.mpr ⟨lw_p12, List.forall_mem_cons.mpr ⟨lw_p13, List.forall_mem_cons.mpr ⟨lw_p14, List.forall_mem_cons.mpr ⟨lw_p15, fun _ h => absurd h List.not_mem_nil⟩⟩⟩⟩⟩⟩⟩⟩⟩⟩⟩⟩⟩⟩⟩⟩
theorem lw_p16 : lw_okq (⟨"ResumableCoder$Utf8", "countFitting", "(LResumableCoder$Units;I)I"⟩, 1) := ⟨⟨by decide +kernel, by decide +kernel⟩, List.mem_of_getElem? (i := 83) (by decide +kernel), List.mem_of_getElem? (i := 560) (by decide +kernel), List.mem_of_getElem? (i := 561) (by decide +kernel)⟩
theorem lw_p17 : lw_okq (⟨"ResumableCoder$Utf8", "isNext", "(LResumableCoder$Units;I)Z"⟩, 1) := ⟨⟨by decide +kernel, by decide +kernel⟩, List.mem_of_getElem? (i := 83) (by decide +kernel), List.mem_of_getElem? (i := 566) (by decide +kernel), List.mem_of_getElem? (i := 567) (by decide +kernel)⟩
theorem lw_p18 : lw_okq (⟨"ResumableCoder$Utf8", "greatestSecond", "(I)I"⟩, 1) := ⟨⟨by decide +kernel, by decide +kernel⟩, List.mem_of_getElem? (i := 83) (by decide +kernel), List.mem_of_getElem? (i := 573) (by decide +kernel), List.mem_of_getElem? (i := 574) (by decide +kernel)⟩
theorem lw_p19 : lw_okq (⟨"ResumableCoder", "makeStep", "()I"⟩, 15) := ⟨⟨by decide +kernel, by decide +kernel⟩, List.mem_of_getElem? (i := 21) (by decide +kernel), List.mem_of_getElem? (i := 588) (by decide +kernel), List.mem_of_getElem? (i := 589) (by decide +kernel)⟩
theorem lw_p20 : lw_okq (⟨"ResumableCoder", "fits", "()Z"⟩, 15) := ⟨⟨by decide +kernel, by decide +kernel⟩, List.mem_of_getElem? (i := 21) (by decide +kernel), List.mem_of_getElem? (i := 592) (by decide +kernel), List.mem_of_getElem? (i := 593) (by decide +kernel)⟩
theorem lw_p21 : lw_okq (⟨"ResumableCoder", "takeUnits", "(I)V"⟩, 15) := ⟨⟨by decide +kernel, by decide +kernel⟩, List.mem_of_getElem? (i := 21) (by decide +kernel), List.mem_of_getElem? (i := 596) (by decide +kernel), List.mem_of_getElem? (i := 597) (by decide +kernel)⟩
theorem lw_p22 : lw_okq (⟨"ResumableCoder", "putUnits", "()V"⟩, 15) := ⟨⟨by decide +kernel, by decide +kernel⟩, List.mem_of_getElem? (i := 21) (by decide +kernel), List.mem_of_getElem? (i := 609) (by decide +kernel), List.mem_of_getElem? (i := 610) (by decide +kernel)⟩
theorem lw_p23 : lw_okq (⟨"ResumableCoder", "meetFault", "()I"⟩, 15) := ⟨⟨by decide +kernel, by decide +kernel⟩, List.mem_of_getElem? (i := 21) (by decide +kernel), List.mem_of_getElem? (i := 629) (by decide +kernel), List.mem_of_getElem? (i := 630) (by decide +kernel)⟩
theorem lw_p24 : lw_okq (⟨"ResumableCoder", "addReplacement", "()V"⟩, 15) := ⟨⟨by decide +kernel, by decide +kernel⟩, List.mem_of_getElem? (i := 21) (by decide +kernel), List.mem_of_getElem? (i := 633) (by decide +kernel), List.mem_of_getElem? (i := 634) (by decide +kernel)⟩
theorem lw_p25 : lw_okq (⟨"ResumableCoder", "passOver", "(I)V"⟩, 15) := ⟨⟨by decide +kernel, by decide +kernel⟩, List.mem_of_getElem? (i := 21) (by decide +kernel), List.mem_of_getElem? (i := 650) (by decide +kernel), List.mem_of_getElem? (i := 651) (by decide +kernel)⟩
theorem lw_p26 : lw_okq (⟨"ResumableCoderModel", "renew", "()V"⟩, 32) := ⟨⟨by decide +kernel, by decide +kernel⟩, List.mem_of_getElem? (i := 718) (by decide +kernel), List.mem_of_getElem? (i := 825) (by decide +kernel), List.mem_of_getElem? (i := 826) (by decide +kernel)⟩
theorem lw_p27 : lw_okq (⟨"ResumableCoderModel", "passOver", "(IZ)V"⟩, 32) := ⟨⟨by decide +kernel, by decide +kernel⟩, List.mem_of_getElem? (i := 718) (by decide +kernel), List.mem_of_getElem? (i := 878) (by decide +kernel), List.mem_of_getElem? (i := 879) (by decide +kernel)⟩
theorem lw_p28 : lw_okq (⟨"ResumableCoderModel", "take", "(I)V"⟩, 32) := ⟨⟨by decide +kernel, by decide +kernel⟩, List.mem_of_getElem? (i := 718) (by decide +kernel), List.mem_of_getElem? (i := 882) (by decide +kernel), List.mem_of_getElem? (i := 883) (by decide +kernel)⟩
theorem lw_p29 : lw_okq (⟨"ResumableCoderModel", "look", "()I"⟩, 32) := ⟨⟨by decide +kernel, by decide +kernel⟩, List.mem_of_getElem? (i := 718) (by decide +kernel), List.mem_of_getElem? (i := 890) (by decide +kernel), List.mem_of_getElem? (i := 891) (by decide +kernel)⟩
theorem lw_p30 : lw_okq (⟨"ResumableCoderModel", "encodeEight", "()I"⟩, 32) := ⟨⟨by decide +kernel, by decide +kernel⟩, List.mem_of_getElem? (i := 718) (by decide +kernel), List.mem_of_getElem? (i := 894) (by decide +kernel), List.mem_of_getElem? (i := 895) (by decide +kernel)⟩
theorem lw_p31 : lw_okq (⟨"ResumableCoderModel", "putEight", "(I)V"⟩, 32) := ⟨⟨by decide +kernel, by decide +kernel⟩, List.mem_of_getElem? (i := 718) (by decide +kernel), List.mem_of_getElem? (i := 908) (by decide +kernel), List.mem_of_getElem? (i := 909) (by decide +kernel)⟩
def lw_privs_2 : List (MethodName × Nat) := [(⟨"ResumableCoder$Utf8", "countFitting", "(LResumableCoder$Units;I)I"⟩, 1), (⟨"ResumableCoder$Utf8", "isNext", "(LResumableCoder$Units;I)Z"⟩, 1), (⟨"ResumableCoder$Utf8", "greatestSecond", "(I)I"⟩, 1), (⟨"ResumableCoder", "makeStep", "()I"⟩, 15), (⟨"ResumableCoder", "fits", "()Z"⟩, 15), (⟨"ResumableCoder", "takeUnits", "(I)V"⟩, 15), (⟨"ResumableCoder", "putUnits", "()V"⟩, 15), (⟨"ResumableCoder", "meetFault", "()I"⟩, 15), (⟨"ResumableCoder", "addReplacement", "()V"⟩, 15), (⟨"ResumableCoder", "passOver", "(I)V"⟩, 15), (⟨"ResumableCoderModel", "renew", "()V"⟩, 32), (⟨"ResumableCoderModel", "passOver", "(IZ)V"⟩, 32), (⟨"ResumableCoderModel", "take", "(I)V"⟩, 32), (⟨"ResumableCoderModel", "look", "()I"⟩, 32), (⟨"ResumableCoderModel", "encodeEight", "()I"⟩, 32), (⟨"ResumableCoderModel", "putEight", "(I)V"⟩, 32)]
theorem lw_r2 : ∀ q ∈ lw_privs_2, lw_okq q := List.forall_mem_cons.mpr ⟨lw_p16, List.forall_mem_cons.mpr ⟨lw_p17, List.forall_mem_cons.mpr ⟨lw_p18, List.forall_mem_cons.mpr ⟨lw_p19, List.forall_mem_cons.mpr ⟨lw_p20, List.forall_mem_cons.mpr ⟨lw_p21, List.forall_mem_cons.mpr ⟨lw_p22, List.forall_mem_cons.mpr ⟨lw_p23, List.forall_mem_cons.mpr ⟨lw_p24, List.forall_mem_cons.mpr ⟨lw_p25, List.forall_mem_cons.mpr ⟨lw_p26, List.forall_mem_cons.mpr ⟨lw_p27, List.forall_mem_cons.mpr ⟨lw_p28, List.forall_mem_cons.mpr ⟨lw_p29, List.forall_mem_cons.mpr ⟨lw_p30, List.forall_mem_cons.mpr ⟨lw_p31, fun _ h => absurd h List.not_mem_nil⟩⟩⟩⟩⟩⟩⟩⟩⟩⟩⟩⟩⟩⟩⟩⟩
theorem lw_p32 : lw_okq (⟨"ResumableCoderModel", "result", "(I)V"⟩, 32) := ⟨⟨by decide +kernel, by decide +kernel⟩, List.mem_of_getElem? (i := 718) (by decide +kernel), List.mem_of_getElem? (i := 913) (by decide +kernel), List.mem_of_getElem? (i := 914) (by decide +kernel)⟩
theorem lw_p33 : lw_okq (⟨"ResumableCoderModel", "step", "(I)I"⟩, 32) := ⟨⟨by decide +kernel, by decide +kernel⟩, List.mem_of_getElem? (i := 718) (by decide +kernel), List.mem_of_getElem? (i := 917) (by decide +kernel), List.mem_of_getElem? (i := 918) (by decide +kernel)⟩
theorem lw_p34 : lw_okq (⟨"ResumableCoderModel", "fault", "(II)I"⟩, 32) := ⟨⟨by decide +kernel, by decide +kernel⟩, List.mem_of_getElem? (i := 718) (by decide +kernel), List.mem_of_getElem? (i := 921) (by decide +kernel), List.mem_of_getElem? (i := 922) (by decide +kernel)⟩
theorem lw_p35 : lw_okq (⟨"ResumableCoderModel", "decodeEight", "()I"⟩, 32) := ⟨⟨by decide +kernel, by decide +kernel⟩, List.mem_of_getElem? (i := 718) (by decide +kernel), List.mem_of_getElem? (i := 925) (by decide +kernel), List.mem_of_getElem? (i := 926) (by decide +kernel)⟩
theorem lw_p36 : lw_okq (⟨"ResumableCoderModel", "begins", "(I)Z"⟩, 32) := ⟨⟨by decide +kernel, by decide +kernel⟩, List.mem_of_getElem? (i := 718) (by decide +kernel), List.mem_of_getElem? (i := 932) (by decide +kernel), List.mem_of_getElem? (i := 933) (by decide +kernel)⟩
theorem lw_p37 : lw_okq (⟨"ResumableCoderModel", "least", "(II)I"⟩, 32) := ⟨⟨by decide +kernel, by decide +kernel⟩, List.mem_of_getElem? (i := 718) (by decide +kernel), List.mem_of_getElem? (i := 936) (by decide +kernel), List.mem_of_getElem? (i := 937) (by decide +kernel)⟩
theorem lw_p38 : lw_okq (⟨"ResumableCoderModel", "some", "(III)Z"⟩, 32) := ⟨⟨by decide +kernel, by decide +kernel⟩, List.mem_of_getElem? (i := 718) (by decide +kernel), List.mem_of_getElem? (i := 940) (by decide +kernel), List.mem_of_getElem? (i := 941) (by decide +kernel)⟩
theorem lw_p39 : lw_okq (⟨"ResumableCoderModel", "encodeSixteen", "()I"⟩, 32) := ⟨⟨by decide +kernel, by decide +kernel⟩, List.mem_of_getElem? (i := 718) (by decide +kernel), List.mem_of_getElem? (i := 945) (by decide +kernel), List.mem_of_getElem? (i := 946) (by decide +kernel)⟩
theorem lw_p40 : lw_okq (⟨"ResumableCoderModel", "putSixteen", "(IZ)V"⟩, 32) := ⟨⟨by decide +kernel, by decide +kernel⟩, List.mem_of_getElem? (i := 718) (by decide +kernel), List.mem_of_getElem? (i := 949) (by decide +kernel), List.mem_of_getElem? (i := 950) (by decide +kernel)⟩
theorem lw_p41 : lw_okq (⟨"ResumableCoderModel", "decodeSixteen", "()I"⟩, 32) := ⟨⟨by decide +kernel, by decide +kernel⟩, List.mem_of_getElem? (i := 718) (by decide +kernel), List.mem_of_getElem? (i := 953) (by decide +kernel), List.mem_of_getElem? (i := 954) (by decide +kernel)⟩
theorem lw_p42 : lw_okq (⟨"ResumableCoderModel", "character", "(I)I"⟩, 32) := ⟨⟨by decide +kernel, by decide +kernel⟩, List.mem_of_getElem? (i := 718) (by decide +kernel), List.mem_of_getElem? (i := 957) (by decide +kernel), List.mem_of_getElem? (i := 958) (by decide +kernel)⟩
theorem lw_p43 : lw_okq (⟨"ResumableCoderModel", "encodeSeven", "()I"⟩, 32) := ⟨⟨by decide +kernel, by decide +kernel⟩, List.mem_of_getElem? (i := 718) (by decide +kernel), List.mem_of_getElem? (i := 961) (by decide +kernel), List.mem_of_getElem? (i := 962) (by decide +kernel)⟩
theorem lw_p44 : lw_okq (⟨"ResumableCoderModel", "unshift", "()V"⟩, 32) := ⟨⟨by decide +kernel, by decide +kernel⟩, List.mem_of_getElem? (i := 718) (by decide +kernel), List.mem_of_getElem? (i := 968) (by decide +kernel), List.mem_of_getElem? (i := 969) (by decide +kernel)⟩
theorem lw_p45 : lw_okq (⟨"ResumableCoderModel", "decodeSeven", "()I"⟩, 32) := ⟨⟨by decide +kernel, by decide +kernel⟩, List.mem_of_getElem? (i := 718) (by decide +kernel), List.mem_of_getElem? (i := 975) (by decide +kernel), List.mem_of_getElem? (i := 976) (by decide +kernel)⟩
theorem lw_p46 : lw_okq (⟨"ResumableCoderModel", "encodePage", "()I"⟩, 32) := ⟨⟨by decide +kernel, by decide +kernel⟩, List.mem_of_getElem? (i := 718) (by decide +kernel), List.mem_of_getElem? (i := 982) (by decide +kernel), List.mem_of_getElem? (i := 983) (by decide +kernel)⟩
theorem lw_p47 : lw_okq (⟨"ResumableCoderModel", "decodePage", "()I"⟩, 32) := ⟨⟨by decide +kernel, by decide +kernel⟩, List.mem_of_getElem? (i := 718) (by decide +kernel), List.mem_of_getElem? (i := 986) (by decide +kernel), List.mem_of_getElem? (i := 987) (by decide +kernel)⟩
def lw_privs_3 : List (MethodName × Nat) := [(⟨"ResumableCoderModel", "result", "(I)V"⟩, 32), (⟨"ResumableCoderModel", "step", "(I)I"⟩, 32), (⟨"ResumableCoderModel", "fault", "(II)I"⟩, 32), (⟨"ResumableCoderModel", "decodeEight", "()I"⟩, 32), (⟨"ResumableCoderModel", "begins", "(I)Z"⟩, 32), (⟨"ResumableCoderModel", "least", "(II)I"⟩, 32), (⟨"ResumableCoderModel", "some", "(III)Z"⟩, 32), (⟨"ResumableCoderModel", "encodeSixteen", "()I"⟩, 32), (⟨"ResumableCoderModel", "putSixteen", "(IZ)V"⟩, 32), (⟨"ResumableCoderModel", "decodeSixteen", "()I"⟩, 32), (⟨"ResumableCoderModel", "character", "(I)I"⟩, 32), (⟨"ResumableCoderModel", "encodeSeven", "()I"⟩, 32), (⟨"ResumableCoderModel", "unshift", "()V"⟩, 32), (⟨"ResumableCoderModel", "decodeSeven", "()I"⟩, 32), (⟨"ResumableCoderModel", "encodePage", "()I"⟩, 32), (⟨"ResumableCoderModel", "decodePage", "()I"⟩, 32)]
theorem lw_r3 : ∀ q ∈ lw_privs_3, lw_okq q := List.forall_mem_cons.mpr ⟨lw_p32, List.forall_mem_cons.mpr ⟨lw_p33, List.forall_mem_cons.mpr ⟨lw_p34, List.forall_mem_cons.mpr ⟨lw_p35, List.forall_mem_cons.mpr ⟨lw_p36, List.forall_mem_cons.mpr ⟨lw_p37, List.forall_mem_cons.mpr ⟨lw_p38, List.forall_mem_cons.mpr ⟨lw_p39, List.forall_mem_cons.mpr ⟨lw_p40, List.forall_mem_cons.mpr ⟨lw_p41, List.forall_mem_cons.mpr ⟨lw_p42, List.forall_mem_cons.mpr ⟨lw_p43, List.forall_mem_cons.mpr ⟨lw_p44, List.forall_mem_cons.mpr ⟨lw_p45, List.forall_mem_cons.mpr ⟨lw_p46, List.forall_mem_cons.mpr ⟨lw_p47, fun _ h => absurd h List.not_mem_nil⟩⟩⟩⟩⟩⟩⟩⟩⟩⟩⟩⟩⟩⟩⟩⟩
theorem lw_p48 : lw_okq (⟨"ResumableCoderModel", "fits", "(I)Z"⟩, 32) := ⟨⟨by decide +kernel, by decide +kernel⟩, List.mem_of_getElem? (i := 718) (by decide +kernel), List.mem_of_getElem? (i := 990) (by decide +kernel), List.mem_of_getElem? (i := 991) (by decide +kernel)⟩
theorem lw_p49 : lw_okq (⟨"ResumableCoderModel", "putOut", "()V"⟩, 32) := ⟨⟨by decide +kernel, by decide +kernel⟩, List.mem_of_getElem? (i := 718) (by decide +kernel), List.mem_of_getElem? (i := 994) (by decide +kernel), List.mem_of_getElem? (i := 995) (by decide +kernel)⟩
theorem lw_p50 : lw_okq (⟨"ResumableCoderModel", "become", "()V"⟩, 32) := ⟨⟨by decide +kernel, by decide +kernel⟩, List.mem_of_getElem? (i := 718) (by decide +kernel), List.mem_of_getElem? (i := 998) (by decide +kernel), List.mem_of_getElem? (i := 999) (by decide +kernel)⟩
theorem lw_p51 : lw_okq (⟨"ResumableCoderModel", "meet", "(Z)I"⟩, 32) := ⟨⟨by decide +kernel, by decide +kernel⟩, List.mem_of_getElem? (i := 718) (by decide +kernel), List.mem_of_getElem? (i := 1002) (by decide +kernel), List.mem_of_getElem? (i := 1003) (by decide +kernel)⟩
theorem lw_p52 : lw_okq (⟨"ResumableCoderModel", "replacement", "()V"⟩, 32) := ⟨⟨by decide +kernel, by decide +kernel⟩, List.mem_of_getElem? (i := 718) (by decide +kernel), List.mem_of_getElem? (i := 1006) (by decide +kernel), List.mem_of_getElem? (i := 1007) (by decide +kernel)⟩
def lw_privs_4 : List (MethodName × Nat) := [(⟨"ResumableCoderModel", "fits", "(I)Z"⟩, 32), (⟨"ResumableCoderModel", "putOut", "()V"⟩, 32), (⟨"ResumableCoderModel", "become", "()V"⟩, 32), (⟨"ResumableCoderModel", "meet", "(Z)I"⟩, 32), (⟨"ResumableCoderModel", "replacement", "()V"⟩, 32)]
theorem lw_r4 : ∀ q ∈ lw_privs_4, lw_okq q := List.forall_mem_cons.mpr ⟨lw_p48, List.forall_mem_cons.mpr ⟨lw_p49, List.forall_mem_cons.mpr ⟨lw_p50, List.forall_mem_cons.mpr ⟨lw_p51, List.forall_mem_cons.mpr ⟨lw_p52, fun _ h => absurd h List.not_mem_nil⟩⟩⟩⟩⟩
def lw_privs : List (MethodName × Nat) := lw_privs_1 ++ (lw_privs_2 ++ (lw_privs_3 ++ (lw_privs_4)))
def lw_tbl : List Cond := k2_sels lw_privs ++ tables_1
theorem lw_privs_ok : ∀ q ∈ lw_privs, lw_okq q := by
  show ∀ q ∈ lw_privs_1 ++ (lw_privs_2 ++ (lw_privs_3 ++ (lw_privs_4))), lw_okq q
  exact List.forall_mem_append.mpr ⟨lw_r1, List.forall_mem_append.mpr ⟨lw_r2, List.forall_mem_append.mpr ⟨lw_r3, lw_r4⟩⟩⟩
def RX0 : String := "ResumableCoder$Form"
def TX0 : u_T := fun k => match k with
  | _ => ("", "", "", false)
def tyX0 : Nat → FieldType := fun k => match k with
  | _ => .int
theorem nmX0 : ∀ a, a < 0 → ∀ b, b < 0 → a ≠ b → (TX0 a).2.1 ≠ (TX0 b).2.1 := by decide +kernel
theorem tyX0_ok : ∀ k, k < 0 → parseFieldDescriptor (TX0 k).2.2.1 = some (tyX0 k) := by decide +kernel
abbrev cX0_init : ByteArray := prog_2_method_1_code
def yX0_init : MethodName := ⟨RX0, "<init>", "()V"⟩
abbrev cX0_begin : ByteArray := prog_2_method_4_code
def yX0_begin : MethodName := ⟨RX0, "begin", "()V"⟩
abbrev cX0_stepMade : ByteArray := prog_2_method_5_code
def yX0_stepMade : MethodName := ⟨RX0, "stepMade", "()V"⟩
abbrev cX0_passedOver : ByteArray := prog_2_method_6_code
def yX0_passedOver : MethodName := ⟨RX0, "passedOver", "()V"⟩
abbrev cX0_finish : ByteArray := prog_2_method_7_code
def yX0_finish : MethodName := ⟨RX0, "finish", "(LResumableCoder$Move;)Z"⟩
abbrev cX0_addReplacement : ByteArray := prog_2_method_8_code
def yX0_addReplacement : MethodName := ⟨RX0, "addReplacement", "(LResumableCoder$Move;)V"⟩
def RX1 : String := "ResumableCoder$Move"
def TX1 : u_T := fun k => match k with
  | 0 => ("ResumableCoder$Move", "units", "[I", true)
  | 1 => ("ResumableCoder$Move", "kind", "I", false)
  | 2 => ("ResumableCoder$Move", "takes", "I", false)
  | _ => ("ResumableCoder$Move", "puts", "I", false)
def tyX1 : Nat → FieldType := fun k => match k with
  | 0 => .array .int
  | 1 => .int
  | 2 => .int
  | _ => .int
theorem nmX1 : ∀ a, a < 4 → ∀ b, b < 4 → a ≠ b → (TX1 a).2.1 ≠ (TX1 b).2.1 := by decide +kernel
theorem tyX1_ok : ∀ k, k < 4 → parseFieldDescriptor (TX1 k).2.2.1 = some (tyX1 k) := by decide +kernel
abbrev cX1_init : ByteArray := prog_3_method_1_code
def yX1_init : MethodName := ⟨RX1, "<init>", "()V"⟩
abbrev cX1_setNeed : ByteArray := prog_3_method_2_code
def yX1_setNeed : MethodName := ⟨RX1, "setNeed", "()V"⟩
abbrev cX1_setStep : ByteArray := prog_3_method_3_code
def yX1_setStep : MethodName := ⟨RX1, "setStep", "(I)V"⟩
abbrev cX1_setBad : ByteArray := prog_3_method_4_code
def yX1_setBad : MethodName := ⟨RX1, "setBad", "(I)V"⟩
abbrev cX1_setUnknown : ByteArray := prog_3_method_5_code
def yX1_setUnknown : MethodName := ⟨RX1, "setUnknown", "(I)V"⟩
abbrev cX1_add : ByteArray := prog_3_method_6_code
def yX1_add : MethodName := ⟨RX1, "add", "(I)V"⟩
abbrev cX1_unitAt : ByteArray := prog_3_method_7_code
def yX1_unitAt : MethodName := ⟨RX1, "unitAt", "(I)I"⟩
abbrev cX1_set : ByteArray := prog_3_method_8_code
def yX1_set : MethodName := ⟨RX1, "set", "(II)V"⟩
def RX2 : String := "ResumableCoder$Page"
def TX2 : u_T := fun k => match k with
  | _ => ("ResumableCoder$Page", "characters", "[I", true)
def tyX2 : Nat → FieldType := fun k => match k with
  | _ => .array .int
theorem nmX2 : ∀ a, a < 1 → ∀ b, b < 1 → a ≠ b → (TX2 a).2.1 ≠ (TX2 b).2.1 := by decide +kernel
theorem tyX2_ok : ∀ k, k < 1 → parseFieldDescriptor (TX2 k).2.2.1 = some (tyX2 k) := by decide +kernel
abbrev cX2_init : ByteArray := prog_4_method_1_code
def yX2_init : MethodName := ⟨RX2, "<init>", "()V"⟩
abbrev cX2_assign : ByteArray := prog_4_method_2_code
def yX2_assign : MethodName := ⟨RX2, "assign", "(II)V"⟩
abbrev cX2_encode : ByteArray := prog_4_method_3_code
def yX2_encode : MethodName := ⟨RX2, "encode", "(LResumableCoder$Units;LResumableCoder$Move;)V"⟩
abbrev cX2_decode : ByteArray := prog_4_method_4_code
def yX2_decode : MethodName := ⟨RX2, "decode", "(LResumableCoder$Units;LResumableCoder$Move;)V"⟩
abbrev cX2_characterOf : ByteArray := prog_4_method_5_code
def yX2_characterOf : MethodName := ⟨RX2, "characterOf", "(I)I"⟩
abbrev cX2_leastByteOf : ByteArray := prog_4_method_6_code
def yX2_leastByteOf : MethodName := ⟨RX2, "leastByteOf", "(I)I"⟩
def RX3 : String := "ResumableCoder$Shift"
def TX3 : u_T := fun k => match k with
  | 0 => ("ResumableCoder$Shift", "shifted", "Z", false)
  | 1 => ("ResumableCoder$Shift", "justBegun", "Z", false)
  | 2 => ("ResumableCoder$Shift", "bits", "I", false)
  | _ => ("ResumableCoder$Shift", "kept", "I", false)
def tyX3 : Nat → FieldType := fun k => match k with
  | 0 => .boolean
  | 1 => .boolean
  | 2 => .int
  | _ => .int
theorem nmX3 : ∀ a, a < 4 → ∀ b, b < 4 → a ≠ b → (TX3 a).2.1 ≠ (TX3 b).2.1 := by decide +kernel
theorem tyX3_ok : ∀ k, k < 4 → parseFieldDescriptor (TX3 k).2.2.1 = some (tyX3 k) := by decide +kernel
abbrev cX3_init : ByteArray := prog_5_method_1_code
def yX3_init : MethodName := ⟨RX3, "<init>", "()V"⟩
abbrev cX3_becomePlain : ByteArray := prog_5_method_2_code
def yX3_becomePlain : MethodName := ⟨RX3, "becomePlain", "()V"⟩
abbrev cX3_becomeShifted : ByteArray := prog_5_method_3_code
def yX3_becomeShifted : MethodName := ⟨RX3, "becomeShifted", "()V"⟩
abbrev cX3_copy : ByteArray := prog_5_method_4_code
def yX3_copy : MethodName := ⟨RX3, "copy", "(LResumableCoder$Shift;)V"⟩
abbrev cX3_keep : ByteArray := prog_5_method_5_code
def yX3_keep : MethodName := ⟨RX3, "keep", "(II)V"⟩
abbrev cX3_removeFirst : ByteArray := prog_5_method_6_code
def yX3_removeFirst : MethodName := ⟨RX3, "removeFirst", "(I)I"⟩
abbrev cX3_holdsRemains : ByteArray := prog_5_method_7_code
def yX3_holdsRemains : MethodName := ⟨RX3, "holdsRemains", "()Z"⟩
def RX4 : String := "ResumableCoder$Surrogates"
def TX4 : u_T := fun k => match k with
  | _ => ("", "", "", false)
def tyX4 : Nat → FieldType := fun k => match k with
  | _ => .int
theorem nmX4 : ∀ a, a < 0 → ∀ b, b < 0 → a ≠ b → (TX4 a).2.1 ≠ (TX4 b).2.1 := by decide +kernel
theorem tyX4_ok : ∀ k, k < 0 → parseFieldDescriptor (TX4 k).2.2.1 = some (tyX4 k) := by decide +kernel
abbrev cX4_isHigh : ByteArray := prog_6_method_2_code
def yX4_isHigh : MethodName := ⟨RX4, "isHigh", "(I)Z"⟩
abbrev cX4_isLow : ByteArray := prog_6_method_3_code
def yX4_isLow : MethodName := ⟨RX4, "isLow", "(I)Z"⟩
abbrev cX4_isEither : ByteArray := prog_6_method_4_code
def yX4_isEither : MethodName := ⟨RX4, "isEither", "(I)Z"⟩
abbrev cX4_isPair : ByteArray := prog_6_method_5_code
def yX4_isPair : MethodName := ⟨RX4, "isPair", "(II)Z"⟩
abbrev cX4_codePoint : ByteArray := prog_6_method_6_code
def yX4_codePoint : MethodName := ⟨RX4, "codePoint", "(II)I"⟩
abbrev cX4_addCharacters : ByteArray := prog_6_method_7_code
def yX4_addCharacters : MethodName := ⟨RX4, "addCharacters", "(ILResumableCoder$Move;)V"⟩
abbrev cX4_setForUnpaired : ByteArray := prog_6_method_8_code
def yX4_setForUnpaired : MethodName := ⟨RX4, "setForUnpaired", "(LResumableCoder$Units;LResumableCoder$Move;)V"⟩
def RX5 : String := "ResumableCoder$Units"
def TX5 : u_T := fun k => match k with
  | 0 => ("ResumableCoder$Units", "row", "[I", true)
  | _ => ("ResumableCoder$Units", "size", "I", false)
def tyX5 : Nat → FieldType := fun k => match k with
  | 0 => .array .int
  | _ => .int
theorem nmX5 : ∀ a, a < 2 → ∀ b, b < 2 → a ≠ b → (TX5 a).2.1 ≠ (TX5 b).2.1 := by decide +kernel
theorem tyX5_ok : ∀ k, k < 2 → parseFieldDescriptor (TX5 k).2.2.1 = some (tyX5 k) := by decide +kernel
abbrev cX5_init : ByteArray := prog_7_method_1_code
def yX5_init : MethodName := ⟨RX5, "<init>", "(I)V"⟩
abbrev cX5_count : ByteArray := prog_7_method_2_code
def yX5_count : MethodName := ⟨RX5, "count", "()I"⟩
abbrev cX5_at : ByteArray := prog_7_method_3_code
def yX5_at : MethodName := ⟨RX5, "at", "(I)I"⟩
abbrev cX5_add : ByteArray := prog_7_method_4_code
def yX5_add : MethodName := ⟨RX5, "add", "(I)V"⟩
abbrev cX5_drop : ByteArray := prog_7_method_5_code
def yX5_drop : MethodName := ⟨RX5, "drop", "(I)V"⟩
abbrev cX5_clear : ByteArray := prog_7_method_6_code
def yX5_clear : MethodName := ⟨RX5, "clear", "()V"⟩
def RX6 : String := "ResumableCoder$Utf16"
def TX6 : u_T := fun k => match k with
  | 0 => ("ResumableCoder$Utf16", "marked", "Z", true)
  | 1 => ("ResumableCoder$Utf16", "little", "Z", true)
  | 2 => ("ResumableCoder$Utf16", "first", "Z", false)
  | 3 => ("ResumableCoder$Utf16", "highLast", "Z", false)
  | _ => ("ResumableCoder$Utf16", "nextHighLast", "Z", false)
def tyX6 : Nat → FieldType := fun k => match k with
  | 0 => .boolean
  | 1 => .boolean
  | 2 => .boolean
  | 3 => .boolean
  | _ => .boolean
theorem nmX6 : ∀ a, a < 5 → ∀ b, b < 5 → a ≠ b → (TX6 a).2.1 ≠ (TX6 b).2.1 := by decide +kernel
theorem tyX6_ok : ∀ k, k < 5 → parseFieldDescriptor (TX6 k).2.2.1 = some (tyX6 k) := by decide +kernel
abbrev cX6_init : ByteArray := prog_8_method_1_code
def yX6_init : MethodName := ⟨RX6, "<init>", "(ZZ)V"⟩
abbrev cX6_begin : ByteArray := prog_8_method_2_code
def yX6_begin : MethodName := ⟨RX6, "begin", "()V"⟩
abbrev cX6_stepMade : ByteArray := prog_8_method_3_code
def yX6_stepMade : MethodName := ⟨RX6, "stepMade", "()V"⟩
abbrev cX6_passedOver : ByteArray := prog_8_method_4_code
def yX6_passedOver : MethodName := ⟨RX6, "passedOver", "()V"⟩
abbrev cX6_encode : ByteArray := prog_8_method_5_code
def yX6_encode : MethodName := ⟨RX6, "encode", "(LResumableCoder$Units;LResumableCoder$Move;)V"⟩
abbrev cX6_addReplacement : ByteArray := prog_8_method_6_code
def yX6_addReplacement : MethodName := ⟨RX6, "addReplacement", "(LResumableCoder$Move;)V"⟩
abbrev cX6_decode : ByteArray := prog_8_method_7_code
def yX6_decode : MethodName := ⟨RX6, "decode", "(LResumableCoder$Units;LResumableCoder$Move;)V"⟩
abbrev cX6_isMark : ByteArray := prog_8_method_8_code
def yX6_isMark : MethodName := ⟨RX6, "isMark", "(II)Z"⟩
abbrev cX6_decodeCharacter : ByteArray := prog_8_method_9_code
def yX6_decodeCharacter : MethodName := ⟨RX6, "decodeCharacter", "(LResumableCoder$Units;LResumableCoder$Move;)V"⟩
abbrev cX6_characterAt : ByteArray := prog_8_method_10_code
def yX6_characterAt : MethodName := ⟨RX6, "characterAt", "(LResumableCoder$Units;I)I"⟩
abbrev cX6_addBytes : ByteArray := prog_8_method_11_code
def yX6_addBytes : MethodName := ⟨RX6, "addBytes", "(ILResumableCoder$Move;)V"⟩
def RX7 : String := "ResumableCoder$Utf7"
def TX7 : u_T := fun k => match k with
  | 0 => ("ResumableCoder$Utf7", "now", "LResumableCoder$Shift;", true)
  | _ => ("ResumableCoder$Utf7", "next", "LResumableCoder$Shift;", true)
def tyX7 : Nat → FieldType := fun k => match k with
  | 0 => .object "ResumableCoder$Shift"
  | _ => .object "ResumableCoder$Shift"
theorem nmX7 : ∀ a, a < 2 → ∀ b, b < 2 → a ≠ b → (TX7 a).2.1 ≠ (TX7 b).2.1 := by decide +kernel
theorem tyX7_ok : ∀ k, k < 2 → parseFieldDescriptor (TX7 k).2.2.1 = some (tyX7 k) := by decide +kernel
abbrev cX7_init : ByteArray := prog_9_method_1_code
def yX7_init : MethodName := ⟨RX7, "<init>", "()V"⟩
abbrev cX7_begin : ByteArray := prog_9_method_2_code
def yX7_begin : MethodName := ⟨RX7, "begin", "()V"⟩
abbrev cX7_stepMade : ByteArray := prog_9_method_3_code
def yX7_stepMade : MethodName := ⟨RX7, "stepMade", "()V"⟩
abbrev cX7_passedOver : ByteArray := prog_9_method_4_code
def yX7_passedOver : MethodName := ⟨RX7, "passedOver", "()V"⟩
abbrev cX7_encode : ByteArray := prog_9_method_5_code
def yX7_encode : MethodName := ⟨RX7, "encode", "(LResumableCoder$Units;LResumableCoder$Move;)V"⟩
abbrev cX7_finish : ByteArray := prog_9_method_6_code
def yX7_finish : MethodName := ⟨RX7, "finish", "(LResumableCoder$Move;)Z"⟩
abbrev cX7_encodeShifted : ByteArray := prog_9_method_7_code
def yX7_encodeShifted : MethodName := ⟨RX7, "encodeShifted", "(ILResumableCoder$Move;)V"⟩
abbrev cX7_leaveShift : ByteArray := prog_9_method_8_code
def yX7_leaveShift : MethodName := ⟨RX7, "leaveShift", "(LResumableCoder$Move;)V"⟩
abbrev cX7_decode : ByteArray := prog_9_method_9_code
def yX7_decode : MethodName := ⟨RX7, "decode", "(LResumableCoder$Units;LResumableCoder$Move;)V"⟩
abbrev cX7_decodePlain : ByteArray := prog_9_method_10_code
def yX7_decodePlain : MethodName := ⟨RX7, "decodePlain", "(ILResumableCoder$Move;)V"⟩
abbrev cX7_decodeSign : ByteArray := prog_9_method_11_code
def yX7_decodeSign : MethodName := ⟨RX7, "decodeSign", "(ILResumableCoder$Move;)V"⟩
abbrev cX7_decodeEnd : ByteArray := prog_9_method_12_code
def yX7_decodeEnd : MethodName := ⟨RX7, "decodeEnd", "(ILResumableCoder$Move;)V"⟩
abbrev cX7_isDirect : ByteArray := prog_9_method_13_code
def yX7_isDirect : MethodName := ⟨RX7, "isDirect", "(I)Z"⟩
abbrev cX7_valueOf : ByteArray := prog_9_method_14_code
def yX7_valueOf : MethodName := ⟨RX7, "valueOf", "(I)I"⟩
def RX8 : String := "ResumableCoder$Utf8"
def TX8 : u_T := fun k => match k with
  | _ => ("ResumableCoder$Utf8", "modified", "Z", true)
def tyX8 : Nat → FieldType := fun k => match k with
  | _ => .boolean
theorem nmX8 : ∀ a, a < 1 → ∀ b, b < 1 → a ≠ b → (TX8 a).2.1 ≠ (TX8 b).2.1 := by decide +kernel
theorem tyX8_ok : ∀ k, k < 1 → parseFieldDescriptor (TX8 k).2.2.1 = some (tyX8 k) := by decide +kernel
abbrev cX8_init : ByteArray := prog_10_method_1_code
def yX8_init : MethodName := ⟨RX8, "<init>", "(Z)V"⟩
abbrev cX8_encode : ByteArray := prog_10_method_2_code
def yX8_encode : MethodName := ⟨RX8, "encode", "(LResumableCoder$Units;LResumableCoder$Move;)V"⟩
abbrev cX8_decode : ByteArray := prog_10_method_3_code
def yX8_decode : MethodName := ⟨RX8, "decode", "(LResumableCoder$Units;LResumableCoder$Move;)V"⟩
abbrev cX8_addEncoding : ByteArray := prog_10_method_4_code
def yX8_addEncoding : MethodName := ⟨RX8, "addEncoding", "(ILResumableCoder$Move;)V"⟩
abbrev cX8_addLast : ByteArray := prog_10_method_5_code
def yX8_addLast : MethodName := ⟨RX8, "addLast", "(IILResumableCoder$Move;)V"⟩
abbrev cX8_lengthBehind : ByteArray := prog_10_method_6_code
def yX8_lengthBehind : MethodName := ⟨RX8, "lengthBehind", "(I)I"⟩
abbrev cX8_countFitting : ByteArray := prog_10_method_7_code
def yX8_countFitting : MethodName := ⟨RX8, "countFitting", "(LResumableCoder$Units;I)I"⟩
abbrev cX8_isNext : ByteArray := prog_10_method_8_code
def yX8_isNext : MethodName := ⟨RX8, "isNext", "(LResumableCoder$Units;I)Z"⟩
abbrev cX8_leastSecond : ByteArray := prog_10_method_9_code
def yX8_leastSecond : MethodName := ⟨RX8, "leastSecond", "(I)I"⟩
abbrev cX8_greatestSecond : ByteArray := prog_10_method_10_code
def yX8_greatestSecond : MethodName := ⟨RX8, "greatestSecond", "(I)I"⟩
abbrev cX8_codePointOf : ByteArray := prog_10_method_11_code
def yX8_codePointOf : MethodName := ⟨RX8, "codePointOf", "(LResumableCoder$Units;I)I"⟩
def RX9 : String := "ResumableCoder"
def TX9 : u_T := fun k => match k with
  | 0 => ("ResumableCoder", "page", "LResumableCoder$Page;", true)
  | 1 => ("ResumableCoder", "forms", "[LResumableCoder$Form;", true)
  | 2 => ("ResumableCoder", "input", "LResumableCoder$Units;", true)
  | 3 => ("ResumableCoder", "output", "LResumableCoder$Units;", true)
  | 4 => ("ResumableCoder", "move", "LResumableCoder$Move;", true)
  | 5 => ("ResumableCoder", "form", "LResumableCoder$Form;", false)
  | 6 => ("ResumableCoder", "phase", "I", false)
  | 7 => ("ResumableCoder", "encoding", "Z", false)
  | 8 => ("ResumableCoder", "badAction", "I", false)
  | 9 => ("ResumableCoder", "unknownAction", "I", false)
  | 10 => ("ResumableCoder", "roomNow", "I", false)
  | 11 => ("ResumableCoder", "takenCount", "I", false)
  | 12 => ("ResumableCoder", "putCount", "I", false)
  | 13 => ("ResumableCoder", "faultCount", "I", false)
  | _ => ("ResumableCoder", "reported", "I", false)
def tyX9 : Nat → FieldType := fun k => match k with
  | 0 => .object "ResumableCoder$Page"
  | 1 => .array (.object "ResumableCoder$Form")
  | 2 => .object "ResumableCoder$Units"
  | 3 => .object "ResumableCoder$Units"
  | 4 => .object "ResumableCoder$Move"
  | 5 => .object "ResumableCoder$Form"
  | 6 => .int
  | 7 => .boolean
  | 8 => .int
  | 9 => .int
  | 10 => .int
  | 11 => .int
  | 12 => .int
  | 13 => .int
  | _ => .int
theorem nmX9 : ∀ a, a < 15 → ∀ b, b < 15 → a ≠ b → (TX9 a).2.1 ≠ (TX9 b).2.1 := by decide +kernel
theorem tyX9_ok : ∀ k, k < 15 → parseFieldDescriptor (TX9 k).2.2.1 = some (tyX9 k) := by decide +kernel
abbrev cX9_init : ByteArray := prog_1_method_1_code
def yX9_init : MethodName := ⟨RX9, "<init>", "()V"⟩
abbrev cX9_open : ByteArray := prog_1_method_2_code
def yX9_open : MethodName := ⟨RX9, "open", "(IZII)Z"⟩
abbrev cX9_map : ByteArray := prog_1_method_3_code
def yX9_map : MethodName := ⟨RX9, "map", "(II)Z"⟩
abbrev cX9_give : ByteArray := prog_1_method_4_code
def yX9_give : MethodName := ⟨RX9, "give", "(I)Z"⟩
abbrev cX9_room : ByteArray := prog_1_method_5_code
def yX9_room : MethodName := ⟨RX9, "room", "(I)Z"⟩
abbrev cX9_code : ByteArray := prog_1_method_6_code
def yX9_code : MethodName := ⟨RX9, "code", "(Z)I"⟩
abbrev cX9_flush : ByteArray := prog_1_method_7_code
def yX9_flush : MethodName := ⟨RX9, "flush", "()I"⟩
abbrev cX9_reset : ByteArray := prog_1_method_8_code
def yX9_reset : MethodName := ⟨RX9, "reset", "()Z"⟩
abbrev cX9_pass : ByteArray := prog_1_method_9_code
def yX9_pass : MethodName := ⟨RX9, "pass", "()Z"⟩
abbrev cX9_fetch : ByteArray := prog_1_method_10_code
def yX9_fetch : MethodName := ⟨RX9, "fetch", "()I"⟩
abbrev cX9_state : ByteArray := prog_1_method_11_code
def yX9_state : MethodName := ⟨RX9, "state", "()I"⟩
abbrev cX9_waiting : ByteArray := prog_1_method_12_code
def yX9_waiting : MethodName := ⟨RX9, "waiting", "()I"⟩
abbrev cX9_ready : ByteArray := prog_1_method_13_code
def yX9_ready : MethodName := ⟨RX9, "ready", "()I"⟩
abbrev cX9_taken : ByteArray := prog_1_method_14_code
def yX9_taken : MethodName := ⟨RX9, "taken", "()I"⟩
abbrev cX9_put : ByteArray := prog_1_method_15_code
def yX9_put : MethodName := ⟨RX9, "put", "()I"⟩
abbrev cX9_faults : ByteArray := prog_1_method_16_code
def yX9_faults : MethodName := ⟨RX9, "faults", "()I"⟩
abbrev cX9_isBelow : ByteArray := prog_1_method_17_code
def yX9_isBelow : MethodName := ⟨RX9, "isBelow", "(II)Z"⟩
abbrev cX9_startAfresh : ByteArray := prog_1_method_18_code
def yX9_startAfresh : MethodName := ⟨RX9, "startAfresh", "()V"⟩
abbrev cX9_makeMoves : ByteArray := prog_1_method_19_code
def yX9_makeMoves : MethodName := ⟨RX9, "makeMoves", "(Z)I"⟩
abbrev cX9_look : ByteArray := prog_1_method_20_code
def yX9_look : MethodName := ⟨RX9, "look", "()V"⟩
abbrev cX9_makeStep : ByteArray := prog_1_method_21_code
def yX9_makeStep : MethodName := ⟨RX9, "makeStep", "()I"⟩
abbrev cX9_meetFault : ByteArray := prog_1_method_22_code
def yX9_meetFault : MethodName := ⟨RX9, "meetFault", "()I"⟩
abbrev cX9_addReplacement : ByteArray := prog_1_method_23_code
def yX9_addReplacement : MethodName := ⟨RX9, "addReplacement", "()V"⟩
abbrev cX9_fits : ByteArray := prog_1_method_24_code
def yX9_fits : MethodName := ⟨RX9, "fits", "()Z"⟩
abbrev cX9_takeUnits : ByteArray := prog_1_method_25_code
def yX9_takeUnits : MethodName := ⟨RX9, "takeUnits", "(I)V"⟩
abbrev cX9_putUnits : ByteArray := prog_1_method_26_code
def yX9_putUnits : MethodName := ⟨RX9, "putUnits", "()V"⟩
abbrev cX9_passOver : ByteArray := prog_1_method_27_code
def yX9_passOver : MethodName := ⟨RX9, "passOver", "(I)V"⟩
def RX10 : String := "ResumableCoderModel"
def TX10 : u_T := fun k => match k with
  | 0 => ("ResumableCoderModel", "there", "Z", false)
  | 1 => ("ResumableCoderModel", "set", "I", false)
  | 2 => ("ResumableCoderModel", "encodes", "Z", false)
  | 3 => ("ResumableCoderModel", "badAction", "I", false)
  | 4 => ("ResumableCoderModel", "unknownAction", "I", false)
  | 5 => ("ResumableCoderModel", "page", "[I", false)
  | 6 => ("ResumableCoderModel", "room", "I", false)
  | 7 => ("ResumableCoderModel", "state", "I", false)
  | 8 => ("ResumableCoderModel", "wait", "[I", false)
  | 9 => ("ResumableCoderModel", "waits", "I", false)
  | 10 => ("ResumableCoderModel", "ready", "[I", false)
  | 11 => ("ResumableCoderModel", "readies", "I", false)
  | 12 => ("ResumableCoderModel", "takenAll", "I", false)
  | 13 => ("ResumableCoderModel", "putAll", "I", false)
  | 14 => ("ResumableCoderModel", "met", "I", false)
  | 15 => ("ResumableCoderModel", "took", "Z", false)
  | 16 => ("ResumableCoderModel", "gave", "Z", false)
  | 17 => ("ResumableCoderModel", "swapped", "Z", false)
  | 18 => ("ResumableCoderModel", "shifted", "Z", false)
  | 19 => ("ResumableCoderModel", "begun", "Z", false)
  | 20 => ("ResumableCoderModel", "bits", "I", false)
  | 21 => ("ResumableCoderModel", "kept", "I", false)
  | 22 => ("ResumableCoderModel", "pending", "I", false)
  | 23 => ("ResumableCoderModel", "pendingBad", "Z", false)
  | 24 => ("ResumableCoderModel", "n", "I", false)
  | 25 => ("ResumableCoderModel", "out", "[I", false)
  | 26 => ("ResumableCoderModel", "outs", "I", false)
  | 27 => ("ResumableCoderModel", "nextShifted", "Z", false)
  | 28 => ("ResumableCoderModel", "nextBegun", "Z", false)
  | 29 => ("ResumableCoderModel", "nextBits", "I", false)
  | 30 => ("ResumableCoderModel", "nextKept", "I", false)
  | _ => ("ResumableCoderModel", "nextSwapped", "Z", false)
def tyX10 : Nat → FieldType := fun k => match k with
  | 0 => .boolean
  | 1 => .int
  | 2 => .boolean
  | 3 => .int
  | 4 => .int
  | 5 => .array .int
  | 6 => .int
  | 7 => .int
  | 8 => .array .int
  | 9 => .int
  | 10 => .array .int
  | 11 => .int
  | 12 => .int
  | 13 => .int
  | 14 => .int
  | 15 => .boolean
  | 16 => .boolean
  | 17 => .boolean
  | 18 => .boolean
  | 19 => .boolean
  | 20 => .int
  | 21 => .int
  | 22 => .int
  | 23 => .boolean
  | 24 => .int
  | 25 => .array .int
  | 26 => .int
  | 27 => .boolean
  | 28 => .boolean
  | 29 => .int
  | 30 => .int
  | _ => .boolean
theorem nmX10 : ∀ a, a < 32 → ∀ b, b < 32 → a ≠ b → (TX10 a).2.1 ≠ (TX10 b).2.1 := by decide +kernel
theorem tyX10_ok : ∀ k, k < 32 → parseFieldDescriptor (TX10 k).2.2.1 = some (tyX10 k) := by decide +kernel
abbrev cX10_init : ByteArray := prog_12_method_1_code
def yX10_init : MethodName := ⟨RX10, "<init>", "()V"⟩
abbrev cX10_open : ByteArray := prog_12_method_2_code
def yX10_open : MethodName := ⟨RX10, "open", "(IZII)Z"⟩
abbrev cX10_renew : ByteArray := prog_12_method_3_code
def yX10_renew : MethodName := ⟨RX10, "renew", "()V"⟩
abbrev cX10_map : ByteArray := prog_12_method_4_code
def yX10_map : MethodName := ⟨RX10, "map", "(II)Z"⟩
abbrev cX10_give : ByteArray := prog_12_method_5_code
def yX10_give : MethodName := ⟨RX10, "give", "(I)Z"⟩
abbrev cX10_room : ByteArray := prog_12_method_6_code
def yX10_room : MethodName := ⟨RX10, "room", "(I)Z"⟩
abbrev cX10_reset : ByteArray := prog_12_method_7_code
def yX10_reset : MethodName := ⟨RX10, "reset", "()Z"⟩
abbrev cX10_fetch : ByteArray := prog_12_method_8_code
def yX10_fetch : MethodName := ⟨RX10, "fetch", "()I"⟩
abbrev cX10_state : ByteArray := prog_12_method_9_code
def yX10_state : MethodName := ⟨RX10, "state", "()I"⟩
abbrev cX10_waiting : ByteArray := prog_12_method_10_code
def yX10_waiting : MethodName := ⟨RX10, "waiting", "()I"⟩
abbrev cX10_ready : ByteArray := prog_12_method_11_code
def yX10_ready : MethodName := ⟨RX10, "ready", "()I"⟩
abbrev cX10_taken : ByteArray := prog_12_method_12_code
def yX10_taken : MethodName := ⟨RX10, "taken", "()I"⟩
abbrev cX10_put : ByteArray := prog_12_method_13_code
def yX10_put : MethodName := ⟨RX10, "put", "()I"⟩
abbrev cX10_faults : ByteArray := prog_12_method_14_code
def yX10_faults : MethodName := ⟨RX10, "faults", "()I"⟩
abbrev cX10_high : ByteArray := prog_12_method_15_code
def yX10_high : MethodName := ⟨RX10, "high", "(I)Z"⟩
abbrev cX10_low : ByteArray := prog_12_method_16_code
def yX10_low : MethodName := ⟨RX10, "low", "(I)Z"⟩
abbrev cX10_result : ByteArray := prog_12_method_17_code
def yX10_result : MethodName := ⟨RX10, "result", "(I)V"⟩
abbrev cX10_fault : ByteArray := prog_12_method_18_code
def yX10_fault : MethodName := ⟨RX10, "fault", "(II)I"⟩
abbrev cX10_step : ByteArray := prog_12_method_19_code
def yX10_step : MethodName := ⟨RX10, "step", "(I)I"⟩
abbrev cX10_look : ByteArray := prog_12_method_20_code
def yX10_look : MethodName := ⟨RX10, "look", "()I"⟩
abbrev cX10_putEight : ByteArray := prog_12_method_21_code
def yX10_putEight : MethodName := ⟨RX10, "putEight", "(I)V"⟩
abbrev cX10_encodeEight : ByteArray := prog_12_method_22_code
def yX10_encodeEight : MethodName := ⟨RX10, "encodeEight", "()I"⟩
abbrev cX10_lengthOf : ByteArray := prog_12_method_23_code
def yX10_lengthOf : MethodName := ⟨RX10, "lengthOf", "(I)I"⟩
abbrev cX10_some : ByteArray := prog_12_method_24_code
def yX10_some : MethodName := ⟨RX10, "some", "(III)Z"⟩
abbrev cX10_least : ByteArray := prog_12_method_25_code
def yX10_least : MethodName := ⟨RX10, "least", "(II)I"⟩
abbrev cX10_begins : ByteArray := prog_12_method_26_code
def yX10_begins : MethodName := ⟨RX10, "begins", "(I)Z"⟩
abbrev cX10_decodeEight : ByteArray := prog_12_method_27_code
def yX10_decodeEight : MethodName := ⟨RX10, "decodeEight", "()I"⟩
abbrev cX10_putSixteen : ByteArray := prog_12_method_28_code
def yX10_putSixteen : MethodName := ⟨RX10, "putSixteen", "(IZ)V"⟩
abbrev cX10_encodeSixteen : ByteArray := prog_12_method_29_code
def yX10_encodeSixteen : MethodName := ⟨RX10, "encodeSixteen", "()I"⟩
abbrev cX10_character : ByteArray := prog_12_method_30_code
def yX10_character : MethodName := ⟨RX10, "character", "(I)I"⟩
abbrev cX10_decodeSixteen : ByteArray := prog_12_method_31_code
def yX10_decodeSixteen : MethodName := ⟨RX10, "decodeSixteen", "()I"⟩
abbrev cX10_direct : ByteArray := prog_12_method_32_code
def yX10_direct : MethodName := ⟨RX10, "direct", "(I)Z"⟩
abbrev cX10_sign : ByteArray := prog_12_method_33_code
def yX10_sign : MethodName := ⟨RX10, "sign", "(I)I"⟩
abbrev cX10_six : ByteArray := prog_12_method_34_code
def yX10_six : MethodName := ⟨RX10, "six", "(I)I"⟩
abbrev cX10_encodeSeven : ByteArray := prog_12_method_35_code
def yX10_encodeSeven : MethodName := ⟨RX10, "encodeSeven", "()I"⟩
abbrev cX10_unshift : ByteArray := prog_12_method_36_code
def yX10_unshift : MethodName := ⟨RX10, "unshift", "()V"⟩
abbrev cX10_decodeSeven : ByteArray := prog_12_method_37_code
def yX10_decodeSeven : MethodName := ⟨RX10, "decodeSeven", "()I"⟩
abbrev cX10_decodePage : ByteArray := prog_12_method_38_code
def yX10_decodePage : MethodName := ⟨RX10, "decodePage", "()I"⟩
abbrev cX10_encodePage : ByteArray := prog_12_method_39_code
def yX10_encodePage : MethodName := ⟨RX10, "encodePage", "()I"⟩
abbrev cX10_fits : ByteArray := prog_12_method_40_code
def yX10_fits : MethodName := ⟨RX10, "fits", "(I)Z"⟩
abbrev cX10_putOut : ByteArray := prog_12_method_41_code
def yX10_putOut : MethodName := ⟨RX10, "putOut", "()V"⟩
abbrev cX10_take : ByteArray := prog_12_method_42_code
def yX10_take : MethodName := ⟨RX10, "take", "(I)V"⟩
abbrev cX10_passOver : ByteArray := prog_12_method_43_code
def yX10_passOver : MethodName := ⟨RX10, "passOver", "(IZ)V"⟩
abbrev cX10_pass : ByteArray := prog_12_method_44_code
def yX10_pass : MethodName := ⟨RX10, "pass", "()Z"⟩
abbrev cX10_become : ByteArray := prog_12_method_45_code
def yX10_become : MethodName := ⟨RX10, "become", "()V"⟩
abbrev cX10_replacement : ByteArray := prog_12_method_46_code
def yX10_replacement : MethodName := ⟨RX10, "replacement", "()V"⟩
abbrev cX10_code : ByteArray := prog_12_method_47_code
def yX10_code : MethodName := ⟨RX10, "code", "(Z)I"⟩
abbrev cX10_meet : ByteArray := prog_12_method_48_code
def yX10_meet : MethodName := ⟨RX10, "meet", "(Z)I"⟩
abbrev cX10_flush : ByteArray := prog_12_method_49_code
def yX10_flush : MethodName := ⟨RX10, "flush", "()I"⟩
def RJx145de : String := "java/io/Serializable"
def TJx145de : u_T := fun k => match k with
  | _ => ("", "", "", false)
def RJx9f9b0 : String := "java/lang/CharSequence"
def TJx9f9b0 : u_T := fun k => match k with
  | _ => ("", "", "", false)
def RJ11 : String := "java/lang/Character"
def TJ11 : u_T := fun k => match k with
  | _ => ("", "", "", false)
abbrev cJ11_isValidCodePoint_9a6ad : ByteArray := prog_13_method_11_code
def yJ11_isValidCodePoint_9a6ad : MethodName := ⟨RJ11, "isValidCodePoint", "(I)Z"⟩
abbrev cJ11_highSurrogate_5068e : ByteArray := prog_13_method_28_code
def yJ11_highSurrogate_5068e : MethodName := ⟨RJ11, "highSurrogate", "(I)C"⟩
abbrev cJ11_lowSurrogate_5068e : ByteArray := prog_13_method_29_code
def yJ11_lowSurrogate_5068e : MethodName := ⟨RJ11, "lowSurrogate", "(I)C"⟩
def RJxb160c : String := "java/lang/Comparable"
def TJxb160c : u_T := fun k => match k with
  | _ => ("", "", "", false)
def RJ9 : String := "java/lang/Math"
def TJ9 : u_T := fun k => match k with
  | _ => ("", "", "", false)
abbrev cJ9_max_7cf53 : ByteArray := prog_14_method_65_code
def yJ9_max_7cf53 : MethodName := ⟨RJ9, "max", "(II)I"⟩
abbrev cJ9_min_7cf53 : ByteArray := prog_14_method_69_code
def yJ9_min_7cf53 : MethodName := ⟨RJ9, "min", "(II)I"⟩
def RJ0 : String := "java/lang/String"
def TJ0 : u_T := fun k => match k with
  | _ => ("", "", "", false)
abbrev cJ0_length_8abf5 : ByteArray := prog_15_method_54_code
def yJ0_length_8abf5 : MethodName := ⟨RJ0, "length", "()I"⟩
abbrev cJ0_charAt_5068e : ByteArray := prog_15_method_56_code
def yJ0_charAt_5068e : MethodName := ⟨RJ0, "charAt", "(I)C"⟩
abbrev cJ0_indexOf_0f7a4 : ByteArray := prog_15_method_79_code
def yJ0_indexOf_0f7a4 : MethodName := ⟨RJ0, "indexOf", "(I)I"⟩
abbrev cJ0_indexOf_7cf53 : ByteArray := prog_15_method_80_code
def yJ0_indexOf_7cf53 : MethodName := ⟨RJ0, "indexOf", "(II)I"⟩
abbrev cJ0_coder_7d493 : ByteArray := prog_15_method_152_code
def yJ0_coder_7d493 : MethodName := ⟨RJ0, "coder", "()B"⟩
abbrev cJ0_isLatin1_aae02 : ByteArray := prog_15_method_154_code
def yJ0_isLatin1_aae02 : MethodName := ⟨RJ0, "isLatin1", "()Z"⟩
abbrev cJ0_checkIndex_df160 : ByteArray := prog_15_method_155_code
def yJ0_checkIndex_df160 : MethodName := ⟨RJ0, "checkIndex", "(II)V"⟩
abbrev cJ0_checkBoundsBeginEnd_23922 : ByteArray := prog_15_method_158_code
def yJ0_checkBoundsBeginEnd_23922 : MethodName := ⟨RJ0, "checkBoundsBeginEnd", "(III)V"⟩
def RJ1 : String := "java/lang/StringLatin1"
def TJ1 : u_T := fun k => match k with
  | _ => ("", "", "", false)
abbrev cJ1_charAt_3b067 : ByteArray := prog_16_method_2_code
def yJ1_charAt_3b067 : MethodName := ⟨RJ1, "charAt", "([BI)C"⟩
abbrev cJ1_canEncode_9a6ad : ByteArray := prog_16_method_4_code
def yJ1_canEncode_9a6ad : MethodName := ⟨RJ1, "canEncode", "(I)Z"⟩
abbrev cJ1_indexOf_4cfef : ByteArray := prog_16_method_22_code
def yJ1_indexOf_4cfef : MethodName := ⟨RJ1, "indexOf", "([BIII)I"⟩
abbrev cJ1_indexOfChar_4cfef : ByteArray := prog_16_method_23_code
def yJ1_indexOfChar_4cfef : MethodName := ⟨RJ1, "indexOfChar", "([BIII)I"⟩
def RJ2 : String := "java/lang/StringUTF16"
def TJ2 : u_T := fun k => match k with
  | _ => ("", "", "", false)
abbrev cJ2_getChar_3b067 : ByteArray := prog_17_method_5_code
def yJ2_getChar_3b067 : MethodName := ⟨RJ2, "getChar", "([BI)C"⟩
abbrev cJ2_length_9d52b : ByteArray := prog_17_method_6_code
def yJ2_length_9d52b : MethodName := ⟨RJ2, "length", "([B)I"⟩
abbrev cJ2_indexOf_4cfef : ByteArray := prog_17_method_40_code
def yJ2_indexOf_4cfef : MethodName := ⟨RJ2, "indexOf", "([BIII)I"⟩
abbrev cJ2_indexOfChar_4cfef : ByteArray := prog_17_method_47_code
def yJ2_indexOfChar_4cfef : MethodName := ⟨RJ2, "indexOfChar", "([BIII)I"⟩
abbrev cJ2_indexOfCharUnsafe_4cfef : ByteArray := prog_17_method_48_code
def yJ2_indexOfCharUnsafe_4cfef : MethodName := ⟨RJ2, "indexOfCharUnsafe", "([BIII)I"⟩
abbrev cJ2_indexOfSupplementary_4cfef : ByteArray := prog_17_method_49_code
def yJ2_indexOfSupplementary_4cfef : MethodName := ⟨RJ2, "indexOfSupplementary", "([BIII)I"⟩
abbrev cJ2_charAt_3b067 : ByteArray := prog_17_method_83_code
def yJ2_charAt_3b067 : MethodName := ⟨RJ2, "charAt", "([BI)C"⟩
abbrev cJ2_checkIndex_2214a : ByteArray := prog_17_method_91_code
def yJ2_checkIndex_2214a : MethodName := ⟨RJ2, "checkIndex", "(I[B)V"⟩
abbrev cJ2_checkBoundsBeginEnd_d044e : ByteArray := prog_17_method_93_code
def yJ2_checkBoundsBeginEnd_d044e : MethodName := ⟨RJ2, "checkBoundsBeginEnd", "(II[B)V"⟩
def RJ10 : String := "java/lang/System"
def TJ10 : u_T := fun k => match k with
  | _ => ("", "", "", false)
def RJxfd54e : String := "java/lang/constant/Constable"
def TJxfd54e : u_T := fun k => match k with
  | _ => ("", "", "", false)
def RJx3cf43 : String := "java/lang/constant/ConstantDesc"
def TJx3cf43 : u_T := fun k => match k with
  | _ => ("", "", "", false)
def RJ7 : String := "java/util/Arrays"
def TJ7 : u_T := fun k => match k with
  | _ => ("", "", "", false)
abbrev cJ7_fill_53178 : ByteArray := prog_19_method_103_code
def yJ7_fill_53178 : MethodName := ⟨RJ7, "fill", "([II)V"⟩
def RJ3 : String := "jdk/internal/util/Preconditions"
def TJ3 : u_T := fun k => match k with
  | _ => ("", "", "", false)
abbrev cJ3_checkIndex_8e157 : ByteArray := prog_20_method_11_code
def yJ3_checkIndex_8e157 : MethodName := ⟨RJ3, "checkIndex", "(IILjava/util/function/BiFunction;)I"⟩
abbrev cJ3_checkFromToIndex_8c36e : ByteArray := prog_20_method_12_code
def yJ3_checkFromToIndex_8c36e : MethodName := ⟨RJ3, "checkFromToIndex", "(IIILjava/util/function/BiFunction;)I"⟩
def RL : String := "ResumableCoderLaw"
abbrev cL_law : ByteArray := code
def yL_law : MethodName := ⟨RL, "law", "([I)Z"⟩
abbrev vwCl : List vw_C := [(RX1, TX1, 4), (RX2, TX2, 1), (RX3, TX3, 4), (RX5, TX5, 2), (RX6, TX6, 5), (RX7, TX7, 2), (RX8, TX8, 1), (RX9, TX9, 15), (RX10, TX10, 32)]
end
section
theorem dX0_init_0 : decode cX0_init 0 = .ok (.aload_n 0, 1) := by decide +kernel
theorem dX0_init_1 : decode cX0_init 1 = .ok (.invokespecial 1, 3) := by decide +kernel
theorem dX0_init_4 : decode cX0_init 4 = .ok (.return_, 1) := by decide +kernel
theorem dX0_begin_0 : decode cX0_begin 0 = .ok (.return_, 1) := by decide +kernel
theorem dX0_stepMade_0 : decode cX0_stepMade 0 = .ok (.return_, 1) := by decide +kernel
theorem dX0_passedOver_0 : decode cX0_passedOver 0 = .ok (.return_, 1) := by decide +kernel
theorem dX0_finish_0 : decode cX0_finish 0 = .ok (.iconst 0, 1) := by decide +kernel
theorem dX0_finish_1 : decode cX0_finish 1 = .ok (.ireturn, 1) := by decide +kernel
theorem dX0_addReplacement_0 : decode cX0_addReplacement 0 = .ok (.aload_n 1, 1) := by decide +kernel
theorem dX0_addReplacement_1 : decode cX0_addReplacement 1 = .ok (.bipush 63, 2) := by decide +kernel
theorem dX0_addReplacement_3 : decode cX0_addReplacement 3 = .ok (.invokevirtual 7, 3) := by decide +kernel
theorem dX0_addReplacement_6 : decode cX0_addReplacement 6 = .ok (.return_, 1) := by decide +kernel
theorem dX1_init_0 : decode cX1_init 0 = .ok (.aload_n 0, 1) := by decide +kernel
theorem dX1_init_1 : decode cX1_init 1 = .ok (.invokespecial 1, 3) := by decide +kernel
theorem dX1_init_4 : decode cX1_init 4 = .ok (.aload_n 0, 1) := by decide +kernel
theorem dX1_init_5 : decode cX1_init 5 = .ok (.iconst 4, 1) := by decide +kernel
theorem dX1_init_6 : decode cX1_init 6 = .ok (.newarray .int, 2) := by decide +kernel
theorem dX1_init_8 : decode cX1_init 8 = .ok (.putfield 9, 3) := by decide +kernel
theorem dX1_init_11 : decode cX1_init 11 = .ok (.return_, 1) := by decide +kernel
theorem dX1_setNeed_0 : decode cX1_setNeed 0 = .ok (.aload_n 0, 1) := by decide +kernel
theorem dX1_setNeed_1 : decode cX1_setNeed 1 = .ok (.iconst 0, 1) := by decide +kernel
theorem dX1_setNeed_2 : decode cX1_setNeed 2 = .ok (.iconst 0, 1) := by decide +kernel
theorem dX1_setNeed_3 : decode cX1_setNeed 3 = .ok (.invokevirtual 13, 3) := by decide +kernel
theorem dX1_setNeed_6 : decode cX1_setNeed 6 = .ok (.return_, 1) := by decide +kernel
theorem dX1_setStep_0 : decode cX1_setStep 0 = .ok (.aload_n 0, 1) := by decide +kernel
theorem dX1_setStep_1 : decode cX1_setStep 1 = .ok (.iconst 1, 1) := by decide +kernel
theorem dX1_setStep_2 : decode cX1_setStep 2 = .ok (.iload_n 1, 1) := by decide +kernel
theorem dX1_setStep_3 : decode cX1_setStep 3 = .ok (.invokevirtual 13, 3) := by decide +kernel
theorem dX1_setStep_6 : decode cX1_setStep 6 = .ok (.return_, 1) := by decide +kernel
theorem dX1_setBad_0 : decode cX1_setBad 0 = .ok (.aload_n 0, 1) := by decide +kernel
theorem dX1_setBad_1 : decode cX1_setBad 1 = .ok (.iconst 2, 1) := by decide +kernel
theorem dX1_setBad_2 : decode cX1_setBad 2 = .ok (.iload_n 1, 1) := by decide +kernel
theorem dX1_setBad_3 : decode cX1_setBad 3 = .ok (.invokevirtual 13, 3) := by decide +kernel
theorem dX1_setBad_6 : decode cX1_setBad 6 = .ok (.return_, 1) := by decide +kernel
theorem dX1_setUnknown_0 : decode cX1_setUnknown 0 = .ok (.aload_n 0, 1) := by decide +kernel
theorem dX1_setUnknown_1 : decode cX1_setUnknown 1 = .ok (.iconst 3, 1) := by decide +kernel
theorem dX1_setUnknown_2 : decode cX1_setUnknown 2 = .ok (.iload_n 1, 1) := by decide +kernel
theorem dX1_setUnknown_3 : decode cX1_setUnknown 3 = .ok (.invokevirtual 13, 3) := by decide +kernel
theorem dX1_setUnknown_6 : decode cX1_setUnknown 6 = .ok (.return_, 1) := by decide +kernel
theorem dX1_add_0 : decode cX1_add 0 = .ok (.aload_n 0, 1) := by decide +kernel
theorem dX1_add_1 : decode cX1_add 1 = .ok (.getfield 17, 3) := by decide +kernel
theorem dX1_add_4 : decode cX1_add 4 = .ok (.iconst 4, 1) := by decide +kernel
theorem dX1_add_5 : decode cX1_add 5 = .ok (.if_icmp .ge 23, 3) := by decide +kernel
theorem dX1_add_8 : decode cX1_add 8 = .ok (.aload_n 0, 1) := by decide +kernel
theorem dX1_add_9 : decode cX1_add 9 = .ok (.getfield 9, 3) := by decide +kernel
theorem dX1_add_12 : decode cX1_add 12 = .ok (.aload_n 0, 1) := by decide +kernel
theorem dX1_add_13 : decode cX1_add 13 = .ok (.getfield 17, 3) := by decide +kernel
theorem dX1_add_16 : decode cX1_add 16 = .ok (.iload_n 1, 1) := by decide +kernel
theorem dX1_add_17 : decode cX1_add 17 = .ok (.iastore, 1) := by decide +kernel
theorem dX1_add_18 : decode cX1_add 18 = .ok (.aload_n 0, 1) := by decide +kernel
theorem dX1_add_19 : decode cX1_add 19 = .ok (.dup, 1) := by decide +kernel
theorem dX1_add_20 : decode cX1_add 20 = .ok (.getfield 17, 3) := by decide +kernel
theorem dX1_add_23 : decode cX1_add 23 = .ok (.iconst 1, 1) := by decide +kernel
theorem dX1_add_24 : decode cX1_add 24 = .ok (.iadd, 1) := by decide +kernel
theorem dX1_add_25 : decode cX1_add 25 = .ok (.putfield 17, 3) := by decide +kernel
theorem dX1_add_28 : decode cX1_add 28 = .ok (.return_, 1) := by decide +kernel
theorem dX1_unitAt_0 : decode cX1_unitAt 0 = .ok (.iload_n 1, 1) := by decide +kernel
theorem dX1_unitAt_1 : decode cX1_unitAt 1 = .ok (.ifCond .lt 20, 3) := by decide +kernel
theorem dX1_unitAt_4 : decode cX1_unitAt 4 = .ok (.iload_n 1, 1) := by decide +kernel
theorem dX1_unitAt_5 : decode cX1_unitAt 5 = .ok (.aload_n 0, 1) := by decide +kernel
theorem dX1_unitAt_6 : decode cX1_unitAt 6 = .ok (.getfield 17, 3) := by decide +kernel
theorem dX1_unitAt_9 : decode cX1_unitAt 9 = .ok (.if_icmp .ge 12, 3) := by decide +kernel
theorem dX1_unitAt_12 : decode cX1_unitAt 12 = .ok (.aload_n 0, 1) := by decide +kernel
theorem dX1_unitAt_13 : decode cX1_unitAt 13 = .ok (.getfield 9, 3) := by decide +kernel
theorem dX1_unitAt_16 : decode cX1_unitAt 16 = .ok (.iload_n 1, 1) := by decide +kernel
theorem dX1_unitAt_17 : decode cX1_unitAt 17 = .ok (.iaload, 1) := by decide +kernel
theorem dX1_unitAt_18 : decode cX1_unitAt 18 = .ok (.goto 4, 3) := by decide +kernel
theorem dX1_unitAt_21 : decode cX1_unitAt 21 = .ok (.iconst (-1), 1) := by decide +kernel
theorem dX1_unitAt_22 : decode cX1_unitAt 22 = .ok (.ireturn, 1) := by decide +kernel
theorem dX1_set_0 : decode cX1_set 0 = .ok (.aload_n 0, 1) := by decide +kernel
theorem dX1_set_1 : decode cX1_set 1 = .ok (.iload_n 1, 1) := by decide +kernel
theorem dX1_set_2 : decode cX1_set 2 = .ok (.putfield 21, 3) := by decide +kernel
theorem dX1_set_5 : decode cX1_set 5 = .ok (.aload_n 0, 1) := by decide +kernel
theorem dX1_set_6 : decode cX1_set 6 = .ok (.iload_n 2, 1) := by decide +kernel
theorem dX1_set_7 : decode cX1_set 7 = .ok (.putfield 24, 3) := by decide +kernel
theorem dX1_set_10 : decode cX1_set 10 = .ok (.aload_n 0, 1) := by decide +kernel
theorem dX1_set_11 : decode cX1_set 11 = .ok (.iconst 0, 1) := by decide +kernel
theorem dX1_set_12 : decode cX1_set 12 = .ok (.putfield 17, 3) := by decide +kernel
theorem dX1_set_15 : decode cX1_set 15 = .ok (.return_, 1) := by decide +kernel
theorem dX2_init_0 : decode cX2_init 0 = .ok (.aload_n 0, 1) := by decide +kernel
theorem dX2_init_1 : decode cX2_init 1 = .ok (.invokespecial 3, 3) := by decide +kernel
theorem dX2_init_4 : decode cX2_init 4 = .ok (.aload_n 0, 1) := by decide +kernel
theorem dX2_init_5 : decode cX2_init 5 = .ok (.sipush 128, 3) := by decide +kernel
theorem dX2_init_8 : decode cX2_init 8 = .ok (.newarray .int, 2) := by decide +kernel
theorem dX2_init_10 : decode cX2_init 10 = .ok (.putfield 11, 3) := by decide +kernel
theorem dX2_init_13 : decode cX2_init 13 = .ok (.aload_n 0, 1) := by decide +kernel
theorem dX2_init_14 : decode cX2_init 14 = .ok (.getfield 11, 3) := by decide +kernel
theorem dX2_init_17 : decode cX2_init 17 = .ok (.iconst (-1), 1) := by decide +kernel
theorem dX2_init_18 : decode cX2_init 18 = .ok (.invokestatic 15, 3) := by decide +kernel
theorem dX2_init_21 : decode cX2_init 21 = .ok (.return_, 1) := by decide +kernel
theorem dX2_assign_0 : decode cX2_assign 0 = .ok (.iload_n 1, 1) := by decide +kernel
theorem dX2_assign_1 : decode cX2_assign 1 = .ok (.sipush 128, 3) := by decide +kernel
theorem dX2_assign_4 : decode cX2_assign 4 = .ok (.if_icmp .lt 21, 3) := by decide +kernel
theorem dX2_assign_7 : decode cX2_assign 7 = .ok (.iload_n 1, 1) := by decide +kernel
theorem dX2_assign_8 : decode cX2_assign 8 = .ok (.sipush 256, 3) := by decide +kernel
theorem dX2_assign_11 : decode cX2_assign 11 = .ok (.if_icmp .ge 14, 3) := by decide +kernel
theorem dX2_assign_14 : decode cX2_assign 14 = .ok (.aload_n 0, 1) := by decide +kernel
theorem dX2_assign_15 : decode cX2_assign 15 = .ok (.getfield 11, 3) := by decide +kernel
theorem dX2_assign_18 : decode cX2_assign 18 = .ok (.iload_n 1, 1) := by decide +kernel
theorem dX2_assign_19 : decode cX2_assign 19 = .ok (.sipush 128, 3) := by decide +kernel
theorem dX2_assign_22 : decode cX2_assign 22 = .ok (.isub, 1) := by decide +kernel
theorem dX2_assign_23 : decode cX2_assign 23 = .ok (.iload_n 2, 1) := by decide +kernel
theorem dX2_assign_24 : decode cX2_assign 24 = .ok (.iastore, 1) := by decide +kernel
theorem dX2_assign_25 : decode cX2_assign 25 = .ok (.return_, 1) := by decide +kernel
theorem dX2_encode_0 : decode cX2_encode 0 = .ok (.aload_n 1, 1) := by decide +kernel
theorem dX2_encode_1 : decode cX2_encode 1 = .ok (.iconst 0, 1) := by decide +kernel
theorem dX2_encode_2 : decode cX2_encode 2 = .ok (.invokevirtual 21, 3) := by decide +kernel
theorem dX2_encode_5 : decode cX2_encode 5 = .ok (.istore_n 3, 1) := by decide +kernel
theorem dX2_encode_6 : decode cX2_encode 6 = .ok (.aload_n 0, 1) := by decide +kernel
theorem dX2_encode_7 : decode cX2_encode 7 = .ok (.iload_n 3, 1) := by decide +kernel
theorem dX2_encode_8 : decode cX2_encode 8 = .ok (.invokevirtual 27, 3) := by decide +kernel
theorem dX2_encode_11 : decode cX2_encode 11 = .ok (.istore 4, 2) := by decide +kernel
theorem dX2_encode_13 : decode cX2_encode 13 = .ok (.iload 4, 2) := by decide +kernel
theorem dX2_encode_15 : decode cX2_encode 15 = .ok (.ifCond .lt 17, 3) := by decide +kernel
theorem dX2_encode_18 : decode cX2_encode 18 = .ok (.aload_n 2, 1) := by decide +kernel
theorem dX2_encode_19 : decode cX2_encode 19 = .ok (.iconst 1, 1) := by decide +kernel
theorem dX2_encode_20 : decode cX2_encode 20 = .ok (.invokevirtual 30, 3) := by decide +kernel
theorem dX2_encode_23 : decode cX2_encode 23 = .ok (.aload_n 2, 1) := by decide +kernel
theorem dX2_encode_24 : decode cX2_encode 24 = .ok (.iload 4, 2) := by decide +kernel
theorem dX2_encode_26 : decode cX2_encode 26 = .ok (.invokevirtual 36, 3) := by decide +kernel
theorem dX2_encode_29 : decode cX2_encode 29 = .ok (.goto 43, 3) := by decide +kernel
theorem dX2_encode_32 : decode cX2_encode 32 = .ok (.iload_n 3, 1) := by decide +kernel
theorem dX2_encode_33 : decode cX2_encode 33 = .ok (.aload_n 1, 1) := by decide +kernel
theorem dX2_encode_34 : decode cX2_encode 34 = .ok (.iconst 1, 1) := by decide +kernel
theorem dX2_encode_35 : decode cX2_encode 35 = .ok (.invokevirtual 21, 3) := by decide +kernel
theorem dX2_encode_38 : decode cX2_encode 38 = .ok (.invokestatic 39, 3) := by decide +kernel
theorem dX2_encode_41 : decode cX2_encode 41 = .ok (.ifCond .eq 11, 3) := by decide +kernel
theorem dX2_encode_44 : decode cX2_encode 44 = .ok (.aload_n 2, 1) := by decide +kernel
theorem dX2_encode_45 : decode cX2_encode 45 = .ok (.iconst 2, 1) := by decide +kernel
theorem dX2_encode_46 : decode cX2_encode 46 = .ok (.invokevirtual 45, 3) := by decide +kernel
theorem dX2_encode_49 : decode cX2_encode 49 = .ok (.goto 23, 3) := by decide +kernel
theorem dX2_encode_52 : decode cX2_encode 52 = .ok (.iload_n 3, 1) := by decide +kernel
theorem dX2_encode_53 : decode cX2_encode 53 = .ok (.invokestatic 48, 3) := by decide +kernel
theorem dX2_encode_56 : decode cX2_encode 56 = .ok (.ifCond .eq 11, 3) := by decide +kernel
theorem dX2_encode_59 : decode cX2_encode 59 = .ok (.aload_n 1, 1) := by decide +kernel
theorem dX2_encode_60 : decode cX2_encode 60 = .ok (.aload_n 2, 1) := by decide +kernel
theorem dX2_encode_61 : decode cX2_encode 61 = .ok (.invokestatic 52, 3) := by decide +kernel
theorem dX2_encode_64 : decode cX2_encode 64 = .ok (.goto 8, 3) := by decide +kernel
theorem dX2_encode_67 : decode cX2_encode 67 = .ok (.aload_n 2, 1) := by decide +kernel
theorem dX2_encode_68 : decode cX2_encode 68 = .ok (.iconst 1, 1) := by decide +kernel
theorem dX2_encode_69 : decode cX2_encode 69 = .ok (.invokevirtual 45, 3) := by decide +kernel
theorem dX2_encode_72 : decode cX2_encode 72 = .ok (.return_, 1) := by decide +kernel
theorem dX2_decode_0 : decode cX2_decode 0 = .ok (.aload_n 0, 1) := by decide +kernel
theorem dX2_decode_1 : decode cX2_decode 1 = .ok (.aload_n 1, 1) := by decide +kernel
theorem dX2_decode_2 : decode cX2_decode 2 = .ok (.iconst 0, 1) := by decide +kernel
theorem dX2_decode_3 : decode cX2_decode 3 = .ok (.invokevirtual 21, 3) := by decide +kernel
theorem dX2_decode_6 : decode cX2_decode 6 = .ok (.invokevirtual 56, 3) := by decide +kernel
theorem dX2_decode_9 : decode cX2_decode 9 = .ok (.istore_n 3, 1) := by decide +kernel
theorem dX2_decode_10 : decode cX2_decode 10 = .ok (.iload_n 3, 1) := by decide +kernel
theorem dX2_decode_11 : decode cX2_decode 11 = .ok (.ifCond .lt 16, 3) := by decide +kernel
theorem dX2_decode_14 : decode cX2_decode 14 = .ok (.aload_n 2, 1) := by decide +kernel
theorem dX2_decode_15 : decode cX2_decode 15 = .ok (.iconst 1, 1) := by decide +kernel
theorem dX2_decode_16 : decode cX2_decode 16 = .ok (.invokevirtual 30, 3) := by decide +kernel
theorem dX2_decode_19 : decode cX2_decode 19 = .ok (.aload_n 2, 1) := by decide +kernel
theorem dX2_decode_20 : decode cX2_decode 20 = .ok (.iload_n 3, 1) := by decide +kernel
theorem dX2_decode_21 : decode cX2_decode 21 = .ok (.invokevirtual 36, 3) := by decide +kernel
theorem dX2_decode_24 : decode cX2_decode 24 = .ok (.goto 8, 3) := by decide +kernel
theorem dX2_decode_27 : decode cX2_decode 27 = .ok (.aload_n 2, 1) := by decide +kernel
theorem dX2_decode_28 : decode cX2_decode 28 = .ok (.iconst 1, 1) := by decide +kernel
theorem dX2_decode_29 : decode cX2_decode 29 = .ok (.invokevirtual 45, 3) := by decide +kernel
theorem dX2_decode_32 : decode cX2_decode 32 = .ok (.return_, 1) := by decide +kernel
theorem dX2_characterOf_0 : decode cX2_characterOf 0 = .ok (.iload_n 1, 1) := by decide +kernel
theorem dX2_characterOf_1 : decode cX2_characterOf 1 = .ok (.sipush 128, 3) := by decide +kernel
theorem dX2_characterOf_4 : decode cX2_characterOf 4 = .ok (.if_icmp .ge 5, 3) := by decide +kernel
theorem dX2_characterOf_7 : decode cX2_characterOf 7 = .ok (.iload_n 1, 1) := by decide +kernel
theorem dX2_characterOf_8 : decode cX2_characterOf 8 = .ok (.ireturn, 1) := by decide +kernel
theorem dX2_characterOf_9 : decode cX2_characterOf 9 = .ok (.iload_n 1, 1) := by decide +kernel
theorem dX2_characterOf_10 : decode cX2_characterOf 10 = .ok (.sipush 256, 3) := by decide +kernel
theorem dX2_characterOf_13 : decode cX2_characterOf 13 = .ok (.if_icmp .ge 16, 3) := by decide +kernel
theorem dX2_characterOf_16 : decode cX2_characterOf 16 = .ok (.aload_n 0, 1) := by decide +kernel
theorem dX2_characterOf_17 : decode cX2_characterOf 17 = .ok (.getfield 11, 3) := by decide +kernel
theorem dX2_characterOf_20 : decode cX2_characterOf 20 = .ok (.iload_n 1, 1) := by decide +kernel
theorem dX2_characterOf_21 : decode cX2_characterOf 21 = .ok (.sipush 128, 3) := by decide +kernel
theorem dX2_characterOf_24 : decode cX2_characterOf 24 = .ok (.isub, 1) := by decide +kernel
theorem dX2_characterOf_25 : decode cX2_characterOf 25 = .ok (.iaload, 1) := by decide +kernel
theorem dX2_characterOf_26 : decode cX2_characterOf 26 = .ok (.goto 4, 3) := by decide +kernel
theorem dX2_characterOf_29 : decode cX2_characterOf 29 = .ok (.iconst (-1), 1) := by decide +kernel
theorem dX2_characterOf_30 : decode cX2_characterOf 30 = .ok (.ireturn, 1) := by decide +kernel
theorem dX2_leastByteOf_0 : decode cX2_leastByteOf 0 = .ok (.iload_n 1, 1) := by decide +kernel
theorem dX2_leastByteOf_1 : decode cX2_leastByteOf 1 = .ok (.sipush 128, 3) := by decide +kernel
theorem dX2_leastByteOf_4 : decode cX2_leastByteOf 4 = .ok (.if_icmp .ge 5, 3) := by decide +kernel
theorem dX2_leastByteOf_7 : decode cX2_leastByteOf 7 = .ok (.iload_n 1, 1) := by decide +kernel
theorem dX2_leastByteOf_8 : decode cX2_leastByteOf 8 = .ok (.ireturn, 1) := by decide +kernel
theorem dX2_leastByteOf_9 : decode cX2_leastByteOf 9 = .ok (.iconst 0, 1) := by decide +kernel
theorem dX2_leastByteOf_10 : decode cX2_leastByteOf 10 = .ok (.istore_n 2, 1) := by decide +kernel
theorem dX2_leastByteOf_11 : decode cX2_leastByteOf 11 = .ok (.iload_n 2, 1) := by decide +kernel
theorem dX2_leastByteOf_12 : decode cX2_leastByteOf 12 = .ok (.aload_n 0, 1) := by decide +kernel
theorem dX2_leastByteOf_13 : decode cX2_leastByteOf 13 = .ok (.getfield 11, 3) := by decide +kernel
theorem dX2_leastByteOf_16 : decode cX2_leastByteOf 16 = .ok (.arraylength, 1) := by decide +kernel
theorem dX2_leastByteOf_17 : decode cX2_leastByteOf 17 = .ok (.if_icmp .ge 25, 3) := by decide +kernel
theorem dX2_leastByteOf_20 : decode cX2_leastByteOf 20 = .ok (.aload_n 0, 1) := by decide +kernel
theorem dX2_leastByteOf_21 : decode cX2_leastByteOf 21 = .ok (.getfield 11, 3) := by decide +kernel
theorem dX2_leastByteOf_24 : decode cX2_leastByteOf 24 = .ok (.iload_n 2, 1) := by decide +kernel
theorem dX2_leastByteOf_25 : decode cX2_leastByteOf 25 = .ok (.iaload, 1) := by decide +kernel
theorem dX2_leastByteOf_26 : decode cX2_leastByteOf 26 = .ok (.iload_n 1, 1) := by decide +kernel
theorem dX2_leastByteOf_27 : decode cX2_leastByteOf 27 = .ok (.if_icmp .ne 9, 3) := by decide +kernel
theorem dX2_leastByteOf_30 : decode cX2_leastByteOf 30 = .ok (.sipush 128, 3) := by decide +kernel
theorem dX2_leastByteOf_33 : decode cX2_leastByteOf 33 = .ok (.iload_n 2, 1) := by decide +kernel
theorem dX2_leastByteOf_34 : decode cX2_leastByteOf 34 = .ok (.iadd, 1) := by decide +kernel
theorem dX2_leastByteOf_35 : decode cX2_leastByteOf 35 = .ok (.ireturn, 1) := by decide +kernel
theorem dX2_leastByteOf_36 : decode cX2_leastByteOf 36 = .ok (.iinc 2 1, 3) := by decide +kernel
theorem dX2_leastByteOf_39 : decode cX2_leastByteOf 39 = .ok (.goto (-28), 3) := by decide +kernel
theorem dX2_leastByteOf_42 : decode cX2_leastByteOf 42 = .ok (.iconst (-1), 1) := by decide +kernel
theorem dX2_leastByteOf_43 : decode cX2_leastByteOf 43 = .ok (.ireturn, 1) := by decide +kernel
theorem dX3_init_0 : decode cX3_init 0 = .ok (.aload_n 0, 1) := by decide +kernel
theorem dX3_init_1 : decode cX3_init 1 = .ok (.invokespecial 1, 3) := by decide +kernel
theorem dX3_init_4 : decode cX3_init 4 = .ok (.return_, 1) := by decide +kernel
theorem dX3_becomePlain_0 : decode cX3_becomePlain 0 = .ok (.aload_n 0, 1) := by decide +kernel
theorem dX3_becomePlain_1 : decode cX3_becomePlain 1 = .ok (.iconst 0, 1) := by decide +kernel
theorem dX3_becomePlain_2 : decode cX3_becomePlain 2 = .ok (.putfield 7, 3) := by decide +kernel
theorem dX3_becomePlain_5 : decode cX3_becomePlain 5 = .ok (.aload_n 0, 1) := by decide +kernel
theorem dX3_becomePlain_6 : decode cX3_becomePlain 6 = .ok (.iconst 0, 1) := by decide +kernel
theorem dX3_becomePlain_7 : decode cX3_becomePlain 7 = .ok (.putfield 13, 3) := by decide +kernel
theorem dX3_becomePlain_10 : decode cX3_becomePlain 10 = .ok (.aload_n 0, 1) := by decide +kernel
theorem dX3_becomePlain_11 : decode cX3_becomePlain 11 = .ok (.iconst 0, 1) := by decide +kernel
theorem dX3_becomePlain_12 : decode cX3_becomePlain 12 = .ok (.putfield 16, 3) := by decide +kernel
theorem dX3_becomePlain_15 : decode cX3_becomePlain 15 = .ok (.aload_n 0, 1) := by decide +kernel
theorem dX3_becomePlain_16 : decode cX3_becomePlain 16 = .ok (.iconst 0, 1) := by decide +kernel
theorem dX3_becomePlain_17 : decode cX3_becomePlain 17 = .ok (.putfield 20, 3) := by decide +kernel
theorem dX3_becomePlain_20 : decode cX3_becomePlain 20 = .ok (.return_, 1) := by decide +kernel
theorem dX3_becomeShifted_0 : decode cX3_becomeShifted 0 = .ok (.aload_n 0, 1) := by decide +kernel
theorem dX3_becomeShifted_1 : decode cX3_becomeShifted 1 = .ok (.invokevirtual 23, 3) := by decide +kernel
theorem dX3_becomeShifted_4 : decode cX3_becomeShifted 4 = .ok (.aload_n 0, 1) := by decide +kernel
theorem dX3_becomeShifted_5 : decode cX3_becomeShifted 5 = .ok (.iconst 1, 1) := by decide +kernel
theorem dX3_becomeShifted_6 : decode cX3_becomeShifted 6 = .ok (.putfield 7, 3) := by decide +kernel
theorem dX3_becomeShifted_9 : decode cX3_becomeShifted 9 = .ok (.aload_n 0, 1) := by decide +kernel
theorem dX3_becomeShifted_10 : decode cX3_becomeShifted 10 = .ok (.iconst 1, 1) := by decide +kernel
theorem dX3_becomeShifted_11 : decode cX3_becomeShifted 11 = .ok (.putfield 13, 3) := by decide +kernel
theorem dX3_becomeShifted_14 : decode cX3_becomeShifted 14 = .ok (.return_, 1) := by decide +kernel
theorem dX3_copy_0 : decode cX3_copy 0 = .ok (.aload_n 0, 1) := by decide +kernel
theorem dX3_copy_1 : decode cX3_copy 1 = .ok (.aload_n 1, 1) := by decide +kernel
theorem dX3_copy_2 : decode cX3_copy 2 = .ok (.getfield 7, 3) := by decide +kernel
theorem dX3_copy_5 : decode cX3_copy 5 = .ok (.putfield 7, 3) := by decide +kernel
theorem dX3_copy_8 : decode cX3_copy 8 = .ok (.aload_n 0, 1) := by decide +kernel
theorem dX3_copy_9 : decode cX3_copy 9 = .ok (.aload_n 1, 1) := by decide +kernel
theorem dX3_copy_10 : decode cX3_copy 10 = .ok (.getfield 13, 3) := by decide +kernel
theorem dX3_copy_13 : decode cX3_copy 13 = .ok (.putfield 13, 3) := by decide +kernel
theorem dX3_copy_16 : decode cX3_copy 16 = .ok (.aload_n 0, 1) := by decide +kernel
theorem dX3_copy_17 : decode cX3_copy 17 = .ok (.aload_n 1, 1) := by decide +kernel
theorem dX3_copy_18 : decode cX3_copy 18 = .ok (.getfield 16, 3) := by decide +kernel
theorem dX3_copy_21 : decode cX3_copy 21 = .ok (.putfield 16, 3) := by decide +kernel
theorem dX3_copy_24 : decode cX3_copy 24 = .ok (.aload_n 0, 1) := by decide +kernel
theorem dX3_copy_25 : decode cX3_copy 25 = .ok (.aload_n 1, 1) := by decide +kernel
theorem dX3_copy_26 : decode cX3_copy 26 = .ok (.getfield 20, 3) := by decide +kernel
theorem dX3_copy_29 : decode cX3_copy 29 = .ok (.putfield 20, 3) := by decide +kernel
theorem dX3_copy_32 : decode cX3_copy 32 = .ok (.return_, 1) := by decide +kernel
theorem dX3_keep_0 : decode cX3_keep 0 = .ok (.aload_n 0, 1) := by decide +kernel
theorem dX3_keep_1 : decode cX3_keep 1 = .ok (.aload_n 0, 1) := by decide +kernel
theorem dX3_keep_2 : decode cX3_keep 2 = .ok (.getfield 16, 3) := by decide +kernel
theorem dX3_keep_5 : decode cX3_keep 5 = .ok (.iload_n 2, 1) := by decide +kernel
theorem dX3_keep_6 : decode cX3_keep 6 = .ok (.ishl, 1) := by decide +kernel
theorem dX3_keep_7 : decode cX3_keep 7 = .ok (.iload_n 1, 1) := by decide +kernel
theorem dX3_keep_8 : decode cX3_keep 8 = .ok (.ior, 1) := by decide +kernel
theorem dX3_keep_9 : decode cX3_keep 9 = .ok (.putfield 16, 3) := by decide +kernel
theorem dX3_keep_12 : decode cX3_keep 12 = .ok (.aload_n 0, 1) := by decide +kernel
theorem dX3_keep_13 : decode cX3_keep 13 = .ok (.dup, 1) := by decide +kernel
theorem dX3_keep_14 : decode cX3_keep 14 = .ok (.getfield 20, 3) := by decide +kernel
theorem dX3_keep_17 : decode cX3_keep 17 = .ok (.iload_n 2, 1) := by decide +kernel
theorem dX3_keep_18 : decode cX3_keep 18 = .ok (.iadd, 1) := by decide +kernel
theorem dX3_keep_19 : decode cX3_keep 19 = .ok (.putfield 20, 3) := by decide +kernel
theorem dX3_keep_22 : decode cX3_keep 22 = .ok (.aload_n 0, 1) := by decide +kernel
theorem dX3_keep_23 : decode cX3_keep 23 = .ok (.iconst 0, 1) := by decide +kernel
theorem dX3_keep_24 : decode cX3_keep 24 = .ok (.putfield 13, 3) := by decide +kernel
theorem dX3_keep_27 : decode cX3_keep 27 = .ok (.return_, 1) := by decide +kernel
theorem dX3_removeFirst_0 : decode cX3_removeFirst 0 = .ok (.aload_n 0, 1) := by decide +kernel
theorem dX3_removeFirst_1 : decode cX3_removeFirst 1 = .ok (.iconst 0, 1) := by decide +kernel
theorem dX3_removeFirst_2 : decode cX3_removeFirst 2 = .ok (.aload_n 0, 1) := by decide +kernel
theorem dX3_removeFirst_3 : decode cX3_removeFirst 3 = .ok (.getfield 20, 3) := by decide +kernel
theorem dX3_removeFirst_6 : decode cX3_removeFirst 6 = .ok (.iload_n 1, 1) := by decide +kernel
theorem dX3_removeFirst_7 : decode cX3_removeFirst 7 = .ok (.isub, 1) := by decide +kernel
theorem dX3_removeFirst_8 : decode cX3_removeFirst 8 = .ok (.invokestatic 26, 3) := by decide +kernel
theorem dX3_removeFirst_11 : decode cX3_removeFirst 11 = .ok (.putfield 20, 3) := by decide +kernel
theorem dX3_removeFirst_14 : decode cX3_removeFirst 14 = .ok (.aload_n 0, 1) := by decide +kernel
theorem dX3_removeFirst_15 : decode cX3_removeFirst 15 = .ok (.getfield 16, 3) := by decide +kernel
theorem dX3_removeFirst_18 : decode cX3_removeFirst 18 = .ok (.aload_n 0, 1) := by decide +kernel
theorem dX3_removeFirst_19 : decode cX3_removeFirst 19 = .ok (.getfield 20, 3) := by decide +kernel
theorem dX3_removeFirst_22 : decode cX3_removeFirst 22 = .ok (.ishr, 1) := by decide +kernel
theorem dX3_removeFirst_23 : decode cX3_removeFirst 23 = .ok (.istore_n 2, 1) := by decide +kernel
theorem dX3_removeFirst_24 : decode cX3_removeFirst 24 = .ok (.aload_n 0, 1) := by decide +kernel
theorem dX3_removeFirst_25 : decode cX3_removeFirst 25 = .ok (.aload_n 0, 1) := by decide +kernel
theorem dX3_removeFirst_26 : decode cX3_removeFirst 26 = .ok (.getfield 16, 3) := by decide +kernel
theorem dX3_removeFirst_29 : decode cX3_removeFirst 29 = .ok (.iconst 1, 1) := by decide +kernel
theorem dX3_removeFirst_30 : decode cX3_removeFirst 30 = .ok (.aload_n 0, 1) := by decide +kernel
theorem dX3_removeFirst_31 : decode cX3_removeFirst 31 = .ok (.getfield 20, 3) := by decide +kernel
theorem dX3_removeFirst_34 : decode cX3_removeFirst 34 = .ok (.ishl, 1) := by decide +kernel
theorem dX3_removeFirst_35 : decode cX3_removeFirst 35 = .ok (.iconst 1, 1) := by decide +kernel
theorem dX3_removeFirst_36 : decode cX3_removeFirst 36 = .ok (.isub, 1) := by decide +kernel
theorem dX3_removeFirst_37 : decode cX3_removeFirst 37 = .ok (.iand, 1) := by decide +kernel
theorem dX3_removeFirst_38 : decode cX3_removeFirst 38 = .ok (.putfield 16, 3) := by decide +kernel
theorem dX3_removeFirst_41 : decode cX3_removeFirst 41 = .ok (.iload_n 2, 1) := by decide +kernel
theorem dX3_removeFirst_42 : decode cX3_removeFirst 42 = .ok (.ireturn, 1) := by decide +kernel
theorem dX3_holdsRemains_0 : decode cX3_holdsRemains 0 = .ok (.aload_n 0, 1) := by decide +kernel
theorem dX3_holdsRemains_1 : decode cX3_holdsRemains 1 = .ok (.getfield 20, 3) := by decide +kernel
theorem dX3_holdsRemains_4 : decode cX3_holdsRemains 4 = .ok (.bipush 6, 2) := by decide +kernel
theorem dX3_holdsRemains_6 : decode cX3_holdsRemains 6 = .ok (.if_icmp .ge 10, 3) := by decide +kernel
theorem dX3_holdsRemains_9 : decode cX3_holdsRemains 9 = .ok (.aload_n 0, 1) := by decide +kernel
theorem dX3_holdsRemains_10 : decode cX3_holdsRemains 10 = .ok (.getfield 16, 3) := by decide +kernel
theorem dX3_holdsRemains_13 : decode cX3_holdsRemains 13 = .ok (.ifCond .eq 7, 3) := by decide +kernel
theorem dX3_holdsRemains_16 : decode cX3_holdsRemains 16 = .ok (.iconst 1, 1) := by decide +kernel
theorem dX3_holdsRemains_17 : decode cX3_holdsRemains 17 = .ok (.goto 4, 3) := by decide +kernel
theorem dX3_holdsRemains_20 : decode cX3_holdsRemains 20 = .ok (.iconst 0, 1) := by decide +kernel
theorem dX3_holdsRemains_21 : decode cX3_holdsRemains 21 = .ok (.ireturn, 1) := by decide +kernel
theorem dX4_isHigh_0 : decode cX4_isHigh 0 = .ok (.iload_n 0, 1) := by decide +kernel
theorem dX4_isHigh_1 : decode cX4_isHigh 1 = .ok (.ldc 9, 2) := by decide +kernel
theorem dX4_isHigh_3 : decode cX4_isHigh 3 = .ok (.if_icmp .lt 13, 3) := by decide +kernel
theorem dX4_isHigh_6 : decode cX4_isHigh 6 = .ok (.iload_n 0, 1) := by decide +kernel
theorem dX4_isHigh_7 : decode cX4_isHigh 7 = .ok (.ldc 10, 2) := by decide +kernel
theorem dX4_isHigh_9 : decode cX4_isHigh 9 = .ok (.if_icmp .ge 7, 3) := by decide +kernel
theorem dX4_isHigh_12 : decode cX4_isHigh 12 = .ok (.iconst 1, 1) := by decide +kernel
theorem dX4_isHigh_13 : decode cX4_isHigh 13 = .ok (.goto 4, 3) := by decide +kernel
theorem dX4_isHigh_16 : decode cX4_isHigh 16 = .ok (.iconst 0, 1) := by decide +kernel
theorem dX4_isHigh_17 : decode cX4_isHigh 17 = .ok (.ireturn, 1) := by decide +kernel
theorem dX4_isLow_0 : decode cX4_isLow 0 = .ok (.iload_n 0, 1) := by decide +kernel
theorem dX4_isLow_1 : decode cX4_isLow 1 = .ok (.ldc 10, 2) := by decide +kernel
theorem dX4_isLow_3 : decode cX4_isLow 3 = .ok (.if_icmp .lt 13, 3) := by decide +kernel
theorem dX4_isLow_6 : decode cX4_isLow 6 = .ok (.iload_n 0, 1) := by decide +kernel
theorem dX4_isLow_7 : decode cX4_isLow 7 = .ok (.ldc 11, 2) := by decide +kernel
theorem dX4_isLow_9 : decode cX4_isLow 9 = .ok (.if_icmp .gt 7, 3) := by decide +kernel
theorem dX4_isLow_12 : decode cX4_isLow 12 = .ok (.iconst 1, 1) := by decide +kernel
theorem dX4_isLow_13 : decode cX4_isLow 13 = .ok (.goto 4, 3) := by decide +kernel
theorem dX4_isLow_16 : decode cX4_isLow 16 = .ok (.iconst 0, 1) := by decide +kernel
theorem dX4_isLow_17 : decode cX4_isLow 17 = .ok (.ireturn, 1) := by decide +kernel
theorem dX4_isEither_0 : decode cX4_isEither 0 = .ok (.iload_n 0, 1) := by decide +kernel
theorem dX4_isEither_1 : decode cX4_isEither 1 = .ok (.ldc 9, 2) := by decide +kernel
theorem dX4_isEither_3 : decode cX4_isEither 3 = .ok (.if_icmp .lt 13, 3) := by decide +kernel
theorem dX4_isEither_6 : decode cX4_isEither 6 = .ok (.iload_n 0, 1) := by decide +kernel
theorem dX4_isEither_7 : decode cX4_isEither 7 = .ok (.ldc 11, 2) := by decide +kernel
theorem dX4_isEither_9 : decode cX4_isEither 9 = .ok (.if_icmp .gt 7, 3) := by decide +kernel
theorem dX4_isEither_12 : decode cX4_isEither 12 = .ok (.iconst 1, 1) := by decide +kernel
theorem dX4_isEither_13 : decode cX4_isEither 13 = .ok (.goto 4, 3) := by decide +kernel
theorem dX4_isEither_16 : decode cX4_isEither 16 = .ok (.iconst 0, 1) := by decide +kernel
theorem dX4_isEither_17 : decode cX4_isEither 17 = .ok (.ireturn, 1) := by decide +kernel
theorem dX4_isPair_0 : decode cX4_isPair 0 = .ok (.iload_n 0, 1) := by decide +kernel
theorem dX4_isPair_1 : decode cX4_isPair 1 = .ok (.invokestatic 12, 3) := by decide +kernel
theorem dX4_isPair_4 : decode cX4_isPair 4 = .ok (.ifCond .eq 14, 3) := by decide +kernel
theorem dX4_isPair_7 : decode cX4_isPair 7 = .ok (.iload_n 1, 1) := by decide +kernel
theorem dX4_isPair_8 : decode cX4_isPair 8 = .ok (.invokestatic 16, 3) := by decide +kernel
theorem dX4_isPair_11 : decode cX4_isPair 11 = .ok (.ifCond .eq 7, 3) := by decide +kernel
theorem dX4_isPair_14 : decode cX4_isPair 14 = .ok (.iconst 1, 1) := by decide +kernel
theorem dX4_isPair_15 : decode cX4_isPair 15 = .ok (.goto 4, 3) := by decide +kernel
theorem dX4_isPair_18 : decode cX4_isPair 18 = .ok (.iconst 0, 1) := by decide +kernel
theorem dX4_isPair_19 : decode cX4_isPair 19 = .ok (.ireturn, 1) := by decide +kernel
theorem dX4_codePoint_0 : decode cX4_codePoint 0 = .ok (.ldc 19, 2) := by decide +kernel
theorem dX4_codePoint_2 : decode cX4_codePoint 2 = .ok (.iload_n 0, 1) := by decide +kernel
theorem dX4_codePoint_3 : decode cX4_codePoint 3 = .ok (.ldc 9, 2) := by decide +kernel
theorem dX4_codePoint_5 : decode cX4_codePoint 5 = .ok (.isub, 1) := by decide +kernel
theorem dX4_codePoint_6 : decode cX4_codePoint 6 = .ok (.sipush 1024, 3) := by decide +kernel
theorem dX4_codePoint_9 : decode cX4_codePoint 9 = .ok (.imul, 1) := by decide +kernel
theorem dX4_codePoint_10 : decode cX4_codePoint 10 = .ok (.iadd, 1) := by decide +kernel
theorem dX4_codePoint_11 : decode cX4_codePoint 11 = .ok (.iload_n 1, 1) := by decide +kernel
theorem dX4_codePoint_12 : decode cX4_codePoint 12 = .ok (.ldc 10, 2) := by decide +kernel
theorem dX4_codePoint_14 : decode cX4_codePoint 14 = .ok (.isub, 1) := by decide +kernel
theorem dX4_codePoint_15 : decode cX4_codePoint 15 = .ok (.iadd, 1) := by decide +kernel
theorem dX4_codePoint_16 : decode cX4_codePoint 16 = .ok (.ireturn, 1) := by decide +kernel
theorem dX4_addCharacters_0 : decode cX4_addCharacters 0 = .ok (.iload_n 0, 1) := by decide +kernel
theorem dX4_addCharacters_1 : decode cX4_addCharacters 1 = .ok (.ldc 19, 2) := by decide +kernel
theorem dX4_addCharacters_3 : decode cX4_addCharacters 3 = .ok (.if_icmp .ge 11, 3) := by decide +kernel
theorem dX4_addCharacters_6 : decode cX4_addCharacters 6 = .ok (.aload_n 1, 1) := by decide +kernel
theorem dX4_addCharacters_7 : decode cX4_addCharacters 7 = .ok (.iload_n 0, 1) := by decide +kernel
theorem dX4_addCharacters_8 : decode cX4_addCharacters 8 = .ok (.invokevirtual 20, 3) := by decide +kernel
theorem dX4_addCharacters_11 : decode cX4_addCharacters 11 = .ok (.goto 33, 3) := by decide +kernel
theorem dX4_addCharacters_14 : decode cX4_addCharacters 14 = .ok (.aload_n 1, 1) := by decide +kernel
theorem dX4_addCharacters_15 : decode cX4_addCharacters 15 = .ok (.ldc 9, 2) := by decide +kernel
theorem dX4_addCharacters_17 : decode cX4_addCharacters 17 = .ok (.iload_n 0, 1) := by decide +kernel
theorem dX4_addCharacters_18 : decode cX4_addCharacters 18 = .ok (.ldc 19, 2) := by decide +kernel
theorem dX4_addCharacters_20 : decode cX4_addCharacters 20 = .ok (.isub, 1) := by decide +kernel
theorem dX4_addCharacters_21 : decode cX4_addCharacters 21 = .ok (.sipush 1024, 3) := by decide +kernel
theorem dX4_addCharacters_24 : decode cX4_addCharacters 24 = .ok (.idiv, 1) := by decide +kernel
theorem dX4_addCharacters_25 : decode cX4_addCharacters 25 = .ok (.iadd, 1) := by decide +kernel
theorem dX4_addCharacters_26 : decode cX4_addCharacters 26 = .ok (.invokevirtual 20, 3) := by decide +kernel
theorem dX4_addCharacters_29 : decode cX4_addCharacters 29 = .ok (.aload_n 1, 1) := by decide +kernel
theorem dX4_addCharacters_30 : decode cX4_addCharacters 30 = .ok (.ldc 10, 2) := by decide +kernel
theorem dX4_addCharacters_32 : decode cX4_addCharacters 32 = .ok (.iload_n 0, 1) := by decide +kernel
theorem dX4_addCharacters_33 : decode cX4_addCharacters 33 = .ok (.ldc 19, 2) := by decide +kernel
theorem dX4_addCharacters_35 : decode cX4_addCharacters 35 = .ok (.isub, 1) := by decide +kernel
theorem dX4_addCharacters_36 : decode cX4_addCharacters 36 = .ok (.sipush 1024, 3) := by decide +kernel
theorem dX4_addCharacters_39 : decode cX4_addCharacters 39 = .ok (.irem, 1) := by decide +kernel
theorem dX4_addCharacters_40 : decode cX4_addCharacters 40 = .ok (.iadd, 1) := by decide +kernel
theorem dX4_addCharacters_41 : decode cX4_addCharacters 41 = .ok (.invokevirtual 20, 3) := by decide +kernel
theorem dX4_addCharacters_44 : decode cX4_addCharacters 44 = .ok (.return_, 1) := by decide +kernel
theorem dX4_setForUnpaired_0 : decode cX4_setForUnpaired 0 = .ok (.aload_n 0, 1) := by decide +kernel
theorem dX4_setForUnpaired_1 : decode cX4_setForUnpaired 1 = .ok (.invokevirtual 26, 3) := by decide +kernel
theorem dX4_setForUnpaired_4 : decode cX4_setForUnpaired 4 = .ok (.iconst 1, 1) := by decide +kernel
theorem dX4_setForUnpaired_5 : decode cX4_setForUnpaired 5 = .ok (.if_icmp .ne 21, 3) := by decide +kernel
theorem dX4_setForUnpaired_8 : decode cX4_setForUnpaired 8 = .ok (.aload_n 0, 1) := by decide +kernel
theorem dX4_setForUnpaired_9 : decode cX4_setForUnpaired 9 = .ok (.iconst 0, 1) := by decide +kernel
theorem dX4_setForUnpaired_10 : decode cX4_setForUnpaired 10 = .ok (.invokevirtual 32, 3) := by decide +kernel
theorem dX4_setForUnpaired_13 : decode cX4_setForUnpaired 13 = .ok (.invokestatic 12, 3) := by decide +kernel
theorem dX4_setForUnpaired_16 : decode cX4_setForUnpaired 16 = .ok (.ifCond .eq 10, 3) := by decide +kernel
theorem dX4_setForUnpaired_19 : decode cX4_setForUnpaired 19 = .ok (.aload_n 1, 1) := by decide +kernel
theorem dX4_setForUnpaired_20 : decode cX4_setForUnpaired 20 = .ok (.invokevirtual 36, 3) := by decide +kernel
theorem dX4_setForUnpaired_23 : decode cX4_setForUnpaired 23 = .ok (.goto 8, 3) := by decide +kernel
theorem dX4_setForUnpaired_26 : decode cX4_setForUnpaired 26 = .ok (.aload_n 1, 1) := by decide +kernel
theorem dX4_setForUnpaired_27 : decode cX4_setForUnpaired 27 = .ok (.iconst 1, 1) := by decide +kernel
theorem dX4_setForUnpaired_28 : decode cX4_setForUnpaired 28 = .ok (.invokevirtual 39, 3) := by decide +kernel
theorem dX4_setForUnpaired_31 : decode cX4_setForUnpaired 31 = .ok (.return_, 1) := by decide +kernel
theorem dX5_init_0 : decode cX5_init 0 = .ok (.aload_n 0, 1) := by decide +kernel
theorem dX5_init_1 : decode cX5_init 1 = .ok (.invokespecial 1, 3) := by decide +kernel
theorem dX5_init_4 : decode cX5_init 4 = .ok (.aload_n 0, 1) := by decide +kernel
theorem dX5_init_5 : decode cX5_init 5 = .ok (.iload_n 1, 1) := by decide +kernel
theorem dX5_init_6 : decode cX5_init 6 = .ok (.newarray .int, 2) := by decide +kernel
theorem dX5_init_8 : decode cX5_init 8 = .ok (.putfield 7, 3) := by decide +kernel
theorem dX5_init_11 : decode cX5_init 11 = .ok (.return_, 1) := by decide +kernel
theorem dX5_count_0 : decode cX5_count 0 = .ok (.aload_n 0, 1) := by decide +kernel
theorem dX5_count_1 : decode cX5_count 1 = .ok (.getfield 13, 3) := by decide +kernel
theorem dX5_count_4 : decode cX5_count 4 = .ok (.ireturn, 1) := by decide +kernel
theorem dX5_at_0 : decode cX5_at 0 = .ok (.iload_n 1, 1) := by decide +kernel
theorem dX5_at_1 : decode cX5_at 1 = .ok (.ifCond .lt 20, 3) := by decide +kernel
theorem dX5_at_4 : decode cX5_at 4 = .ok (.iload_n 1, 1) := by decide +kernel
theorem dX5_at_5 : decode cX5_at 5 = .ok (.aload_n 0, 1) := by decide +kernel
theorem dX5_at_6 : decode cX5_at 6 = .ok (.getfield 13, 3) := by decide +kernel
theorem dX5_at_9 : decode cX5_at 9 = .ok (.if_icmp .ge 12, 3) := by decide +kernel
theorem dX5_at_12 : decode cX5_at 12 = .ok (.aload_n 0, 1) := by decide +kernel
theorem dX5_at_13 : decode cX5_at 13 = .ok (.getfield 7, 3) := by decide +kernel
theorem dX5_at_16 : decode cX5_at 16 = .ok (.iload_n 1, 1) := by decide +kernel
theorem dX5_at_17 : decode cX5_at 17 = .ok (.iaload, 1) := by decide +kernel
theorem dX5_at_18 : decode cX5_at 18 = .ok (.goto 4, 3) := by decide +kernel
theorem dX5_at_21 : decode cX5_at 21 = .ok (.iconst (-1), 1) := by decide +kernel
theorem dX5_at_22 : decode cX5_at 22 = .ok (.ireturn, 1) := by decide +kernel
theorem dX5_add_0 : decode cX5_add 0 = .ok (.aload_n 0, 1) := by decide +kernel
theorem dX5_add_1 : decode cX5_add 1 = .ok (.getfield 13, 3) := by decide +kernel
theorem dX5_add_4 : decode cX5_add 4 = .ok (.aload_n 0, 1) := by decide +kernel
theorem dX5_add_5 : decode cX5_add 5 = .ok (.getfield 7, 3) := by decide +kernel
theorem dX5_add_8 : decode cX5_add 8 = .ok (.arraylength, 1) := by decide +kernel
theorem dX5_add_9 : decode cX5_add 9 = .ok (.if_icmp .ge 23, 3) := by decide +kernel
theorem dX5_add_12 : decode cX5_add 12 = .ok (.aload_n 0, 1) := by decide +kernel
theorem dX5_add_13 : decode cX5_add 13 = .ok (.getfield 7, 3) := by decide +kernel
theorem dX5_add_16 : decode cX5_add 16 = .ok (.aload_n 0, 1) := by decide +kernel
theorem dX5_add_17 : decode cX5_add 17 = .ok (.getfield 13, 3) := by decide +kernel
theorem dX5_add_20 : decode cX5_add 20 = .ok (.iload_n 1, 1) := by decide +kernel
theorem dX5_add_21 : decode cX5_add 21 = .ok (.iastore, 1) := by decide +kernel
theorem dX5_add_22 : decode cX5_add 22 = .ok (.aload_n 0, 1) := by decide +kernel
theorem dX5_add_23 : decode cX5_add 23 = .ok (.dup, 1) := by decide +kernel
theorem dX5_add_24 : decode cX5_add 24 = .ok (.getfield 13, 3) := by decide +kernel
theorem dX5_add_27 : decode cX5_add 27 = .ok (.iconst 1, 1) := by decide +kernel
theorem dX5_add_28 : decode cX5_add 28 = .ok (.iadd, 1) := by decide +kernel
theorem dX5_add_29 : decode cX5_add 29 = .ok (.putfield 13, 3) := by decide +kernel
theorem dX5_add_32 : decode cX5_add 32 = .ok (.return_, 1) := by decide +kernel
theorem dX5_drop_0 : decode cX5_drop 0 = .ok (.iconst 0, 1) := by decide +kernel
theorem dX5_drop_1 : decode cX5_drop 1 = .ok (.iload_n 1, 1) := by decide +kernel
theorem dX5_drop_2 : decode cX5_drop 2 = .ok (.aload_n 0, 1) := by decide +kernel
theorem dX5_drop_3 : decode cX5_drop 3 = .ok (.getfield 13, 3) := by decide +kernel
theorem dX5_drop_6 : decode cX5_drop 6 = .ok (.invokestatic 17, 3) := by decide +kernel
theorem dX5_drop_9 : decode cX5_drop 9 = .ok (.invokestatic 23, 3) := by decide +kernel
theorem dX5_drop_12 : decode cX5_drop 12 = .ok (.istore_n 2, 1) := by decide +kernel
theorem dX5_drop_13 : decode cX5_drop 13 = .ok (.aload_n 0, 1) := by decide +kernel
theorem dX5_drop_14 : decode cX5_drop 14 = .ok (.getfield 7, 3) := by decide +kernel
theorem dX5_drop_17 : decode cX5_drop 17 = .ok (.iload_n 2, 1) := by decide +kernel
theorem dX5_drop_18 : decode cX5_drop 18 = .ok (.aload_n 0, 1) := by decide +kernel
theorem dX5_drop_19 : decode cX5_drop 19 = .ok (.getfield 7, 3) := by decide +kernel
theorem dX5_drop_22 : decode cX5_drop 22 = .ok (.iconst 0, 1) := by decide +kernel
theorem dX5_drop_23 : decode cX5_drop 23 = .ok (.aload_n 0, 1) := by decide +kernel
theorem dX5_drop_24 : decode cX5_drop 24 = .ok (.getfield 13, 3) := by decide +kernel
theorem dX5_drop_27 : decode cX5_drop 27 = .ok (.iload_n 2, 1) := by decide +kernel
theorem dX5_drop_28 : decode cX5_drop 28 = .ok (.isub, 1) := by decide +kernel
theorem dX5_drop_29 : decode cX5_drop 29 = .ok (.invokestatic 26, 3) := by decide +kernel
theorem dX5_drop_32 : decode cX5_drop 32 = .ok (.aload_n 0, 1) := by decide +kernel
theorem dX5_drop_33 : decode cX5_drop 33 = .ok (.dup, 1) := by decide +kernel
theorem dX5_drop_34 : decode cX5_drop 34 = .ok (.getfield 13, 3) := by decide +kernel
theorem dX5_drop_37 : decode cX5_drop 37 = .ok (.iload_n 2, 1) := by decide +kernel
theorem dX5_drop_38 : decode cX5_drop 38 = .ok (.isub, 1) := by decide +kernel
theorem dX5_drop_39 : decode cX5_drop 39 = .ok (.putfield 13, 3) := by decide +kernel
theorem dX5_drop_42 : decode cX5_drop 42 = .ok (.return_, 1) := by decide +kernel
theorem dX5_clear_0 : decode cX5_clear 0 = .ok (.aload_n 0, 1) := by decide +kernel
theorem dX5_clear_1 : decode cX5_clear 1 = .ok (.iconst 0, 1) := by decide +kernel
theorem dX5_clear_2 : decode cX5_clear 2 = .ok (.putfield 13, 3) := by decide +kernel
theorem dX5_clear_5 : decode cX5_clear 5 = .ok (.return_, 1) := by decide +kernel
theorem dX6_init_0 : decode cX6_init 0 = .ok (.aload_n 0, 1) := by decide +kernel
theorem dX6_init_1 : decode cX6_init 1 = .ok (.invokespecial 1, 3) := by decide +kernel
theorem dX6_init_4 : decode cX6_init 4 = .ok (.aload_n 0, 1) := by decide +kernel
theorem dX6_init_5 : decode cX6_init 5 = .ok (.iconst 1, 1) := by decide +kernel
theorem dX6_init_6 : decode cX6_init 6 = .ok (.putfield 7, 3) := by decide +kernel
theorem dX6_init_9 : decode cX6_init 9 = .ok (.aload_n 0, 1) := by decide +kernel
theorem dX6_init_10 : decode cX6_init 10 = .ok (.iload_n 1, 1) := by decide +kernel
theorem dX6_init_11 : decode cX6_init 11 = .ok (.putfield 13, 3) := by decide +kernel
theorem dX6_init_14 : decode cX6_init 14 = .ok (.aload_n 0, 1) := by decide +kernel
theorem dX6_init_15 : decode cX6_init 15 = .ok (.iload_n 2, 1) := by decide +kernel
theorem dX6_init_16 : decode cX6_init 16 = .ok (.putfield 16, 3) := by decide +kernel
theorem dX6_init_19 : decode cX6_init 19 = .ok (.return_, 1) := by decide +kernel
theorem dX6_begin_0 : decode cX6_begin 0 = .ok (.aload_n 0, 1) := by decide +kernel
theorem dX6_begin_1 : decode cX6_begin 1 = .ok (.iconst 1, 1) := by decide +kernel
theorem dX6_begin_2 : decode cX6_begin 2 = .ok (.putfield 7, 3) := by decide +kernel
theorem dX6_begin_5 : decode cX6_begin 5 = .ok (.aload_n 0, 1) := by decide +kernel
theorem dX6_begin_6 : decode cX6_begin 6 = .ok (.aload_n 0, 1) := by decide +kernel
theorem dX6_begin_7 : decode cX6_begin 7 = .ok (.getfield 16, 3) := by decide +kernel
theorem dX6_begin_10 : decode cX6_begin 10 = .ok (.putfield 19, 3) := by decide +kernel
theorem dX6_begin_13 : decode cX6_begin 13 = .ok (.aload_n 0, 1) := by decide +kernel
theorem dX6_begin_14 : decode cX6_begin 14 = .ok (.aload_n 0, 1) := by decide +kernel
theorem dX6_begin_15 : decode cX6_begin 15 = .ok (.getfield 16, 3) := by decide +kernel
theorem dX6_begin_18 : decode cX6_begin 18 = .ok (.putfield 22, 3) := by decide +kernel
theorem dX6_begin_21 : decode cX6_begin 21 = .ok (.return_, 1) := by decide +kernel
theorem dX6_stepMade_0 : decode cX6_stepMade 0 = .ok (.aload_n 0, 1) := by decide +kernel
theorem dX6_stepMade_1 : decode cX6_stepMade 1 = .ok (.iconst 0, 1) := by decide +kernel
theorem dX6_stepMade_2 : decode cX6_stepMade 2 = .ok (.putfield 7, 3) := by decide +kernel
theorem dX6_stepMade_5 : decode cX6_stepMade 5 = .ok (.aload_n 0, 1) := by decide +kernel
theorem dX6_stepMade_6 : decode cX6_stepMade 6 = .ok (.aload_n 0, 1) := by decide +kernel
theorem dX6_stepMade_7 : decode cX6_stepMade 7 = .ok (.getfield 22, 3) := by decide +kernel
theorem dX6_stepMade_10 : decode cX6_stepMade 10 = .ok (.putfield 19, 3) := by decide +kernel
theorem dX6_stepMade_13 : decode cX6_stepMade 13 = .ok (.return_, 1) := by decide +kernel
theorem dX6_passedOver_0 : decode cX6_passedOver 0 = .ok (.aload_n 0, 1) := by decide +kernel
theorem dX6_passedOver_1 : decode cX6_passedOver 1 = .ok (.iconst 0, 1) := by decide +kernel
theorem dX6_passedOver_2 : decode cX6_passedOver 2 = .ok (.putfield 7, 3) := by decide +kernel
theorem dX6_passedOver_5 : decode cX6_passedOver 5 = .ok (.return_, 1) := by decide +kernel
theorem dX6_encode_0 : decode cX6_encode 0 = .ok (.aload_n 1, 1) := by decide +kernel
theorem dX6_encode_1 : decode cX6_encode 1 = .ok (.iconst 0, 1) := by decide +kernel
theorem dX6_encode_2 : decode cX6_encode 2 = .ok (.invokevirtual 25, 3) := by decide +kernel
theorem dX6_encode_5 : decode cX6_encode 5 = .ok (.istore_n 3, 1) := by decide +kernel
theorem dX6_encode_6 : decode cX6_encode 6 = .ok (.aload_n 0, 1) := by decide +kernel
theorem dX6_encode_7 : decode cX6_encode 7 = .ok (.getfield 13, 3) := by decide +kernel
theorem dX6_encode_10 : decode cX6_encode 10 = .ok (.ifCond .eq 32, 3) := by decide +kernel
theorem dX6_encode_13 : decode cX6_encode 13 = .ok (.aload_n 0, 1) := by decide +kernel
theorem dX6_encode_14 : decode cX6_encode 14 = .ok (.getfield 7, 3) := by decide +kernel
theorem dX6_encode_17 : decode cX6_encode 17 = .ok (.ifCond .eq 25, 3) := by decide +kernel
theorem dX6_encode_20 : decode cX6_encode 20 = .ok (.aload_n 2, 1) := by decide +kernel
theorem dX6_encode_21 : decode cX6_encode 21 = .ok (.iconst 0, 1) := by decide +kernel
theorem dX6_encode_22 : decode cX6_encode 22 = .ok (.invokevirtual 31, 3) := by decide +kernel
theorem dX6_encode_25 : decode cX6_encode 25 = .ok (.aload_n 2, 1) := by decide +kernel
theorem dX6_encode_26 : decode cX6_encode 26 = .ok (.sipush 254, 3) := by decide +kernel
theorem dX6_encode_29 : decode cX6_encode 29 = .ok (.invokevirtual 37, 3) := by decide +kernel
theorem dX6_encode_32 : decode cX6_encode 32 = .ok (.aload_n 2, 1) := by decide +kernel
theorem dX6_encode_33 : decode cX6_encode 33 = .ok (.sipush 255, 3) := by decide +kernel
theorem dX6_encode_36 : decode cX6_encode 36 = .ok (.invokevirtual 37, 3) := by decide +kernel
theorem dX6_encode_39 : decode cX6_encode 39 = .ok (.goto 65, 3) := by decide +kernel
theorem dX6_encode_42 : decode cX6_encode 42 = .ok (.iload_n 3, 1) := by decide +kernel
theorem dX6_encode_43 : decode cX6_encode 43 = .ok (.invokestatic 40, 3) := by decide +kernel
theorem dX6_encode_46 : decode cX6_encode 46 = .ok (.ifCond .ne 17, 3) := by decide +kernel
theorem dX6_encode_49 : decode cX6_encode 49 = .ok (.aload_n 2, 1) := by decide +kernel
theorem dX6_encode_50 : decode cX6_encode 50 = .ok (.iconst 1, 1) := by decide +kernel
theorem dX6_encode_51 : decode cX6_encode 51 = .ok (.invokevirtual 31, 3) := by decide +kernel
theorem dX6_encode_54 : decode cX6_encode 54 = .ok (.aload_n 0, 1) := by decide +kernel
theorem dX6_encode_55 : decode cX6_encode 55 = .ok (.iload_n 3, 1) := by decide +kernel
theorem dX6_encode_56 : decode cX6_encode 56 = .ok (.aload_n 2, 1) := by decide +kernel
theorem dX6_encode_57 : decode cX6_encode 57 = .ok (.invokevirtual 46, 3) := by decide +kernel
theorem dX6_encode_60 : decode cX6_encode 60 = .ok (.goto 44, 3) := by decide +kernel
theorem dX6_encode_63 : decode cX6_encode 63 = .ok (.iload_n 3, 1) := by decide +kernel
theorem dX6_encode_64 : decode cX6_encode 64 = .ok (.aload_n 1, 1) := by decide +kernel
theorem dX6_encode_65 : decode cX6_encode 65 = .ok (.iconst 1, 1) := by decide +kernel
theorem dX6_encode_66 : decode cX6_encode 66 = .ok (.invokevirtual 25, 3) := by decide +kernel
theorem dX6_encode_69 : decode cX6_encode 69 = .ok (.invokestatic 50, 3) := by decide +kernel
theorem dX6_encode_72 : decode cX6_encode 72 = .ok (.ifCond .eq 27, 3) := by decide +kernel
theorem dX6_encode_75 : decode cX6_encode 75 = .ok (.aload_n 2, 1) := by decide +kernel
theorem dX6_encode_76 : decode cX6_encode 76 = .ok (.iconst 2, 1) := by decide +kernel
theorem dX6_encode_77 : decode cX6_encode 77 = .ok (.invokevirtual 31, 3) := by decide +kernel
theorem dX6_encode_80 : decode cX6_encode 80 = .ok (.aload_n 0, 1) := by decide +kernel
theorem dX6_encode_81 : decode cX6_encode 81 = .ok (.iload_n 3, 1) := by decide +kernel
theorem dX6_encode_82 : decode cX6_encode 82 = .ok (.aload_n 2, 1) := by decide +kernel
theorem dX6_encode_83 : decode cX6_encode 83 = .ok (.invokevirtual 46, 3) := by decide +kernel
theorem dX6_encode_86 : decode cX6_encode 86 = .ok (.aload_n 0, 1) := by decide +kernel
theorem dX6_encode_87 : decode cX6_encode 87 = .ok (.aload_n 1, 1) := by decide +kernel
theorem dX6_encode_88 : decode cX6_encode 88 = .ok (.iconst 1, 1) := by decide +kernel
theorem dX6_encode_89 : decode cX6_encode 89 = .ok (.invokevirtual 25, 3) := by decide +kernel
theorem dX6_encode_92 : decode cX6_encode 92 = .ok (.aload_n 2, 1) := by decide +kernel
theorem dX6_encode_93 : decode cX6_encode 93 = .ok (.invokevirtual 46, 3) := by decide +kernel
theorem dX6_encode_96 : decode cX6_encode 96 = .ok (.goto 8, 3) := by decide +kernel
theorem dX6_encode_99 : decode cX6_encode 99 = .ok (.aload_n 1, 1) := by decide +kernel
theorem dX6_encode_100 : decode cX6_encode 100 = .ok (.aload_n 2, 1) := by decide +kernel
theorem dX6_encode_101 : decode cX6_encode 101 = .ok (.invokestatic 54, 3) := by decide +kernel
theorem dX6_encode_104 : decode cX6_encode 104 = .ok (.return_, 1) := by decide +kernel
theorem dX6_addReplacement_0 : decode cX6_addReplacement 0 = .ok (.aload_n 0, 1) := by decide +kernel
theorem dX6_addReplacement_1 : decode cX6_addReplacement 1 = .ok (.bipush 63, 2) := by decide +kernel
theorem dX6_addReplacement_3 : decode cX6_addReplacement 3 = .ok (.aload_n 1, 1) := by decide +kernel
theorem dX6_addReplacement_4 : decode cX6_addReplacement 4 = .ok (.invokevirtual 46, 3) := by decide +kernel
theorem dX6_addReplacement_7 : decode cX6_addReplacement 7 = .ok (.return_, 1) := by decide +kernel
theorem dX6_decode_0 : decode cX6_decode 0 = .ok (.aload_n 0, 1) := by decide +kernel
theorem dX6_decode_1 : decode cX6_decode 1 = .ok (.aload_n 0, 1) := by decide +kernel
theorem dX6_decode_2 : decode cX6_decode 2 = .ok (.getfield 19, 3) := by decide +kernel
theorem dX6_decode_5 : decode cX6_decode 5 = .ok (.putfield 22, 3) := by decide +kernel
theorem dX6_decode_8 : decode cX6_decode 8 = .ok (.aload_n 1, 1) := by decide +kernel
theorem dX6_decode_9 : decode cX6_decode 9 = .ok (.invokevirtual 58, 3) := by decide +kernel
theorem dX6_decode_12 : decode cX6_decode 12 = .ok (.iconst 2, 1) := by decide +kernel
theorem dX6_decode_13 : decode cX6_decode 13 = .ok (.if_icmp .ge 10, 3) := by decide +kernel
theorem dX6_decode_16 : decode cX6_decode 16 = .ok (.aload_n 2, 1) := by decide +kernel
theorem dX6_decode_17 : decode cX6_decode 17 = .ok (.invokevirtual 62, 3) := by decide +kernel
theorem dX6_decode_20 : decode cX6_decode 20 = .ok (.goto 67, 3) := by decide +kernel
theorem dX6_decode_23 : decode cX6_decode 23 = .ok (.aload_n 0, 1) := by decide +kernel
theorem dX6_decode_24 : decode cX6_decode 24 = .ok (.getfield 13, 3) := by decide +kernel
theorem dX6_decode_27 : decode cX6_decode 27 = .ok (.ifCond .eq 54, 3) := by decide +kernel
theorem dX6_decode_30 : decode cX6_decode 30 = .ok (.aload_n 0, 1) := by decide +kernel
theorem dX6_decode_31 : decode cX6_decode 31 = .ok (.getfield 7, 3) := by decide +kernel
theorem dX6_decode_34 : decode cX6_decode 34 = .ok (.ifCond .eq 47, 3) := by decide +kernel
theorem dX6_decode_37 : decode cX6_decode 37 = .ok (.aload_n 1, 1) := by decide +kernel
theorem dX6_decode_38 : decode cX6_decode 38 = .ok (.iconst 0, 1) := by decide +kernel
theorem dX6_decode_39 : decode cX6_decode 39 = .ok (.invokevirtual 25, 3) := by decide +kernel
theorem dX6_decode_42 : decode cX6_decode 42 = .ok (.aload_n 1, 1) := by decide +kernel
theorem dX6_decode_43 : decode cX6_decode 43 = .ok (.iconst 1, 1) := by decide +kernel
theorem dX6_decode_44 : decode cX6_decode 44 = .ok (.invokevirtual 25, 3) := by decide +kernel
theorem dX6_decode_47 : decode cX6_decode 47 = .ok (.invokestatic 65, 3) := by decide +kernel
theorem dX6_decode_50 : decode cX6_decode 50 = .ok (.ifCond .eq 31, 3) := by decide +kernel
theorem dX6_decode_53 : decode cX6_decode 53 = .ok (.aload_n 2, 1) := by decide +kernel
theorem dX6_decode_54 : decode cX6_decode 54 = .ok (.iconst 2, 1) := by decide +kernel
theorem dX6_decode_55 : decode cX6_decode 55 = .ok (.invokevirtual 31, 3) := by decide +kernel
theorem dX6_decode_58 : decode cX6_decode 58 = .ok (.aload_n 0, 1) := by decide +kernel
theorem dX6_decode_59 : decode cX6_decode 59 = .ok (.aload_n 1, 1) := by decide +kernel
theorem dX6_decode_60 : decode cX6_decode 60 = .ok (.iconst 0, 1) := by decide +kernel
theorem dX6_decode_61 : decode cX6_decode 61 = .ok (.invokevirtual 25, 3) := by decide +kernel
theorem dX6_decode_64 : decode cX6_decode 64 = .ok (.sipush 255, 3) := by decide +kernel
theorem dX6_decode_67 : decode cX6_decode 67 = .ok (.if_icmp .ne 7, 3) := by decide +kernel
theorem dX6_decode_70 : decode cX6_decode 70 = .ok (.iconst 1, 1) := by decide +kernel
theorem dX6_decode_71 : decode cX6_decode 71 = .ok (.goto 4, 3) := by decide +kernel
theorem dX6_decode_74 : decode cX6_decode 74 = .ok (.iconst 0, 1) := by decide +kernel
theorem dX6_decode_75 : decode cX6_decode 75 = .ok (.putfield 22, 3) := by decide +kernel
theorem dX6_decode_78 : decode cX6_decode 78 = .ok (.goto 9, 3) := by decide +kernel
theorem dX6_decode_81 : decode cX6_decode 81 = .ok (.aload_n 0, 1) := by decide +kernel
theorem dX6_decode_82 : decode cX6_decode 82 = .ok (.aload_n 1, 1) := by decide +kernel
theorem dX6_decode_83 : decode cX6_decode 83 = .ok (.aload_n 2, 1) := by decide +kernel
theorem dX6_decode_84 : decode cX6_decode 84 = .ok (.invokevirtual 68, 3) := by decide +kernel
theorem dX6_decode_87 : decode cX6_decode 87 = .ok (.return_, 1) := by decide +kernel
theorem dX6_isMark_0 : decode cX6_isMark 0 = .ok (.iload_n 0, 1) := by decide +kernel
theorem dX6_isMark_1 : decode cX6_isMark 1 = .ok (.sipush 254, 3) := by decide +kernel
theorem dX6_isMark_4 : decode cX6_isMark 4 = .ok (.if_icmp .ne 10, 3) := by decide +kernel
theorem dX6_isMark_7 : decode cX6_isMark 7 = .ok (.iload_n 1, 1) := by decide +kernel
theorem dX6_isMark_8 : decode cX6_isMark 8 = .ok (.sipush 255, 3) := by decide +kernel
theorem dX6_isMark_11 : decode cX6_isMark 11 = .ok (.if_icmp .eq 17, 3) := by decide +kernel
theorem dX6_isMark_14 : decode cX6_isMark 14 = .ok (.iload_n 0, 1) := by decide +kernel
theorem dX6_isMark_15 : decode cX6_isMark 15 = .ok (.sipush 255, 3) := by decide +kernel
theorem dX6_isMark_18 : decode cX6_isMark 18 = .ok (.if_icmp .ne 14, 3) := by decide +kernel
theorem dX6_isMark_21 : decode cX6_isMark 21 = .ok (.iload_n 1, 1) := by decide +kernel
theorem dX6_isMark_22 : decode cX6_isMark 22 = .ok (.sipush 254, 3) := by decide +kernel
theorem dX6_isMark_25 : decode cX6_isMark 25 = .ok (.if_icmp .ne 7, 3) := by decide +kernel
theorem dX6_isMark_28 : decode cX6_isMark 28 = .ok (.iconst 1, 1) := by decide +kernel
theorem dX6_isMark_29 : decode cX6_isMark 29 = .ok (.goto 4, 3) := by decide +kernel
theorem dX6_isMark_32 : decode cX6_isMark 32 = .ok (.iconst 0, 1) := by decide +kernel
theorem dX6_isMark_33 : decode cX6_isMark 33 = .ok (.ireturn, 1) := by decide +kernel
theorem dX6_decodeCharacter_0 : decode cX6_decodeCharacter 0 = .ok (.aload_n 0, 1) := by decide +kernel
theorem dX6_decodeCharacter_1 : decode cX6_decodeCharacter 1 = .ok (.aload_n 1, 1) := by decide +kernel
theorem dX6_decodeCharacter_2 : decode cX6_decodeCharacter 2 = .ok (.iconst 0, 1) := by decide +kernel
theorem dX6_decodeCharacter_3 : decode cX6_decodeCharacter 3 = .ok (.invokevirtual 71, 3) := by decide +kernel
theorem dX6_decodeCharacter_6 : decode cX6_decodeCharacter 6 = .ok (.istore_n 3, 1) := by decide +kernel
theorem dX6_decodeCharacter_7 : decode cX6_decodeCharacter 7 = .ok (.iload_n 3, 1) := by decide +kernel
theorem dX6_decodeCharacter_8 : decode cX6_decodeCharacter 8 = .ok (.invokestatic 40, 3) := by decide +kernel
theorem dX6_decodeCharacter_11 : decode cX6_decodeCharacter 11 = .ok (.ifCond .ne 16, 3) := by decide +kernel
theorem dX6_decodeCharacter_14 : decode cX6_decodeCharacter 14 = .ok (.aload_n 2, 1) := by decide +kernel
theorem dX6_decodeCharacter_15 : decode cX6_decodeCharacter 15 = .ok (.iconst 2, 1) := by decide +kernel
theorem dX6_decodeCharacter_16 : decode cX6_decodeCharacter 16 = .ok (.invokevirtual 31, 3) := by decide +kernel
theorem dX6_decodeCharacter_19 : decode cX6_decodeCharacter 19 = .ok (.aload_n 2, 1) := by decide +kernel
theorem dX6_decodeCharacter_20 : decode cX6_decodeCharacter 20 = .ok (.iload_n 3, 1) := by decide +kernel
theorem dX6_decodeCharacter_21 : decode cX6_decodeCharacter 21 = .ok (.invokevirtual 37, 3) := by decide +kernel
theorem dX6_decodeCharacter_24 : decode cX6_decodeCharacter 24 = .ok (.goto 73, 3) := by decide +kernel
theorem dX6_decodeCharacter_27 : decode cX6_decodeCharacter 27 = .ok (.iload_n 3, 1) := by decide +kernel
theorem dX6_decodeCharacter_28 : decode cX6_decodeCharacter 28 = .ok (.invokestatic 75, 3) := by decide +kernel
theorem dX6_decodeCharacter_31 : decode cX6_decodeCharacter 31 = .ok (.ifCond .eq 11, 3) := by decide +kernel
theorem dX6_decodeCharacter_34 : decode cX6_decodeCharacter 34 = .ok (.aload_n 2, 1) := by decide +kernel
theorem dX6_decodeCharacter_35 : decode cX6_decodeCharacter 35 = .ok (.iconst 2, 1) := by decide +kernel
theorem dX6_decodeCharacter_36 : decode cX6_decodeCharacter 36 = .ok (.invokevirtual 78, 3) := by decide +kernel
theorem dX6_decodeCharacter_39 : decode cX6_decodeCharacter 39 = .ok (.goto 58, 3) := by decide +kernel
theorem dX6_decodeCharacter_42 : decode cX6_decodeCharacter 42 = .ok (.aload_n 1, 1) := by decide +kernel
theorem dX6_decodeCharacter_43 : decode cX6_decodeCharacter 43 = .ok (.invokevirtual 58, 3) := by decide +kernel
theorem dX6_decodeCharacter_46 : decode cX6_decodeCharacter 46 = .ok (.iconst 4, 1) := by decide +kernel
theorem dX6_decodeCharacter_47 : decode cX6_decodeCharacter 47 = .ok (.if_icmp .ge 10, 3) := by decide +kernel
theorem dX6_decodeCharacter_50 : decode cX6_decodeCharacter 50 = .ok (.aload_n 2, 1) := by decide +kernel
theorem dX6_decodeCharacter_51 : decode cX6_decodeCharacter 51 = .ok (.invokevirtual 62, 3) := by decide +kernel
theorem dX6_decodeCharacter_54 : decode cX6_decodeCharacter 54 = .ok (.goto 43, 3) := by decide +kernel
theorem dX6_decodeCharacter_57 : decode cX6_decodeCharacter 57 = .ok (.aload_n 0, 1) := by decide +kernel
theorem dX6_decodeCharacter_58 : decode cX6_decodeCharacter 58 = .ok (.aload_n 1, 1) := by decide +kernel
theorem dX6_decodeCharacter_59 : decode cX6_decodeCharacter 59 = .ok (.iconst 2, 1) := by decide +kernel
theorem dX6_decodeCharacter_60 : decode cX6_decodeCharacter 60 = .ok (.invokevirtual 71, 3) := by decide +kernel
theorem dX6_decodeCharacter_63 : decode cX6_decodeCharacter 63 = .ok (.invokestatic 75, 3) := by decide +kernel
theorem dX6_decodeCharacter_66 : decode cX6_decodeCharacter 66 = .ok (.ifCond .eq 26, 3) := by decide +kernel
theorem dX6_decodeCharacter_69 : decode cX6_decodeCharacter 69 = .ok (.aload_n 2, 1) := by decide +kernel
theorem dX6_decodeCharacter_70 : decode cX6_decodeCharacter 70 = .ok (.iconst 4, 1) := by decide +kernel
theorem dX6_decodeCharacter_71 : decode cX6_decodeCharacter 71 = .ok (.invokevirtual 31, 3) := by decide +kernel
theorem dX6_decodeCharacter_74 : decode cX6_decodeCharacter 74 = .ok (.aload_n 2, 1) := by decide +kernel
theorem dX6_decodeCharacter_75 : decode cX6_decodeCharacter 75 = .ok (.iload_n 3, 1) := by decide +kernel
theorem dX6_decodeCharacter_76 : decode cX6_decodeCharacter 76 = .ok (.invokevirtual 37, 3) := by decide +kernel
theorem dX6_decodeCharacter_79 : decode cX6_decodeCharacter 79 = .ok (.aload_n 2, 1) := by decide +kernel
theorem dX6_decodeCharacter_80 : decode cX6_decodeCharacter 80 = .ok (.aload_n 0, 1) := by decide +kernel
theorem dX6_decodeCharacter_81 : decode cX6_decodeCharacter 81 = .ok (.aload_n 1, 1) := by decide +kernel
theorem dX6_decodeCharacter_82 : decode cX6_decodeCharacter 82 = .ok (.iconst 2, 1) := by decide +kernel
theorem dX6_decodeCharacter_83 : decode cX6_decodeCharacter 83 = .ok (.invokevirtual 71, 3) := by decide +kernel
theorem dX6_decodeCharacter_86 : decode cX6_decodeCharacter 86 = .ok (.invokevirtual 37, 3) := by decide +kernel
theorem dX6_decodeCharacter_89 : decode cX6_decodeCharacter 89 = .ok (.goto 8, 3) := by decide +kernel
theorem dX6_decodeCharacter_92 : decode cX6_decodeCharacter 92 = .ok (.aload_n 2, 1) := by decide +kernel
theorem dX6_decodeCharacter_93 : decode cX6_decodeCharacter 93 = .ok (.iconst 2, 1) := by decide +kernel
theorem dX6_decodeCharacter_94 : decode cX6_decodeCharacter 94 = .ok (.invokevirtual 78, 3) := by decide +kernel
theorem dX6_decodeCharacter_97 : decode cX6_decodeCharacter 97 = .ok (.return_, 1) := by decide +kernel
theorem dX6_characterAt_0 : decode cX6_characterAt 0 = .ok (.aload_n 1, 1) := by decide +kernel
theorem dX6_characterAt_1 : decode cX6_characterAt 1 = .ok (.iload_n 2, 1) := by decide +kernel
theorem dX6_characterAt_2 : decode cX6_characterAt 2 = .ok (.invokevirtual 25, 3) := by decide +kernel
theorem dX6_characterAt_5 : decode cX6_characterAt 5 = .ok (.istore_n 3, 1) := by decide +kernel
theorem dX6_characterAt_6 : decode cX6_characterAt 6 = .ok (.aload_n 1, 1) := by decide +kernel
theorem dX6_characterAt_7 : decode cX6_characterAt 7 = .ok (.iload_n 2, 1) := by decide +kernel
theorem dX6_characterAt_8 : decode cX6_characterAt 8 = .ok (.iconst 1, 1) := by decide +kernel
theorem dX6_characterAt_9 : decode cX6_characterAt 9 = .ok (.iadd, 1) := by decide +kernel
theorem dX6_characterAt_10 : decode cX6_characterAt 10 = .ok (.invokevirtual 25, 3) := by decide +kernel
theorem dX6_characterAt_13 : decode cX6_characterAt 13 = .ok (.istore 4, 2) := by decide +kernel
theorem dX6_characterAt_15 : decode cX6_characterAt 15 = .ok (.aload_n 0, 1) := by decide +kernel
theorem dX6_characterAt_16 : decode cX6_characterAt 16 = .ok (.getfield 19, 3) := by decide +kernel
theorem dX6_characterAt_19 : decode cX6_characterAt 19 = .ok (.ifCond .eq 14, 3) := by decide +kernel
theorem dX6_characterAt_22 : decode cX6_characterAt 22 = .ok (.iload 4, 2) := by decide +kernel
theorem dX6_characterAt_24 : decode cX6_characterAt 24 = .ok (.sipush 256, 3) := by decide +kernel
theorem dX6_characterAt_27 : decode cX6_characterAt 27 = .ok (.imul, 1) := by decide +kernel
theorem dX6_characterAt_28 : decode cX6_characterAt 28 = .ok (.iload_n 3, 1) := by decide +kernel
theorem dX6_characterAt_29 : decode cX6_characterAt 29 = .ok (.iadd, 1) := by decide +kernel
theorem dX6_characterAt_30 : decode cX6_characterAt 30 = .ok (.goto 11, 3) := by decide +kernel
theorem dX6_characterAt_33 : decode cX6_characterAt 33 = .ok (.iload_n 3, 1) := by decide +kernel
theorem dX6_characterAt_34 : decode cX6_characterAt 34 = .ok (.sipush 256, 3) := by decide +kernel
theorem dX6_characterAt_37 : decode cX6_characterAt 37 = .ok (.imul, 1) := by decide +kernel
theorem dX6_characterAt_38 : decode cX6_characterAt 38 = .ok (.iload 4, 2) := by decide +kernel
theorem dX6_characterAt_40 : decode cX6_characterAt 40 = .ok (.iadd, 1) := by decide +kernel
theorem dX6_characterAt_41 : decode cX6_characterAt 41 = .ok (.ireturn, 1) := by decide +kernel
theorem dX6_addBytes_0 : decode cX6_addBytes 0 = .ok (.aload_n 2, 1) := by decide +kernel
theorem dX6_addBytes_1 : decode cX6_addBytes 1 = .ok (.aload_n 0, 1) := by decide +kernel
theorem dX6_addBytes_2 : decode cX6_addBytes 2 = .ok (.getfield 19, 3) := by decide +kernel
theorem dX6_addBytes_5 : decode cX6_addBytes 5 = .ok (.ifCond .eq 11, 3) := by decide +kernel
theorem dX6_addBytes_8 : decode cX6_addBytes 8 = .ok (.iload_n 1, 1) := by decide +kernel
theorem dX6_addBytes_9 : decode cX6_addBytes 9 = .ok (.sipush 256, 3) := by decide +kernel
theorem dX6_addBytes_12 : decode cX6_addBytes 12 = .ok (.irem, 1) := by decide +kernel
theorem dX6_addBytes_13 : decode cX6_addBytes 13 = .ok (.goto 8, 3) := by decide +kernel
theorem dX6_addBytes_16 : decode cX6_addBytes 16 = .ok (.iload_n 1, 1) := by decide +kernel
theorem dX6_addBytes_17 : decode cX6_addBytes 17 = .ok (.sipush 256, 3) := by decide +kernel
theorem dX6_addBytes_20 : decode cX6_addBytes 20 = .ok (.idiv, 1) := by decide +kernel
theorem dX6_addBytes_21 : decode cX6_addBytes 21 = .ok (.invokevirtual 37, 3) := by decide +kernel
theorem dX6_addBytes_24 : decode cX6_addBytes 24 = .ok (.aload_n 2, 1) := by decide +kernel
theorem dX6_addBytes_25 : decode cX6_addBytes 25 = .ok (.aload_n 0, 1) := by decide +kernel
theorem dX6_addBytes_26 : decode cX6_addBytes 26 = .ok (.getfield 19, 3) := by decide +kernel
theorem dX6_addBytes_29 : decode cX6_addBytes 29 = .ok (.ifCond .eq 11, 3) := by decide +kernel
theorem dX6_addBytes_32 : decode cX6_addBytes 32 = .ok (.iload_n 1, 1) := by decide +kernel
theorem dX6_addBytes_33 : decode cX6_addBytes 33 = .ok (.sipush 256, 3) := by decide +kernel
theorem dX6_addBytes_36 : decode cX6_addBytes 36 = .ok (.idiv, 1) := by decide +kernel
theorem dX6_addBytes_37 : decode cX6_addBytes 37 = .ok (.goto 8, 3) := by decide +kernel
theorem dX6_addBytes_40 : decode cX6_addBytes 40 = .ok (.iload_n 1, 1) := by decide +kernel
theorem dX6_addBytes_41 : decode cX6_addBytes 41 = .ok (.sipush 256, 3) := by decide +kernel
theorem dX6_addBytes_44 : decode cX6_addBytes 44 = .ok (.irem, 1) := by decide +kernel
theorem dX6_addBytes_45 : decode cX6_addBytes 45 = .ok (.invokevirtual 37, 3) := by decide +kernel
theorem dX6_addBytes_48 : decode cX6_addBytes 48 = .ok (.return_, 1) := by decide +kernel
theorem dX7_init_0 : decode cX7_init 0 = .ok (.aload_n 0, 1) := by decide +kernel
theorem dX7_init_1 : decode cX7_init 1 = .ok (.invokespecial 1, 3) := by decide +kernel
theorem dX7_init_4 : decode cX7_init 4 = .ok (.aload_n 0, 1) := by decide +kernel
theorem dX7_init_5 : decode cX7_init 5 = .ok (.new 7, 3) := by decide +kernel
theorem dX7_init_8 : decode cX7_init 8 = .ok (.dup, 1) := by decide +kernel
theorem dX7_init_9 : decode cX7_init 9 = .ok (.invokespecial 9, 3) := by decide +kernel
theorem dX7_init_12 : decode cX7_init 12 = .ok (.putfield 10, 3) := by decide +kernel
theorem dX7_init_15 : decode cX7_init 15 = .ok (.aload_n 0, 1) := by decide +kernel
theorem dX7_init_16 : decode cX7_init 16 = .ok (.new 7, 3) := by decide +kernel
theorem dX7_init_19 : decode cX7_init 19 = .ok (.dup, 1) := by decide +kernel
theorem dX7_init_20 : decode cX7_init 20 = .ok (.invokespecial 9, 3) := by decide +kernel
theorem dX7_init_23 : decode cX7_init 23 = .ok (.putfield 16, 3) := by decide +kernel
theorem dX7_init_26 : decode cX7_init 26 = .ok (.return_, 1) := by decide +kernel
theorem dX7_begin_0 : decode cX7_begin 0 = .ok (.aload_n 0, 1) := by decide +kernel
theorem dX7_begin_1 : decode cX7_begin 1 = .ok (.getfield 10, 3) := by decide +kernel
theorem dX7_begin_4 : decode cX7_begin 4 = .ok (.invokevirtual 19, 3) := by decide +kernel
theorem dX7_begin_7 : decode cX7_begin 7 = .ok (.return_, 1) := by decide +kernel
theorem dX7_stepMade_0 : decode cX7_stepMade 0 = .ok (.aload_n 0, 1) := by decide +kernel
theorem dX7_stepMade_1 : decode cX7_stepMade 1 = .ok (.getfield 10, 3) := by decide +kernel
theorem dX7_stepMade_4 : decode cX7_stepMade 4 = .ok (.aload_n 0, 1) := by decide +kernel
theorem dX7_stepMade_5 : decode cX7_stepMade 5 = .ok (.getfield 16, 3) := by decide +kernel
theorem dX7_stepMade_8 : decode cX7_stepMade 8 = .ok (.invokevirtual 22, 3) := by decide +kernel
theorem dX7_stepMade_11 : decode cX7_stepMade 11 = .ok (.return_, 1) := by decide +kernel
theorem dX7_passedOver_0 : decode cX7_passedOver 0 = .ok (.aload_n 0, 1) := by decide +kernel
theorem dX7_passedOver_1 : decode cX7_passedOver 1 = .ok (.getfield 10, 3) := by decide +kernel
theorem dX7_passedOver_4 : decode cX7_passedOver 4 = .ok (.invokevirtual 19, 3) := by decide +kernel
theorem dX7_passedOver_7 : decode cX7_passedOver 7 = .ok (.return_, 1) := by decide +kernel
theorem dX7_encode_0 : decode cX7_encode 0 = .ok (.aload_n 1, 1) := by decide +kernel
theorem dX7_encode_1 : decode cX7_encode 1 = .ok (.iconst 0, 1) := by decide +kernel
theorem dX7_encode_2 : decode cX7_encode 2 = .ok (.invokevirtual 26, 3) := by decide +kernel
theorem dX7_encode_5 : decode cX7_encode 5 = .ok (.istore_n 3, 1) := by decide +kernel
theorem dX7_encode_6 : decode cX7_encode 6 = .ok (.aload_n 0, 1) := by decide +kernel
theorem dX7_encode_7 : decode cX7_encode 7 = .ok (.getfield 16, 3) := by decide +kernel
theorem dX7_encode_10 : decode cX7_encode 10 = .ok (.aload_n 0, 1) := by decide +kernel
theorem dX7_encode_11 : decode cX7_encode 11 = .ok (.getfield 10, 3) := by decide +kernel
theorem dX7_encode_14 : decode cX7_encode 14 = .ok (.invokevirtual 22, 3) := by decide +kernel
theorem dX7_encode_17 : decode cX7_encode 17 = .ok (.aload_n 2, 1) := by decide +kernel
theorem dX7_encode_18 : decode cX7_encode 18 = .ok (.iconst 1, 1) := by decide +kernel
theorem dX7_encode_19 : decode cX7_encode 19 = .ok (.invokevirtual 32, 3) := by decide +kernel
theorem dX7_encode_22 : decode cX7_encode 22 = .ok (.iload_n 3, 1) := by decide +kernel
theorem dX7_encode_23 : decode cX7_encode 23 = .ok (.invokestatic 38, 3) := by decide +kernel
theorem dX7_encode_26 : decode cX7_encode 26 = .ok (.ifCond .eq 26, 3) := by decide +kernel
theorem dX7_encode_29 : decode cX7_encode 29 = .ok (.aload_n 0, 1) := by decide +kernel
theorem dX7_encode_30 : decode cX7_encode 30 = .ok (.getfield 10, 3) := by decide +kernel
theorem dX7_encode_33 : decode cX7_encode 33 = .ok (.getfield 42, 3) := by decide +kernel
theorem dX7_encode_36 : decode cX7_encode 36 = .ok (.ifCond .eq 8, 3) := by decide +kernel
theorem dX7_encode_39 : decode cX7_encode 39 = .ok (.aload_n 0, 1) := by decide +kernel
theorem dX7_encode_40 : decode cX7_encode 40 = .ok (.aload_n 2, 1) := by decide +kernel
theorem dX7_encode_41 : decode cX7_encode 41 = .ok (.invokevirtual 46, 3) := by decide +kernel
theorem dX7_encode_44 : decode cX7_encode 44 = .ok (.aload_n 2, 1) := by decide +kernel
theorem dX7_encode_45 : decode cX7_encode 45 = .ok (.iload_n 3, 1) := by decide +kernel
theorem dX7_encode_46 : decode cX7_encode 46 = .ok (.invokevirtual 50, 3) := by decide +kernel
theorem dX7_encode_49 : decode cX7_encode 49 = .ok (.goto 40, 3) := by decide +kernel
theorem dX7_encode_52 : decode cX7_encode 52 = .ok (.aload_n 0, 1) := by decide +kernel
theorem dX7_encode_53 : decode cX7_encode 53 = .ok (.getfield 10, 3) := by decide +kernel
theorem dX7_encode_56 : decode cX7_encode 56 = .ok (.getfield 42, 3) := by decide +kernel
theorem dX7_encode_59 : decode cX7_encode 59 = .ok (.ifCond .ne 24, 3) := by decide +kernel
theorem dX7_encode_62 : decode cX7_encode 62 = .ok (.iload_n 3, 1) := by decide +kernel
theorem dX7_encode_63 : decode cX7_encode 63 = .ok (.bipush 43, 2) := by decide +kernel
theorem dX7_encode_65 : decode cX7_encode 65 = .ok (.if_icmp .ne 18, 3) := by decide +kernel
theorem dX7_encode_68 : decode cX7_encode 68 = .ok (.aload_n 2, 1) := by decide +kernel
theorem dX7_encode_69 : decode cX7_encode 69 = .ok (.bipush 43, 2) := by decide +kernel
theorem dX7_encode_71 : decode cX7_encode 71 = .ok (.invokevirtual 50, 3) := by decide +kernel
theorem dX7_encode_74 : decode cX7_encode 74 = .ok (.aload_n 2, 1) := by decide +kernel
theorem dX7_encode_75 : decode cX7_encode 75 = .ok (.bipush 45, 2) := by decide +kernel
theorem dX7_encode_77 : decode cX7_encode 77 = .ok (.invokevirtual 50, 3) := by decide +kernel
theorem dX7_encode_80 : decode cX7_encode 80 = .ok (.goto 9, 3) := by decide +kernel
theorem dX7_encode_83 : decode cX7_encode 83 = .ok (.aload_n 0, 1) := by decide +kernel
theorem dX7_encode_84 : decode cX7_encode 84 = .ok (.iload_n 3, 1) := by decide +kernel
theorem dX7_encode_85 : decode cX7_encode 85 = .ok (.aload_n 2, 1) := by decide +kernel
theorem dX7_encode_86 : decode cX7_encode 86 = .ok (.invokevirtual 53, 3) := by decide +kernel
theorem dX7_encode_89 : decode cX7_encode 89 = .ok (.return_, 1) := by decide +kernel
theorem dX7_finish_0 : decode cX7_finish 0 = .ok (.aload_n 0, 1) := by decide +kernel
theorem dX7_finish_1 : decode cX7_finish 1 = .ok (.getfield 10, 3) := by decide +kernel
theorem dX7_finish_4 : decode cX7_finish 4 = .ok (.getfield 42, 3) := by decide +kernel
theorem dX7_finish_7 : decode cX7_finish 7 = .ok (.ifCond .ne 5, 3) := by decide +kernel
theorem dX7_finish_10 : decode cX7_finish 10 = .ok (.iconst 0, 1) := by decide +kernel
theorem dX7_finish_11 : decode cX7_finish 11 = .ok (.ireturn, 1) := by decide +kernel
theorem dX7_finish_12 : decode cX7_finish 12 = .ok (.aload_n 1, 1) := by decide +kernel
theorem dX7_finish_13 : decode cX7_finish 13 = .ok (.iconst 0, 1) := by decide +kernel
theorem dX7_finish_14 : decode cX7_finish 14 = .ok (.invokevirtual 32, 3) := by decide +kernel
theorem dX7_finish_17 : decode cX7_finish 17 = .ok (.aload_n 0, 1) := by decide +kernel
theorem dX7_finish_18 : decode cX7_finish 18 = .ok (.aload_n 1, 1) := by decide +kernel
theorem dX7_finish_19 : decode cX7_finish 19 = .ok (.invokevirtual 46, 3) := by decide +kernel
theorem dX7_finish_22 : decode cX7_finish 22 = .ok (.iconst 1, 1) := by decide +kernel
theorem dX7_finish_23 : decode cX7_finish 23 = .ok (.ireturn, 1) := by decide +kernel
theorem dX7_encodeShifted_0 : decode cX7_encodeShifted 0 = .ok (.aload_n 0, 1) := by decide +kernel
theorem dX7_encodeShifted_1 : decode cX7_encodeShifted 1 = .ok (.getfield 10, 3) := by decide +kernel
theorem dX7_encodeShifted_4 : decode cX7_encodeShifted 4 = .ok (.getfield 42, 3) := by decide +kernel
theorem dX7_encodeShifted_7 : decode cX7_encodeShifted 7 = .ok (.ifCond .ne 16, 3) := by decide +kernel
theorem dX7_encodeShifted_10 : decode cX7_encodeShifted 10 = .ok (.aload_n 2, 1) := by decide +kernel
theorem dX7_encodeShifted_11 : decode cX7_encodeShifted 11 = .ok (.bipush 43, 2) := by decide +kernel
theorem dX7_encodeShifted_13 : decode cX7_encodeShifted 13 = .ok (.invokevirtual 50, 3) := by decide +kernel
theorem dX7_encodeShifted_16 : decode cX7_encodeShifted 16 = .ok (.aload_n 0, 1) := by decide +kernel
theorem dX7_encodeShifted_17 : decode cX7_encodeShifted 17 = .ok (.getfield 16, 3) := by decide +kernel
theorem dX7_encodeShifted_20 : decode cX7_encodeShifted 20 = .ok (.invokevirtual 57, 3) := by decide +kernel
theorem dX7_encodeShifted_23 : decode cX7_encodeShifted 23 = .ok (.aload_n 0, 1) := by decide +kernel
theorem dX7_encodeShifted_24 : decode cX7_encodeShifted 24 = .ok (.getfield 16, 3) := by decide +kernel
theorem dX7_encodeShifted_27 : decode cX7_encodeShifted 27 = .ok (.iload_n 1, 1) := by decide +kernel
theorem dX7_encodeShifted_28 : decode cX7_encodeShifted 28 = .ok (.bipush 16, 2) := by decide +kernel
theorem dX7_encodeShifted_30 : decode cX7_encodeShifted 30 = .ok (.invokevirtual 60, 3) := by decide +kernel
theorem dX7_encodeShifted_33 : decode cX7_encodeShifted 33 = .ok (.aload_n 0, 1) := by decide +kernel
theorem dX7_encodeShifted_34 : decode cX7_encodeShifted 34 = .ok (.getfield 16, 3) := by decide +kernel
theorem dX7_encodeShifted_37 : decode cX7_encodeShifted 37 = .ok (.getfield 64, 3) := by decide +kernel
theorem dX7_encodeShifted_40 : decode cX7_encodeShifted 40 = .ok (.bipush 6, 2) := by decide +kernel
theorem dX7_encodeShifted_42 : decode cX7_encodeShifted 42 = .ok (.idiv, 1) := by decide +kernel
theorem dX7_encodeShifted_43 : decode cX7_encodeShifted 43 = .ok (.istore_n 3, 1) := by decide +kernel
theorem dX7_encodeShifted_44 : decode cX7_encodeShifted 44 = .ok (.iload_n 3, 1) := by decide +kernel
theorem dX7_encodeShifted_45 : decode cX7_encodeShifted 45 = .ok (.ifCond .le 30, 3) := by decide +kernel
theorem dX7_encodeShifted_48 : decode cX7_encodeShifted 48 = .ok (.aload_n 2, 1) := by decide +kernel
theorem dX7_encodeShifted_49 : decode cX7_encodeShifted 49 = .ok (.ldc 68, 2) := by decide +kernel
theorem dX7_encodeShifted_51 : decode cX7_encodeShifted 51 = .ok (.aload_n 0, 1) := by decide +kernel
theorem dX7_encodeShifted_52 : decode cX7_encodeShifted 52 = .ok (.getfield 16, 3) := by decide +kernel
theorem dX7_encodeShifted_55 : decode cX7_encodeShifted 55 = .ok (.bipush 6, 2) := by decide +kernel
theorem dX7_encodeShifted_57 : decode cX7_encodeShifted 57 = .ok (.invokevirtual 70, 3) := by decide +kernel
theorem dX7_encodeShifted_60 : decode cX7_encodeShifted 60 = .ok (.bipush 63, 2) := by decide +kernel
theorem dX7_encodeShifted_62 : decode cX7_encodeShifted 62 = .ok (.iand, 1) := by decide +kernel
theorem dX7_encodeShifted_63 : decode cX7_encodeShifted 63 = .ok (.invokevirtual 73, 3) := by decide +kernel
theorem dX7_encodeShifted_66 : decode cX7_encodeShifted 66 = .ok (.invokevirtual 50, 3) := by decide +kernel
theorem dX7_encodeShifted_69 : decode cX7_encodeShifted 69 = .ok (.iinc 3 (-1), 3) := by decide +kernel
theorem dX7_encodeShifted_72 : decode cX7_encodeShifted 72 = .ok (.goto (-28), 3) := by decide +kernel
theorem dX7_encodeShifted_75 : decode cX7_encodeShifted 75 = .ok (.return_, 1) := by decide +kernel
theorem dX7_leaveShift_0 : decode cX7_leaveShift 0 = .ok (.aload_n 0, 1) := by decide +kernel
theorem dX7_leaveShift_1 : decode cX7_leaveShift 1 = .ok (.getfield 10, 3) := by decide +kernel
theorem dX7_leaveShift_4 : decode cX7_leaveShift 4 = .ok (.getfield 64, 3) := by decide +kernel
theorem dX7_leaveShift_7 : decode cX7_leaveShift 7 = .ok (.ifCond .le 33, 3) := by decide +kernel
theorem dX7_leaveShift_10 : decode cX7_leaveShift 10 = .ok (.aload_n 1, 1) := by decide +kernel
theorem dX7_leaveShift_11 : decode cX7_leaveShift 11 = .ok (.ldc 68, 2) := by decide +kernel
theorem dX7_leaveShift_13 : decode cX7_leaveShift 13 = .ok (.aload_n 0, 1) := by decide +kernel
theorem dX7_leaveShift_14 : decode cX7_leaveShift 14 = .ok (.getfield 10, 3) := by decide +kernel
theorem dX7_leaveShift_17 : decode cX7_leaveShift 17 = .ok (.getfield 79, 3) := by decide +kernel
theorem dX7_leaveShift_20 : decode cX7_leaveShift 20 = .ok (.bipush 6, 2) := by decide +kernel
theorem dX7_leaveShift_22 : decode cX7_leaveShift 22 = .ok (.aload_n 0, 1) := by decide +kernel
theorem dX7_leaveShift_23 : decode cX7_leaveShift 23 = .ok (.getfield 10, 3) := by decide +kernel
theorem dX7_leaveShift_26 : decode cX7_leaveShift 26 = .ok (.getfield 64, 3) := by decide +kernel
theorem dX7_leaveShift_29 : decode cX7_leaveShift 29 = .ok (.isub, 1) := by decide +kernel
theorem dX7_leaveShift_30 : decode cX7_leaveShift 30 = .ok (.ishl, 1) := by decide +kernel
theorem dX7_leaveShift_31 : decode cX7_leaveShift 31 = .ok (.bipush 63, 2) := by decide +kernel
theorem dX7_leaveShift_33 : decode cX7_leaveShift 33 = .ok (.iand, 1) := by decide +kernel
theorem dX7_leaveShift_34 : decode cX7_leaveShift 34 = .ok (.invokevirtual 73, 3) := by decide +kernel
theorem dX7_leaveShift_37 : decode cX7_leaveShift 37 = .ok (.invokevirtual 50, 3) := by decide +kernel
theorem dX7_leaveShift_40 : decode cX7_leaveShift 40 = .ok (.aload_n 1, 1) := by decide +kernel
theorem dX7_leaveShift_41 : decode cX7_leaveShift 41 = .ok (.bipush 45, 2) := by decide +kernel
theorem dX7_leaveShift_43 : decode cX7_leaveShift 43 = .ok (.invokevirtual 50, 3) := by decide +kernel
theorem dX7_leaveShift_46 : decode cX7_leaveShift 46 = .ok (.aload_n 0, 1) := by decide +kernel
theorem dX7_leaveShift_47 : decode cX7_leaveShift 47 = .ok (.getfield 16, 3) := by decide +kernel
theorem dX7_leaveShift_50 : decode cX7_leaveShift 50 = .ok (.invokevirtual 19, 3) := by decide +kernel
theorem dX7_leaveShift_53 : decode cX7_leaveShift 53 = .ok (.return_, 1) := by decide +kernel
theorem dX7_decode_0 : decode cX7_decode 0 = .ok (.aload_n 1, 1) := by decide +kernel
theorem dX7_decode_1 : decode cX7_decode 1 = .ok (.iconst 0, 1) := by decide +kernel
theorem dX7_decode_2 : decode cX7_decode 2 = .ok (.invokevirtual 26, 3) := by decide +kernel
theorem dX7_decode_5 : decode cX7_decode 5 = .ok (.istore_n 3, 1) := by decide +kernel
theorem dX7_decode_6 : decode cX7_decode 6 = .ok (.aload_n 0, 1) := by decide +kernel
theorem dX7_decode_7 : decode cX7_decode 7 = .ok (.getfield 16, 3) := by decide +kernel
theorem dX7_decode_10 : decode cX7_decode 10 = .ok (.aload_n 0, 1) := by decide +kernel
theorem dX7_decode_11 : decode cX7_decode 11 = .ok (.getfield 10, 3) := by decide +kernel
theorem dX7_decode_14 : decode cX7_decode 14 = .ok (.invokevirtual 22, 3) := by decide +kernel
theorem dX7_decode_17 : decode cX7_decode 17 = .ok (.iload_n 3, 1) := by decide +kernel
theorem dX7_decode_18 : decode cX7_decode 18 = .ok (.sipush 128, 3) := by decide +kernel
theorem dX7_decode_21 : decode cX7_decode 21 = .ok (.if_icmp .lt 11, 3) := by decide +kernel
theorem dX7_decode_24 : decode cX7_decode 24 = .ok (.aload_n 2, 1) := by decide +kernel
theorem dX7_decode_25 : decode cX7_decode 25 = .ok (.iconst 1, 1) := by decide +kernel
theorem dX7_decode_26 : decode cX7_decode 26 = .ok (.invokevirtual 82, 3) := by decide +kernel
theorem dX7_decode_29 : decode cX7_decode 29 = .ok (.goto 47, 3) := by decide +kernel
theorem dX7_decode_32 : decode cX7_decode 32 = .ok (.aload_n 0, 1) := by decide +kernel
theorem dX7_decode_33 : decode cX7_decode 33 = .ok (.getfield 10, 3) := by decide +kernel
theorem dX7_decode_36 : decode cX7_decode 36 = .ok (.getfield 42, 3) := by decide +kernel
theorem dX7_decode_39 : decode cX7_decode 39 = .ok (.ifCond .ne 12, 3) := by decide +kernel
theorem dX7_decode_42 : decode cX7_decode 42 = .ok (.aload_n 0, 1) := by decide +kernel
theorem dX7_decode_43 : decode cX7_decode 43 = .ok (.iload_n 3, 1) := by decide +kernel
theorem dX7_decode_44 : decode cX7_decode 44 = .ok (.aload_n 2, 1) := by decide +kernel
theorem dX7_decode_45 : decode cX7_decode 45 = .ok (.invokevirtual 85, 3) := by decide +kernel
theorem dX7_decode_48 : decode cX7_decode 48 = .ok (.goto 28, 3) := by decide +kernel
theorem dX7_decode_51 : decode cX7_decode 51 = .ok (.iload_n 3, 1) := by decide +kernel
theorem dX7_decode_52 : decode cX7_decode 52 = .ok (.invokestatic 88, 3) := by decide +kernel
theorem dX7_decode_55 : decode cX7_decode 55 = .ok (.ifCond .lt 15, 3) := by decide +kernel
theorem dX7_decode_58 : decode cX7_decode 58 = .ok (.aload_n 0, 1) := by decide +kernel
theorem dX7_decode_59 : decode cX7_decode 59 = .ok (.iload_n 3, 1) := by decide +kernel
theorem dX7_decode_60 : decode cX7_decode 60 = .ok (.invokestatic 88, 3) := by decide +kernel
theorem dX7_decode_63 : decode cX7_decode 63 = .ok (.aload_n 2, 1) := by decide +kernel
theorem dX7_decode_64 : decode cX7_decode 64 = .ok (.invokevirtual 91, 3) := by decide +kernel
theorem dX7_decode_67 : decode cX7_decode 67 = .ok (.goto 9, 3) := by decide +kernel
theorem dX7_decode_70 : decode cX7_decode 70 = .ok (.aload_n 0, 1) := by decide +kernel
theorem dX7_decode_71 : decode cX7_decode 71 = .ok (.iload_n 3, 1) := by decide +kernel
theorem dX7_decode_72 : decode cX7_decode 72 = .ok (.aload_n 2, 1) := by decide +kernel
theorem dX7_decode_73 : decode cX7_decode 73 = .ok (.invokevirtual 94, 3) := by decide +kernel
theorem dX7_decode_76 : decode cX7_decode 76 = .ok (.return_, 1) := by decide +kernel
theorem dX7_decodePlain_0 : decode cX7_decodePlain 0 = .ok (.aload_n 2, 1) := by decide +kernel
theorem dX7_decodePlain_1 : decode cX7_decodePlain 1 = .ok (.iconst 1, 1) := by decide +kernel
theorem dX7_decodePlain_2 : decode cX7_decodePlain 2 = .ok (.invokevirtual 32, 3) := by decide +kernel
theorem dX7_decodePlain_5 : decode cX7_decodePlain 5 = .ok (.iload_n 1, 1) := by decide +kernel
theorem dX7_decodePlain_6 : decode cX7_decodePlain 6 = .ok (.bipush 43, 2) := by decide +kernel
theorem dX7_decodePlain_8 : decode cX7_decodePlain 8 = .ok (.if_icmp .ne 13, 3) := by decide +kernel
theorem dX7_decodePlain_11 : decode cX7_decodePlain 11 = .ok (.aload_n 0, 1) := by decide +kernel
theorem dX7_decodePlain_12 : decode cX7_decodePlain 12 = .ok (.getfield 16, 3) := by decide +kernel
theorem dX7_decodePlain_15 : decode cX7_decodePlain 15 = .ok (.invokevirtual 57, 3) := by decide +kernel
theorem dX7_decodePlain_18 : decode cX7_decodePlain 18 = .ok (.goto 8, 3) := by decide +kernel
theorem dX7_decodePlain_21 : decode cX7_decodePlain 21 = .ok (.aload_n 2, 1) := by decide +kernel
theorem dX7_decodePlain_22 : decode cX7_decodePlain 22 = .ok (.iload_n 1, 1) := by decide +kernel
theorem dX7_decodePlain_23 : decode cX7_decodePlain 23 = .ok (.invokevirtual 50, 3) := by decide +kernel
theorem dX7_decodePlain_26 : decode cX7_decodePlain 26 = .ok (.return_, 1) := by decide +kernel
theorem dX7_decodeSign_0 : decode cX7_decodeSign 0 = .ok (.aload_n 2, 1) := by decide +kernel
theorem dX7_decodeSign_1 : decode cX7_decodeSign 1 = .ok (.iconst 1, 1) := by decide +kernel
theorem dX7_decodeSign_2 : decode cX7_decodeSign 2 = .ok (.invokevirtual 32, 3) := by decide +kernel
theorem dX7_decodeSign_5 : decode cX7_decodeSign 5 = .ok (.aload_n 0, 1) := by decide +kernel
theorem dX7_decodeSign_6 : decode cX7_decodeSign 6 = .ok (.getfield 16, 3) := by decide +kernel
theorem dX7_decodeSign_9 : decode cX7_decodeSign 9 = .ok (.iload_n 1, 1) := by decide +kernel
theorem dX7_decodeSign_10 : decode cX7_decodeSign 10 = .ok (.bipush 6, 2) := by decide +kernel
theorem dX7_decodeSign_12 : decode cX7_decodeSign 12 = .ok (.invokevirtual 60, 3) := by decide +kernel
theorem dX7_decodeSign_15 : decode cX7_decodeSign 15 = .ok (.aload_n 0, 1) := by decide +kernel
theorem dX7_decodeSign_16 : decode cX7_decodeSign 16 = .ok (.getfield 16, 3) := by decide +kernel
theorem dX7_decodeSign_19 : decode cX7_decodeSign 19 = .ok (.getfield 64, 3) := by decide +kernel
theorem dX7_decodeSign_22 : decode cX7_decodeSign 22 = .ok (.bipush 16, 2) := by decide +kernel
theorem dX7_decodeSign_24 : decode cX7_decodeSign 24 = .ok (.if_icmp .lt 16, 3) := by decide +kernel
theorem dX7_decodeSign_27 : decode cX7_decodeSign 27 = .ok (.aload_n 2, 1) := by decide +kernel
theorem dX7_decodeSign_28 : decode cX7_decodeSign 28 = .ok (.aload_n 0, 1) := by decide +kernel
theorem dX7_decodeSign_29 : decode cX7_decodeSign 29 = .ok (.getfield 16, 3) := by decide +kernel
theorem dX7_decodeSign_32 : decode cX7_decodeSign 32 = .ok (.bipush 16, 2) := by decide +kernel
theorem dX7_decodeSign_34 : decode cX7_decodeSign 34 = .ok (.invokevirtual 70, 3) := by decide +kernel
theorem dX7_decodeSign_37 : decode cX7_decodeSign 37 = .ok (.invokevirtual 50, 3) := by decide +kernel
theorem dX7_decodeSign_40 : decode cX7_decodeSign 40 = .ok (.return_, 1) := by decide +kernel
theorem dX7_decodeEnd_0 : decode cX7_decodeEnd 0 = .ok (.iload_n 1, 1) := by decide +kernel
theorem dX7_decodeEnd_1 : decode cX7_decodeEnd 1 = .ok (.bipush 45, 2) := by decide +kernel
theorem dX7_decodeEnd_3 : decode cX7_decodeEnd 3 = .ok (.if_icmp .ne 7, 3) := by decide +kernel
theorem dX7_decodeEnd_6 : decode cX7_decodeEnd 6 = .ok (.iconst 1, 1) := by decide +kernel
theorem dX7_decodeEnd_7 : decode cX7_decodeEnd 7 = .ok (.goto 4, 3) := by decide +kernel
theorem dX7_decodeEnd_10 : decode cX7_decodeEnd 10 = .ok (.iconst 0, 1) := by decide +kernel
theorem dX7_decodeEnd_11 : decode cX7_decodeEnd 11 = .ok (.istore_n 3, 1) := by decide +kernel
theorem dX7_decodeEnd_12 : decode cX7_decodeEnd 12 = .ok (.aload_n 0, 1) := by decide +kernel
theorem dX7_decodeEnd_13 : decode cX7_decodeEnd 13 = .ok (.getfield 10, 3) := by decide +kernel
theorem dX7_decodeEnd_16 : decode cX7_decodeEnd 16 = .ok (.invokevirtual 97, 3) := by decide +kernel
theorem dX7_decodeEnd_19 : decode cX7_decodeEnd 19 = .ok (.ifCond .ne 17, 3) := by decide +kernel
theorem dX7_decodeEnd_22 : decode cX7_decodeEnd 22 = .ok (.aload_n 0, 1) := by decide +kernel
theorem dX7_decodeEnd_23 : decode cX7_decodeEnd 23 = .ok (.getfield 10, 3) := by decide +kernel
theorem dX7_decodeEnd_26 : decode cX7_decodeEnd 26 = .ok (.getfield 101, 3) := by decide +kernel
theorem dX7_decodeEnd_29 : decode cX7_decodeEnd 29 = .ok (.ifCond .eq 13, 3) := by decide +kernel
theorem dX7_decodeEnd_32 : decode cX7_decodeEnd 32 = .ok (.iload_n 3, 1) := by decide +kernel
theorem dX7_decodeEnd_33 : decode cX7_decodeEnd 33 = .ok (.ifCond .ne 9, 3) := by decide +kernel
theorem dX7_decodeEnd_36 : decode cX7_decodeEnd 36 = .ok (.aload_n 2, 1) := by decide +kernel
theorem dX7_decodeEnd_37 : decode cX7_decodeEnd 37 = .ok (.iconst 1, 1) := by decide +kernel
theorem dX7_decodeEnd_38 : decode cX7_decodeEnd 38 = .ok (.invokevirtual 82, 3) := by decide +kernel
theorem dX7_decodeEnd_41 : decode cX7_decodeEnd 41 = .ok (.return_, 1) := by decide +kernel
theorem dX7_decodeEnd_42 : decode cX7_decodeEnd 42 = .ok (.aload_n 2, 1) := by decide +kernel
theorem dX7_decodeEnd_43 : decode cX7_decodeEnd 43 = .ok (.iconst 1, 1) := by decide +kernel
theorem dX7_decodeEnd_44 : decode cX7_decodeEnd 44 = .ok (.invokevirtual 32, 3) := by decide +kernel
theorem dX7_decodeEnd_47 : decode cX7_decodeEnd 47 = .ok (.aload_n 0, 1) := by decide +kernel
theorem dX7_decodeEnd_48 : decode cX7_decodeEnd 48 = .ok (.getfield 16, 3) := by decide +kernel
theorem dX7_decodeEnd_51 : decode cX7_decodeEnd 51 = .ok (.invokevirtual 19, 3) := by decide +kernel
theorem dX7_decodeEnd_54 : decode cX7_decodeEnd 54 = .ok (.iload_n 3, 1) := by decide +kernel
theorem dX7_decodeEnd_55 : decode cX7_decodeEnd 55 = .ok (.ifCond .ne 11, 3) := by decide +kernel
theorem dX7_decodeEnd_58 : decode cX7_decodeEnd 58 = .ok (.aload_n 2, 1) := by decide +kernel
theorem dX7_decodeEnd_59 : decode cX7_decodeEnd 59 = .ok (.iload_n 1, 1) := by decide +kernel
theorem dX7_decodeEnd_60 : decode cX7_decodeEnd 60 = .ok (.invokevirtual 50, 3) := by decide +kernel
theorem dX7_decodeEnd_63 : decode cX7_decodeEnd 63 = .ok (.goto 19, 3) := by decide +kernel
theorem dX7_decodeEnd_66 : decode cX7_decodeEnd 66 = .ok (.aload_n 0, 1) := by decide +kernel
theorem dX7_decodeEnd_67 : decode cX7_decodeEnd 67 = .ok (.getfield 10, 3) := by decide +kernel
theorem dX7_decodeEnd_70 : decode cX7_decodeEnd 70 = .ok (.getfield 101, 3) := by decide +kernel
theorem dX7_decodeEnd_73 : decode cX7_decodeEnd 73 = .ok (.ifCond .eq 9, 3) := by decide +kernel
theorem dX7_decodeEnd_76 : decode cX7_decodeEnd 76 = .ok (.aload_n 2, 1) := by decide +kernel
theorem dX7_decodeEnd_77 : decode cX7_decodeEnd 77 = .ok (.bipush 43, 2) := by decide +kernel
theorem dX7_decodeEnd_79 : decode cX7_decodeEnd 79 = .ok (.invokevirtual 50, 3) := by decide +kernel
theorem dX7_decodeEnd_82 : decode cX7_decodeEnd 82 = .ok (.return_, 1) := by decide +kernel
theorem dX7_isDirect_0 : decode cX7_isDirect 0 = .ok (.iload_n 0, 1) := by decide +kernel
theorem dX7_isDirect_1 : decode cX7_isDirect 1 = .ok (.invokestatic 88, 3) := by decide +kernel
theorem dX7_isDirect_4 : decode cX7_isDirect 4 = .ok (.istore_n 1, 1) := by decide +kernel
theorem dX7_isDirect_5 : decode cX7_isDirect 5 = .ok (.iload_n 1, 1) := by decide +kernel
theorem dX7_isDirect_6 : decode cX7_isDirect 6 = .ok (.ifCond .lt 9, 3) := by decide +kernel
theorem dX7_isDirect_9 : decode cX7_isDirect 9 = .ok (.iload_n 1, 1) := by decide +kernel
theorem dX7_isDirect_10 : decode cX7_isDirect 10 = .ok (.bipush 62, 2) := by decide +kernel
theorem dX7_isDirect_12 : decode cX7_isDirect 12 = .ok (.if_icmp .lt 20, 3) := by decide +kernel
theorem dX7_isDirect_15 : decode cX7_isDirect 15 = .ok (.iload_n 0, 1) := by decide +kernel
theorem dX7_isDirect_16 : decode cX7_isDirect 16 = .ok (.sipush 128, 3) := by decide +kernel
theorem dX7_isDirect_19 : decode cX7_isDirect 19 = .ok (.if_icmp .ge 17, 3) := by decide +kernel
theorem dX7_isDirect_22 : decode cX7_isDirect 22 = .ok (.ldc 104, 2) := by decide +kernel
theorem dX7_isDirect_24 : decode cX7_isDirect 24 = .ok (.iload_n 0, 1) := by decide +kernel
theorem dX7_isDirect_25 : decode cX7_isDirect 25 = .ok (.i2c, 1) := by decide +kernel
theorem dX7_isDirect_26 : decode cX7_isDirect 26 = .ok (.invokevirtual 106, 3) := by decide +kernel
theorem dX7_isDirect_29 : decode cX7_isDirect 29 = .ok (.ifCond .lt 7, 3) := by decide +kernel
theorem dX7_isDirect_32 : decode cX7_isDirect 32 = .ok (.iconst 1, 1) := by decide +kernel
theorem dX7_isDirect_33 : decode cX7_isDirect 33 = .ok (.goto 4, 3) := by decide +kernel
theorem dX7_isDirect_36 : decode cX7_isDirect 36 = .ok (.iconst 0, 1) := by decide +kernel
theorem dX7_isDirect_37 : decode cX7_isDirect 37 = .ok (.ireturn, 1) := by decide +kernel
theorem dX7_valueOf_0 : decode cX7_valueOf 0 = .ok (.iload_n 0, 1) := by decide +kernel
theorem dX7_valueOf_1 : decode cX7_valueOf 1 = .ok (.sipush 128, 3) := by decide +kernel
theorem dX7_valueOf_4 : decode cX7_valueOf 4 = .ok (.if_icmp .ge 13, 3) := by decide +kernel
theorem dX7_valueOf_7 : decode cX7_valueOf 7 = .ok (.ldc 68, 2) := by decide +kernel
theorem dX7_valueOf_9 : decode cX7_valueOf 9 = .ok (.iload_n 0, 1) := by decide +kernel
theorem dX7_valueOf_10 : decode cX7_valueOf 10 = .ok (.i2c, 1) := by decide +kernel
theorem dX7_valueOf_11 : decode cX7_valueOf 11 = .ok (.invokevirtual 106, 3) := by decide +kernel
theorem dX7_valueOf_14 : decode cX7_valueOf 14 = .ok (.goto 4, 3) := by decide +kernel
theorem dX7_valueOf_17 : decode cX7_valueOf 17 = .ok (.iconst (-1), 1) := by decide +kernel
theorem dX7_valueOf_18 : decode cX7_valueOf 18 = .ok (.ireturn, 1) := by decide +kernel
theorem dX8_init_0 : decode cX8_init 0 = .ok (.aload_n 0, 1) := by decide +kernel
theorem dX8_init_1 : decode cX8_init 1 = .ok (.invokespecial 1, 3) := by decide +kernel
theorem dX8_init_4 : decode cX8_init 4 = .ok (.aload_n 0, 1) := by decide +kernel
theorem dX8_init_5 : decode cX8_init 5 = .ok (.iload_n 1, 1) := by decide +kernel
theorem dX8_init_6 : decode cX8_init 6 = .ok (.putfield 7, 3) := by decide +kernel
theorem dX8_init_9 : decode cX8_init 9 = .ok (.return_, 1) := by decide +kernel
theorem dX8_encode_0 : decode cX8_encode 0 = .ok (.aload_n 1, 1) := by decide +kernel
theorem dX8_encode_1 : decode cX8_encode 1 = .ok (.iconst 0, 1) := by decide +kernel
theorem dX8_encode_2 : decode cX8_encode 2 = .ok (.invokevirtual 13, 3) := by decide +kernel
theorem dX8_encode_5 : decode cX8_encode 5 = .ok (.istore_n 3, 1) := by decide +kernel
theorem dX8_encode_6 : decode cX8_encode 6 = .ok (.aload_n 0, 1) := by decide +kernel
theorem dX8_encode_7 : decode cX8_encode 7 = .ok (.getfield 7, 3) := by decide +kernel
theorem dX8_encode_10 : decode cX8_encode 10 = .ok (.ifCond .ne 10, 3) := by decide +kernel
theorem dX8_encode_13 : decode cX8_encode 13 = .ok (.iload_n 3, 1) := by decide +kernel
theorem dX8_encode_14 : decode cX8_encode 14 = .ok (.invokestatic 19, 3) := by decide +kernel
theorem dX8_encode_17 : decode cX8_encode 17 = .ok (.ifCond .ne 17, 3) := by decide +kernel
theorem dX8_encode_20 : decode cX8_encode 20 = .ok (.aload_n 2, 1) := by decide +kernel
theorem dX8_encode_21 : decode cX8_encode 21 = .ok (.iconst 1, 1) := by decide +kernel
theorem dX8_encode_22 : decode cX8_encode 22 = .ok (.invokevirtual 25, 3) := by decide +kernel
theorem dX8_encode_25 : decode cX8_encode 25 = .ok (.aload_n 0, 1) := by decide +kernel
theorem dX8_encode_26 : decode cX8_encode 26 = .ok (.iload_n 3, 1) := by decide +kernel
theorem dX8_encode_27 : decode cX8_encode 27 = .ok (.aload_n 2, 1) := by decide +kernel
theorem dX8_encode_28 : decode cX8_encode 28 = .ok (.invokevirtual 31, 3) := by decide +kernel
theorem dX8_encode_31 : decode cX8_encode 31 = .ok (.goto 42, 3) := by decide +kernel
theorem dX8_encode_34 : decode cX8_encode 34 = .ok (.iload_n 3, 1) := by decide +kernel
theorem dX8_encode_35 : decode cX8_encode 35 = .ok (.aload_n 1, 1) := by decide +kernel
theorem dX8_encode_36 : decode cX8_encode 36 = .ok (.iconst 1, 1) := by decide +kernel
theorem dX8_encode_37 : decode cX8_encode 37 = .ok (.invokevirtual 13, 3) := by decide +kernel
theorem dX8_encode_40 : decode cX8_encode 40 = .ok (.invokestatic 35, 3) := by decide +kernel
theorem dX8_encode_43 : decode cX8_encode 43 = .ok (.ifCond .eq 25, 3) := by decide +kernel
theorem dX8_encode_46 : decode cX8_encode 46 = .ok (.aload_n 2, 1) := by decide +kernel
theorem dX8_encode_47 : decode cX8_encode 47 = .ok (.iconst 2, 1) := by decide +kernel
theorem dX8_encode_48 : decode cX8_encode 48 = .ok (.invokevirtual 25, 3) := by decide +kernel
theorem dX8_encode_51 : decode cX8_encode 51 = .ok (.aload_n 0, 1) := by decide +kernel
theorem dX8_encode_52 : decode cX8_encode 52 = .ok (.iload_n 3, 1) := by decide +kernel
theorem dX8_encode_53 : decode cX8_encode 53 = .ok (.aload_n 1, 1) := by decide +kernel
theorem dX8_encode_54 : decode cX8_encode 54 = .ok (.iconst 1, 1) := by decide +kernel
theorem dX8_encode_55 : decode cX8_encode 55 = .ok (.invokevirtual 13, 3) := by decide +kernel
theorem dX8_encode_58 : decode cX8_encode 58 = .ok (.invokestatic 39, 3) := by decide +kernel
theorem dX8_encode_61 : decode cX8_encode 61 = .ok (.aload_n 2, 1) := by decide +kernel
theorem dX8_encode_62 : decode cX8_encode 62 = .ok (.invokevirtual 31, 3) := by decide +kernel
theorem dX8_encode_65 : decode cX8_encode 65 = .ok (.goto 8, 3) := by decide +kernel
theorem dX8_encode_68 : decode cX8_encode 68 = .ok (.aload_n 1, 1) := by decide +kernel
theorem dX8_encode_69 : decode cX8_encode 69 = .ok (.aload_n 2, 1) := by decide +kernel
theorem dX8_encode_70 : decode cX8_encode 70 = .ok (.invokestatic 43, 3) := by decide +kernel
theorem dX8_encode_73 : decode cX8_encode 73 = .ok (.return_, 1) := by decide +kernel
theorem dX8_decode_0 : decode cX8_decode 0 = .ok (.aload_n 0, 1) := by decide +kernel
theorem dX8_decode_1 : decode cX8_decode 1 = .ok (.aload_n 1, 1) := by decide +kernel
theorem dX8_decode_2 : decode cX8_decode 2 = .ok (.iconst 0, 1) := by decide +kernel
theorem dX8_decode_3 : decode cX8_decode 3 = .ok (.invokevirtual 13, 3) := by decide +kernel
theorem dX8_decode_6 : decode cX8_decode 6 = .ok (.invokevirtual 47, 3) := by decide +kernel
theorem dX8_decode_9 : decode cX8_decode 9 = .ok (.istore_n 3, 1) := by decide +kernel
theorem dX8_decode_10 : decode cX8_decode 10 = .ok (.aload_n 0, 1) := by decide +kernel
theorem dX8_decode_11 : decode cX8_decode 11 = .ok (.aload_n 1, 1) := by decide +kernel
theorem dX8_decode_12 : decode cX8_decode 12 = .ok (.iload_n 3, 1) := by decide +kernel
theorem dX8_decode_13 : decode cX8_decode 13 = .ok (.invokevirtual 50, 3) := by decide +kernel
theorem dX8_decode_16 : decode cX8_decode 16 = .ok (.istore 4, 2) := by decide +kernel
theorem dX8_decode_18 : decode cX8_decode 18 = .ok (.iload_n 3, 1) := by decide +kernel
theorem dX8_decode_19 : decode cX8_decode 19 = .ok (.ifCond .le 26, 3) := by decide +kernel
theorem dX8_decode_22 : decode cX8_decode 22 = .ok (.iload 4, 2) := by decide +kernel
theorem dX8_decode_24 : decode cX8_decode 24 = .ok (.iload_n 3, 1) := by decide +kernel
theorem dX8_decode_25 : decode cX8_decode 25 = .ok (.if_icmp .ne 20, 3) := by decide +kernel
theorem dX8_decode_28 : decode cX8_decode 28 = .ok (.aload_n 2, 1) := by decide +kernel
theorem dX8_decode_29 : decode cX8_decode 29 = .ok (.iload_n 3, 1) := by decide +kernel
theorem dX8_decode_30 : decode cX8_decode 30 = .ok (.invokevirtual 25, 3) := by decide +kernel
theorem dX8_decode_33 : decode cX8_decode 33 = .ok (.aload_n 1, 1) := by decide +kernel
theorem dX8_decode_34 : decode cX8_decode 34 = .ok (.iload_n 3, 1) := by decide +kernel
theorem dX8_decode_35 : decode cX8_decode 35 = .ok (.invokestatic 54, 3) := by decide +kernel
theorem dX8_decode_38 : decode cX8_decode 38 = .ok (.aload_n 2, 1) := by decide +kernel
theorem dX8_decode_39 : decode cX8_decode 39 = .ok (.invokestatic 57, 3) := by decide +kernel
theorem dX8_decode_42 : decode cX8_decode 42 = .ok (.goto 29, 3) := by decide +kernel
theorem dX8_decode_45 : decode cX8_decode 45 = .ok (.iload 4, 2) := by decide +kernel
theorem dX8_decode_47 : decode cX8_decode 47 = .ok (.aload_n 1, 1) := by decide +kernel
theorem dX8_decode_48 : decode cX8_decode 48 = .ok (.invokevirtual 60, 3) := by decide +kernel
theorem dX8_decode_51 : decode cX8_decode 51 = .ok (.if_icmp .ne 10, 3) := by decide +kernel
theorem dX8_decode_54 : decode cX8_decode 54 = .ok (.aload_n 2, 1) := by decide +kernel
theorem dX8_decode_55 : decode cX8_decode 55 = .ok (.invokevirtual 64, 3) := by decide +kernel
theorem dX8_decode_58 : decode cX8_decode 58 = .ok (.goto 13, 3) := by decide +kernel
theorem dX8_decode_61 : decode cX8_decode 61 = .ok (.aload_n 2, 1) := by decide +kernel
theorem dX8_decode_62 : decode cX8_decode 62 = .ok (.iconst 1, 1) := by decide +kernel
theorem dX8_decode_63 : decode cX8_decode 63 = .ok (.iload 4, 2) := by decide +kernel
theorem dX8_decode_65 : decode cX8_decode 65 = .ok (.invokestatic 67, 3) := by decide +kernel
theorem dX8_decode_68 : decode cX8_decode 68 = .ok (.invokevirtual 72, 3) := by decide +kernel
theorem dX8_decode_71 : decode cX8_decode 71 = .ok (.return_, 1) := by decide +kernel
theorem dX8_addEncoding_0 : decode cX8_addEncoding 0 = .ok (.iload_n 1, 1) := by decide +kernel
theorem dX8_addEncoding_1 : decode cX8_addEncoding 1 = .ok (.sipush 128, 3) := by decide +kernel
theorem dX8_addEncoding_4 : decode cX8_addEncoding 4 = .ok (.if_icmp .ge 22, 3) := by decide +kernel
theorem dX8_addEncoding_7 : decode cX8_addEncoding 7 = .ok (.aload_n 0, 1) := by decide +kernel
theorem dX8_addEncoding_8 : decode cX8_addEncoding 8 = .ok (.getfield 7, 3) := by decide +kernel
theorem dX8_addEncoding_11 : decode cX8_addEncoding 11 = .ok (.ifCond .eq 7, 3) := by decide +kernel
theorem dX8_addEncoding_14 : decode cX8_addEncoding 14 = .ok (.iload_n 1, 1) := by decide +kernel
theorem dX8_addEncoding_15 : decode cX8_addEncoding 15 = .ok (.ifCond .eq 11, 3) := by decide +kernel
theorem dX8_addEncoding_18 : decode cX8_addEncoding 18 = .ok (.aload_n 2, 1) := by decide +kernel
theorem dX8_addEncoding_19 : decode cX8_addEncoding 19 = .ok (.iload_n 1, 1) := by decide +kernel
theorem dX8_addEncoding_20 : decode cX8_addEncoding 20 = .ok (.invokevirtual 75, 3) := by decide +kernel
theorem dX8_addEncoding_23 : decode cX8_addEncoding 23 = .ok (.goto 77, 3) := by decide +kernel
theorem dX8_addEncoding_26 : decode cX8_addEncoding 26 = .ok (.iload_n 1, 1) := by decide +kernel
theorem dX8_addEncoding_27 : decode cX8_addEncoding 27 = .ok (.sipush 2048, 3) := by decide +kernel
theorem dX8_addEncoding_30 : decode cX8_addEncoding 30 = .ok (.if_icmp .ge 24, 3) := by decide +kernel
theorem dX8_addEncoding_33 : decode cX8_addEncoding 33 = .ok (.aload_n 2, 1) := by decide +kernel
theorem dX8_addEncoding_34 : decode cX8_addEncoding 34 = .ok (.sipush 192, 3) := by decide +kernel
theorem dX8_addEncoding_37 : decode cX8_addEncoding 37 = .ok (.iload_n 1, 1) := by decide +kernel
theorem dX8_addEncoding_38 : decode cX8_addEncoding 38 = .ok (.bipush 64, 2) := by decide +kernel
theorem dX8_addEncoding_40 : decode cX8_addEncoding 40 = .ok (.idiv, 1) := by decide +kernel
theorem dX8_addEncoding_41 : decode cX8_addEncoding 41 = .ok (.iadd, 1) := by decide +kernel
theorem dX8_addEncoding_42 : decode cX8_addEncoding 42 = .ok (.invokevirtual 75, 3) := by decide +kernel
theorem dX8_addEncoding_45 : decode cX8_addEncoding 45 = .ok (.iload_n 1, 1) := by decide +kernel
theorem dX8_addEncoding_46 : decode cX8_addEncoding 46 = .ok (.iconst 1, 1) := by decide +kernel
theorem dX8_addEncoding_47 : decode cX8_addEncoding 47 = .ok (.aload_n 2, 1) := by decide +kernel
theorem dX8_addEncoding_48 : decode cX8_addEncoding 48 = .ok (.invokestatic 78, 3) := by decide +kernel
theorem dX8_addEncoding_51 : decode cX8_addEncoding 51 = .ok (.goto 49, 3) := by decide +kernel
theorem dX8_addEncoding_54 : decode cX8_addEncoding 54 = .ok (.iload_n 1, 1) := by decide +kernel
theorem dX8_addEncoding_55 : decode cX8_addEncoding 55 = .ok (.ldc 82, 2) := by decide +kernel
theorem dX8_addEncoding_57 : decode cX8_addEncoding 57 = .ok (.if_icmp .ge 25, 3) := by decide +kernel
theorem dX8_addEncoding_60 : decode cX8_addEncoding 60 = .ok (.aload_n 2, 1) := by decide +kernel
theorem dX8_addEncoding_61 : decode cX8_addEncoding 61 = .ok (.sipush 224, 3) := by decide +kernel
theorem dX8_addEncoding_64 : decode cX8_addEncoding 64 = .ok (.iload_n 1, 1) := by decide +kernel
theorem dX8_addEncoding_65 : decode cX8_addEncoding 65 = .ok (.sipush 4096, 3) := by decide +kernel
theorem dX8_addEncoding_68 : decode cX8_addEncoding 68 = .ok (.idiv, 1) := by decide +kernel
theorem dX8_addEncoding_69 : decode cX8_addEncoding 69 = .ok (.iadd, 1) := by decide +kernel
theorem dX8_addEncoding_70 : decode cX8_addEncoding 70 = .ok (.invokevirtual 75, 3) := by decide +kernel
theorem dX8_addEncoding_73 : decode cX8_addEncoding 73 = .ok (.iload_n 1, 1) := by decide +kernel
theorem dX8_addEncoding_74 : decode cX8_addEncoding 74 = .ok (.iconst 2, 1) := by decide +kernel
theorem dX8_addEncoding_75 : decode cX8_addEncoding 75 = .ok (.aload_n 2, 1) := by decide +kernel
theorem dX8_addEncoding_76 : decode cX8_addEncoding 76 = .ok (.invokestatic 78, 3) := by decide +kernel
theorem dX8_addEncoding_79 : decode cX8_addEncoding 79 = .ok (.goto 21, 3) := by decide +kernel
theorem dX8_addEncoding_82 : decode cX8_addEncoding 82 = .ok (.aload_n 2, 1) := by decide +kernel
theorem dX8_addEncoding_83 : decode cX8_addEncoding 83 = .ok (.sipush 240, 3) := by decide +kernel
theorem dX8_addEncoding_86 : decode cX8_addEncoding 86 = .ok (.iload_n 1, 1) := by decide +kernel
theorem dX8_addEncoding_87 : decode cX8_addEncoding 87 = .ok (.ldc 83, 2) := by decide +kernel
theorem dX8_addEncoding_89 : decode cX8_addEncoding 89 = .ok (.idiv, 1) := by decide +kernel
theorem dX8_addEncoding_90 : decode cX8_addEncoding 90 = .ok (.iadd, 1) := by decide +kernel
theorem dX8_addEncoding_91 : decode cX8_addEncoding 91 = .ok (.invokevirtual 75, 3) := by decide +kernel
theorem dX8_addEncoding_94 : decode cX8_addEncoding 94 = .ok (.iload_n 1, 1) := by decide +kernel
theorem dX8_addEncoding_95 : decode cX8_addEncoding 95 = .ok (.iconst 3, 1) := by decide +kernel
theorem dX8_addEncoding_96 : decode cX8_addEncoding 96 = .ok (.aload_n 2, 1) := by decide +kernel
theorem dX8_addEncoding_97 : decode cX8_addEncoding 97 = .ok (.invokestatic 78, 3) := by decide +kernel
theorem dX8_addEncoding_100 : decode cX8_addEncoding 100 = .ok (.return_, 1) := by decide +kernel
theorem dX8_addLast_0 : decode cX8_addLast 0 = .ok (.iload_n 1, 1) := by decide +kernel
theorem dX8_addLast_1 : decode cX8_addLast 1 = .ok (.iconst 1, 1) := by decide +kernel
theorem dX8_addLast_2 : decode cX8_addLast 2 = .ok (.isub, 1) := by decide +kernel
theorem dX8_addLast_3 : decode cX8_addLast 3 = .ok (.istore_n 3, 1) := by decide +kernel
theorem dX8_addLast_4 : decode cX8_addLast 4 = .ok (.iload_n 3, 1) := by decide +kernel
theorem dX8_addLast_5 : decode cX8_addLast 5 = .ok (.ifCond .lt 26, 3) := by decide +kernel
theorem dX8_addLast_8 : decode cX8_addLast 8 = .ok (.aload_n 2, 1) := by decide +kernel
theorem dX8_addLast_9 : decode cX8_addLast 9 = .ok (.sipush 128, 3) := by decide +kernel
theorem dX8_addLast_12 : decode cX8_addLast 12 = .ok (.iload_n 0, 1) := by decide +kernel
theorem dX8_addLast_13 : decode cX8_addLast 13 = .ok (.bipush 6, 2) := by decide +kernel
theorem dX8_addLast_15 : decode cX8_addLast 15 = .ok (.iload_n 3, 1) := by decide +kernel
theorem dX8_addLast_16 : decode cX8_addLast 16 = .ok (.imul, 1) := by decide +kernel
theorem dX8_addLast_17 : decode cX8_addLast 17 = .ok (.ishr, 1) := by decide +kernel
theorem dX8_addLast_18 : decode cX8_addLast 18 = .ok (.bipush 63, 2) := by decide +kernel
theorem dX8_addLast_20 : decode cX8_addLast 20 = .ok (.iand, 1) := by decide +kernel
theorem dX8_addLast_21 : decode cX8_addLast 21 = .ok (.iadd, 1) := by decide +kernel
theorem dX8_addLast_22 : decode cX8_addLast 22 = .ok (.invokevirtual 75, 3) := by decide +kernel
theorem dX8_addLast_25 : decode cX8_addLast 25 = .ok (.iinc 3 (-1), 3) := by decide +kernel
theorem dX8_addLast_28 : decode cX8_addLast 28 = .ok (.goto (-24), 3) := by decide +kernel
theorem dX8_addLast_31 : decode cX8_addLast 31 = .ok (.return_, 1) := by decide +kernel
theorem dX8_lengthBehind_0 : decode cX8_lengthBehind 0 = .ok (.iload_n 1, 1) := by decide +kernel
theorem dX8_lengthBehind_1 : decode cX8_lengthBehind 1 = .ok (.sipush 128, 3) := by decide +kernel
theorem dX8_lengthBehind_4 : decode cX8_lengthBehind 4 = .ok (.if_icmp .ge 20, 3) := by decide +kernel
theorem dX8_lengthBehind_7 : decode cX8_lengthBehind 7 = .ok (.aload_n 0, 1) := by decide +kernel
theorem dX8_lengthBehind_8 : decode cX8_lengthBehind 8 = .ok (.getfield 7, 3) := by decide +kernel
theorem dX8_lengthBehind_11 : decode cX8_lengthBehind 11 = .ok (.ifCond .eq 11, 3) := by decide +kernel
theorem dX8_lengthBehind_14 : decode cX8_lengthBehind 14 = .ok (.iload_n 1, 1) := by decide +kernel
theorem dX8_lengthBehind_15 : decode cX8_lengthBehind 15 = .ok (.ifCond .ne 7, 3) := by decide +kernel
theorem dX8_lengthBehind_18 : decode cX8_lengthBehind 18 = .ok (.iconst 0, 1) := by decide +kernel
theorem dX8_lengthBehind_19 : decode cX8_lengthBehind 19 = .ok (.goto 4, 3) := by decide +kernel
theorem dX8_lengthBehind_22 : decode cX8_lengthBehind 22 = .ok (.iconst 1, 1) := by decide +kernel
theorem dX8_lengthBehind_23 : decode cX8_lengthBehind 23 = .ok (.ireturn, 1) := by decide +kernel
theorem dX8_lengthBehind_24 : decode cX8_lengthBehind 24 = .ok (.iload_n 1, 1) := by decide +kernel
theorem dX8_lengthBehind_25 : decode cX8_lengthBehind 25 = .ok (.sipush 194, 3) := by decide +kernel
theorem dX8_lengthBehind_28 : decode cX8_lengthBehind 28 = .ok (.if_icmp .ge 23, 3) := by decide +kernel
theorem dX8_lengthBehind_31 : decode cX8_lengthBehind 31 = .ok (.aload_n 0, 1) := by decide +kernel
theorem dX8_lengthBehind_32 : decode cX8_lengthBehind 32 = .ok (.getfield 7, 3) := by decide +kernel
theorem dX8_lengthBehind_35 : decode cX8_lengthBehind 35 = .ok (.ifCond .eq 14, 3) := by decide +kernel
theorem dX8_lengthBehind_38 : decode cX8_lengthBehind 38 = .ok (.iload_n 1, 1) := by decide +kernel
theorem dX8_lengthBehind_39 : decode cX8_lengthBehind 39 = .ok (.sipush 192, 3) := by decide +kernel
theorem dX8_lengthBehind_42 : decode cX8_lengthBehind 42 = .ok (.if_icmp .ne 7, 3) := by decide +kernel
theorem dX8_lengthBehind_45 : decode cX8_lengthBehind 45 = .ok (.iconst 2, 1) := by decide +kernel
theorem dX8_lengthBehind_46 : decode cX8_lengthBehind 46 = .ok (.goto 4, 3) := by decide +kernel
theorem dX8_lengthBehind_49 : decode cX8_lengthBehind 49 = .ok (.iconst 0, 1) := by decide +kernel
theorem dX8_lengthBehind_50 : decode cX8_lengthBehind 50 = .ok (.ireturn, 1) := by decide +kernel
theorem dX8_lengthBehind_51 : decode cX8_lengthBehind 51 = .ok (.iload_n 1, 1) := by decide +kernel
theorem dX8_lengthBehind_52 : decode cX8_lengthBehind 52 = .ok (.sipush 224, 3) := by decide +kernel
theorem dX8_lengthBehind_55 : decode cX8_lengthBehind 55 = .ok (.if_icmp .ge 5, 3) := by decide +kernel
theorem dX8_lengthBehind_58 : decode cX8_lengthBehind 58 = .ok (.iconst 2, 1) := by decide +kernel
theorem dX8_lengthBehind_59 : decode cX8_lengthBehind 59 = .ok (.ireturn, 1) := by decide +kernel
theorem dX8_lengthBehind_60 : decode cX8_lengthBehind 60 = .ok (.iload_n 1, 1) := by decide +kernel
theorem dX8_lengthBehind_61 : decode cX8_lengthBehind 61 = .ok (.sipush 240, 3) := by decide +kernel
theorem dX8_lengthBehind_64 : decode cX8_lengthBehind 64 = .ok (.if_icmp .ge 5, 3) := by decide +kernel
theorem dX8_lengthBehind_67 : decode cX8_lengthBehind 67 = .ok (.iconst 3, 1) := by decide +kernel
theorem dX8_lengthBehind_68 : decode cX8_lengthBehind 68 = .ok (.ireturn, 1) := by decide +kernel
theorem dX8_lengthBehind_69 : decode cX8_lengthBehind 69 = .ok (.aload_n 0, 1) := by decide +kernel
theorem dX8_lengthBehind_70 : decode cX8_lengthBehind 70 = .ok (.getfield 7, 3) := by decide +kernel
theorem dX8_lengthBehind_73 : decode cX8_lengthBehind 73 = .ok (.ifCond .ne 14, 3) := by decide +kernel
theorem dX8_lengthBehind_76 : decode cX8_lengthBehind 76 = .ok (.iload_n 1, 1) := by decide +kernel
theorem dX8_lengthBehind_77 : decode cX8_lengthBehind 77 = .ok (.sipush 245, 3) := by decide +kernel
theorem dX8_lengthBehind_80 : decode cX8_lengthBehind 80 = .ok (.if_icmp .ge 7, 3) := by decide +kernel
theorem dX8_lengthBehind_83 : decode cX8_lengthBehind 83 = .ok (.iconst 4, 1) := by decide +kernel
theorem dX8_lengthBehind_84 : decode cX8_lengthBehind 84 = .ok (.goto 4, 3) := by decide +kernel
theorem dX8_lengthBehind_87 : decode cX8_lengthBehind 87 = .ok (.iconst 0, 1) := by decide +kernel
theorem dX8_lengthBehind_88 : decode cX8_lengthBehind 88 = .ok (.ireturn, 1) := by decide +kernel
theorem dX8_countFitting_0 : decode cX8_countFitting 0 = .ok (.iload_n 2, 1) := by decide +kernel
theorem dX8_countFitting_1 : decode cX8_countFitting 1 = .ok (.aload_n 1, 1) := by decide +kernel
theorem dX8_countFitting_2 : decode cX8_countFitting 2 = .ok (.invokevirtual 60, 3) := by decide +kernel
theorem dX8_countFitting_5 : decode cX8_countFitting 5 = .ok (.invokestatic 84, 3) := by decide +kernel
theorem dX8_countFitting_8 : decode cX8_countFitting 8 = .ok (.istore_n 3, 1) := by decide +kernel
theorem dX8_countFitting_9 : decode cX8_countFitting 9 = .ok (.iconst 1, 1) := by decide +kernel
theorem dX8_countFitting_10 : decode cX8_countFitting 10 = .ok (.iload_n 3, 1) := by decide +kernel
theorem dX8_countFitting_11 : decode cX8_countFitting 11 = .ok (.invokestatic 84, 3) := by decide +kernel
theorem dX8_countFitting_14 : decode cX8_countFitting 14 = .ok (.istore 4, 2) := by decide +kernel
theorem dX8_countFitting_16 : decode cX8_countFitting 16 = .ok (.iload 4, 2) := by decide +kernel
theorem dX8_countFitting_18 : decode cX8_countFitting 18 = .ok (.ifCond .le 25, 3) := by decide +kernel
theorem dX8_countFitting_21 : decode cX8_countFitting 21 = .ok (.iload 4, 2) := by decide +kernel
theorem dX8_countFitting_23 : decode cX8_countFitting 23 = .ok (.iload_n 3, 1) := by decide +kernel
theorem dX8_countFitting_24 : decode cX8_countFitting 24 = .ok (.if_icmp .ge 19, 3) := by decide +kernel
theorem dX8_countFitting_27 : decode cX8_countFitting 27 = .ok (.aload_n 0, 1) := by decide +kernel
theorem dX8_countFitting_28 : decode cX8_countFitting 28 = .ok (.aload_n 1, 1) := by decide +kernel
theorem dX8_countFitting_29 : decode cX8_countFitting 29 = .ok (.iload 4, 2) := by decide +kernel
theorem dX8_countFitting_31 : decode cX8_countFitting 31 = .ok (.invokevirtual 87, 3) := by decide +kernel
theorem dX8_countFitting_34 : decode cX8_countFitting 34 = .ok (.ifCond .eq 9, 3) := by decide +kernel
theorem dX8_countFitting_37 : decode cX8_countFitting 37 = .ok (.iinc 4 1, 3) := by decide +kernel
theorem dX8_countFitting_40 : decode cX8_countFitting 40 = .ok (.goto (-24), 3) := by decide +kernel
theorem dX8_countFitting_43 : decode cX8_countFitting 43 = .ok (.iload 4, 2) := by decide +kernel
theorem dX8_countFitting_45 : decode cX8_countFitting 45 = .ok (.ireturn, 1) := by decide +kernel
theorem dX8_isNext_0 : decode cX8_isNext 0 = .ok (.aload_n 1, 1) := by decide +kernel
theorem dX8_isNext_1 : decode cX8_isNext 1 = .ok (.iload_n 2, 1) := by decide +kernel
theorem dX8_isNext_2 : decode cX8_isNext 2 = .ok (.invokevirtual 13, 3) := by decide +kernel
theorem dX8_isNext_5 : decode cX8_isNext 5 = .ok (.istore_n 3, 1) := by decide +kernel
theorem dX8_isNext_6 : decode cX8_isNext 6 = .ok (.iload_n 2, 1) := by decide +kernel
theorem dX8_isNext_7 : decode cX8_isNext 7 = .ok (.iconst 1, 1) := by decide +kernel
theorem dX8_isNext_8 : decode cX8_isNext 8 = .ok (.if_icmp .le 23, 3) := by decide +kernel
theorem dX8_isNext_11 : decode cX8_isNext 11 = .ok (.iload_n 3, 1) := by decide +kernel
theorem dX8_isNext_12 : decode cX8_isNext 12 = .ok (.sipush 128, 3) := by decide +kernel
theorem dX8_isNext_15 : decode cX8_isNext 15 = .ok (.if_icmp .lt 14, 3) := by decide +kernel
theorem dX8_isNext_18 : decode cX8_isNext 18 = .ok (.iload_n 3, 1) := by decide +kernel
theorem dX8_isNext_19 : decode cX8_isNext 19 = .ok (.sipush 191, 3) := by decide +kernel
theorem dX8_isNext_22 : decode cX8_isNext 22 = .ok (.if_icmp .gt 7, 3) := by decide +kernel
theorem dX8_isNext_25 : decode cX8_isNext 25 = .ok (.iconst 1, 1) := by decide +kernel
theorem dX8_isNext_26 : decode cX8_isNext 26 = .ok (.goto 4, 3) := by decide +kernel
theorem dX8_isNext_29 : decode cX8_isNext 29 = .ok (.iconst 0, 1) := by decide +kernel
theorem dX8_isNext_30 : decode cX8_isNext 30 = .ok (.ireturn, 1) := by decide +kernel
theorem dX8_isNext_31 : decode cX8_isNext 31 = .ok (.iload_n 3, 1) := by decide +kernel
theorem dX8_isNext_32 : decode cX8_isNext 32 = .ok (.aload_n 1, 1) := by decide +kernel
theorem dX8_isNext_33 : decode cX8_isNext 33 = .ok (.iconst 0, 1) := by decide +kernel
theorem dX8_isNext_34 : decode cX8_isNext 34 = .ok (.invokevirtual 13, 3) := by decide +kernel
theorem dX8_isNext_37 : decode cX8_isNext 37 = .ok (.invokestatic 91, 3) := by decide +kernel
theorem dX8_isNext_40 : decode cX8_isNext 40 = .ok (.if_icmp .lt 20, 3) := by decide +kernel
theorem dX8_isNext_43 : decode cX8_isNext 43 = .ok (.iload_n 3, 1) := by decide +kernel
theorem dX8_isNext_44 : decode cX8_isNext 44 = .ok (.aload_n 0, 1) := by decide +kernel
theorem dX8_isNext_45 : decode cX8_isNext 45 = .ok (.aload_n 1, 1) := by decide +kernel
theorem dX8_isNext_46 : decode cX8_isNext 46 = .ok (.iconst 0, 1) := by decide +kernel
theorem dX8_isNext_47 : decode cX8_isNext 47 = .ok (.invokevirtual 13, 3) := by decide +kernel
theorem dX8_isNext_50 : decode cX8_isNext 50 = .ok (.invokevirtual 94, 3) := by decide +kernel
theorem dX8_isNext_53 : decode cX8_isNext 53 = .ok (.if_icmp .gt 7, 3) := by decide +kernel
theorem dX8_isNext_56 : decode cX8_isNext 56 = .ok (.iconst 1, 1) := by decide +kernel
theorem dX8_isNext_57 : decode cX8_isNext 57 = .ok (.goto 4, 3) := by decide +kernel
theorem dX8_isNext_60 : decode cX8_isNext 60 = .ok (.iconst 0, 1) := by decide +kernel
theorem dX8_isNext_61 : decode cX8_isNext 61 = .ok (.ireturn, 1) := by decide +kernel
theorem dX8_leastSecond_0 : decode cX8_leastSecond 0 = .ok (.iload_n 0, 1) := by decide +kernel
theorem dX8_leastSecond_1 : decode cX8_leastSecond 1 = .ok (.sipush 224, 3) := by decide +kernel
theorem dX8_leastSecond_4 : decode cX8_leastSecond 4 = .ok (.if_icmp .ne 9, 3) := by decide +kernel
theorem dX8_leastSecond_7 : decode cX8_leastSecond 7 = .ok (.sipush 160, 3) := by decide +kernel
theorem dX8_leastSecond_10 : decode cX8_leastSecond 10 = .ok (.goto 19, 3) := by decide +kernel
theorem dX8_leastSecond_13 : decode cX8_leastSecond 13 = .ok (.iload_n 0, 1) := by decide +kernel
theorem dX8_leastSecond_14 : decode cX8_leastSecond 14 = .ok (.sipush 240, 3) := by decide +kernel
theorem dX8_leastSecond_17 : decode cX8_leastSecond 17 = .ok (.if_icmp .ne 9, 3) := by decide +kernel
theorem dX8_leastSecond_20 : decode cX8_leastSecond 20 = .ok (.sipush 144, 3) := by decide +kernel
theorem dX8_leastSecond_23 : decode cX8_leastSecond 23 = .ok (.goto 6, 3) := by decide +kernel
theorem dX8_leastSecond_26 : decode cX8_leastSecond 26 = .ok (.sipush 128, 3) := by decide +kernel
theorem dX8_leastSecond_29 : decode cX8_leastSecond 29 = .ok (.ireturn, 1) := by decide +kernel
theorem dX8_greatestSecond_0 : decode cX8_greatestSecond 0 = .ok (.iload_n 1, 1) := by decide +kernel
theorem dX8_greatestSecond_1 : decode cX8_greatestSecond 1 = .ok (.sipush 192, 3) := by decide +kernel
theorem dX8_greatestSecond_4 : decode cX8_greatestSecond 4 = .ok (.if_icmp .ne 7, 3) := by decide +kernel
theorem dX8_greatestSecond_7 : decode cX8_greatestSecond 7 = .ok (.sipush 128, 3) := by decide +kernel
theorem dX8_greatestSecond_10 : decode cX8_greatestSecond 10 = .ok (.ireturn, 1) := by decide +kernel
theorem dX8_greatestSecond_11 : decode cX8_greatestSecond 11 = .ok (.iload_n 1, 1) := by decide +kernel
theorem dX8_greatestSecond_12 : decode cX8_greatestSecond 12 = .ok (.sipush 237, 3) := by decide +kernel
theorem dX8_greatestSecond_15 : decode cX8_greatestSecond 15 = .ok (.if_icmp .ne 14, 3) := by decide +kernel
theorem dX8_greatestSecond_18 : decode cX8_greatestSecond 18 = .ok (.aload_n 0, 1) := by decide +kernel
theorem dX8_greatestSecond_19 : decode cX8_greatestSecond 19 = .ok (.getfield 7, 3) := by decide +kernel
theorem dX8_greatestSecond_22 : decode cX8_greatestSecond 22 = .ok (.ifCond .ne 7, 3) := by decide +kernel
theorem dX8_greatestSecond_25 : decode cX8_greatestSecond 25 = .ok (.sipush 159, 3) := by decide +kernel
theorem dX8_greatestSecond_28 : decode cX8_greatestSecond 28 = .ok (.ireturn, 1) := by decide +kernel
theorem dX8_greatestSecond_29 : decode cX8_greatestSecond 29 = .ok (.iload_n 1, 1) := by decide +kernel
theorem dX8_greatestSecond_30 : decode cX8_greatestSecond 30 = .ok (.sipush 244, 3) := by decide +kernel
theorem dX8_greatestSecond_33 : decode cX8_greatestSecond 33 = .ok (.if_icmp .ne 9, 3) := by decide +kernel
theorem dX8_greatestSecond_36 : decode cX8_greatestSecond 36 = .ok (.sipush 143, 3) := by decide +kernel
theorem dX8_greatestSecond_39 : decode cX8_greatestSecond 39 = .ok (.goto 6, 3) := by decide +kernel
theorem dX8_greatestSecond_42 : decode cX8_greatestSecond 42 = .ok (.sipush 191, 3) := by decide +kernel
theorem dX8_greatestSecond_45 : decode cX8_greatestSecond 45 = .ok (.ireturn, 1) := by decide +kernel
theorem dX8_codePointOf_0 : decode cX8_codePointOf 0 = .ok (.aload_n 0, 1) := by decide +kernel
theorem dX8_codePointOf_1 : decode cX8_codePointOf 1 = .ok (.iconst 0, 1) := by decide +kernel
theorem dX8_codePointOf_2 : decode cX8_codePointOf 2 = .ok (.invokevirtual 13, 3) := by decide +kernel
theorem dX8_codePointOf_5 : decode cX8_codePointOf 5 = .ok (.istore_n 2, 1) := by decide +kernel
theorem dX8_codePointOf_6 : decode cX8_codePointOf 6 = .ok (.iload_n 1, 1) := by decide +kernel
theorem dX8_codePointOf_7 : decode cX8_codePointOf 7 = .ok (.iconst 1, 1) := by decide +kernel
theorem dX8_codePointOf_8 : decode cX8_codePointOf 8 = .ok (.if_icmp .ne 7, 3) := by decide +kernel
theorem dX8_codePointOf_11 : decode cX8_codePointOf 11 = .ok (.iload_n 2, 1) := by decide +kernel
theorem dX8_codePointOf_12 : decode cX8_codePointOf 12 = .ok (.goto 34, 3) := by decide +kernel
theorem dX8_codePointOf_15 : decode cX8_codePointOf 15 = .ok (.iload_n 1, 1) := by decide +kernel
theorem dX8_codePointOf_16 : decode cX8_codePointOf 16 = .ok (.iconst 2, 1) := by decide +kernel
theorem dX8_codePointOf_17 : decode cX8_codePointOf 17 = .ok (.if_icmp .ne 11, 3) := by decide +kernel
theorem dX8_codePointOf_20 : decode cX8_codePointOf 20 = .ok (.iload_n 2, 1) := by decide +kernel
theorem dX8_codePointOf_21 : decode cX8_codePointOf 21 = .ok (.sipush 192, 3) := by decide +kernel
theorem dX8_codePointOf_24 : decode cX8_codePointOf 24 = .ok (.isub, 1) := by decide +kernel
theorem dX8_codePointOf_25 : decode cX8_codePointOf 25 = .ok (.goto 21, 3) := by decide +kernel
theorem dX8_codePointOf_28 : decode cX8_codePointOf 28 = .ok (.iload_n 1, 1) := by decide +kernel
theorem dX8_codePointOf_29 : decode cX8_codePointOf 29 = .ok (.iconst 3, 1) := by decide +kernel
theorem dX8_codePointOf_30 : decode cX8_codePointOf 30 = .ok (.if_icmp .ne 11, 3) := by decide +kernel
theorem dX8_codePointOf_33 : decode cX8_codePointOf 33 = .ok (.iload_n 2, 1) := by decide +kernel
theorem dX8_codePointOf_34 : decode cX8_codePointOf 34 = .ok (.sipush 224, 3) := by decide +kernel
theorem dX8_codePointOf_37 : decode cX8_codePointOf 37 = .ok (.isub, 1) := by decide +kernel
theorem dX8_codePointOf_38 : decode cX8_codePointOf 38 = .ok (.goto 8, 3) := by decide +kernel
theorem dX8_codePointOf_41 : decode cX8_codePointOf 41 = .ok (.iload_n 2, 1) := by decide +kernel
theorem dX8_codePointOf_42 : decode cX8_codePointOf 42 = .ok (.sipush 240, 3) := by decide +kernel
theorem dX8_codePointOf_45 : decode cX8_codePointOf 45 = .ok (.isub, 1) := by decide +kernel
theorem dX8_codePointOf_46 : decode cX8_codePointOf 46 = .ok (.istore_n 3, 1) := by decide +kernel
theorem dX8_codePointOf_47 : decode cX8_codePointOf 47 = .ok (.iconst 1, 1) := by decide +kernel
theorem dX8_codePointOf_48 : decode cX8_codePointOf 48 = .ok (.istore 4, 2) := by decide +kernel
theorem dX8_codePointOf_50 : decode cX8_codePointOf 50 = .ok (.iload 4, 2) := by decide +kernel
theorem dX8_codePointOf_52 : decode cX8_codePointOf 52 = .ok (.iload_n 1, 1) := by decide +kernel
theorem dX8_codePointOf_53 : decode cX8_codePointOf 53 = .ok (.if_icmp .ge 25, 3) := by decide +kernel
theorem dX8_codePointOf_56 : decode cX8_codePointOf 56 = .ok (.iload_n 3, 1) := by decide +kernel
theorem dX8_codePointOf_57 : decode cX8_codePointOf 57 = .ok (.bipush 64, 2) := by decide +kernel
theorem dX8_codePointOf_59 : decode cX8_codePointOf 59 = .ok (.imul, 1) := by decide +kernel
theorem dX8_codePointOf_60 : decode cX8_codePointOf 60 = .ok (.aload_n 0, 1) := by decide +kernel
theorem dX8_codePointOf_61 : decode cX8_codePointOf 61 = .ok (.iload 4, 2) := by decide +kernel
theorem dX8_codePointOf_63 : decode cX8_codePointOf 63 = .ok (.invokevirtual 13, 3) := by decide +kernel
theorem dX8_codePointOf_66 : decode cX8_codePointOf 66 = .ok (.iadd, 1) := by decide +kernel
theorem dX8_codePointOf_67 : decode cX8_codePointOf 67 = .ok (.sipush 128, 3) := by decide +kernel
theorem dX8_codePointOf_70 : decode cX8_codePointOf 70 = .ok (.isub, 1) := by decide +kernel
theorem dX8_codePointOf_71 : decode cX8_codePointOf 71 = .ok (.istore_n 3, 1) := by decide +kernel
theorem dX8_codePointOf_72 : decode cX8_codePointOf 72 = .ok (.iinc 4 1, 3) := by decide +kernel
theorem dX8_codePointOf_75 : decode cX8_codePointOf 75 = .ok (.goto (-25), 3) := by decide +kernel
theorem dX8_codePointOf_78 : decode cX8_codePointOf 78 = .ok (.iload_n 3, 1) := by decide +kernel
theorem dX8_codePointOf_79 : decode cX8_codePointOf 79 = .ok (.ireturn, 1) := by decide +kernel
theorem dX9_init_0 : decode cX9_init 0 = .ok (.aload_n 0, 1) := by decide +kernel
theorem dX9_init_1 : decode cX9_init 1 = .ok (.invokespecial 3, 3) := by decide +kernel
theorem dX9_init_4 : decode cX9_init 4 = .ok (.aload_n 0, 1) := by decide +kernel
theorem dX9_init_5 : decode cX9_init 5 = .ok (.new 9, 3) := by decide +kernel
theorem dX9_init_8 : decode cX9_init 8 = .ok (.dup, 1) := by decide +kernel
theorem dX9_init_9 : decode cX9_init 9 = .ok (.invokespecial 11, 3) := by decide +kernel
theorem dX9_init_12 : decode cX9_init 12 = .ok (.putfield 12, 3) := by decide +kernel
theorem dX9_init_15 : decode cX9_init 15 = .ok (.aload_n 0, 1) := by decide +kernel
theorem dX9_init_16 : decode cX9_init 16 = .ok (.new 16, 3) := by decide +kernel
theorem dX9_init_19 : decode cX9_init 19 = .ok (.dup, 1) := by decide +kernel
theorem dX9_init_20 : decode cX9_init 20 = .ok (.bipush 24, 2) := by decide +kernel
theorem dX9_init_22 : decode cX9_init 22 = .ok (.invokespecial 18, 3) := by decide +kernel
theorem dX9_init_25 : decode cX9_init 25 = .ok (.putfield 21, 3) := by decide +kernel
theorem dX9_init_28 : decode cX9_init 28 = .ok (.aload_n 0, 1) := by decide +kernel
theorem dX9_init_29 : decode cX9_init 29 = .ok (.new 16, 3) := by decide +kernel
theorem dX9_init_32 : decode cX9_init 32 = .ok (.dup, 1) := by decide +kernel
theorem dX9_init_33 : decode cX9_init 33 = .ok (.bipush 16, 2) := by decide +kernel
theorem dX9_init_35 : decode cX9_init 35 = .ok (.invokespecial 18, 3) := by decide +kernel
theorem dX9_init_38 : decode cX9_init 38 = .ok (.putfield 25, 3) := by decide +kernel
theorem dX9_init_41 : decode cX9_init 41 = .ok (.aload_n 0, 1) := by decide +kernel
theorem dX9_init_42 : decode cX9_init 42 = .ok (.new 28, 3) := by decide +kernel
theorem dX9_init_45 : decode cX9_init 45 = .ok (.dup, 1) := by decide +kernel
theorem dX9_init_46 : decode cX9_init 46 = .ok (.invokespecial 30, 3) := by decide +kernel
theorem dX9_init_49 : decode cX9_init 49 = .ok (.putfield 31, 3) := by decide +kernel
theorem dX9_init_52 : decode cX9_init 52 = .ok (.aload_n 0, 1) := by decide +kernel
theorem dX9_init_53 : decode cX9_init 53 = .ok (.iconst (-1), 1) := by decide +kernel
theorem dX9_init_54 : decode cX9_init 54 = .ok (.putfield 35, 3) := by decide +kernel
theorem dX9_init_57 : decode cX9_init 57 = .ok (.aload_n 0, 1) := by decide +kernel
theorem dX9_init_58 : decode cX9_init 58 = .ok (.bipush 16, 2) := by decide +kernel
theorem dX9_init_60 : decode cX9_init 60 = .ok (.putfield 39, 3) := by decide +kernel
theorem dX9_init_63 : decode cX9_init 63 = .ok (.aload_n 0, 1) := by decide +kernel
theorem dX9_init_64 : decode cX9_init 64 = .ok (.bipush 7, 2) := by decide +kernel
theorem dX9_init_66 : decode cX9_init 66 = .ok (.anewarray 42, 3) := by decide +kernel
theorem dX9_init_69 : decode cX9_init 69 = .ok (.dup, 1) := by decide +kernel
theorem dX9_init_70 : decode cX9_init 70 = .ok (.iconst 0, 1) := by decide +kernel
theorem dX9_init_71 : decode cX9_init 71 = .ok (.new 44, 3) := by decide +kernel
theorem dX9_init_74 : decode cX9_init 74 = .ok (.dup, 1) := by decide +kernel
theorem dX9_init_75 : decode cX9_init 75 = .ok (.iconst 0, 1) := by decide +kernel
theorem dX9_init_76 : decode cX9_init 76 = .ok (.invokespecial 46, 3) := by decide +kernel
theorem dX9_init_79 : decode cX9_init 79 = .ok (.aastore, 1) := by decide +kernel
theorem dX9_init_80 : decode cX9_init 80 = .ok (.dup, 1) := by decide +kernel
theorem dX9_init_81 : decode cX9_init 81 = .ok (.iconst 1, 1) := by decide +kernel
theorem dX9_init_82 : decode cX9_init 82 = .ok (.new 44, 3) := by decide +kernel
theorem dX9_init_85 : decode cX9_init 85 = .ok (.dup, 1) := by decide +kernel
theorem dX9_init_86 : decode cX9_init 86 = .ok (.iconst 1, 1) := by decide +kernel
theorem dX9_init_87 : decode cX9_init 87 = .ok (.invokespecial 46, 3) := by decide +kernel
theorem dX9_init_90 : decode cX9_init 90 = .ok (.aastore, 1) := by decide +kernel
theorem dX9_init_91 : decode cX9_init 91 = .ok (.dup, 1) := by decide +kernel
theorem dX9_init_92 : decode cX9_init 92 = .ok (.iconst 2, 1) := by decide +kernel
theorem dX9_init_93 : decode cX9_init 93 = .ok (.new 49, 3) := by decide +kernel
theorem dX9_init_96 : decode cX9_init 96 = .ok (.dup, 1) := by decide +kernel
theorem dX9_init_97 : decode cX9_init 97 = .ok (.iconst 1, 1) := by decide +kernel
theorem dX9_init_98 : decode cX9_init 98 = .ok (.iconst 0, 1) := by decide +kernel
theorem dX9_init_99 : decode cX9_init 99 = .ok (.invokespecial 51, 3) := by decide +kernel
theorem dX9_init_102 : decode cX9_init 102 = .ok (.aastore, 1) := by decide +kernel
theorem dX9_init_103 : decode cX9_init 103 = .ok (.dup, 1) := by decide +kernel
theorem dX9_init_104 : decode cX9_init 104 = .ok (.iconst 3, 1) := by decide +kernel
theorem dX9_init_105 : decode cX9_init 105 = .ok (.new 49, 3) := by decide +kernel
theorem dX9_init_108 : decode cX9_init 108 = .ok (.dup, 1) := by decide +kernel
theorem dX9_init_109 : decode cX9_init 109 = .ok (.iconst 0, 1) := by decide +kernel
theorem dX9_init_110 : decode cX9_init 110 = .ok (.iconst 0, 1) := by decide +kernel
theorem dX9_init_111 : decode cX9_init 111 = .ok (.invokespecial 51, 3) := by decide +kernel
theorem dX9_init_114 : decode cX9_init 114 = .ok (.aastore, 1) := by decide +kernel
theorem dX9_init_115 : decode cX9_init 115 = .ok (.dup, 1) := by decide +kernel
theorem dX9_init_116 : decode cX9_init 116 = .ok (.iconst 4, 1) := by decide +kernel
theorem dX9_init_117 : decode cX9_init 117 = .ok (.new 49, 3) := by decide +kernel
theorem dX9_init_120 : decode cX9_init 120 = .ok (.dup, 1) := by decide +kernel
theorem dX9_init_121 : decode cX9_init 121 = .ok (.iconst 0, 1) := by decide +kernel
theorem dX9_init_122 : decode cX9_init 122 = .ok (.iconst 1, 1) := by decide +kernel
theorem dX9_init_123 : decode cX9_init 123 = .ok (.invokespecial 51, 3) := by decide +kernel
theorem dX9_init_126 : decode cX9_init 126 = .ok (.aastore, 1) := by decide +kernel
theorem dX9_init_127 : decode cX9_init 127 = .ok (.dup, 1) := by decide +kernel
theorem dX9_init_128 : decode cX9_init 128 = .ok (.iconst 5, 1) := by decide +kernel
theorem dX9_init_129 : decode cX9_init 129 = .ok (.new 54, 3) := by decide +kernel
theorem dX9_init_132 : decode cX9_init 132 = .ok (.dup, 1) := by decide +kernel
theorem dX9_init_133 : decode cX9_init 133 = .ok (.invokespecial 56, 3) := by decide +kernel
theorem dX9_init_136 : decode cX9_init 136 = .ok (.aastore, 1) := by decide +kernel
theorem dX9_init_137 : decode cX9_init 137 = .ok (.dup, 1) := by decide +kernel
theorem dX9_init_138 : decode cX9_init 138 = .ok (.bipush 6, 2) := by decide +kernel
theorem dX9_init_140 : decode cX9_init 140 = .ok (.aload_n 0, 1) := by decide +kernel
theorem dX9_init_141 : decode cX9_init 141 = .ok (.getfield 12, 3) := by decide +kernel
theorem dX9_init_144 : decode cX9_init 144 = .ok (.aastore, 1) := by decide +kernel
theorem dX9_init_145 : decode cX9_init 145 = .ok (.putfield 57, 3) := by decide +kernel
theorem dX9_init_148 : decode cX9_init 148 = .ok (.aload_n 0, 1) := by decide +kernel
theorem dX9_init_149 : decode cX9_init 149 = .ok (.aload_n 0, 1) := by decide +kernel
theorem dX9_init_150 : decode cX9_init 150 = .ok (.getfield 12, 3) := by decide +kernel
theorem dX9_init_153 : decode cX9_init 153 = .ok (.putfield 61, 3) := by decide +kernel
theorem dX9_init_156 : decode cX9_init 156 = .ok (.return_, 1) := by decide +kernel
theorem dX9_open_0 : decode cX9_open 0 = .ok (.iload_n 1, 1) := by decide +kernel
theorem dX9_open_1 : decode cX9_open 1 = .ok (.bipush 7, 2) := by decide +kernel
theorem dX9_open_3 : decode cX9_open 3 = .ok (.invokestatic 65, 3) := by decide +kernel
theorem dX9_open_6 : decode cX9_open 6 = .ok (.ifCond .eq 20, 3) := by decide +kernel
theorem dX9_open_9 : decode cX9_open 9 = .ok (.iload_n 3, 1) := by decide +kernel
theorem dX9_open_10 : decode cX9_open 10 = .ok (.iconst 3, 1) := by decide +kernel
theorem dX9_open_11 : decode cX9_open 11 = .ok (.invokestatic 65, 3) := by decide +kernel
theorem dX9_open_14 : decode cX9_open 14 = .ok (.ifCond .eq 12, 3) := by decide +kernel
theorem dX9_open_17 : decode cX9_open 17 = .ok (.iload 4, 2) := by decide +kernel
theorem dX9_open_19 : decode cX9_open 19 = .ok (.iconst 3, 1) := by decide +kernel
theorem dX9_open_20 : decode cX9_open 20 = .ok (.invokestatic 65, 3) := by decide +kernel
theorem dX9_open_23 : decode cX9_open 23 = .ok (.ifCond .ne 5, 3) := by decide +kernel
theorem dX9_open_26 : decode cX9_open 26 = .ok (.iconst 0, 1) := by decide +kernel
theorem dX9_open_27 : decode cX9_open 27 = .ok (.ireturn, 1) := by decide +kernel
theorem dX9_open_28 : decode cX9_open 28 = .ok (.aload_n 0, 1) := by decide +kernel
theorem dX9_open_29 : decode cX9_open 29 = .ok (.aload_n 0, 1) := by decide +kernel
theorem dX9_open_30 : decode cX9_open 30 = .ok (.getfield 57, 3) := by decide +kernel
theorem dX9_open_33 : decode cX9_open 33 = .ok (.iload_n 1, 1) := by decide +kernel
theorem dX9_open_34 : decode cX9_open 34 = .ok (.aaload, 1) := by decide +kernel
theorem dX9_open_35 : decode cX9_open 35 = .ok (.putfield 61, 3) := by decide +kernel
theorem dX9_open_38 : decode cX9_open 38 = .ok (.aload_n 0, 1) := by decide +kernel
theorem dX9_open_39 : decode cX9_open 39 = .ok (.iload_n 2, 1) := by decide +kernel
theorem dX9_open_40 : decode cX9_open 40 = .ok (.putfield 69, 3) := by decide +kernel
theorem dX9_open_43 : decode cX9_open 43 = .ok (.aload_n 0, 1) := by decide +kernel
theorem dX9_open_44 : decode cX9_open 44 = .ok (.iload_n 3, 1) := by decide +kernel
theorem dX9_open_45 : decode cX9_open 45 = .ok (.putfield 73, 3) := by decide +kernel
theorem dX9_open_48 : decode cX9_open 48 = .ok (.aload_n 0, 1) := by decide +kernel
theorem dX9_open_49 : decode cX9_open 49 = .ok (.iload 4, 2) := by decide +kernel
theorem dX9_open_51 : decode cX9_open 51 = .ok (.putfield 76, 3) := by decide +kernel
theorem dX9_open_54 : decode cX9_open 54 = .ok (.aload_n 0, 1) := by decide +kernel
theorem dX9_open_55 : decode cX9_open 55 = .ok (.getfield 21, 3) := by decide +kernel
theorem dX9_open_58 : decode cX9_open 58 = .ok (.invokevirtual 79, 3) := by decide +kernel
theorem dX9_open_61 : decode cX9_open 61 = .ok (.aload_n 0, 1) := by decide +kernel
theorem dX9_open_62 : decode cX9_open 62 = .ok (.getfield 25, 3) := by decide +kernel
theorem dX9_open_65 : decode cX9_open 65 = .ok (.invokevirtual 79, 3) := by decide +kernel
theorem dX9_open_68 : decode cX9_open 68 = .ok (.aload_n 0, 1) := by decide +kernel
theorem dX9_open_69 : decode cX9_open 69 = .ok (.iconst 0, 1) := by decide +kernel
theorem dX9_open_70 : decode cX9_open 70 = .ok (.putfield 82, 3) := by decide +kernel
theorem dX9_open_73 : decode cX9_open 73 = .ok (.aload_n 0, 1) := by decide +kernel
theorem dX9_open_74 : decode cX9_open 74 = .ok (.iconst 0, 1) := by decide +kernel
theorem dX9_open_75 : decode cX9_open 75 = .ok (.putfield 85, 3) := by decide +kernel
theorem dX9_open_78 : decode cX9_open 78 = .ok (.aload_n 0, 1) := by decide +kernel
theorem dX9_open_79 : decode cX9_open 79 = .ok (.iconst 0, 1) := by decide +kernel
theorem dX9_open_80 : decode cX9_open 80 = .ok (.putfield 88, 3) := by decide +kernel
theorem dX9_open_83 : decode cX9_open 83 = .ok (.aload_n 0, 1) := by decide +kernel
theorem dX9_open_84 : decode cX9_open 84 = .ok (.invokevirtual 91, 3) := by decide +kernel
theorem dX9_open_87 : decode cX9_open 87 = .ok (.iconst 1, 1) := by decide +kernel
theorem dX9_open_88 : decode cX9_open 88 = .ok (.ireturn, 1) := by decide +kernel
theorem dX9_map_0 : decode cX9_map 0 = .ok (.iload_n 1, 1) := by decide +kernel
theorem dX9_map_1 : decode cX9_map 1 = .ok (.sipush 128, 3) := by decide +kernel
theorem dX9_map_4 : decode cX9_map 4 = .ok (.if_icmp .lt 21, 3) := by decide +kernel
theorem dX9_map_7 : decode cX9_map 7 = .ok (.iload_n 1, 1) := by decide +kernel
theorem dX9_map_8 : decode cX9_map 8 = .ok (.sipush 256, 3) := by decide +kernel
theorem dX9_map_11 : decode cX9_map 11 = .ok (.if_icmp .ge 14, 3) := by decide +kernel
theorem dX9_map_14 : decode cX9_map 14 = .ok (.iload_n 2, 1) := by decide +kernel
theorem dX9_map_15 : decode cX9_map 15 = .ok (.iconst (-1), 1) := by decide +kernel
theorem dX9_map_16 : decode cX9_map 16 = .ok (.if_icmp .lt 9, 3) := by decide +kernel
theorem dX9_map_19 : decode cX9_map 19 = .ok (.iload_n 2, 1) := by decide +kernel
theorem dX9_map_20 : decode cX9_map 20 = .ok (.ldc 94, 2) := by decide +kernel
theorem dX9_map_22 : decode cX9_map 22 = .ok (.if_icmp .lt 5, 3) := by decide +kernel
theorem dX9_map_25 : decode cX9_map 25 = .ok (.iconst 0, 1) := by decide +kernel
theorem dX9_map_26 : decode cX9_map 26 = .ok (.ireturn, 1) := by decide +kernel
theorem dX9_map_27 : decode cX9_map 27 = .ok (.aload_n 0, 1) := by decide +kernel
theorem dX9_map_28 : decode cX9_map 28 = .ok (.getfield 12, 3) := by decide +kernel
theorem dX9_map_31 : decode cX9_map 31 = .ok (.iload_n 1, 1) := by decide +kernel
theorem dX9_map_32 : decode cX9_map 32 = .ok (.iload_n 2, 1) := by decide +kernel
theorem dX9_map_33 : decode cX9_map 33 = .ok (.invokevirtual 95, 3) := by decide +kernel
theorem dX9_map_36 : decode cX9_map 36 = .ok (.aload_n 0, 1) := by decide +kernel
theorem dX9_map_37 : decode cX9_map 37 = .ok (.iconst 0, 1) := by decide +kernel
theorem dX9_map_38 : decode cX9_map 38 = .ok (.putfield 99, 3) := by decide +kernel
theorem dX9_map_41 : decode cX9_map 41 = .ok (.iconst 1, 1) := by decide +kernel
theorem dX9_map_42 : decode cX9_map 42 = .ok (.ireturn, 1) := by decide +kernel
theorem dX9_give_0 : decode cX9_give 0 = .ok (.aload_n 0, 1) := by decide +kernel
theorem dX9_give_1 : decode cX9_give 1 = .ok (.getfield 35, 3) := by decide +kernel
theorem dX9_give_4 : decode cX9_give 4 = .ok (.iconst (-1), 1) := by decide +kernel
theorem dX9_give_5 : decode cX9_give 5 = .ok (.if_icmp .eq 15, 3) := by decide +kernel
theorem dX9_give_8 : decode cX9_give 8 = .ok (.aload_n 0, 1) := by decide +kernel
theorem dX9_give_9 : decode cX9_give 9 = .ok (.getfield 21, 3) := by decide +kernel
theorem dX9_give_12 : decode cX9_give 12 = .ok (.invokevirtual 102, 3) := by decide +kernel
theorem dX9_give_15 : decode cX9_give 15 = .ok (.bipush 24, 2) := by decide +kernel
theorem dX9_give_17 : decode cX9_give 17 = .ok (.if_icmp .ne 5, 3) := by decide +kernel
theorem dX9_give_20 : decode cX9_give 20 = .ok (.iconst 0, 1) := by decide +kernel
theorem dX9_give_21 : decode cX9_give 21 = .ok (.ireturn, 1) := by decide +kernel
theorem dX9_give_22 : decode cX9_give 22 = .ok (.iload_n 1, 1) := by decide +kernel
theorem dX9_give_23 : decode cX9_give 23 = .ok (.aload_n 0, 1) := by decide +kernel
theorem dX9_give_24 : decode cX9_give 24 = .ok (.getfield 69, 3) := by decide +kernel
theorem dX9_give_27 : decode cX9_give 27 = .ok (.ifCond .eq 8, 3) := by decide +kernel
theorem dX9_give_30 : decode cX9_give 30 = .ok (.ldc 94, 2) := by decide +kernel
theorem dX9_give_32 : decode cX9_give 32 = .ok (.goto 6, 3) := by decide +kernel
theorem dX9_give_35 : decode cX9_give 35 = .ok (.sipush 256, 3) := by decide +kernel
theorem dX9_give_38 : decode cX9_give 38 = .ok (.invokestatic 65, 3) := by decide +kernel
theorem dX9_give_41 : decode cX9_give 41 = .ok (.ifCond .ne 5, 3) := by decide +kernel
theorem dX9_give_44 : decode cX9_give 44 = .ok (.iconst 0, 1) := by decide +kernel
theorem dX9_give_45 : decode cX9_give 45 = .ok (.ireturn, 1) := by decide +kernel
theorem dX9_give_46 : decode cX9_give 46 = .ok (.aload_n 0, 1) := by decide +kernel
theorem dX9_give_47 : decode cX9_give 47 = .ok (.getfield 21, 3) := by decide +kernel
theorem dX9_give_50 : decode cX9_give 50 = .ok (.iload_n 1, 1) := by decide +kernel
theorem dX9_give_51 : decode cX9_give 51 = .ok (.invokevirtual 106, 3) := by decide +kernel
theorem dX9_give_54 : decode cX9_give 54 = .ok (.aload_n 0, 1) := by decide +kernel
theorem dX9_give_55 : decode cX9_give 55 = .ok (.iconst 0, 1) := by decide +kernel
theorem dX9_give_56 : decode cX9_give 56 = .ok (.putfield 99, 3) := by decide +kernel
theorem dX9_give_59 : decode cX9_give 59 = .ok (.iconst 1, 1) := by decide +kernel
theorem dX9_give_60 : decode cX9_give 60 = .ok (.ireturn, 1) := by decide +kernel
theorem dX9_room_0 : decode cX9_room 0 = .ok (.iload_n 1, 1) := by decide +kernel
theorem dX9_room_1 : decode cX9_room 1 = .ok (.ifCond .lt 9, 3) := by decide +kernel
theorem dX9_room_4 : decode cX9_room 4 = .ok (.iload_n 1, 1) := by decide +kernel
theorem dX9_room_5 : decode cX9_room 5 = .ok (.bipush 16, 2) := by decide +kernel
theorem dX9_room_7 : decode cX9_room 7 = .ok (.if_icmp .le 5, 3) := by decide +kernel
theorem dX9_room_10 : decode cX9_room 10 = .ok (.iconst 0, 1) := by decide +kernel
theorem dX9_room_11 : decode cX9_room 11 = .ok (.ireturn, 1) := by decide +kernel
theorem dX9_room_12 : decode cX9_room 12 = .ok (.aload_n 0, 1) := by decide +kernel
theorem dX9_room_13 : decode cX9_room 13 = .ok (.iload_n 1, 1) := by decide +kernel
theorem dX9_room_14 : decode cX9_room 14 = .ok (.putfield 39, 3) := by decide +kernel
theorem dX9_room_17 : decode cX9_room 17 = .ok (.iconst 1, 1) := by decide +kernel
theorem dX9_room_18 : decode cX9_room 18 = .ok (.ireturn, 1) := by decide +kernel
theorem dX9_code_0 : decode cX9_code 0 = .ok (.aload_n 0, 1) := by decide +kernel
theorem dX9_code_1 : decode cX9_code 1 = .ok (.getfield 35, 3) := by decide +kernel
theorem dX9_code_4 : decode cX9_code 4 = .ok (.iconst (-1), 1) := by decide +kernel
theorem dX9_code_5 : decode cX9_code 5 = .ok (.if_icmp .eq 23, 3) := by decide +kernel
theorem dX9_code_8 : decode cX9_code 8 = .ok (.aload_n 0, 1) := by decide +kernel
theorem dX9_code_9 : decode cX9_code 9 = .ok (.getfield 35, 3) := by decide +kernel
theorem dX9_code_12 : decode cX9_code 12 = .ok (.iconst 3, 1) := by decide +kernel
theorem dX9_code_13 : decode cX9_code 13 = .ok (.if_icmp .eq 15, 3) := by decide +kernel
theorem dX9_code_16 : decode cX9_code 16 = .ok (.aload_n 0, 1) := by decide +kernel
theorem dX9_code_17 : decode cX9_code 17 = .ok (.getfield 35, 3) := by decide +kernel
theorem dX9_code_20 : decode cX9_code 20 = .ok (.iconst 2, 1) := by decide +kernel
theorem dX9_code_21 : decode cX9_code 21 = .ok (.if_icmp .ne 9, 3) := by decide +kernel
theorem dX9_code_24 : decode cX9_code 24 = .ok (.iload_n 1, 1) := by decide +kernel
theorem dX9_code_25 : decode cX9_code 25 = .ok (.ifCond .ne 5, 3) := by decide +kernel
theorem dX9_code_28 : decode cX9_code 28 = .ok (.iconst (-1), 1) := by decide +kernel
theorem dX9_code_29 : decode cX9_code 29 = .ok (.ireturn, 1) := by decide +kernel
theorem dX9_code_30 : decode cX9_code 30 = .ok (.aload_n 0, 1) := by decide +kernel
theorem dX9_code_31 : decode cX9_code 31 = .ok (.iload_n 1, 1) := by decide +kernel
theorem dX9_code_32 : decode cX9_code 32 = .ok (.ifCond .eq 7, 3) := by decide +kernel
theorem dX9_code_35 : decode cX9_code 35 = .ok (.iconst 2, 1) := by decide +kernel
theorem dX9_code_36 : decode cX9_code 36 = .ok (.goto 4, 3) := by decide +kernel
theorem dX9_code_39 : decode cX9_code 39 = .ok (.iconst 1, 1) := by decide +kernel
theorem dX9_code_40 : decode cX9_code 40 = .ok (.putfield 35, 3) := by decide +kernel
theorem dX9_code_43 : decode cX9_code 43 = .ok (.aload_n 0, 1) := by decide +kernel
theorem dX9_code_44 : decode cX9_code 44 = .ok (.iconst 0, 1) := by decide +kernel
theorem dX9_code_45 : decode cX9_code 45 = .ok (.putfield 99, 3) := by decide +kernel
theorem dX9_code_48 : decode cX9_code 48 = .ok (.aload_n 0, 1) := by decide +kernel
theorem dX9_code_49 : decode cX9_code 49 = .ok (.iload_n 1, 1) := by decide +kernel
theorem dX9_code_50 : decode cX9_code 50 = .ok (.invokevirtual 109, 3) := by decide +kernel
theorem dX9_code_53 : decode cX9_code 53 = .ok (.ireturn, 1) := by decide +kernel
theorem dX9_flush_0 : decode cX9_flush 0 = .ok (.aload_n 0, 1) := by decide +kernel
theorem dX9_flush_1 : decode cX9_flush 1 = .ok (.getfield 35, 3) := by decide +kernel
theorem dX9_flush_4 : decode cX9_flush 4 = .ok (.iconst 2, 1) := by decide +kernel
theorem dX9_flush_5 : decode cX9_flush 5 = .ok (.if_icmp .eq 13, 3) := by decide +kernel
theorem dX9_flush_8 : decode cX9_flush 8 = .ok (.aload_n 0, 1) := by decide +kernel
theorem dX9_flush_9 : decode cX9_flush 9 = .ok (.getfield 35, 3) := by decide +kernel
theorem dX9_flush_12 : decode cX9_flush 12 = .ok (.iconst 3, 1) := by decide +kernel
theorem dX9_flush_13 : decode cX9_flush 13 = .ok (.if_icmp .eq 5, 3) := by decide +kernel
theorem dX9_flush_16 : decode cX9_flush 16 = .ok (.iconst (-1), 1) := by decide +kernel
theorem dX9_flush_17 : decode cX9_flush 17 = .ok (.ireturn, 1) := by decide +kernel
theorem dX9_flush_18 : decode cX9_flush 18 = .ok (.aload_n 0, 1) := by decide +kernel
theorem dX9_flush_19 : decode cX9_flush 19 = .ok (.getfield 69, 3) := by decide +kernel
theorem dX9_flush_22 : decode cX9_flush 22 = .ok (.ifCond .eq 27, 3) := by decide +kernel
theorem dX9_flush_25 : decode cX9_flush 25 = .ok (.aload_n 0, 1) := by decide +kernel
theorem dX9_flush_26 : decode cX9_flush 26 = .ok (.getfield 61, 3) := by decide +kernel
theorem dX9_flush_29 : decode cX9_flush 29 = .ok (.aload_n 0, 1) := by decide +kernel
theorem dX9_flush_30 : decode cX9_flush 30 = .ok (.getfield 31, 3) := by decide +kernel
theorem dX9_flush_33 : decode cX9_flush 33 = .ok (.invokevirtual 113, 3) := by decide +kernel
theorem dX9_flush_36 : decode cX9_flush 36 = .ok (.ifCond .eq 13, 3) := by decide +kernel
theorem dX9_flush_39 : decode cX9_flush 39 = .ok (.aload_n 0, 1) := by decide +kernel
theorem dX9_flush_40 : decode cX9_flush 40 = .ok (.invokevirtual 117, 3) := by decide +kernel
theorem dX9_flush_43 : decode cX9_flush 43 = .ok (.iconst 1, 1) := by decide +kernel
theorem dX9_flush_44 : decode cX9_flush 44 = .ok (.if_icmp .ne 5, 3) := by decide +kernel
theorem dX9_flush_47 : decode cX9_flush 47 = .ok (.iconst 1, 1) := by decide +kernel
theorem dX9_flush_48 : decode cX9_flush 48 = .ok (.ireturn, 1) := by decide +kernel
theorem dX9_flush_49 : decode cX9_flush 49 = .ok (.aload_n 0, 1) := by decide +kernel
theorem dX9_flush_50 : decode cX9_flush 50 = .ok (.iconst 3, 1) := by decide +kernel
theorem dX9_flush_51 : decode cX9_flush 51 = .ok (.putfield 35, 3) := by decide +kernel
theorem dX9_flush_54 : decode cX9_flush 54 = .ok (.iconst 0, 1) := by decide +kernel
theorem dX9_flush_55 : decode cX9_flush 55 = .ok (.ireturn, 1) := by decide +kernel
theorem dX9_reset_0 : decode cX9_reset 0 = .ok (.aload_n 0, 1) := by decide +kernel
theorem dX9_reset_1 : decode cX9_reset 1 = .ok (.getfield 35, 3) := by decide +kernel
theorem dX9_reset_4 : decode cX9_reset 4 = .ok (.iconst (-1), 1) := by decide +kernel
theorem dX9_reset_5 : decode cX9_reset 5 = .ok (.if_icmp .ne 5, 3) := by decide +kernel
theorem dX9_reset_8 : decode cX9_reset 8 = .ok (.iconst 0, 1) := by decide +kernel
theorem dX9_reset_9 : decode cX9_reset 9 = .ok (.ireturn, 1) := by decide +kernel
theorem dX9_reset_10 : decode cX9_reset 10 = .ok (.aload_n 0, 1) := by decide +kernel
theorem dX9_reset_11 : decode cX9_reset 11 = .ok (.invokevirtual 91, 3) := by decide +kernel
theorem dX9_reset_14 : decode cX9_reset 14 = .ok (.iconst 1, 1) := by decide +kernel
theorem dX9_reset_15 : decode cX9_reset 15 = .ok (.ireturn, 1) := by decide +kernel
theorem dX9_pass_0 : decode cX9_pass 0 = .ok (.aload_n 0, 1) := by decide +kernel
theorem dX9_pass_1 : decode cX9_pass 1 = .ok (.getfield 99, 3) := by decide +kernel
theorem dX9_pass_4 : decode cX9_pass 4 = .ok (.ifCond .ne 5, 3) := by decide +kernel
theorem dX9_pass_7 : decode cX9_pass 7 = .ok (.iconst 0, 1) := by decide +kernel
theorem dX9_pass_8 : decode cX9_pass 8 = .ok (.ireturn, 1) := by decide +kernel
theorem dX9_pass_9 : decode cX9_pass 9 = .ok (.aload_n 0, 1) := by decide +kernel
theorem dX9_pass_10 : decode cX9_pass 10 = .ok (.aload_n 0, 1) := by decide +kernel
theorem dX9_pass_11 : decode cX9_pass 11 = .ok (.getfield 99, 3) := by decide +kernel
theorem dX9_pass_14 : decode cX9_pass 14 = .ok (.invokevirtual 120, 3) := by decide +kernel
theorem dX9_pass_17 : decode cX9_pass 17 = .ok (.aload_n 0, 1) := by decide +kernel
theorem dX9_pass_18 : decode cX9_pass 18 = .ok (.iconst 0, 1) := by decide +kernel
theorem dX9_pass_19 : decode cX9_pass 19 = .ok (.putfield 99, 3) := by decide +kernel
theorem dX9_pass_22 : decode cX9_pass 22 = .ok (.iconst 1, 1) := by decide +kernel
theorem dX9_pass_23 : decode cX9_pass 23 = .ok (.ireturn, 1) := by decide +kernel
theorem dX9_fetch_0 : decode cX9_fetch 0 = .ok (.aload_n 0, 1) := by decide +kernel
theorem dX9_fetch_1 : decode cX9_fetch 1 = .ok (.getfield 25, 3) := by decide +kernel
theorem dX9_fetch_4 : decode cX9_fetch 4 = .ok (.iconst 0, 1) := by decide +kernel
theorem dX9_fetch_5 : decode cX9_fetch 5 = .ok (.invokevirtual 123, 3) := by decide +kernel
theorem dX9_fetch_8 : decode cX9_fetch 8 = .ok (.istore_n 1, 1) := by decide +kernel
theorem dX9_fetch_9 : decode cX9_fetch 9 = .ok (.aload_n 0, 1) := by decide +kernel
theorem dX9_fetch_10 : decode cX9_fetch 10 = .ok (.getfield 25, 3) := by decide +kernel
theorem dX9_fetch_13 : decode cX9_fetch 13 = .ok (.iconst 1, 1) := by decide +kernel
theorem dX9_fetch_14 : decode cX9_fetch 14 = .ok (.invokevirtual 127, 3) := by decide +kernel
theorem dX9_fetch_17 : decode cX9_fetch 17 = .ok (.iload_n 1, 1) := by decide +kernel
theorem dX9_fetch_18 : decode cX9_fetch 18 = .ok (.ireturn, 1) := by decide +kernel
theorem dX9_state_0 : decode cX9_state 0 = .ok (.aload_n 0, 1) := by decide +kernel
theorem dX9_state_1 : decode cX9_state 1 = .ok (.getfield 35, 3) := by decide +kernel
theorem dX9_state_4 : decode cX9_state 4 = .ok (.ireturn, 1) := by decide +kernel
theorem dX9_waiting_0 : decode cX9_waiting 0 = .ok (.aload_n 0, 1) := by decide +kernel
theorem dX9_waiting_1 : decode cX9_waiting 1 = .ok (.getfield 21, 3) := by decide +kernel
theorem dX9_waiting_4 : decode cX9_waiting 4 = .ok (.invokevirtual 102, 3) := by decide +kernel
theorem dX9_waiting_7 : decode cX9_waiting 7 = .ok (.ireturn, 1) := by decide +kernel
theorem dX9_ready_0 : decode cX9_ready 0 = .ok (.aload_n 0, 1) := by decide +kernel
theorem dX9_ready_1 : decode cX9_ready 1 = .ok (.getfield 25, 3) := by decide +kernel
theorem dX9_ready_4 : decode cX9_ready 4 = .ok (.invokevirtual 102, 3) := by decide +kernel
theorem dX9_ready_7 : decode cX9_ready 7 = .ok (.ireturn, 1) := by decide +kernel
theorem dX9_taken_0 : decode cX9_taken 0 = .ok (.aload_n 0, 1) := by decide +kernel
theorem dX9_taken_1 : decode cX9_taken 1 = .ok (.getfield 82, 3) := by decide +kernel
theorem dX9_taken_4 : decode cX9_taken 4 = .ok (.ireturn, 1) := by decide +kernel
theorem dX9_put_0 : decode cX9_put 0 = .ok (.aload_n 0, 1) := by decide +kernel
theorem dX9_put_1 : decode cX9_put 1 = .ok (.getfield 85, 3) := by decide +kernel
theorem dX9_put_4 : decode cX9_put 4 = .ok (.ireturn, 1) := by decide +kernel
theorem dX9_faults_0 : decode cX9_faults 0 = .ok (.aload_n 0, 1) := by decide +kernel
theorem dX9_faults_1 : decode cX9_faults 1 = .ok (.getfield 88, 3) := by decide +kernel
theorem dX9_faults_4 : decode cX9_faults 4 = .ok (.ireturn, 1) := by decide +kernel
theorem dX9_isBelow_0 : decode cX9_isBelow 0 = .ok (.iload_n 0, 1) := by decide +kernel
theorem dX9_isBelow_1 : decode cX9_isBelow 1 = .ok (.ifCond .lt 12, 3) := by decide +kernel
theorem dX9_isBelow_4 : decode cX9_isBelow 4 = .ok (.iload_n 0, 1) := by decide +kernel
theorem dX9_isBelow_5 : decode cX9_isBelow 5 = .ok (.iload_n 1, 1) := by decide +kernel
theorem dX9_isBelow_6 : decode cX9_isBelow 6 = .ok (.if_icmp .ge 7, 3) := by decide +kernel
theorem dX9_isBelow_9 : decode cX9_isBelow 9 = .ok (.iconst 1, 1) := by decide +kernel
theorem dX9_isBelow_10 : decode cX9_isBelow 10 = .ok (.goto 4, 3) := by decide +kernel
theorem dX9_isBelow_13 : decode cX9_isBelow 13 = .ok (.iconst 0, 1) := by decide +kernel
theorem dX9_isBelow_14 : decode cX9_isBelow 14 = .ok (.ireturn, 1) := by decide +kernel
theorem dX9_startAfresh_0 : decode cX9_startAfresh 0 = .ok (.aload_n 0, 1) := by decide +kernel
theorem dX9_startAfresh_1 : decode cX9_startAfresh 1 = .ok (.iconst 0, 1) := by decide +kernel
theorem dX9_startAfresh_2 : decode cX9_startAfresh 2 = .ok (.putfield 35, 3) := by decide +kernel
theorem dX9_startAfresh_5 : decode cX9_startAfresh 5 = .ok (.aload_n 0, 1) := by decide +kernel
theorem dX9_startAfresh_6 : decode cX9_startAfresh 6 = .ok (.iconst 0, 1) := by decide +kernel
theorem dX9_startAfresh_7 : decode cX9_startAfresh 7 = .ok (.putfield 99, 3) := by decide +kernel
theorem dX9_startAfresh_10 : decode cX9_startAfresh 10 = .ok (.aload_n 0, 1) := by decide +kernel
theorem dX9_startAfresh_11 : decode cX9_startAfresh 11 = .ok (.getfield 61, 3) := by decide +kernel
theorem dX9_startAfresh_14 : decode cX9_startAfresh 14 = .ok (.invokevirtual 130, 3) := by decide +kernel
theorem dX9_startAfresh_17 : decode cX9_startAfresh 17 = .ok (.return_, 1) := by decide +kernel
theorem dX9_makeMoves_0 : decode cX9_makeMoves 0 = .ok (.iconst 0, 1) := by decide +kernel
theorem dX9_makeMoves_1 : decode cX9_makeMoves 1 = .ok (.istore_n 2, 1) := by decide +kernel
theorem dX9_makeMoves_2 : decode cX9_makeMoves 2 = .ok (.iload_n 2, 1) := by decide +kernel
theorem dX9_makeMoves_3 : decode cX9_makeMoves 3 = .ok (.bipush 26, 2) := by decide +kernel
theorem dX9_makeMoves_5 : decode cX9_makeMoves 5 = .ok (.if_icmp .ge 84, 3) := by decide +kernel
theorem dX9_makeMoves_8 : decode cX9_makeMoves 8 = .ok (.aload_n 0, 1) := by decide +kernel
theorem dX9_makeMoves_9 : decode cX9_makeMoves 9 = .ok (.invokevirtual 133, 3) := by decide +kernel
theorem dX9_makeMoves_12 : decode cX9_makeMoves 12 = .ok (.aload_n 0, 1) := by decide +kernel
theorem dX9_makeMoves_13 : decode cX9_makeMoves 13 = .ok (.getfield 31, 3) := by decide +kernel
theorem dX9_makeMoves_16 : decode cX9_makeMoves 16 = .ok (.getfield 136, 3) := by decide +kernel
theorem dX9_makeMoves_19 : decode cX9_makeMoves 19 = .ok (.ifCond .ne 33, 3) := by decide +kernel
theorem dX9_makeMoves_22 : decode cX9_makeMoves 22 = .ok (.iload_n 1, 1) := by decide +kernel
theorem dX9_makeMoves_23 : decode cX9_makeMoves 23 = .ok (.ifCond .eq 13, 3) := by decide +kernel
theorem dX9_makeMoves_26 : decode cX9_makeMoves 26 = .ok (.aload_n 0, 1) := by decide +kernel
theorem dX9_makeMoves_27 : decode cX9_makeMoves 27 = .ok (.getfield 21, 3) := by decide +kernel
theorem dX9_makeMoves_30 : decode cX9_makeMoves 30 = .ok (.invokevirtual 102, 3) := by decide +kernel
theorem dX9_makeMoves_33 : decode cX9_makeMoves 33 = .ok (.ifCond .ne 5, 3) := by decide +kernel
theorem dX9_makeMoves_36 : decode cX9_makeMoves 36 = .ok (.iconst 0, 1) := by decide +kernel
theorem dX9_makeMoves_37 : decode cX9_makeMoves 37 = .ok (.ireturn, 1) := by decide +kernel
theorem dX9_makeMoves_38 : decode cX9_makeMoves 38 = .ok (.aload_n 0, 1) := by decide +kernel
theorem dX9_makeMoves_39 : decode cX9_makeMoves 39 = .ok (.getfield 31, 3) := by decide +kernel
theorem dX9_makeMoves_42 : decode cX9_makeMoves 42 = .ok (.aload_n 0, 1) := by decide +kernel
theorem dX9_makeMoves_43 : decode cX9_makeMoves 43 = .ok (.getfield 21, 3) := by decide +kernel
theorem dX9_makeMoves_46 : decode cX9_makeMoves 46 = .ok (.invokevirtual 102, 3) := by decide +kernel
theorem dX9_makeMoves_49 : decode cX9_makeMoves 49 = .ok (.invokevirtual 139, 3) := by decide +kernel
theorem dX9_makeMoves_52 : decode cX9_makeMoves 52 = .ok (.aload_n 0, 1) := by decide +kernel
theorem dX9_makeMoves_53 : decode cX9_makeMoves 53 = .ok (.getfield 31, 3) := by decide +kernel
theorem dX9_makeMoves_56 : decode cX9_makeMoves 56 = .ok (.getfield 136, 3) := by decide +kernel
theorem dX9_makeMoves_59 : decode cX9_makeMoves 59 = .ok (.iconst 1, 1) := by decide +kernel
theorem dX9_makeMoves_60 : decode cX9_makeMoves 60 = .ok (.if_icmp .ne 10, 3) := by decide +kernel
theorem dX9_makeMoves_63 : decode cX9_makeMoves 63 = .ok (.aload_n 0, 1) := by decide +kernel
theorem dX9_makeMoves_64 : decode cX9_makeMoves 64 = .ok (.invokevirtual 117, 3) := by decide +kernel
theorem dX9_makeMoves_67 : decode cX9_makeMoves 67 = .ok (.goto 7, 3) := by decide +kernel
theorem dX9_makeMoves_70 : decode cX9_makeMoves 70 = .ok (.aload_n 0, 1) := by decide +kernel
theorem dX9_makeMoves_71 : decode cX9_makeMoves 71 = .ok (.invokevirtual 142, 3) := by decide +kernel
theorem dX9_makeMoves_74 : decode cX9_makeMoves 74 = .ok (.istore_n 3, 1) := by decide +kernel
theorem dX9_makeMoves_75 : decode cX9_makeMoves 75 = .ok (.iload_n 3, 1) := by decide +kernel
theorem dX9_makeMoves_76 : decode cX9_makeMoves 76 = .ok (.bipush (-2), 2) := by decide +kernel
theorem dX9_makeMoves_78 : decode cX9_makeMoves 78 = .ok (.if_icmp .eq 5, 3) := by decide +kernel
theorem dX9_makeMoves_81 : decode cX9_makeMoves 81 = .ok (.iload_n 3, 1) := by decide +kernel
theorem dX9_makeMoves_82 : decode cX9_makeMoves 82 = .ok (.ireturn, 1) := by decide +kernel
theorem dX9_makeMoves_83 : decode cX9_makeMoves 83 = .ok (.iinc 2 1, 3) := by decide +kernel
theorem dX9_makeMoves_86 : decode cX9_makeMoves 86 = .ok (.goto (-84), 3) := by decide +kernel
theorem dX9_makeMoves_89 : decode cX9_makeMoves 89 = .ok (.iconst 0, 1) := by decide +kernel
theorem dX9_makeMoves_90 : decode cX9_makeMoves 90 = .ok (.ireturn, 1) := by decide +kernel
theorem dX9_look_0 : decode cX9_look 0 = .ok (.aload_n 0, 1) := by decide +kernel
theorem dX9_look_1 : decode cX9_look 1 = .ok (.getfield 21, 3) := by decide +kernel
theorem dX9_look_4 : decode cX9_look 4 = .ok (.invokevirtual 102, 3) := by decide +kernel
theorem dX9_look_7 : decode cX9_look 7 = .ok (.ifCond .ne 13, 3) := by decide +kernel
theorem dX9_look_10 : decode cX9_look 10 = .ok (.aload_n 0, 1) := by decide +kernel
theorem dX9_look_11 : decode cX9_look 11 = .ok (.getfield 31, 3) := by decide +kernel
theorem dX9_look_14 : decode cX9_look 14 = .ok (.invokevirtual 145, 3) := by decide +kernel
theorem dX9_look_17 : decode cX9_look 17 = .ok (.goto 43, 3) := by decide +kernel
theorem dX9_look_20 : decode cX9_look 20 = .ok (.aload_n 0, 1) := by decide +kernel
theorem dX9_look_21 : decode cX9_look 21 = .ok (.getfield 69, 3) := by decide +kernel
theorem dX9_look_24 : decode cX9_look 24 = .ok (.ifCond .eq 21, 3) := by decide +kernel
theorem dX9_look_27 : decode cX9_look 27 = .ok (.aload_n 0, 1) := by decide +kernel
theorem dX9_look_28 : decode cX9_look 28 = .ok (.getfield 61, 3) := by decide +kernel
theorem dX9_look_31 : decode cX9_look 31 = .ok (.aload_n 0, 1) := by decide +kernel
theorem dX9_look_32 : decode cX9_look 32 = .ok (.getfield 21, 3) := by decide +kernel
theorem dX9_look_35 : decode cX9_look 35 = .ok (.aload_n 0, 1) := by decide +kernel
theorem dX9_look_36 : decode cX9_look 36 = .ok (.getfield 31, 3) := by decide +kernel
theorem dX9_look_39 : decode cX9_look 39 = .ok (.invokevirtual 148, 3) := by decide +kernel
theorem dX9_look_42 : decode cX9_look 42 = .ok (.goto 18, 3) := by decide +kernel
theorem dX9_look_45 : decode cX9_look 45 = .ok (.aload_n 0, 1) := by decide +kernel
theorem dX9_look_46 : decode cX9_look 46 = .ok (.getfield 61, 3) := by decide +kernel
theorem dX9_look_49 : decode cX9_look 49 = .ok (.aload_n 0, 1) := by decide +kernel
theorem dX9_look_50 : decode cX9_look 50 = .ok (.getfield 21, 3) := by decide +kernel
theorem dX9_look_53 : decode cX9_look 53 = .ok (.aload_n 0, 1) := by decide +kernel
theorem dX9_look_54 : decode cX9_look 54 = .ok (.getfield 31, 3) := by decide +kernel
theorem dX9_look_57 : decode cX9_look 57 = .ok (.invokevirtual 152, 3) := by decide +kernel
theorem dX9_look_60 : decode cX9_look 60 = .ok (.return_, 1) := by decide +kernel
theorem dX9_makeStep_0 : decode cX9_makeStep 0 = .ok (.aload_n 0, 1) := by decide +kernel
theorem dX9_makeStep_1 : decode cX9_makeStep 1 = .ok (.invokevirtual 155, 3) := by decide +kernel
theorem dX9_makeStep_4 : decode cX9_makeStep 4 = .ok (.ifCond .ne 5, 3) := by decide +kernel
theorem dX9_makeStep_7 : decode cX9_makeStep 7 = .ok (.iconst 1, 1) := by decide +kernel
theorem dX9_makeStep_8 : decode cX9_makeStep 8 = .ok (.ireturn, 1) := by decide +kernel
theorem dX9_makeStep_9 : decode cX9_makeStep 9 = .ok (.aload_n 0, 1) := by decide +kernel
theorem dX9_makeStep_10 : decode cX9_makeStep 10 = .ok (.aload_n 0, 1) := by decide +kernel
theorem dX9_makeStep_11 : decode cX9_makeStep 11 = .ok (.getfield 31, 3) := by decide +kernel
theorem dX9_makeStep_14 : decode cX9_makeStep 14 = .ok (.getfield 159, 3) := by decide +kernel
theorem dX9_makeStep_17 : decode cX9_makeStep 17 = .ok (.invokevirtual 162, 3) := by decide +kernel
theorem dX9_makeStep_20 : decode cX9_makeStep 20 = .ok (.aload_n 0, 1) := by decide +kernel
theorem dX9_makeStep_21 : decode cX9_makeStep 21 = .ok (.invokevirtual 165, 3) := by decide +kernel
theorem dX9_makeStep_24 : decode cX9_makeStep 24 = .ok (.aload_n 0, 1) := by decide +kernel
theorem dX9_makeStep_25 : decode cX9_makeStep 25 = .ok (.getfield 61, 3) := by decide +kernel
theorem dX9_makeStep_28 : decode cX9_makeStep 28 = .ok (.invokevirtual 168, 3) := by decide +kernel
theorem dX9_makeStep_31 : decode cX9_makeStep 31 = .ok (.bipush (-2), 2) := by decide +kernel
theorem dX9_makeStep_33 : decode cX9_makeStep 33 = .ok (.ireturn, 1) := by decide +kernel
theorem dX9_meetFault_0 : decode cX9_meetFault 0 = .ok (.aload_n 0, 1) := by decide +kernel
theorem dX9_meetFault_1 : decode cX9_meetFault 1 = .ok (.getfield 31, 3) := by decide +kernel
theorem dX9_meetFault_4 : decode cX9_meetFault 4 = .ok (.getfield 136, 3) := by decide +kernel
theorem dX9_meetFault_7 : decode cX9_meetFault 7 = .ok (.iconst 2, 1) := by decide +kernel
theorem dX9_meetFault_8 : decode cX9_meetFault 8 = .ok (.if_icmp .ne 7, 3) := by decide +kernel
theorem dX9_meetFault_11 : decode cX9_meetFault 11 = .ok (.iconst 1, 1) := by decide +kernel
theorem dX9_meetFault_12 : decode cX9_meetFault 12 = .ok (.goto 4, 3) := by decide +kernel
theorem dX9_meetFault_15 : decode cX9_meetFault 15 = .ok (.iconst 0, 1) := by decide +kernel
theorem dX9_meetFault_16 : decode cX9_meetFault 16 = .ok (.istore_n 1, 1) := by decide +kernel
theorem dX9_meetFault_17 : decode cX9_meetFault 17 = .ok (.iload_n 1, 1) := by decide +kernel
theorem dX9_meetFault_18 : decode cX9_meetFault 18 = .ok (.ifCond .eq 10, 3) := by decide +kernel
theorem dX9_meetFault_21 : decode cX9_meetFault 21 = .ok (.aload_n 0, 1) := by decide +kernel
theorem dX9_meetFault_22 : decode cX9_meetFault 22 = .ok (.getfield 73, 3) := by decide +kernel
theorem dX9_meetFault_25 : decode cX9_meetFault 25 = .ok (.goto 7, 3) := by decide +kernel
theorem dX9_meetFault_28 : decode cX9_meetFault 28 = .ok (.aload_n 0, 1) := by decide +kernel
theorem dX9_meetFault_29 : decode cX9_meetFault 29 = .ok (.getfield 76, 3) := by decide +kernel
theorem dX9_meetFault_32 : decode cX9_meetFault 32 = .ok (.istore_n 2, 1) := by decide +kernel
theorem dX9_meetFault_33 : decode cX9_meetFault 33 = .ok (.iload_n 2, 1) := by decide +kernel
theorem dX9_meetFault_34 : decode cX9_meetFault 34 = .ok (.ifCond .ne 34, 3) := by decide +kernel
theorem dX9_meetFault_37 : decode cX9_meetFault 37 = .ok (.aload_n 0, 1) := by decide +kernel
theorem dX9_meetFault_38 : decode cX9_meetFault 38 = .ok (.aload_n 0, 1) := by decide +kernel
theorem dX9_meetFault_39 : decode cX9_meetFault 39 = .ok (.getfield 31, 3) := by decide +kernel
theorem dX9_meetFault_42 : decode cX9_meetFault 42 = .ok (.getfield 159, 3) := by decide +kernel
theorem dX9_meetFault_45 : decode cX9_meetFault 45 = .ok (.putfield 99, 3) := by decide +kernel
theorem dX9_meetFault_48 : decode cX9_meetFault 48 = .ok (.iload_n 1, 1) := by decide +kernel
theorem dX9_meetFault_49 : decode cX9_meetFault 49 = .ok (.ifCond .eq 8, 3) := by decide +kernel
theorem dX9_meetFault_52 : decode cX9_meetFault 52 = .ok (.bipush 16, 2) := by decide +kernel
theorem dX9_meetFault_54 : decode cX9_meetFault 54 = .ok (.goto 5, 3) := by decide +kernel
theorem dX9_meetFault_57 : decode cX9_meetFault 57 = .ok (.bipush 32, 2) := by decide +kernel
theorem dX9_meetFault_59 : decode cX9_meetFault 59 = .ok (.aload_n 0, 1) := by decide +kernel
theorem dX9_meetFault_60 : decode cX9_meetFault 60 = .ok (.getfield 31, 3) := by decide +kernel
theorem dX9_meetFault_63 : decode cX9_meetFault 63 = .ok (.getfield 159, 3) := by decide +kernel
theorem dX9_meetFault_66 : decode cX9_meetFault 66 = .ok (.iadd, 1) := by decide +kernel
theorem dX9_meetFault_67 : decode cX9_meetFault 67 = .ok (.ireturn, 1) := by decide +kernel
theorem dX9_meetFault_68 : decode cX9_meetFault 68 = .ok (.iload_n 2, 1) := by decide +kernel
theorem dX9_meetFault_69 : decode cX9_meetFault 69 = .ok (.iconst 2, 1) := by decide +kernel
theorem dX9_meetFault_70 : decode cX9_meetFault 70 = .ok (.if_icmp .ne 20, 3) := by decide +kernel
theorem dX9_meetFault_73 : decode cX9_meetFault 73 = .ok (.aload_n 0, 1) := by decide +kernel
theorem dX9_meetFault_74 : decode cX9_meetFault 74 = .ok (.invokevirtual 171, 3) := by decide +kernel
theorem dX9_meetFault_77 : decode cX9_meetFault 77 = .ok (.aload_n 0, 1) := by decide +kernel
theorem dX9_meetFault_78 : decode cX9_meetFault 78 = .ok (.invokevirtual 155, 3) := by decide +kernel
theorem dX9_meetFault_81 : decode cX9_meetFault 81 = .ok (.ifCond .ne 5, 3) := by decide +kernel
theorem dX9_meetFault_84 : decode cX9_meetFault 84 = .ok (.iconst 1, 1) := by decide +kernel
theorem dX9_meetFault_85 : decode cX9_meetFault 85 = .ok (.ireturn, 1) := by decide +kernel
theorem dX9_meetFault_86 : decode cX9_meetFault 86 = .ok (.aload_n 0, 1) := by decide +kernel
theorem dX9_meetFault_87 : decode cX9_meetFault 87 = .ok (.invokevirtual 165, 3) := by decide +kernel
theorem dX9_meetFault_90 : decode cX9_meetFault 90 = .ok (.aload_n 0, 1) := by decide +kernel
theorem dX9_meetFault_91 : decode cX9_meetFault 91 = .ok (.aload_n 0, 1) := by decide +kernel
theorem dX9_meetFault_92 : decode cX9_meetFault 92 = .ok (.getfield 31, 3) := by decide +kernel
theorem dX9_meetFault_95 : decode cX9_meetFault 95 = .ok (.getfield 159, 3) := by decide +kernel
theorem dX9_meetFault_98 : decode cX9_meetFault 98 = .ok (.invokevirtual 120, 3) := by decide +kernel
theorem dX9_meetFault_101 : decode cX9_meetFault 101 = .ok (.bipush (-2), 2) := by decide +kernel
theorem dX9_meetFault_103 : decode cX9_meetFault 103 = .ok (.ireturn, 1) := by decide +kernel
theorem dX9_addReplacement_0 : decode cX9_addReplacement 0 = .ok (.aload_n 0, 1) := by decide +kernel
theorem dX9_addReplacement_1 : decode cX9_addReplacement 1 = .ok (.getfield 69, 3) := by decide +kernel
theorem dX9_addReplacement_4 : decode cX9_addReplacement 4 = .ok (.ifCond .eq 17, 3) := by decide +kernel
theorem dX9_addReplacement_7 : decode cX9_addReplacement 7 = .ok (.aload_n 0, 1) := by decide +kernel
theorem dX9_addReplacement_8 : decode cX9_addReplacement 8 = .ok (.getfield 61, 3) := by decide +kernel
theorem dX9_addReplacement_11 : decode cX9_addReplacement 11 = .ok (.aload_n 0, 1) := by decide +kernel
theorem dX9_addReplacement_12 : decode cX9_addReplacement 12 = .ok (.getfield 31, 3) := by decide +kernel
theorem dX9_addReplacement_15 : decode cX9_addReplacement 15 = .ok (.invokevirtual 174, 3) := by decide +kernel
theorem dX9_addReplacement_18 : decode cX9_addReplacement 18 = .ok (.goto 12, 3) := by decide +kernel
theorem dX9_addReplacement_21 : decode cX9_addReplacement 21 = .ok (.aload_n 0, 1) := by decide +kernel
theorem dX9_addReplacement_22 : decode cX9_addReplacement 22 = .ok (.getfield 31, 3) := by decide +kernel
theorem dX9_addReplacement_25 : decode cX9_addReplacement 25 = .ok (.ldc 177, 2) := by decide +kernel
theorem dX9_addReplacement_27 : decode cX9_addReplacement 27 = .ok (.invokevirtual 178, 3) := by decide +kernel
theorem dX9_addReplacement_30 : decode cX9_addReplacement 30 = .ok (.return_, 1) := by decide +kernel
theorem dX9_fits_0 : decode cX9_fits 0 = .ok (.aload_n 0, 1) := by decide +kernel
theorem dX9_fits_1 : decode cX9_fits 1 = .ok (.getfield 31, 3) := by decide +kernel
theorem dX9_fits_4 : decode cX9_fits 4 = .ok (.getfield 179, 3) := by decide +kernel
theorem dX9_fits_7 : decode cX9_fits 7 = .ok (.ifCond .eq 25, 3) := by decide +kernel
theorem dX9_fits_10 : decode cX9_fits 10 = .ok (.aload_n 0, 1) := by decide +kernel
theorem dX9_fits_11 : decode cX9_fits 11 = .ok (.getfield 25, 3) := by decide +kernel
theorem dX9_fits_14 : decode cX9_fits 14 = .ok (.invokevirtual 102, 3) := by decide +kernel
theorem dX9_fits_17 : decode cX9_fits 17 = .ok (.aload_n 0, 1) := by decide +kernel
theorem dX9_fits_18 : decode cX9_fits 18 = .ok (.getfield 31, 3) := by decide +kernel
theorem dX9_fits_21 : decode cX9_fits 21 = .ok (.getfield 179, 3) := by decide +kernel
theorem dX9_fits_24 : decode cX9_fits 24 = .ok (.iadd, 1) := by decide +kernel
theorem dX9_fits_25 : decode cX9_fits 25 = .ok (.aload_n 0, 1) := by decide +kernel
theorem dX9_fits_26 : decode cX9_fits 26 = .ok (.getfield 39, 3) := by decide +kernel
theorem dX9_fits_29 : decode cX9_fits 29 = .ok (.if_icmp .gt 7, 3) := by decide +kernel
theorem dX9_fits_32 : decode cX9_fits 32 = .ok (.iconst 1, 1) := by decide +kernel
theorem dX9_fits_33 : decode cX9_fits 33 = .ok (.goto 4, 3) := by decide +kernel
theorem dX9_fits_36 : decode cX9_fits 36 = .ok (.iconst 0, 1) := by decide +kernel
theorem dX9_fits_37 : decode cX9_fits 37 = .ok (.ireturn, 1) := by decide +kernel
theorem dX9_takeUnits_0 : decode cX9_takeUnits 0 = .ok (.aload_n 0, 1) := by decide +kernel
theorem dX9_takeUnits_1 : decode cX9_takeUnits 1 = .ok (.getfield 21, 3) := by decide +kernel
theorem dX9_takeUnits_4 : decode cX9_takeUnits 4 = .ok (.iload_n 1, 1) := by decide +kernel
theorem dX9_takeUnits_5 : decode cX9_takeUnits 5 = .ok (.invokevirtual 127, 3) := by decide +kernel
theorem dX9_takeUnits_8 : decode cX9_takeUnits 8 = .ok (.aload_n 0, 1) := by decide +kernel
theorem dX9_takeUnits_9 : decode cX9_takeUnits 9 = .ok (.dup, 1) := by decide +kernel
theorem dX9_takeUnits_10 : decode cX9_takeUnits 10 = .ok (.getfield 82, 3) := by decide +kernel
theorem dX9_takeUnits_13 : decode cX9_takeUnits 13 = .ok (.iload_n 1, 1) := by decide +kernel
theorem dX9_takeUnits_14 : decode cX9_takeUnits 14 = .ok (.iadd, 1) := by decide +kernel
theorem dX9_takeUnits_15 : decode cX9_takeUnits 15 = .ok (.putfield 82, 3) := by decide +kernel
theorem dX9_takeUnits_18 : decode cX9_takeUnits 18 = .ok (.return_, 1) := by decide +kernel
theorem dX9_putUnits_0 : decode cX9_putUnits 0 = .ok (.iconst 0, 1) := by decide +kernel
theorem dX9_putUnits_1 : decode cX9_putUnits 1 = .ok (.istore_n 1, 1) := by decide +kernel
theorem dX9_putUnits_2 : decode cX9_putUnits 2 = .ok (.iload_n 1, 1) := by decide +kernel
theorem dX9_putUnits_3 : decode cX9_putUnits 3 = .ok (.aload_n 0, 1) := by decide +kernel
theorem dX9_putUnits_4 : decode cX9_putUnits 4 = .ok (.getfield 31, 3) := by decide +kernel
theorem dX9_putUnits_7 : decode cX9_putUnits 7 = .ok (.getfield 179, 3) := by decide +kernel
theorem dX9_putUnits_10 : decode cX9_putUnits 10 = .ok (.if_icmp .ge 24, 3) := by decide +kernel
theorem dX9_putUnits_13 : decode cX9_putUnits 13 = .ok (.aload_n 0, 1) := by decide +kernel
theorem dX9_putUnits_14 : decode cX9_putUnits 14 = .ok (.getfield 25, 3) := by decide +kernel
theorem dX9_putUnits_17 : decode cX9_putUnits 17 = .ok (.aload_n 0, 1) := by decide +kernel
theorem dX9_putUnits_18 : decode cX9_putUnits 18 = .ok (.getfield 31, 3) := by decide +kernel
theorem dX9_putUnits_21 : decode cX9_putUnits 21 = .ok (.iload_n 1, 1) := by decide +kernel
theorem dX9_putUnits_22 : decode cX9_putUnits 22 = .ok (.invokevirtual 182, 3) := by decide +kernel
theorem dX9_putUnits_25 : decode cX9_putUnits 25 = .ok (.invokevirtual 106, 3) := by decide +kernel
theorem dX9_putUnits_28 : decode cX9_putUnits 28 = .ok (.iinc 1 1, 3) := by decide +kernel
theorem dX9_putUnits_31 : decode cX9_putUnits 31 = .ok (.goto (-29), 3) := by decide +kernel
theorem dX9_putUnits_34 : decode cX9_putUnits 34 = .ok (.aload_n 0, 1) := by decide +kernel
theorem dX9_putUnits_35 : decode cX9_putUnits 35 = .ok (.dup, 1) := by decide +kernel
theorem dX9_putUnits_36 : decode cX9_putUnits 36 = .ok (.getfield 85, 3) := by decide +kernel
theorem dX9_putUnits_39 : decode cX9_putUnits 39 = .ok (.aload_n 0, 1) := by decide +kernel
theorem dX9_putUnits_40 : decode cX9_putUnits 40 = .ok (.getfield 31, 3) := by decide +kernel
theorem dX9_putUnits_43 : decode cX9_putUnits 43 = .ok (.getfield 179, 3) := by decide +kernel
theorem dX9_putUnits_46 : decode cX9_putUnits 46 = .ok (.iadd, 1) := by decide +kernel
theorem dX9_putUnits_47 : decode cX9_putUnits 47 = .ok (.putfield 85, 3) := by decide +kernel
theorem dX9_putUnits_50 : decode cX9_putUnits 50 = .ok (.return_, 1) := by decide +kernel
theorem dX9_passOver_0 : decode cX9_passOver 0 = .ok (.aload_n 0, 1) := by decide +kernel
theorem dX9_passOver_1 : decode cX9_passOver 1 = .ok (.iload_n 1, 1) := by decide +kernel
theorem dX9_passOver_2 : decode cX9_passOver 2 = .ok (.invokevirtual 162, 3) := by decide +kernel
theorem dX9_passOver_5 : decode cX9_passOver 5 = .ok (.aload_n 0, 1) := by decide +kernel
theorem dX9_passOver_6 : decode cX9_passOver 6 = .ok (.dup, 1) := by decide +kernel
theorem dX9_passOver_7 : decode cX9_passOver 7 = .ok (.getfield 88, 3) := by decide +kernel
theorem dX9_passOver_10 : decode cX9_passOver 10 = .ok (.iconst 1, 1) := by decide +kernel
theorem dX9_passOver_11 : decode cX9_passOver 11 = .ok (.iadd, 1) := by decide +kernel
theorem dX9_passOver_12 : decode cX9_passOver 12 = .ok (.putfield 88, 3) := by decide +kernel
theorem dX9_passOver_15 : decode cX9_passOver 15 = .ok (.aload_n 0, 1) := by decide +kernel
theorem dX9_passOver_16 : decode cX9_passOver 16 = .ok (.getfield 61, 3) := by decide +kernel
theorem dX9_passOver_19 : decode cX9_passOver 19 = .ok (.invokevirtual 185, 3) := by decide +kernel
theorem dX9_passOver_22 : decode cX9_passOver 22 = .ok (.return_, 1) := by decide +kernel
theorem dX10_init_0 : decode cX10_init 0 = .ok (.aload_n 0, 1) := by decide +kernel
theorem dX10_init_1 : decode cX10_init 1 = .ok (.invokespecial 1, 3) := by decide +kernel
theorem dX10_init_4 : decode cX10_init 4 = .ok (.aload_n 0, 1) := by decide +kernel
theorem dX10_init_5 : decode cX10_init 5 = .ok (.sipush 128, 3) := by decide +kernel
theorem dX10_init_8 : decode cX10_init 8 = .ok (.newarray .int, 2) := by decide +kernel
theorem dX10_init_10 : decode cX10_init 10 = .ok (.putfield 7, 3) := by decide +kernel
theorem dX10_init_13 : decode cX10_init 13 = .ok (.aload_n 0, 1) := by decide +kernel
theorem dX10_init_14 : decode cX10_init 14 = .ok (.bipush 16, 2) := by decide +kernel
theorem dX10_init_16 : decode cX10_init 16 = .ok (.putfield 13, 3) := by decide +kernel
theorem dX10_init_19 : decode cX10_init 19 = .ok (.aload_n 0, 1) := by decide +kernel
theorem dX10_init_20 : decode cX10_init 20 = .ok (.bipush 24, 2) := by decide +kernel
theorem dX10_init_22 : decode cX10_init 22 = .ok (.newarray .int, 2) := by decide +kernel
theorem dX10_init_24 : decode cX10_init 24 = .ok (.putfield 17, 3) := by decide +kernel
theorem dX10_init_27 : decode cX10_init 27 = .ok (.aload_n 0, 1) := by decide +kernel
theorem dX10_init_28 : decode cX10_init 28 = .ok (.bipush 16, 2) := by decide +kernel
theorem dX10_init_30 : decode cX10_init 30 = .ok (.newarray .int, 2) := by decide +kernel
theorem dX10_init_32 : decode cX10_init 32 = .ok (.putfield 20, 3) := by decide +kernel
theorem dX10_init_35 : decode cX10_init 35 = .ok (.aload_n 0, 1) := by decide +kernel
theorem dX10_init_36 : decode cX10_init 36 = .ok (.bipush 8, 2) := by decide +kernel
theorem dX10_init_38 : decode cX10_init 38 = .ok (.newarray .int, 2) := by decide +kernel
theorem dX10_init_40 : decode cX10_init 40 = .ok (.putfield 23, 3) := by decide +kernel
theorem dX10_init_43 : decode cX10_init 43 = .ok (.iconst 0, 1) := by decide +kernel
theorem dX10_init_44 : decode cX10_init 44 = .ok (.istore_n 1, 1) := by decide +kernel
theorem dX10_init_45 : decode cX10_init 45 = .ok (.iload_n 1, 1) := by decide +kernel
theorem dX10_init_46 : decode cX10_init 46 = .ok (.sipush 128, 3) := by decide +kernel
theorem dX10_init_49 : decode cX10_init 49 = .ok (.if_icmp .ge 16, 3) := by decide +kernel
theorem dX10_init_52 : decode cX10_init 52 = .ok (.aload_n 0, 1) := by decide +kernel
theorem dX10_init_53 : decode cX10_init 53 = .ok (.getfield 7, 3) := by decide +kernel
theorem dX10_init_56 : decode cX10_init 56 = .ok (.iload_n 1, 1) := by decide +kernel
theorem dX10_init_57 : decode cX10_init 57 = .ok (.iconst (-1), 1) := by decide +kernel
theorem dX10_init_58 : decode cX10_init 58 = .ok (.iastore, 1) := by decide +kernel
theorem dX10_init_59 : decode cX10_init 59 = .ok (.iinc 1 1, 3) := by decide +kernel
theorem dX10_init_62 : decode cX10_init 62 = .ok (.goto (-17), 3) := by decide +kernel
theorem dX10_init_65 : decode cX10_init 65 = .ok (.return_, 1) := by decide +kernel
theorem dX10_open_0 : decode cX10_open 0 = .ok (.iload_n 1, 1) := by decide +kernel
theorem dX10_open_1 : decode cX10_open 1 = .ok (.ifCond .lt 29, 3) := by decide +kernel
theorem dX10_open_4 : decode cX10_open 4 = .ok (.iload_n 1, 1) := by decide +kernel
theorem dX10_open_5 : decode cX10_open 5 = .ok (.bipush 6, 2) := by decide +kernel
theorem dX10_open_7 : decode cX10_open 7 = .ok (.if_icmp .gt 23, 3) := by decide +kernel
theorem dX10_open_10 : decode cX10_open 10 = .ok (.iload_n 3, 1) := by decide +kernel
theorem dX10_open_11 : decode cX10_open 11 = .ok (.ifCond .lt 19, 3) := by decide +kernel
theorem dX10_open_14 : decode cX10_open 14 = .ok (.iload_n 3, 1) := by decide +kernel
theorem dX10_open_15 : decode cX10_open 15 = .ok (.iconst 2, 1) := by decide +kernel
theorem dX10_open_16 : decode cX10_open 16 = .ok (.if_icmp .gt 14, 3) := by decide +kernel
theorem dX10_open_19 : decode cX10_open 19 = .ok (.iload 4, 2) := by decide +kernel
theorem dX10_open_21 : decode cX10_open 21 = .ok (.ifCond .lt 9, 3) := by decide +kernel
theorem dX10_open_24 : decode cX10_open 24 = .ok (.iload 4, 2) := by decide +kernel
theorem dX10_open_26 : decode cX10_open 26 = .ok (.iconst 2, 1) := by decide +kernel
theorem dX10_open_27 : decode cX10_open 27 = .ok (.if_icmp .le 5, 3) := by decide +kernel
theorem dX10_open_30 : decode cX10_open 30 = .ok (.iconst 0, 1) := by decide +kernel
theorem dX10_open_31 : decode cX10_open 31 = .ok (.ireturn, 1) := by decide +kernel
theorem dX10_open_32 : decode cX10_open 32 = .ok (.aload_n 0, 1) := by decide +kernel
theorem dX10_open_33 : decode cX10_open 33 = .ok (.iconst 1, 1) := by decide +kernel
theorem dX10_open_34 : decode cX10_open 34 = .ok (.putfield 26, 3) := by decide +kernel
theorem dX10_open_37 : decode cX10_open 37 = .ok (.aload_n 0, 1) := by decide +kernel
theorem dX10_open_38 : decode cX10_open 38 = .ok (.iload_n 1, 1) := by decide +kernel
theorem dX10_open_39 : decode cX10_open 39 = .ok (.putfield 30, 3) := by decide +kernel
theorem dX10_open_42 : decode cX10_open 42 = .ok (.aload_n 0, 1) := by decide +kernel
theorem dX10_open_43 : decode cX10_open 43 = .ok (.iload_n 2, 1) := by decide +kernel
theorem dX10_open_44 : decode cX10_open 44 = .ok (.putfield 33, 3) := by decide +kernel
theorem dX10_open_47 : decode cX10_open 47 = .ok (.aload_n 0, 1) := by decide +kernel
theorem dX10_open_48 : decode cX10_open 48 = .ok (.iload_n 3, 1) := by decide +kernel
theorem dX10_open_49 : decode cX10_open 49 = .ok (.putfield 36, 3) := by decide +kernel
theorem dX10_open_52 : decode cX10_open 52 = .ok (.aload_n 0, 1) := by decide +kernel
theorem dX10_open_53 : decode cX10_open 53 = .ok (.iload 4, 2) := by decide +kernel
theorem dX10_open_55 : decode cX10_open 55 = .ok (.putfield 39, 3) := by decide +kernel
theorem dX10_open_58 : decode cX10_open 58 = .ok (.aload_n 0, 1) := by decide +kernel
theorem dX10_open_59 : decode cX10_open 59 = .ok (.iconst 0, 1) := by decide +kernel
theorem dX10_open_60 : decode cX10_open 60 = .ok (.putfield 42, 3) := by decide +kernel
theorem dX10_open_63 : decode cX10_open 63 = .ok (.aload_n 0, 1) := by decide +kernel
theorem dX10_open_64 : decode cX10_open 64 = .ok (.iconst 0, 1) := by decide +kernel
theorem dX10_open_65 : decode cX10_open 65 = .ok (.putfield 45, 3) := by decide +kernel
theorem dX10_open_68 : decode cX10_open 68 = .ok (.aload_n 0, 1) := by decide +kernel
theorem dX10_open_69 : decode cX10_open 69 = .ok (.iconst 0, 1) := by decide +kernel
theorem dX10_open_70 : decode cX10_open 70 = .ok (.putfield 48, 3) := by decide +kernel
theorem dX10_open_73 : decode cX10_open 73 = .ok (.aload_n 0, 1) := by decide +kernel
theorem dX10_open_74 : decode cX10_open 74 = .ok (.iconst 0, 1) := by decide +kernel
theorem dX10_open_75 : decode cX10_open 75 = .ok (.putfield 51, 3) := by decide +kernel
theorem dX10_open_78 : decode cX10_open 78 = .ok (.aload_n 0, 1) := by decide +kernel
theorem dX10_open_79 : decode cX10_open 79 = .ok (.iconst 0, 1) := by decide +kernel
theorem dX10_open_80 : decode cX10_open 80 = .ok (.putfield 54, 3) := by decide +kernel
theorem dX10_open_83 : decode cX10_open 83 = .ok (.aload_n 0, 1) := by decide +kernel
theorem dX10_open_84 : decode cX10_open 84 = .ok (.invokevirtual 57, 3) := by decide +kernel
theorem dX10_open_87 : decode cX10_open 87 = .ok (.iconst 1, 1) := by decide +kernel
theorem dX10_open_88 : decode cX10_open 88 = .ok (.ireturn, 1) := by decide +kernel
theorem dX10_renew_0 : decode cX10_renew 0 = .ok (.aload_n 0, 1) := by decide +kernel
theorem dX10_renew_1 : decode cX10_renew 1 = .ok (.iconst 0, 1) := by decide +kernel
theorem dX10_renew_2 : decode cX10_renew 2 = .ok (.putfield 60, 3) := by decide +kernel
theorem dX10_renew_5 : decode cX10_renew 5 = .ok (.aload_n 0, 1) := by decide +kernel
theorem dX10_renew_6 : decode cX10_renew 6 = .ok (.iconst 0, 1) := by decide +kernel
theorem dX10_renew_7 : decode cX10_renew 7 = .ok (.putfield 63, 3) := by decide +kernel
theorem dX10_renew_10 : decode cX10_renew 10 = .ok (.aload_n 0, 1) := by decide +kernel
theorem dX10_renew_11 : decode cX10_renew 11 = .ok (.iconst 0, 1) := by decide +kernel
theorem dX10_renew_12 : decode cX10_renew 12 = .ok (.putfield 66, 3) := by decide +kernel
theorem dX10_renew_15 : decode cX10_renew 15 = .ok (.aload_n 0, 1) := by decide +kernel
theorem dX10_renew_16 : decode cX10_renew 16 = .ok (.iconst 0, 1) := by decide +kernel
theorem dX10_renew_17 : decode cX10_renew 17 = .ok (.putfield 69, 3) := by decide +kernel
theorem dX10_renew_20 : decode cX10_renew 20 = .ok (.aload_n 0, 1) := by decide +kernel
theorem dX10_renew_21 : decode cX10_renew 21 = .ok (.iconst 0, 1) := by decide +kernel
theorem dX10_renew_22 : decode cX10_renew 22 = .ok (.putfield 72, 3) := by decide +kernel
theorem dX10_renew_25 : decode cX10_renew 25 = .ok (.aload_n 0, 1) := by decide +kernel
theorem dX10_renew_26 : decode cX10_renew 26 = .ok (.iconst 0, 1) := by decide +kernel
theorem dX10_renew_27 : decode cX10_renew 27 = .ok (.putfield 75, 3) := by decide +kernel
theorem dX10_renew_30 : decode cX10_renew 30 = .ok (.aload_n 0, 1) := by decide +kernel
theorem dX10_renew_31 : decode cX10_renew 31 = .ok (.iconst 0, 1) := by decide +kernel
theorem dX10_renew_32 : decode cX10_renew 32 = .ok (.putfield 78, 3) := by decide +kernel
theorem dX10_renew_35 : decode cX10_renew 35 = .ok (.aload_n 0, 1) := by decide +kernel
theorem dX10_renew_36 : decode cX10_renew 36 = .ok (.iconst 0, 1) := by decide +kernel
theorem dX10_renew_37 : decode cX10_renew 37 = .ok (.putfield 81, 3) := by decide +kernel
theorem dX10_renew_40 : decode cX10_renew 40 = .ok (.aload_n 0, 1) := by decide +kernel
theorem dX10_renew_41 : decode cX10_renew 41 = .ok (.iconst 0, 1) := by decide +kernel
theorem dX10_renew_42 : decode cX10_renew 42 = .ok (.putfield 84, 3) := by decide +kernel
theorem dX10_renew_45 : decode cX10_renew 45 = .ok (.return_, 1) := by decide +kernel
theorem dX10_map_0 : decode cX10_map 0 = .ok (.iload_n 1, 1) := by decide +kernel
theorem dX10_map_1 : decode cX10_map 1 = .ok (.sipush 128, 3) := by decide +kernel
theorem dX10_map_4 : decode cX10_map 4 = .ok (.if_icmp .lt 21, 3) := by decide +kernel
theorem dX10_map_7 : decode cX10_map 7 = .ok (.iload_n 1, 1) := by decide +kernel
theorem dX10_map_8 : decode cX10_map 8 = .ok (.sipush 255, 3) := by decide +kernel
theorem dX10_map_11 : decode cX10_map 11 = .ok (.if_icmp .gt 14, 3) := by decide +kernel
theorem dX10_map_14 : decode cX10_map 14 = .ok (.iload_n 2, 1) := by decide +kernel
theorem dX10_map_15 : decode cX10_map 15 = .ok (.iconst (-1), 1) := by decide +kernel
theorem dX10_map_16 : decode cX10_map 16 = .ok (.if_icmp .lt 9, 3) := by decide +kernel
theorem dX10_map_19 : decode cX10_map 19 = .ok (.iload_n 2, 1) := by decide +kernel
theorem dX10_map_20 : decode cX10_map 20 = .ok (.ldc 87, 2) := by decide +kernel
theorem dX10_map_22 : decode cX10_map 22 = .ok (.if_icmp .le 5, 3) := by decide +kernel
theorem dX10_map_25 : decode cX10_map 25 = .ok (.iconst 0, 1) := by decide +kernel
theorem dX10_map_26 : decode cX10_map 26 = .ok (.ireturn, 1) := by decide +kernel
theorem dX10_map_27 : decode cX10_map 27 = .ok (.aload_n 0, 1) := by decide +kernel
theorem dX10_map_28 : decode cX10_map 28 = .ok (.getfield 7, 3) := by decide +kernel
theorem dX10_map_31 : decode cX10_map 31 = .ok (.iload_n 1, 1) := by decide +kernel
theorem dX10_map_32 : decode cX10_map 32 = .ok (.sipush 128, 3) := by decide +kernel
theorem dX10_map_35 : decode cX10_map 35 = .ok (.isub, 1) := by decide +kernel
theorem dX10_map_36 : decode cX10_map 36 = .ok (.iload_n 2, 1) := by decide +kernel
theorem dX10_map_37 : decode cX10_map 37 = .ok (.iastore, 1) := by decide +kernel
theorem dX10_map_38 : decode cX10_map 38 = .ok (.aload_n 0, 1) := by decide +kernel
theorem dX10_map_39 : decode cX10_map 39 = .ok (.iconst 0, 1) := by decide +kernel
theorem dX10_map_40 : decode cX10_map 40 = .ok (.putfield 84, 3) := by decide +kernel
theorem dX10_map_43 : decode cX10_map 43 = .ok (.iconst 1, 1) := by decide +kernel
theorem dX10_map_44 : decode cX10_map 44 = .ok (.ireturn, 1) := by decide +kernel
theorem dX10_give_0 : decode cX10_give 0 = .ok (.aload_n 0, 1) := by decide +kernel
theorem dX10_give_1 : decode cX10_give 1 = .ok (.getfield 26, 3) := by decide +kernel
theorem dX10_give_4 : decode cX10_give 4 = .ok (.ifCond .eq 35, 3) := by decide +kernel
theorem dX10_give_7 : decode cX10_give 7 = .ok (.aload_n 0, 1) := by decide +kernel
theorem dX10_give_8 : decode cX10_give 8 = .ok (.getfield 42, 3) := by decide +kernel
theorem dX10_give_11 : decode cX10_give 11 = .ok (.bipush 24, 2) := by decide +kernel
theorem dX10_give_13 : decode cX10_give 13 = .ok (.if_icmp .eq 26, 3) := by decide +kernel
theorem dX10_give_16 : decode cX10_give 16 = .ok (.iload_n 1, 1) := by decide +kernel
theorem dX10_give_17 : decode cX10_give 17 = .ok (.ifCond .lt 22, 3) := by decide +kernel
theorem dX10_give_20 : decode cX10_give 20 = .ok (.iload_n 1, 1) := by decide +kernel
theorem dX10_give_21 : decode cX10_give 21 = .ok (.aload_n 0, 1) := by decide +kernel
theorem dX10_give_22 : decode cX10_give 22 = .ok (.getfield 33, 3) := by decide +kernel
theorem dX10_give_25 : decode cX10_give 25 = .ok (.ifCond .eq 8, 3) := by decide +kernel
theorem dX10_give_28 : decode cX10_give 28 = .ok (.ldc 87, 2) := by decide +kernel
theorem dX10_give_30 : decode cX10_give 30 = .ok (.goto 6, 3) := by decide +kernel
theorem dX10_give_33 : decode cX10_give 33 = .ok (.sipush 255, 3) := by decide +kernel
theorem dX10_give_36 : decode cX10_give 36 = .ok (.if_icmp .le 5, 3) := by decide +kernel
theorem dX10_give_39 : decode cX10_give 39 = .ok (.iconst 0, 1) := by decide +kernel
theorem dX10_give_40 : decode cX10_give 40 = .ok (.ireturn, 1) := by decide +kernel
theorem dX10_give_41 : decode cX10_give 41 = .ok (.aload_n 0, 1) := by decide +kernel
theorem dX10_give_42 : decode cX10_give 42 = .ok (.getfield 17, 3) := by decide +kernel
theorem dX10_give_45 : decode cX10_give 45 = .ok (.aload_n 0, 1) := by decide +kernel
theorem dX10_give_46 : decode cX10_give 46 = .ok (.getfield 42, 3) := by decide +kernel
theorem dX10_give_49 : decode cX10_give 49 = .ok (.iload_n 1, 1) := by decide +kernel
theorem dX10_give_50 : decode cX10_give 50 = .ok (.iastore, 1) := by decide +kernel
theorem dX10_give_51 : decode cX10_give 51 = .ok (.aload_n 0, 1) := by decide +kernel
theorem dX10_give_52 : decode cX10_give 52 = .ok (.dup, 1) := by decide +kernel
theorem dX10_give_53 : decode cX10_give 53 = .ok (.getfield 42, 3) := by decide +kernel
theorem dX10_give_56 : decode cX10_give 56 = .ok (.iconst 1, 1) := by decide +kernel
theorem dX10_give_57 : decode cX10_give 57 = .ok (.iadd, 1) := by decide +kernel
theorem dX10_give_58 : decode cX10_give 58 = .ok (.putfield 42, 3) := by decide +kernel
theorem dX10_give_61 : decode cX10_give 61 = .ok (.aload_n 0, 1) := by decide +kernel
theorem dX10_give_62 : decode cX10_give 62 = .ok (.iconst 0, 1) := by decide +kernel
theorem dX10_give_63 : decode cX10_give 63 = .ok (.putfield 84, 3) := by decide +kernel
theorem dX10_give_66 : decode cX10_give 66 = .ok (.iconst 1, 1) := by decide +kernel
theorem dX10_give_67 : decode cX10_give 67 = .ok (.ireturn, 1) := by decide +kernel
theorem dX10_room_0 : decode cX10_room 0 = .ok (.iload_n 1, 1) := by decide +kernel
theorem dX10_room_1 : decode cX10_room 1 = .ok (.ifCond .lt 9, 3) := by decide +kernel
theorem dX10_room_4 : decode cX10_room 4 = .ok (.iload_n 1, 1) := by decide +kernel
theorem dX10_room_5 : decode cX10_room 5 = .ok (.bipush 16, 2) := by decide +kernel
theorem dX10_room_7 : decode cX10_room 7 = .ok (.if_icmp .le 5, 3) := by decide +kernel
theorem dX10_room_10 : decode cX10_room 10 = .ok (.iconst 0, 1) := by decide +kernel
theorem dX10_room_11 : decode cX10_room 11 = .ok (.ireturn, 1) := by decide +kernel
theorem dX10_room_12 : decode cX10_room 12 = .ok (.aload_n 0, 1) := by decide +kernel
theorem dX10_room_13 : decode cX10_room 13 = .ok (.iload_n 1, 1) := by decide +kernel
theorem dX10_room_14 : decode cX10_room 14 = .ok (.putfield 13, 3) := by decide +kernel
theorem dX10_room_17 : decode cX10_room 17 = .ok (.iconst 1, 1) := by decide +kernel
theorem dX10_room_18 : decode cX10_room 18 = .ok (.ireturn, 1) := by decide +kernel
theorem dX10_reset_0 : decode cX10_reset 0 = .ok (.aload_n 0, 1) := by decide +kernel
theorem dX10_reset_1 : decode cX10_reset 1 = .ok (.getfield 26, 3) := by decide +kernel
theorem dX10_reset_4 : decode cX10_reset 4 = .ok (.ifCond .ne 5, 3) := by decide +kernel
theorem dX10_reset_7 : decode cX10_reset 7 = .ok (.iconst 0, 1) := by decide +kernel
theorem dX10_reset_8 : decode cX10_reset 8 = .ok (.ireturn, 1) := by decide +kernel
theorem dX10_reset_9 : decode cX10_reset 9 = .ok (.aload_n 0, 1) := by decide +kernel
theorem dX10_reset_10 : decode cX10_reset 10 = .ok (.invokevirtual 57, 3) := by decide +kernel
theorem dX10_reset_13 : decode cX10_reset 13 = .ok (.iconst 1, 1) := by decide +kernel
theorem dX10_reset_14 : decode cX10_reset 14 = .ok (.ireturn, 1) := by decide +kernel
theorem dX10_fetch_0 : decode cX10_fetch 0 = .ok (.aload_n 0, 1) := by decide +kernel
theorem dX10_fetch_1 : decode cX10_fetch 1 = .ok (.getfield 45, 3) := by decide +kernel
theorem dX10_fetch_4 : decode cX10_fetch 4 = .ok (.ifCond .ne 5, 3) := by decide +kernel
theorem dX10_fetch_7 : decode cX10_fetch 7 = .ok (.iconst (-1), 1) := by decide +kernel
theorem dX10_fetch_8 : decode cX10_fetch 8 = .ok (.ireturn, 1) := by decide +kernel
theorem dX10_fetch_9 : decode cX10_fetch 9 = .ok (.aload_n 0, 1) := by decide +kernel
theorem dX10_fetch_10 : decode cX10_fetch 10 = .ok (.getfield 20, 3) := by decide +kernel
theorem dX10_fetch_13 : decode cX10_fetch 13 = .ok (.iconst 0, 1) := by decide +kernel
theorem dX10_fetch_14 : decode cX10_fetch 14 = .ok (.iaload, 1) := by decide +kernel
theorem dX10_fetch_15 : decode cX10_fetch 15 = .ok (.istore_n 1, 1) := by decide +kernel
theorem dX10_fetch_16 : decode cX10_fetch 16 = .ok (.aload_n 0, 1) := by decide +kernel
theorem dX10_fetch_17 : decode cX10_fetch 17 = .ok (.dup, 1) := by decide +kernel
theorem dX10_fetch_18 : decode cX10_fetch 18 = .ok (.getfield 45, 3) := by decide +kernel
theorem dX10_fetch_21 : decode cX10_fetch 21 = .ok (.iconst 1, 1) := by decide +kernel
theorem dX10_fetch_22 : decode cX10_fetch 22 = .ok (.isub, 1) := by decide +kernel
theorem dX10_fetch_23 : decode cX10_fetch 23 = .ok (.putfield 45, 3) := by decide +kernel
theorem dX10_fetch_26 : decode cX10_fetch 26 = .ok (.iconst 0, 1) := by decide +kernel
theorem dX10_fetch_27 : decode cX10_fetch 27 = .ok (.istore_n 2, 1) := by decide +kernel
theorem dX10_fetch_28 : decode cX10_fetch 28 = .ok (.iload_n 2, 1) := by decide +kernel
theorem dX10_fetch_29 : decode cX10_fetch 29 = .ok (.aload_n 0, 1) := by decide +kernel
theorem dX10_fetch_30 : decode cX10_fetch 30 = .ok (.getfield 45, 3) := by decide +kernel
theorem dX10_fetch_33 : decode cX10_fetch 33 = .ok (.if_icmp .ge 23, 3) := by decide +kernel
theorem dX10_fetch_36 : decode cX10_fetch 36 = .ok (.aload_n 0, 1) := by decide +kernel
theorem dX10_fetch_37 : decode cX10_fetch 37 = .ok (.getfield 20, 3) := by decide +kernel
theorem dX10_fetch_40 : decode cX10_fetch 40 = .ok (.iload_n 2, 1) := by decide +kernel
theorem dX10_fetch_41 : decode cX10_fetch 41 = .ok (.aload_n 0, 1) := by decide +kernel
theorem dX10_fetch_42 : decode cX10_fetch 42 = .ok (.getfield 20, 3) := by decide +kernel
theorem dX10_fetch_45 : decode cX10_fetch 45 = .ok (.iload_n 2, 1) := by decide +kernel
theorem dX10_fetch_46 : decode cX10_fetch 46 = .ok (.iconst 1, 1) := by decide +kernel
theorem dX10_fetch_47 : decode cX10_fetch 47 = .ok (.iadd, 1) := by decide +kernel
theorem dX10_fetch_48 : decode cX10_fetch 48 = .ok (.iaload, 1) := by decide +kernel
theorem dX10_fetch_49 : decode cX10_fetch 49 = .ok (.iastore, 1) := by decide +kernel
theorem dX10_fetch_50 : decode cX10_fetch 50 = .ok (.iinc 2 1, 3) := by decide +kernel
theorem dX10_fetch_53 : decode cX10_fetch 53 = .ok (.goto (-25), 3) := by decide +kernel
theorem dX10_fetch_56 : decode cX10_fetch 56 = .ok (.iload_n 1, 1) := by decide +kernel
theorem dX10_fetch_57 : decode cX10_fetch 57 = .ok (.ireturn, 1) := by decide +kernel
theorem dX10_state_0 : decode cX10_state 0 = .ok (.aload_n 0, 1) := by decide +kernel
theorem dX10_state_1 : decode cX10_state 1 = .ok (.getfield 26, 3) := by decide +kernel
theorem dX10_state_4 : decode cX10_state 4 = .ok (.ifCond .eq 10, 3) := by decide +kernel
theorem dX10_state_7 : decode cX10_state 7 = .ok (.aload_n 0, 1) := by decide +kernel
theorem dX10_state_8 : decode cX10_state 8 = .ok (.getfield 60, 3) := by decide +kernel
theorem dX10_state_11 : decode cX10_state 11 = .ok (.goto 4, 3) := by decide +kernel
theorem dX10_state_14 : decode cX10_state 14 = .ok (.iconst (-1), 1) := by decide +kernel
theorem dX10_state_15 : decode cX10_state 15 = .ok (.ireturn, 1) := by decide +kernel
theorem dX10_waiting_0 : decode cX10_waiting 0 = .ok (.aload_n 0, 1) := by decide +kernel
theorem dX10_waiting_1 : decode cX10_waiting 1 = .ok (.getfield 42, 3) := by decide +kernel
theorem dX10_waiting_4 : decode cX10_waiting 4 = .ok (.ireturn, 1) := by decide +kernel
theorem dX10_ready_0 : decode cX10_ready 0 = .ok (.aload_n 0, 1) := by decide +kernel
theorem dX10_ready_1 : decode cX10_ready 1 = .ok (.getfield 45, 3) := by decide +kernel
theorem dX10_ready_4 : decode cX10_ready 4 = .ok (.ireturn, 1) := by decide +kernel
theorem dX10_taken_0 : decode cX10_taken 0 = .ok (.aload_n 0, 1) := by decide +kernel
theorem dX10_taken_1 : decode cX10_taken 1 = .ok (.getfield 48, 3) := by decide +kernel
theorem dX10_taken_4 : decode cX10_taken 4 = .ok (.ireturn, 1) := by decide +kernel
theorem dX10_put_0 : decode cX10_put 0 = .ok (.aload_n 0, 1) := by decide +kernel
theorem dX10_put_1 : decode cX10_put 1 = .ok (.getfield 51, 3) := by decide +kernel
theorem dX10_put_4 : decode cX10_put 4 = .ok (.ireturn, 1) := by decide +kernel
theorem dX10_faults_0 : decode cX10_faults 0 = .ok (.aload_n 0, 1) := by decide +kernel
theorem dX10_faults_1 : decode cX10_faults 1 = .ok (.getfield 54, 3) := by decide +kernel
theorem dX10_faults_4 : decode cX10_faults 4 = .ok (.ireturn, 1) := by decide +kernel
theorem dX10_high_0 : decode cX10_high 0 = .ok (.iload_n 0, 1) := by decide +kernel
theorem dX10_high_1 : decode cX10_high 1 = .ok (.ldc 88, 2) := by decide +kernel
theorem dX10_high_3 : decode cX10_high 3 = .ok (.if_icmp .lt 13, 3) := by decide +kernel
theorem dX10_high_6 : decode cX10_high 6 = .ok (.iload_n 0, 1) := by decide +kernel
theorem dX10_high_7 : decode cX10_high 7 = .ok (.ldc 89, 2) := by decide +kernel
theorem dX10_high_9 : decode cX10_high 9 = .ok (.if_icmp .gt 7, 3) := by decide +kernel
theorem dX10_high_12 : decode cX10_high 12 = .ok (.iconst 1, 1) := by decide +kernel
theorem dX10_high_13 : decode cX10_high 13 = .ok (.goto 4, 3) := by decide +kernel
theorem dX10_high_16 : decode cX10_high 16 = .ok (.iconst 0, 1) := by decide +kernel
theorem dX10_high_17 : decode cX10_high 17 = .ok (.ireturn, 1) := by decide +kernel
theorem dX10_low_0 : decode cX10_low 0 = .ok (.iload_n 0, 1) := by decide +kernel
theorem dX10_low_1 : decode cX10_low 1 = .ok (.ldc 90, 2) := by decide +kernel
theorem dX10_low_3 : decode cX10_low 3 = .ok (.if_icmp .lt 13, 3) := by decide +kernel
theorem dX10_low_6 : decode cX10_low 6 = .ok (.iload_n 0, 1) := by decide +kernel
theorem dX10_low_7 : decode cX10_low 7 = .ok (.ldc 91, 2) := by decide +kernel
theorem dX10_low_9 : decode cX10_low 9 = .ok (.if_icmp .gt 7, 3) := by decide +kernel
theorem dX10_low_12 : decode cX10_low 12 = .ok (.iconst 1, 1) := by decide +kernel
theorem dX10_low_13 : decode cX10_low 13 = .ok (.goto 4, 3) := by decide +kernel
theorem dX10_low_16 : decode cX10_low 16 = .ok (.iconst 0, 1) := by decide +kernel
theorem dX10_low_17 : decode cX10_low 17 = .ok (.ireturn, 1) := by decide +kernel
theorem dX10_result_0 : decode cX10_result 0 = .ok (.aload_n 0, 1) := by decide +kernel
theorem dX10_result_1 : decode cX10_result 1 = .ok (.getfield 23, 3) := by decide +kernel
theorem dX10_result_4 : decode cX10_result 4 = .ok (.aload_n 0, 1) := by decide +kernel
theorem dX10_result_5 : decode cX10_result 5 = .ok (.getfield 92, 3) := by decide +kernel
theorem dX10_result_8 : decode cX10_result 8 = .ok (.iload_n 1, 1) := by decide +kernel
theorem dX10_result_9 : decode cX10_result 9 = .ok (.iastore, 1) := by decide +kernel
theorem dX10_result_10 : decode cX10_result 10 = .ok (.aload_n 0, 1) := by decide +kernel
theorem dX10_result_11 : decode cX10_result 11 = .ok (.dup, 1) := by decide +kernel
theorem dX10_result_12 : decode cX10_result 12 = .ok (.getfield 92, 3) := by decide +kernel
theorem dX10_result_15 : decode cX10_result 15 = .ok (.iconst 1, 1) := by decide +kernel
theorem dX10_result_16 : decode cX10_result 16 = .ok (.iadd, 1) := by decide +kernel
theorem dX10_result_17 : decode cX10_result 17 = .ok (.putfield 92, 3) := by decide +kernel
theorem dX10_result_20 : decode cX10_result 20 = .ok (.return_, 1) := by decide +kernel
theorem dX10_fault_0 : decode cX10_fault 0 = .ok (.aload_n 0, 1) := by decide +kernel
theorem dX10_fault_1 : decode cX10_fault 1 = .ok (.iload_n 2, 1) := by decide +kernel
theorem dX10_fault_2 : decode cX10_fault 2 = .ok (.putfield 95, 3) := by decide +kernel
theorem dX10_fault_5 : decode cX10_fault 5 = .ok (.iload_n 1, 1) := by decide +kernel
theorem dX10_fault_6 : decode cX10_fault 6 = .ok (.ireturn, 1) := by decide +kernel
theorem dX10_step_0 : decode cX10_step 0 = .ok (.aload_n 0, 1) := by decide +kernel
theorem dX10_step_1 : decode cX10_step 1 = .ok (.iload_n 1, 1) := by decide +kernel
theorem dX10_step_2 : decode cX10_step 2 = .ok (.putfield 95, 3) := by decide +kernel
theorem dX10_step_5 : decode cX10_step 5 = .ok (.iconst 0, 1) := by decide +kernel
theorem dX10_step_6 : decode cX10_step 6 = .ok (.ireturn, 1) := by decide +kernel
theorem dX10_look_0 : decode cX10_look 0 = .ok (.aload_n 0, 1) := by decide +kernel
theorem dX10_look_1 : decode cX10_look 1 = .ok (.iconst 0, 1) := by decide +kernel
theorem dX10_look_2 : decode cX10_look 2 = .ok (.putfield 92, 3) := by decide +kernel
theorem dX10_look_5 : decode cX10_look 5 = .ok (.aload_n 0, 1) := by decide +kernel
theorem dX10_look_6 : decode cX10_look 6 = .ok (.iconst 0, 1) := by decide +kernel
theorem dX10_look_7 : decode cX10_look 7 = .ok (.putfield 95, 3) := by decide +kernel
theorem dX10_look_10 : decode cX10_look 10 = .ok (.aload_n 0, 1) := by decide +kernel
theorem dX10_look_11 : decode cX10_look 11 = .ok (.aload_n 0, 1) := by decide +kernel
theorem dX10_look_12 : decode cX10_look 12 = .ok (.getfield 72, 3) := by decide +kernel
theorem dX10_look_15 : decode cX10_look 15 = .ok (.putfield 98, 3) := by decide +kernel
theorem dX10_look_18 : decode cX10_look 18 = .ok (.aload_n 0, 1) := by decide +kernel
theorem dX10_look_19 : decode cX10_look 19 = .ok (.aload_n 0, 1) := by decide +kernel
theorem dX10_look_20 : decode cX10_look 20 = .ok (.getfield 75, 3) := by decide +kernel
theorem dX10_look_23 : decode cX10_look 23 = .ok (.putfield 101, 3) := by decide +kernel
theorem dX10_look_26 : decode cX10_look 26 = .ok (.aload_n 0, 1) := by decide +kernel
theorem dX10_look_27 : decode cX10_look 27 = .ok (.aload_n 0, 1) := by decide +kernel
theorem dX10_look_28 : decode cX10_look 28 = .ok (.getfield 78, 3) := by decide +kernel
theorem dX10_look_31 : decode cX10_look 31 = .ok (.putfield 104, 3) := by decide +kernel
theorem dX10_look_34 : decode cX10_look 34 = .ok (.aload_n 0, 1) := by decide +kernel
theorem dX10_look_35 : decode cX10_look 35 = .ok (.aload_n 0, 1) := by decide +kernel
theorem dX10_look_36 : decode cX10_look 36 = .ok (.getfield 81, 3) := by decide +kernel
theorem dX10_look_39 : decode cX10_look 39 = .ok (.putfield 107, 3) := by decide +kernel
theorem dX10_look_42 : decode cX10_look 42 = .ok (.aload_n 0, 1) := by decide +kernel
theorem dX10_look_43 : decode cX10_look 43 = .ok (.aload_n 0, 1) := by decide +kernel
theorem dX10_look_44 : decode cX10_look 44 = .ok (.getfield 69, 3) := by decide +kernel
theorem dX10_look_47 : decode cX10_look 47 = .ok (.putfield 110, 3) := by decide +kernel
theorem dX10_look_50 : decode cX10_look 50 = .ok (.aload_n 0, 1) := by decide +kernel
theorem dX10_look_51 : decode cX10_look 51 = .ok (.getfield 42, 3) := by decide +kernel
theorem dX10_look_54 : decode cX10_look 54 = .ok (.ifCond .ne 5, 3) := by decide +kernel
theorem dX10_look_57 : decode cX10_look 57 = .ok (.iconst 1, 1) := by decide +kernel
theorem dX10_look_58 : decode cX10_look 58 = .ok (.ireturn, 1) := by decide +kernel
theorem dX10_look_59 : decode cX10_look 59 = .ok (.aload_n 0, 1) := by decide +kernel
theorem dX10_look_60 : decode cX10_look 60 = .ok (.getfield 30, 3) := by decide +kernel
theorem dX10_look_63 : decode cX10_look 63 = .ok (.iconst 2, 1) := by decide +kernel
theorem dX10_look_64 : decode cX10_look 64 = .ok (.if_icmp .ge 22, 3) := by decide +kernel
theorem dX10_look_67 : decode cX10_look 67 = .ok (.aload_n 0, 1) := by decide +kernel
theorem dX10_look_68 : decode cX10_look 68 = .ok (.getfield 33, 3) := by decide +kernel
theorem dX10_look_71 : decode cX10_look 71 = .ok (.ifCond .eq 10, 3) := by decide +kernel
theorem dX10_look_74 : decode cX10_look 74 = .ok (.aload_n 0, 1) := by decide +kernel
theorem dX10_look_75 : decode cX10_look 75 = .ok (.invokevirtual 113, 3) := by decide +kernel
theorem dX10_look_78 : decode cX10_look 78 = .ok (.goto 7, 3) := by decide +kernel
theorem dX10_look_81 : decode cX10_look 81 = .ok (.aload_n 0, 1) := by decide +kernel
theorem dX10_look_82 : decode cX10_look 82 = .ok (.invokevirtual 117, 3) := by decide +kernel
theorem dX10_look_85 : decode cX10_look 85 = .ok (.ireturn, 1) := by decide +kernel
theorem dX10_look_86 : decode cX10_look 86 = .ok (.aload_n 0, 1) := by decide +kernel
theorem dX10_look_87 : decode cX10_look 87 = .ok (.getfield 30, 3) := by decide +kernel
theorem dX10_look_90 : decode cX10_look 90 = .ok (.iconst 5, 1) := by decide +kernel
theorem dX10_look_91 : decode cX10_look 91 = .ok (.if_icmp .ge 22, 3) := by decide +kernel
theorem dX10_look_94 : decode cX10_look 94 = .ok (.aload_n 0, 1) := by decide +kernel
theorem dX10_look_95 : decode cX10_look 95 = .ok (.getfield 33, 3) := by decide +kernel
theorem dX10_look_98 : decode cX10_look 98 = .ok (.ifCond .eq 10, 3) := by decide +kernel
theorem dX10_look_101 : decode cX10_look 101 = .ok (.aload_n 0, 1) := by decide +kernel
theorem dX10_look_102 : decode cX10_look 102 = .ok (.invokevirtual 120, 3) := by decide +kernel
theorem dX10_look_105 : decode cX10_look 105 = .ok (.goto 7, 3) := by decide +kernel
theorem dX10_look_108 : decode cX10_look 108 = .ok (.aload_n 0, 1) := by decide +kernel
theorem dX10_look_109 : decode cX10_look 109 = .ok (.invokevirtual 123, 3) := by decide +kernel
theorem dX10_look_112 : decode cX10_look 112 = .ok (.ireturn, 1) := by decide +kernel
theorem dX10_look_113 : decode cX10_look 113 = .ok (.aload_n 0, 1) := by decide +kernel
theorem dX10_look_114 : decode cX10_look 114 = .ok (.getfield 30, 3) := by decide +kernel
theorem dX10_look_117 : decode cX10_look 117 = .ok (.iconst 5, 1) := by decide +kernel
theorem dX10_look_118 : decode cX10_look 118 = .ok (.if_icmp .ne 22, 3) := by decide +kernel
theorem dX10_look_121 : decode cX10_look 121 = .ok (.aload_n 0, 1) := by decide +kernel
theorem dX10_look_122 : decode cX10_look 122 = .ok (.getfield 33, 3) := by decide +kernel
theorem dX10_look_125 : decode cX10_look 125 = .ok (.ifCond .eq 10, 3) := by decide +kernel
theorem dX10_look_128 : decode cX10_look 128 = .ok (.aload_n 0, 1) := by decide +kernel
theorem dX10_look_129 : decode cX10_look 129 = .ok (.invokevirtual 126, 3) := by decide +kernel
theorem dX10_look_132 : decode cX10_look 132 = .ok (.goto 7, 3) := by decide +kernel
theorem dX10_look_135 : decode cX10_look 135 = .ok (.aload_n 0, 1) := by decide +kernel
theorem dX10_look_136 : decode cX10_look 136 = .ok (.invokevirtual 129, 3) := by decide +kernel
theorem dX10_look_139 : decode cX10_look 139 = .ok (.ireturn, 1) := by decide +kernel
theorem dX10_look_140 : decode cX10_look 140 = .ok (.aload_n 0, 1) := by decide +kernel
theorem dX10_look_141 : decode cX10_look 141 = .ok (.getfield 33, 3) := by decide +kernel
theorem dX10_look_144 : decode cX10_look 144 = .ok (.ifCond .eq 10, 3) := by decide +kernel
theorem dX10_look_147 : decode cX10_look 147 = .ok (.aload_n 0, 1) := by decide +kernel
theorem dX10_look_148 : decode cX10_look 148 = .ok (.invokevirtual 132, 3) := by decide +kernel
theorem dX10_look_151 : decode cX10_look 151 = .ok (.goto 7, 3) := by decide +kernel
theorem dX10_look_154 : decode cX10_look 154 = .ok (.aload_n 0, 1) := by decide +kernel
theorem dX10_look_155 : decode cX10_look 155 = .ok (.invokevirtual 135, 3) := by decide +kernel
theorem dX10_look_158 : decode cX10_look 158 = .ok (.ireturn, 1) := by decide +kernel
theorem dX10_putEight_0 : decode cX10_putEight 0 = .ok (.iload_n 1, 1) := by decide +kernel
theorem dX10_putEight_1 : decode cX10_putEight 1 = .ok (.sipush 128, 3) := by decide +kernel
theorem dX10_putEight_4 : decode cX10_putEight 4 = .ok (.if_icmp .ge 18, 3) := by decide +kernel
theorem dX10_putEight_7 : decode cX10_putEight 7 = .ok (.aload_n 0, 1) := by decide +kernel
theorem dX10_putEight_8 : decode cX10_putEight 8 = .ok (.getfield 30, 3) := by decide +kernel
theorem dX10_putEight_11 : decode cX10_putEight 11 = .ok (.ifCond .eq 7, 3) := by decide +kernel
theorem dX10_putEight_14 : decode cX10_putEight 14 = .ok (.iload_n 1, 1) := by decide +kernel
theorem dX10_putEight_15 : decode cX10_putEight 15 = .ok (.ifCond .le 7, 3) := by decide +kernel
theorem dX10_putEight_18 : decode cX10_putEight 18 = .ok (.iconst 1, 1) := by decide +kernel
theorem dX10_putEight_19 : decode cX10_putEight 19 = .ok (.goto 25, 3) := by decide +kernel
theorem dX10_putEight_22 : decode cX10_putEight 22 = .ok (.iload_n 1, 1) := by decide +kernel
theorem dX10_putEight_23 : decode cX10_putEight 23 = .ok (.sipush 2048, 3) := by decide +kernel
theorem dX10_putEight_26 : decode cX10_putEight 26 = .ok (.if_icmp .ge 7, 3) := by decide +kernel
theorem dX10_putEight_29 : decode cX10_putEight 29 = .ok (.iconst 2, 1) := by decide +kernel
theorem dX10_putEight_30 : decode cX10_putEight 30 = .ok (.goto 14, 3) := by decide +kernel
theorem dX10_putEight_33 : decode cX10_putEight 33 = .ok (.iload_n 1, 1) := by decide +kernel
theorem dX10_putEight_34 : decode cX10_putEight 34 = .ok (.ldc 138, 2) := by decide +kernel
theorem dX10_putEight_36 : decode cX10_putEight 36 = .ok (.if_icmp .ge 7, 3) := by decide +kernel
theorem dX10_putEight_39 : decode cX10_putEight 39 = .ok (.iconst 3, 1) := by decide +kernel
theorem dX10_putEight_40 : decode cX10_putEight 40 = .ok (.goto 4, 3) := by decide +kernel
theorem dX10_putEight_43 : decode cX10_putEight 43 = .ok (.iconst 4, 1) := by decide +kernel
theorem dX10_putEight_44 : decode cX10_putEight 44 = .ok (.istore_n 2, 1) := by decide +kernel
theorem dX10_putEight_45 : decode cX10_putEight 45 = .ok (.iload_n 2, 1) := by decide +kernel
theorem dX10_putEight_46 : decode cX10_putEight 46 = .ok (.iconst 1, 1) := by decide +kernel
theorem dX10_putEight_47 : decode cX10_putEight 47 = .ok (.if_icmp .ne 9, 3) := by decide +kernel
theorem dX10_putEight_50 : decode cX10_putEight 50 = .ok (.aload_n 0, 1) := by decide +kernel
theorem dX10_putEight_51 : decode cX10_putEight 51 = .ok (.iload_n 1, 1) := by decide +kernel
theorem dX10_putEight_52 : decode cX10_putEight 52 = .ok (.invokevirtual 139, 3) := by decide +kernel
theorem dX10_putEight_55 : decode cX10_putEight 55 = .ok (.return_, 1) := by decide +kernel
theorem dX10_putEight_56 : decode cX10_putEight 56 = .ok (.aload_n 0, 1) := by decide +kernel
theorem dX10_putEight_57 : decode cX10_putEight 57 = .ok (.iload_n 2, 1) := by decide +kernel
theorem dX10_putEight_58 : decode cX10_putEight 58 = .ok (.iconst 2, 1) := by decide +kernel
theorem dX10_putEight_59 : decode cX10_putEight 59 = .ok (.if_icmp .ne 9, 3) := by decide +kernel
theorem dX10_putEight_62 : decode cX10_putEight 62 = .ok (.sipush 192, 3) := by decide +kernel
theorem dX10_putEight_65 : decode cX10_putEight 65 = .ok (.goto 17, 3) := by decide +kernel
theorem dX10_putEight_68 : decode cX10_putEight 68 = .ok (.iload_n 2, 1) := by decide +kernel
theorem dX10_putEight_69 : decode cX10_putEight 69 = .ok (.iconst 3, 1) := by decide +kernel
theorem dX10_putEight_70 : decode cX10_putEight 70 = .ok (.if_icmp .ne 9, 3) := by decide +kernel
theorem dX10_putEight_73 : decode cX10_putEight 73 = .ok (.sipush 224, 3) := by decide +kernel
theorem dX10_putEight_76 : decode cX10_putEight 76 = .ok (.goto 6, 3) := by decide +kernel
theorem dX10_putEight_79 : decode cX10_putEight 79 = .ok (.sipush 240, 3) := by decide +kernel
theorem dX10_putEight_82 : decode cX10_putEight 82 = .ok (.iload_n 1, 1) := by decide +kernel
theorem dX10_putEight_83 : decode cX10_putEight 83 = .ok (.bipush 6, 2) := by decide +kernel
theorem dX10_putEight_85 : decode cX10_putEight 85 = .ok (.iload_n 2, 1) := by decide +kernel
theorem dX10_putEight_86 : decode cX10_putEight 86 = .ok (.iconst 1, 1) := by decide +kernel
theorem dX10_putEight_87 : decode cX10_putEight 87 = .ok (.isub, 1) := by decide +kernel
theorem dX10_putEight_88 : decode cX10_putEight 88 = .ok (.imul, 1) := by decide +kernel
theorem dX10_putEight_89 : decode cX10_putEight 89 = .ok (.ishr, 1) := by decide +kernel
theorem dX10_putEight_90 : decode cX10_putEight 90 = .ok (.iadd, 1) := by decide +kernel
theorem dX10_putEight_91 : decode cX10_putEight 91 = .ok (.invokevirtual 139, 3) := by decide +kernel
theorem dX10_putEight_94 : decode cX10_putEight 94 = .ok (.iload_n 2, 1) := by decide +kernel
theorem dX10_putEight_95 : decode cX10_putEight 95 = .ok (.iconst 2, 1) := by decide +kernel
theorem dX10_putEight_96 : decode cX10_putEight 96 = .ok (.isub, 1) := by decide +kernel
theorem dX10_putEight_97 : decode cX10_putEight 97 = .ok (.istore_n 3, 1) := by decide +kernel
theorem dX10_putEight_98 : decode cX10_putEight 98 = .ok (.iload_n 3, 1) := by decide +kernel
theorem dX10_putEight_99 : decode cX10_putEight 99 = .ok (.ifCond .lt 26, 3) := by decide +kernel
theorem dX10_putEight_102 : decode cX10_putEight 102 = .ok (.aload_n 0, 1) := by decide +kernel
theorem dX10_putEight_103 : decode cX10_putEight 103 = .ok (.sipush 128, 3) := by decide +kernel
theorem dX10_putEight_106 : decode cX10_putEight 106 = .ok (.iload_n 1, 1) := by decide +kernel
theorem dX10_putEight_107 : decode cX10_putEight 107 = .ok (.bipush 6, 2) := by decide +kernel
theorem dX10_putEight_109 : decode cX10_putEight 109 = .ok (.iload_n 3, 1) := by decide +kernel
theorem dX10_putEight_110 : decode cX10_putEight 110 = .ok (.imul, 1) := by decide +kernel
theorem dX10_putEight_111 : decode cX10_putEight 111 = .ok (.ishr, 1) := by decide +kernel
theorem dX10_putEight_112 : decode cX10_putEight 112 = .ok (.bipush 64, 2) := by decide +kernel
theorem dX10_putEight_114 : decode cX10_putEight 114 = .ok (.irem, 1) := by decide +kernel
theorem dX10_putEight_115 : decode cX10_putEight 115 = .ok (.iadd, 1) := by decide +kernel
theorem dX10_putEight_116 : decode cX10_putEight 116 = .ok (.invokevirtual 139, 3) := by decide +kernel
theorem dX10_putEight_119 : decode cX10_putEight 119 = .ok (.iinc 3 (-1), 3) := by decide +kernel
theorem dX10_putEight_122 : decode cX10_putEight 122 = .ok (.goto (-24), 3) := by decide +kernel
theorem dX10_putEight_125 : decode cX10_putEight 125 = .ok (.return_, 1) := by decide +kernel
theorem dX10_encodeEight_0 : decode cX10_encodeEight 0 = .ok (.aload_n 0, 1) := by decide +kernel
theorem dX10_encodeEight_1 : decode cX10_encodeEight 1 = .ok (.getfield 17, 3) := by decide +kernel
theorem dX10_encodeEight_4 : decode cX10_encodeEight 4 = .ok (.iconst 0, 1) := by decide +kernel
theorem dX10_encodeEight_5 : decode cX10_encodeEight 5 = .ok (.iaload, 1) := by decide +kernel
theorem dX10_encodeEight_6 : decode cX10_encodeEight 6 = .ok (.istore_n 1, 1) := by decide +kernel
theorem dX10_encodeEight_7 : decode cX10_encodeEight 7 = .ok (.aload_n 0, 1) := by decide +kernel
theorem dX10_encodeEight_8 : decode cX10_encodeEight 8 = .ok (.getfield 30, 3) := by decide +kernel
theorem dX10_encodeEight_11 : decode cX10_encodeEight 11 = .ok (.iconst 1, 1) := by decide +kernel
theorem dX10_encodeEight_12 : decode cX10_encodeEight 12 = .ok (.if_icmp .eq 17, 3) := by decide +kernel
theorem dX10_encodeEight_15 : decode cX10_encodeEight 15 = .ok (.iload_n 1, 1) := by decide +kernel
theorem dX10_encodeEight_16 : decode cX10_encodeEight 16 = .ok (.invokestatic 143, 3) := by decide +kernel
theorem dX10_encodeEight_19 : decode cX10_encodeEight 19 = .ok (.ifCond .ne 21, 3) := by decide +kernel
theorem dX10_encodeEight_22 : decode cX10_encodeEight 22 = .ok (.iload_n 1, 1) := by decide +kernel
theorem dX10_encodeEight_23 : decode cX10_encodeEight 23 = .ok (.invokestatic 147, 3) := by decide +kernel
theorem dX10_encodeEight_26 : decode cX10_encodeEight 26 = .ok (.ifCond .ne 14, 3) := by decide +kernel
theorem dX10_encodeEight_29 : decode cX10_encodeEight 29 = .ok (.aload_n 0, 1) := by decide +kernel
theorem dX10_encodeEight_30 : decode cX10_encodeEight 30 = .ok (.iload_n 1, 1) := by decide +kernel
theorem dX10_encodeEight_31 : decode cX10_encodeEight 31 = .ok (.invokevirtual 150, 3) := by decide +kernel
theorem dX10_encodeEight_34 : decode cX10_encodeEight 34 = .ok (.aload_n 0, 1) := by decide +kernel
theorem dX10_encodeEight_35 : decode cX10_encodeEight 35 = .ok (.iconst 1, 1) := by decide +kernel
theorem dX10_encodeEight_36 : decode cX10_encodeEight 36 = .ok (.invokevirtual 153, 3) := by decide +kernel
theorem dX10_encodeEight_39 : decode cX10_encodeEight 39 = .ok (.ireturn, 1) := by decide +kernel
theorem dX10_encodeEight_40 : decode cX10_encodeEight 40 = .ok (.iload_n 1, 1) := by decide +kernel
theorem dX10_encodeEight_41 : decode cX10_encodeEight 41 = .ok (.invokestatic 143, 3) := by decide +kernel
theorem dX10_encodeEight_44 : decode cX10_encodeEight 44 = .ok (.ifCond .eq 13, 3) := by decide +kernel
theorem dX10_encodeEight_47 : decode cX10_encodeEight 47 = .ok (.aload_n 0, 1) := by decide +kernel
theorem dX10_encodeEight_48 : decode cX10_encodeEight 48 = .ok (.getfield 42, 3) := by decide +kernel
theorem dX10_encodeEight_51 : decode cX10_encodeEight 51 = .ok (.iconst 1, 1) := by decide +kernel
theorem dX10_encodeEight_52 : decode cX10_encodeEight 52 = .ok (.if_icmp .ne 5, 3) := by decide +kernel
theorem dX10_encodeEight_55 : decode cX10_encodeEight 55 = .ok (.iconst 1, 1) := by decide +kernel
theorem dX10_encodeEight_56 : decode cX10_encodeEight 56 = .ok (.ireturn, 1) := by decide +kernel
theorem dX10_encodeEight_57 : decode cX10_encodeEight 57 = .ok (.iload_n 1, 1) := by decide +kernel
theorem dX10_encodeEight_58 : decode cX10_encodeEight 58 = .ok (.invokestatic 147, 3) := by decide +kernel
theorem dX10_encodeEight_61 : decode cX10_encodeEight 61 = .ok (.ifCond .ne 15, 3) := by decide +kernel
theorem dX10_encodeEight_64 : decode cX10_encodeEight 64 = .ok (.aload_n 0, 1) := by decide +kernel
theorem dX10_encodeEight_65 : decode cX10_encodeEight 65 = .ok (.getfield 17, 3) := by decide +kernel
theorem dX10_encodeEight_68 : decode cX10_encodeEight 68 = .ok (.iconst 1, 1) := by decide +kernel
theorem dX10_encodeEight_69 : decode cX10_encodeEight 69 = .ok (.iaload, 1) := by decide +kernel
theorem dX10_encodeEight_70 : decode cX10_encodeEight 70 = .ok (.invokestatic 147, 3) := by decide +kernel
theorem dX10_encodeEight_73 : decode cX10_encodeEight 73 = .ok (.ifCond .ne 10, 3) := by decide +kernel
theorem dX10_encodeEight_76 : decode cX10_encodeEight 76 = .ok (.aload_n 0, 1) := by decide +kernel
theorem dX10_encodeEight_77 : decode cX10_encodeEight 77 = .ok (.iconst 2, 1) := by decide +kernel
theorem dX10_encodeEight_78 : decode cX10_encodeEight 78 = .ok (.iconst 1, 1) := by decide +kernel
theorem dX10_encodeEight_79 : decode cX10_encodeEight 79 = .ok (.invokevirtual 157, 3) := by decide +kernel
theorem dX10_encodeEight_82 : decode cX10_encodeEight 82 = .ok (.ireturn, 1) := by decide +kernel
theorem dX10_encodeEight_83 : decode cX10_encodeEight 83 = .ok (.aload_n 0, 1) := by decide +kernel
theorem dX10_encodeEight_84 : decode cX10_encodeEight 84 = .ok (.ldc 138, 2) := by decide +kernel
theorem dX10_encodeEight_86 : decode cX10_encodeEight 86 = .ok (.iload_n 1, 1) := by decide +kernel
theorem dX10_encodeEight_87 : decode cX10_encodeEight 87 = .ok (.ldc 88, 2) := by decide +kernel
theorem dX10_encodeEight_89 : decode cX10_encodeEight 89 = .ok (.isub, 1) := by decide +kernel
theorem dX10_encodeEight_90 : decode cX10_encodeEight 90 = .ok (.sipush 1024, 3) := by decide +kernel
theorem dX10_encodeEight_93 : decode cX10_encodeEight 93 = .ok (.imul, 1) := by decide +kernel
theorem dX10_encodeEight_94 : decode cX10_encodeEight 94 = .ok (.iadd, 1) := by decide +kernel
theorem dX10_encodeEight_95 : decode cX10_encodeEight 95 = .ok (.aload_n 0, 1) := by decide +kernel
theorem dX10_encodeEight_96 : decode cX10_encodeEight 96 = .ok (.getfield 17, 3) := by decide +kernel
theorem dX10_encodeEight_99 : decode cX10_encodeEight 99 = .ok (.iconst 1, 1) := by decide +kernel
theorem dX10_encodeEight_100 : decode cX10_encodeEight 100 = .ok (.iaload, 1) := by decide +kernel
theorem dX10_encodeEight_101 : decode cX10_encodeEight 101 = .ok (.iadd, 1) := by decide +kernel
theorem dX10_encodeEight_102 : decode cX10_encodeEight 102 = .ok (.ldc 90, 2) := by decide +kernel
theorem dX10_encodeEight_104 : decode cX10_encodeEight 104 = .ok (.isub, 1) := by decide +kernel
theorem dX10_encodeEight_105 : decode cX10_encodeEight 105 = .ok (.invokevirtual 150, 3) := by decide +kernel
theorem dX10_encodeEight_108 : decode cX10_encodeEight 108 = .ok (.aload_n 0, 1) := by decide +kernel
theorem dX10_encodeEight_109 : decode cX10_encodeEight 109 = .ok (.iconst 2, 1) := by decide +kernel
theorem dX10_encodeEight_110 : decode cX10_encodeEight 110 = .ok (.invokevirtual 153, 3) := by decide +kernel
theorem dX10_encodeEight_113 : decode cX10_encodeEight 113 = .ok (.ireturn, 1) := by decide +kernel
theorem dX10_lengthOf_0 : decode cX10_lengthOf 0 = .ok (.iload_n 0, 1) := by decide +kernel
theorem dX10_lengthOf_1 : decode cX10_lengthOf 1 = .ok (.sipush 128, 3) := by decide +kernel
theorem dX10_lengthOf_4 : decode cX10_lengthOf 4 = .ok (.if_icmp .ge 7, 3) := by decide +kernel
theorem dX10_lengthOf_7 : decode cX10_lengthOf 7 = .ok (.iconst 1, 1) := by decide +kernel
theorem dX10_lengthOf_8 : decode cX10_lengthOf 8 = .ok (.goto 48, 3) := by decide +kernel
theorem dX10_lengthOf_11 : decode cX10_lengthOf 11 = .ok (.iload_n 0, 1) := by decide +kernel
theorem dX10_lengthOf_12 : decode cX10_lengthOf 12 = .ok (.sipush 192, 3) := by decide +kernel
theorem dX10_lengthOf_15 : decode cX10_lengthOf 15 = .ok (.if_icmp .ge 7, 3) := by decide +kernel
theorem dX10_lengthOf_18 : decode cX10_lengthOf 18 = .ok (.iconst 0, 1) := by decide +kernel
theorem dX10_lengthOf_19 : decode cX10_lengthOf 19 = .ok (.goto 37, 3) := by decide +kernel
theorem dX10_lengthOf_22 : decode cX10_lengthOf 22 = .ok (.iload_n 0, 1) := by decide +kernel
theorem dX10_lengthOf_23 : decode cX10_lengthOf 23 = .ok (.sipush 224, 3) := by decide +kernel
theorem dX10_lengthOf_26 : decode cX10_lengthOf 26 = .ok (.if_icmp .ge 7, 3) := by decide +kernel
theorem dX10_lengthOf_29 : decode cX10_lengthOf 29 = .ok (.iconst 2, 1) := by decide +kernel
theorem dX10_lengthOf_30 : decode cX10_lengthOf 30 = .ok (.goto 26, 3) := by decide +kernel
theorem dX10_lengthOf_33 : decode cX10_lengthOf 33 = .ok (.iload_n 0, 1) := by decide +kernel
theorem dX10_lengthOf_34 : decode cX10_lengthOf 34 = .ok (.sipush 240, 3) := by decide +kernel
theorem dX10_lengthOf_37 : decode cX10_lengthOf 37 = .ok (.if_icmp .ge 7, 3) := by decide +kernel
theorem dX10_lengthOf_40 : decode cX10_lengthOf 40 = .ok (.iconst 3, 1) := by decide +kernel
theorem dX10_lengthOf_41 : decode cX10_lengthOf 41 = .ok (.goto 15, 3) := by decide +kernel
theorem dX10_lengthOf_44 : decode cX10_lengthOf 44 = .ok (.iload_n 0, 1) := by decide +kernel
theorem dX10_lengthOf_45 : decode cX10_lengthOf 45 = .ok (.sipush 248, 3) := by decide +kernel
theorem dX10_lengthOf_48 : decode cX10_lengthOf 48 = .ok (.if_icmp .ge 7, 3) := by decide +kernel
theorem dX10_lengthOf_51 : decode cX10_lengthOf 51 = .ok (.iconst 4, 1) := by decide +kernel
theorem dX10_lengthOf_52 : decode cX10_lengthOf 52 = .ok (.goto 4, 3) := by decide +kernel
theorem dX10_lengthOf_55 : decode cX10_lengthOf 55 = .ok (.iconst 0, 1) := by decide +kernel
theorem dX10_lengthOf_56 : decode cX10_lengthOf 56 = .ok (.ireturn, 1) := by decide +kernel
theorem dX10_some_0 : decode cX10_some 0 = .ok (.aload_n 0, 1) := by decide +kernel
theorem dX10_some_1 : decode cX10_some 1 = .ok (.getfield 30, 3) := by decide +kernel
theorem dX10_some_4 : decode cX10_some 4 = .ok (.iconst 1, 1) := by decide +kernel
theorem dX10_some_5 : decode cX10_some 5 = .ok (.if_icmp .ne 62, 3) := by decide +kernel
theorem dX10_some_8 : decode cX10_some 8 = .ok (.iload_n 1, 1) := by decide +kernel
theorem dX10_some_9 : decode cX10_some 9 = .ok (.iconst 1, 1) := by decide +kernel
theorem dX10_some_10 : decode cX10_some 10 = .ok (.if_icmp .ne 15, 3) := by decide +kernel
theorem dX10_some_13 : decode cX10_some 13 = .ok (.iload_n 3, 1) := by decide +kernel
theorem dX10_some_14 : decode cX10_some 14 = .ok (.ifCond .le 7, 3) := by decide +kernel
theorem dX10_some_17 : decode cX10_some 17 = .ok (.iconst 1, 1) := by decide +kernel
theorem dX10_some_18 : decode cX10_some 18 = .ok (.goto 48, 3) := by decide +kernel
theorem dX10_some_21 : decode cX10_some 21 = .ok (.iconst 0, 1) := by decide +kernel
theorem dX10_some_22 : decode cX10_some 22 = .ok (.goto 44, 3) := by decide +kernel
theorem dX10_some_25 : decode cX10_some 25 = .ok (.iload_n 1, 1) := by decide +kernel
theorem dX10_some_26 : decode cX10_some 26 = .ok (.iconst 2, 1) := by decide +kernel
theorem dX10_some_27 : decode cX10_some 27 = .ok (.if_icmp .ne 22, 3) := by decide +kernel
theorem dX10_some_30 : decode cX10_some 30 = .ok (.iload_n 2, 1) := by decide +kernel
theorem dX10_some_31 : decode cX10_some 31 = .ok (.ifCond .eq 10, 3) := by decide +kernel
theorem dX10_some_34 : decode cX10_some 34 = .ok (.iload_n 3, 1) := by decide +kernel
theorem dX10_some_35 : decode cX10_some 35 = .ok (.sipush 128, 3) := by decide +kernel
theorem dX10_some_38 : decode cX10_some 38 = .ok (.if_icmp .lt 7, 3) := by decide +kernel
theorem dX10_some_41 : decode cX10_some 41 = .ok (.iconst 1, 1) := by decide +kernel
theorem dX10_some_42 : decode cX10_some 42 = .ok (.goto 24, 3) := by decide +kernel
theorem dX10_some_45 : decode cX10_some 45 = .ok (.iconst 0, 1) := by decide +kernel
theorem dX10_some_46 : decode cX10_some 46 = .ok (.goto 20, 3) := by decide +kernel
theorem dX10_some_49 : decode cX10_some 49 = .ok (.iload_n 1, 1) := by decide +kernel
theorem dX10_some_50 : decode cX10_some 50 = .ok (.iconst 3, 1) := by decide +kernel
theorem dX10_some_51 : decode cX10_some 51 = .ok (.if_icmp .ne 14, 3) := by decide +kernel
theorem dX10_some_54 : decode cX10_some 54 = .ok (.iload_n 3, 1) := by decide +kernel
theorem dX10_some_55 : decode cX10_some 55 = .ok (.sipush 2048, 3) := by decide +kernel
theorem dX10_some_58 : decode cX10_some 58 = .ok (.if_icmp .lt 7, 3) := by decide +kernel
theorem dX10_some_61 : decode cX10_some 61 = .ok (.iconst 1, 1) := by decide +kernel
theorem dX10_some_62 : decode cX10_some 62 = .ok (.goto 4, 3) := by decide +kernel
theorem dX10_some_65 : decode cX10_some 65 = .ok (.iconst 0, 1) := by decide +kernel
theorem dX10_some_66 : decode cX10_some 66 = .ok (.ireturn, 1) := by decide +kernel
theorem dX10_some_67 : decode cX10_some 67 = .ok (.iload_n 1, 1) := by decide +kernel
theorem dX10_some_68 : decode cX10_some 68 = .ok (.iconst 3, 1) := by decide +kernel
theorem dX10_some_69 : decode cX10_some 69 = .ok (.if_icmp .ne 28, 3) := by decide +kernel
theorem dX10_some_72 : decode cX10_some 72 = .ok (.iload_n 3, 1) := by decide +kernel
theorem dX10_some_73 : decode cX10_some 73 = .ok (.sipush 2048, 3) := by decide +kernel
theorem dX10_some_76 : decode cX10_some 76 = .ok (.if_icmp .lt 19, 3) := by decide +kernel
theorem dX10_some_79 : decode cX10_some 79 = .ok (.iload_n 2, 1) := by decide +kernel
theorem dX10_some_80 : decode cX10_some 80 = .ok (.ldc 88, 2) := by decide +kernel
theorem dX10_some_82 : decode cX10_some 82 = .ok (.if_icmp .lt 9, 3) := by decide +kernel
theorem dX10_some_85 : decode cX10_some 85 = .ok (.iload_n 3, 1) := by decide +kernel
theorem dX10_some_86 : decode cX10_some 86 = .ok (.ldc 91, 2) := by decide +kernel
theorem dX10_some_88 : decode cX10_some 88 = .ok (.if_icmp .le 7, 3) := by decide +kernel
theorem dX10_some_91 : decode cX10_some 91 = .ok (.iconst 1, 1) := by decide +kernel
theorem dX10_some_92 : decode cX10_some 92 = .ok (.goto 4, 3) := by decide +kernel
theorem dX10_some_95 : decode cX10_some 95 = .ok (.iconst 0, 1) := by decide +kernel
theorem dX10_some_96 : decode cX10_some 96 = .ok (.ireturn, 1) := by decide +kernel
theorem dX10_some_97 : decode cX10_some 97 = .ok (.iload_n 1, 1) := by decide +kernel
theorem dX10_some_98 : decode cX10_some 98 = .ok (.iconst 1, 1) := by decide +kernel
theorem dX10_some_99 : decode cX10_some 99 = .ok (.if_icmp .eq 35, 3) := by decide +kernel
theorem dX10_some_102 : decode cX10_some 102 = .ok (.iload_n 1, 1) := by decide +kernel
theorem dX10_some_103 : decode cX10_some 103 = .ok (.iconst 2, 1) := by decide +kernel
theorem dX10_some_104 : decode cX10_some 104 = .ok (.if_icmp .ne 13, 3) := by decide +kernel
theorem dX10_some_107 : decode cX10_some 107 = .ok (.iload_n 3, 1) := by decide +kernel
theorem dX10_some_108 : decode cX10_some 108 = .ok (.sipush 128, 3) := by decide +kernel
theorem dX10_some_111 : decode cX10_some 111 = .ok (.if_icmp .lt 27, 3) := by decide +kernel
theorem dX10_some_114 : decode cX10_some 114 = .ok (.goto 20, 3) := by decide +kernel
theorem dX10_some_117 : decode cX10_some 117 = .ok (.iload_n 1, 1) := by decide +kernel
theorem dX10_some_118 : decode cX10_some 118 = .ok (.iconst 4, 1) := by decide +kernel
theorem dX10_some_119 : decode cX10_some 119 = .ok (.if_icmp .ne 19, 3) := by decide +kernel
theorem dX10_some_122 : decode cX10_some 122 = .ok (.iload_n 3, 1) := by decide +kernel
theorem dX10_some_123 : decode cX10_some 123 = .ok (.ldc 138, 2) := by decide +kernel
theorem dX10_some_125 : decode cX10_some 125 = .ok (.if_icmp .lt 13, 3) := by decide +kernel
theorem dX10_some_128 : decode cX10_some 128 = .ok (.iload_n 2, 1) := by decide +kernel
theorem dX10_some_129 : decode cX10_some 129 = .ok (.ldc 161, 2) := by decide +kernel
theorem dX10_some_131 : decode cX10_some 131 = .ok (.if_icmp .gt 7, 3) := by decide +kernel
theorem dX10_some_134 : decode cX10_some 134 = .ok (.iconst 1, 1) := by decide +kernel
theorem dX10_some_135 : decode cX10_some 135 = .ok (.goto 4, 3) := by decide +kernel
theorem dX10_some_138 : decode cX10_some 138 = .ok (.iconst 0, 1) := by decide +kernel
theorem dX10_some_139 : decode cX10_some 139 = .ok (.ireturn, 1) := by decide +kernel
theorem dX10_least_0 : decode cX10_least 0 = .ok (.iload_n 1, 1) := by decide +kernel
theorem dX10_least_1 : decode cX10_least 1 = .ok (.iconst 1, 1) := by decide +kernel
theorem dX10_least_2 : decode cX10_least 2 = .ok (.if_icmp .ne 12, 3) := by decide +kernel
theorem dX10_least_5 : decode cX10_least 5 = .ok (.aload_n 0, 1) := by decide +kernel
theorem dX10_least_6 : decode cX10_least 6 = .ok (.getfield 17, 3) := by decide +kernel
theorem dX10_least_9 : decode cX10_least 9 = .ok (.iconst 0, 1) := by decide +kernel
theorem dX10_least_10 : decode cX10_least 10 = .ok (.iaload, 1) := by decide +kernel
theorem dX10_least_11 : decode cX10_least 11 = .ok (.goto 35, 3) := by decide +kernel
theorem dX10_least_14 : decode cX10_least 14 = .ok (.aload_n 0, 1) := by decide +kernel
theorem dX10_least_15 : decode cX10_least 15 = .ok (.getfield 17, 3) := by decide +kernel
theorem dX10_least_18 : decode cX10_least 18 = .ok (.iconst 0, 1) := by decide +kernel
theorem dX10_least_19 : decode cX10_least 19 = .ok (.iaload, 1) := by decide +kernel
theorem dX10_least_20 : decode cX10_least 20 = .ok (.iload_n 1, 1) := by decide +kernel
theorem dX10_least_21 : decode cX10_least 21 = .ok (.iconst 2, 1) := by decide +kernel
theorem dX10_least_22 : decode cX10_least 22 = .ok (.if_icmp .ne 9, 3) := by decide +kernel
theorem dX10_least_25 : decode cX10_least 25 = .ok (.sipush 192, 3) := by decide +kernel
theorem dX10_least_28 : decode cX10_least 28 = .ok (.goto 17, 3) := by decide +kernel
theorem dX10_least_31 : decode cX10_least 31 = .ok (.iload_n 1, 1) := by decide +kernel
theorem dX10_least_32 : decode cX10_least 32 = .ok (.iconst 3, 1) := by decide +kernel
theorem dX10_least_33 : decode cX10_least 33 = .ok (.if_icmp .ne 9, 3) := by decide +kernel
theorem dX10_least_36 : decode cX10_least 36 = .ok (.sipush 224, 3) := by decide +kernel
theorem dX10_least_39 : decode cX10_least 39 = .ok (.goto 6, 3) := by decide +kernel
theorem dX10_least_42 : decode cX10_least 42 = .ok (.sipush 240, 3) := by decide +kernel
theorem dX10_least_45 : decode cX10_least 45 = .ok (.isub, 1) := by decide +kernel
theorem dX10_least_46 : decode cX10_least 46 = .ok (.istore_n 3, 1) := by decide +kernel
theorem dX10_least_47 : decode cX10_least 47 = .ok (.iconst 1, 1) := by decide +kernel
theorem dX10_least_48 : decode cX10_least 48 = .ok (.istore 4, 2) := by decide +kernel
theorem dX10_least_50 : decode cX10_least 50 = .ok (.iload 4, 2) := by decide +kernel
theorem dX10_least_52 : decode cX10_least 52 = .ok (.iload_n 1, 1) := by decide +kernel
theorem dX10_least_53 : decode cX10_least 53 = .ok (.if_icmp .ge 36, 3) := by decide +kernel
theorem dX10_least_56 : decode cX10_least 56 = .ok (.bipush 64, 2) := by decide +kernel
theorem dX10_least_58 : decode cX10_least 58 = .ok (.iload_n 3, 1) := by decide +kernel
theorem dX10_least_59 : decode cX10_least 59 = .ok (.imul, 1) := by decide +kernel
theorem dX10_least_60 : decode cX10_least 60 = .ok (.iload 4, 2) := by decide +kernel
theorem dX10_least_62 : decode cX10_least 62 = .ok (.iload_n 2, 1) := by decide +kernel
theorem dX10_least_63 : decode cX10_least 63 = .ok (.if_icmp .ge 17, 3) := by decide +kernel
theorem dX10_least_66 : decode cX10_least 66 = .ok (.aload_n 0, 1) := by decide +kernel
theorem dX10_least_67 : decode cX10_least 67 = .ok (.getfield 17, 3) := by decide +kernel
theorem dX10_least_70 : decode cX10_least 70 = .ok (.iload 4, 2) := by decide +kernel
theorem dX10_least_72 : decode cX10_least 72 = .ok (.iaload, 1) := by decide +kernel
theorem dX10_least_73 : decode cX10_least 73 = .ok (.sipush 128, 3) := by decide +kernel
theorem dX10_least_76 : decode cX10_least 76 = .ok (.isub, 1) := by decide +kernel
theorem dX10_least_77 : decode cX10_least 77 = .ok (.goto 4, 3) := by decide +kernel
theorem dX10_least_80 : decode cX10_least 80 = .ok (.iconst 0, 1) := by decide +kernel
theorem dX10_least_81 : decode cX10_least 81 = .ok (.iadd, 1) := by decide +kernel
theorem dX10_least_82 : decode cX10_least 82 = .ok (.istore_n 3, 1) := by decide +kernel
theorem dX10_least_83 : decode cX10_least 83 = .ok (.iinc 4 1, 3) := by decide +kernel
theorem dX10_least_86 : decode cX10_least 86 = .ok (.goto (-36), 3) := by decide +kernel
theorem dX10_least_89 : decode cX10_least 89 = .ok (.iload_n 3, 1) := by decide +kernel
theorem dX10_least_90 : decode cX10_least 90 = .ok (.ireturn, 1) := by decide +kernel
theorem dX10_begins_0 : decode cX10_begins 0 = .ok (.aload_n 0, 1) := by decide +kernel
theorem dX10_begins_1 : decode cX10_begins 1 = .ok (.getfield 17, 3) := by decide +kernel
theorem dX10_begins_4 : decode cX10_begins 4 = .ok (.iconst 0, 1) := by decide +kernel
theorem dX10_begins_5 : decode cX10_begins 5 = .ok (.iaload, 1) := by decide +kernel
theorem dX10_begins_6 : decode cX10_begins 6 = .ok (.invokestatic 162, 3) := by decide +kernel
theorem dX10_begins_9 : decode cX10_begins 9 = .ok (.istore_n 2, 1) := by decide +kernel
theorem dX10_begins_10 : decode cX10_begins 10 = .ok (.iload_n 1, 1) := by decide +kernel
theorem dX10_begins_11 : decode cX10_begins 11 = .ok (.iload_n 2, 1) := by decide +kernel
theorem dX10_begins_12 : decode cX10_begins 12 = .ok (.if_icmp .le 5, 3) := by decide +kernel
theorem dX10_begins_15 : decode cX10_begins 15 = .ok (.iconst 0, 1) := by decide +kernel
theorem dX10_begins_16 : decode cX10_begins 16 = .ok (.ireturn, 1) := by decide +kernel
theorem dX10_begins_17 : decode cX10_begins 17 = .ok (.iconst 1, 1) := by decide +kernel
theorem dX10_begins_18 : decode cX10_begins 18 = .ok (.istore_n 3, 1) := by decide +kernel
theorem dX10_begins_19 : decode cX10_begins 19 = .ok (.iload_n 3, 1) := by decide +kernel
theorem dX10_begins_20 : decode cX10_begins 20 = .ok (.iload_n 1, 1) := by decide +kernel
theorem dX10_begins_21 : decode cX10_begins 21 = .ok (.if_icmp .ge 35, 3) := by decide +kernel
theorem dX10_begins_24 : decode cX10_begins 24 = .ok (.aload_n 0, 1) := by decide +kernel
theorem dX10_begins_25 : decode cX10_begins 25 = .ok (.getfield 17, 3) := by decide +kernel
theorem dX10_begins_28 : decode cX10_begins 28 = .ok (.iload_n 3, 1) := by decide +kernel
theorem dX10_begins_29 : decode cX10_begins 29 = .ok (.iaload, 1) := by decide +kernel
theorem dX10_begins_30 : decode cX10_begins 30 = .ok (.sipush 128, 3) := by decide +kernel
theorem dX10_begins_33 : decode cX10_begins 33 = .ok (.if_icmp .lt 15, 3) := by decide +kernel
theorem dX10_begins_36 : decode cX10_begins 36 = .ok (.aload_n 0, 1) := by decide +kernel
theorem dX10_begins_37 : decode cX10_begins 37 = .ok (.getfield 17, 3) := by decide +kernel
theorem dX10_begins_40 : decode cX10_begins 40 = .ok (.iload_n 3, 1) := by decide +kernel
theorem dX10_begins_41 : decode cX10_begins 41 = .ok (.iaload, 1) := by decide +kernel
theorem dX10_begins_42 : decode cX10_begins 42 = .ok (.sipush 191, 3) := by decide +kernel
theorem dX10_begins_45 : decode cX10_begins 45 = .ok (.if_icmp .le 5, 3) := by decide +kernel
theorem dX10_begins_48 : decode cX10_begins 48 = .ok (.iconst 0, 1) := by decide +kernel
theorem dX10_begins_49 : decode cX10_begins 49 = .ok (.ireturn, 1) := by decide +kernel
theorem dX10_begins_50 : decode cX10_begins 50 = .ok (.iinc 3 1, 3) := by decide +kernel
theorem dX10_begins_53 : decode cX10_begins 53 = .ok (.goto (-34), 3) := by decide +kernel
theorem dX10_begins_56 : decode cX10_begins 56 = .ok (.aload_n 0, 1) := by decide +kernel
theorem dX10_begins_57 : decode cX10_begins 57 = .ok (.iload_n 2, 1) := by decide +kernel
theorem dX10_begins_58 : decode cX10_begins 58 = .ok (.iload_n 1, 1) := by decide +kernel
theorem dX10_begins_59 : decode cX10_begins 59 = .ok (.invokevirtual 165, 3) := by decide +kernel
theorem dX10_begins_62 : decode cX10_begins 62 = .ok (.istore_n 3, 1) := by decide +kernel
theorem dX10_begins_63 : decode cX10_begins 63 = .ok (.aload_n 0, 1) := by decide +kernel
theorem dX10_begins_64 : decode cX10_begins 64 = .ok (.iload_n 2, 1) := by decide +kernel
theorem dX10_begins_65 : decode cX10_begins 65 = .ok (.iload_n 3, 1) := by decide +kernel
theorem dX10_begins_66 : decode cX10_begins 66 = .ok (.iload_n 3, 1) := by decide +kernel
theorem dX10_begins_67 : decode cX10_begins 67 = .ok (.iconst 1, 1) := by decide +kernel
theorem dX10_begins_68 : decode cX10_begins 68 = .ok (.bipush 6, 2) := by decide +kernel
theorem dX10_begins_70 : decode cX10_begins 70 = .ok (.iload_n 2, 1) := by decide +kernel
theorem dX10_begins_71 : decode cX10_begins 71 = .ok (.iload_n 1, 1) := by decide +kernel
theorem dX10_begins_72 : decode cX10_begins 72 = .ok (.isub, 1) := by decide +kernel
theorem dX10_begins_73 : decode cX10_begins 73 = .ok (.imul, 1) := by decide +kernel
theorem dX10_begins_74 : decode cX10_begins 74 = .ok (.ishl, 1) := by decide +kernel
theorem dX10_begins_75 : decode cX10_begins 75 = .ok (.iadd, 1) := by decide +kernel
theorem dX10_begins_76 : decode cX10_begins 76 = .ok (.iconst 1, 1) := by decide +kernel
theorem dX10_begins_77 : decode cX10_begins 77 = .ok (.isub, 1) := by decide +kernel
theorem dX10_begins_78 : decode cX10_begins 78 = .ok (.invokevirtual 168, 3) := by decide +kernel
theorem dX10_begins_81 : decode cX10_begins 81 = .ok (.ireturn, 1) := by decide +kernel
theorem dX10_decodeEight_0 : decode cX10_decodeEight 0 = .ok (.aload_n 0, 1) := by decide +kernel
theorem dX10_decodeEight_1 : decode cX10_decodeEight 1 = .ok (.getfield 17, 3) := by decide +kernel
theorem dX10_decodeEight_4 : decode cX10_decodeEight 4 = .ok (.iconst 0, 1) := by decide +kernel
theorem dX10_decodeEight_5 : decode cX10_decodeEight 5 = .ok (.iaload, 1) := by decide +kernel
theorem dX10_decodeEight_6 : decode cX10_decodeEight 6 = .ok (.invokestatic 162, 3) := by decide +kernel
theorem dX10_decodeEight_9 : decode cX10_decodeEight 9 = .ok (.istore_n 1, 1) := by decide +kernel
theorem dX10_decodeEight_10 : decode cX10_decodeEight 10 = .ok (.iload_n 1, 1) := by decide +kernel
theorem dX10_decodeEight_11 : decode cX10_decodeEight 11 = .ok (.ifCond .le 76, 3) := by decide +kernel
theorem dX10_decodeEight_14 : decode cX10_decodeEight 14 = .ok (.iload_n 1, 1) := by decide +kernel
theorem dX10_decodeEight_15 : decode cX10_decodeEight 15 = .ok (.aload_n 0, 1) := by decide +kernel
theorem dX10_decodeEight_16 : decode cX10_decodeEight 16 = .ok (.getfield 42, 3) := by decide +kernel
theorem dX10_decodeEight_19 : decode cX10_decodeEight 19 = .ok (.if_icmp .gt 68, 3) := by decide +kernel
theorem dX10_decodeEight_22 : decode cX10_decodeEight 22 = .ok (.aload_n 0, 1) := by decide +kernel
theorem dX10_decodeEight_23 : decode cX10_decodeEight 23 = .ok (.iload_n 1, 1) := by decide +kernel
theorem dX10_decodeEight_24 : decode cX10_decodeEight 24 = .ok (.invokevirtual 172, 3) := by decide +kernel
theorem dX10_decodeEight_27 : decode cX10_decodeEight 27 = .ok (.ifCond .eq 60, 3) := by decide +kernel
theorem dX10_decodeEight_30 : decode cX10_decodeEight 30 = .ok (.aload_n 0, 1) := by decide +kernel
theorem dX10_decodeEight_31 : decode cX10_decodeEight 31 = .ok (.iload_n 1, 1) := by decide +kernel
theorem dX10_decodeEight_32 : decode cX10_decodeEight 32 = .ok (.iload_n 1, 1) := by decide +kernel
theorem dX10_decodeEight_33 : decode cX10_decodeEight 33 = .ok (.invokevirtual 165, 3) := by decide +kernel
theorem dX10_decodeEight_36 : decode cX10_decodeEight 36 = .ok (.istore_n 2, 1) := by decide +kernel
theorem dX10_decodeEight_37 : decode cX10_decodeEight 37 = .ok (.iload_n 2, 1) := by decide +kernel
theorem dX10_decodeEight_38 : decode cX10_decodeEight 38 = .ok (.ldc 138, 2) := by decide +kernel
theorem dX10_decodeEight_40 : decode cX10_decodeEight 40 = .ok (.if_icmp .ge 11, 3) := by decide +kernel
theorem dX10_decodeEight_43 : decode cX10_decodeEight 43 = .ok (.aload_n 0, 1) := by decide +kernel
theorem dX10_decodeEight_44 : decode cX10_decodeEight 44 = .ok (.iload_n 2, 1) := by decide +kernel
theorem dX10_decodeEight_45 : decode cX10_decodeEight 45 = .ok (.invokevirtual 139, 3) := by decide +kernel
theorem dX10_decodeEight_48 : decode cX10_decodeEight 48 = .ok (.goto 33, 3) := by decide +kernel
theorem dX10_decodeEight_51 : decode cX10_decodeEight 51 = .ok (.aload_n 0, 1) := by decide +kernel
theorem dX10_decodeEight_52 : decode cX10_decodeEight 52 = .ok (.ldc 88, 2) := by decide +kernel
theorem dX10_decodeEight_54 : decode cX10_decodeEight 54 = .ok (.iload_n 2, 1) := by decide +kernel
theorem dX10_decodeEight_55 : decode cX10_decodeEight 55 = .ok (.ldc 138, 2) := by decide +kernel
theorem dX10_decodeEight_57 : decode cX10_decodeEight 57 = .ok (.isub, 1) := by decide +kernel
theorem dX10_decodeEight_58 : decode cX10_decodeEight 58 = .ok (.sipush 1024, 3) := by decide +kernel
theorem dX10_decodeEight_61 : decode cX10_decodeEight 61 = .ok (.idiv, 1) := by decide +kernel
theorem dX10_decodeEight_62 : decode cX10_decodeEight 62 = .ok (.iadd, 1) := by decide +kernel
theorem dX10_decodeEight_63 : decode cX10_decodeEight 63 = .ok (.invokevirtual 139, 3) := by decide +kernel
theorem dX10_decodeEight_66 : decode cX10_decodeEight 66 = .ok (.aload_n 0, 1) := by decide +kernel
theorem dX10_decodeEight_67 : decode cX10_decodeEight 67 = .ok (.ldc 90, 2) := by decide +kernel
theorem dX10_decodeEight_69 : decode cX10_decodeEight 69 = .ok (.iload_n 2, 1) := by decide +kernel
theorem dX10_decodeEight_70 : decode cX10_decodeEight 70 = .ok (.ldc 138, 2) := by decide +kernel
theorem dX10_decodeEight_72 : decode cX10_decodeEight 72 = .ok (.isub, 1) := by decide +kernel
theorem dX10_decodeEight_73 : decode cX10_decodeEight 73 = .ok (.sipush 1024, 3) := by decide +kernel
theorem dX10_decodeEight_76 : decode cX10_decodeEight 76 = .ok (.irem, 1) := by decide +kernel
theorem dX10_decodeEight_77 : decode cX10_decodeEight 77 = .ok (.iadd, 1) := by decide +kernel
theorem dX10_decodeEight_78 : decode cX10_decodeEight 78 = .ok (.invokevirtual 139, 3) := by decide +kernel
theorem dX10_decodeEight_81 : decode cX10_decodeEight 81 = .ok (.aload_n 0, 1) := by decide +kernel
theorem dX10_decodeEight_82 : decode cX10_decodeEight 82 = .ok (.iload_n 1, 1) := by decide +kernel
theorem dX10_decodeEight_83 : decode cX10_decodeEight 83 = .ok (.invokevirtual 153, 3) := by decide +kernel
theorem dX10_decodeEight_86 : decode cX10_decodeEight 86 = .ok (.ireturn, 1) := by decide +kernel
theorem dX10_decodeEight_87 : decode cX10_decodeEight 87 = .ok (.aload_n 0, 1) := by decide +kernel
theorem dX10_decodeEight_88 : decode cX10_decodeEight 88 = .ok (.aload_n 0, 1) := by decide +kernel
theorem dX10_decodeEight_89 : decode cX10_decodeEight 89 = .ok (.getfield 42, 3) := by decide +kernel
theorem dX10_decodeEight_92 : decode cX10_decodeEight 92 = .ok (.invokevirtual 172, 3) := by decide +kernel
theorem dX10_decodeEight_95 : decode cX10_decodeEight 95 = .ok (.ifCond .eq 5, 3) := by decide +kernel
theorem dX10_decodeEight_98 : decode cX10_decodeEight 98 = .ok (.iconst 1, 1) := by decide +kernel
theorem dX10_decodeEight_99 : decode cX10_decodeEight 99 = .ok (.ireturn, 1) := by decide +kernel
theorem dX10_decodeEight_100 : decode cX10_decodeEight 100 = .ok (.iconst 1, 1) := by decide +kernel
theorem dX10_decodeEight_101 : decode cX10_decodeEight 101 = .ok (.istore_n 2, 1) := by decide +kernel
theorem dX10_decodeEight_102 : decode cX10_decodeEight 102 = .ok (.iload_n 2, 1) := by decide +kernel
theorem dX10_decodeEight_103 : decode cX10_decodeEight 103 = .ok (.aload_n 0, 1) := by decide +kernel
theorem dX10_decodeEight_104 : decode cX10_decodeEight 104 = .ok (.getfield 42, 3) := by decide +kernel
theorem dX10_decodeEight_107 : decode cX10_decodeEight 107 = .ok (.if_icmp .ge 19, 3) := by decide +kernel
theorem dX10_decodeEight_110 : decode cX10_decodeEight 110 = .ok (.aload_n 0, 1) := by decide +kernel
theorem dX10_decodeEight_111 : decode cX10_decodeEight 111 = .ok (.iload_n 2, 1) := by decide +kernel
theorem dX10_decodeEight_112 : decode cX10_decodeEight 112 = .ok (.iconst 1, 1) := by decide +kernel
theorem dX10_decodeEight_113 : decode cX10_decodeEight 113 = .ok (.iadd, 1) := by decide +kernel
theorem dX10_decodeEight_114 : decode cX10_decodeEight 114 = .ok (.invokevirtual 172, 3) := by decide +kernel
theorem dX10_decodeEight_117 : decode cX10_decodeEight 117 = .ok (.ifCond .eq 9, 3) := by decide +kernel
theorem dX10_decodeEight_120 : decode cX10_decodeEight 120 = .ok (.iinc 2 1, 3) := by decide +kernel
theorem dX10_decodeEight_123 : decode cX10_decodeEight 123 = .ok (.goto (-21), 3) := by decide +kernel
theorem dX10_decodeEight_126 : decode cX10_decodeEight 126 = .ok (.aload_n 0, 1) := by decide +kernel
theorem dX10_decodeEight_127 : decode cX10_decodeEight 127 = .ok (.iconst 2, 1) := by decide +kernel
theorem dX10_decodeEight_128 : decode cX10_decodeEight 128 = .ok (.iload_n 2, 1) := by decide +kernel
theorem dX10_decodeEight_129 : decode cX10_decodeEight 129 = .ok (.invokevirtual 157, 3) := by decide +kernel
theorem dX10_decodeEight_132 : decode cX10_decodeEight 132 = .ok (.ireturn, 1) := by decide +kernel
theorem dX10_putSixteen_0 : decode cX10_putSixteen 0 = .ok (.aload_n 0, 1) := by decide +kernel
theorem dX10_putSixteen_1 : decode cX10_putSixteen 1 = .ok (.iload_n 2, 1) := by decide +kernel
theorem dX10_putSixteen_2 : decode cX10_putSixteen 2 = .ok (.ifCond .eq 11, 3) := by decide +kernel
theorem dX10_putSixteen_5 : decode cX10_putSixteen 5 = .ok (.iload_n 1, 1) := by decide +kernel
theorem dX10_putSixteen_6 : decode cX10_putSixteen 6 = .ok (.sipush 256, 3) := by decide +kernel
theorem dX10_putSixteen_9 : decode cX10_putSixteen 9 = .ok (.irem, 1) := by decide +kernel
theorem dX10_putSixteen_10 : decode cX10_putSixteen 10 = .ok (.goto 8, 3) := by decide +kernel
theorem dX10_putSixteen_13 : decode cX10_putSixteen 13 = .ok (.iload_n 1, 1) := by decide +kernel
theorem dX10_putSixteen_14 : decode cX10_putSixteen 14 = .ok (.sipush 256, 3) := by decide +kernel
theorem dX10_putSixteen_17 : decode cX10_putSixteen 17 = .ok (.idiv, 1) := by decide +kernel
theorem dX10_putSixteen_18 : decode cX10_putSixteen 18 = .ok (.invokevirtual 139, 3) := by decide +kernel
theorem dX10_putSixteen_21 : decode cX10_putSixteen 21 = .ok (.aload_n 0, 1) := by decide +kernel
theorem dX10_putSixteen_22 : decode cX10_putSixteen 22 = .ok (.iload_n 2, 1) := by decide +kernel
theorem dX10_putSixteen_23 : decode cX10_putSixteen 23 = .ok (.ifCond .eq 11, 3) := by decide +kernel
theorem dX10_putSixteen_26 : decode cX10_putSixteen 26 = .ok (.iload_n 1, 1) := by decide +kernel
theorem dX10_putSixteen_27 : decode cX10_putSixteen 27 = .ok (.sipush 256, 3) := by decide +kernel
theorem dX10_putSixteen_30 : decode cX10_putSixteen 30 = .ok (.idiv, 1) := by decide +kernel
theorem dX10_putSixteen_31 : decode cX10_putSixteen 31 = .ok (.goto 8, 3) := by decide +kernel
theorem dX10_putSixteen_34 : decode cX10_putSixteen 34 = .ok (.iload_n 1, 1) := by decide +kernel
theorem dX10_putSixteen_35 : decode cX10_putSixteen 35 = .ok (.sipush 256, 3) := by decide +kernel
theorem dX10_putSixteen_38 : decode cX10_putSixteen 38 = .ok (.irem, 1) := by decide +kernel
theorem dX10_putSixteen_39 : decode cX10_putSixteen 39 = .ok (.invokevirtual 139, 3) := by decide +kernel
theorem dX10_putSixteen_42 : decode cX10_putSixteen 42 = .ok (.return_, 1) := by decide +kernel
theorem dX10_encodeSixteen_0 : decode cX10_encodeSixteen 0 = .ok (.aload_n 0, 1) := by decide +kernel
theorem dX10_encodeSixteen_1 : decode cX10_encodeSixteen 1 = .ok (.getfield 30, 3) := by decide +kernel
theorem dX10_encodeSixteen_4 : decode cX10_encodeSixteen 4 = .ok (.iconst 2, 1) := by decide +kernel
theorem dX10_encodeSixteen_5 : decode cX10_encodeSixteen 5 = .ok (.if_icmp .ne 30, 3) := by decide +kernel
theorem dX10_encodeSixteen_8 : decode cX10_encodeSixteen 8 = .ok (.aload_n 0, 1) := by decide +kernel
theorem dX10_encodeSixteen_9 : decode cX10_encodeSixteen 9 = .ok (.getfield 66, 3) := by decide +kernel
theorem dX10_encodeSixteen_12 : decode cX10_encodeSixteen 12 = .ok (.ifCond .ne 23, 3) := by decide +kernel
theorem dX10_encodeSixteen_15 : decode cX10_encodeSixteen 15 = .ok (.aload_n 0, 1) := by decide +kernel
theorem dX10_encodeSixteen_16 : decode cX10_encodeSixteen 16 = .ok (.sipush 254, 3) := by decide +kernel
theorem dX10_encodeSixteen_19 : decode cX10_encodeSixteen 19 = .ok (.invokevirtual 139, 3) := by decide +kernel
theorem dX10_encodeSixteen_22 : decode cX10_encodeSixteen 22 = .ok (.aload_n 0, 1) := by decide +kernel
theorem dX10_encodeSixteen_23 : decode cX10_encodeSixteen 23 = .ok (.sipush 255, 3) := by decide +kernel
theorem dX10_encodeSixteen_26 : decode cX10_encodeSixteen 26 = .ok (.invokevirtual 139, 3) := by decide +kernel
theorem dX10_encodeSixteen_29 : decode cX10_encodeSixteen 29 = .ok (.aload_n 0, 1) := by decide +kernel
theorem dX10_encodeSixteen_30 : decode cX10_encodeSixteen 30 = .ok (.iconst 0, 1) := by decide +kernel
theorem dX10_encodeSixteen_31 : decode cX10_encodeSixteen 31 = .ok (.invokevirtual 153, 3) := by decide +kernel
theorem dX10_encodeSixteen_34 : decode cX10_encodeSixteen 34 = .ok (.ireturn, 1) := by decide +kernel
theorem dX10_encodeSixteen_35 : decode cX10_encodeSixteen 35 = .ok (.aload_n 0, 1) := by decide +kernel
theorem dX10_encodeSixteen_36 : decode cX10_encodeSixteen 36 = .ok (.getfield 17, 3) := by decide +kernel
theorem dX10_encodeSixteen_39 : decode cX10_encodeSixteen 39 = .ok (.iconst 0, 1) := by decide +kernel
theorem dX10_encodeSixteen_40 : decode cX10_encodeSixteen 40 = .ok (.iaload, 1) := by decide +kernel
theorem dX10_encodeSixteen_41 : decode cX10_encodeSixteen 41 = .ok (.istore_n 1, 1) := by decide +kernel
theorem dX10_encodeSixteen_42 : decode cX10_encodeSixteen 42 = .ok (.iload_n 1, 1) := by decide +kernel
theorem dX10_encodeSixteen_43 : decode cX10_encodeSixteen 43 = .ok (.invokestatic 143, 3) := by decide +kernel
theorem dX10_encodeSixteen_46 : decode cX10_encodeSixteen 46 = .ok (.ifCond .eq 13, 3) := by decide +kernel
theorem dX10_encodeSixteen_49 : decode cX10_encodeSixteen 49 = .ok (.aload_n 0, 1) := by decide +kernel
theorem dX10_encodeSixteen_50 : decode cX10_encodeSixteen 50 = .ok (.getfield 42, 3) := by decide +kernel
theorem dX10_encodeSixteen_53 : decode cX10_encodeSixteen 53 = .ok (.iconst 1, 1) := by decide +kernel
theorem dX10_encodeSixteen_54 : decode cX10_encodeSixteen 54 = .ok (.if_icmp .ne 5, 3) := by decide +kernel
theorem dX10_encodeSixteen_57 : decode cX10_encodeSixteen 57 = .ok (.iconst 1, 1) := by decide +kernel
theorem dX10_encodeSixteen_58 : decode cX10_encodeSixteen 58 = .ok (.ireturn, 1) := by decide +kernel
theorem dX10_encodeSixteen_59 : decode cX10_encodeSixteen 59 = .ok (.iload_n 1, 1) := by decide +kernel
theorem dX10_encodeSixteen_60 : decode cX10_encodeSixteen 60 = .ok (.invokestatic 147, 3) := by decide +kernel
theorem dX10_encodeSixteen_63 : decode cX10_encodeSixteen 63 = .ok (.ifCond .ne 22, 3) := by decide +kernel
theorem dX10_encodeSixteen_66 : decode cX10_encodeSixteen 66 = .ok (.iload_n 1, 1) := by decide +kernel
theorem dX10_encodeSixteen_67 : decode cX10_encodeSixteen 67 = .ok (.invokestatic 143, 3) := by decide +kernel
theorem dX10_encodeSixteen_70 : decode cX10_encodeSixteen 70 = .ok (.ifCond .eq 22, 3) := by decide +kernel
theorem dX10_encodeSixteen_73 : decode cX10_encodeSixteen 73 = .ok (.aload_n 0, 1) := by decide +kernel
theorem dX10_encodeSixteen_74 : decode cX10_encodeSixteen 74 = .ok (.getfield 17, 3) := by decide +kernel
theorem dX10_encodeSixteen_77 : decode cX10_encodeSixteen 77 = .ok (.iconst 1, 1) := by decide +kernel
theorem dX10_encodeSixteen_78 : decode cX10_encodeSixteen 78 = .ok (.iaload, 1) := by decide +kernel
theorem dX10_encodeSixteen_79 : decode cX10_encodeSixteen 79 = .ok (.invokestatic 147, 3) := by decide +kernel
theorem dX10_encodeSixteen_82 : decode cX10_encodeSixteen 82 = .ok (.ifCond .ne 10, 3) := by decide +kernel
theorem dX10_encodeSixteen_85 : decode cX10_encodeSixteen 85 = .ok (.aload_n 0, 1) := by decide +kernel
theorem dX10_encodeSixteen_86 : decode cX10_encodeSixteen 86 = .ok (.iconst 2, 1) := by decide +kernel
theorem dX10_encodeSixteen_87 : decode cX10_encodeSixteen 87 = .ok (.iconst 1, 1) := by decide +kernel
theorem dX10_encodeSixteen_88 : decode cX10_encodeSixteen 88 = .ok (.invokevirtual 157, 3) := by decide +kernel
theorem dX10_encodeSixteen_91 : decode cX10_encodeSixteen 91 = .ok (.ireturn, 1) := by decide +kernel
theorem dX10_encodeSixteen_92 : decode cX10_encodeSixteen 92 = .ok (.aload_n 0, 1) := by decide +kernel
theorem dX10_encodeSixteen_93 : decode cX10_encodeSixteen 93 = .ok (.iload_n 1, 1) := by decide +kernel
theorem dX10_encodeSixteen_94 : decode cX10_encodeSixteen 94 = .ok (.aload_n 0, 1) := by decide +kernel
theorem dX10_encodeSixteen_95 : decode cX10_encodeSixteen 95 = .ok (.getfield 30, 3) := by decide +kernel
theorem dX10_encodeSixteen_98 : decode cX10_encodeSixteen 98 = .ok (.iconst 4, 1) := by decide +kernel
theorem dX10_encodeSixteen_99 : decode cX10_encodeSixteen 99 = .ok (.if_icmp .ne 7, 3) := by decide +kernel
theorem dX10_encodeSixteen_102 : decode cX10_encodeSixteen 102 = .ok (.iconst 1, 1) := by decide +kernel
theorem dX10_encodeSixteen_103 : decode cX10_encodeSixteen 103 = .ok (.goto 4, 3) := by decide +kernel
theorem dX10_encodeSixteen_106 : decode cX10_encodeSixteen 106 = .ok (.iconst 0, 1) := by decide +kernel
theorem dX10_encodeSixteen_107 : decode cX10_encodeSixteen 107 = .ok (.invokevirtual 175, 3) := by decide +kernel
theorem dX10_encodeSixteen_110 : decode cX10_encodeSixteen 110 = .ok (.iload_n 1, 1) := by decide +kernel
theorem dX10_encodeSixteen_111 : decode cX10_encodeSixteen 111 = .ok (.invokestatic 143, 3) := by decide +kernel
theorem dX10_encodeSixteen_114 : decode cX10_encodeSixteen 114 = .ok (.ifCond .eq 26, 3) := by decide +kernel
theorem dX10_encodeSixteen_117 : decode cX10_encodeSixteen 117 = .ok (.aload_n 0, 1) := by decide +kernel
theorem dX10_encodeSixteen_118 : decode cX10_encodeSixteen 118 = .ok (.aload_n 0, 1) := by decide +kernel
theorem dX10_encodeSixteen_119 : decode cX10_encodeSixteen 119 = .ok (.getfield 17, 3) := by decide +kernel
theorem dX10_encodeSixteen_122 : decode cX10_encodeSixteen 122 = .ok (.iconst 1, 1) := by decide +kernel
theorem dX10_encodeSixteen_123 : decode cX10_encodeSixteen 123 = .ok (.iaload, 1) := by decide +kernel
theorem dX10_encodeSixteen_124 : decode cX10_encodeSixteen 124 = .ok (.aload_n 0, 1) := by decide +kernel
theorem dX10_encodeSixteen_125 : decode cX10_encodeSixteen 125 = .ok (.getfield 30, 3) := by decide +kernel
theorem dX10_encodeSixteen_128 : decode cX10_encodeSixteen 128 = .ok (.iconst 4, 1) := by decide +kernel
theorem dX10_encodeSixteen_129 : decode cX10_encodeSixteen 129 = .ok (.if_icmp .ne 7, 3) := by decide +kernel
theorem dX10_encodeSixteen_132 : decode cX10_encodeSixteen 132 = .ok (.iconst 1, 1) := by decide +kernel
theorem dX10_encodeSixteen_133 : decode cX10_encodeSixteen 133 = .ok (.goto 4, 3) := by decide +kernel
theorem dX10_encodeSixteen_136 : decode cX10_encodeSixteen 136 = .ok (.iconst 0, 1) := by decide +kernel
theorem dX10_encodeSixteen_137 : decode cX10_encodeSixteen 137 = .ok (.invokevirtual 175, 3) := by decide +kernel
theorem dX10_encodeSixteen_140 : decode cX10_encodeSixteen 140 = .ok (.aload_n 0, 1) := by decide +kernel
theorem dX10_encodeSixteen_141 : decode cX10_encodeSixteen 141 = .ok (.iload_n 1, 1) := by decide +kernel
theorem dX10_encodeSixteen_142 : decode cX10_encodeSixteen 142 = .ok (.invokestatic 143, 3) := by decide +kernel
theorem dX10_encodeSixteen_145 : decode cX10_encodeSixteen 145 = .ok (.ifCond .eq 7, 3) := by decide +kernel
theorem dX10_encodeSixteen_148 : decode cX10_encodeSixteen 148 = .ok (.iconst 2, 1) := by decide +kernel
theorem dX10_encodeSixteen_149 : decode cX10_encodeSixteen 149 = .ok (.goto 4, 3) := by decide +kernel
theorem dX10_encodeSixteen_152 : decode cX10_encodeSixteen 152 = .ok (.iconst 1, 1) := by decide +kernel
theorem dX10_encodeSixteen_153 : decode cX10_encodeSixteen 153 = .ok (.invokevirtual 153, 3) := by decide +kernel
theorem dX10_encodeSixteen_156 : decode cX10_encodeSixteen 156 = .ok (.ireturn, 1) := by decide +kernel
theorem dX10_character_0 : decode cX10_character 0 = .ok (.aload_n 0, 1) := by decide +kernel
theorem dX10_character_1 : decode cX10_character 1 = .ok (.getfield 30, 3) := by decide +kernel
theorem dX10_character_4 : decode cX10_character 4 = .ok (.iconst 4, 1) := by decide +kernel
theorem dX10_character_5 : decode cX10_character 5 = .ok (.if_icmp .eq 10, 3) := by decide +kernel
theorem dX10_character_8 : decode cX10_character 8 = .ok (.aload_n 0, 1) := by decide +kernel
theorem dX10_character_9 : decode cX10_character 9 = .ok (.getfield 69, 3) := by decide +kernel
theorem dX10_character_12 : decode cX10_character 12 = .ok (.ifCond .eq 25, 3) := by decide +kernel
theorem dX10_character_15 : decode cX10_character 15 = .ok (.aload_n 0, 1) := by decide +kernel
theorem dX10_character_16 : decode cX10_character 16 = .ok (.getfield 17, 3) := by decide +kernel
theorem dX10_character_19 : decode cX10_character 19 = .ok (.iload_n 1, 1) := by decide +kernel
theorem dX10_character_20 : decode cX10_character 20 = .ok (.iaload, 1) := by decide +kernel
theorem dX10_character_21 : decode cX10_character 21 = .ok (.sipush 256, 3) := by decide +kernel
theorem dX10_character_24 : decode cX10_character 24 = .ok (.aload_n 0, 1) := by decide +kernel
theorem dX10_character_25 : decode cX10_character 25 = .ok (.getfield 17, 3) := by decide +kernel
theorem dX10_character_28 : decode cX10_character 28 = .ok (.iload_n 1, 1) := by decide +kernel
theorem dX10_character_29 : decode cX10_character 29 = .ok (.iconst 1, 1) := by decide +kernel
theorem dX10_character_30 : decode cX10_character 30 = .ok (.iadd, 1) := by decide +kernel
theorem dX10_character_31 : decode cX10_character 31 = .ok (.iaload, 1) := by decide +kernel
theorem dX10_character_32 : decode cX10_character 32 = .ok (.imul, 1) := by decide +kernel
theorem dX10_character_33 : decode cX10_character 33 = .ok (.iadd, 1) := by decide +kernel
theorem dX10_character_34 : decode cX10_character 34 = .ok (.goto 22, 3) := by decide +kernel
theorem dX10_character_37 : decode cX10_character 37 = .ok (.sipush 256, 3) := by decide +kernel
theorem dX10_character_40 : decode cX10_character 40 = .ok (.aload_n 0, 1) := by decide +kernel
theorem dX10_character_41 : decode cX10_character 41 = .ok (.getfield 17, 3) := by decide +kernel
theorem dX10_character_44 : decode cX10_character 44 = .ok (.iload_n 1, 1) := by decide +kernel
theorem dX10_character_45 : decode cX10_character 45 = .ok (.iaload, 1) := by decide +kernel
theorem dX10_character_46 : decode cX10_character 46 = .ok (.imul, 1) := by decide +kernel
theorem dX10_character_47 : decode cX10_character 47 = .ok (.aload_n 0, 1) := by decide +kernel
theorem dX10_character_48 : decode cX10_character 48 = .ok (.getfield 17, 3) := by decide +kernel
theorem dX10_character_51 : decode cX10_character 51 = .ok (.iload_n 1, 1) := by decide +kernel
theorem dX10_character_52 : decode cX10_character 52 = .ok (.iconst 1, 1) := by decide +kernel
theorem dX10_character_53 : decode cX10_character 53 = .ok (.iadd, 1) := by decide +kernel
theorem dX10_character_54 : decode cX10_character 54 = .ok (.iaload, 1) := by decide +kernel
theorem dX10_character_55 : decode cX10_character 55 = .ok (.iadd, 1) := by decide +kernel
theorem dX10_character_56 : decode cX10_character 56 = .ok (.ireturn, 1) := by decide +kernel
theorem dX10_decodeSixteen_0 : decode cX10_decodeSixteen 0 = .ok (.aload_n 0, 1) := by decide +kernel
theorem dX10_decodeSixteen_1 : decode cX10_decodeSixteen 1 = .ok (.getfield 42, 3) := by decide +kernel
theorem dX10_decodeSixteen_4 : decode cX10_decodeSixteen 4 = .ok (.iconst 1, 1) := by decide +kernel
theorem dX10_decodeSixteen_5 : decode cX10_decodeSixteen 5 = .ok (.if_icmp .ne 5, 3) := by decide +kernel
theorem dX10_decodeSixteen_8 : decode cX10_decodeSixteen 8 = .ok (.iconst 1, 1) := by decide +kernel
theorem dX10_decodeSixteen_9 : decode cX10_decodeSixteen 9 = .ok (.ireturn, 1) := by decide +kernel
theorem dX10_decodeSixteen_10 : decode cX10_decodeSixteen 10 = .ok (.aload_n 0, 1) := by decide +kernel
theorem dX10_decodeSixteen_11 : decode cX10_decodeSixteen 11 = .ok (.getfield 30, 3) := by decide +kernel
theorem dX10_decodeSixteen_14 : decode cX10_decodeSixteen 14 = .ok (.iconst 2, 1) := by decide +kernel
theorem dX10_decodeSixteen_15 : decode cX10_decodeSixteen 15 = .ok (.if_icmp .ne 80, 3) := by decide +kernel
theorem dX10_decodeSixteen_18 : decode cX10_decodeSixteen 18 = .ok (.aload_n 0, 1) := by decide +kernel
theorem dX10_decodeSixteen_19 : decode cX10_decodeSixteen 19 = .ok (.getfield 63, 3) := by decide +kernel
theorem dX10_decodeSixteen_22 : decode cX10_decodeSixteen 22 = .ok (.ifCond .ne 73, 3) := by decide +kernel
theorem dX10_decodeSixteen_25 : decode cX10_decodeSixteen 25 = .ok (.aload_n 0, 1) := by decide +kernel
theorem dX10_decodeSixteen_26 : decode cX10_decodeSixteen 26 = .ok (.getfield 17, 3) := by decide +kernel
theorem dX10_decodeSixteen_29 : decode cX10_decodeSixteen 29 = .ok (.iconst 0, 1) := by decide +kernel
theorem dX10_decodeSixteen_30 : decode cX10_decodeSixteen 30 = .ok (.iaload, 1) := by decide +kernel
theorem dX10_decodeSixteen_31 : decode cX10_decodeSixteen 31 = .ok (.aload_n 0, 1) := by decide +kernel
theorem dX10_decodeSixteen_32 : decode cX10_decodeSixteen 32 = .ok (.getfield 17, 3) := by decide +kernel
theorem dX10_decodeSixteen_35 : decode cX10_decodeSixteen 35 = .ok (.iconst 1, 1) := by decide +kernel
theorem dX10_decodeSixteen_36 : decode cX10_decodeSixteen 36 = .ok (.iaload, 1) := by decide +kernel
theorem dX10_decodeSixteen_37 : decode cX10_decodeSixteen 37 = .ok (.iadd, 1) := by decide +kernel
theorem dX10_decodeSixteen_38 : decode cX10_decodeSixteen 38 = .ok (.sipush 509, 3) := by decide +kernel
theorem dX10_decodeSixteen_41 : decode cX10_decodeSixteen 41 = .ok (.if_icmp .ne 54, 3) := by decide +kernel
theorem dX10_decodeSixteen_44 : decode cX10_decodeSixteen 44 = .ok (.aload_n 0, 1) := by decide +kernel
theorem dX10_decodeSixteen_45 : decode cX10_decodeSixteen 45 = .ok (.getfield 17, 3) := by decide +kernel
theorem dX10_decodeSixteen_48 : decode cX10_decodeSixteen 48 = .ok (.iconst 0, 1) := by decide +kernel
theorem dX10_decodeSixteen_49 : decode cX10_decodeSixteen 49 = .ok (.iaload, 1) := by decide +kernel
theorem dX10_decodeSixteen_50 : decode cX10_decodeSixteen 50 = .ok (.sipush 254, 3) := by decide +kernel
theorem dX10_decodeSixteen_53 : decode cX10_decodeSixteen 53 = .ok (.if_icmp .eq 15, 3) := by decide +kernel
theorem dX10_decodeSixteen_56 : decode cX10_decodeSixteen 56 = .ok (.aload_n 0, 1) := by decide +kernel
theorem dX10_decodeSixteen_57 : decode cX10_decodeSixteen 57 = .ok (.getfield 17, 3) := by decide +kernel
theorem dX10_decodeSixteen_60 : decode cX10_decodeSixteen 60 = .ok (.iconst 0, 1) := by decide +kernel
theorem dX10_decodeSixteen_61 : decode cX10_decodeSixteen 61 = .ok (.iaload, 1) := by decide +kernel
theorem dX10_decodeSixteen_62 : decode cX10_decodeSixteen 62 = .ok (.sipush 255, 3) := by decide +kernel
theorem dX10_decodeSixteen_65 : decode cX10_decodeSixteen 65 = .ok (.if_icmp .ne 30, 3) := by decide +kernel
theorem dX10_decodeSixteen_68 : decode cX10_decodeSixteen 68 = .ok (.aload_n 0, 1) := by decide +kernel
theorem dX10_decodeSixteen_69 : decode cX10_decodeSixteen 69 = .ok (.aload_n 0, 1) := by decide +kernel
theorem dX10_decodeSixteen_70 : decode cX10_decodeSixteen 70 = .ok (.getfield 17, 3) := by decide +kernel
theorem dX10_decodeSixteen_73 : decode cX10_decodeSixteen 73 = .ok (.iconst 0, 1) := by decide +kernel
theorem dX10_decodeSixteen_74 : decode cX10_decodeSixteen 74 = .ok (.iaload, 1) := by decide +kernel
theorem dX10_decodeSixteen_75 : decode cX10_decodeSixteen 75 = .ok (.sipush 255, 3) := by decide +kernel
theorem dX10_decodeSixteen_78 : decode cX10_decodeSixteen 78 = .ok (.if_icmp .ne 7, 3) := by decide +kernel
theorem dX10_decodeSixteen_81 : decode cX10_decodeSixteen 81 = .ok (.iconst 1, 1) := by decide +kernel
theorem dX10_decodeSixteen_82 : decode cX10_decodeSixteen 82 = .ok (.goto 4, 3) := by decide +kernel
theorem dX10_decodeSixteen_85 : decode cX10_decodeSixteen 85 = .ok (.iconst 0, 1) := by decide +kernel
theorem dX10_decodeSixteen_86 : decode cX10_decodeSixteen 86 = .ok (.putfield 110, 3) := by decide +kernel
theorem dX10_decodeSixteen_89 : decode cX10_decodeSixteen 89 = .ok (.aload_n 0, 1) := by decide +kernel
theorem dX10_decodeSixteen_90 : decode cX10_decodeSixteen 90 = .ok (.iconst 2, 1) := by decide +kernel
theorem dX10_decodeSixteen_91 : decode cX10_decodeSixteen 91 = .ok (.invokevirtual 153, 3) := by decide +kernel
theorem dX10_decodeSixteen_94 : decode cX10_decodeSixteen 94 = .ok (.ireturn, 1) := by decide +kernel
theorem dX10_decodeSixteen_95 : decode cX10_decodeSixteen 95 = .ok (.aload_n 0, 1) := by decide +kernel
theorem dX10_decodeSixteen_96 : decode cX10_decodeSixteen 96 = .ok (.iconst 0, 1) := by decide +kernel
theorem dX10_decodeSixteen_97 : decode cX10_decodeSixteen 97 = .ok (.invokevirtual 179, 3) := by decide +kernel
theorem dX10_decodeSixteen_100 : decode cX10_decodeSixteen 100 = .ok (.istore_n 1, 1) := by decide +kernel
theorem dX10_decodeSixteen_101 : decode cX10_decodeSixteen 101 = .ok (.iload_n 1, 1) := by decide +kernel
theorem dX10_decodeSixteen_102 : decode cX10_decodeSixteen 102 = .ok (.invokestatic 147, 3) := by decide +kernel
theorem dX10_decodeSixteen_105 : decode cX10_decodeSixteen 105 = .ok (.ifCond .eq 10, 3) := by decide +kernel
theorem dX10_decodeSixteen_108 : decode cX10_decodeSixteen 108 = .ok (.aload_n 0, 1) := by decide +kernel
theorem dX10_decodeSixteen_109 : decode cX10_decodeSixteen 109 = .ok (.iconst 2, 1) := by decide +kernel
theorem dX10_decodeSixteen_110 : decode cX10_decodeSixteen 110 = .ok (.iconst 2, 1) := by decide +kernel
theorem dX10_decodeSixteen_111 : decode cX10_decodeSixteen 111 = .ok (.invokevirtual 157, 3) := by decide +kernel
theorem dX10_decodeSixteen_114 : decode cX10_decodeSixteen 114 = .ok (.ireturn, 1) := by decide +kernel
theorem dX10_decodeSixteen_115 : decode cX10_decodeSixteen 115 = .ok (.iload_n 1, 1) := by decide +kernel
theorem dX10_decodeSixteen_116 : decode cX10_decodeSixteen 116 = .ok (.invokestatic 143, 3) := by decide +kernel
theorem dX10_decodeSixteen_119 : decode cX10_decodeSixteen 119 = .ok (.ifCond .ne 14, 3) := by decide +kernel
theorem dX10_decodeSixteen_122 : decode cX10_decodeSixteen 122 = .ok (.aload_n 0, 1) := by decide +kernel
theorem dX10_decodeSixteen_123 : decode cX10_decodeSixteen 123 = .ok (.iload_n 1, 1) := by decide +kernel
theorem dX10_decodeSixteen_124 : decode cX10_decodeSixteen 124 = .ok (.invokevirtual 139, 3) := by decide +kernel
theorem dX10_decodeSixteen_127 : decode cX10_decodeSixteen 127 = .ok (.aload_n 0, 1) := by decide +kernel
theorem dX10_decodeSixteen_128 : decode cX10_decodeSixteen 128 = .ok (.iconst 2, 1) := by decide +kernel
theorem dX10_decodeSixteen_129 : decode cX10_decodeSixteen 129 = .ok (.invokevirtual 153, 3) := by decide +kernel
theorem dX10_decodeSixteen_132 : decode cX10_decodeSixteen 132 = .ok (.ireturn, 1) := by decide +kernel
theorem dX10_decodeSixteen_133 : decode cX10_decodeSixteen 133 = .ok (.aload_n 0, 1) := by decide +kernel
theorem dX10_decodeSixteen_134 : decode cX10_decodeSixteen 134 = .ok (.getfield 42, 3) := by decide +kernel
theorem dX10_decodeSixteen_137 : decode cX10_decodeSixteen 137 = .ok (.iconst 4, 1) := by decide +kernel
theorem dX10_decodeSixteen_138 : decode cX10_decodeSixteen 138 = .ok (.if_icmp .ge 5, 3) := by decide +kernel
theorem dX10_decodeSixteen_141 : decode cX10_decodeSixteen 141 = .ok (.iconst 1, 1) := by decide +kernel
theorem dX10_decodeSixteen_142 : decode cX10_decodeSixteen 142 = .ok (.ireturn, 1) := by decide +kernel
theorem dX10_decodeSixteen_143 : decode cX10_decodeSixteen 143 = .ok (.aload_n 0, 1) := by decide +kernel
theorem dX10_decodeSixteen_144 : decode cX10_decodeSixteen 144 = .ok (.iconst 2, 1) := by decide +kernel
theorem dX10_decodeSixteen_145 : decode cX10_decodeSixteen 145 = .ok (.invokevirtual 179, 3) := by decide +kernel
theorem dX10_decodeSixteen_148 : decode cX10_decodeSixteen 148 = .ok (.istore_n 2, 1) := by decide +kernel
theorem dX10_decodeSixteen_149 : decode cX10_decodeSixteen 149 = .ok (.iload_n 2, 1) := by decide +kernel
theorem dX10_decodeSixteen_150 : decode cX10_decodeSixteen 150 = .ok (.invokestatic 147, 3) := by decide +kernel
theorem dX10_decodeSixteen_153 : decode cX10_decodeSixteen 153 = .ok (.ifCond .ne 10, 3) := by decide +kernel
theorem dX10_decodeSixteen_156 : decode cX10_decodeSixteen 156 = .ok (.aload_n 0, 1) := by decide +kernel
theorem dX10_decodeSixteen_157 : decode cX10_decodeSixteen 157 = .ok (.iconst 2, 1) := by decide +kernel
theorem dX10_decodeSixteen_158 : decode cX10_decodeSixteen 158 = .ok (.iconst 2, 1) := by decide +kernel
theorem dX10_decodeSixteen_159 : decode cX10_decodeSixteen 159 = .ok (.invokevirtual 157, 3) := by decide +kernel
theorem dX10_decodeSixteen_162 : decode cX10_decodeSixteen 162 = .ok (.ireturn, 1) := by decide +kernel
theorem dX10_decodeSixteen_163 : decode cX10_decodeSixteen 163 = .ok (.aload_n 0, 1) := by decide +kernel
theorem dX10_decodeSixteen_164 : decode cX10_decodeSixteen 164 = .ok (.iload_n 1, 1) := by decide +kernel
theorem dX10_decodeSixteen_165 : decode cX10_decodeSixteen 165 = .ok (.invokevirtual 139, 3) := by decide +kernel
theorem dX10_decodeSixteen_168 : decode cX10_decodeSixteen 168 = .ok (.aload_n 0, 1) := by decide +kernel
theorem dX10_decodeSixteen_169 : decode cX10_decodeSixteen 169 = .ok (.iload_n 2, 1) := by decide +kernel
theorem dX10_decodeSixteen_170 : decode cX10_decodeSixteen 170 = .ok (.invokevirtual 139, 3) := by decide +kernel
theorem dX10_decodeSixteen_173 : decode cX10_decodeSixteen 173 = .ok (.aload_n 0, 1) := by decide +kernel
theorem dX10_decodeSixteen_174 : decode cX10_decodeSixteen 174 = .ok (.iconst 4, 1) := by decide +kernel
theorem dX10_decodeSixteen_175 : decode cX10_decodeSixteen 175 = .ok (.invokevirtual 153, 3) := by decide +kernel
theorem dX10_decodeSixteen_178 : decode cX10_decodeSixteen 178 = .ok (.ireturn, 1) := by decide +kernel
theorem dX10_direct_0 : decode cX10_direct 0 = .ok (.iload_n 0, 1) := by decide +kernel
theorem dX10_direct_1 : decode cX10_direct 1 = .ok (.bipush 9, 2) := by decide +kernel
theorem dX10_direct_3 : decode cX10_direct 3 = .ok (.if_icmp .eq 57, 3) := by decide +kernel
theorem dX10_direct_6 : decode cX10_direct 6 = .ok (.iload_n 0, 1) := by decide +kernel
theorem dX10_direct_7 : decode cX10_direct 7 = .ok (.bipush 10, 2) := by decide +kernel
theorem dX10_direct_9 : decode cX10_direct 9 = .ok (.if_icmp .eq 51, 3) := by decide +kernel
theorem dX10_direct_12 : decode cX10_direct 12 = .ok (.iload_n 0, 1) := by decide +kernel
theorem dX10_direct_13 : decode cX10_direct 13 = .ok (.bipush 13, 2) := by decide +kernel
theorem dX10_direct_15 : decode cX10_direct 15 = .ok (.if_icmp .eq 45, 3) := by decide +kernel
theorem dX10_direct_18 : decode cX10_direct 18 = .ok (.iload_n 0, 1) := by decide +kernel
theorem dX10_direct_19 : decode cX10_direct 19 = .ok (.bipush 32, 2) := by decide +kernel
theorem dX10_direct_21 : decode cX10_direct 21 = .ok (.if_icmp .eq 39, 3) := by decide +kernel
theorem dX10_direct_24 : decode cX10_direct 24 = .ok (.iload_n 0, 1) := by decide +kernel
theorem dX10_direct_25 : decode cX10_direct 25 = .ok (.bipush 39, 2) := by decide +kernel
theorem dX10_direct_27 : decode cX10_direct 27 = .ok (.if_icmp .lt 9, 3) := by decide +kernel
theorem dX10_direct_30 : decode cX10_direct 30 = .ok (.iload_n 0, 1) := by decide +kernel
theorem dX10_direct_31 : decode cX10_direct 31 = .ok (.bipush 41, 2) := by decide +kernel
theorem dX10_direct_33 : decode cX10_direct 33 = .ok (.if_icmp .le 27, 3) := by decide +kernel
theorem dX10_direct_36 : decode cX10_direct 36 = .ok (.iload_n 0, 1) := by decide +kernel
theorem dX10_direct_37 : decode cX10_direct 37 = .ok (.bipush 44, 2) := by decide +kernel
theorem dX10_direct_39 : decode cX10_direct 39 = .ok (.if_icmp .lt 9, 3) := by decide +kernel
theorem dX10_direct_42 : decode cX10_direct 42 = .ok (.iload_n 0, 1) := by decide +kernel
theorem dX10_direct_43 : decode cX10_direct 43 = .ok (.bipush 47, 2) := by decide +kernel
theorem dX10_direct_45 : decode cX10_direct 45 = .ok (.if_icmp .le 15, 3) := by decide +kernel
theorem dX10_direct_48 : decode cX10_direct 48 = .ok (.iload_n 0, 1) := by decide +kernel
theorem dX10_direct_49 : decode cX10_direct 49 = .ok (.bipush 58, 2) := by decide +kernel
theorem dX10_direct_51 : decode cX10_direct 51 = .ok (.if_icmp .eq 9, 3) := by decide +kernel
theorem dX10_direct_54 : decode cX10_direct 54 = .ok (.iload_n 0, 1) := by decide +kernel
theorem dX10_direct_55 : decode cX10_direct 55 = .ok (.bipush 63, 2) := by decide +kernel
theorem dX10_direct_57 : decode cX10_direct 57 = .ok (.if_icmp .ne 7, 3) := by decide +kernel
theorem dX10_direct_60 : decode cX10_direct 60 = .ok (.iconst 1, 1) := by decide +kernel
theorem dX10_direct_61 : decode cX10_direct 61 = .ok (.goto 4, 3) := by decide +kernel
theorem dX10_direct_64 : decode cX10_direct 64 = .ok (.iconst 0, 1) := by decide +kernel
theorem dX10_direct_65 : decode cX10_direct 65 = .ok (.istore_n 1, 1) := by decide +kernel
theorem dX10_direct_66 : decode cX10_direct 66 = .ok (.iload_n 1, 1) := by decide +kernel
theorem dX10_direct_67 : decode cX10_direct 67 = .ok (.ifCond .ne 39, 3) := by decide +kernel
theorem dX10_direct_70 : decode cX10_direct 70 = .ok (.iload_n 0, 1) := by decide +kernel
theorem dX10_direct_71 : decode cX10_direct 71 = .ok (.bipush 48, 2) := by decide +kernel
theorem dX10_direct_73 : decode cX10_direct 73 = .ok (.if_icmp .lt 9, 3) := by decide +kernel
theorem dX10_direct_76 : decode cX10_direct 76 = .ok (.iload_n 0, 1) := by decide +kernel
theorem dX10_direct_77 : decode cX10_direct 77 = .ok (.bipush 57, 2) := by decide +kernel
theorem dX10_direct_79 : decode cX10_direct 79 = .ok (.if_icmp .le 27, 3) := by decide +kernel
theorem dX10_direct_82 : decode cX10_direct 82 = .ok (.iload_n 0, 1) := by decide +kernel
theorem dX10_direct_83 : decode cX10_direct 83 = .ok (.bipush 65, 2) := by decide +kernel
theorem dX10_direct_85 : decode cX10_direct 85 = .ok (.if_icmp .lt 9, 3) := by decide +kernel
theorem dX10_direct_88 : decode cX10_direct 88 = .ok (.iload_n 0, 1) := by decide +kernel
theorem dX10_direct_89 : decode cX10_direct 89 = .ok (.bipush 90, 2) := by decide +kernel
theorem dX10_direct_91 : decode cX10_direct 91 = .ok (.if_icmp .le 15, 3) := by decide +kernel
theorem dX10_direct_94 : decode cX10_direct 94 = .ok (.iload_n 0, 1) := by decide +kernel
theorem dX10_direct_95 : decode cX10_direct 95 = .ok (.bipush 97, 2) := by decide +kernel
theorem dX10_direct_97 : decode cX10_direct 97 = .ok (.if_icmp .lt 13, 3) := by decide +kernel
theorem dX10_direct_100 : decode cX10_direct 100 = .ok (.iload_n 0, 1) := by decide +kernel
theorem dX10_direct_101 : decode cX10_direct 101 = .ok (.bipush 122, 2) := by decide +kernel
theorem dX10_direct_103 : decode cX10_direct 103 = .ok (.if_icmp .gt 7, 3) := by decide +kernel
theorem dX10_direct_106 : decode cX10_direct 106 = .ok (.iconst 1, 1) := by decide +kernel
theorem dX10_direct_107 : decode cX10_direct 107 = .ok (.goto 4, 3) := by decide +kernel
theorem dX10_direct_110 : decode cX10_direct 110 = .ok (.iconst 0, 1) := by decide +kernel
theorem dX10_direct_111 : decode cX10_direct 111 = .ok (.ireturn, 1) := by decide +kernel
theorem dX10_sign_0 : decode cX10_sign 0 = .ok (.iload_n 0, 1) := by decide +kernel
theorem dX10_sign_1 : decode cX10_sign 1 = .ok (.bipush 26, 2) := by decide +kernel
theorem dX10_sign_3 : decode cX10_sign 3 = .ok (.if_icmp .ge 10, 3) := by decide +kernel
theorem dX10_sign_6 : decode cX10_sign 6 = .ok (.bipush 65, 2) := by decide +kernel
theorem dX10_sign_8 : decode cX10_sign 8 = .ok (.iload_n 0, 1) := by decide +kernel
theorem dX10_sign_9 : decode cX10_sign 9 = .ok (.iadd, 1) := by decide +kernel
theorem dX10_sign_10 : decode cX10_sign 10 = .ok (.goto 41, 3) := by decide +kernel
theorem dX10_sign_13 : decode cX10_sign 13 = .ok (.iload_n 0, 1) := by decide +kernel
theorem dX10_sign_14 : decode cX10_sign 14 = .ok (.bipush 52, 2) := by decide +kernel
theorem dX10_sign_16 : decode cX10_sign 16 = .ok (.if_icmp .ge 10, 3) := by decide +kernel
theorem dX10_sign_19 : decode cX10_sign 19 = .ok (.bipush 71, 2) := by decide +kernel
theorem dX10_sign_21 : decode cX10_sign 21 = .ok (.iload_n 0, 1) := by decide +kernel
theorem dX10_sign_22 : decode cX10_sign 22 = .ok (.iadd, 1) := by decide +kernel
theorem dX10_sign_23 : decode cX10_sign 23 = .ok (.goto 28, 3) := by decide +kernel
theorem dX10_sign_26 : decode cX10_sign 26 = .ok (.iload_n 0, 1) := by decide +kernel
theorem dX10_sign_27 : decode cX10_sign 27 = .ok (.bipush 62, 2) := by decide +kernel
theorem dX10_sign_29 : decode cX10_sign 29 = .ok (.if_icmp .ge 9, 3) := by decide +kernel
theorem dX10_sign_32 : decode cX10_sign 32 = .ok (.iload_n 0, 1) := by decide +kernel
theorem dX10_sign_33 : decode cX10_sign 33 = .ok (.iconst 4, 1) := by decide +kernel
theorem dX10_sign_34 : decode cX10_sign 34 = .ok (.isub, 1) := by decide +kernel
theorem dX10_sign_35 : decode cX10_sign 35 = .ok (.goto 16, 3) := by decide +kernel
theorem dX10_sign_38 : decode cX10_sign 38 = .ok (.iload_n 0, 1) := by decide +kernel
theorem dX10_sign_39 : decode cX10_sign 39 = .ok (.bipush 62, 2) := by decide +kernel
theorem dX10_sign_41 : decode cX10_sign 41 = .ok (.if_icmp .ne 8, 3) := by decide +kernel
theorem dX10_sign_44 : decode cX10_sign 44 = .ok (.bipush 43, 2) := by decide +kernel
theorem dX10_sign_46 : decode cX10_sign 46 = .ok (.goto 5, 3) := by decide +kernel
theorem dX10_sign_49 : decode cX10_sign 49 = .ok (.bipush 47, 2) := by decide +kernel
theorem dX10_sign_51 : decode cX10_sign 51 = .ok (.ireturn, 1) := by decide +kernel
theorem dX10_six_0 : decode cX10_six 0 = .ok (.iconst (-1), 1) := by decide +kernel
theorem dX10_six_1 : decode cX10_six 1 = .ok (.istore_n 1, 1) := by decide +kernel
theorem dX10_six_2 : decode cX10_six 2 = .ok (.iconst 0, 1) := by decide +kernel
theorem dX10_six_3 : decode cX10_six 3 = .ok (.istore_n 2, 1) := by decide +kernel
theorem dX10_six_4 : decode cX10_six 4 = .ok (.iload_n 2, 1) := by decide +kernel
theorem dX10_six_5 : decode cX10_six 5 = .ok (.bipush 64, 2) := by decide +kernel
theorem dX10_six_7 : decode cX10_six 7 = .ok (.if_icmp .ge 23, 3) := by decide +kernel
theorem dX10_six_10 : decode cX10_six 10 = .ok (.iload_n 2, 1) := by decide +kernel
theorem dX10_six_11 : decode cX10_six 11 = .ok (.invokestatic 182, 3) := by decide +kernel
theorem dX10_six_14 : decode cX10_six 14 = .ok (.iload_n 0, 1) := by decide +kernel
theorem dX10_six_15 : decode cX10_six 15 = .ok (.if_icmp .ne 7, 3) := by decide +kernel
theorem dX10_six_18 : decode cX10_six 18 = .ok (.iload_n 2, 1) := by decide +kernel
theorem dX10_six_19 : decode cX10_six 19 = .ok (.goto 4, 3) := by decide +kernel
theorem dX10_six_22 : decode cX10_six 22 = .ok (.iload_n 1, 1) := by decide +kernel
theorem dX10_six_23 : decode cX10_six 23 = .ok (.istore_n 1, 1) := by decide +kernel
theorem dX10_six_24 : decode cX10_six 24 = .ok (.iinc 2 1, 3) := by decide +kernel
theorem dX10_six_27 : decode cX10_six 27 = .ok (.goto (-23), 3) := by decide +kernel
theorem dX10_six_30 : decode cX10_six 30 = .ok (.iload_n 1, 1) := by decide +kernel
theorem dX10_six_31 : decode cX10_six 31 = .ok (.ireturn, 1) := by decide +kernel
theorem dX10_encodeSeven_0 : decode cX10_encodeSeven 0 = .ok (.aload_n 0, 1) := by decide +kernel
theorem dX10_encodeSeven_1 : decode cX10_encodeSeven 1 = .ok (.getfield 17, 3) := by decide +kernel
theorem dX10_encodeSeven_4 : decode cX10_encodeSeven 4 = .ok (.iconst 0, 1) := by decide +kernel
theorem dX10_encodeSeven_5 : decode cX10_encodeSeven 5 = .ok (.iaload, 1) := by decide +kernel
theorem dX10_encodeSeven_6 : decode cX10_encodeSeven 6 = .ok (.istore_n 1, 1) := by decide +kernel
theorem dX10_encodeSeven_7 : decode cX10_encodeSeven 7 = .ok (.iload_n 1, 1) := by decide +kernel
theorem dX10_encodeSeven_8 : decode cX10_encodeSeven 8 = .ok (.invokestatic 185, 3) := by decide +kernel
theorem dX10_encodeSeven_11 : decode cX10_encodeSeven 11 = .ok (.ifCond .eq 25, 3) := by decide +kernel
theorem dX10_encodeSeven_14 : decode cX10_encodeSeven 14 = .ok (.aload_n 0, 1) := by decide +kernel
theorem dX10_encodeSeven_15 : decode cX10_encodeSeven 15 = .ok (.getfield 72, 3) := by decide +kernel
theorem dX10_encodeSeven_18 : decode cX10_encodeSeven 18 = .ok (.ifCond .eq 7, 3) := by decide +kernel
theorem dX10_encodeSeven_21 : decode cX10_encodeSeven 21 = .ok (.aload_n 0, 1) := by decide +kernel
theorem dX10_encodeSeven_22 : decode cX10_encodeSeven 22 = .ok (.invokevirtual 188, 3) := by decide +kernel
theorem dX10_encodeSeven_25 : decode cX10_encodeSeven 25 = .ok (.aload_n 0, 1) := by decide +kernel
theorem dX10_encodeSeven_26 : decode cX10_encodeSeven 26 = .ok (.iload_n 1, 1) := by decide +kernel
theorem dX10_encodeSeven_27 : decode cX10_encodeSeven 27 = .ok (.invokevirtual 139, 3) := by decide +kernel
theorem dX10_encodeSeven_30 : decode cX10_encodeSeven 30 = .ok (.aload_n 0, 1) := by decide +kernel
theorem dX10_encodeSeven_31 : decode cX10_encodeSeven 31 = .ok (.iconst 1, 1) := by decide +kernel
theorem dX10_encodeSeven_32 : decode cX10_encodeSeven 32 = .ok (.invokevirtual 153, 3) := by decide +kernel
theorem dX10_encodeSeven_35 : decode cX10_encodeSeven 35 = .ok (.ireturn, 1) := by decide +kernel
theorem dX10_encodeSeven_36 : decode cX10_encodeSeven 36 = .ok (.aload_n 0, 1) := by decide +kernel
theorem dX10_encodeSeven_37 : decode cX10_encodeSeven 37 = .ok (.getfield 72, 3) := by decide +kernel
theorem dX10_encodeSeven_40 : decode cX10_encodeSeven 40 = .ok (.ifCond .ne 27, 3) := by decide +kernel
theorem dX10_encodeSeven_43 : decode cX10_encodeSeven 43 = .ok (.aload_n 0, 1) := by decide +kernel
theorem dX10_encodeSeven_44 : decode cX10_encodeSeven 44 = .ok (.bipush 43, 2) := by decide +kernel
theorem dX10_encodeSeven_46 : decode cX10_encodeSeven 46 = .ok (.invokevirtual 139, 3) := by decide +kernel
theorem dX10_encodeSeven_49 : decode cX10_encodeSeven 49 = .ok (.iload_n 1, 1) := by decide +kernel
theorem dX10_encodeSeven_50 : decode cX10_encodeSeven 50 = .ok (.bipush 43, 2) := by decide +kernel
theorem dX10_encodeSeven_52 : decode cX10_encodeSeven 52 = .ok (.if_icmp .ne 15, 3) := by decide +kernel
theorem dX10_encodeSeven_55 : decode cX10_encodeSeven 55 = .ok (.aload_n 0, 1) := by decide +kernel
theorem dX10_encodeSeven_56 : decode cX10_encodeSeven 56 = .ok (.bipush 45, 2) := by decide +kernel
theorem dX10_encodeSeven_58 : decode cX10_encodeSeven 58 = .ok (.invokevirtual 139, 3) := by decide +kernel
theorem dX10_encodeSeven_61 : decode cX10_encodeSeven 61 = .ok (.aload_n 0, 1) := by decide +kernel
theorem dX10_encodeSeven_62 : decode cX10_encodeSeven 62 = .ok (.iconst 1, 1) := by decide +kernel
theorem dX10_encodeSeven_63 : decode cX10_encodeSeven 63 = .ok (.invokevirtual 153, 3) := by decide +kernel
theorem dX10_encodeSeven_66 : decode cX10_encodeSeven 66 = .ok (.ireturn, 1) := by decide +kernel
theorem dX10_encodeSeven_67 : decode cX10_encodeSeven 67 = .ok (.aload_n 0, 1) := by decide +kernel
theorem dX10_encodeSeven_68 : decode cX10_encodeSeven 68 = .ok (.iconst 1, 1) := by decide +kernel
theorem dX10_encodeSeven_69 : decode cX10_encodeSeven 69 = .ok (.putfield 98, 3) := by decide +kernel
theorem dX10_encodeSeven_72 : decode cX10_encodeSeven 72 = .ok (.aload_n 0, 1) := by decide +kernel
theorem dX10_encodeSeven_73 : decode cX10_encodeSeven 73 = .ok (.aload_n 0, 1) := by decide +kernel
theorem dX10_encodeSeven_74 : decode cX10_encodeSeven 74 = .ok (.getfield 72, 3) := by decide +kernel
theorem dX10_encodeSeven_77 : decode cX10_encodeSeven 77 = .ok (.ifCond .eq 13, 3) := by decide +kernel
theorem dX10_encodeSeven_80 : decode cX10_encodeSeven 80 = .ok (.aload_n 0, 1) := by decide +kernel
theorem dX10_encodeSeven_81 : decode cX10_encodeSeven 81 = .ok (.getfield 78, 3) := by decide +kernel
theorem dX10_encodeSeven_84 : decode cX10_encodeSeven 84 = .ok (.bipush 16, 2) := by decide +kernel
theorem dX10_encodeSeven_86 : decode cX10_encodeSeven 86 = .ok (.iadd, 1) := by decide +kernel
theorem dX10_encodeSeven_87 : decode cX10_encodeSeven 87 = .ok (.goto 5, 3) := by decide +kernel
theorem dX10_encodeSeven_90 : decode cX10_encodeSeven 90 = .ok (.bipush 16, 2) := by decide +kernel
theorem dX10_encodeSeven_92 : decode cX10_encodeSeven 92 = .ok (.putfield 104, 3) := by decide +kernel
theorem dX10_encodeSeven_95 : decode cX10_encodeSeven 95 = .ok (.aload_n 0, 1) := by decide +kernel
theorem dX10_encodeSeven_96 : decode cX10_encodeSeven 96 = .ok (.aload_n 0, 1) := by decide +kernel
theorem dX10_encodeSeven_97 : decode cX10_encodeSeven 97 = .ok (.getfield 72, 3) := by decide +kernel
theorem dX10_encodeSeven_100 : decode cX10_encodeSeven 100 = .ok (.ifCond .eq 10, 3) := by decide +kernel
theorem dX10_encodeSeven_103 : decode cX10_encodeSeven 103 = .ok (.aload_n 0, 1) := by decide +kernel
theorem dX10_encodeSeven_104 : decode cX10_encodeSeven 104 = .ok (.getfield 81, 3) := by decide +kernel
theorem dX10_encodeSeven_107 : decode cX10_encodeSeven 107 = .ok (.goto 4, 3) := by decide +kernel
theorem dX10_encodeSeven_110 : decode cX10_encodeSeven 110 = .ok (.iconst 0, 1) := by decide +kernel
theorem dX10_encodeSeven_111 : decode cX10_encodeSeven 111 = .ok (.ldc 138, 2) := by decide +kernel
theorem dX10_encodeSeven_113 : decode cX10_encodeSeven 113 = .ok (.imul, 1) := by decide +kernel
theorem dX10_encodeSeven_114 : decode cX10_encodeSeven 114 = .ok (.iload_n 1, 1) := by decide +kernel
theorem dX10_encodeSeven_115 : decode cX10_encodeSeven 115 = .ok (.iadd, 1) := by decide +kernel
theorem dX10_encodeSeven_116 : decode cX10_encodeSeven 116 = .ok (.putfield 107, 3) := by decide +kernel
theorem dX10_encodeSeven_119 : decode cX10_encodeSeven 119 = .ok (.aload_n 0, 1) := by decide +kernel
theorem dX10_encodeSeven_120 : decode cX10_encodeSeven 120 = .ok (.getfield 104, 3) := by decide +kernel
theorem dX10_encodeSeven_123 : decode cX10_encodeSeven 123 = .ok (.bipush 6, 2) := by decide +kernel
theorem dX10_encodeSeven_125 : decode cX10_encodeSeven 125 = .ok (.if_icmp .lt 50, 3) := by decide +kernel
theorem dX10_encodeSeven_128 : decode cX10_encodeSeven 128 = .ok (.aload_n 0, 1) := by decide +kernel
theorem dX10_encodeSeven_129 : decode cX10_encodeSeven 129 = .ok (.dup, 1) := by decide +kernel
theorem dX10_encodeSeven_130 : decode cX10_encodeSeven 130 = .ok (.getfield 104, 3) := by decide +kernel
theorem dX10_encodeSeven_133 : decode cX10_encodeSeven 133 = .ok (.bipush 6, 2) := by decide +kernel
theorem dX10_encodeSeven_135 : decode cX10_encodeSeven 135 = .ok (.isub, 1) := by decide +kernel
theorem dX10_encodeSeven_136 : decode cX10_encodeSeven 136 = .ok (.putfield 104, 3) := by decide +kernel
theorem dX10_encodeSeven_139 : decode cX10_encodeSeven 139 = .ok (.aload_n 0, 1) := by decide +kernel
theorem dX10_encodeSeven_140 : decode cX10_encodeSeven 140 = .ok (.aload_n 0, 1) := by decide +kernel
theorem dX10_encodeSeven_141 : decode cX10_encodeSeven 141 = .ok (.getfield 107, 3) := by decide +kernel
theorem dX10_encodeSeven_144 : decode cX10_encodeSeven 144 = .ok (.aload_n 0, 1) := by decide +kernel
theorem dX10_encodeSeven_145 : decode cX10_encodeSeven 145 = .ok (.getfield 104, 3) := by decide +kernel
theorem dX10_encodeSeven_148 : decode cX10_encodeSeven 148 = .ok (.ishr, 1) := by decide +kernel
theorem dX10_encodeSeven_149 : decode cX10_encodeSeven 149 = .ok (.invokestatic 182, 3) := by decide +kernel
theorem dX10_encodeSeven_152 : decode cX10_encodeSeven 152 = .ok (.invokevirtual 139, 3) := by decide +kernel
theorem dX10_encodeSeven_155 : decode cX10_encodeSeven 155 = .ok (.aload_n 0, 1) := by decide +kernel
theorem dX10_encodeSeven_156 : decode cX10_encodeSeven 156 = .ok (.aload_n 0, 1) := by decide +kernel
theorem dX10_encodeSeven_157 : decode cX10_encodeSeven 157 = .ok (.getfield 107, 3) := by decide +kernel
theorem dX10_encodeSeven_160 : decode cX10_encodeSeven 160 = .ok (.iconst 1, 1) := by decide +kernel
theorem dX10_encodeSeven_161 : decode cX10_encodeSeven 161 = .ok (.aload_n 0, 1) := by decide +kernel
theorem dX10_encodeSeven_162 : decode cX10_encodeSeven 162 = .ok (.getfield 104, 3) := by decide +kernel
theorem dX10_encodeSeven_165 : decode cX10_encodeSeven 165 = .ok (.ishl, 1) := by decide +kernel
theorem dX10_encodeSeven_166 : decode cX10_encodeSeven 166 = .ok (.iconst 1, 1) := by decide +kernel
theorem dX10_encodeSeven_167 : decode cX10_encodeSeven 167 = .ok (.isub, 1) := by decide +kernel
theorem dX10_encodeSeven_168 : decode cX10_encodeSeven 168 = .ok (.iand, 1) := by decide +kernel
theorem dX10_encodeSeven_169 : decode cX10_encodeSeven 169 = .ok (.putfield 107, 3) := by decide +kernel
theorem dX10_encodeSeven_172 : decode cX10_encodeSeven 172 = .ok (.goto (-53), 3) := by decide +kernel
theorem dX10_encodeSeven_175 : decode cX10_encodeSeven 175 = .ok (.aload_n 0, 1) := by decide +kernel
theorem dX10_encodeSeven_176 : decode cX10_encodeSeven 176 = .ok (.iconst 1, 1) := by decide +kernel
theorem dX10_encodeSeven_177 : decode cX10_encodeSeven 177 = .ok (.invokevirtual 153, 3) := by decide +kernel
theorem dX10_encodeSeven_180 : decode cX10_encodeSeven 180 = .ok (.ireturn, 1) := by decide +kernel
theorem dX10_unshift_0 : decode cX10_unshift 0 = .ok (.aload_n 0, 1) := by decide +kernel
theorem dX10_unshift_1 : decode cX10_unshift 1 = .ok (.getfield 78, 3) := by decide +kernel
theorem dX10_unshift_4 : decode cX10_unshift 4 = .ok (.ifCond .le 22, 3) := by decide +kernel
theorem dX10_unshift_7 : decode cX10_unshift 7 = .ok (.aload_n 0, 1) := by decide +kernel
theorem dX10_unshift_8 : decode cX10_unshift 8 = .ok (.aload_n 0, 1) := by decide +kernel
theorem dX10_unshift_9 : decode cX10_unshift 9 = .ok (.getfield 81, 3) := by decide +kernel
theorem dX10_unshift_12 : decode cX10_unshift 12 = .ok (.bipush 6, 2) := by decide +kernel
theorem dX10_unshift_14 : decode cX10_unshift 14 = .ok (.aload_n 0, 1) := by decide +kernel
theorem dX10_unshift_15 : decode cX10_unshift 15 = .ok (.getfield 78, 3) := by decide +kernel
theorem dX10_unshift_18 : decode cX10_unshift 18 = .ok (.isub, 1) := by decide +kernel
theorem dX10_unshift_19 : decode cX10_unshift 19 = .ok (.ishl, 1) := by decide +kernel
theorem dX10_unshift_20 : decode cX10_unshift 20 = .ok (.invokestatic 182, 3) := by decide +kernel
theorem dX10_unshift_23 : decode cX10_unshift 23 = .ok (.invokevirtual 139, 3) := by decide +kernel
theorem dX10_unshift_26 : decode cX10_unshift 26 = .ok (.aload_n 0, 1) := by decide +kernel
theorem dX10_unshift_27 : decode cX10_unshift 27 = .ok (.bipush 45, 2) := by decide +kernel
theorem dX10_unshift_29 : decode cX10_unshift 29 = .ok (.invokevirtual 139, 3) := by decide +kernel
theorem dX10_unshift_32 : decode cX10_unshift 32 = .ok (.aload_n 0, 1) := by decide +kernel
theorem dX10_unshift_33 : decode cX10_unshift 33 = .ok (.iconst 0, 1) := by decide +kernel
theorem dX10_unshift_34 : decode cX10_unshift 34 = .ok (.putfield 98, 3) := by decide +kernel
theorem dX10_unshift_37 : decode cX10_unshift 37 = .ok (.aload_n 0, 1) := by decide +kernel
theorem dX10_unshift_38 : decode cX10_unshift 38 = .ok (.iconst 0, 1) := by decide +kernel
theorem dX10_unshift_39 : decode cX10_unshift 39 = .ok (.putfield 104, 3) := by decide +kernel
theorem dX10_unshift_42 : decode cX10_unshift 42 = .ok (.aload_n 0, 1) := by decide +kernel
theorem dX10_unshift_43 : decode cX10_unshift 43 = .ok (.iconst 0, 1) := by decide +kernel
theorem dX10_unshift_44 : decode cX10_unshift 44 = .ok (.putfield 107, 3) := by decide +kernel
theorem dX10_unshift_47 : decode cX10_unshift 47 = .ok (.return_, 1) := by decide +kernel
theorem dX10_decodeSeven_0 : decode cX10_decodeSeven 0 = .ok (.aload_n 0, 1) := by decide +kernel
theorem dX10_decodeSeven_1 : decode cX10_decodeSeven 1 = .ok (.getfield 17, 3) := by decide +kernel
theorem dX10_decodeSeven_4 : decode cX10_decodeSeven 4 = .ok (.iconst 0, 1) := by decide +kernel
theorem dX10_decodeSeven_5 : decode cX10_decodeSeven 5 = .ok (.iaload, 1) := by decide +kernel
theorem dX10_decodeSeven_6 : decode cX10_decodeSeven 6 = .ok (.istore_n 1, 1) := by decide +kernel
theorem dX10_decodeSeven_7 : decode cX10_decodeSeven 7 = .ok (.iload_n 1, 1) := by decide +kernel
theorem dX10_decodeSeven_8 : decode cX10_decodeSeven 8 = .ok (.sipush 128, 3) := by decide +kernel
theorem dX10_decodeSeven_11 : decode cX10_decodeSeven 11 = .ok (.if_icmp .lt 10, 3) := by decide +kernel
theorem dX10_decodeSeven_14 : decode cX10_decodeSeven 14 = .ok (.aload_n 0, 1) := by decide +kernel
theorem dX10_decodeSeven_15 : decode cX10_decodeSeven 15 = .ok (.iconst 2, 1) := by decide +kernel
theorem dX10_decodeSeven_16 : decode cX10_decodeSeven 16 = .ok (.iconst 1, 1) := by decide +kernel
theorem dX10_decodeSeven_17 : decode cX10_decodeSeven 17 = .ok (.invokevirtual 157, 3) := by decide +kernel
theorem dX10_decodeSeven_20 : decode cX10_decodeSeven 20 = .ok (.ireturn, 1) := by decide +kernel
theorem dX10_decodeSeven_21 : decode cX10_decodeSeven 21 = .ok (.aload_n 0, 1) := by decide +kernel
theorem dX10_decodeSeven_22 : decode cX10_decodeSeven 22 = .ok (.getfield 72, 3) := by decide +kernel
theorem dX10_decodeSeven_25 : decode cX10_decodeSeven 25 = .ok (.ifCond .ne 43, 3) := by decide +kernel
theorem dX10_decodeSeven_28 : decode cX10_decodeSeven 28 = .ok (.iload_n 1, 1) := by decide +kernel
theorem dX10_decodeSeven_29 : decode cX10_decodeSeven 29 = .ok (.bipush 43, 2) := by decide +kernel
theorem dX10_decodeSeven_31 : decode cX10_decodeSeven 31 = .ok (.if_icmp .ne 26, 3) := by decide +kernel
theorem dX10_decodeSeven_34 : decode cX10_decodeSeven 34 = .ok (.aload_n 0, 1) := by decide +kernel
theorem dX10_decodeSeven_35 : decode cX10_decodeSeven 35 = .ok (.iconst 1, 1) := by decide +kernel
theorem dX10_decodeSeven_36 : decode cX10_decodeSeven 36 = .ok (.putfield 98, 3) := by decide +kernel
theorem dX10_decodeSeven_39 : decode cX10_decodeSeven 39 = .ok (.aload_n 0, 1) := by decide +kernel
theorem dX10_decodeSeven_40 : decode cX10_decodeSeven 40 = .ok (.iconst 1, 1) := by decide +kernel
theorem dX10_decodeSeven_41 : decode cX10_decodeSeven 41 = .ok (.putfield 101, 3) := by decide +kernel
theorem dX10_decodeSeven_44 : decode cX10_decodeSeven 44 = .ok (.aload_n 0, 1) := by decide +kernel
theorem dX10_decodeSeven_45 : decode cX10_decodeSeven 45 = .ok (.iconst 0, 1) := by decide +kernel
theorem dX10_decodeSeven_46 : decode cX10_decodeSeven 46 = .ok (.putfield 104, 3) := by decide +kernel
theorem dX10_decodeSeven_49 : decode cX10_decodeSeven 49 = .ok (.aload_n 0, 1) := by decide +kernel
theorem dX10_decodeSeven_50 : decode cX10_decodeSeven 50 = .ok (.iconst 0, 1) := by decide +kernel
theorem dX10_decodeSeven_51 : decode cX10_decodeSeven 51 = .ok (.putfield 107, 3) := by decide +kernel
theorem dX10_decodeSeven_54 : decode cX10_decodeSeven 54 = .ok (.goto 8, 3) := by decide +kernel
theorem dX10_decodeSeven_57 : decode cX10_decodeSeven 57 = .ok (.aload_n 0, 1) := by decide +kernel
theorem dX10_decodeSeven_58 : decode cX10_decodeSeven 58 = .ok (.iload_n 1, 1) := by decide +kernel
theorem dX10_decodeSeven_59 : decode cX10_decodeSeven 59 = .ok (.invokevirtual 139, 3) := by decide +kernel
theorem dX10_decodeSeven_62 : decode cX10_decodeSeven 62 = .ok (.aload_n 0, 1) := by decide +kernel
theorem dX10_decodeSeven_63 : decode cX10_decodeSeven 63 = .ok (.iconst 1, 1) := by decide +kernel
theorem dX10_decodeSeven_64 : decode cX10_decodeSeven 64 = .ok (.invokevirtual 153, 3) := by decide +kernel
theorem dX10_decodeSeven_67 : decode cX10_decodeSeven 67 = .ok (.ireturn, 1) := by decide +kernel
theorem dX10_decodeSeven_68 : decode cX10_decodeSeven 68 = .ok (.iload_n 1, 1) := by decide +kernel
theorem dX10_decodeSeven_69 : decode cX10_decodeSeven 69 = .ok (.invokestatic 191, 3) := by decide +kernel
theorem dX10_decodeSeven_72 : decode cX10_decodeSeven 72 = .ok (.istore_n 2, 1) := by decide +kernel
theorem dX10_decodeSeven_73 : decode cX10_decodeSeven 73 = .ok (.iload_n 2, 1) := by decide +kernel
theorem dX10_decodeSeven_74 : decode cX10_decodeSeven 74 = .ok (.ifCond .lt 88, 3) := by decide +kernel
theorem dX10_decodeSeven_77 : decode cX10_decodeSeven 77 = .ok (.aload_n 0, 1) := by decide +kernel
theorem dX10_decodeSeven_78 : decode cX10_decodeSeven 78 = .ok (.iconst 0, 1) := by decide +kernel
theorem dX10_decodeSeven_79 : decode cX10_decodeSeven 79 = .ok (.putfield 101, 3) := by decide +kernel
theorem dX10_decodeSeven_82 : decode cX10_decodeSeven 82 = .ok (.aload_n 0, 1) := by decide +kernel
theorem dX10_decodeSeven_83 : decode cX10_decodeSeven 83 = .ok (.aload_n 0, 1) := by decide +kernel
theorem dX10_decodeSeven_84 : decode cX10_decodeSeven 84 = .ok (.getfield 78, 3) := by decide +kernel
theorem dX10_decodeSeven_87 : decode cX10_decodeSeven 87 = .ok (.bipush 6, 2) := by decide +kernel
theorem dX10_decodeSeven_89 : decode cX10_decodeSeven 89 = .ok (.iadd, 1) := by decide +kernel
theorem dX10_decodeSeven_90 : decode cX10_decodeSeven 90 = .ok (.putfield 104, 3) := by decide +kernel
theorem dX10_decodeSeven_93 : decode cX10_decodeSeven 93 = .ok (.aload_n 0, 1) := by decide +kernel
theorem dX10_decodeSeven_94 : decode cX10_decodeSeven 94 = .ok (.bipush 64, 2) := by decide +kernel
theorem dX10_decodeSeven_96 : decode cX10_decodeSeven 96 = .ok (.aload_n 0, 1) := by decide +kernel
theorem dX10_decodeSeven_97 : decode cX10_decodeSeven 97 = .ok (.getfield 81, 3) := by decide +kernel
theorem dX10_decodeSeven_100 : decode cX10_decodeSeven 100 = .ok (.imul, 1) := by decide +kernel
theorem dX10_decodeSeven_101 : decode cX10_decodeSeven 101 = .ok (.iload_n 2, 1) := by decide +kernel
theorem dX10_decodeSeven_102 : decode cX10_decodeSeven 102 = .ok (.iadd, 1) := by decide +kernel
theorem dX10_decodeSeven_103 : decode cX10_decodeSeven 103 = .ok (.putfield 107, 3) := by decide +kernel
theorem dX10_decodeSeven_106 : decode cX10_decodeSeven 106 = .ok (.aload_n 0, 1) := by decide +kernel
theorem dX10_decodeSeven_107 : decode cX10_decodeSeven 107 = .ok (.getfield 104, 3) := by decide +kernel
theorem dX10_decodeSeven_110 : decode cX10_decodeSeven 110 = .ok (.bipush 16, 2) := by decide +kernel
theorem dX10_decodeSeven_112 : decode cX10_decodeSeven 112 = .ok (.if_icmp .lt 44, 3) := by decide +kernel
theorem dX10_decodeSeven_115 : decode cX10_decodeSeven 115 = .ok (.aload_n 0, 1) := by decide +kernel
theorem dX10_decodeSeven_116 : decode cX10_decodeSeven 116 = .ok (.dup, 1) := by decide +kernel
theorem dX10_decodeSeven_117 : decode cX10_decodeSeven 117 = .ok (.getfield 104, 3) := by decide +kernel
theorem dX10_decodeSeven_120 : decode cX10_decodeSeven 120 = .ok (.bipush 16, 2) := by decide +kernel
theorem dX10_decodeSeven_122 : decode cX10_decodeSeven 122 = .ok (.isub, 1) := by decide +kernel
theorem dX10_decodeSeven_123 : decode cX10_decodeSeven 123 = .ok (.putfield 104, 3) := by decide +kernel
theorem dX10_decodeSeven_126 : decode cX10_decodeSeven 126 = .ok (.aload_n 0, 1) := by decide +kernel
theorem dX10_decodeSeven_127 : decode cX10_decodeSeven 127 = .ok (.aload_n 0, 1) := by decide +kernel
theorem dX10_decodeSeven_128 : decode cX10_decodeSeven 128 = .ok (.getfield 107, 3) := by decide +kernel
theorem dX10_decodeSeven_131 : decode cX10_decodeSeven 131 = .ok (.aload_n 0, 1) := by decide +kernel
theorem dX10_decodeSeven_132 : decode cX10_decodeSeven 132 = .ok (.getfield 104, 3) := by decide +kernel
theorem dX10_decodeSeven_135 : decode cX10_decodeSeven 135 = .ok (.ishr, 1) := by decide +kernel
theorem dX10_decodeSeven_136 : decode cX10_decodeSeven 136 = .ok (.invokevirtual 139, 3) := by decide +kernel
theorem dX10_decodeSeven_139 : decode cX10_decodeSeven 139 = .ok (.aload_n 0, 1) := by decide +kernel
theorem dX10_decodeSeven_140 : decode cX10_decodeSeven 140 = .ok (.aload_n 0, 1) := by decide +kernel
theorem dX10_decodeSeven_141 : decode cX10_decodeSeven 141 = .ok (.getfield 107, 3) := by decide +kernel
theorem dX10_decodeSeven_144 : decode cX10_decodeSeven 144 = .ok (.iconst 1, 1) := by decide +kernel
theorem dX10_decodeSeven_145 : decode cX10_decodeSeven 145 = .ok (.aload_n 0, 1) := by decide +kernel
theorem dX10_decodeSeven_146 : decode cX10_decodeSeven 146 = .ok (.getfield 104, 3) := by decide +kernel
theorem dX10_decodeSeven_149 : decode cX10_decodeSeven 149 = .ok (.ishl, 1) := by decide +kernel
theorem dX10_decodeSeven_150 : decode cX10_decodeSeven 150 = .ok (.iconst 1, 1) := by decide +kernel
theorem dX10_decodeSeven_151 : decode cX10_decodeSeven 151 = .ok (.isub, 1) := by decide +kernel
theorem dX10_decodeSeven_152 : decode cX10_decodeSeven 152 = .ok (.iand, 1) := by decide +kernel
theorem dX10_decodeSeven_153 : decode cX10_decodeSeven 153 = .ok (.putfield 107, 3) := by decide +kernel
theorem dX10_decodeSeven_156 : decode cX10_decodeSeven 156 = .ok (.aload_n 0, 1) := by decide +kernel
theorem dX10_decodeSeven_157 : decode cX10_decodeSeven 157 = .ok (.iconst 1, 1) := by decide +kernel
theorem dX10_decodeSeven_158 : decode cX10_decodeSeven 158 = .ok (.invokevirtual 153, 3) := by decide +kernel
theorem dX10_decodeSeven_161 : decode cX10_decodeSeven 161 = .ok (.ireturn, 1) := by decide +kernel
theorem dX10_decodeSeven_162 : decode cX10_decodeSeven 162 = .ok (.aload_n 0, 1) := by decide +kernel
theorem dX10_decodeSeven_163 : decode cX10_decodeSeven 163 = .ok (.getfield 78, 3) := by decide +kernel
theorem dX10_decodeSeven_166 : decode cX10_decodeSeven 166 = .ok (.bipush 6, 2) := by decide +kernel
theorem dX10_decodeSeven_168 : decode cX10_decodeSeven 168 = .ok (.if_icmp .ge 10, 3) := by decide +kernel
theorem dX10_decodeSeven_171 : decode cX10_decodeSeven 171 = .ok (.aload_n 0, 1) := by decide +kernel
theorem dX10_decodeSeven_172 : decode cX10_decodeSeven 172 = .ok (.getfield 81, 3) := by decide +kernel
theorem dX10_decodeSeven_175 : decode cX10_decodeSeven 175 = .ok (.ifCond .eq 7, 3) := by decide +kernel
theorem dX10_decodeSeven_178 : decode cX10_decodeSeven 178 = .ok (.iconst 1, 1) := by decide +kernel
theorem dX10_decodeSeven_179 : decode cX10_decodeSeven 179 = .ok (.goto 4, 3) := by decide +kernel
theorem dX10_decodeSeven_182 : decode cX10_decodeSeven 182 = .ok (.iconst 0, 1) := by decide +kernel
theorem dX10_decodeSeven_183 : decode cX10_decodeSeven 183 = .ok (.istore_n 3, 1) := by decide +kernel
theorem dX10_decodeSeven_184 : decode cX10_decodeSeven 184 = .ok (.aload_n 0, 1) := by decide +kernel
theorem dX10_decodeSeven_185 : decode cX10_decodeSeven 185 = .ok (.getfield 75, 3) := by decide +kernel
theorem dX10_decodeSeven_188 : decode cX10_decodeSeven 188 = .ok (.ifCond .eq 12, 3) := by decide +kernel
theorem dX10_decodeSeven_191 : decode cX10_decodeSeven 191 = .ok (.iload_n 1, 1) := by decide +kernel
theorem dX10_decodeSeven_192 : decode cX10_decodeSeven 192 = .ok (.bipush 45, 2) := by decide +kernel
theorem dX10_decodeSeven_194 : decode cX10_decodeSeven 194 = .ok (.if_icmp .eq 17, 3) := by decide +kernel
theorem dX10_decodeSeven_197 : decode cX10_decodeSeven 197 = .ok (.goto 7, 3) := by decide +kernel
theorem dX10_decodeSeven_200 : decode cX10_decodeSeven 200 = .ok (.iload_n 3, 1) := by decide +kernel
theorem dX10_decodeSeven_201 : decode cX10_decodeSeven 201 = .ok (.ifCond .eq 10, 3) := by decide +kernel
theorem dX10_decodeSeven_204 : decode cX10_decodeSeven 204 = .ok (.aload_n 0, 1) := by decide +kernel
theorem dX10_decodeSeven_205 : decode cX10_decodeSeven 205 = .ok (.iconst 2, 1) := by decide +kernel
theorem dX10_decodeSeven_206 : decode cX10_decodeSeven 206 = .ok (.iconst 1, 1) := by decide +kernel
theorem dX10_decodeSeven_207 : decode cX10_decodeSeven 207 = .ok (.invokevirtual 157, 3) := by decide +kernel
theorem dX10_decodeSeven_210 : decode cX10_decodeSeven 210 = .ok (.ireturn, 1) := by decide +kernel
theorem dX10_decodeSeven_211 : decode cX10_decodeSeven 211 = .ok (.iload_n 1, 1) := by decide +kernel
theorem dX10_decodeSeven_212 : decode cX10_decodeSeven 212 = .ok (.bipush 45, 2) := by decide +kernel
theorem dX10_decodeSeven_214 : decode cX10_decodeSeven 214 = .ok (.if_icmp .ne 10, 3) := by decide +kernel
theorem dX10_decodeSeven_217 : decode cX10_decodeSeven 217 = .ok (.aload_n 0, 1) := by decide +kernel
theorem dX10_decodeSeven_218 : decode cX10_decodeSeven 218 = .ok (.getfield 75, 3) := by decide +kernel
theorem dX10_decodeSeven_221 : decode cX10_decodeSeven 221 = .ok (.ifCond .eq 20, 3) := by decide +kernel
theorem dX10_decodeSeven_224 : decode cX10_decodeSeven 224 = .ok (.aload_n 0, 1) := by decide +kernel
theorem dX10_decodeSeven_225 : decode cX10_decodeSeven 225 = .ok (.aload_n 0, 1) := by decide +kernel
theorem dX10_decodeSeven_226 : decode cX10_decodeSeven 226 = .ok (.getfield 75, 3) := by decide +kernel
theorem dX10_decodeSeven_229 : decode cX10_decodeSeven 229 = .ok (.ifCond .eq 8, 3) := by decide +kernel
theorem dX10_decodeSeven_232 : decode cX10_decodeSeven 232 = .ok (.bipush 43, 2) := by decide +kernel
theorem dX10_decodeSeven_234 : decode cX10_decodeSeven 234 = .ok (.goto 4, 3) := by decide +kernel
theorem dX10_decodeSeven_237 : decode cX10_decodeSeven 237 = .ok (.iload_n 1, 1) := by decide +kernel
theorem dX10_decodeSeven_238 : decode cX10_decodeSeven 238 = .ok (.invokevirtual 139, 3) := by decide +kernel
theorem dX10_decodeSeven_241 : decode cX10_decodeSeven 241 = .ok (.aload_n 0, 1) := by decide +kernel
theorem dX10_decodeSeven_242 : decode cX10_decodeSeven 242 = .ok (.iconst 0, 1) := by decide +kernel
theorem dX10_decodeSeven_243 : decode cX10_decodeSeven 243 = .ok (.putfield 98, 3) := by decide +kernel
theorem dX10_decodeSeven_246 : decode cX10_decodeSeven 246 = .ok (.aload_n 0, 1) := by decide +kernel
theorem dX10_decodeSeven_247 : decode cX10_decodeSeven 247 = .ok (.iconst 0, 1) := by decide +kernel
theorem dX10_decodeSeven_248 : decode cX10_decodeSeven 248 = .ok (.putfield 101, 3) := by decide +kernel
theorem dX10_decodeSeven_251 : decode cX10_decodeSeven 251 = .ok (.aload_n 0, 1) := by decide +kernel
theorem dX10_decodeSeven_252 : decode cX10_decodeSeven 252 = .ok (.iconst 0, 1) := by decide +kernel
theorem dX10_decodeSeven_253 : decode cX10_decodeSeven 253 = .ok (.putfield 104, 3) := by decide +kernel
theorem dX10_decodeSeven_256 : decode cX10_decodeSeven 256 = .ok (.aload_n 0, 1) := by decide +kernel
theorem dX10_decodeSeven_257 : decode cX10_decodeSeven 257 = .ok (.iconst 0, 1) := by decide +kernel
theorem dX10_decodeSeven_258 : decode cX10_decodeSeven 258 = .ok (.putfield 107, 3) := by decide +kernel
theorem dX10_decodeSeven_261 : decode cX10_decodeSeven 261 = .ok (.aload_n 0, 1) := by decide +kernel
theorem dX10_decodeSeven_262 : decode cX10_decodeSeven 262 = .ok (.iconst 1, 1) := by decide +kernel
theorem dX10_decodeSeven_263 : decode cX10_decodeSeven 263 = .ok (.invokevirtual 153, 3) := by decide +kernel
theorem dX10_decodeSeven_266 : decode cX10_decodeSeven 266 = .ok (.ireturn, 1) := by decide +kernel
theorem dX10_decodePage_0 : decode cX10_decodePage 0 = .ok (.aload_n 0, 1) := by decide +kernel
theorem dX10_decodePage_1 : decode cX10_decodePage 1 = .ok (.getfield 17, 3) := by decide +kernel
theorem dX10_decodePage_4 : decode cX10_decodePage 4 = .ok (.iconst 0, 1) := by decide +kernel
theorem dX10_decodePage_5 : decode cX10_decodePage 5 = .ok (.iaload, 1) := by decide +kernel
theorem dX10_decodePage_6 : decode cX10_decodePage 6 = .ok (.istore_n 1, 1) := by decide +kernel
theorem dX10_decodePage_7 : decode cX10_decodePage 7 = .ok (.iload_n 1, 1) := by decide +kernel
theorem dX10_decodePage_8 : decode cX10_decodePage 8 = .ok (.sipush 128, 3) := by decide +kernel
theorem dX10_decodePage_11 : decode cX10_decodePage 11 = .ok (.if_icmp .ge 7, 3) := by decide +kernel
theorem dX10_decodePage_14 : decode cX10_decodePage 14 = .ok (.iload_n 1, 1) := by decide +kernel
theorem dX10_decodePage_15 : decode cX10_decodePage 15 = .ok (.goto 13, 3) := by decide +kernel
theorem dX10_decodePage_18 : decode cX10_decodePage 18 = .ok (.aload_n 0, 1) := by decide +kernel
theorem dX10_decodePage_19 : decode cX10_decodePage 19 = .ok (.getfield 7, 3) := by decide +kernel
theorem dX10_decodePage_22 : decode cX10_decodePage 22 = .ok (.iload_n 1, 1) := by decide +kernel
theorem dX10_decodePage_23 : decode cX10_decodePage 23 = .ok (.sipush 128, 3) := by decide +kernel
theorem dX10_decodePage_26 : decode cX10_decodePage 26 = .ok (.isub, 1) := by decide +kernel
theorem dX10_decodePage_27 : decode cX10_decodePage 27 = .ok (.iaload, 1) := by decide +kernel
theorem dX10_decodePage_28 : decode cX10_decodePage 28 = .ok (.istore_n 2, 1) := by decide +kernel
theorem dX10_decodePage_29 : decode cX10_decodePage 29 = .ok (.iload_n 2, 1) := by decide +kernel
theorem dX10_decodePage_30 : decode cX10_decodePage 30 = .ok (.ifCond .ge 10, 3) := by decide +kernel
theorem dX10_decodePage_33 : decode cX10_decodePage 33 = .ok (.aload_n 0, 1) := by decide +kernel
theorem dX10_decodePage_34 : decode cX10_decodePage 34 = .ok (.iconst 3, 1) := by decide +kernel
theorem dX10_decodePage_35 : decode cX10_decodePage 35 = .ok (.iconst 1, 1) := by decide +kernel
theorem dX10_decodePage_36 : decode cX10_decodePage 36 = .ok (.invokevirtual 157, 3) := by decide +kernel
theorem dX10_decodePage_39 : decode cX10_decodePage 39 = .ok (.ireturn, 1) := by decide +kernel
theorem dX10_decodePage_40 : decode cX10_decodePage 40 = .ok (.aload_n 0, 1) := by decide +kernel
theorem dX10_decodePage_41 : decode cX10_decodePage 41 = .ok (.iload_n 2, 1) := by decide +kernel
theorem dX10_decodePage_42 : decode cX10_decodePage 42 = .ok (.invokevirtual 139, 3) := by decide +kernel
theorem dX10_decodePage_45 : decode cX10_decodePage 45 = .ok (.aload_n 0, 1) := by decide +kernel
theorem dX10_decodePage_46 : decode cX10_decodePage 46 = .ok (.iconst 1, 1) := by decide +kernel
theorem dX10_decodePage_47 : decode cX10_decodePage 47 = .ok (.invokevirtual 153, 3) := by decide +kernel
theorem dX10_decodePage_50 : decode cX10_decodePage 50 = .ok (.ireturn, 1) := by decide +kernel
theorem dX10_encodePage_0 : decode cX10_encodePage 0 = .ok (.aload_n 0, 1) := by decide +kernel
theorem dX10_encodePage_1 : decode cX10_encodePage 1 = .ok (.getfield 17, 3) := by decide +kernel
theorem dX10_encodePage_4 : decode cX10_encodePage 4 = .ok (.iconst 0, 1) := by decide +kernel
theorem dX10_encodePage_5 : decode cX10_encodePage 5 = .ok (.iaload, 1) := by decide +kernel
theorem dX10_encodePage_6 : decode cX10_encodePage 6 = .ok (.istore_n 1, 1) := by decide +kernel
theorem dX10_encodePage_7 : decode cX10_encodePage 7 = .ok (.iload_n 1, 1) := by decide +kernel
theorem dX10_encodePage_8 : decode cX10_encodePage 8 = .ok (.sipush 128, 3) := by decide +kernel
theorem dX10_encodePage_11 : decode cX10_encodePage 11 = .ok (.if_icmp .ge 7, 3) := by decide +kernel
theorem dX10_encodePage_14 : decode cX10_encodePage 14 = .ok (.iload_n 1, 1) := by decide +kernel
theorem dX10_encodePage_15 : decode cX10_encodePage 15 = .ok (.goto 4, 3) := by decide +kernel
theorem dX10_encodePage_18 : decode cX10_encodePage 18 = .ok (.iconst (-1), 1) := by decide +kernel
theorem dX10_encodePage_19 : decode cX10_encodePage 19 = .ok (.istore_n 2, 1) := by decide +kernel
theorem dX10_encodePage_20 : decode cX10_encodePage 20 = .ok (.bipush 127, 2) := by decide +kernel
theorem dX10_encodePage_22 : decode cX10_encodePage 22 = .ok (.istore_n 3, 1) := by decide +kernel
theorem dX10_encodePage_23 : decode cX10_encodePage 23 = .ok (.iload_n 3, 1) := by decide +kernel
theorem dX10_encodePage_24 : decode cX10_encodePage 24 = .ok (.ifCond .lt 36, 3) := by decide +kernel
theorem dX10_encodePage_27 : decode cX10_encodePage 27 = .ok (.iload_n 1, 1) := by decide +kernel
theorem dX10_encodePage_28 : decode cX10_encodePage 28 = .ok (.sipush 128, 3) := by decide +kernel
theorem dX10_encodePage_31 : decode cX10_encodePage 31 = .ok (.if_icmp .lt 21, 3) := by decide +kernel
theorem dX10_encodePage_34 : decode cX10_encodePage 34 = .ok (.aload_n 0, 1) := by decide +kernel
theorem dX10_encodePage_35 : decode cX10_encodePage 35 = .ok (.getfield 7, 3) := by decide +kernel
theorem dX10_encodePage_38 : decode cX10_encodePage 38 = .ok (.iload_n 3, 1) := by decide +kernel
theorem dX10_encodePage_39 : decode cX10_encodePage 39 = .ok (.iaload, 1) := by decide +kernel
theorem dX10_encodePage_40 : decode cX10_encodePage 40 = .ok (.iload_n 1, 1) := by decide +kernel
theorem dX10_encodePage_41 : decode cX10_encodePage 41 = .ok (.if_icmp .ne 11, 3) := by decide +kernel
theorem dX10_encodePage_44 : decode cX10_encodePage 44 = .ok (.sipush 128, 3) := by decide +kernel
theorem dX10_encodePage_47 : decode cX10_encodePage 47 = .ok (.iload_n 3, 1) := by decide +kernel
theorem dX10_encodePage_48 : decode cX10_encodePage 48 = .ok (.iadd, 1) := by decide +kernel
theorem dX10_encodePage_49 : decode cX10_encodePage 49 = .ok (.goto 4, 3) := by decide +kernel
theorem dX10_encodePage_52 : decode cX10_encodePage 52 = .ok (.iload_n 2, 1) := by decide +kernel
theorem dX10_encodePage_53 : decode cX10_encodePage 53 = .ok (.istore_n 2, 1) := by decide +kernel
theorem dX10_encodePage_54 : decode cX10_encodePage 54 = .ok (.iinc 3 (-1), 3) := by decide +kernel
theorem dX10_encodePage_57 : decode cX10_encodePage 57 = .ok (.goto (-34), 3) := by decide +kernel
theorem dX10_encodePage_60 : decode cX10_encodePage 60 = .ok (.iload_n 2, 1) := by decide +kernel
theorem dX10_encodePage_61 : decode cX10_encodePage 61 = .ok (.ifCond .lt 14, 3) := by decide +kernel
theorem dX10_encodePage_64 : decode cX10_encodePage 64 = .ok (.aload_n 0, 1) := by decide +kernel
theorem dX10_encodePage_65 : decode cX10_encodePage 65 = .ok (.iload_n 2, 1) := by decide +kernel
theorem dX10_encodePage_66 : decode cX10_encodePage 66 = .ok (.invokevirtual 139, 3) := by decide +kernel
theorem dX10_encodePage_69 : decode cX10_encodePage 69 = .ok (.aload_n 0, 1) := by decide +kernel
theorem dX10_encodePage_70 : decode cX10_encodePage 70 = .ok (.iconst 1, 1) := by decide +kernel
theorem dX10_encodePage_71 : decode cX10_encodePage 71 = .ok (.invokevirtual 153, 3) := by decide +kernel
theorem dX10_encodePage_74 : decode cX10_encodePage 74 = .ok (.ireturn, 1) := by decide +kernel
theorem dX10_encodePage_75 : decode cX10_encodePage 75 = .ok (.iload_n 1, 1) := by decide +kernel
theorem dX10_encodePage_76 : decode cX10_encodePage 76 = .ok (.invokestatic 143, 3) := by decide +kernel
theorem dX10_encodePage_79 : decode cX10_encodePage 79 = .ok (.ifCond .eq 43, 3) := by decide +kernel
theorem dX10_encodePage_82 : decode cX10_encodePage 82 = .ok (.aload_n 0, 1) := by decide +kernel
theorem dX10_encodePage_83 : decode cX10_encodePage 83 = .ok (.getfield 42, 3) := by decide +kernel
theorem dX10_encodePage_86 : decode cX10_encodePage 86 = .ok (.iconst 1, 1) := by decide +kernel
theorem dX10_encodePage_87 : decode cX10_encodePage 87 = .ok (.if_icmp .ne 7, 3) := by decide +kernel
theorem dX10_encodePage_90 : decode cX10_encodePage 90 = .ok (.iconst 1, 1) := by decide +kernel
theorem dX10_encodePage_91 : decode cX10_encodePage 91 = .ok (.goto 30, 3) := by decide +kernel
theorem dX10_encodePage_94 : decode cX10_encodePage 94 = .ok (.aload_n 0, 1) := by decide +kernel
theorem dX10_encodePage_95 : decode cX10_encodePage 95 = .ok (.getfield 17, 3) := by decide +kernel
theorem dX10_encodePage_98 : decode cX10_encodePage 98 = .ok (.iconst 1, 1) := by decide +kernel
theorem dX10_encodePage_99 : decode cX10_encodePage 99 = .ok (.iaload, 1) := by decide +kernel
theorem dX10_encodePage_100 : decode cX10_encodePage 100 = .ok (.invokestatic 147, 3) := by decide +kernel
theorem dX10_encodePage_103 : decode cX10_encodePage 103 = .ok (.ifCond .eq 12, 3) := by decide +kernel
theorem dX10_encodePage_106 : decode cX10_encodePage 106 = .ok (.aload_n 0, 1) := by decide +kernel
theorem dX10_encodePage_107 : decode cX10_encodePage 107 = .ok (.iconst 3, 1) := by decide +kernel
theorem dX10_encodePage_108 : decode cX10_encodePage 108 = .ok (.iconst 2, 1) := by decide +kernel
theorem dX10_encodePage_109 : decode cX10_encodePage 109 = .ok (.invokevirtual 157, 3) := by decide +kernel
theorem dX10_encodePage_112 : decode cX10_encodePage 112 = .ok (.goto 9, 3) := by decide +kernel
theorem dX10_encodePage_115 : decode cX10_encodePage 115 = .ok (.aload_n 0, 1) := by decide +kernel
theorem dX10_encodePage_116 : decode cX10_encodePage 116 = .ok (.iconst 2, 1) := by decide +kernel
theorem dX10_encodePage_117 : decode cX10_encodePage 117 = .ok (.iconst 1, 1) := by decide +kernel
theorem dX10_encodePage_118 : decode cX10_encodePage 118 = .ok (.invokevirtual 157, 3) := by decide +kernel
theorem dX10_encodePage_121 : decode cX10_encodePage 121 = .ok (.ireturn, 1) := by decide +kernel
theorem dX10_encodePage_122 : decode cX10_encodePage 122 = .ok (.iload_n 1, 1) := by decide +kernel
theorem dX10_encodePage_123 : decode cX10_encodePage 123 = .ok (.invokestatic 147, 3) := by decide +kernel
theorem dX10_encodePage_126 : decode cX10_encodePage 126 = .ok (.ifCond .eq 12, 3) := by decide +kernel
theorem dX10_encodePage_129 : decode cX10_encodePage 129 = .ok (.aload_n 0, 1) := by decide +kernel
theorem dX10_encodePage_130 : decode cX10_encodePage 130 = .ok (.iconst 2, 1) := by decide +kernel
theorem dX10_encodePage_131 : decode cX10_encodePage 131 = .ok (.iconst 1, 1) := by decide +kernel
theorem dX10_encodePage_132 : decode cX10_encodePage 132 = .ok (.invokevirtual 157, 3) := by decide +kernel
theorem dX10_encodePage_135 : decode cX10_encodePage 135 = .ok (.goto 9, 3) := by decide +kernel
theorem dX10_encodePage_138 : decode cX10_encodePage 138 = .ok (.aload_n 0, 1) := by decide +kernel
theorem dX10_encodePage_139 : decode cX10_encodePage 139 = .ok (.iconst 3, 1) := by decide +kernel
theorem dX10_encodePage_140 : decode cX10_encodePage 140 = .ok (.iconst 1, 1) := by decide +kernel
theorem dX10_encodePage_141 : decode cX10_encodePage 141 = .ok (.invokevirtual 157, 3) := by decide +kernel
theorem dX10_encodePage_144 : decode cX10_encodePage 144 = .ok (.ireturn, 1) := by decide +kernel
theorem dX10_fits_0 : decode cX10_fits 0 = .ok (.iload_n 1, 1) := by decide +kernel
theorem dX10_fits_1 : decode cX10_fits 1 = .ok (.ifCond .eq 16, 3) := by decide +kernel
theorem dX10_fits_4 : decode cX10_fits 4 = .ok (.aload_n 0, 1) := by decide +kernel
theorem dX10_fits_5 : decode cX10_fits 5 = .ok (.getfield 45, 3) := by decide +kernel
theorem dX10_fits_8 : decode cX10_fits 8 = .ok (.iload_n 1, 1) := by decide +kernel
theorem dX10_fits_9 : decode cX10_fits 9 = .ok (.iadd, 1) := by decide +kernel
theorem dX10_fits_10 : decode cX10_fits 10 = .ok (.aload_n 0, 1) := by decide +kernel
theorem dX10_fits_11 : decode cX10_fits 11 = .ok (.getfield 13, 3) := by decide +kernel
theorem dX10_fits_14 : decode cX10_fits 14 = .ok (.if_icmp .gt 7, 3) := by decide +kernel
theorem dX10_fits_17 : decode cX10_fits 17 = .ok (.iconst 1, 1) := by decide +kernel
theorem dX10_fits_18 : decode cX10_fits 18 = .ok (.goto 4, 3) := by decide +kernel
theorem dX10_fits_21 : decode cX10_fits 21 = .ok (.iconst 0, 1) := by decide +kernel
theorem dX10_fits_22 : decode cX10_fits 22 = .ok (.ireturn, 1) := by decide +kernel
theorem dX10_putOut_0 : decode cX10_putOut 0 = .ok (.iconst 0, 1) := by decide +kernel
theorem dX10_putOut_1 : decode cX10_putOut 1 = .ok (.istore_n 1, 1) := by decide +kernel
theorem dX10_putOut_2 : decode cX10_putOut 2 = .ok (.iload_n 1, 1) := by decide +kernel
theorem dX10_putOut_3 : decode cX10_putOut 3 = .ok (.aload_n 0, 1) := by decide +kernel
theorem dX10_putOut_4 : decode cX10_putOut 4 = .ok (.getfield 92, 3) := by decide +kernel
theorem dX10_putOut_7 : decode cX10_putOut 7 = .ok (.if_icmp .ge 49, 3) := by decide +kernel
theorem dX10_putOut_10 : decode cX10_putOut 10 = .ok (.aload_n 0, 1) := by decide +kernel
theorem dX10_putOut_11 : decode cX10_putOut 11 = .ok (.getfield 20, 3) := by decide +kernel
theorem dX10_putOut_14 : decode cX10_putOut 14 = .ok (.aload_n 0, 1) := by decide +kernel
theorem dX10_putOut_15 : decode cX10_putOut 15 = .ok (.getfield 45, 3) := by decide +kernel
theorem dX10_putOut_18 : decode cX10_putOut 18 = .ok (.aload_n 0, 1) := by decide +kernel
theorem dX10_putOut_19 : decode cX10_putOut 19 = .ok (.getfield 23, 3) := by decide +kernel
theorem dX10_putOut_22 : decode cX10_putOut 22 = .ok (.iload_n 1, 1) := by decide +kernel
theorem dX10_putOut_23 : decode cX10_putOut 23 = .ok (.iaload, 1) := by decide +kernel
theorem dX10_putOut_24 : decode cX10_putOut 24 = .ok (.iastore, 1) := by decide +kernel
theorem dX10_putOut_25 : decode cX10_putOut 25 = .ok (.aload_n 0, 1) := by decide +kernel
theorem dX10_putOut_26 : decode cX10_putOut 26 = .ok (.dup, 1) := by decide +kernel
theorem dX10_putOut_27 : decode cX10_putOut 27 = .ok (.getfield 45, 3) := by decide +kernel
theorem dX10_putOut_30 : decode cX10_putOut 30 = .ok (.iconst 1, 1) := by decide +kernel
theorem dX10_putOut_31 : decode cX10_putOut 31 = .ok (.iadd, 1) := by decide +kernel
theorem dX10_putOut_32 : decode cX10_putOut 32 = .ok (.putfield 45, 3) := by decide +kernel
theorem dX10_putOut_35 : decode cX10_putOut 35 = .ok (.aload_n 0, 1) := by decide +kernel
theorem dX10_putOut_36 : decode cX10_putOut 36 = .ok (.dup, 1) := by decide +kernel
theorem dX10_putOut_37 : decode cX10_putOut 37 = .ok (.getfield 51, 3) := by decide +kernel
theorem dX10_putOut_40 : decode cX10_putOut 40 = .ok (.iconst 1, 1) := by decide +kernel
theorem dX10_putOut_41 : decode cX10_putOut 41 = .ok (.iadd, 1) := by decide +kernel
theorem dX10_putOut_42 : decode cX10_putOut 42 = .ok (.putfield 51, 3) := by decide +kernel
theorem dX10_putOut_45 : decode cX10_putOut 45 = .ok (.aload_n 0, 1) := by decide +kernel
theorem dX10_putOut_46 : decode cX10_putOut 46 = .ok (.iconst 1, 1) := by decide +kernel
theorem dX10_putOut_47 : decode cX10_putOut 47 = .ok (.putfield 66, 3) := by decide +kernel
theorem dX10_putOut_50 : decode cX10_putOut 50 = .ok (.iinc 1 1, 3) := by decide +kernel
theorem dX10_putOut_53 : decode cX10_putOut 53 = .ok (.goto (-51), 3) := by decide +kernel
theorem dX10_putOut_56 : decode cX10_putOut 56 = .ok (.return_, 1) := by decide +kernel
theorem dX10_take_0 : decode cX10_take 0 = .ok (.aload_n 0, 1) := by decide +kernel
theorem dX10_take_1 : decode cX10_take 1 = .ok (.dup, 1) := by decide +kernel
theorem dX10_take_2 : decode cX10_take 2 = .ok (.getfield 42, 3) := by decide +kernel
theorem dX10_take_5 : decode cX10_take 5 = .ok (.iload_n 1, 1) := by decide +kernel
theorem dX10_take_6 : decode cX10_take 6 = .ok (.isub, 1) := by decide +kernel
theorem dX10_take_7 : decode cX10_take 7 = .ok (.putfield 42, 3) := by decide +kernel
theorem dX10_take_10 : decode cX10_take 10 = .ok (.iconst 0, 1) := by decide +kernel
theorem dX10_take_11 : decode cX10_take 11 = .ok (.istore_n 2, 1) := by decide +kernel
theorem dX10_take_12 : decode cX10_take 12 = .ok (.iload_n 2, 1) := by decide +kernel
theorem dX10_take_13 : decode cX10_take 13 = .ok (.aload_n 0, 1) := by decide +kernel
theorem dX10_take_14 : decode cX10_take 14 = .ok (.getfield 42, 3) := by decide +kernel
theorem dX10_take_17 : decode cX10_take 17 = .ok (.if_icmp .ge 23, 3) := by decide +kernel
theorem dX10_take_20 : decode cX10_take 20 = .ok (.aload_n 0, 1) := by decide +kernel
theorem dX10_take_21 : decode cX10_take 21 = .ok (.getfield 17, 3) := by decide +kernel
theorem dX10_take_24 : decode cX10_take 24 = .ok (.iload_n 2, 1) := by decide +kernel
theorem dX10_take_25 : decode cX10_take 25 = .ok (.aload_n 0, 1) := by decide +kernel
theorem dX10_take_26 : decode cX10_take 26 = .ok (.getfield 17, 3) := by decide +kernel
theorem dX10_take_29 : decode cX10_take 29 = .ok (.iload_n 2, 1) := by decide +kernel
theorem dX10_take_30 : decode cX10_take 30 = .ok (.iload_n 1, 1) := by decide +kernel
theorem dX10_take_31 : decode cX10_take 31 = .ok (.iadd, 1) := by decide +kernel
theorem dX10_take_32 : decode cX10_take 32 = .ok (.iaload, 1) := by decide +kernel
theorem dX10_take_33 : decode cX10_take 33 = .ok (.iastore, 1) := by decide +kernel
theorem dX10_take_34 : decode cX10_take 34 = .ok (.iinc 2 1, 3) := by decide +kernel
theorem dX10_take_37 : decode cX10_take 37 = .ok (.goto (-25), 3) := by decide +kernel
theorem dX10_take_40 : decode cX10_take 40 = .ok (.aload_n 0, 1) := by decide +kernel
theorem dX10_take_41 : decode cX10_take 41 = .ok (.dup, 1) := by decide +kernel
theorem dX10_take_42 : decode cX10_take 42 = .ok (.getfield 48, 3) := by decide +kernel
theorem dX10_take_45 : decode cX10_take 45 = .ok (.iload_n 1, 1) := by decide +kernel
theorem dX10_take_46 : decode cX10_take 46 = .ok (.iadd, 1) := by decide +kernel
theorem dX10_take_47 : decode cX10_take 47 = .ok (.putfield 48, 3) := by decide +kernel
theorem dX10_take_50 : decode cX10_take 50 = .ok (.aload_n 0, 1) := by decide +kernel
theorem dX10_take_51 : decode cX10_take 51 = .ok (.aload_n 0, 1) := by decide +kernel
theorem dX10_take_52 : decode cX10_take 52 = .ok (.getfield 63, 3) := by decide +kernel
theorem dX10_take_55 : decode cX10_take 55 = .ok (.ifCond .ne 7, 3) := by decide +kernel
theorem dX10_take_58 : decode cX10_take 58 = .ok (.iload_n 1, 1) := by decide +kernel
theorem dX10_take_59 : decode cX10_take 59 = .ok (.ifCond .le 7, 3) := by decide +kernel
theorem dX10_take_62 : decode cX10_take 62 = .ok (.iconst 1, 1) := by decide +kernel
theorem dX10_take_63 : decode cX10_take 63 = .ok (.goto 4, 3) := by decide +kernel
theorem dX10_take_66 : decode cX10_take 66 = .ok (.iconst 0, 1) := by decide +kernel
theorem dX10_take_67 : decode cX10_take 67 = .ok (.putfield 63, 3) := by decide +kernel
theorem dX10_take_70 : decode cX10_take 70 = .ok (.return_, 1) := by decide +kernel
theorem dX10_passOver_0 : decode cX10_passOver 0 = .ok (.aload_n 0, 1) := by decide +kernel
theorem dX10_passOver_1 : decode cX10_passOver 1 = .ok (.iload_n 1, 1) := by decide +kernel
theorem dX10_passOver_2 : decode cX10_passOver 2 = .ok (.invokevirtual 194, 3) := by decide +kernel
theorem dX10_passOver_5 : decode cX10_passOver 5 = .ok (.aload_n 0, 1) := by decide +kernel
theorem dX10_passOver_6 : decode cX10_passOver 6 = .ok (.dup, 1) := by decide +kernel
theorem dX10_passOver_7 : decode cX10_passOver 7 = .ok (.getfield 54, 3) := by decide +kernel
theorem dX10_passOver_10 : decode cX10_passOver 10 = .ok (.iconst 1, 1) := by decide +kernel
theorem dX10_passOver_11 : decode cX10_passOver 11 = .ok (.iadd, 1) := by decide +kernel
theorem dX10_passOver_12 : decode cX10_passOver 12 = .ok (.putfield 54, 3) := by decide +kernel
theorem dX10_passOver_15 : decode cX10_passOver 15 = .ok (.iload_n 2, 1) := by decide +kernel
theorem dX10_passOver_16 : decode cX10_passOver 16 = .ok (.ifCond .eq 23, 3) := by decide +kernel
theorem dX10_passOver_19 : decode cX10_passOver 19 = .ok (.aload_n 0, 1) := by decide +kernel
theorem dX10_passOver_20 : decode cX10_passOver 20 = .ok (.iconst 0, 1) := by decide +kernel
theorem dX10_passOver_21 : decode cX10_passOver 21 = .ok (.putfield 72, 3) := by decide +kernel
theorem dX10_passOver_24 : decode cX10_passOver 24 = .ok (.aload_n 0, 1) := by decide +kernel
theorem dX10_passOver_25 : decode cX10_passOver 25 = .ok (.iconst 0, 1) := by decide +kernel
theorem dX10_passOver_26 : decode cX10_passOver 26 = .ok (.putfield 75, 3) := by decide +kernel
theorem dX10_passOver_29 : decode cX10_passOver 29 = .ok (.aload_n 0, 1) := by decide +kernel
theorem dX10_passOver_30 : decode cX10_passOver 30 = .ok (.iconst 0, 1) := by decide +kernel
theorem dX10_passOver_31 : decode cX10_passOver 31 = .ok (.putfield 78, 3) := by decide +kernel
theorem dX10_passOver_34 : decode cX10_passOver 34 = .ok (.aload_n 0, 1) := by decide +kernel
theorem dX10_passOver_35 : decode cX10_passOver 35 = .ok (.iconst 0, 1) := by decide +kernel
theorem dX10_passOver_36 : decode cX10_passOver 36 = .ok (.putfield 81, 3) := by decide +kernel
theorem dX10_passOver_39 : decode cX10_passOver 39 = .ok (.return_, 1) := by decide +kernel
theorem dX10_pass_0 : decode cX10_pass 0 = .ok (.aload_n 0, 1) := by decide +kernel
theorem dX10_pass_1 : decode cX10_pass 1 = .ok (.getfield 26, 3) := by decide +kernel
theorem dX10_pass_4 : decode cX10_pass 4 = .ok (.ifCond .eq 10, 3) := by decide +kernel
theorem dX10_pass_7 : decode cX10_pass 7 = .ok (.aload_n 0, 1) := by decide +kernel
theorem dX10_pass_8 : decode cX10_pass 8 = .ok (.getfield 84, 3) := by decide +kernel
theorem dX10_pass_11 : decode cX10_pass 11 = .ok (.ifCond .ne 5, 3) := by decide +kernel
theorem dX10_pass_14 : decode cX10_pass 14 = .ok (.iconst 0, 1) := by decide +kernel
theorem dX10_pass_15 : decode cX10_pass 15 = .ok (.ireturn, 1) := by decide +kernel
theorem dX10_pass_16 : decode cX10_pass 16 = .ok (.aload_n 0, 1) := by decide +kernel
theorem dX10_pass_17 : decode cX10_pass 17 = .ok (.aload_n 0, 1) := by decide +kernel
theorem dX10_pass_18 : decode cX10_pass 18 = .ok (.getfield 84, 3) := by decide +kernel
theorem dX10_pass_21 : decode cX10_pass 21 = .ok (.aload_n 0, 1) := by decide +kernel
theorem dX10_pass_22 : decode cX10_pass 22 = .ok (.getfield 197, 3) := by decide +kernel
theorem dX10_pass_25 : decode cX10_pass 25 = .ok (.invokevirtual 200, 3) := by decide +kernel
theorem dX10_pass_28 : decode cX10_pass 28 = .ok (.aload_n 0, 1) := by decide +kernel
theorem dX10_pass_29 : decode cX10_pass 29 = .ok (.iconst 0, 1) := by decide +kernel
theorem dX10_pass_30 : decode cX10_pass 30 = .ok (.putfield 84, 3) := by decide +kernel
theorem dX10_pass_33 : decode cX10_pass 33 = .ok (.iconst 1, 1) := by decide +kernel
theorem dX10_pass_34 : decode cX10_pass 34 = .ok (.ireturn, 1) := by decide +kernel
theorem dX10_become_0 : decode cX10_become 0 = .ok (.aload_n 0, 1) := by decide +kernel
theorem dX10_become_1 : decode cX10_become 1 = .ok (.aload_n 0, 1) := by decide +kernel
theorem dX10_become_2 : decode cX10_become 2 = .ok (.getfield 98, 3) := by decide +kernel
theorem dX10_become_5 : decode cX10_become 5 = .ok (.putfield 72, 3) := by decide +kernel
theorem dX10_become_8 : decode cX10_become 8 = .ok (.aload_n 0, 1) := by decide +kernel
theorem dX10_become_9 : decode cX10_become 9 = .ok (.aload_n 0, 1) := by decide +kernel
theorem dX10_become_10 : decode cX10_become 10 = .ok (.getfield 101, 3) := by decide +kernel
theorem dX10_become_13 : decode cX10_become 13 = .ok (.putfield 75, 3) := by decide +kernel
theorem dX10_become_16 : decode cX10_become 16 = .ok (.aload_n 0, 1) := by decide +kernel
theorem dX10_become_17 : decode cX10_become 17 = .ok (.aload_n 0, 1) := by decide +kernel
theorem dX10_become_18 : decode cX10_become 18 = .ok (.getfield 104, 3) := by decide +kernel
theorem dX10_become_21 : decode cX10_become 21 = .ok (.putfield 78, 3) := by decide +kernel
theorem dX10_become_24 : decode cX10_become 24 = .ok (.aload_n 0, 1) := by decide +kernel
theorem dX10_become_25 : decode cX10_become 25 = .ok (.aload_n 0, 1) := by decide +kernel
theorem dX10_become_26 : decode cX10_become 26 = .ok (.getfield 107, 3) := by decide +kernel
theorem dX10_become_29 : decode cX10_become 29 = .ok (.putfield 81, 3) := by decide +kernel
theorem dX10_become_32 : decode cX10_become 32 = .ok (.aload_n 0, 1) := by decide +kernel
theorem dX10_become_33 : decode cX10_become 33 = .ok (.aload_n 0, 1) := by decide +kernel
theorem dX10_become_34 : decode cX10_become 34 = .ok (.getfield 110, 3) := by decide +kernel
theorem dX10_become_37 : decode cX10_become 37 = .ok (.putfield 69, 3) := by decide +kernel
theorem dX10_become_40 : decode cX10_become 40 = .ok (.return_, 1) := by decide +kernel
theorem dX10_replacement_0 : decode cX10_replacement 0 = .ok (.aload_n 0, 1) := by decide +kernel
theorem dX10_replacement_1 : decode cX10_replacement 1 = .ok (.iconst 0, 1) := by decide +kernel
theorem dX10_replacement_2 : decode cX10_replacement 2 = .ok (.putfield 92, 3) := by decide +kernel
theorem dX10_replacement_5 : decode cX10_replacement 5 = .ok (.aload_n 0, 1) := by decide +kernel
theorem dX10_replacement_6 : decode cX10_replacement 6 = .ok (.getfield 33, 3) := by decide +kernel
theorem dX10_replacement_9 : decode cX10_replacement 9 = .ok (.ifCond .ne 12, 3) := by decide +kernel
theorem dX10_replacement_12 : decode cX10_replacement 12 = .ok (.aload_n 0, 1) := by decide +kernel
theorem dX10_replacement_13 : decode cX10_replacement 13 = .ok (.ldc 203, 2) := by decide +kernel
theorem dX10_replacement_15 : decode cX10_replacement 15 = .ok (.invokevirtual 139, 3) := by decide +kernel
theorem dX10_replacement_18 : decode cX10_replacement 18 = .ok (.goto 47, 3) := by decide +kernel
theorem dX10_replacement_21 : decode cX10_replacement 21 = .ok (.aload_n 0, 1) := by decide +kernel
theorem dX10_replacement_22 : decode cX10_replacement 22 = .ok (.getfield 30, 3) := by decide +kernel
theorem dX10_replacement_25 : decode cX10_replacement 25 = .ok (.iconst 2, 1) := by decide +kernel
theorem dX10_replacement_26 : decode cX10_replacement 26 = .ok (.if_icmp .lt 33, 3) := by decide +kernel
theorem dX10_replacement_29 : decode cX10_replacement 29 = .ok (.aload_n 0, 1) := by decide +kernel
theorem dX10_replacement_30 : decode cX10_replacement 30 = .ok (.getfield 30, 3) := by decide +kernel
theorem dX10_replacement_33 : decode cX10_replacement 33 = .ok (.iconst 4, 1) := by decide +kernel
theorem dX10_replacement_34 : decode cX10_replacement 34 = .ok (.if_icmp .gt 25, 3) := by decide +kernel
theorem dX10_replacement_37 : decode cX10_replacement 37 = .ok (.aload_n 0, 1) := by decide +kernel
theorem dX10_replacement_38 : decode cX10_replacement 38 = .ok (.bipush 63, 2) := by decide +kernel
theorem dX10_replacement_40 : decode cX10_replacement 40 = .ok (.aload_n 0, 1) := by decide +kernel
theorem dX10_replacement_41 : decode cX10_replacement 41 = .ok (.getfield 30, 3) := by decide +kernel
theorem dX10_replacement_44 : decode cX10_replacement 44 = .ok (.iconst 4, 1) := by decide +kernel
theorem dX10_replacement_45 : decode cX10_replacement 45 = .ok (.if_icmp .ne 7, 3) := by decide +kernel
theorem dX10_replacement_48 : decode cX10_replacement 48 = .ok (.iconst 1, 1) := by decide +kernel
theorem dX10_replacement_49 : decode cX10_replacement 49 = .ok (.goto 4, 3) := by decide +kernel
theorem dX10_replacement_52 : decode cX10_replacement 52 = .ok (.iconst 0, 1) := by decide +kernel
theorem dX10_replacement_53 : decode cX10_replacement 53 = .ok (.invokevirtual 175, 3) := by decide +kernel
theorem dX10_replacement_56 : decode cX10_replacement 56 = .ok (.goto 9, 3) := by decide +kernel
theorem dX10_replacement_59 : decode cX10_replacement 59 = .ok (.aload_n 0, 1) := by decide +kernel
theorem dX10_replacement_60 : decode cX10_replacement 60 = .ok (.bipush 63, 2) := by decide +kernel
theorem dX10_replacement_62 : decode cX10_replacement 62 = .ok (.invokevirtual 139, 3) := by decide +kernel
theorem dX10_replacement_65 : decode cX10_replacement 65 = .ok (.return_, 1) := by decide +kernel
theorem dX10_code_0 : decode cX10_code 0 = .ok (.aload_n 0, 1) := by decide +kernel
theorem dX10_code_1 : decode cX10_code 1 = .ok (.getfield 26, 3) := by decide +kernel
theorem dX10_code_4 : decode cX10_code 4 = .ok (.ifCond .eq 23, 3) := by decide +kernel
theorem dX10_code_7 : decode cX10_code 7 = .ok (.aload_n 0, 1) := by decide +kernel
theorem dX10_code_8 : decode cX10_code 8 = .ok (.getfield 60, 3) := by decide +kernel
theorem dX10_code_11 : decode cX10_code 11 = .ok (.iconst 3, 1) := by decide +kernel
theorem dX10_code_12 : decode cX10_code 12 = .ok (.if_icmp .eq 15, 3) := by decide +kernel
theorem dX10_code_15 : decode cX10_code 15 = .ok (.aload_n 0, 1) := by decide +kernel
theorem dX10_code_16 : decode cX10_code 16 = .ok (.getfield 60, 3) := by decide +kernel
theorem dX10_code_19 : decode cX10_code 19 = .ok (.iconst 2, 1) := by decide +kernel
theorem dX10_code_20 : decode cX10_code 20 = .ok (.if_icmp .ne 9, 3) := by decide +kernel
theorem dX10_code_23 : decode cX10_code 23 = .ok (.iload_n 1, 1) := by decide +kernel
theorem dX10_code_24 : decode cX10_code 24 = .ok (.ifCond .ne 5, 3) := by decide +kernel
theorem dX10_code_27 : decode cX10_code 27 = .ok (.iconst (-1), 1) := by decide +kernel
theorem dX10_code_28 : decode cX10_code 28 = .ok (.ireturn, 1) := by decide +kernel
theorem dX10_code_29 : decode cX10_code 29 = .ok (.aload_n 0, 1) := by decide +kernel
theorem dX10_code_30 : decode cX10_code 30 = .ok (.iload_n 1, 1) := by decide +kernel
theorem dX10_code_31 : decode cX10_code 31 = .ok (.ifCond .eq 7, 3) := by decide +kernel
theorem dX10_code_34 : decode cX10_code 34 = .ok (.iconst 2, 1) := by decide +kernel
theorem dX10_code_35 : decode cX10_code 35 = .ok (.goto 4, 3) := by decide +kernel
theorem dX10_code_38 : decode cX10_code 38 = .ok (.iconst 1, 1) := by decide +kernel
theorem dX10_code_39 : decode cX10_code 39 = .ok (.putfield 60, 3) := by decide +kernel
theorem dX10_code_42 : decode cX10_code 42 = .ok (.aload_n 0, 1) := by decide +kernel
theorem dX10_code_43 : decode cX10_code 43 = .ok (.iconst 0, 1) := by decide +kernel
theorem dX10_code_44 : decode cX10_code 44 = .ok (.putfield 84, 3) := by decide +kernel
theorem dX10_code_47 : decode cX10_code 47 = .ok (.iconst (-1), 1) := by decide +kernel
theorem dX10_code_48 : decode cX10_code 48 = .ok (.istore_n 2, 1) := by decide +kernel
theorem dX10_code_49 : decode cX10_code 49 = .ok (.iconst 0, 1) := by decide +kernel
theorem dX10_code_50 : decode cX10_code 50 = .ok (.istore_n 3, 1) := by decide +kernel
theorem dX10_code_51 : decode cX10_code 51 = .ok (.iload_n 3, 1) := by decide +kernel
theorem dX10_code_52 : decode cX10_code 52 = .ok (.bipush 60, 2) := by decide +kernel
theorem dX10_code_54 : decode cX10_code 54 = .ok (.if_icmp .ge 123, 3) := by decide +kernel
theorem dX10_code_57 : decode cX10_code 57 = .ok (.iload_n 2, 1) := by decide +kernel
theorem dX10_code_58 : decode cX10_code 58 = .ok (.ifCond .ge 119, 3) := by decide +kernel
theorem dX10_code_61 : decode cX10_code 61 = .ok (.aload_n 0, 1) := by decide +kernel
theorem dX10_code_62 : decode cX10_code 62 = .ok (.invokevirtual 204, 3) := by decide +kernel
theorem dX10_code_65 : decode cX10_code 65 = .ok (.istore 4, 2) := by decide +kernel
theorem dX10_code_67 : decode cX10_code 67 = .ok (.iload 4, 2) := by decide +kernel
theorem dX10_code_69 : decode cX10_code 69 = .ok (.ifCond .ne 43, 3) := by decide +kernel
theorem dX10_code_72 : decode cX10_code 72 = .ok (.aload_n 0, 1) := by decide +kernel
theorem dX10_code_73 : decode cX10_code 73 = .ok (.aload_n 0, 1) := by decide +kernel
theorem dX10_code_74 : decode cX10_code 74 = .ok (.getfield 92, 3) := by decide +kernel
theorem dX10_code_77 : decode cX10_code 77 = .ok (.invokevirtual 207, 3) := by decide +kernel
theorem dX10_code_80 : decode cX10_code 80 = .ok (.ifCond .eq 7, 3) := by decide +kernel
theorem dX10_code_83 : decode cX10_code 83 = .ok (.iconst (-1), 1) := by decide +kernel
theorem dX10_code_84 : decode cX10_code 84 = .ok (.goto 4, 3) := by decide +kernel
theorem dX10_code_87 : decode cX10_code 87 = .ok (.iconst 1, 1) := by decide +kernel
theorem dX10_code_88 : decode cX10_code 88 = .ok (.istore_n 2, 1) := by decide +kernel
theorem dX10_code_89 : decode cX10_code 89 = .ok (.iload_n 2, 1) := by decide +kernel
theorem dX10_code_90 : decode cX10_code 90 = .ok (.ifCond .ge 81, 3) := by decide +kernel
theorem dX10_code_93 : decode cX10_code 93 = .ok (.aload_n 0, 1) := by decide +kernel
theorem dX10_code_94 : decode cX10_code 94 = .ok (.invokevirtual 210, 3) := by decide +kernel
theorem dX10_code_97 : decode cX10_code 97 = .ok (.aload_n 0, 1) := by decide +kernel
theorem dX10_code_98 : decode cX10_code 98 = .ok (.aload_n 0, 1) := by decide +kernel
theorem dX10_code_99 : decode cX10_code 99 = .ok (.getfield 95, 3) := by decide +kernel
theorem dX10_code_102 : decode cX10_code 102 = .ok (.invokevirtual 194, 3) := by decide +kernel
theorem dX10_code_105 : decode cX10_code 105 = .ok (.aload_n 0, 1) := by decide +kernel
theorem dX10_code_106 : decode cX10_code 106 = .ok (.invokevirtual 213, 3) := by decide +kernel
theorem dX10_code_109 : decode cX10_code 109 = .ok (.goto 62, 3) := by decide +kernel
theorem dX10_code_112 : decode cX10_code 112 = .ok (.iload 4, 2) := by decide +kernel
theorem dX10_code_114 : decode cX10_code 114 = .ok (.iconst 1, 1) := by decide +kernel
theorem dX10_code_115 : decode cX10_code 115 = .ok (.if_icmp .ne 19, 3) := by decide +kernel
theorem dX10_code_118 : decode cX10_code 118 = .ok (.iload_n 1, 1) := by decide +kernel
theorem dX10_code_119 : decode cX10_code 119 = .ok (.ifCond .eq 10, 3) := by decide +kernel
theorem dX10_code_122 : decode cX10_code 122 = .ok (.aload_n 0, 1) := by decide +kernel
theorem dX10_code_123 : decode cX10_code 123 = .ok (.getfield 42, 3) := by decide +kernel
theorem dX10_code_126 : decode cX10_code 126 = .ok (.ifCond .gt 8, 3) := by decide +kernel
theorem dX10_code_129 : decode cX10_code 129 = .ok (.iconst 0, 1) := by decide +kernel
theorem dX10_code_130 : decode cX10_code 130 = .ok (.istore_n 2, 1) := by decide +kernel
theorem dX10_code_131 : decode cX10_code 131 = .ok (.goto 40, 3) := by decide +kernel
theorem dX10_code_134 : decode cX10_code 134 = .ok (.aload_n 0, 1) := by decide +kernel
theorem dX10_code_135 : decode cX10_code 135 = .ok (.iload 4, 2) := by decide +kernel
theorem dX10_code_137 : decode cX10_code 137 = .ok (.iconst 1, 1) := by decide +kernel
theorem dX10_code_138 : decode cX10_code 138 = .ok (.if_icmp .ne 10, 3) := by decide +kernel
theorem dX10_code_141 : decode cX10_code 141 = .ok (.aload_n 0, 1) := by decide +kernel
theorem dX10_code_142 : decode cX10_code 142 = .ok (.getfield 42, 3) := by decide +kernel
theorem dX10_code_145 : decode cX10_code 145 = .ok (.goto 7, 3) := by decide +kernel
theorem dX10_code_148 : decode cX10_code 148 = .ok (.aload_n 0, 1) := by decide +kernel
theorem dX10_code_149 : decode cX10_code 149 = .ok (.getfield 95, 3) := by decide +kernel
theorem dX10_code_152 : decode cX10_code 152 = .ok (.putfield 95, 3) := by decide +kernel
theorem dX10_code_155 : decode cX10_code 155 = .ok (.aload_n 0, 1) := by decide +kernel
theorem dX10_code_156 : decode cX10_code 156 = .ok (.iload 4, 2) := by decide +kernel
theorem dX10_code_158 : decode cX10_code 158 = .ok (.iconst 3, 1) := by decide +kernel
theorem dX10_code_159 : decode cX10_code 159 = .ok (.if_icmp .eq 7, 3) := by decide +kernel
theorem dX10_code_162 : decode cX10_code 162 = .ok (.iconst 1, 1) := by decide +kernel
theorem dX10_code_163 : decode cX10_code 163 = .ok (.goto 4, 3) := by decide +kernel
theorem dX10_code_166 : decode cX10_code 166 = .ok (.iconst 0, 1) := by decide +kernel
theorem dX10_code_167 : decode cX10_code 167 = .ok (.invokevirtual 216, 3) := by decide +kernel
theorem dX10_code_170 : decode cX10_code 170 = .ok (.istore_n 2, 1) := by decide +kernel
theorem dX10_code_171 : decode cX10_code 171 = .ok (.iinc 3 1, 3) := by decide +kernel
theorem dX10_code_174 : decode cX10_code 174 = .ok (.goto (-123), 3) := by decide +kernel
theorem dX10_code_177 : decode cX10_code 177 = .ok (.iload_n 2, 1) := by decide +kernel
theorem dX10_code_178 : decode cX10_code 178 = .ok (.ireturn, 1) := by decide +kernel
theorem dX10_meet_0 : decode cX10_meet 0 = .ok (.iload_n 1, 1) := by decide +kernel
theorem dX10_meet_1 : decode cX10_meet 1 = .ok (.ifCond .eq 10, 3) := by decide +kernel
theorem dX10_meet_4 : decode cX10_meet 4 = .ok (.aload_n 0, 1) := by decide +kernel
theorem dX10_meet_5 : decode cX10_meet 5 = .ok (.getfield 36, 3) := by decide +kernel
theorem dX10_meet_8 : decode cX10_meet 8 = .ok (.goto 7, 3) := by decide +kernel
theorem dX10_meet_11 : decode cX10_meet 11 = .ok (.aload_n 0, 1) := by decide +kernel
theorem dX10_meet_12 : decode cX10_meet 12 = .ok (.getfield 39, 3) := by decide +kernel
theorem dX10_meet_15 : decode cX10_meet 15 = .ok (.istore_n 2, 1) := by decide +kernel
theorem dX10_meet_16 : decode cX10_meet 16 = .ok (.iload_n 2, 1) := by decide +kernel
theorem dX10_meet_17 : decode cX10_meet 17 = .ok (.ifCond .ne 33, 3) := by decide +kernel
theorem dX10_meet_20 : decode cX10_meet 20 = .ok (.aload_n 0, 1) := by decide +kernel
theorem dX10_meet_21 : decode cX10_meet 21 = .ok (.aload_n 0, 1) := by decide +kernel
theorem dX10_meet_22 : decode cX10_meet 22 = .ok (.getfield 95, 3) := by decide +kernel
theorem dX10_meet_25 : decode cX10_meet 25 = .ok (.putfield 84, 3) := by decide +kernel
theorem dX10_meet_28 : decode cX10_meet 28 = .ok (.aload_n 0, 1) := by decide +kernel
theorem dX10_meet_29 : decode cX10_meet 29 = .ok (.iload_n 1, 1) := by decide +kernel
theorem dX10_meet_30 : decode cX10_meet 30 = .ok (.putfield 197, 3) := by decide +kernel
theorem dX10_meet_33 : decode cX10_meet 33 = .ok (.iload_n 1, 1) := by decide +kernel
theorem dX10_meet_34 : decode cX10_meet 34 = .ok (.ifCond .eq 8, 3) := by decide +kernel
theorem dX10_meet_37 : decode cX10_meet 37 = .ok (.bipush 16, 2) := by decide +kernel
theorem dX10_meet_39 : decode cX10_meet 39 = .ok (.goto 5, 3) := by decide +kernel
theorem dX10_meet_42 : decode cX10_meet 42 = .ok (.bipush 32, 2) := by decide +kernel
theorem dX10_meet_44 : decode cX10_meet 44 = .ok (.aload_n 0, 1) := by decide +kernel
theorem dX10_meet_45 : decode cX10_meet 45 = .ok (.getfield 95, 3) := by decide +kernel
theorem dX10_meet_48 : decode cX10_meet 48 = .ok (.iadd, 1) := by decide +kernel
theorem dX10_meet_49 : decode cX10_meet 49 = .ok (.ireturn, 1) := by decide +kernel
theorem dX10_meet_50 : decode cX10_meet 50 = .ok (.iload_n 2, 1) := by decide +kernel
theorem dX10_meet_51 : decode cX10_meet 51 = .ok (.iconst 2, 1) := by decide +kernel
theorem dX10_meet_52 : decode cX10_meet 52 = .ok (.if_icmp .ne 24, 3) := by decide +kernel
theorem dX10_meet_55 : decode cX10_meet 55 = .ok (.aload_n 0, 1) := by decide +kernel
theorem dX10_meet_56 : decode cX10_meet 56 = .ok (.invokevirtual 220, 3) := by decide +kernel
theorem dX10_meet_59 : decode cX10_meet 59 = .ok (.aload_n 0, 1) := by decide +kernel
theorem dX10_meet_60 : decode cX10_meet 60 = .ok (.aload_n 0, 1) := by decide +kernel
theorem dX10_meet_61 : decode cX10_meet 61 = .ok (.getfield 92, 3) := by decide +kernel
theorem dX10_meet_64 : decode cX10_meet 64 = .ok (.invokevirtual 207, 3) := by decide +kernel
theorem dX10_meet_67 : decode cX10_meet 67 = .ok (.ifCond .ne 5, 3) := by decide +kernel
theorem dX10_meet_70 : decode cX10_meet 70 = .ok (.iconst 1, 1) := by decide +kernel
theorem dX10_meet_71 : decode cX10_meet 71 = .ok (.ireturn, 1) := by decide +kernel
theorem dX10_meet_72 : decode cX10_meet 72 = .ok (.aload_n 0, 1) := by decide +kernel
theorem dX10_meet_73 : decode cX10_meet 73 = .ok (.invokevirtual 210, 3) := by decide +kernel
theorem dX10_meet_76 : decode cX10_meet 76 = .ok (.aload_n 0, 1) := by decide +kernel
theorem dX10_meet_77 : decode cX10_meet 77 = .ok (.aload_n 0, 1) := by decide +kernel
theorem dX10_meet_78 : decode cX10_meet 78 = .ok (.getfield 95, 3) := by decide +kernel
theorem dX10_meet_81 : decode cX10_meet 81 = .ok (.iload_n 1, 1) := by decide +kernel
theorem dX10_meet_82 : decode cX10_meet 82 = .ok (.invokevirtual 200, 3) := by decide +kernel
theorem dX10_meet_85 : decode cX10_meet 85 = .ok (.iconst (-1), 1) := by decide +kernel
theorem dX10_meet_86 : decode cX10_meet 86 = .ok (.ireturn, 1) := by decide +kernel
theorem dX10_flush_0 : decode cX10_flush 0 = .ok (.aload_n 0, 1) := by decide +kernel
theorem dX10_flush_1 : decode cX10_flush 1 = .ok (.getfield 26, 3) := by decide +kernel
theorem dX10_flush_4 : decode cX10_flush 4 = .ok (.ifCond .eq 11, 3) := by decide +kernel
theorem dX10_flush_7 : decode cX10_flush 7 = .ok (.aload_n 0, 1) := by decide +kernel
theorem dX10_flush_8 : decode cX10_flush 8 = .ok (.getfield 60, 3) := by decide +kernel
theorem dX10_flush_11 : decode cX10_flush 11 = .ok (.iconst 2, 1) := by decide +kernel
theorem dX10_flush_12 : decode cX10_flush 12 = .ok (.if_icmp .ge 5, 3) := by decide +kernel
theorem dX10_flush_15 : decode cX10_flush 15 = .ok (.iconst (-1), 1) := by decide +kernel
theorem dX10_flush_16 : decode cX10_flush 16 = .ok (.ireturn, 1) := by decide +kernel
theorem dX10_flush_17 : decode cX10_flush 17 = .ok (.aload_n 0, 1) := by decide +kernel
theorem dX10_flush_18 : decode cX10_flush 18 = .ok (.getfield 33, 3) := by decide +kernel
theorem dX10_flush_21 : decode cX10_flush 21 = .ok (.ifCond .eq 59, 3) := by decide +kernel
theorem dX10_flush_24 : decode cX10_flush 24 = .ok (.aload_n 0, 1) := by decide +kernel
theorem dX10_flush_25 : decode cX10_flush 25 = .ok (.getfield 30, 3) := by decide +kernel
theorem dX10_flush_28 : decode cX10_flush 28 = .ok (.iconst 5, 1) := by decide +kernel
theorem dX10_flush_29 : decode cX10_flush 29 = .ok (.if_icmp .ne 51, 3) := by decide +kernel
theorem dX10_flush_32 : decode cX10_flush 32 = .ok (.aload_n 0, 1) := by decide +kernel
theorem dX10_flush_33 : decode cX10_flush 33 = .ok (.getfield 72, 3) := by decide +kernel
theorem dX10_flush_36 : decode cX10_flush 36 = .ok (.ifCond .eq 44, 3) := by decide +kernel
theorem dX10_flush_39 : decode cX10_flush 39 = .ok (.aload_n 0, 1) := by decide +kernel
theorem dX10_flush_40 : decode cX10_flush 40 = .ok (.iconst 0, 1) := by decide +kernel
theorem dX10_flush_41 : decode cX10_flush 41 = .ok (.putfield 92, 3) := by decide +kernel
theorem dX10_flush_44 : decode cX10_flush 44 = .ok (.aload_n 0, 1) := by decide +kernel
theorem dX10_flush_45 : decode cX10_flush 45 = .ok (.invokevirtual 188, 3) := by decide +kernel
theorem dX10_flush_48 : decode cX10_flush 48 = .ok (.aload_n 0, 1) := by decide +kernel
theorem dX10_flush_49 : decode cX10_flush 49 = .ok (.aload_n 0, 1) := by decide +kernel
theorem dX10_flush_50 : decode cX10_flush 50 = .ok (.getfield 92, 3) := by decide +kernel
theorem dX10_flush_53 : decode cX10_flush 53 = .ok (.invokevirtual 207, 3) := by decide +kernel
theorem dX10_flush_56 : decode cX10_flush 56 = .ok (.ifCond .ne 5, 3) := by decide +kernel
theorem dX10_flush_59 : decode cX10_flush 59 = .ok (.iconst 1, 1) := by decide +kernel
theorem dX10_flush_60 : decode cX10_flush 60 = .ok (.ireturn, 1) := by decide +kernel
theorem dX10_flush_61 : decode cX10_flush 61 = .ok (.aload_n 0, 1) := by decide +kernel
theorem dX10_flush_62 : decode cX10_flush 62 = .ok (.invokevirtual 210, 3) := by decide +kernel
theorem dX10_flush_65 : decode cX10_flush 65 = .ok (.aload_n 0, 1) := by decide +kernel
theorem dX10_flush_66 : decode cX10_flush 66 = .ok (.iconst 0, 1) := by decide +kernel
theorem dX10_flush_67 : decode cX10_flush 67 = .ok (.putfield 72, 3) := by decide +kernel
theorem dX10_flush_70 : decode cX10_flush 70 = .ok (.aload_n 0, 1) := by decide +kernel
theorem dX10_flush_71 : decode cX10_flush 71 = .ok (.iconst 0, 1) := by decide +kernel
theorem dX10_flush_72 : decode cX10_flush 72 = .ok (.putfield 78, 3) := by decide +kernel
theorem dX10_flush_75 : decode cX10_flush 75 = .ok (.aload_n 0, 1) := by decide +kernel
theorem dX10_flush_76 : decode cX10_flush 76 = .ok (.iconst 0, 1) := by decide +kernel
theorem dX10_flush_77 : decode cX10_flush 77 = .ok (.putfield 81, 3) := by decide +kernel
theorem dX10_flush_80 : decode cX10_flush 80 = .ok (.aload_n 0, 1) := by decide +kernel
theorem dX10_flush_81 : decode cX10_flush 81 = .ok (.iconst 3, 1) := by decide +kernel
theorem dX10_flush_82 : decode cX10_flush 82 = .ok (.putfield 60, 3) := by decide +kernel
theorem dX10_flush_85 : decode cX10_flush 85 = .ok (.iconst 0, 1) := by decide +kernel
theorem dX10_flush_86 : decode cX10_flush 86 = .ok (.ireturn, 1) := by decide +kernel
theorem dJ9_max_7cf53_0 : decode cJ9_max_7cf53 0 = .ok (.iload_n 0, 1) := by decide +kernel
theorem dJ9_max_7cf53_1 : decode cJ9_max_7cf53 1 = .ok (.iload_n 1, 1) := by decide +kernel
theorem dJ9_max_7cf53_2 : decode cJ9_max_7cf53 2 = .ok (.if_icmp .lt 7, 3) := by decide +kernel
theorem dJ9_max_7cf53_5 : decode cJ9_max_7cf53 5 = .ok (.iload_n 0, 1) := by decide +kernel
theorem dJ9_max_7cf53_6 : decode cJ9_max_7cf53 6 = .ok (.goto 4, 3) := by decide +kernel
theorem dJ9_max_7cf53_9 : decode cJ9_max_7cf53 9 = .ok (.iload_n 1, 1) := by decide +kernel
theorem dJ9_max_7cf53_10 : decode cJ9_max_7cf53 10 = .ok (.ireturn, 1) := by decide +kernel
theorem dJ9_min_7cf53_0 : decode cJ9_min_7cf53 0 = .ok (.iload_n 0, 1) := by decide +kernel
theorem dJ9_min_7cf53_1 : decode cJ9_min_7cf53 1 = .ok (.iload_n 1, 1) := by decide +kernel
theorem dJ9_min_7cf53_2 : decode cJ9_min_7cf53 2 = .ok (.if_icmp .gt 7, 3) := by decide +kernel
theorem dJ9_min_7cf53_5 : decode cJ9_min_7cf53 5 = .ok (.iload_n 0, 1) := by decide +kernel
theorem dJ9_min_7cf53_6 : decode cJ9_min_7cf53 6 = .ok (.goto 4, 3) := by decide +kernel
theorem dJ9_min_7cf53_9 : decode cJ9_min_7cf53 9 = .ok (.iload_n 1, 1) := by decide +kernel
theorem dJ9_min_7cf53_10 : decode cJ9_min_7cf53 10 = .ok (.ireturn, 1) := by decide +kernel
theorem dJ0_length_8abf5_0 : decode cJ0_length_8abf5 0 = .ok (.aload_n 0, 1) := by decide +kernel
theorem dJ0_length_8abf5_1 : decode cJ0_length_8abf5 1 = .ok (.getfield 9, 3) := by decide +kernel
theorem dJ0_length_8abf5_4 : decode cJ0_length_8abf5 4 = .ok (.arraylength, 1) := by decide +kernel
theorem dJ0_length_8abf5_5 : decode cJ0_length_8abf5 5 = .ok (.aload_n 0, 1) := by decide +kernel
theorem dJ0_length_8abf5_6 : decode cJ0_length_8abf5 6 = .ok (.invokevirtual 335, 3) := by decide +kernel
theorem dJ0_length_8abf5_9 : decode cJ0_length_8abf5 9 = .ok (.ishr, 1) := by decide +kernel
theorem dJ0_length_8abf5_10 : decode cJ0_length_8abf5 10 = .ok (.ireturn, 1) := by decide +kernel
theorem dJ0_charAt_5068e_0 : decode cJ0_charAt_5068e 0 = .ok (.aload_n 0, 1) := by decide +kernel
theorem dJ0_charAt_5068e_1 : decode cJ0_charAt_5068e 1 = .ok (.invokevirtual 492, 3) := by decide +kernel
theorem dJ0_charAt_5068e_4 : decode cJ0_charAt_5068e 4 = .ok (.ifCond .eq 12, 3) := by decide +kernel
theorem dJ0_charAt_5068e_7 : decode cJ0_charAt_5068e 7 = .ok (.aload_n 0, 1) := by decide +kernel
theorem dJ0_charAt_5068e_8 : decode cJ0_charAt_5068e 8 = .ok (.getfield 9, 3) := by decide +kernel
theorem dJ0_charAt_5068e_11 : decode cJ0_charAt_5068e 11 = .ok (.iload_n 1, 1) := by decide +kernel
theorem dJ0_charAt_5068e_12 : decode cJ0_charAt_5068e 12 = .ok (.invokestatic 495, 3) := by decide +kernel
theorem dJ0_charAt_5068e_15 : decode cJ0_charAt_5068e 15 = .ok (.ireturn, 1) := by decide +kernel
theorem dJ0_charAt_5068e_16 : decode cJ0_charAt_5068e 16 = .ok (.aload_n 0, 1) := by decide +kernel
theorem dJ0_charAt_5068e_17 : decode cJ0_charAt_5068e 17 = .ok (.getfield 9, 3) := by decide +kernel
theorem dJ0_charAt_5068e_20 : decode cJ0_charAt_5068e 20 = .ok (.iload_n 1, 1) := by decide +kernel
theorem dJ0_charAt_5068e_21 : decode cJ0_charAt_5068e 21 = .ok (.invokestatic 498, 3) := by decide +kernel
theorem dJ0_charAt_5068e_24 : decode cJ0_charAt_5068e 24 = .ok (.ireturn, 1) := by decide +kernel
theorem dJ0_indexOf_0f7a4_0 : decode cJ0_indexOf_0f7a4 0 = .ok (.aload_n 0, 1) := by decide +kernel
theorem dJ0_indexOf_0f7a4_1 : decode cJ0_indexOf_0f7a4 1 = .ok (.iload_n 1, 1) := by decide +kernel
theorem dJ0_indexOf_0f7a4_2 : decode cJ0_indexOf_0f7a4 2 = .ok (.iconst 0, 1) := by decide +kernel
theorem dJ0_indexOf_0f7a4_3 : decode cJ0_indexOf_0f7a4 3 = .ok (.invokevirtual 633, 3) := by decide +kernel
theorem dJ0_indexOf_0f7a4_6 : decode cJ0_indexOf_0f7a4 6 = .ok (.ireturn, 1) := by decide +kernel
theorem dJ0_indexOf_7cf53_0 : decode cJ0_indexOf_7cf53 0 = .ok (.aload_n 0, 1) := by decide +kernel
theorem dJ0_indexOf_7cf53_1 : decode cJ0_indexOf_7cf53 1 = .ok (.invokevirtual 492, 3) := by decide +kernel
theorem dJ0_indexOf_7cf53_4 : decode cJ0_indexOf_7cf53 4 = .ok (.ifCond .eq 19, 3) := by decide +kernel
theorem dJ0_indexOf_7cf53_7 : decode cJ0_indexOf_7cf53 7 = .ok (.aload_n 0, 1) := by decide +kernel
theorem dJ0_indexOf_7cf53_8 : decode cJ0_indexOf_7cf53 8 = .ok (.getfield 9, 3) := by decide +kernel
theorem dJ0_indexOf_7cf53_11 : decode cJ0_indexOf_7cf53 11 = .ok (.iload_n 1, 1) := by decide +kernel
theorem dJ0_indexOf_7cf53_12 : decode cJ0_indexOf_7cf53 12 = .ok (.iload_n 2, 1) := by decide +kernel
theorem dJ0_indexOf_7cf53_13 : decode cJ0_indexOf_7cf53 13 = .ok (.aload_n 0, 1) := by decide +kernel
theorem dJ0_indexOf_7cf53_14 : decode cJ0_indexOf_7cf53 14 = .ok (.invokevirtual 505, 3) := by decide +kernel
theorem dJ0_indexOf_7cf53_17 : decode cJ0_indexOf_7cf53 17 = .ok (.invokestatic 637, 3) := by decide +kernel
theorem dJ0_indexOf_7cf53_20 : decode cJ0_indexOf_7cf53 20 = .ok (.goto 16, 3) := by decide +kernel
theorem dJ0_indexOf_7cf53_23 : decode cJ0_indexOf_7cf53 23 = .ok (.aload_n 0, 1) := by decide +kernel
theorem dJ0_indexOf_7cf53_24 : decode cJ0_indexOf_7cf53 24 = .ok (.getfield 9, 3) := by decide +kernel
theorem dJ0_indexOf_7cf53_27 : decode cJ0_indexOf_7cf53 27 = .ok (.iload_n 1, 1) := by decide +kernel
theorem dJ0_indexOf_7cf53_28 : decode cJ0_indexOf_7cf53 28 = .ok (.iload_n 2, 1) := by decide +kernel
theorem dJ0_indexOf_7cf53_29 : decode cJ0_indexOf_7cf53 29 = .ok (.aload_n 0, 1) := by decide +kernel
theorem dJ0_indexOf_7cf53_30 : decode cJ0_indexOf_7cf53 30 = .ok (.invokevirtual 505, 3) := by decide +kernel
theorem dJ0_indexOf_7cf53_33 : decode cJ0_indexOf_7cf53 33 = .ok (.invokestatic 640, 3) := by decide +kernel
theorem dJ0_indexOf_7cf53_36 : decode cJ0_indexOf_7cf53 36 = .ok (.ireturn, 1) := by decide +kernel
theorem dJ0_coder_7d493_0 : decode cJ0_coder_7d493 0 = .ok (.getstatic 38, 3) := by decide +kernel
theorem dJ0_coder_7d493_3 : decode cJ0_coder_7d493 3 = .ok (.ifCond .eq 10, 3) := by decide +kernel
theorem dJ0_coder_7d493_6 : decode cJ0_coder_7d493 6 = .ok (.aload_n 0, 1) := by decide +kernel
theorem dJ0_coder_7d493_7 : decode cJ0_coder_7d493 7 = .ok (.getfield 15, 3) := by decide +kernel
theorem dJ0_coder_7d493_10 : decode cJ0_coder_7d493 10 = .ok (.goto 4, 3) := by decide +kernel
theorem dJ0_coder_7d493_13 : decode cJ0_coder_7d493 13 = .ok (.iconst 1, 1) := by decide +kernel
theorem dJ0_coder_7d493_14 : decode cJ0_coder_7d493 14 = .ok (.ireturn, 1) := by decide +kernel
theorem dJ0_isLatin1_aae02_0 : decode cJ0_isLatin1_aae02 0 = .ok (.getstatic 38, 3) := by decide +kernel
theorem dJ0_isLatin1_aae02_3 : decode cJ0_isLatin1_aae02 3 = .ok (.ifCond .eq 14, 3) := by decide +kernel
theorem dJ0_isLatin1_aae02_6 : decode cJ0_isLatin1_aae02 6 = .ok (.aload_n 0, 1) := by decide +kernel
theorem dJ0_isLatin1_aae02_7 : decode cJ0_isLatin1_aae02 7 = .ok (.getfield 15, 3) := by decide +kernel
theorem dJ0_isLatin1_aae02_10 : decode cJ0_isLatin1_aae02 10 = .ok (.ifCond .ne 7, 3) := by decide +kernel
theorem dJ0_isLatin1_aae02_13 : decode cJ0_isLatin1_aae02 13 = .ok (.iconst 1, 1) := by decide +kernel
theorem dJ0_isLatin1_aae02_14 : decode cJ0_isLatin1_aae02 14 = .ok (.goto 4, 3) := by decide +kernel
theorem dJ0_isLatin1_aae02_17 : decode cJ0_isLatin1_aae02 17 = .ok (.iconst 0, 1) := by decide +kernel
theorem dJ0_isLatin1_aae02_18 : decode cJ0_isLatin1_aae02 18 = .ok (.ireturn, 1) := by decide +kernel
theorem dJ0_checkIndex_df160_0 : decode cJ0_checkIndex_df160 0 = .ok (.iload_n 0, 1) := by decide +kernel
theorem dJ0_checkIndex_df160_1 : decode cJ0_checkIndex_df160 1 = .ok (.iload_n 1, 1) := by decide +kernel
theorem dJ0_checkIndex_df160_2 : decode cJ0_checkIndex_df160 2 = .ok (.getstatic 1053, 3) := by decide +kernel
theorem dJ0_checkIndex_df160_5 : decode cJ0_checkIndex_df160 5 = .ok (.invokestatic 1059, 3) := by decide +kernel
theorem dJ0_checkIndex_df160_8 : decode cJ0_checkIndex_df160 8 = .ok (.pop, 1) := by decide +kernel
theorem dJ0_checkIndex_df160_9 : decode cJ0_checkIndex_df160 9 = .ok (.return_, 1) := by decide +kernel
theorem dJ0_checkBoundsBeginEnd_23922_0 : decode cJ0_checkBoundsBeginEnd_23922 0 = .ok (.iload_n 0, 1) := by decide +kernel
theorem dJ0_checkBoundsBeginEnd_23922_1 : decode cJ0_checkBoundsBeginEnd_23922 1 = .ok (.iload_n 1, 1) := by decide +kernel
theorem dJ0_checkBoundsBeginEnd_23922_2 : decode cJ0_checkBoundsBeginEnd_23922 2 = .ok (.iload_n 2, 1) := by decide +kernel
theorem dJ0_checkBoundsBeginEnd_23922_3 : decode cJ0_checkBoundsBeginEnd_23922 3 = .ok (.getstatic 1053, 3) := by decide +kernel
theorem dJ0_checkBoundsBeginEnd_23922_6 : decode cJ0_checkBoundsBeginEnd_23922 6 = .ok (.invokestatic 1062, 3) := by decide +kernel
theorem dJ0_checkBoundsBeginEnd_23922_9 : decode cJ0_checkBoundsBeginEnd_23922 9 = .ok (.pop, 1) := by decide +kernel
theorem dJ0_checkBoundsBeginEnd_23922_10 : decode cJ0_checkBoundsBeginEnd_23922 10 = .ok (.return_, 1) := by decide +kernel
theorem dJ1_charAt_3b067_0 : decode cJ1_charAt_3b067 0 = .ok (.iload_n 1, 1) := by decide +kernel
theorem dJ1_charAt_3b067_1 : decode cJ1_charAt_3b067 1 = .ok (.aload_n 0, 1) := by decide +kernel
theorem dJ1_charAt_3b067_2 : decode cJ1_charAt_3b067 2 = .ok (.arraylength, 1) := by decide +kernel
theorem dJ1_charAt_3b067_3 : decode cJ1_charAt_3b067 3 = .ok (.invokestatic 9, 3) := by decide +kernel
theorem dJ1_charAt_3b067_6 : decode cJ1_charAt_3b067 6 = .ok (.aload_n 0, 1) := by decide +kernel
theorem dJ1_charAt_3b067_7 : decode cJ1_charAt_3b067 7 = .ok (.iload_n 1, 1) := by decide +kernel
theorem dJ1_charAt_3b067_8 : decode cJ1_charAt_3b067 8 = .ok (.baload, 1) := by decide +kernel
theorem dJ1_charAt_3b067_9 : decode cJ1_charAt_3b067 9 = .ok (.sipush 255, 3) := by decide +kernel
theorem dJ1_charAt_3b067_12 : decode cJ1_charAt_3b067 12 = .ok (.iand, 1) := by decide +kernel
theorem dJ1_charAt_3b067_13 : decode cJ1_charAt_3b067 13 = .ok (.i2c, 1) := by decide +kernel
theorem dJ1_charAt_3b067_14 : decode cJ1_charAt_3b067 14 = .ok (.ireturn, 1) := by decide +kernel
theorem dJ1_canEncode_9a6ad_0 : decode cJ1_canEncode_9a6ad 0 = .ok (.iload_n 0, 1) := by decide +kernel
theorem dJ1_canEncode_9a6ad_1 : decode cJ1_canEncode_9a6ad 1 = .ok (.ifCond .lt 14, 3) := by decide +kernel
theorem dJ1_canEncode_9a6ad_4 : decode cJ1_canEncode_9a6ad 4 = .ok (.iload_n 0, 1) := by decide +kernel
theorem dJ1_canEncode_9a6ad_5 : decode cJ1_canEncode_9a6ad 5 = .ok (.sipush 255, 3) := by decide +kernel
theorem dJ1_canEncode_9a6ad_8 : decode cJ1_canEncode_9a6ad 8 = .ok (.if_icmp .gt 7, 3) := by decide +kernel
theorem dJ1_canEncode_9a6ad_11 : decode cJ1_canEncode_9a6ad 11 = .ok (.iconst 1, 1) := by decide +kernel
theorem dJ1_canEncode_9a6ad_12 : decode cJ1_canEncode_9a6ad 12 = .ok (.goto 4, 3) := by decide +kernel
theorem dJ1_canEncode_9a6ad_15 : decode cJ1_canEncode_9a6ad 15 = .ok (.iconst 0, 1) := by decide +kernel
theorem dJ1_canEncode_9a6ad_16 : decode cJ1_canEncode_9a6ad 16 = .ok (.ireturn, 1) := by decide +kernel
theorem dJ1_indexOf_4cfef_0 : decode cJ1_indexOf_4cfef 0 = .ok (.iload_n 1, 1) := by decide +kernel
theorem dJ1_indexOf_4cfef_1 : decode cJ1_indexOf_4cfef 1 = .ok (.invokestatic 88, 3) := by decide +kernel
theorem dJ1_indexOf_4cfef_4 : decode cJ1_indexOf_4cfef 4 = .ok (.ifCond .ne 5, 3) := by decide +kernel
theorem dJ1_indexOf_4cfef_7 : decode cJ1_indexOf_4cfef 7 = .ok (.iconst (-1), 1) := by decide +kernel
theorem dJ1_indexOf_4cfef_8 : decode cJ1_indexOf_4cfef 8 = .ok (.ireturn, 1) := by decide +kernel
theorem dJ1_indexOf_4cfef_9 : decode cJ1_indexOf_4cfef 9 = .ok (.iload_n 2, 1) := by decide +kernel
theorem dJ1_indexOf_4cfef_10 : decode cJ1_indexOf_4cfef 10 = .ok (.iconst 0, 1) := by decide +kernel
theorem dJ1_indexOf_4cfef_11 : decode cJ1_indexOf_4cfef 11 = .ok (.invokestatic 92, 3) := by decide +kernel
theorem dJ1_indexOf_4cfef_14 : decode cJ1_indexOf_4cfef 14 = .ok (.istore_n 2, 1) := by decide +kernel
theorem dJ1_indexOf_4cfef_15 : decode cJ1_indexOf_4cfef 15 = .ok (.iload_n 3, 1) := by decide +kernel
theorem dJ1_indexOf_4cfef_16 : decode cJ1_indexOf_4cfef 16 = .ok (.aload_n 0, 1) := by decide +kernel
theorem dJ1_indexOf_4cfef_17 : decode cJ1_indexOf_4cfef 17 = .ok (.arraylength, 1) := by decide +kernel
theorem dJ1_indexOf_4cfef_18 : decode cJ1_indexOf_4cfef 18 = .ok (.invokestatic 38, 3) := by decide +kernel
theorem dJ1_indexOf_4cfef_21 : decode cJ1_indexOf_4cfef 21 = .ok (.istore_n 3, 1) := by decide +kernel
theorem dJ1_indexOf_4cfef_22 : decode cJ1_indexOf_4cfef 22 = .ok (.iload_n 2, 1) := by decide +kernel
theorem dJ1_indexOf_4cfef_23 : decode cJ1_indexOf_4cfef 23 = .ok (.iload_n 3, 1) := by decide +kernel
theorem dJ1_indexOf_4cfef_24 : decode cJ1_indexOf_4cfef 24 = .ok (.if_icmp .lt 5, 3) := by decide +kernel
theorem dJ1_indexOf_4cfef_27 : decode cJ1_indexOf_4cfef 27 = .ok (.iconst (-1), 1) := by decide +kernel
theorem dJ1_indexOf_4cfef_28 : decode cJ1_indexOf_4cfef 28 = .ok (.ireturn, 1) := by decide +kernel
theorem dJ1_indexOf_4cfef_29 : decode cJ1_indexOf_4cfef 29 = .ok (.aload_n 0, 1) := by decide +kernel
theorem dJ1_indexOf_4cfef_30 : decode cJ1_indexOf_4cfef 30 = .ok (.iload_n 1, 1) := by decide +kernel
theorem dJ1_indexOf_4cfef_31 : decode cJ1_indexOf_4cfef 31 = .ok (.iload_n 2, 1) := by decide +kernel
theorem dJ1_indexOf_4cfef_32 : decode cJ1_indexOf_4cfef 32 = .ok (.iload_n 3, 1) := by decide +kernel
theorem dJ1_indexOf_4cfef_33 : decode cJ1_indexOf_4cfef 33 = .ok (.invokestatic 95, 3) := by decide +kernel
theorem dJ1_indexOf_4cfef_36 : decode cJ1_indexOf_4cfef 36 = .ok (.ireturn, 1) := by decide +kernel
theorem dJ1_indexOfChar_4cfef_0 : decode cJ1_indexOfChar_4cfef 0 = .ok (.iload_n 1, 1) := by decide +kernel
theorem dJ1_indexOfChar_4cfef_1 : decode cJ1_indexOfChar_4cfef 1 = .ok (.i2b, 1) := by decide +kernel
theorem dJ1_indexOfChar_4cfef_2 : decode cJ1_indexOfChar_4cfef 2 = .ok (.istore 4, 2) := by decide +kernel
theorem dJ1_indexOfChar_4cfef_4 : decode cJ1_indexOfChar_4cfef 4 = .ok (.iload_n 2, 1) := by decide +kernel
theorem dJ1_indexOfChar_4cfef_5 : decode cJ1_indexOfChar_4cfef 5 = .ok (.istore 5, 2) := by decide +kernel
theorem dJ1_indexOfChar_4cfef_7 : decode cJ1_indexOfChar_4cfef 7 = .ok (.iload 5, 2) := by decide +kernel
theorem dJ1_indexOfChar_4cfef_9 : decode cJ1_indexOfChar_4cfef 9 = .ok (.iload_n 3, 1) := by decide +kernel
theorem dJ1_indexOfChar_4cfef_10 : decode cJ1_indexOfChar_4cfef 10 = .ok (.if_icmp .ge 21, 3) := by decide +kernel
theorem dJ1_indexOfChar_4cfef_13 : decode cJ1_indexOfChar_4cfef 13 = .ok (.aload_n 0, 1) := by decide +kernel
theorem dJ1_indexOfChar_4cfef_14 : decode cJ1_indexOfChar_4cfef 14 = .ok (.iload 5, 2) := by decide +kernel
theorem dJ1_indexOfChar_4cfef_16 : decode cJ1_indexOfChar_4cfef 16 = .ok (.baload, 1) := by decide +kernel
theorem dJ1_indexOfChar_4cfef_17 : decode cJ1_indexOfChar_4cfef 17 = .ok (.iload 4, 2) := by decide +kernel
theorem dJ1_indexOfChar_4cfef_19 : decode cJ1_indexOfChar_4cfef 19 = .ok (.if_icmp .ne 6, 3) := by decide +kernel
theorem dJ1_indexOfChar_4cfef_22 : decode cJ1_indexOfChar_4cfef 22 = .ok (.iload 5, 2) := by decide +kernel
theorem dJ1_indexOfChar_4cfef_24 : decode cJ1_indexOfChar_4cfef 24 = .ok (.ireturn, 1) := by decide +kernel
theorem dJ1_indexOfChar_4cfef_25 : decode cJ1_indexOfChar_4cfef 25 = .ok (.iinc 5 1, 3) := by decide +kernel
theorem dJ1_indexOfChar_4cfef_28 : decode cJ1_indexOfChar_4cfef 28 = .ok (.goto (-21), 3) := by decide +kernel
theorem dJ1_indexOfChar_4cfef_31 : decode cJ1_indexOfChar_4cfef 31 = .ok (.iconst (-1), 1) := by decide +kernel
theorem dJ1_indexOfChar_4cfef_32 : decode cJ1_indexOfChar_4cfef 32 = .ok (.ireturn, 1) := by decide +kernel
theorem dJ7_fill_53178_0 : decode cJ7_fill_53178 0 = .ok (.iconst 0, 1) := by decide +kernel
theorem dJ7_fill_53178_1 : decode cJ7_fill_53178 1 = .ok (.istore_n 2, 1) := by decide +kernel
theorem dJ7_fill_53178_2 : decode cJ7_fill_53178 2 = .ok (.aload_n 0, 1) := by decide +kernel
theorem dJ7_fill_53178_3 : decode cJ7_fill_53178 3 = .ok (.arraylength, 1) := by decide +kernel
theorem dJ7_fill_53178_4 : decode cJ7_fill_53178 4 = .ok (.istore_n 3, 1) := by decide +kernel
theorem dJ7_fill_53178_5 : decode cJ7_fill_53178 5 = .ok (.iload_n 2, 1) := by decide +kernel
theorem dJ7_fill_53178_6 : decode cJ7_fill_53178 6 = .ok (.iload_n 3, 1) := by decide +kernel
theorem dJ7_fill_53178_7 : decode cJ7_fill_53178 7 = .ok (.if_icmp .ge 13, 3) := by decide +kernel
theorem dJ7_fill_53178_10 : decode cJ7_fill_53178 10 = .ok (.aload_n 0, 1) := by decide +kernel
theorem dJ7_fill_53178_11 : decode cJ7_fill_53178 11 = .ok (.iload_n 2, 1) := by decide +kernel
theorem dJ7_fill_53178_12 : decode cJ7_fill_53178 12 = .ok (.iload_n 1, 1) := by decide +kernel
theorem dJ7_fill_53178_13 : decode cJ7_fill_53178 13 = .ok (.iastore, 1) := by decide +kernel
theorem dJ7_fill_53178_14 : decode cJ7_fill_53178 14 = .ok (.iinc 2 1, 3) := by decide +kernel
theorem dJ7_fill_53178_17 : decode cJ7_fill_53178 17 = .ok (.goto (-12), 3) := by decide +kernel
theorem dJ7_fill_53178_20 : decode cJ7_fill_53178 20 = .ok (.return_, 1) := by decide +kernel
theorem dJ3_checkIndex_8e157_0 : decode cJ3_checkIndex_8e157 0 = .ok (.iload_n 0, 1) := by decide +kernel
theorem dJ3_checkIndex_8e157_1 : decode cJ3_checkIndex_8e157 1 = .ok (.ifCond .lt 8, 3) := by decide +kernel
theorem dJ3_checkIndex_8e157_4 : decode cJ3_checkIndex_8e157 4 = .ok (.iload_n 0, 1) := by decide +kernel
theorem dJ3_checkIndex_8e157_5 : decode cJ3_checkIndex_8e157 5 = .ok (.iload_n 1, 1) := by decide +kernel
theorem dJ3_checkIndex_8e157_6 : decode cJ3_checkIndex_8e157 6 = .ok (.if_icmp .lt 10, 3) := by decide +kernel
theorem dJ3_checkIndex_8e157_9 : decode cJ3_checkIndex_8e157 9 = .ok (.aload_n 2, 1) := by decide +kernel
theorem dJ3_checkIndex_8e157_10 : decode cJ3_checkIndex_8e157 10 = .ok (.iload_n 0, 1) := by decide +kernel
theorem dJ3_checkIndex_8e157_11 : decode cJ3_checkIndex_8e157 11 = .ok (.iload_n 1, 1) := by decide +kernel
theorem dJ3_checkIndex_8e157_12 : decode cJ3_checkIndex_8e157 12 = .ok (.invokestatic 95, 3) := by decide +kernel
theorem dJ3_checkIndex_8e157_15 : decode cJ3_checkIndex_8e157 15 = .ok (.athrow, 1) := by decide +kernel
theorem dJ3_checkIndex_8e157_16 : decode cJ3_checkIndex_8e157 16 = .ok (.iload_n 0, 1) := by decide +kernel
theorem dJ3_checkIndex_8e157_17 : decode cJ3_checkIndex_8e157 17 = .ok (.ireturn, 1) := by decide +kernel
theorem dJ3_checkFromToIndex_8c36e_0 : decode cJ3_checkFromToIndex_8c36e 0 = .ok (.iload_n 0, 1) := by decide +kernel
theorem dJ3_checkFromToIndex_8c36e_1 : decode cJ3_checkFromToIndex_8c36e 1 = .ok (.ifCond .lt 13, 3) := by decide +kernel
theorem dJ3_checkFromToIndex_8c36e_4 : decode cJ3_checkFromToIndex_8c36e 4 = .ok (.iload_n 0, 1) := by decide +kernel
theorem dJ3_checkFromToIndex_8c36e_5 : decode cJ3_checkFromToIndex_8c36e 5 = .ok (.iload_n 1, 1) := by decide +kernel
theorem dJ3_checkFromToIndex_8c36e_6 : decode cJ3_checkFromToIndex_8c36e 6 = .ok (.if_icmp .gt 8, 3) := by decide +kernel
theorem dJ3_checkFromToIndex_8c36e_9 : decode cJ3_checkFromToIndex_8c36e 9 = .ok (.iload_n 1, 1) := by decide +kernel
theorem dJ3_checkFromToIndex_8c36e_10 : decode cJ3_checkFromToIndex_8c36e 10 = .ok (.iload_n 2, 1) := by decide +kernel
theorem dJ3_checkFromToIndex_8c36e_11 : decode cJ3_checkFromToIndex_8c36e 11 = .ok (.if_icmp .le 11, 3) := by decide +kernel
theorem dJ3_checkFromToIndex_8c36e_14 : decode cJ3_checkFromToIndex_8c36e 14 = .ok (.aload_n 3, 1) := by decide +kernel
theorem dJ3_checkFromToIndex_8c36e_15 : decode cJ3_checkFromToIndex_8c36e 15 = .ok (.iload_n 0, 1) := by decide +kernel
theorem dJ3_checkFromToIndex_8c36e_16 : decode cJ3_checkFromToIndex_8c36e 16 = .ok (.iload_n 1, 1) := by decide +kernel
theorem dJ3_checkFromToIndex_8c36e_17 : decode cJ3_checkFromToIndex_8c36e 17 = .ok (.iload_n 2, 1) := by decide +kernel
theorem dJ3_checkFromToIndex_8c36e_18 : decode cJ3_checkFromToIndex_8c36e 18 = .ok (.invokestatic 99, 3) := by decide +kernel
theorem dJ3_checkFromToIndex_8c36e_21 : decode cJ3_checkFromToIndex_8c36e 21 = .ok (.athrow, 1) := by decide +kernel
theorem dJ3_checkFromToIndex_8c36e_22 : decode cJ3_checkFromToIndex_8c36e 22 = .ok (.iload_n 0, 1) := by decide +kernel
theorem dJ3_checkFromToIndex_8c36e_23 : decode cJ3_checkFromToIndex_8c36e 23 = .ok (.ireturn, 1) := by decide +kernel
theorem dL_law_0 : decode cL_law 0 = .ok (.new 7, 3) := by decide +kernel
theorem dL_law_3 : decode cL_law 3 = .ok (.dup, 1) := by decide +kernel
theorem dL_law_4 : decode cL_law 4 = .ok (.invokespecial 9, 3) := by decide +kernel
theorem dL_law_7 : decode cL_law 7 = .ok (.astore_n 1, 1) := by decide +kernel
theorem dL_law_8 : decode cL_law 8 = .ok (.new 10, 3) := by decide +kernel
theorem dL_law_11 : decode cL_law 11 = .ok (.dup, 1) := by decide +kernel
theorem dL_law_12 : decode cL_law 12 = .ok (.invokespecial 12, 3) := by decide +kernel
theorem dL_law_15 : decode cL_law 15 = .ok (.astore_n 2, 1) := by decide +kernel
theorem dL_law_16 : decode cL_law 16 = .ok (.iconst 0, 1) := by decide +kernel
theorem dL_law_17 : decode cL_law 17 = .ok (.istore_n 3, 1) := by decide +kernel
theorem dL_law_18 : decode cL_law 18 = .ok (.iload_n 3, 1) := by decide +kernel
theorem dL_law_19 : decode cL_law 19 = .ok (.aload_n 0, 1) := by decide +kernel
theorem dL_law_20 : decode cL_law 20 = .ok (.arraylength, 1) := by decide +kernel
theorem dL_law_21 : decode cL_law 21 = .ok (.iconst 5, 1) := by decide +kernel
theorem dL_law_22 : decode cL_law 22 = .ok (.isub, 1) := by decide +kernel
theorem dL_law_23 : decode cL_law 23 = .ok (.if_icmp .gt 408, 3) := by decide +kernel
theorem dL_law_26 : decode cL_law 26 = .ok (.aload_n 0, 1) := by decide +kernel
theorem dL_law_27 : decode cL_law 27 = .ok (.iload_n 3, 1) := by decide +kernel
theorem dL_law_28 : decode cL_law 28 = .ok (.iaload, 1) := by decide +kernel
theorem dL_law_29 : decode cL_law 29 = .ok (.bipush 15, 2) := by decide +kernel
theorem dL_law_31 : decode cL_law 31 = .ok (.iand, 1) := by decide +kernel
theorem dL_law_32 : decode cL_law 32 = .ok (.tableswitch 393 0 14 #[76, 145, 178, 201, 224, 263, 276, 289, 302, 315, 328, 341, 354, 367, 380], 76) := by decide +kernel
theorem dL_law_108 : decode cL_law 108 = .ok (.aload_n 1, 1) := by decide +kernel
theorem dL_law_109 : decode cL_law 109 = .ok (.aload_n 0, 1) := by decide +kernel
theorem dL_law_110 : decode cL_law 110 = .ok (.iload_n 3, 1) := by decide +kernel
theorem dL_law_111 : decode cL_law 111 = .ok (.iconst 1, 1) := by decide +kernel
theorem dL_law_112 : decode cL_law 112 = .ok (.iadd, 1) := by decide +kernel
theorem dL_law_113 : decode cL_law 113 = .ok (.iaload, 1) := by decide +kernel
theorem dL_law_114 : decode cL_law 114 = .ok (.aload_n 0, 1) := by decide +kernel
theorem dL_law_115 : decode cL_law 115 = .ok (.iload_n 3, 1) := by decide +kernel
theorem dL_law_116 : decode cL_law 116 = .ok (.iconst 2, 1) := by decide +kernel
theorem dL_law_117 : decode cL_law 117 = .ok (.iadd, 1) := by decide +kernel
theorem dL_law_118 : decode cL_law 118 = .ok (.iaload, 1) := by decide +kernel
theorem dL_law_119 : decode cL_law 119 = .ok (.ifCond .eq 7, 3) := by decide +kernel
theorem dL_law_122 : decode cL_law 122 = .ok (.iconst 1, 1) := by decide +kernel
theorem dL_law_123 : decode cL_law 123 = .ok (.goto 4, 3) := by decide +kernel
theorem dL_law_126 : decode cL_law 126 = .ok (.iconst 0, 1) := by decide +kernel
theorem dL_law_127 : decode cL_law 127 = .ok (.aload_n 0, 1) := by decide +kernel
theorem dL_law_128 : decode cL_law 128 = .ok (.iload_n 3, 1) := by decide +kernel
theorem dL_law_129 : decode cL_law 129 = .ok (.iconst 3, 1) := by decide +kernel
theorem dL_law_130 : decode cL_law 130 = .ok (.iadd, 1) := by decide +kernel
theorem dL_law_131 : decode cL_law 131 = .ok (.iaload, 1) := by decide +kernel
theorem dL_law_132 : decode cL_law 132 = .ok (.aload_n 0, 1) := by decide +kernel
theorem dL_law_133 : decode cL_law 133 = .ok (.iload_n 3, 1) := by decide +kernel
theorem dL_law_134 : decode cL_law 134 = .ok (.iconst 4, 1) := by decide +kernel
theorem dL_law_135 : decode cL_law 135 = .ok (.iadd, 1) := by decide +kernel
theorem dL_law_136 : decode cL_law 136 = .ok (.iaload, 1) := by decide +kernel
theorem dL_law_137 : decode cL_law 137 = .ok (.invokevirtual 13, 3) := by decide +kernel
theorem dL_law_140 : decode cL_law 140 = .ok (.aload_n 2, 1) := by decide +kernel
theorem dL_law_141 : decode cL_law 141 = .ok (.aload_n 0, 1) := by decide +kernel
theorem dL_law_142 : decode cL_law 142 = .ok (.iload_n 3, 1) := by decide +kernel
theorem dL_law_143 : decode cL_law 143 = .ok (.iconst 1, 1) := by decide +kernel
theorem dL_law_144 : decode cL_law 144 = .ok (.iadd, 1) := by decide +kernel
theorem dL_law_145 : decode cL_law 145 = .ok (.iaload, 1) := by decide +kernel
theorem dL_law_146 : decode cL_law 146 = .ok (.aload_n 0, 1) := by decide +kernel
theorem dL_law_147 : decode cL_law 147 = .ok (.iload_n 3, 1) := by decide +kernel
theorem dL_law_148 : decode cL_law 148 = .ok (.iconst 2, 1) := by decide +kernel
theorem dL_law_149 : decode cL_law 149 = .ok (.iadd, 1) := by decide +kernel
theorem dL_law_150 : decode cL_law 150 = .ok (.iaload, 1) := by decide +kernel
theorem dL_law_151 : decode cL_law 151 = .ok (.ifCond .eq 7, 3) := by decide +kernel
theorem dL_law_154 : decode cL_law 154 = .ok (.iconst 1, 1) := by decide +kernel
theorem dL_law_155 : decode cL_law 155 = .ok (.goto 4, 3) := by decide +kernel
theorem dL_law_158 : decode cL_law 158 = .ok (.iconst 0, 1) := by decide +kernel
theorem dL_law_159 : decode cL_law 159 = .ok (.aload_n 0, 1) := by decide +kernel
theorem dL_law_160 : decode cL_law 160 = .ok (.iload_n 3, 1) := by decide +kernel
theorem dL_law_161 : decode cL_law 161 = .ok (.iconst 3, 1) := by decide +kernel
theorem dL_law_162 : decode cL_law 162 = .ok (.iadd, 1) := by decide +kernel
theorem dL_law_163 : decode cL_law 163 = .ok (.iaload, 1) := by decide +kernel
theorem dL_law_164 : decode cL_law 164 = .ok (.aload_n 0, 1) := by decide +kernel
theorem dL_law_165 : decode cL_law 165 = .ok (.iload_n 3, 1) := by decide +kernel
theorem dL_law_166 : decode cL_law 166 = .ok (.iconst 4, 1) := by decide +kernel
theorem dL_law_167 : decode cL_law 167 = .ok (.iadd, 1) := by decide +kernel
theorem dL_law_168 : decode cL_law 168 = .ok (.iaload, 1) := by decide +kernel
theorem dL_law_169 : decode cL_law 169 = .ok (.invokevirtual 17, 3) := by decide +kernel
theorem dL_law_172 : decode cL_law 172 = .ok (.if_icmp .eq 253, 3) := by decide +kernel
theorem dL_law_175 : decode cL_law 175 = .ok (.iconst 0, 1) := by decide +kernel
theorem dL_law_176 : decode cL_law 176 = .ok (.ireturn, 1) := by decide +kernel
theorem dL_law_177 : decode cL_law 177 = .ok (.aload_n 1, 1) := by decide +kernel
theorem dL_law_178 : decode cL_law 178 = .ok (.aload_n 0, 1) := by decide +kernel
theorem dL_law_179 : decode cL_law 179 = .ok (.iload_n 3, 1) := by decide +kernel
theorem dL_law_180 : decode cL_law 180 = .ok (.iconst 1, 1) := by decide +kernel
theorem dL_law_181 : decode cL_law 181 = .ok (.iadd, 1) := by decide +kernel
theorem dL_law_182 : decode cL_law 182 = .ok (.iaload, 1) := by decide +kernel
theorem dL_law_183 : decode cL_law 183 = .ok (.aload_n 0, 1) := by decide +kernel
theorem dL_law_184 : decode cL_law 184 = .ok (.iload_n 3, 1) := by decide +kernel
theorem dL_law_185 : decode cL_law 185 = .ok (.iconst 2, 1) := by decide +kernel
theorem dL_law_186 : decode cL_law 186 = .ok (.iadd, 1) := by decide +kernel
theorem dL_law_187 : decode cL_law 187 = .ok (.iaload, 1) := by decide +kernel
theorem dL_law_188 : decode cL_law 188 = .ok (.invokevirtual 18, 3) := by decide +kernel
theorem dL_law_191 : decode cL_law 191 = .ok (.aload_n 2, 1) := by decide +kernel
theorem dL_law_192 : decode cL_law 192 = .ok (.aload_n 0, 1) := by decide +kernel
theorem dL_law_193 : decode cL_law 193 = .ok (.iload_n 3, 1) := by decide +kernel
theorem dL_law_194 : decode cL_law 194 = .ok (.iconst 1, 1) := by decide +kernel
theorem dL_law_195 : decode cL_law 195 = .ok (.iadd, 1) := by decide +kernel
theorem dL_law_196 : decode cL_law 196 = .ok (.iaload, 1) := by decide +kernel
theorem dL_law_197 : decode cL_law 197 = .ok (.aload_n 0, 1) := by decide +kernel
theorem dL_law_198 : decode cL_law 198 = .ok (.iload_n 3, 1) := by decide +kernel
theorem dL_law_199 : decode cL_law 199 = .ok (.iconst 2, 1) := by decide +kernel
theorem dL_law_200 : decode cL_law 200 = .ok (.iadd, 1) := by decide +kernel
theorem dL_law_201 : decode cL_law 201 = .ok (.iaload, 1) := by decide +kernel
theorem dL_law_202 : decode cL_law 202 = .ok (.invokevirtual 22, 3) := by decide +kernel
theorem dL_law_205 : decode cL_law 205 = .ok (.if_icmp .eq 220, 3) := by decide +kernel
theorem dL_law_208 : decode cL_law 208 = .ok (.iconst 0, 1) := by decide +kernel
theorem dL_law_209 : decode cL_law 209 = .ok (.ireturn, 1) := by decide +kernel
theorem dL_law_210 : decode cL_law 210 = .ok (.aload_n 1, 1) := by decide +kernel
theorem dL_law_211 : decode cL_law 211 = .ok (.aload_n 0, 1) := by decide +kernel
theorem dL_law_212 : decode cL_law 212 = .ok (.iload_n 3, 1) := by decide +kernel
theorem dL_law_213 : decode cL_law 213 = .ok (.iconst 1, 1) := by decide +kernel
theorem dL_law_214 : decode cL_law 214 = .ok (.iadd, 1) := by decide +kernel
theorem dL_law_215 : decode cL_law 215 = .ok (.iaload, 1) := by decide +kernel
theorem dL_law_216 : decode cL_law 216 = .ok (.invokevirtual 23, 3) := by decide +kernel
theorem dL_law_219 : decode cL_law 219 = .ok (.aload_n 2, 1) := by decide +kernel
theorem dL_law_220 : decode cL_law 220 = .ok (.aload_n 0, 1) := by decide +kernel
theorem dL_law_221 : decode cL_law 221 = .ok (.iload_n 3, 1) := by decide +kernel
theorem dL_law_222 : decode cL_law 222 = .ok (.iconst 1, 1) := by decide +kernel
theorem dL_law_223 : decode cL_law 223 = .ok (.iadd, 1) := by decide +kernel
theorem dL_law_224 : decode cL_law 224 = .ok (.iaload, 1) := by decide +kernel
theorem dL_law_225 : decode cL_law 225 = .ok (.invokevirtual 27, 3) := by decide +kernel
theorem dL_law_228 : decode cL_law 228 = .ok (.if_icmp .eq 197, 3) := by decide +kernel
theorem dL_law_231 : decode cL_law 231 = .ok (.iconst 0, 1) := by decide +kernel
theorem dL_law_232 : decode cL_law 232 = .ok (.ireturn, 1) := by decide +kernel
theorem dL_law_233 : decode cL_law 233 = .ok (.aload_n 1, 1) := by decide +kernel
theorem dL_law_234 : decode cL_law 234 = .ok (.aload_n 0, 1) := by decide +kernel
theorem dL_law_235 : decode cL_law 235 = .ok (.iload_n 3, 1) := by decide +kernel
theorem dL_law_236 : decode cL_law 236 = .ok (.iconst 1, 1) := by decide +kernel
theorem dL_law_237 : decode cL_law 237 = .ok (.iadd, 1) := by decide +kernel
theorem dL_law_238 : decode cL_law 238 = .ok (.iaload, 1) := by decide +kernel
theorem dL_law_239 : decode cL_law 239 = .ok (.invokevirtual 28, 3) := by decide +kernel
theorem dL_law_242 : decode cL_law 242 = .ok (.aload_n 2, 1) := by decide +kernel
theorem dL_law_243 : decode cL_law 243 = .ok (.aload_n 0, 1) := by decide +kernel
theorem dL_law_244 : decode cL_law 244 = .ok (.iload_n 3, 1) := by decide +kernel
theorem dL_law_245 : decode cL_law 245 = .ok (.iconst 1, 1) := by decide +kernel
theorem dL_law_246 : decode cL_law 246 = .ok (.iadd, 1) := by decide +kernel
theorem dL_law_247 : decode cL_law 247 = .ok (.iaload, 1) := by decide +kernel
theorem dL_law_248 : decode cL_law 248 = .ok (.invokevirtual 31, 3) := by decide +kernel
theorem dL_law_251 : decode cL_law 251 = .ok (.if_icmp .eq 174, 3) := by decide +kernel
theorem dL_law_254 : decode cL_law 254 = .ok (.iconst 0, 1) := by decide +kernel
theorem dL_law_255 : decode cL_law 255 = .ok (.ireturn, 1) := by decide +kernel
theorem dL_law_256 : decode cL_law 256 = .ok (.aload_n 1, 1) := by decide +kernel
theorem dL_law_257 : decode cL_law 257 = .ok (.aload_n 0, 1) := by decide +kernel
theorem dL_law_258 : decode cL_law 258 = .ok (.iload_n 3, 1) := by decide +kernel
theorem dL_law_259 : decode cL_law 259 = .ok (.iconst 1, 1) := by decide +kernel
theorem dL_law_260 : decode cL_law 260 = .ok (.iadd, 1) := by decide +kernel
theorem dL_law_261 : decode cL_law 261 = .ok (.iaload, 1) := by decide +kernel
theorem dL_law_262 : decode cL_law 262 = .ok (.ifCond .eq 7, 3) := by decide +kernel
theorem dL_law_265 : decode cL_law 265 = .ok (.iconst 1, 1) := by decide +kernel
theorem dL_law_266 : decode cL_law 266 = .ok (.goto 4, 3) := by decide +kernel
theorem dL_law_269 : decode cL_law 269 = .ok (.iconst 0, 1) := by decide +kernel
theorem dL_law_270 : decode cL_law 270 = .ok (.invokevirtual 32, 3) := by decide +kernel
theorem dL_law_273 : decode cL_law 273 = .ok (.aload_n 2, 1) := by decide +kernel
theorem dL_law_274 : decode cL_law 274 = .ok (.aload_n 0, 1) := by decide +kernel
theorem dL_law_275 : decode cL_law 275 = .ok (.iload_n 3, 1) := by decide +kernel
theorem dL_law_276 : decode cL_law 276 = .ok (.iconst 1, 1) := by decide +kernel
theorem dL_law_277 : decode cL_law 277 = .ok (.iadd, 1) := by decide +kernel
theorem dL_law_278 : decode cL_law 278 = .ok (.iaload, 1) := by decide +kernel
theorem dL_law_279 : decode cL_law 279 = .ok (.ifCond .eq 7, 3) := by decide +kernel
theorem dL_law_282 : decode cL_law 282 = .ok (.iconst 1, 1) := by decide +kernel
theorem dL_law_283 : decode cL_law 283 = .ok (.goto 4, 3) := by decide +kernel
theorem dL_law_286 : decode cL_law 286 = .ok (.iconst 0, 1) := by decide +kernel
theorem dL_law_287 : decode cL_law 287 = .ok (.invokevirtual 36, 3) := by decide +kernel
theorem dL_law_290 : decode cL_law 290 = .ok (.if_icmp .eq 135, 3) := by decide +kernel
theorem dL_law_293 : decode cL_law 293 = .ok (.iconst 0, 1) := by decide +kernel
theorem dL_law_294 : decode cL_law 294 = .ok (.ireturn, 1) := by decide +kernel
theorem dL_law_295 : decode cL_law 295 = .ok (.aload_n 1, 1) := by decide +kernel
theorem dL_law_296 : decode cL_law 296 = .ok (.invokevirtual 37, 3) := by decide +kernel
theorem dL_law_299 : decode cL_law 299 = .ok (.aload_n 2, 1) := by decide +kernel
theorem dL_law_300 : decode cL_law 300 = .ok (.invokevirtual 41, 3) := by decide +kernel
theorem dL_law_303 : decode cL_law 303 = .ok (.if_icmp .eq 122, 3) := by decide +kernel
theorem dL_law_306 : decode cL_law 306 = .ok (.iconst 0, 1) := by decide +kernel
theorem dL_law_307 : decode cL_law 307 = .ok (.ireturn, 1) := by decide +kernel
theorem dL_law_308 : decode cL_law 308 = .ok (.aload_n 1, 1) := by decide +kernel
theorem dL_law_309 : decode cL_law 309 = .ok (.invokevirtual 42, 3) := by decide +kernel
theorem dL_law_312 : decode cL_law 312 = .ok (.aload_n 2, 1) := by decide +kernel
theorem dL_law_313 : decode cL_law 313 = .ok (.invokevirtual 46, 3) := by decide +kernel
theorem dL_law_316 : decode cL_law 316 = .ok (.if_icmp .eq 109, 3) := by decide +kernel
theorem dL_law_319 : decode cL_law 319 = .ok (.iconst 0, 1) := by decide +kernel
theorem dL_law_320 : decode cL_law 320 = .ok (.ireturn, 1) := by decide +kernel
theorem dL_law_321 : decode cL_law 321 = .ok (.aload_n 1, 1) := by decide +kernel
theorem dL_law_322 : decode cL_law 322 = .ok (.invokevirtual 47, 3) := by decide +kernel
theorem dL_law_325 : decode cL_law 325 = .ok (.aload_n 2, 1) := by decide +kernel
theorem dL_law_326 : decode cL_law 326 = .ok (.invokevirtual 50, 3) := by decide +kernel
theorem dL_law_329 : decode cL_law 329 = .ok (.if_icmp .eq 96, 3) := by decide +kernel
theorem dL_law_332 : decode cL_law 332 = .ok (.iconst 0, 1) := by decide +kernel
theorem dL_law_333 : decode cL_law 333 = .ok (.ireturn, 1) := by decide +kernel
theorem dL_law_334 : decode cL_law 334 = .ok (.aload_n 1, 1) := by decide +kernel
theorem dL_law_335 : decode cL_law 335 = .ok (.invokevirtual 51, 3) := by decide +kernel
theorem dL_law_338 : decode cL_law 338 = .ok (.aload_n 2, 1) := by decide +kernel
theorem dL_law_339 : decode cL_law 339 = .ok (.invokevirtual 54, 3) := by decide +kernel
theorem dL_law_342 : decode cL_law 342 = .ok (.if_icmp .eq 83, 3) := by decide +kernel
theorem dL_law_345 : decode cL_law 345 = .ok (.iconst 0, 1) := by decide +kernel
theorem dL_law_346 : decode cL_law 346 = .ok (.ireturn, 1) := by decide +kernel
theorem dL_law_347 : decode cL_law 347 = .ok (.aload_n 1, 1) := by decide +kernel
theorem dL_law_348 : decode cL_law 348 = .ok (.invokevirtual 55, 3) := by decide +kernel
theorem dL_law_351 : decode cL_law 351 = .ok (.aload_n 2, 1) := by decide +kernel
theorem dL_law_352 : decode cL_law 352 = .ok (.invokevirtual 58, 3) := by decide +kernel
theorem dL_law_355 : decode cL_law 355 = .ok (.if_icmp .eq 70, 3) := by decide +kernel
theorem dL_law_358 : decode cL_law 358 = .ok (.iconst 0, 1) := by decide +kernel
theorem dL_law_359 : decode cL_law 359 = .ok (.ireturn, 1) := by decide +kernel
theorem dL_law_360 : decode cL_law 360 = .ok (.aload_n 1, 1) := by decide +kernel
theorem dL_law_361 : decode cL_law 361 = .ok (.invokevirtual 59, 3) := by decide +kernel
theorem dL_law_364 : decode cL_law 364 = .ok (.aload_n 2, 1) := by decide +kernel
theorem dL_law_365 : decode cL_law 365 = .ok (.invokevirtual 62, 3) := by decide +kernel
theorem dL_law_368 : decode cL_law 368 = .ok (.if_icmp .eq 57, 3) := by decide +kernel
theorem dL_law_371 : decode cL_law 371 = .ok (.iconst 0, 1) := by decide +kernel
theorem dL_law_372 : decode cL_law 372 = .ok (.ireturn, 1) := by decide +kernel
theorem dL_law_373 : decode cL_law 373 = .ok (.aload_n 1, 1) := by decide +kernel
theorem dL_law_374 : decode cL_law 374 = .ok (.invokevirtual 63, 3) := by decide +kernel
theorem dL_law_377 : decode cL_law 377 = .ok (.aload_n 2, 1) := by decide +kernel
theorem dL_law_378 : decode cL_law 378 = .ok (.invokevirtual 66, 3) := by decide +kernel
theorem dL_law_381 : decode cL_law 381 = .ok (.if_icmp .eq 44, 3) := by decide +kernel
theorem dL_law_384 : decode cL_law 384 = .ok (.iconst 0, 1) := by decide +kernel
theorem dL_law_385 : decode cL_law 385 = .ok (.ireturn, 1) := by decide +kernel
theorem dL_law_386 : decode cL_law 386 = .ok (.aload_n 1, 1) := by decide +kernel
theorem dL_law_387 : decode cL_law 387 = .ok (.invokevirtual 67, 3) := by decide +kernel
theorem dL_law_390 : decode cL_law 390 = .ok (.aload_n 2, 1) := by decide +kernel
theorem dL_law_391 : decode cL_law 391 = .ok (.invokevirtual 70, 3) := by decide +kernel
theorem dL_law_394 : decode cL_law 394 = .ok (.if_icmp .eq 31, 3) := by decide +kernel
theorem dL_law_397 : decode cL_law 397 = .ok (.iconst 0, 1) := by decide +kernel
theorem dL_law_398 : decode cL_law 398 = .ok (.ireturn, 1) := by decide +kernel
theorem dL_law_399 : decode cL_law 399 = .ok (.aload_n 1, 1) := by decide +kernel
theorem dL_law_400 : decode cL_law 400 = .ok (.invokevirtual 71, 3) := by decide +kernel
theorem dL_law_403 : decode cL_law 403 = .ok (.aload_n 2, 1) := by decide +kernel
theorem dL_law_404 : decode cL_law 404 = .ok (.invokevirtual 74, 3) := by decide +kernel
theorem dL_law_407 : decode cL_law 407 = .ok (.if_icmp .eq 18, 3) := by decide +kernel
theorem dL_law_410 : decode cL_law 410 = .ok (.iconst 0, 1) := by decide +kernel
theorem dL_law_411 : decode cL_law 411 = .ok (.ireturn, 1) := by decide +kernel
theorem dL_law_412 : decode cL_law 412 = .ok (.aload_n 1, 1) := by decide +kernel
theorem dL_law_413 : decode cL_law 413 = .ok (.invokevirtual 75, 3) := by decide +kernel
theorem dL_law_416 : decode cL_law 416 = .ok (.aload_n 2, 1) := by decide +kernel
theorem dL_law_417 : decode cL_law 417 = .ok (.invokevirtual 78, 3) := by decide +kernel
theorem dL_law_420 : decode cL_law 420 = .ok (.if_icmp .eq 5, 3) := by decide +kernel
theorem dL_law_423 : decode cL_law 423 = .ok (.iconst 0, 1) := by decide +kernel
theorem dL_law_424 : decode cL_law 424 = .ok (.ireturn, 1) := by decide +kernel
theorem dL_law_425 : decode cL_law 425 = .ok (.iinc 3 5, 3) := by decide +kernel
theorem dL_law_428 : decode cL_law 428 = .ok (.goto (-410), 3) := by decide +kernel
theorem dL_law_431 : decode cL_law 431 = .ok (.iconst 1, 1) := by decide +kernel
theorem dL_law_432 : decode cL_law 432 = .ok (.ireturn, 1) := by decide +kernel
end
section
theorem zz_tiny : True := trivial
end
