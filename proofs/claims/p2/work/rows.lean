section
/-! part 01: the tables' words (kit's PART A), the printed names of classes, fields, methods; the link tables -/
-- ===== PART A: goes FIRST, ahead of the names: the tables' words, and 'selects' of the private methods out of them =====
/-- a private method of a class that the tables say can be made, by its rows of tables_1 -/
def lw_okq (q : MethodName × Nat) : Prop := (q.1.cls ≠ "java/lang/invoke/MethodHandle" ∧ q.1.cls ≠ "java/lang/invoke/VarHandle") ∧ Cond.instantiable q.1.cls q.2 ∈ tables_1 ∧ Cond.privateMethod q.1 ∈ tables_1 ∧ Cond.instanceMethod q.1 ∈ tables_1
theorem lw_p0 : lw_okq (⟨"CarriedAsFarAsTheStile", "refuse", "(I)I"⟩, 11) := ⟨⟨by decide +kernel, by decide +kernel⟩, List.mem_of_getElem? (i := 18) (by decide +kernel), List.mem_of_getElem? (i := 318) (by decide +kernel), List.mem_of_getElem? (i := 319) (by decide +kernel)⟩
theorem lw_p1 : lw_okq (⟨"CarriedAsFarAsTheStile", "whyNoRow", "(I)I"⟩, 11) := ⟨⟨by decide +kernel, by decide +kernel⟩, List.mem_of_getElem? (i := 18) (by decide +kernel), List.mem_of_getElem? (i := 330) (by decide +kernel), List.mem_of_getElem? (i := 331) (by decide +kernel)⟩
theorem lw_p2 : lw_okq (⟨"CarriedAsFarAsTheStile", "whyNoCopy", "(II)I"⟩, 11) := ⟨⟨by decide +kernel, by decide +kernel⟩, List.mem_of_getElem? (i := 18) (by decide +kernel), List.mem_of_getElem? (i := 350) (by decide +kernel), List.mem_of_getElem? (i := 351) (by decide +kernel)⟩
theorem lw_p3 : lw_okq (⟨"CarriedAsFarAsTheStile", "refuseFar", "(I)I"⟩, 11) := ⟨⟨by decide +kernel, by decide +kernel⟩, List.mem_of_getElem? (i := 18) (by decide +kernel), List.mem_of_getElem? (i := 426) (by decide +kernel), List.mem_of_getElem? (i := 427) (by decide +kernel)⟩
theorem lw_p4 : lw_okq (⟨"CarriedAsFarAsTheStile$Telling", "readItem", "()V"⟩, 7) := ⟨⟨by decide +kernel, by decide +kernel⟩, List.mem_of_getElem? (i := 199) (by decide +kernel), List.mem_of_getElem? (i := 483) (by decide +kernel), List.mem_of_getElem? (i := 484) (by decide +kernel)⟩
theorem lw_p5 : lw_okq (⟨"CarriedAsFarAsTheStile$Telling", "readWord", "()I"⟩, 7) := ⟨⟨by decide +kernel, by decide +kernel⟩, List.mem_of_getElem? (i := 199) (by decide +kernel), List.mem_of_getElem? (i := 487) (by decide +kernel), List.mem_of_getElem? (i := 488) (by decide +kernel)⟩
theorem lw_p6 : lw_okq (⟨"CarriedAsFarAsTheStile$Telling", "wordBeginning", "(II)I"⟩, 7) := ⟨⟨by decide +kernel, by decide +kernel⟩, List.mem_of_getElem? (i := 199) (by decide +kernel), List.mem_of_getElem? (i := 491) (by decide +kernel), List.mem_of_getElem? (i := 492) (by decide +kernel)⟩
theorem lw_p7 : lw_okq (⟨"CarriedAsFarAsTheStile$Telling", "beginsThere", "(Ljava/lang/String;II)Z"⟩, 7) := ⟨⟨by decide +kernel, by decide +kernel⟩, List.mem_of_getElem? (i := 199) (by decide +kernel), List.mem_of_getElem? (i := 510) (by decide +kernel), List.mem_of_getElem? (i := 511) (by decide +kernel)⟩
theorem lw_p8 : lw_okq (⟨"CarriedAsFarAsTheStile$Telling", "hasRoomFor", "(I)Z"⟩, 7) := ⟨⟨by decide +kernel, by decide +kernel⟩, List.mem_of_getElem? (i := 199) (by decide +kernel), List.mem_of_getElem? (i := 562) (by decide +kernel), List.mem_of_getElem? (i := 563) (by decide +kernel)⟩
theorem lw_p9 : lw_okq (⟨"CarriedAsFarAsTheStile$Telling", "tellFurlong", "(I)V"⟩, 7) := ⟨⟨by decide +kernel, by decide +kernel⟩, List.mem_of_getElem? (i := 199) (by decide +kernel), List.mem_of_getElem? (i := 566) (by decide +kernel), List.mem_of_getElem? (i := 567) (by decide +kernel)⟩
theorem lw_p10 : lw_okq (⟨"CarriedAsFarAsTheStile$Telling", "readNumber", "(II)I"⟩, 7) := ⟨⟨by decide +kernel, by decide +kernel⟩, List.mem_of_getElem? (i := 199) (by decide +kernel), List.mem_of_getElem? (i := 570) (by decide +kernel), List.mem_of_getElem? (i := 571) (by decide +kernel)⟩
theorem lw_p11 : lw_okq (⟨"CarriedAsFarAsTheStile$Telling", "readSign", "(C)Z"⟩, 7) := ⟨⟨by decide +kernel, by decide +kernel⟩, List.mem_of_getElem? (i := 199) (by decide +kernel), List.mem_of_getElem? (i := 574) (by decide +kernel), List.mem_of_getElem? (i := 575) (by decide +kernel)⟩
theorem lw_p12 : lw_okq (⟨"CarriedAsFarAsTheStile$Telling", "isDigitNext", "()Z"⟩, 7) := ⟨⟨by decide +kernel, by decide +kernel⟩, List.mem_of_getElem? (i := 199) (by decide +kernel), List.mem_of_getElem? (i := 578) (by decide +kernel), List.mem_of_getElem? (i := 579) (by decide +kernel)⟩
theorem lw_p13 : lw_okq (⟨"CarriedAsFarAsTheStile$Telling", "tellPerson", "()V"⟩, 7) := ⟨⟨by decide +kernel, by decide +kernel⟩, List.mem_of_getElem? (i := 199) (by decide +kernel), List.mem_of_getElem? (i := 583) (by decide +kernel), List.mem_of_getElem? (i := 584) (by decide +kernel)⟩
theorem lw_p14 : lw_okq (⟨"CarriedAsFarAsTheStile$Telling", "tellTired", "()V"⟩, 7) := ⟨⟨by decide +kernel, by decide +kernel⟩, List.mem_of_getElem? (i := 199) (by decide +kernel), List.mem_of_getElem? (i := 588) (by decide +kernel), List.mem_of_getElem? (i := 589) (by decide +kernel)⟩
theorem lw_p15 : lw_okq (⟨"CarriedAsFarAsTheStile$Telling", "tellBag", "()V"⟩, 7) := ⟨⟨by decide +kernel, by decide +kernel⟩, List.mem_of_getElem? (i := 199) (by decide +kernel), List.mem_of_getElem? (i := 592) (by decide +kernel), List.mem_of_getElem? (i := 593) (by decide +kernel)⟩
def lw_privs_1 : List (MethodName × Nat) := [(⟨"CarriedAsFarAsTheStile", "refuse", "(I)I"⟩, 11), (⟨"CarriedAsFarAsTheStile", "whyNoRow", "(I)I"⟩, 11), (⟨"CarriedAsFarAsTheStile", "whyNoCopy", "(II)I"⟩, 11), (⟨"CarriedAsFarAsTheStile", "refuseFar", "(I)I"⟩, 11), (⟨"CarriedAsFarAsTheStile$Telling", "readItem", "()V"⟩, 7), (⟨"CarriedAsFarAsTheStile$Telling", "readWord", "()I"⟩, 7), (⟨"CarriedAsFarAsTheStile$Telling", "wordBeginning", "(II)I"⟩, 7), (⟨"CarriedAsFarAsTheStile$Telling", "beginsThere", "(Ljava/lang/String;II)Z"⟩, 7), (⟨"CarriedAsFarAsTheStile$Telling", "hasRoomFor", "(I)Z"⟩, 7), (⟨"CarriedAsFarAsTheStile$Telling", "tellFurlong", "(I)V"⟩, 7), (⟨"CarriedAsFarAsTheStile$Telling", "readNumber", "(II)I"⟩, 7), (⟨"CarriedAsFarAsTheStile$Telling", "readSign", "(C)Z"⟩, 7), (⟨"CarriedAsFarAsTheStile$Telling", "isDigitNext", "()Z"⟩, 7), (⟨"CarriedAsFarAsTheStile$Telling", "tellPerson", "()V"⟩, 7), (⟨"CarriedAsFarAsTheStile$Telling", "tellTired", "()V"⟩, 7), (⟨"CarriedAsFarAsTheStile$Telling", "tellBag", "()V"⟩, 7)]
theorem lw_r1 : ∀ q ∈ lw_privs_1, lw_okq q := List.forall_mem_cons.mpr ⟨lw_p0, List.forall_mem_cons.mpr ⟨lw_p1, List.forall_mem_cons.mpr ⟨lw_p2, List.forall_mem_cons.mpr ⟨lw_p3, List.forall_mem_cons.mpr ⟨lw_p4, List.forall_mem_cons.mpr ⟨lw_p5, List.forall_mem_cons.mpr ⟨lw_p6, List.forall_mem_cons.mpr ⟨lw_p7, List.forall_mem_cons.mpr ⟨lw_p8, List.forall_mem_cons.mpr ⟨lw_p9, List.forall_mem_cons.mpr ⟨lw_p10, List.forall_mem_cons.mpr ⟨lw_p11, List.forall_mem_cons.mpr ⟨lw_p12, List.forall_mem_cons.mpr ⟨lw_p13, List.forall_mem_cons.mpr ⟨lw_p14, List.forall_mem_cons.mpr ⟨lw_p15, fun _ h => absurd h List.not_mem_nil⟩⟩⟩⟩⟩⟩⟩⟩⟩⟩⟩⟩⟩⟩⟩⟩
theorem lw_p16 : lw_okq (⟨"CarriedAsFarAsTheStile$Telling", "tellAct", "()V"⟩, 7) := ⟨⟨by decide +kernel, by decide +kernel⟩, List.mem_of_getElem? (i := 199) (by decide +kernel), List.mem_of_getElem? (i := 596) (by decide +kernel), List.mem_of_getElem? (i := 597) (by decide +kernel)⟩
theorem lw_p17 : lw_okq (⟨"CarriedAsFarAsTheStile$Walk", "mayWalk", "()Z"⟩, 13) := ⟨⟨by decide +kernel, by decide +kernel⟩, List.mem_of_getElem? (i := 28) (by decide +kernel), List.mem_of_getElem? (i := 604) (by decide +kernel), List.mem_of_getElem? (i := 605) (by decide +kernel)⟩
theorem lw_p18 : lw_okq (⟨"CarriedAsFarAsTheStile$Walk", "mayRest", "()Z"⟩, 13) := ⟨⟨by decide +kernel, by decide +kernel⟩, List.mem_of_getElem? (i := 28) (by decide +kernel), List.mem_of_getElem? (i := 613) (by decide +kernel), List.mem_of_getElem? (i := 614) (by decide +kernel)⟩
theorem lw_p19 : lw_okq (⟨"CarriedAsFarAsTheStile$Walk", "walk", "()V"⟩, 13) := ⟨⟨by decide +kernel, by decide +kernel⟩, List.mem_of_getElem? (i := 28) (by decide +kernel), List.mem_of_getElem? (i := 627) (by decide +kernel), List.mem_of_getElem? (i := 628) (by decide +kernel)⟩
theorem lw_p20 : lw_okq (⟨"CarriedAsFarAsTheStile$Walk", "restOthers", "(I)V"⟩, 13) := ⟨⟨by decide +kernel, by decide +kernel⟩, List.mem_of_getElem? (i := 28) (by decide +kernel), List.mem_of_getElem? (i := 631) (by decide +kernel), List.mem_of_getElem? (i := 632) (by decide +kernel)⟩
theorem lw_p21 : lw_okq (⟨"CarriedAsFarAsTheStile$Walk", "restAll", "()V"⟩, 13) := ⟨⟨by decide +kernel, by decide +kernel⟩, List.mem_of_getElem? (i := 28) (by decide +kernel), List.mem_of_getElem? (i := 639) (by decide +kernel), List.mem_of_getElem? (i := 640) (by decide +kernel)⟩
theorem lw_p22 : lw_okq (⟨"CarriedAsFarAsTheStile$Walk", "carry", "(I)V"⟩, 13) := ⟨⟨by decide +kernel, by decide +kernel⟩, List.mem_of_getElem? (i := 28) (by decide +kernel), List.mem_of_getElem? (i := 643) (by decide +kernel), List.mem_of_getElem? (i := 644) (by decide +kernel)⟩
theorem lw_p23 : lw_okq (⟨"CarriedAsFarAsTheStile$Telling", "tellAsked", "(I)V"⟩, 7) := ⟨⟨by decide +kernel, by decide +kernel⟩, List.mem_of_getElem? (i := 199) (by decide +kernel), List.mem_of_getElem? (i := 647) (by decide +kernel), List.mem_of_getElem? (i := 648) (by decide +kernel)⟩
theorem lw_p24 : lw_okq (⟨"CarriedAsFarAsTheStile$Search", "deeper", "(II)V"⟩, 8) := ⟨⟨by decide +kernel, by decide +kernel⟩, List.mem_of_getElem? (i := 160) (by decide +kernel), List.mem_of_getElem? (i := 688) (by decide +kernel), List.mem_of_getElem? (i := 689) (by decide +kernel)⟩
theorem lw_p25 : lw_okq (⟨"CarriedAsFarAsTheStile$Search", "isHopeless", "(II)Z"⟩, 8) := ⟨⟨by decide +kernel, by decide +kernel⟩, List.mem_of_getElem? (i := 160) (by decide +kernel), List.mem_of_getElem? (i := 692) (by decide +kernel), List.mem_of_getElem? (i := 693) (by decide +kernel)⟩
theorem lw_p26 : lw_okq (⟨"CarriedAsFarAsTheStile$Search", "offer", "(II)V"⟩, 8) := ⟨⟨by decide +kernel, by decide +kernel⟩, List.mem_of_getElem? (i := 160) (by decide +kernel), List.mem_of_getElem? (i := 700) (by decide +kernel), List.mem_of_getElem? (i := 701) (by decide +kernel)⟩
theorem lw_p27 : lw_okq (⟨"CarriedAsFarAsTheStile$Rules", "choose", "(I)I"⟩, 4) := ⟨⟨by decide +kernel, by decide +kernel⟩, List.mem_of_getElem? (i := 136) (by decide +kernel), List.mem_of_getElem? (i := 730) (by decide +kernel), List.mem_of_getElem? (i := 731) (by decide +kernel)⟩
theorem lw_p28 : lw_okq (⟨"CarriedAsFarAsTheStile$Rules", "whoseTurn", "()I"⟩, 4) := ⟨⟨by decide +kernel, by decide +kernel⟩, List.mem_of_getElem? (i := 136) (by decide +kernel), List.mem_of_getElem? (i := 735) (by decide +kernel), List.mem_of_getElem? (i := 736) (by decide +kernel)⟩
theorem lw_p29 : lw_okq (⟨"CarriedAsFarAsTheStile$Rules", "freshest", "()I"⟩, 4) := ⟨⟨by decide +kernel, by decide +kernel⟩, List.mem_of_getElem? (i := 136) (by decide +kernel), List.mem_of_getElem? (i := 740) (by decide +kernel), List.mem_of_getElem? (i := 741) (by decide +kernel)⟩
theorem lw_p30 : lw_okq (⟨"CarriedAsFarAsTheStile", "whyNoWalk", "(II)I"⟩, 11) := ⟨⟨by decide +kernel, by decide +kernel⟩, List.mem_of_getElem? (i := 18) (by decide +kernel), List.mem_of_getElem? (i := 777) (by decide +kernel), List.mem_of_getElem? (i := 778) (by decide +kernel)⟩
theorem lw_p31 : lw_okq (⟨"CarriedAsFarAsTheStile", "tryWalk", "(LCarriedAsFarAsTheStile$Shelf;I)I"⟩, 11) := ⟨⟨by decide +kernel, by decide +kernel⟩, List.mem_of_getElem? (i := 18) (by decide +kernel), List.mem_of_getElem? (i := 781) (by decide +kernel), List.mem_of_getElem? (i := 782) (by decide +kernel)⟩
def lw_privs_2 : List (MethodName × Nat) := [(⟨"CarriedAsFarAsTheStile$Telling", "tellAct", "()V"⟩, 7), (⟨"CarriedAsFarAsTheStile$Walk", "mayWalk", "()Z"⟩, 13), (⟨"CarriedAsFarAsTheStile$Walk", "mayRest", "()Z"⟩, 13), (⟨"CarriedAsFarAsTheStile$Walk", "walk", "()V"⟩, 13), (⟨"CarriedAsFarAsTheStile$Walk", "restOthers", "(I)V"⟩, 13), (⟨"CarriedAsFarAsTheStile$Walk", "restAll", "()V"⟩, 13), (⟨"CarriedAsFarAsTheStile$Walk", "carry", "(I)V"⟩, 13), (⟨"CarriedAsFarAsTheStile$Telling", "tellAsked", "(I)V"⟩, 7), (⟨"CarriedAsFarAsTheStile$Search", "deeper", "(II)V"⟩, 8), (⟨"CarriedAsFarAsTheStile$Search", "isHopeless", "(II)Z"⟩, 8), (⟨"CarriedAsFarAsTheStile$Search", "offer", "(II)V"⟩, 8), (⟨"CarriedAsFarAsTheStile$Rules", "choose", "(I)I"⟩, 4), (⟨"CarriedAsFarAsTheStile$Rules", "whoseTurn", "()I"⟩, 4), (⟨"CarriedAsFarAsTheStile$Rules", "freshest", "()I"⟩, 4), (⟨"CarriedAsFarAsTheStile", "whyNoWalk", "(II)I"⟩, 11), (⟨"CarriedAsFarAsTheStile", "tryWalk", "(LCarriedAsFarAsTheStile$Shelf;I)I"⟩, 11)]
theorem lw_r2 : ∀ q ∈ lw_privs_2, lw_okq q := List.forall_mem_cons.mpr ⟨lw_p16, List.forall_mem_cons.mpr ⟨lw_p17, List.forall_mem_cons.mpr ⟨lw_p18, List.forall_mem_cons.mpr ⟨lw_p19, List.forall_mem_cons.mpr ⟨lw_p20, List.forall_mem_cons.mpr ⟨lw_p21, List.forall_mem_cons.mpr ⟨lw_p22, List.forall_mem_cons.mpr ⟨lw_p23, List.forall_mem_cons.mpr ⟨lw_p24, List.forall_mem_cons.mpr ⟨lw_p25, List.forall_mem_cons.mpr ⟨lw_p26, List.forall_mem_cons.mpr ⟨lw_p27, List.forall_mem_cons.mpr ⟨lw_p28, List.forall_mem_cons.mpr ⟨lw_p29, List.forall_mem_cons.mpr ⟨lw_p30, List.forall_mem_cons.mpr ⟨lw_p31, fun _ h => absurd h List.not_mem_nil⟩⟩⟩⟩⟩⟩⟩⟩⟩⟩⟩⟩⟩⟩⟩⟩
theorem lw_p32 : lw_okq (⟨"CarriedAsFarAsTheStile", "leastToTheEnd", "(II)I"⟩, 11) := ⟨⟨by decide +kernel, by decide +kernel⟩, List.mem_of_getElem? (i := 18) (by decide +kernel), List.mem_of_getElem? (i := 806) (by decide +kernel), List.mem_of_getElem? (i := 807) (by decide +kernel)⟩
theorem lw_p33 : lw_okq (⟨"CarriedAsFarAsTheStile$Moves", "from", "(IIII)I"⟩, 5) := ⟨⟨by decide +kernel, by decide +kernel⟩, List.mem_of_getElem? (i := 234) (by decide +kernel), List.mem_of_getElem? (i := 859) (by decide +kernel), List.mem_of_getElem? (i := 860) (by decide +kernel)⟩
theorem lw_p34 : lw_okq (⟨"CarriedAsFarAsTheStile$Moves", "runBody", "(IIII)I"⟩, 5) := ⟨⟨by decide +kernel, by decide +kernel⟩, List.mem_of_getElem? (i := 234) (by decide +kernel), List.mem_of_getElem? (i := 867) (by decide +kernel), List.mem_of_getElem? (i := 868) (by decide +kernel)⟩
theorem lw_p35 : lw_okq (⟨"CarriedAsFarAsTheStileModel", "isShelf", "(I)Z"⟩, 53) := ⟨⟨by decide +kernel, by decide +kernel⟩, List.mem_of_getElem? (i := 891) (by decide +kernel), List.mem_of_getElem? (i := 1061) (by decide +kernel), List.mem_of_getElem? (i := 1062) (by decide +kernel)⟩
theorem lw_p36 : lw_okq (⟨"CarriedAsFarAsTheStileModel", "no", "(I)I"⟩, 53) := ⟨⟨by decide +kernel, by decide +kernel⟩, List.mem_of_getElem? (i := 891) (by decide +kernel), List.mem_of_getElem? (i := 1065) (by decide +kernel), List.mem_of_getElem? (i := 1066) (by decide +kernel)⟩
theorem lw_p37 : lw_okq (⟨"CarriedAsFarAsTheStileModel", "isPerson", "(I)Z"⟩, 53) := ⟨⟨by decide +kernel, by decide +kernel⟩, List.mem_of_getElem? (i := 891) (by decide +kernel), List.mem_of_getElem? (i := 1085) (by decide +kernel), List.mem_of_getElem? (i := 1086) (by decide +kernel)⟩
theorem lw_p38 : lw_okq (⟨"CarriedAsFarAsTheStileModel", "isAsleep", "()Z"⟩, 53) := ⟨⟨by decide +kernel, by decide +kernel⟩, List.mem_of_getElem? (i := 891) (by decide +kernel), List.mem_of_getElem? (i := 1097) (by decide +kernel), List.mem_of_getElem? (i := 1098) (by decide +kernel)⟩
theorem lw_p39 : lw_okq (⟨"CarriedAsFarAsTheStileModel", "loadOf", "(II)I"⟩, 53) := ⟨⟨by decide +kernel, by decide +kernel⟩, List.mem_of_getElem? (i := 891) (by decide +kernel), List.mem_of_getElem? (i := 1101) (by decide +kernel), List.mem_of_getElem? (i := 1102) (by decide +kernel)⟩
theorem lw_p40 : lw_okq (⟨"CarriedAsFarAsTheStileModel", "addsFurlong", "(II)I"⟩, 53) := ⟨⟨by decide +kernel, by decide +kernel⟩, List.mem_of_getElem? (i := 891) (by decide +kernel), List.mem_of_getElem? (i := 1109) (by decide +kernel), List.mem_of_getElem? (i := 1110) (by decide +kernel)⟩
theorem lw_p41 : lw_okq (⟨"CarriedAsFarAsTheStileModel", "addsPerson", "(II)I"⟩, 53) := ⟨⟨by decide +kernel, by decide +kernel⟩, List.mem_of_getElem? (i := 891) (by decide +kernel), List.mem_of_getElem? (i := 1117) (by decide +kernel), List.mem_of_getElem? (i := 1118) (by decide +kernel)⟩
theorem lw_p42 : lw_okq (⟨"CarriedAsFarAsTheStileModel", "isFurlong", "(I)Z"⟩, 53) := ⟨⟨by decide +kernel, by decide +kernel⟩, List.mem_of_getElem? (i := 891) (by decide +kernel), List.mem_of_getElem? (i := 1125) (by decide +kernel), List.mem_of_getElem? (i := 1126) (by decide +kernel)⟩
theorem lw_p43 : lw_okq (⟨"CarriedAsFarAsTheStileModel", "noTen", "(I)I"⟩, 53) := ⟨⟨by decide +kernel, by decide +kernel⟩, List.mem_of_getElem? (i := 891) (by decide +kernel), List.mem_of_getElem? (i := 1129) (by decide +kernel), List.mem_of_getElem? (i := 1130) (by decide +kernel)⟩
theorem lw_p44 : lw_okq (⟨"CarriedAsFarAsTheStileModel", "isAsked", "(II)Z"⟩, 53) := ⟨⟨by decide +kernel, by decide +kernel⟩, List.mem_of_getElem? (i := 891) (by decide +kernel), List.mem_of_getElem? (i := 1141) (by decide +kernel), List.mem_of_getElem? (i := 1142) (by decide +kernel)⟩
theorem lw_p45 : lw_okq (⟨"CarriedAsFarAsTheStileModel", "asks", "(II)I"⟩, 53) := ⟨⟨by decide +kernel, by decide +kernel⟩, List.mem_of_getElem? (i := 891) (by decide +kernel), List.mem_of_getElem? (i := 1145) (by decide +kernel), List.mem_of_getElem? (i := 1146) (by decide +kernel)⟩
theorem lw_p46 : lw_okq (⟨"CarriedAsFarAsTheStileModel", "told", "(I)I"⟩, 53) := ⟨⟨by decide +kernel, by decide +kernel⟩, List.mem_of_getElem? (i := 891) (by decide +kernel), List.mem_of_getElem? (i := 1149) (by decide +kernel), List.mem_of_getElem? (i := 1150) (by decide +kernel)⟩
theorem lw_p47 : lw_okq (⟨"CarriedAsFarAsTheStileModel", "tells", "(II)V"⟩, 53) := ⟨⟨by decide +kernel, by decide +kernel⟩, List.mem_of_getElem? (i := 891) (by decide +kernel), List.mem_of_getElem? (i := 1153) (by decide +kernel), List.mem_of_getElem? (i := 1154) (by decide +kernel)⟩
def lw_privs_3 : List (MethodName × Nat) := [(⟨"CarriedAsFarAsTheStile", "leastToTheEnd", "(II)I"⟩, 11), (⟨"CarriedAsFarAsTheStile$Moves", "from", "(IIII)I"⟩, 5), (⟨"CarriedAsFarAsTheStile$Moves", "runBody", "(IIII)I"⟩, 5), (⟨"CarriedAsFarAsTheStileModel", "isShelf", "(I)Z"⟩, 53), (⟨"CarriedAsFarAsTheStileModel", "no", "(I)I"⟩, 53), (⟨"CarriedAsFarAsTheStileModel", "isPerson", "(I)Z"⟩, 53), (⟨"CarriedAsFarAsTheStileModel", "isAsleep", "()Z"⟩, 53), (⟨"CarriedAsFarAsTheStileModel", "loadOf", "(II)I"⟩, 53), (⟨"CarriedAsFarAsTheStileModel", "addsFurlong", "(II)I"⟩, 53), (⟨"CarriedAsFarAsTheStileModel", "addsPerson", "(II)I"⟩, 53), (⟨"CarriedAsFarAsTheStileModel", "isFurlong", "(I)Z"⟩, 53), (⟨"CarriedAsFarAsTheStileModel", "noTen", "(I)I"⟩, 53), (⟨"CarriedAsFarAsTheStileModel", "isAsked", "(II)Z"⟩, 53), (⟨"CarriedAsFarAsTheStileModel", "asks", "(II)I"⟩, 53), (⟨"CarriedAsFarAsTheStileModel", "told", "(I)I"⟩, 53), (⟨"CarriedAsFarAsTheStileModel", "tells", "(II)V"⟩, 53)]
theorem lw_r3 : ∀ q ∈ lw_privs_3, lw_okq q := List.forall_mem_cons.mpr ⟨lw_p32, List.forall_mem_cons.mpr ⟨lw_p33, List.forall_mem_cons.mpr ⟨lw_p34, List.forall_mem_cons.mpr ⟨lw_p35, List.forall_mem_cons.mpr ⟨lw_p36, List.forall_mem_cons.mpr ⟨lw_p37, List.forall_mem_cons.mpr ⟨lw_p38, List.forall_mem_cons.mpr ⟨lw_p39, List.forall_mem_cons.mpr ⟨lw_p40, List.forall_mem_cons.mpr ⟨lw_p41, List.forall_mem_cons.mpr ⟨lw_p42, List.forall_mem_cons.mpr ⟨lw_p43, List.forall_mem_cons.mpr ⟨lw_p44, List.forall_mem_cons.mpr ⟨lw_p45, List.forall_mem_cons.mpr ⟨lw_p46, List.forall_mem_cons.mpr ⟨lw_p47, fun _ h => absurd h List.not_mem_nil⟩⟩⟩⟩⟩⟩⟩⟩⟩⟩⟩⟩⟩⟩⟩⟩
theorem lw_p48 : lw_okq (⟨"CarriedAsFarAsTheStileModel", "wanted", "(I)I"⟩, 53) := ⟨⟨by decide +kernel, by decide +kernel⟩, List.mem_of_getElem? (i := 891) (by decide +kernel), List.mem_of_getElem? (i := 1169) (by decide +kernel), List.mem_of_getElem? (i := 1170) (by decide +kernel)⟩
theorem lw_p49 : lw_okq (⟨"CarriedAsFarAsTheStileModel", "all", "([IIZ)V"⟩, 53) := ⟨⟨by decide +kernel, by decide +kernel⟩, List.mem_of_getElem? (i := 891) (by decide +kernel), List.mem_of_getElem? (i := 1173) (by decide +kernel), List.mem_of_getElem? (i := 1174) (by decide +kernel)⟩
theorem lw_p50 : lw_okq (⟨"CarriedAsFarAsTheStileModel", "carries", "([II[IIZ)I"⟩, 53) := ⟨⟨by decide +kernel, by decide +kernel⟩, List.mem_of_getElem? (i := 891) (by decide +kernel), List.mem_of_getElem? (i := 1177) (by decide +kernel), List.mem_of_getElem? (i := 1178) (by decide +kernel)⟩
theorem lw_p51 : lw_okq (⟨"CarriedAsFarAsTheStileModel", "item", "()Z"⟩, 53) := ⟨⟨by decide +kernel, by decide +kernel⟩, List.mem_of_getElem? (i := 891) (by decide +kernel), List.mem_of_getElem? (i := 1181) (by decide +kernel), List.mem_of_getElem? (i := 1182) (by decide +kernel)⟩
theorem lw_p52 : lw_okq (⟨"CarriedAsFarAsTheStileModel", "stands", "(I)Z"⟩, 53) := ⟨⟨by decide +kernel, by decide +kernel⟩, List.mem_of_getElem? (i := 891) (by decide +kernel), List.mem_of_getElem? (i := 1185) (by decide +kernel), List.mem_of_getElem? (i := 1186) (by decide +kernel)⟩
theorem lw_p53 : lw_okq (⟨"CarriedAsFarAsTheStileModel", "wrong", "(I)Z"⟩, 53) := ⟨⟨by decide +kernel, by decide +kernel⟩, List.mem_of_getElem? (i := 891) (by decide +kernel), List.mem_of_getElem? (i := 1189) (by decide +kernel), List.mem_of_getElem? (i := 1190) (by decide +kernel)⟩
theorem lw_p54 : lw_okq (⟨"CarriedAsFarAsTheStileModel", "word", "()I"⟩, 53) := ⟨⟨by decide +kernel, by decide +kernel⟩, List.mem_of_getElem? (i := 891) (by decide +kernel), List.mem_of_getElem? (i := 1193) (by decide +kernel), List.mem_of_getElem? (i := 1194) (by decide +kernel)⟩
theorem lw_p55 : lw_okq (⟨"CarriedAsFarAsTheStileModel", "reads", "()Z"⟩, 53) := ⟨⟨by decide +kernel, by decide +kernel⟩, List.mem_of_getElem? (i := 891) (by decide +kernel), List.mem_of_getElem? (i := 1197) (by decide +kernel), List.mem_of_getElem? (i := 1198) (by decide +kernel)⟩
theorem lw_p56 : lw_okq (⟨"CarriedAsFarAsTheStileModel", "isDigit", "()Z"⟩, 53) := ⟨⟨by decide +kernel, by decide +kernel⟩, List.mem_of_getElem? (i := 891) (by decide +kernel), List.mem_of_getElem? (i := 1201) (by decide +kernel), List.mem_of_getElem? (i := 1202) (by decide +kernel)⟩
theorem lw_p57 : lw_okq (⟨"CarriedAsFarAsTheStileModel", "isSo", "(II)Z"⟩, 53) := ⟨⟨by decide +kernel, by decide +kernel⟩, List.mem_of_getElem? (i := 891) (by decide +kernel), List.mem_of_getElem? (i := 1205) (by decide +kernel), List.mem_of_getElem? (i := 1206) (by decide +kernel)⟩
theorem lw_p58 : lw_okq (⟨"CarriedAsFarAsTheStileModel", "mayBe", "(I)Z"⟩, 53) := ⟨⟨by decide +kernel, by decide +kernel⟩, List.mem_of_getElem? (i := 891) (by decide +kernel), List.mem_of_getElem? (i := 1209) (by decide +kernel), List.mem_of_getElem? (i := 1210) (by decide +kernel)⟩
theorem lw_p59 : lw_okq (⟨"CarriedAsFarAsTheStileModel", "mayCarry", "(I)Z"⟩, 53) := ⟨⟨by decide +kernel, by decide +kernel⟩, List.mem_of_getElem? (i := 891) (by decide +kernel), List.mem_of_getElem? (i := 1213) (by decide +kernel), List.mem_of_getElem? (i := 1214) (by decide +kernel)⟩
theorem lw_p60 : lw_okq (⟨"CarriedAsFarAsTheStileModel", "acts", "(I)V"⟩, 53) := ⟨⟨by decide +kernel, by decide +kernel⟩, List.mem_of_getElem? (i := 891) (by decide +kernel), List.mem_of_getElem? (i := 1217) (by decide +kernel), List.mem_of_getElem? (i := 1218) (by decide +kernel)⟩
theorem lw_p61 : lw_okq (⟨"CarriedAsFarAsTheStileModel", "rests", "(II)V"⟩, 53) := ⟨⟨by decide +kernel, by decide +kernel⟩, List.mem_of_getElem? (i := 891) (by decide +kernel), List.mem_of_getElem? (i := 1221) (by decide +kernel), List.mem_of_getElem? (i := 1222) (by decide +kernel)⟩
theorem lw_p62 : lw_okq (⟨"CarriedAsFarAsTheStileModel", "greatest", "()I"⟩, 53) := ⟨⟨by decide +kernel, by decide +kernel⟩, List.mem_of_getElem? (i := 891) (by decide +kernel), List.mem_of_getElem? (i := 1245) (by decide +kernel), List.mem_of_getElem? (i := 1246) (by decide +kernel)⟩
theorem lw_p63 : lw_okq (⟨"CarriedAsFarAsTheStileModel", "looks", "(III)V"⟩, 53) := ⟨⟨by decide +kernel, by decide +kernel⟩, List.mem_of_getElem? (i := 891) (by decide +kernel), List.mem_of_getElem? (i := 1249) (by decide +kernel), List.mem_of_getElem? (i := 1250) (by decide +kernel)⟩
def lw_privs_4 : List (MethodName × Nat) := [(⟨"CarriedAsFarAsTheStileModel", "wanted", "(I)I"⟩, 53), (⟨"CarriedAsFarAsTheStileModel", "all", "([IIZ)V"⟩, 53), (⟨"CarriedAsFarAsTheStileModel", "carries", "([II[IIZ)I"⟩, 53), (⟨"CarriedAsFarAsTheStileModel", "item", "()Z"⟩, 53), (⟨"CarriedAsFarAsTheStileModel", "stands", "(I)Z"⟩, 53), (⟨"CarriedAsFarAsTheStileModel", "wrong", "(I)Z"⟩, 53), (⟨"CarriedAsFarAsTheStileModel", "word", "()I"⟩, 53), (⟨"CarriedAsFarAsTheStileModel", "reads", "()Z"⟩, 53), (⟨"CarriedAsFarAsTheStileModel", "isDigit", "()Z"⟩, 53), (⟨"CarriedAsFarAsTheStileModel", "isSo", "(II)Z"⟩, 53), (⟨"CarriedAsFarAsTheStileModel", "mayBe", "(I)Z"⟩, 53), (⟨"CarriedAsFarAsTheStileModel", "mayCarry", "(I)Z"⟩, 53), (⟨"CarriedAsFarAsTheStileModel", "acts", "(I)V"⟩, 53), (⟨"CarriedAsFarAsTheStileModel", "rests", "(II)V"⟩, 53), (⟨"CarriedAsFarAsTheStileModel", "greatest", "()I"⟩, 53), (⟨"CarriedAsFarAsTheStileModel", "looks", "(III)V"⟩, 53)]
theorem lw_r4 : ∀ q ∈ lw_privs_4, lw_okq q := List.forall_mem_cons.mpr ⟨lw_p48, List.forall_mem_cons.mpr ⟨lw_p49, List.forall_mem_cons.mpr ⟨lw_p50, List.forall_mem_cons.mpr ⟨lw_p51, List.forall_mem_cons.mpr ⟨lw_p52, List.forall_mem_cons.mpr ⟨lw_p53, List.forall_mem_cons.mpr ⟨lw_p54, List.forall_mem_cons.mpr ⟨lw_p55, List.forall_mem_cons.mpr ⟨lw_p56, List.forall_mem_cons.mpr ⟨lw_p57, List.forall_mem_cons.mpr ⟨lw_p58, List.forall_mem_cons.mpr ⟨lw_p59, List.forall_mem_cons.mpr ⟨lw_p60, List.forall_mem_cons.mpr ⟨lw_p61, List.forall_mem_cons.mpr ⟨lw_p62, List.forall_mem_cons.mpr ⟨lw_p63, fun _ h => absurd h List.not_mem_nil⟩⟩⟩⟩⟩⟩⟩⟩⟩⟩⟩⟩⟩⟩⟩⟩
theorem lw_p64 : lw_okq (⟨"CarriedAsFarAsTheStileModel", "isRule", "(I)Z"⟩, 53) := ⟨⟨by decide +kernel, by decide +kernel⟩, List.mem_of_getElem? (i := 891) (by decide +kernel), List.mem_of_getElem? (i := 1258) (by decide +kernel), List.mem_of_getElem? (i := 1259) (by decide +kernel)⟩
theorem lw_p65 : lw_okq (⟨"CarriedAsFarAsTheStileModel", "leads", "(I)V"⟩, 53) := ⟨⟨by decide +kernel, by decide +kernel⟩, List.mem_of_getElem? (i := 891) (by decide +kernel), List.mem_of_getElem? (i := 1262) (by decide +kernel), List.mem_of_getElem? (i := 1263) (by decide +kernel)⟩
theorem lw_p66 : lw_okq (⟨"CarriedAsFarAsTheStileModel", "begins", "()V"⟩, 53) := ⟨⟨by decide +kernel, by decide +kernel⟩, List.mem_of_getElem? (i := 891) (by decide +kernel), List.mem_of_getElem? (i := 1266) (by decide +kernel), List.mem_of_getElem? (i := 1267) (by decide +kernel)⟩
theorem lw_p67 : lw_okq (⟨"CarriedAsFarAsTheStileModel", "goes", "(I)Z"⟩, 53) := ⟨⟨by decide +kernel, by decide +kernel⟩, List.mem_of_getElem? (i := 891) (by decide +kernel), List.mem_of_getElem? (i := 1270) (by decide +kernel), List.mem_of_getElem? (i := 1271) (by decide +kernel)⟩
theorem lw_p68 : lw_okq (⟨"CarriedAsFarAsTheStileModel", "ruled", "(I)I"⟩, 53) := ⟨⟨by decide +kernel, by decide +kernel⟩, List.mem_of_getElem? (i := 891) (by decide +kernel), List.mem_of_getElem? (i := 1274) (by decide +kernel), List.mem_of_getElem? (i := 1275) (by decide +kernel)⟩
theorem lw_p69 : lw_okq (⟨"CarriedAsFarAsTheStileModel", "freshest", "()I"⟩, 53) := ⟨⟨by decide +kernel, by decide +kernel⟩, List.mem_of_getElem? (i := 891) (by decide +kernel), List.mem_of_getElem? (i := 1278) (by decide +kernel), List.mem_of_getElem? (i := 1279) (by decide +kernel)⟩
theorem lw_p70 : lw_okq (⟨"CarriedAsFarAsTheStileModel", "takesBack", "()V"⟩, 53) := ⟨⟨by decide +kernel, by decide +kernel⟩, List.mem_of_getElem? (i := 891) (by decide +kernel), List.mem_of_getElem? (i := 1282) (by decide +kernel), List.mem_of_getElem? (i := 1283) (by decide +kernel)⟩
theorem lw_p71 : lw_okq (⟨"CarriedAsFarAsTheStileModel", "barsOf", "(II)I"⟩, 53) := ⟨⟨by decide +kernel, by decide +kernel⟩, List.mem_of_getElem? (i := 891) (by decide +kernel), List.mem_of_getElem? (i := 1310) (by decide +kernel), List.mem_of_getElem? (i := 1311) (by decide +kernel)⟩
theorem lw_p72 : lw_okq (⟨"CarriedAsFarAsTheStileModel", "bars", "(II)I"⟩, 53) := ⟨⟨by decide +kernel, by decide +kernel⟩, List.mem_of_getElem? (i := 891) (by decide +kernel), List.mem_of_getElem? (i := 1314) (by decide +kernel), List.mem_of_getElem? (i := 1315) (by decide +kernel)⟩
theorem lw_p73 : lw_okq (⟨"CarriedAsFarAsTheStileModel", "wrongIn", "(II)I"⟩, 53) := ⟨⟨by decide +kernel, by decide +kernel⟩, List.mem_of_getElem? (i := 891) (by decide +kernel), List.mem_of_getElem? (i := 1318) (by decide +kernel), List.mem_of_getElem? (i := 1319) (by decide +kernel)⟩
theorem lw_p74 : lw_okq (⟨"CarriedAsFarAsTheStileModel", "intAt", "(II)I"⟩, 53) := ⟨⟨by decide +kernel, by decide +kernel⟩, List.mem_of_getElem? (i := 891) (by decide +kernel), List.mem_of_getElem? (i := 1322) (by decide +kernel), List.mem_of_getElem? (i := 1323) (by decide +kernel)⟩
theorem lw_p75 : lw_okq (⟨"CarriedAsFarAsTheStileModel", "draw", "(I)I"⟩, 53) := ⟨⟨by decide +kernel, by decide +kernel⟩, List.mem_of_getElem? (i := 891) (by decide +kernel), List.mem_of_getElem? (i := 1354) (by decide +kernel), List.mem_of_getElem? (i := 1355) (by decide +kernel)⟩
theorem lw_p76 : lw_okq (⟨"CarriedAsFarAsTheStileModel", "lifting", "(II)I"⟩, 53) := ⟨⟨by decide +kernel, by decide +kernel⟩, List.mem_of_getElem? (i := 891) (by decide +kernel), List.mem_of_getElem? (i := 1371) (by decide +kernel), List.mem_of_getElem? (i := 1372) (by decide +kernel)⟩
theorem lw_p77 : lw_okq (⟨"CarriedAsFarAsTheStileModel", "body", "(I)V"⟩, 53) := ⟨⟨by decide +kernel, by decide +kernel⟩, List.mem_of_getElem? (i := 891) (by decide +kernel), List.mem_of_getElem? (i := 1375) (by decide +kernel), List.mem_of_getElem? (i := 1376) (by decide +kernel)⟩
theorem lw_p78 : lw_okq (⟨"CarriedAsFarAsTheStileModel", "stepping", "(II)I"⟩, 53) := ⟨⟨by decide +kernel, by decide +kernel⟩, List.mem_of_getElem? (i := 891) (by decide +kernel), List.mem_of_getElem? (i := 1379) (by decide +kernel), List.mem_of_getElem? (i := 1380) (by decide +kernel)⟩
theorem lw_p79 : lw_okq (⟨"CarriedAsFarAsTheStileModel", "resting", "(II)I"⟩, 53) := ⟨⟨by decide +kernel, by decide +kernel⟩, List.mem_of_getElem? (i := 891) (by decide +kernel), List.mem_of_getElem? (i := 1383) (by decide +kernel), List.mem_of_getElem? (i := 1384) (by decide +kernel)⟩
def lw_privs_5 : List (MethodName × Nat) := [(⟨"CarriedAsFarAsTheStileModel", "isRule", "(I)Z"⟩, 53), (⟨"CarriedAsFarAsTheStileModel", "leads", "(I)V"⟩, 53), (⟨"CarriedAsFarAsTheStileModel", "begins", "()V"⟩, 53), (⟨"CarriedAsFarAsTheStileModel", "goes", "(I)Z"⟩, 53), (⟨"CarriedAsFarAsTheStileModel", "ruled", "(I)I"⟩, 53), (⟨"CarriedAsFarAsTheStileModel", "freshest", "()I"⟩, 53), (⟨"CarriedAsFarAsTheStileModel", "takesBack", "()V"⟩, 53), (⟨"CarriedAsFarAsTheStileModel", "barsOf", "(II)I"⟩, 53), (⟨"CarriedAsFarAsTheStileModel", "bars", "(II)I"⟩, 53), (⟨"CarriedAsFarAsTheStileModel", "wrongIn", "(II)I"⟩, 53), (⟨"CarriedAsFarAsTheStileModel", "intAt", "(II)I"⟩, 53), (⟨"CarriedAsFarAsTheStileModel", "draw", "(I)I"⟩, 53), (⟨"CarriedAsFarAsTheStileModel", "lifting", "(II)I"⟩, 53), (⟨"CarriedAsFarAsTheStileModel", "body", "(I)V"⟩, 53), (⟨"CarriedAsFarAsTheStileModel", "stepping", "(II)I"⟩, 53), (⟨"CarriedAsFarAsTheStileModel", "resting", "(II)I"⟩, 53)]
theorem lw_r5 : ∀ q ∈ lw_privs_5, lw_okq q := List.forall_mem_cons.mpr ⟨lw_p64, List.forall_mem_cons.mpr ⟨lw_p65, List.forall_mem_cons.mpr ⟨lw_p66, List.forall_mem_cons.mpr ⟨lw_p67, List.forall_mem_cons.mpr ⟨lw_p68, List.forall_mem_cons.mpr ⟨lw_p69, List.forall_mem_cons.mpr ⟨lw_p70, List.forall_mem_cons.mpr ⟨lw_p71, List.forall_mem_cons.mpr ⟨lw_p72, List.forall_mem_cons.mpr ⟨lw_p73, List.forall_mem_cons.mpr ⟨lw_p74, List.forall_mem_cons.mpr ⟨lw_p75, List.forall_mem_cons.mpr ⟨lw_p76, List.forall_mem_cons.mpr ⟨lw_p77, List.forall_mem_cons.mpr ⟨lw_p78, List.forall_mem_cons.mpr ⟨lw_p79, fun _ h => absurd h List.not_mem_nil⟩⟩⟩⟩⟩⟩⟩⟩⟩⟩⟩⟩⟩⟩⟩⟩
def lw_privs : List (MethodName × Nat) := lw_privs_1 ++ (lw_privs_2 ++ (lw_privs_3 ++ (lw_privs_4 ++ (lw_privs_5))))
def lw_tbl : List Cond := k2_sels lw_privs ++ tables_1
theorem lw_privs_ok : ∀ q ∈ lw_privs, lw_okq q := by
  show ∀ q ∈ lw_privs_1 ++ (lw_privs_2 ++ (lw_privs_3 ++ (lw_privs_4 ++ (lw_privs_5)))), lw_okq q
  exact List.forall_mem_append.mpr ⟨lw_r1, List.forall_mem_append.mpr ⟨lw_r2, List.forall_mem_append.mpr ⟨lw_r3, List.forall_mem_append.mpr ⟨lw_r4, lw_r5⟩⟩⟩⟩
-- ===== end of PART A; then your names; then what follows =====
end
section
/-! part 02: printed names (claim/NAMES.whole.lean.txt, cut); the table of methods and of links, laid by wip/p2/tables.py -/
def RX0 : String := "CarriedAsFarAsTheStile$Moves"
def TX0 : u_T := fun k => match k with
  | 0 => ("CarriedAsFarAsTheStile$Moves", "begun", "[I", true)
  | 1 => ("CarriedAsFarAsTheStile$Moves", "ran", "I", false)
  | 2 => ("CarriedAsFarAsTheStile$Moves", "own", "I", false)
  | 3 => ("CarriedAsFarAsTheStile$Moves", "number", "I", false)
  | _ => ("CarriedAsFarAsTheStile$Moves", "trait", "I", false)
def tyX0 : Nat → FieldType := fun k => match k with
  | 0 => .array .int
  | 1 => .int
  | 2 => .int
  | 3 => .int
  | _ => .int
abbrev wsX00 : List Cond := u_ws RX0 TX0 5
theorem nmX0 : ∀ a, a < 5 → ∀ b, b < 5 → a ≠ b → (TX0 a).2.1 ≠ (TX0 b).2.1 := by decide +kernel
theorem tyX0_ok : ∀ k, k < 5 → parseFieldDescriptor (TX0 k).2.2.1 = some (tyX0 k) := by decide +kernel
abbrev cX0_init : ByteArray := prog_2_method_1_code
def yX0_init : MethodName := ⟨RX0, "<init>", "()V"⟩
abbrev cX0_forget : ByteArray := prog_2_method_2_code
def yX0_forget : MethodName := ⟨RX0, "forget", "()V"⟩
abbrev cX0_run : ByteArray := prog_2_method_3_code
def yX0_run : MethodName := ⟨RX0, "run", "(LCarriedAsFarAsTheStile$Way;III)I"⟩
abbrev cX0_kept : ByteArray := prog_2_method_4_code
def yX0_kept : MethodName := ⟨RX0, "kept", "(I)I"⟩
abbrev cX0_from : ByteArray := prog_2_method_5_code
def yX0_from : MethodName := ⟨RX0, "from", "(IIII)I"⟩
abbrev cX0_runBody : ByteArray := prog_2_method_6_code
def yX0_runBody : MethodName := ⟨RX0, "runBody", "(IIII)I"⟩
def RX1 : String := "CarriedAsFarAsTheStile$Rules"
def TX1 : u_T := fun k => match k with
  | 0 => ("CarriedAsFarAsTheStile$Rules", "walk", "LCarriedAsFarAsTheStile$Walk;", true)
  | 1 => ("CarriedAsFarAsTheStile$Rules", "turn", "I", false)
  | 2 => ("CarriedAsFarAsTheStile$Rules", "acts", "I", false)
  | _ => ("CarriedAsFarAsTheStile$Rules", "worst", "I", false)
def tyX1 : Nat → FieldType := fun k => match k with
  | 0 => .object "CarriedAsFarAsTheStile$Walk"
  | 1 => .int
  | 2 => .int
  | _ => .int
abbrev wsX10 : List Cond := u_ws RX1 TX1 4
theorem nmX1 : ∀ a, a < 4 → ∀ b, b < 4 → a ≠ b → (TX1 a).2.1 ≠ (TX1 b).2.1 := by decide +kernel
theorem tyX1_ok : ∀ k, k < 4 → parseFieldDescriptor (TX1 k).2.2.1 = some (tyX1 k) := by decide +kernel
abbrev cX1_init : ByteArray := prog_3_method_1_code
def yX1_init : MethodName := ⟨RX1, "<init>", "(LCarriedAsFarAsTheStile$Way;)V"⟩
abbrev cX1_begin : ByteArray := prog_3_method_2_code
def yX1_begin : MethodName := ⟨RX1, "begin", "(LCarriedAsFarAsTheStile$Walk;)V"⟩
abbrev cX1_goOn : ByteArray := prog_3_method_3_code
def yX1_goOn : MethodName := ⟨RX1, "goOn", "(I)V"⟩
abbrev cX1_step : ByteArray := prog_3_method_4_code
def yX1_step : MethodName := ⟨RX1, "step", "(I)Z"⟩
abbrev cX1_choose : ByteArray := prog_3_method_5_code
def yX1_choose : MethodName := ⟨RX1, "choose", "(I)I"⟩
abbrev cX1_whoseTurn : ByteArray := prog_3_method_6_code
def yX1_whoseTurn : MethodName := ⟨RX1, "whoseTurn", "()I"⟩
abbrev cX1_freshest : ByteArray := prog_3_method_7_code
def yX1_freshest : MethodName := ⟨RX1, "freshest", "()I"⟩
def RX2 : String := "CarriedAsFarAsTheStile$Search"
def TX2 : u_T := fun k => match k with
  | 0 => ("CarriedAsFarAsTheStile$Search", "walks", "[LCarriedAsFarAsTheStile$Walk;", true)
  | 1 => ("CarriedAsFarAsTheStile$Search", "row", "[I", true)
  | 2 => ("CarriedAsFarAsTheStile$Search", "best", "[I", true)
  | 3 => ("CarriedAsFarAsTheStile$Search", "depthWanted", "I", false)
  | 4 => ("CarriedAsFarAsTheStile$Search", "bestActs", "I", false)
  | 5 => ("CarriedAsFarAsTheStile$Search", "bestHere", "I", false)
  | 6 => ("CarriedAsFarAsTheStile$Search", "bestWorst", "I", false)
  | _ => ("CarriedAsFarAsTheStile$Search", "bestMinutes", "I", false)
def tyX2 : Nat → FieldType := fun k => match k with
  | 0 => .array (.object "CarriedAsFarAsTheStile$Walk")
  | 1 => .array .int
  | 2 => .array .int
  | 3 => .int
  | 4 => .int
  | 5 => .int
  | 6 => .int
  | _ => .int
abbrev wsX20 : List Cond := u_ws RX2 TX2 8
theorem nmX2 : ∀ a, a < 8 → ∀ b, b < 8 → a ≠ b → (TX2 a).2.1 ≠ (TX2 b).2.1 := by decide +kernel
theorem tyX2_ok : ∀ k, k < 8 → parseFieldDescriptor (TX2 k).2.2.1 = some (tyX2 k) := by decide +kernel
abbrev cX2_init : ByteArray := prog_4_method_1_code
def yX2_init : MethodName := ⟨RX2, "<init>", "(LCarriedAsFarAsTheStile$Way;)V"⟩
abbrev cX2_look : ByteArray := prog_4_method_2_code
def yX2_look : MethodName := ⟨RX2, "look", "(LCarriedAsFarAsTheStile$Walk;I)V"⟩
abbrev cX2_deeper : ByteArray := prog_4_method_3_code
def yX2_deeper : MethodName := ⟨RX2, "deeper", "(II)V"⟩
abbrev cX2_isHopeless : ByteArray := prog_4_method_4_code
def yX2_isHopeless : MethodName := ⟨RX2, "isHopeless", "(II)Z"⟩
abbrev cX2_offer : ByteArray := prog_4_method_5_code
def yX2_offer : MethodName := ⟨RX2, "offer", "(II)V"⟩
def RX3 : String := "CarriedAsFarAsTheStile$Shelf"
def TX3 : u_T := fun k => match k with
  | 0 => ("CarriedAsFarAsTheStile$Shelf", "cells", "[J", true)
  | 1 => ("CarriedAsFarAsTheStile$Shelf", "holding", "I", false)
  | _ => ("CarriedAsFarAsTheStile$Shelf", "size", "I", false)
def tyX3 : Nat → FieldType := fun k => match k with
  | 0 => .array .long
  | 1 => .int
  | _ => .int
abbrev wsX30 : List Cond := u_ws RX3 TX3 3
theorem nmX3 : ∀ a, a < 3 → ∀ b, b < 3 → a ≠ b → (TX3 a).2.1 ≠ (TX3 b).2.1 := by decide +kernel
theorem tyX3_ok : ∀ k, k < 3 → parseFieldDescriptor (TX3 k).2.2.1 = some (tyX3 k) := by decide +kernel
abbrev cX3_init : ByteArray := prog_5_method_1_code
def yX3_init : MethodName := ⟨RX3, "<init>", "()V"⟩
abbrev cX3_holdsRow : ByteArray := prog_5_method_2_code
def yX3_holdsRow : MethodName := ⟨RX3, "holdsRow", "()Z"⟩
abbrev cX3_hasElement : ByteArray := prog_5_method_3_code
def yX3_hasElement : MethodName := ⟨RX3, "hasElement", "(I)Z"⟩
abbrev cX3_hasElements : ByteArray := prog_5_method_4_code
def yX3_hasElements : MethodName := ⟨RX3, "hasElements", "(II)Z"⟩
abbrev cX3_makeRow : ByteArray := prog_5_method_5_code
def yX3_makeRow : MethodName := ⟨RX3, "makeRow", "(II)V"⟩
abbrev cX3_put : ByteArray := prog_5_method_6_code
def yX3_put : MethodName := ⟨RX3, "put", "(IJ)V"⟩
abbrev cX3_number : ByteArray := prog_5_method_7_code
def yX3_number : MethodName := ⟨RX3, "number", "(I)I"⟩
def RX4 : String := "CarriedAsFarAsTheStile$Telling"
def TX4 : u_T := fun k => match k with
  | 0 => ("CarriedAsFarAsTheStile$Telling", "walk", "LCarriedAsFarAsTheStile$Walk;", true)
  | 1 => ("CarriedAsFarAsTheStile$Telling", "letters", "[I", true)
  | 2 => ("CarriedAsFarAsTheStile$Telling", "size", "I", false)
  | 3 => ("CarriedAsFarAsTheStile$Telling", "place", "I", false)
  | 4 => ("CarriedAsFarAsTheStile$Telling", "numberPlace", "I", false)
  | 5 => ("CarriedAsFarAsTheStile$Telling", "items", "I", false)
  | _ => ("CarriedAsFarAsTheStile$Telling", "fault", "I", false)
def tyX4 : Nat → FieldType := fun k => match k with
  | 0 => .object "CarriedAsFarAsTheStile$Walk"
  | 1 => .array .int
  | 2 => .int
  | 3 => .int
  | 4 => .int
  | 5 => .int
  | _ => .int
abbrev wsX40 : List Cond := u_ws RX4 TX4 7
theorem nmX4 : ∀ a, a < 7 → ∀ b, b < 7 → a ≠ b → (TX4 a).2.1 ≠ (TX4 b).2.1 := by decide +kernel
theorem tyX4_ok : ∀ k, k < 7 → parseFieldDescriptor (TX4 k).2.2.1 = some (tyX4 k) := by decide +kernel
abbrev cX4_init : ByteArray := prog_6_method_1_code
def yX4_init : MethodName := ⟨RX4, "<init>", "()V"⟩
abbrev cX4_read : ByteArray := prog_6_method_2_code
def yX4_read : MethodName := ⟨RX4, "read", "(LCarriedAsFarAsTheStile$Shelf;LCarriedAsFarAsTheStile$Walk;)V"⟩
abbrev cX4_readItem : ByteArray := prog_6_method_3_code
def yX4_readItem : MethodName := ⟨RX4, "readItem", "()V"⟩
abbrev cX4_hasRoomFor : ByteArray := prog_6_method_4_code
def yX4_hasRoomFor : MethodName := ⟨RX4, "hasRoomFor", "(I)Z"⟩
abbrev cX4_tellFurlong : ByteArray := prog_6_method_5_code
def yX4_tellFurlong : MethodName := ⟨RX4, "tellFurlong", "(I)V"⟩
abbrev cX4_tellPerson : ByteArray := prog_6_method_6_code
def yX4_tellPerson : MethodName := ⟨RX4, "tellPerson", "()V"⟩
abbrev cX4_tellTired : ByteArray := prog_6_method_7_code
def yX4_tellTired : MethodName := ⟨RX4, "tellTired", "()V"⟩
abbrev cX4_tellBag : ByteArray := prog_6_method_8_code
def yX4_tellBag : MethodName := ⟨RX4, "tellBag", "()V"⟩
abbrev cX4_tellAct : ByteArray := prog_6_method_9_code
def yX4_tellAct : MethodName := ⟨RX4, "tellAct", "()V"⟩
abbrev cX4_tellAsked : ByteArray := prog_6_method_10_code
def yX4_tellAsked : MethodName := ⟨RX4, "tellAsked", "(I)V"⟩
abbrev cX4_readWord : ByteArray := prog_6_method_11_code
def yX4_readWord : MethodName := ⟨RX4, "readWord", "()I"⟩
abbrev cX4_wordBeginning : ByteArray := prog_6_method_12_code
def yX4_wordBeginning : MethodName := ⟨RX4, "wordBeginning", "(II)I"⟩
abbrev cX4_beginsThere : ByteArray := prog_6_method_13_code
def yX4_beginsThere : MethodName := ⟨RX4, "beginsThere", "(Ljava/lang/String;II)Z"⟩
abbrev cX4_spelling : ByteArray := prog_6_method_14_code
def yX4_spelling : MethodName := ⟨RX4, "spelling", "(I)Ljava/lang/String;"⟩
abbrev cX4_readSign : ByteArray := prog_6_method_15_code
def yX4_readSign : MethodName := ⟨RX4, "readSign", "(C)Z"⟩
abbrev cX4_readNumber : ByteArray := prog_6_method_16_code
def yX4_readNumber : MethodName := ⟨RX4, "readNumber", "(II)I"⟩
abbrev cX4_isDigitNext : ByteArray := prog_6_method_17_code
def yX4_isDigitNext : MethodName := ⟨RX4, "isDigitNext", "()Z"⟩
def RX5 : String := "CarriedAsFarAsTheStile$Walk"
def TX5 : u_T := fun k => match k with
  | 0 => ("CarriedAsFarAsTheStile$Walk", "way", "LCarriedAsFarAsTheStile$Way;", true)
  | 1 => ("CarriedAsFarAsTheStile$Walk", "tired", "[I", true)
  | 2 => ("CarriedAsFarAsTheStile$Walk", "bag", "I", false)
  | 3 => ("CarriedAsFarAsTheStile$Walk", "most", "I", false)
  | 4 => ("CarriedAsFarAsTheStile$Walk", "legs", "I", false)
  | 5 => ("CarriedAsFarAsTheStile$Walk", "nap", "I", false)
  | 6 => ("CarriedAsFarAsTheStile$Walk", "on", "I", false)
  | 7 => ("CarriedAsFarAsTheStile$Walk", "biscuits", "I", false)
  | 8 => ("CarriedAsFarAsTheStile$Walk", "races", "I", false)
  | 9 => ("CarriedAsFarAsTheStile$Walk", "worn", "I", false)
  | 10 => ("CarriedAsFarAsTheStile$Walk", "here", "I", false)
  | 11 => ("CarriedAsFarAsTheStile$Walk", "minutes", "I", false)
  | _ => ("CarriedAsFarAsTheStile$Walk", "seed", "I", false)
def tyX5 : Nat → FieldType := fun k => match k with
  | 0 => .object "CarriedAsFarAsTheStile$Way"
  | 1 => .array .int
  | 2 => .int
  | 3 => .int
  | 4 => .int
  | 5 => .int
  | 6 => .int
  | 7 => .int
  | 8 => .int
  | 9 => .int
  | 10 => .int
  | 11 => .int
  | _ => .int
abbrev wsX50 : List Cond := u_ws RX5 TX5 13
theorem nmX5 : ∀ a, a < 13 → ∀ b, b < 13 → a ≠ b → (TX5 a).2.1 ≠ (TX5 b).2.1 := by decide +kernel
theorem tyX5_ok : ∀ k, k < 13 → parseFieldDescriptor (TX5 k).2.2.1 = some (tyX5 k) := by decide +kernel
abbrev cX5_init : ByteArray := prog_7_method_1_code
def yX5_init : MethodName := ⟨RX5, "<init>", "(LCarriedAsFarAsTheStile$Way;)V"⟩
abbrev cX5_copyFrom : ByteArray := prog_7_method_2_code
def yX5_copyFrom : MethodName := ⟨RX5, "copyFrom", "(LCarriedAsFarAsTheStile$Walk;)V"⟩
abbrev cX5_addPerson : ByteArray := prog_7_method_3_code
def yX5_addPerson : MethodName := ⟨RX5, "addPerson", "(II)I"⟩
abbrev cX5_asked : ByteArray := prog_7_method_4_code
def yX5_asked : MethodName := ⟨RX5, "asked", "(I)I"⟩
abbrev cX5_become : ByteArray := prog_7_method_5_code
def yX5_become : MethodName := ⟨RX5, "become", "(II)V"⟩
abbrev cX5_atEnd : ByteArray := prog_7_method_6_code
def yX5_atEnd : MethodName := ⟨RX5, "atEnd", "()Z"⟩
abbrev cX5_asleep : ByteArray := prog_7_method_7_code
def yX5_asleep : MethodName := ⟨RX5, "asleep", "()Z"⟩
abbrev cX5_greatestTired : ByteArray := prog_7_method_8_code
def yX5_greatestTired : MethodName := ⟨RX5, "greatestTired", "()I"⟩
abbrev cX5_minutesThereAndBack : ByteArray := prog_7_method_9_code
def yX5_minutesThereAndBack : MethodName := ⟨RX5, "minutesThereAndBack", "()I"⟩
abbrev cX5_loadOnSlope : ByteArray := prog_7_method_10_code
def yX5_loadOnSlope : MethodName := ⟨RX5, "loadOnSlope", "(II)I"⟩
abbrev cX5_mayBe : ByteArray := prog_7_method_11_code
def yX5_mayBe : MethodName := ⟨RX5, "mayBe", "(I)Z"⟩
abbrev cX5_mayCarry : ByteArray := prog_7_method_12_code
def yX5_mayCarry : MethodName := ⟨RX5, "mayCarry", "(I)Z"⟩
abbrev cX5_mayWalk : ByteArray := prog_7_method_13_code
def yX5_mayWalk : MethodName := ⟨RX5, "mayWalk", "()Z"⟩
abbrev cX5_mayRest : ByteArray := prog_7_method_14_code
def yX5_mayRest : MethodName := ⟨RX5, "mayRest", "()Z"⟩
abbrev cX5_come : ByteArray := prog_7_method_15_code
def yX5_come : MethodName := ⟨RX5, "come", "(I)V"⟩
abbrev cX5_walk : ByteArray := prog_7_method_16_code
def yX5_walk : MethodName := ⟨RX5, "walk", "()V"⟩
abbrev cX5_carry : ByteArray := prog_7_method_17_code
def yX5_carry : MethodName := ⟨RX5, "carry", "(I)V"⟩
abbrev cX5_restOthers : ByteArray := prog_7_method_18_code
def yX5_restOthers : MethodName := ⟨RX5, "restOthers", "(I)V"⟩
abbrev cX5_restAll : ByteArray := prog_7_method_19_code
def yX5_restAll : MethodName := ⟨RX5, "restAll", "()V"⟩
abbrev cX5_draw : ByteArray := prog_7_method_20_code
def yX5_draw : MethodName := ⟨RX5, "draw", "(I)I"⟩
def RX6 : String := "CarriedAsFarAsTheStile$Way"
def TX6 : u_T := fun k => match k with
  | 0 => ("CarriedAsFarAsTheStile$Way", "slopes", "[I", true)
  | 1 => ("CarriedAsFarAsTheStile$Way", "stiles", "[I", true)
  | 2 => ("CarriedAsFarAsTheStile$Way", "kinds", "[I", true)
  | 3 => ("CarriedAsFarAsTheStile$Way", "traits", "[I", true)
  | 4 => ("CarriedAsFarAsTheStile$Way", "furlongs", "I", false)
  | _ => ("CarriedAsFarAsTheStile$Way", "people", "I", false)
def tyX6 : Nat → FieldType := fun k => match k with
  | 0 => .array .int
  | 1 => .array .int
  | 2 => .array .int
  | 3 => .array .int
  | 4 => .int
  | _ => .int
abbrev wsX60 : List Cond := u_ws RX6 TX6 6
theorem nmX6 : ∀ a, a < 6 → ∀ b, b < 6 → a ≠ b → (TX6 a).2.1 ≠ (TX6 b).2.1 := by decide +kernel
theorem tyX6_ok : ∀ k, k < 6 → parseFieldDescriptor (TX6 k).2.2.1 = some (tyX6 k) := by decide +kernel
abbrev cX6_init : ByteArray := prog_8_method_1_code
def yX6_init : MethodName := ⟨RX6, "<init>", "()V"⟩
abbrev cX6_copyFrom : ByteArray := prog_8_method_2_code
def yX6_copyFrom : MethodName := ⟨RX6, "copyFrom", "(LCarriedAsFarAsTheStile$Way;)V"⟩
abbrev cX6_hasFurlong : ByteArray := prog_8_method_3_code
def yX6_hasFurlong : MethodName := ⟨RX6, "hasFurlong", "(I)Z"⟩
abbrev cX6_hasPerson : ByteArray := prog_8_method_4_code
def yX6_hasPerson : MethodName := ⟨RX6, "hasPerson", "(I)Z"⟩
abbrev cX6_addFurlong : ByteArray := prog_8_method_5_code
def yX6_addFurlong : MethodName := ⟨RX6, "addFurlong", "(IZ)I"⟩
def RX7 : String := "CarriedAsFarAsTheStile"
def TX7 : u_T := fun k => match k with
  | 0 => ("CarriedAsFarAsTheStile", "shelves", "[LCarriedAsFarAsTheStile$Shelf;", true)
  | 1 => ("CarriedAsFarAsTheStile", "now", "LCarriedAsFarAsTheStile$Walk;", true)
  | 2 => ("CarriedAsFarAsTheStile", "image", "LCarriedAsFarAsTheStile$Walk;", true)
  | 3 => ("CarriedAsFarAsTheStile", "trial", "LCarriedAsFarAsTheStile$Walk;", true)
  | 4 => ("CarriedAsFarAsTheStile", "rules", "LCarriedAsFarAsTheStile$Rules;", true)
  | 5 => ("CarriedAsFarAsTheStile", "search", "LCarriedAsFarAsTheStile$Search;", true)
  | 6 => ("CarriedAsFarAsTheStile", "telling", "LCarriedAsFarAsTheStile$Telling;", true)
  | 7 => ("CarriedAsFarAsTheStile", "moves", "LCarriedAsFarAsTheStile$Moves;", true)
  | 8 => ("CarriedAsFarAsTheStile", "refusals", "[I", true)
  | 9 => ("CarriedAsFarAsTheStile", "imageTaken", "Z", false)
  | _ => ("CarriedAsFarAsTheStile", "latestFault", "I", false)
def tyX7 : Nat → FieldType := fun k => match k with
  | 0 => .array (.object "CarriedAsFarAsTheStile$Shelf")
  | 1 => .object "CarriedAsFarAsTheStile$Walk"
  | 2 => .object "CarriedAsFarAsTheStile$Walk"
  | 3 => .object "CarriedAsFarAsTheStile$Walk"
  | 4 => .object "CarriedAsFarAsTheStile$Rules"
  | 5 => .object "CarriedAsFarAsTheStile$Search"
  | 6 => .object "CarriedAsFarAsTheStile$Telling"
  | 7 => .object "CarriedAsFarAsTheStile$Moves"
  | 8 => .array .int
  | 9 => .boolean
  | _ => .int
abbrev wsX70 : List Cond := u_ws RX7 TX7 11
theorem nmX7 : ∀ a, a < 11 → ∀ b, b < 11 → a ≠ b → (TX7 a).2.1 ≠ (TX7 b).2.1 := by decide +kernel
theorem tyX7_ok : ∀ k, k < 11 → parseFieldDescriptor (TX7 k).2.2.1 = some (tyX7 k) := by decide +kernel
abbrev cX7_init : ByteArray := prog_1_method_1_code
def yX7_init : MethodName := ⟨RX7, "<init>", "()V"⟩
abbrev cX7_row : ByteArray := prog_1_method_2_code
def yX7_row : MethodName := ⟨RX7, "row", "(III)I"⟩
abbrev cX7_set : ByteArray := prog_1_method_3_code
def yX7_set : MethodName := ⟨RX7, "set", "(IIJ)I"⟩
abbrev cX7_copy : ByteArray := prog_1_method_4_code
def yX7_copy : MethodName := ⟨RX7, "copy", "(IIIII)I"⟩
abbrev cX7_element : ByteArray := prog_1_method_5_code
def yX7_element : MethodName := ⟨RX7, "element", "(II)J"⟩
abbrev cX7_show : ByteArray := prog_1_method_6_code
def yX7_show : MethodName := ⟨RX7, "show", "(II)I"⟩
abbrev cX7_holds : ByteArray := prog_1_method_7_code
def yX7_holds : MethodName := ⟨RX7, "holds", "(I)I"⟩
abbrev cX7_says : ByteArray := prog_1_method_8_code
def yX7_says : MethodName := ⟨RX7, "says", "(II)I"⟩
abbrev cX7_furlong : ByteArray := prog_1_method_9_code
def yX7_furlong : MethodName := ⟨RX7, "furlong", "(IZ)I"⟩
abbrev cX7_person : ByteArray := prog_1_method_10_code
def yX7_person : MethodName := ⟨RX7, "person", "(II)I"⟩
abbrev cX7_furlongOf : ByteArray := prog_1_method_11_code
def yX7_furlongOf : MethodName := ⟨RX7, "furlongOf", "(II)I"⟩
abbrev cX7_personOf : ByteArray := prog_1_method_12_code
def yX7_personOf : MethodName := ⟨RX7, "personOf", "(II)I"⟩
abbrev cX7_ask : ByteArray := prog_1_method_13_code
def yX7_ask : MethodName := ⟨RX7, "ask", "(II)I"⟩
abbrev cX7_tire : ByteArray := prog_1_method_14_code
def yX7_tire : MethodName := ⟨RX7, "tire", "(II)I"⟩
abbrev cX7_bag : ByteArray := prog_1_method_15_code
def yX7_bag : MethodName := ⟨RX7, "bag", "(I)I"⟩
abbrev cX7_way : ByteArray := prog_1_method_16_code
def yX7_way : MethodName := ⟨RX7, "way", "(I)I"⟩
abbrev cX7_fault : ByteArray := prog_1_method_17_code
def yX7_fault : MethodName := ⟨RX7, "fault", "()I"⟩
abbrev cX7_load : ByteArray := prog_1_method_18_code
def yX7_load : MethodName := ⟨RX7, "load", "(II)I"⟩
abbrev cX7_may : ByteArray := prog_1_method_19_code
def yX7_may : MethodName := ⟨RX7, "may", "(I)I"⟩
abbrev cX7_next : ByteArray := prog_1_method_20_code
def yX7_next : MethodName := ⟨RX7, "next", "()I"⟩
abbrev cX7_ahead : ByteArray := prog_1_method_21_code
def yX7_ahead : MethodName := ⟨RX7, "ahead", "(II)I"⟩
abbrev cX7_by : ByteArray := prog_1_method_22_code
def yX7_by : MethodName := ⟨RX7, "by", "(II)I"⟩
abbrev cX7_best : ByteArray := prog_1_method_23_code
def yX7_best : MethodName := ⟨RX7, "best", "(I)I"⟩
abbrev cX7_whose : ByteArray := prog_1_method_24_code
def yX7_whose : MethodName := ⟨RX7, "whose", "(I)I"⟩
abbrev cX7_turn : ByteArray := prog_1_method_25_code
def yX7_turn : MethodName := ⟨RX7, "turn", "(II)I"⟩
abbrev cX7_pays : ByteArray := prog_1_method_26_code
def yX7_pays : MethodName := ⟨RX7, "pays", "(I)I"⟩
abbrev cX7_bagged : ByteArray := prog_1_method_27_code
def yX7_bagged : MethodName := ⟨RX7, "bagged", "(I)I"⟩
abbrev cX7_judge : ByteArray := prog_1_method_28_code
def yX7_judge : MethodName := ⟨RX7, "judge", "(II)I"⟩
abbrev cX7_behind : ByteArray := prog_1_method_29_code
def yX7_behind : MethodName := ⟨RX7, "behind", "(III)I"⟩
abbrev cX7_done : ByteArray := prog_1_method_30_code
def yX7_done : MethodName := ⟨RX7, "done", "(II)I"⟩
abbrev cX7_fits : ByteArray := prog_1_method_31_code
def yX7_fits : MethodName := ⟨RX7, "fits", "(I)I"⟩
abbrev cX7_enough : ByteArray := prog_1_method_32_code
def yX7_enough : MethodName := ⟨RX7, "enough", "()I"⟩
abbrev cX7_leastWorn : ByteArray := prog_1_method_33_code
def yX7_leastWorn : MethodName := ⟨RX7, "leastWorn", "(I)I"⟩
abbrev cX7_does : ByteArray := prog_1_method_34_code
def yX7_does : MethodName := ⟨RX7, "does", "(I)I"⟩
abbrev cX7_summer : ByteArray := prog_1_method_35_code
def yX7_summer : MethodName := ⟨RX7, "summer", "(I)I"⟩
abbrev cX7_day : ByteArray := prog_1_method_36_code
def yX7_day : MethodName := ⟨RX7, "day", "()I"⟩
abbrev cX7_seed : ByteArray := prog_1_method_37_code
def yX7_seed : MethodName := ⟨RX7, "seed", "(I)I"⟩
abbrev cX7_act : ByteArray := prog_1_method_38_code
def yX7_act : MethodName := ⟨RX7, "act", "(III)I"⟩
abbrev cX7_trace : ByteArray := prog_1_method_39_code
def yX7_trace : MethodName := ⟨RX7, "trace", "(I)I"⟩
abbrev cX7_image : ByteArray := prog_1_method_40_code
def yX7_image : MethodName := ⟨RX7, "image", "()I"⟩
abbrev cX7_restore : ByteArray := prog_1_method_41_code
def yX7_restore : MethodName := ⟨RX7, "restore", "()I"⟩
abbrev cX7_status : ByteArray := prog_1_method_42_code
def yX7_status : MethodName := ⟨RX7, "status", "(I)I"⟩
abbrev cX7_refuse : ByteArray := prog_1_method_43_code
def yX7_refuse : MethodName := ⟨RX7, "refuse", "(I)I"⟩
abbrev cX7_refuseFar : ByteArray := prog_1_method_44_code
def yX7_refuseFar : MethodName := ⟨RX7, "refuseFar", "(I)I"⟩
abbrev cX7_whyNoRow : ByteArray := prog_1_method_45_code
def yX7_whyNoRow : MethodName := ⟨RX7, "whyNoRow", "(I)I"⟩
abbrev cX7_whyNoCopy : ByteArray := prog_1_method_46_code
def yX7_whyNoCopy : MethodName := ⟨RX7, "whyNoCopy", "(II)I"⟩
abbrev cX7_whyNoWalk : ByteArray := prog_1_method_47_code
def yX7_whyNoWalk : MethodName := ⟨RX7, "whyNoWalk", "(II)I"⟩
abbrev cX7_isShelf : ByteArray := prog_1_method_48_code
def yX7_isShelf : MethodName := ⟨RX7, "isShelf", "(I)Z"⟩
abbrev cX7_isKind : ByteArray := prog_1_method_49_code
def yX7_isKind : MethodName := ⟨RX7, "isKind", "(I)Z"⟩
abbrev cX7_isRule : ByteArray := prog_1_method_50_code
def yX7_isRule : MethodName := ⟨RX7, "isRule", "(I)Z"⟩
abbrev cX7_isUnder : ByteArray := prog_1_method_51_code
def yX7_isUnder : MethodName := ⟨RX7, "isUnder", "(II)Z"⟩
abbrev cX7_restOfKind : ByteArray := prog_1_method_52_code
def yX7_restOfKind : MethodName := ⟨RX7, "restOfKind", "(I)I"⟩
abbrev cX7_isBetter : ByteArray := prog_1_method_53_code
def yX7_isBetter : MethodName := ⟨RX7, "isBetter", "(IIII)Z"⟩
abbrev cX7_nthBit : ByteArray := prog_1_method_54_code
def yX7_nthBit : MethodName := ⟨RX7, "nthBit", "(II)I"⟩
abbrev cX7_tryWalk : ByteArray := prog_1_method_55_code
def yX7_tryWalk : MethodName := ⟨RX7, "tryWalk", "(LCarriedAsFarAsTheStile$Shelf;I)I"⟩
abbrev cX7_areSoTired : ByteArray := prog_1_method_56_code
def yX7_areSoTired : MethodName := ⟨RX7, "areSoTired", "(LCarriedAsFarAsTheStile$Walk;LCarriedAsFarAsTheStile$Shelf;)Z"⟩
abbrev cX7_leastToTheEnd : ByteArray := prog_1_method_57_code
def yX7_leastToTheEnd : MethodName := ⟨RX7, "leastToTheEnd", "(II)I"⟩
def RX8 : String := "CarriedAsFarAsTheStileModel"
def TX8 : u_T := fun k => match k with
  | 0 => ("CarriedAsFarAsTheStileModel", "furlongs", "I", false)
  | 1 => ("CarriedAsFarAsTheStileModel", "many", "I", false)
  | 2 => ("CarriedAsFarAsTheStileModel", "bagged", "I", false)
  | 3 => ("CarriedAsFarAsTheStileModel", "legs", "I", false)
  | 4 => ("CarriedAsFarAsTheStileModel", "most", "I", false)
  | 5 => ("CarriedAsFarAsTheStileModel", "nap", "I", false)
  | 6 => ("CarriedAsFarAsTheStileModel", "on", "I", false)
  | 7 => ("CarriedAsFarAsTheStileModel", "biscuits", "I", false)
  | 8 => ("CarriedAsFarAsTheStileModel", "races", "I", false)
  | 9 => ("CarriedAsFarAsTheStileModel", "worn", "I", false)
  | 10 => ("CarriedAsFarAsTheStileModel", "here", "I", false)
  | 11 => ("CarriedAsFarAsTheStileModel", "minutes", "I", false)
  | 12 => ("CarriedAsFarAsTheStileModel", "seed", "I", false)
  | 13 => ("CarriedAsFarAsTheStileModel", "fault", "I", false)
  | 14 => ("CarriedAsFarAsTheStileModel", "refused", "[I", true)
  | 15 => ("CarriedAsFarAsTheStileModel", "slope", "[I", true)
  | 16 => ("CarriedAsFarAsTheStileModel", "stile", "[I", true)
  | 17 => ("CarriedAsFarAsTheStileModel", "kind", "[I", true)
  | 18 => ("CarriedAsFarAsTheStileModel", "part", "[I", true)
  | 19 => ("CarriedAsFarAsTheStileModel", "tired", "[I", true)
  | 20 => ("CarriedAsFarAsTheStileModel", "held", "[I", true)
  | 21 => ("CarriedAsFarAsTheStileModel", "sort", "[I", true)
  | 22 => ("CarriedAsFarAsTheStileModel", "size", "[I", true)
  | 23 => ("CarriedAsFarAsTheStileModel", "shown", "[I", true)
  | 24 => ("CarriedAsFarAsTheStileModel", "cells", "[J", true)
  | 25 => ("CarriedAsFarAsTheStileModel", "carried", "[J", true)
  | 26 => ("CarriedAsFarAsTheStileModel", "words", "[I", true)
  | 27 => ("CarriedAsFarAsTheStileModel", "numbers", "[I", true)
  | 28 => ("CarriedAsFarAsTheStileModel", "tell", "[I", true)
  | 29 => ("CarriedAsFarAsTheStileModel", "base", "I", false)
  | 30 => ("CarriedAsFarAsTheStileModel", "at", "I", false)
  | 31 => ("CarriedAsFarAsTheStileModel", "end", "I", false)
  | 32 => ("CarriedAsFarAsTheStileModel", "number", "I", false)
  | 33 => ("CarriedAsFarAsTheStileModel", "wrongAt", "I", false)
  | 34 => ("CarriedAsFarAsTheStileModel", "was", "[I", true)
  | 35 => ("CarriedAsFarAsTheStileModel", "kept", "[I", true)
  | 36 => ("CarriedAsFarAsTheStileModel", "tried", "[I", true)
  | 37 => ("CarriedAsFarAsTheStileModel", "ahead", "[I", true)
  | 38 => ("CarriedAsFarAsTheStileModel", "chosen", "[I", true)
  | 39 => ("CarriedAsFarAsTheStileModel", "best", "[I", true)
  | 40 => ("CarriedAsFarAsTheStileModel", "bestMany", "I", false)
  | 41 => ("CarriedAsFarAsTheStileModel", "bestHere", "I", false)
  | 42 => ("CarriedAsFarAsTheStileModel", "bestWorn", "I", false)
  | 43 => ("CarriedAsFarAsTheStileModel", "bestMinutes", "I", false)
  | 44 => ("CarriedAsFarAsTheStileModel", "turn", "I", false)
  | 45 => ("CarriedAsFarAsTheStileModel", "ever", "I", false)
  | 46 => ("CarriedAsFarAsTheStileModel", "made", "I", false)
  | 47 => ("CarriedAsFarAsTheStileModel", "ruleHere", "I", false)
  | 48 => ("CarriedAsFarAsTheStileModel", "ruleMinutes", "I", false)
  | 49 => ("CarriedAsFarAsTheStileModel", "ruleEver", "I", false)
  | 50 => ("CarriedAsFarAsTheStileModel", "trace", "[I", true)
  | 51 => ("CarriedAsFarAsTheStileModel", "ran", "I", false)
  | _ => ("CarriedAsFarAsTheStileModel", "isKept", "Z", false)
def tyX8 : Nat → FieldType := fun k => match k with
  | 0 => .int
  | 1 => .int
  | 2 => .int
  | 3 => .int
  | 4 => .int
  | 5 => .int
  | 6 => .int
  | 7 => .int
  | 8 => .int
  | 9 => .int
  | 10 => .int
  | 11 => .int
  | 12 => .int
  | 13 => .int
  | 14 => .array .int
  | 15 => .array .int
  | 16 => .array .int
  | 17 => .array .int
  | 18 => .array .int
  | 19 => .array .int
  | 20 => .array .int
  | 21 => .array .int
  | 22 => .array .int
  | 23 => .array .int
  | 24 => .array .long
  | 25 => .array .long
  | 26 => .array .int
  | 27 => .array .int
  | 28 => .array .int
  | 29 => .int
  | 30 => .int
  | 31 => .int
  | 32 => .int
  | 33 => .int
  | 34 => .array .int
  | 35 => .array .int
  | 36 => .array .int
  | 37 => .array .int
  | 38 => .array .int
  | 39 => .array .int
  | 40 => .int
  | 41 => .int
  | 42 => .int
  | 43 => .int
  | 44 => .int
  | 45 => .int
  | 46 => .int
  | 47 => .int
  | 48 => .int
  | 49 => .int
  | 50 => .array .int
  | 51 => .int
  | _ => .boolean
abbrev wsX80 : List Cond := u_ws RX8 TX8 53
theorem nmX8 : ∀ a, a < 53 → ∀ b, b < 53 → a ≠ b → (TX8 a).2.1 ≠ (TX8 b).2.1 := by decide +kernel
theorem tyX8_ok : ∀ k, k < 53 → parseFieldDescriptor (TX8 k).2.2.1 = some (tyX8 k) := by decide +kernel
abbrev cX8_init : ByteArray := prog_10_method_1_code
def yX8_init : MethodName := ⟨RX8, "<init>", "()V"⟩
abbrev cX8_no : ByteArray := prog_10_method_2_code
def yX8_no : MethodName := ⟨RX8, "no", "(I)I"⟩
abbrev cX8_noTen : ByteArray := prog_10_method_3_code
def yX8_noTen : MethodName := ⟨RX8, "noTen", "(I)I"⟩
abbrev cX8_isShelf : ByteArray := prog_10_method_4_code
def yX8_isShelf : MethodName := ⟨RX8, "isShelf", "(I)Z"⟩
abbrev cX8_isPerson : ByteArray := prog_10_method_5_code
def yX8_isPerson : MethodName := ⟨RX8, "isPerson", "(I)Z"⟩
abbrev cX8_isFurlong : ByteArray := prog_10_method_6_code
def yX8_isFurlong : MethodName := ⟨RX8, "isFurlong", "(I)Z"⟩
abbrev cX8_row : ByteArray := prog_10_method_7_code
def yX8_row : MethodName := ⟨RX8, "row", "(III)I"⟩
abbrev cX8_set : ByteArray := prog_10_method_8_code
def yX8_set : MethodName := ⟨RX8, "set", "(IIJ)I"⟩
abbrev cX8_copy : ByteArray := prog_10_method_9_code
def yX8_copy : MethodName := ⟨RX8, "copy", "(IIIII)I"⟩
abbrev cX8_element : ByteArray := prog_10_method_10_code
def yX8_element : MethodName := ⟨RX8, "element", "(II)J"⟩
abbrev cX8_show : ByteArray := prog_10_method_11_code
def yX8_show : MethodName := ⟨RX8, "show", "(II)I"⟩
abbrev cX8_holds : ByteArray := prog_10_method_12_code
def yX8_holds : MethodName := ⟨RX8, "holds", "(I)I"⟩
abbrev cX8_says : ByteArray := prog_10_method_13_code
def yX8_says : MethodName := ⟨RX8, "says", "(II)I"⟩
abbrev cX8_wanted : ByteArray := prog_10_method_14_code
def yX8_wanted : MethodName := ⟨RX8, "wanted", "(I)I"⟩
abbrev cX8_intAt : ByteArray := prog_10_method_15_code
def yX8_intAt : MethodName := ⟨RX8, "intAt", "(II)I"⟩
abbrev cX8_bars : ByteArray := prog_10_method_16_code
def yX8_bars : MethodName := ⟨RX8, "bars", "(II)I"⟩
abbrev cX8_addsFurlong : ByteArray := prog_10_method_17_code
def yX8_addsFurlong : MethodName := ⟨RX8, "addsFurlong", "(II)I"⟩
abbrev cX8_addsPerson : ByteArray := prog_10_method_18_code
def yX8_addsPerson : MethodName := ⟨RX8, "addsPerson", "(II)I"⟩
abbrev cX8_furlong : ByteArray := prog_10_method_19_code
def yX8_furlong : MethodName := ⟨RX8, "furlong", "(IZ)I"⟩
abbrev cX8_person : ByteArray := prog_10_method_20_code
def yX8_person : MethodName := ⟨RX8, "person", "(II)I"⟩
abbrev cX8_furlongOf : ByteArray := prog_10_method_21_code
def yX8_furlongOf : MethodName := ⟨RX8, "furlongOf", "(II)I"⟩
abbrev cX8_personOf : ByteArray := prog_10_method_22_code
def yX8_personOf : MethodName := ⟨RX8, "personOf", "(II)I"⟩
abbrev cX8_isAsked : ByteArray := prog_10_method_23_code
def yX8_isAsked : MethodName := ⟨RX8, "isAsked", "(II)Z"⟩
abbrev cX8_told : ByteArray := prog_10_method_24_code
def yX8_told : MethodName := ⟨RX8, "told", "(I)I"⟩
abbrev cX8_tells : ByteArray := prog_10_method_25_code
def yX8_tells : MethodName := ⟨RX8, "tells", "(II)V"⟩
abbrev cX8_asks : ByteArray := prog_10_method_26_code
def yX8_asks : MethodName := ⟨RX8, "asks", "(II)I"⟩
abbrev cX8_ask : ByteArray := prog_10_method_27_code
def yX8_ask : MethodName := ⟨RX8, "ask", "(II)I"⟩
abbrev cX8_tire : ByteArray := prog_10_method_28_code
def yX8_tire : MethodName := ⟨RX8, "tire", "(II)I"⟩
abbrev cX8_bag : ByteArray := prog_10_method_29_code
def yX8_bag : MethodName := ⟨RX8, "bag", "(I)I"⟩
abbrev cX8_wrong : ByteArray := prog_10_method_30_code
def yX8_wrong : MethodName := ⟨RX8, "wrong", "(I)Z"⟩
abbrev cX8_stands : ByteArray := prog_10_method_31_code
def yX8_stands : MethodName := ⟨RX8, "stands", "(I)Z"⟩
abbrev cX8_word : ByteArray := prog_10_method_32_code
def yX8_word : MethodName := ⟨RX8, "word", "()I"⟩
abbrev cX8_isDigit : ByteArray := prog_10_method_33_code
def yX8_isDigit : MethodName := ⟨RX8, "isDigit", "()Z"⟩
abbrev cX8_reads : ByteArray := prog_10_method_34_code
def yX8_reads : MethodName := ⟨RX8, "reads", "()Z"⟩
abbrev cX8_isSo : ByteArray := prog_10_method_35_code
def yX8_isSo : MethodName := ⟨RX8, "isSo", "(II)Z"⟩
abbrev cX8_item : ByteArray := prog_10_method_36_code
def yX8_item : MethodName := ⟨RX8, "item", "()Z"⟩
abbrev cX8_carries : ByteArray := prog_10_method_37_code
def yX8_carries : MethodName := ⟨RX8, "carries", "([II[IIZ)I"⟩
abbrev cX8_all : ByteArray := prog_10_method_38_code
def yX8_all : MethodName := ⟨RX8, "all", "([IIZ)V"⟩
abbrev cX8_way : ByteArray := prog_10_method_39_code
def yX8_way : MethodName := ⟨RX8, "way", "(I)I"⟩
abbrev cX8_fault : ByteArray := prog_10_method_40_code
def yX8_fault : MethodName := ⟨RX8, "fault", "()I"⟩
abbrev cX8_isAsleep : ByteArray := prog_10_method_41_code
def yX8_isAsleep : MethodName := ⟨RX8, "isAsleep", "()Z"⟩
abbrev cX8_loadOf : ByteArray := prog_10_method_42_code
def yX8_loadOf : MethodName := ⟨RX8, "loadOf", "(II)I"⟩
abbrev cX8_mayCarry : ByteArray := prog_10_method_43_code
def yX8_mayCarry : MethodName := ⟨RX8, "mayCarry", "(I)Z"⟩
abbrev cX8_mayBe : ByteArray := prog_10_method_44_code
def yX8_mayBe : MethodName := ⟨RX8, "mayBe", "(I)Z"⟩
abbrev cX8_rests : ByteArray := prog_10_method_45_code
def yX8_rests : MethodName := ⟨RX8, "rests", "(II)V"⟩
abbrev cX8_acts : ByteArray := prog_10_method_46_code
def yX8_acts : MethodName := ⟨RX8, "acts", "(I)V"⟩
abbrev cX8_greatest : ByteArray := prog_10_method_47_code
def yX8_greatest : MethodName := ⟨RX8, "greatest", "()I"⟩
abbrev cX8_load : ByteArray := prog_10_method_48_code
def yX8_load : MethodName := ⟨RX8, "load", "(II)I"⟩
abbrev cX8_may : ByteArray := prog_10_method_49_code
def yX8_may : MethodName := ⟨RX8, "may", "(I)I"⟩
abbrev cX8_next : ByteArray := prog_10_method_50_code
def yX8_next : MethodName := ⟨RX8, "next", "()I"⟩
abbrev cX8_looks : ByteArray := prog_10_method_51_code
def yX8_looks : MethodName := ⟨RX8, "looks", "(III)V"⟩
abbrev cX8_ahead : ByteArray := prog_10_method_52_code
def yX8_ahead : MethodName := ⟨RX8, "ahead", "(II)I"⟩
abbrev cX8_freshest : ByteArray := prog_10_method_53_code
def yX8_freshest : MethodName := ⟨RX8, "freshest", "()I"⟩
abbrev cX8_ruled : ByteArray := prog_10_method_54_code
def yX8_ruled : MethodName := ⟨RX8, "ruled", "(I)I"⟩
abbrev cX8_begins : ByteArray := prog_10_method_55_code
def yX8_begins : MethodName := ⟨RX8, "begins", "()V"⟩
abbrev cX8_goes : ByteArray := prog_10_method_56_code
def yX8_goes : MethodName := ⟨RX8, "goes", "(I)Z"⟩
abbrev cX8_isRule : ByteArray := prog_10_method_57_code
def yX8_isRule : MethodName := ⟨RX8, "isRule", "(I)Z"⟩
abbrev cX8_leads : ByteArray := prog_10_method_58_code
def yX8_leads : MethodName := ⟨RX8, "leads", "(I)V"⟩
abbrev cX8_takesBack : ByteArray := prog_10_method_59_code
def yX8_takesBack : MethodName := ⟨RX8, "takesBack", "()V"⟩
abbrev cX8_by : ByteArray := prog_10_method_60_code
def yX8_by : MethodName := ⟨RX8, "by", "(II)I"⟩
abbrev cX8_best : ByteArray := prog_10_method_61_code
def yX8_best : MethodName := ⟨RX8, "best", "(I)I"⟩
abbrev cX8_whose : ByteArray := prog_10_method_62_code
def yX8_whose : MethodName := ⟨RX8, "whose", "(I)I"⟩
abbrev cX8_turn : ByteArray := prog_10_method_63_code
def yX8_turn : MethodName := ⟨RX8, "turn", "(II)I"⟩
abbrev cX8_pays : ByteArray := prog_10_method_64_code
def yX8_pays : MethodName := ⟨RX8, "pays", "(I)I"⟩
abbrev cX8_bagged : ByteArray := prog_10_method_65_code
def yX8_bagged : MethodName := ⟨RX8, "bagged", "(I)I"⟩
abbrev cX8_wrongIn : ByteArray := prog_10_method_66_code
def yX8_wrongIn : MethodName := ⟨RX8, "wrongIn", "(II)I"⟩
abbrev cX8_barsOf : ByteArray := prog_10_method_67_code
def yX8_barsOf : MethodName := ⟨RX8, "barsOf", "(II)I"⟩
abbrev cX8_judge : ByteArray := prog_10_method_68_code
def yX8_judge : MethodName := ⟨RX8, "judge", "(II)I"⟩
abbrev cX8_behind : ByteArray := prog_10_method_69_code
def yX8_behind : MethodName := ⟨RX8, "behind", "(III)I"⟩
abbrev cX8_done : ByteArray := prog_10_method_70_code
def yX8_done : MethodName := ⟨RX8, "done", "(II)I"⟩
abbrev cX8_fits : ByteArray := prog_10_method_71_code
def yX8_fits : MethodName := ⟨RX8, "fits", "(I)I"⟩
abbrev cX8_enough : ByteArray := prog_10_method_72_code
def yX8_enough : MethodName := ⟨RX8, "enough", "()I"⟩
abbrev cX8_leastWorn : ByteArray := prog_10_method_73_code
def yX8_leastWorn : MethodName := ⟨RX8, "leastWorn", "(I)I"⟩
abbrev cX8_does : ByteArray := prog_10_method_74_code
def yX8_does : MethodName := ⟨RX8, "does", "(I)I"⟩
abbrev cX8_draw : ByteArray := prog_10_method_75_code
def yX8_draw : MethodName := ⟨RX8, "draw", "(I)I"⟩
abbrev cX8_summer : ByteArray := prog_10_method_76_code
def yX8_summer : MethodName := ⟨RX8, "summer", "(I)I"⟩
abbrev cX8_day : ByteArray := prog_10_method_77_code
def yX8_day : MethodName := ⟨RX8, "day", "()I"⟩
abbrev cX8_seed : ByteArray := prog_10_method_78_code
def yX8_seed : MethodName := ⟨RX8, "seed", "(I)I"⟩
abbrev cX8_body : ByteArray := prog_10_method_79_code
def yX8_body : MethodName := ⟨RX8, "body", "(I)V"⟩
abbrev cX8_lifting : ByteArray := prog_10_method_80_code
def yX8_lifting : MethodName := ⟨RX8, "lifting", "(II)I"⟩
abbrev cX8_stepping : ByteArray := prog_10_method_81_code
def yX8_stepping : MethodName := ⟨RX8, "stepping", "(II)I"⟩
abbrev cX8_resting : ByteArray := prog_10_method_82_code
def yX8_resting : MethodName := ⟨RX8, "resting", "(II)I"⟩
abbrev cX8_act : ByteArray := prog_10_method_83_code
def yX8_act : MethodName := ⟨RX8, "act", "(III)I"⟩
abbrev cX8_trace : ByteArray := prog_10_method_84_code
def yX8_trace : MethodName := ⟨RX8, "trace", "(I)I"⟩
abbrev cX8_image : ByteArray := prog_10_method_85_code
def yX8_image : MethodName := ⟨RX8, "image", "()I"⟩
abbrev cX8_restore : ByteArray := prog_10_method_86_code
def yX8_restore : MethodName := ⟨RX8, "restore", "()I"⟩
abbrev cX8_status : ByteArray := prog_10_method_87_code
def yX8_status : MethodName := ⟨RX8, "status", "(I)I"⟩
def RJ6 : String := "java/lang/Integer"
def TJ6 : u_T := fun k => match k with
  | _ => ("", "", "", false)
def tyJ6 : Nat → FieldType := fun k => match k with
  | _ => .int
abbrev wsJ60 : List Cond := u_ws RJ6 TJ6 0
theorem nmJ6 : ∀ a, a < 0 → ∀ b, b < 0 → a ≠ b → (TJ6 a).2.1 ≠ (TJ6 b).2.1 := by decide +kernel
theorem tyJ6_ok : ∀ k, k < 0 → parseFieldDescriptor (TJ6 k).2.2.1 = some (tyJ6 k) := by decide +kernel
abbrev cJ6_bitCount_0f7a4 : ByteArray := prog_11_method_49_code
def yJ6_bitCount_0f7a4 : MethodName := ⟨RJ6, "bitCount", "(I)I"⟩
def RJ9 : String := "java/lang/Math"
def TJ9 : u_T := fun k => match k with
  | _ => ("", "", "", false)
def tyJ9 : Nat → FieldType := fun k => match k with
  | _ => .int
abbrev wsJ90 : List Cond := u_ws RJ9 TJ9 0
theorem nmJ9 : ∀ a, a < 0 → ∀ b, b < 0 → a ≠ b → (TJ9 a).2.1 ≠ (TJ9 b).2.1 := by decide +kernel
theorem tyJ9_ok : ∀ k, k < 0 → parseFieldDescriptor (TJ9 k).2.2.1 = some (tyJ9 k) := by decide +kernel
abbrev cJ9_max_7cf53 : ByteArray := prog_12_method_65_code
def yJ9_max_7cf53 : MethodName := ⟨RJ9, "max", "(II)I"⟩
abbrev cJ9_min_7cf53 : ByteArray := prog_12_method_69_code
def yJ9_min_7cf53 : MethodName := ⟨RJ9, "min", "(II)I"⟩
def RJ0 : String := "java/lang/String"
def TJ0 : u_T := fun k => match k with
  | _ => ("", "", "", false)
def tyJ0 : Nat → FieldType := fun k => match k with
  | _ => .int
abbrev wsJ00 : List Cond := u_ws RJ0 TJ0 0
theorem nmJ0 : ∀ a, a < 0 → ∀ b, b < 0 → a ≠ b → (TJ0 a).2.1 ≠ (TJ0 b).2.1 := by decide +kernel
theorem tyJ0_ok : ∀ k, k < 0 → parseFieldDescriptor (TJ0 k).2.2.1 = some (tyJ0 k) := by decide +kernel
abbrev cJ0_length_8abf5 : ByteArray := prog_13_method_54_code
def yJ0_length_8abf5 : MethodName := ⟨RJ0, "length", "()I"⟩
abbrev cJ0_charAt_5068e : ByteArray := prog_13_method_56_code
def yJ0_charAt_5068e : MethodName := ⟨RJ0, "charAt", "(I)C"⟩
abbrev cJ0_coder_7d493 : ByteArray := prog_13_method_152_code
def yJ0_coder_7d493 : MethodName := ⟨RJ0, "coder", "()B"⟩
abbrev cJ0_isLatin1_aae02 : ByteArray := prog_13_method_154_code
def yJ0_isLatin1_aae02 : MethodName := ⟨RJ0, "isLatin1", "()Z"⟩
abbrev cJ0_checkIndex_df160 : ByteArray := prog_13_method_155_code
def yJ0_checkIndex_df160 : MethodName := ⟨RJ0, "checkIndex", "(II)V"⟩
def RJ1 : String := "java/lang/StringLatin1"
def TJ1 : u_T := fun k => match k with
  | _ => ("", "", "", false)
def tyJ1 : Nat → FieldType := fun k => match k with
  | _ => .int
abbrev wsJ10 : List Cond := u_ws RJ1 TJ1 0
theorem nmJ1 : ∀ a, a < 0 → ∀ b, b < 0 → a ≠ b → (TJ1 a).2.1 ≠ (TJ1 b).2.1 := by decide +kernel
theorem tyJ1_ok : ∀ k, k < 0 → parseFieldDescriptor (TJ1 k).2.2.1 = some (tyJ1 k) := by decide +kernel
abbrev cJ1_charAt_3b067 : ByteArray := prog_14_method_2_code
def yJ1_charAt_3b067 : MethodName := ⟨RJ1, "charAt", "([BI)C"⟩
def RJ2 : String := "java/lang/StringUTF16"
def TJ2 : u_T := fun k => match k with
  | _ => ("", "", "", false)
def tyJ2 : Nat → FieldType := fun k => match k with
  | _ => .int
abbrev wsJ20 : List Cond := u_ws RJ2 TJ2 0
theorem nmJ2 : ∀ a, a < 0 → ∀ b, b < 0 → a ≠ b → (TJ2 a).2.1 ≠ (TJ2 b).2.1 := by decide +kernel
theorem tyJ2_ok : ∀ k, k < 0 → parseFieldDescriptor (TJ2 k).2.2.1 = some (tyJ2 k) := by decide +kernel
abbrev cJ2_getChar_3b067 : ByteArray := prog_15_method_5_code
def yJ2_getChar_3b067 : MethodName := ⟨RJ2, "getChar", "([BI)C"⟩
abbrev cJ2_length_9d52b : ByteArray := prog_15_method_6_code
def yJ2_length_9d52b : MethodName := ⟨RJ2, "length", "([B)I"⟩
abbrev cJ2_charAt_3b067 : ByteArray := prog_15_method_83_code
def yJ2_charAt_3b067 : MethodName := ⟨RJ2, "charAt", "([BI)C"⟩
abbrev cJ2_checkIndex_2214a : ByteArray := prog_15_method_91_code
def yJ2_checkIndex_2214a : MethodName := ⟨RJ2, "checkIndex", "(I[B)V"⟩
def RJ10 : String := "java/lang/System"
def TJ10 : u_T := fun k => match k with
  | _ => ("", "", "", false)
def tyJ10 : Nat → FieldType := fun k => match k with
  | _ => .int
abbrev wsJ100 : List Cond := u_ws RJ10 TJ10 0
theorem nmJ10 : ∀ a, a < 0 → ∀ b, b < 0 → a ≠ b → (TJ10 a).2.1 ≠ (TJ10 b).2.1 := by decide +kernel
theorem tyJ10_ok : ∀ k, k < 0 → parseFieldDescriptor (TJ10 k).2.2.1 = some (tyJ10 k) := by decide +kernel
def RJ3 : String := "jdk/internal/util/Preconditions"
def TJ3 : u_T := fun k => match k with
  | _ => ("", "", "", false)
def tyJ3 : Nat → FieldType := fun k => match k with
  | _ => .int
abbrev wsJ30 : List Cond := u_ws RJ3 TJ3 0
theorem nmJ3 : ∀ a, a < 0 → ∀ b, b < 0 → a ≠ b → (TJ3 a).2.1 ≠ (TJ3 b).2.1 := by decide +kernel
theorem tyJ3_ok : ∀ k, k < 0 → parseFieldDescriptor (TJ3 k).2.2.1 = some (tyJ3 k) := by decide +kernel
abbrev cJ3_checkIndex_8e157 : ByteArray := prog_17_method_11_code
def yJ3_checkIndex_8e157 : MethodName := ⟨RJ3, "checkIndex", "(IILjava/util/function/BiFunction;)I"⟩
def RL : String := "CarriedAsFarAsTheStileLaw"
abbrev cL_law : ByteArray := code
def yL_law : MethodName := ⟨RL, "law", "([I)Z"⟩
abbrev zx_cl : List vw_C := [(RX0, TX0, 5), (RX1, TX1, 4), (RX2, TX2, 8), (RX3, TX3, 3), (RX4, TX4, 7), (RX5, TX5, 13), (RX6, TX6, 6), (RX7, TX7, 11), (RX8, TX8, 53)]
def zx_on : List String := [RX0, RX1, RX2, RX3, RX4, RX5, RX6, RX7, RX8, RJ6, RJ9, RJ0, RJ1, RJ3, "CarriedAsFarAsTheStileLaw"]
abbrev zx_MT : Type := Nat × MethodName × ByteArray × Nat × Option FieldType × Nat × Nat
def zx_ml_0 : List zx_MT := [(0, yX0_init, cX0_init, 1, none, 0, 2),
  (0, yX0_forget, cX0_forget, 1, none, 0, 0),
  (0, yX0_run, cX0_run, 5, (some FieldType.int), 4, 0),
  (0, yX0_kept, cX0_kept, 2, (some FieldType.int), 1, 0),
  (0, yX0_from, cX0_from, 7, (some FieldType.int), 4, 0),
  (0, yX0_runBody, cX0_runBody, 5, (some FieldType.int), 4, 0),
  (1, yX1_init, cX1_init, 2, none, 1, 2),
  (1, yX1_begin, cX1_begin, 2, none, 1, 0),
  (1, yX1_goOn, cX1_goOn, 3, none, 1, 0),
  (1, yX1_step, cX1_step, 3, (some FieldType.boolean), 1, 0),
  (1, yX1_choose, cX1_choose, 3, (some FieldType.int), 1, 0),
  (1, yX1_whoseTurn, cX1_whoseTurn, 4, (some FieldType.int), 0, 0),
  (1, yX1_freshest, cX1_freshest, 3, (some FieldType.int), 0, 0),
  (2, yX2_init, cX2_init, 3, none, 1, 2),
  (2, yX2_look, cX2_look, 3, none, 2, 0),
  (2, yX2_deeper, cX2_deeper, 7, none, 2, 0),
  (2, yX2_isHopeless, cX2_isHopeless, 4, (some FieldType.boolean), 2, 0),
  (2, yX2_offer, cX2_offer, 6, none, 2, 0),
  (3, yX3_init, cX3_init, 1, none, 0, 2),
  (3, yX3_holdsRow, cX3_holdsRow, 1, (some FieldType.boolean), 0, 0),
  (3, yX3_hasElement, cX3_hasElement, 2, (some FieldType.boolean), 1, 0),
  (3, yX3_hasElements, cX3_hasElements, 3, (some FieldType.boolean), 2, 0),
  (3, yX3_makeRow, cX3_makeRow, 4, none, 2, 0),
  (3, yX3_put, cX3_put, 4, none, 2, 0),
  (3, yX3_number, cX3_number, 2, (some FieldType.int), 1, 0),
  (4, yX4_init, cX4_init, 1, none, 0, 2),
  (4, yX4_read, cX4_read, 5, none, 2, 0),
  (4, yX4_readItem, cX4_readItem, 3, none, 0, 0),
  (4, yX4_hasRoomFor, cX4_hasRoomFor, 2, (some FieldType.boolean), 1, 0),
  (4, yX4_tellFurlong, cX4_tellFurlong, 3, none, 1, 0),
  (4, yX4_tellPerson, cX4_tellPerson, 3, none, 0, 0),
  (4, yX4_tellTired, cX4_tellTired, 3, none, 0, 0),
  (4, yX4_tellBag, cX4_tellBag, 2, none, 0, 0),
  (4, yX4_tellAct, cX4_tellAct, 2, none, 0, 0),
  (4, yX4_tellAsked, cX4_tellAsked, 3, none, 1, 0),
  (4, yX4_readWord, cX4_readWord, 4, (some FieldType.int), 0, 0),
  (4, yX4_wordBeginning, cX4_wordBeginning, 4, (some FieldType.int), 2, 0),
  (4, yX4_beginsThere, cX4_beginsThere, 5, (some FieldType.boolean), 3, 0),
  (4, yX4_spelling, cX4_spelling, 1, (some (FieldType.object "java/lang/String")), 1, 1),
  (4, yX4_readSign, cX4_readSign, 2, (some FieldType.boolean), 1, 0)]
def zx_ml_1 : List zx_MT := [(4, yX4_readNumber, cX4_readNumber, 5, (some FieldType.int), 2, 0),
  (4, yX4_isDigitNext, cX4_isDigitNext, 1, (some FieldType.boolean), 0, 0),
  (5, yX5_init, cX5_init, 2, none, 1, 2),
  (5, yX5_copyFrom, cX5_copyFrom, 2, none, 1, 0),
  (5, yX5_addPerson, cX5_addPerson, 3, (some FieldType.int), 2, 0),
  (5, yX5_asked, cX5_asked, 2, (some FieldType.int), 1, 0),
  (5, yX5_become, cX5_become, 3, none, 2, 0),
  (5, yX5_atEnd, cX5_atEnd, 1, (some FieldType.boolean), 0, 0),
  (5, yX5_asleep, cX5_asleep, 1, (some FieldType.boolean), 0, 0),
  (5, yX5_greatestTired, cX5_greatestTired, 3, (some FieldType.int), 0, 0),
  (5, yX5_minutesThereAndBack, cX5_minutesThereAndBack, 1, (some FieldType.int), 0, 0),
  (5, yX5_loadOnSlope, cX5_loadOnSlope, 5, (some FieldType.int), 2, 0),
  (5, yX5_mayBe, cX5_mayBe, 2, (some FieldType.boolean), 1, 0),
  (5, yX5_mayCarry, cX5_mayCarry, 4, (some FieldType.boolean), 1, 0),
  (5, yX5_mayWalk, cX5_mayWalk, 1, (some FieldType.boolean), 0, 0),
  (5, yX5_mayRest, cX5_mayRest, 1, (some FieldType.boolean), 0, 0),
  (5, yX5_come, cX5_come, 2, none, 1, 0),
  (5, yX5_walk, cX5_walk, 1, none, 0, 0),
  (5, yX5_carry, cX5_carry, 3, none, 1, 0),
  (5, yX5_restOthers, cX5_restOthers, 4, none, 1, 0),
  (5, yX5_restAll, cX5_restAll, 2, none, 0, 0),
  (5, yX5_draw, cX5_draw, 2, (some FieldType.int), 1, 0),
  (6, yX6_init, cX6_init, 1, none, 0, 2),
  (6, yX6_copyFrom, cX6_copyFrom, 2, none, 1, 0),
  (6, yX6_hasFurlong, cX6_hasFurlong, 2, (some FieldType.boolean), 1, 0),
  (6, yX6_hasPerson, cX6_hasPerson, 2, (some FieldType.boolean), 1, 0),
  (6, yX6_addFurlong, cX6_addFurlong, 3, (some FieldType.int), 2, 0),
  (7, yX7_init, cX7_init, 2, none, 0, 2),
  (7, yX7_row, cX7_row, 4, (some FieldType.int), 3, 0),
  (7, yX7_set, cX7_set, 6, (some FieldType.int), 3, 0),
  (7, yX7_copy, cX7_copy, 9, (some FieldType.int), 5, 0),
  (7, yX7_element, cX7_element, 3, (some FieldType.long), 2, 0),
  (7, yX7_show, cX7_show, 3, (some FieldType.int), 2, 0),
  (7, yX7_holds, cX7_holds, 2, (some FieldType.int), 1, 0),
  (7, yX7_says, cX7_says, 4, (some FieldType.int), 2, 0),
  (7, yX7_furlong, cX7_furlong, 3, (some FieldType.int), 2, 0),
  (7, yX7_person, cX7_person, 3, (some FieldType.int), 2, 0),
  (7, yX7_furlongOf, cX7_furlongOf, 3, (some FieldType.int), 2, 0),
  (7, yX7_personOf, cX7_personOf, 3, (some FieldType.int), 2, 0),
  (7, yX7_ask, cX7_ask, 4, (some FieldType.int), 2, 0)]
def zx_ml_2 : List zx_MT := [(7, yX7_tire, cX7_tire, 4, (some FieldType.int), 2, 0),
  (7, yX7_bag, cX7_bag, 3, (some FieldType.int), 1, 0),
  (7, yX7_way, cX7_way, 3, (some FieldType.int), 1, 0),
  (7, yX7_fault, cX7_fault, 1, (some FieldType.int), 0, 0),
  (7, yX7_load, cX7_load, 3, (some FieldType.int), 2, 0),
  (7, yX7_may, cX7_may, 2, (some FieldType.int), 1, 0),
  (7, yX7_next, cX7_next, 3, (some FieldType.int), 0, 0),
  (7, yX7_ahead, cX7_ahead, 3, (some FieldType.int), 2, 0),
  (7, yX7_by, cX7_by, 4, (some FieldType.int), 2, 0),
  (7, yX7_best, cX7_best, 7, (some FieldType.int), 1, 0),
  (7, yX7_whose, cX7_whose, 5, (some FieldType.int), 1, 0),
  (7, yX7_turn, cX7_turn, 5, (some FieldType.int), 2, 0),
  (7, yX7_pays, cX7_pays, 4, (some FieldType.int), 1, 0),
  (7, yX7_bagged, cX7_bagged, 6, (some FieldType.int), 1, 0),
  (7, yX7_judge, cX7_judge, 4, (some FieldType.int), 2, 0),
  (7, yX7_behind, cX7_behind, 5, (some FieldType.int), 3, 0),
  (7, yX7_done, cX7_done, 4, (some FieldType.int), 2, 0),
  (7, yX7_fits, cX7_fits, 5, (some FieldType.int), 1, 0),
  (7, yX7_enough, cX7_enough, 1, (some FieldType.int), 0, 0),
  (7, yX7_leastWorn, cX7_leastWorn, 2, (some FieldType.int), 1, 0),
  (7, yX7_does, cX7_does, 2, (some FieldType.int), 1, 0),
  (7, yX7_summer, cX7_summer, 5, (some FieldType.int), 1, 0),
  (7, yX7_day, cX7_day, 3, (some FieldType.int), 0, 0),
  (7, yX7_seed, cX7_seed, 3, (some FieldType.int), 1, 0),
  (7, yX7_act, cX7_act, 4, (some FieldType.int), 3, 0),
  (7, yX7_trace, cX7_trace, 2, (some FieldType.int), 1, 0),
  (7, yX7_image, cX7_image, 1, (some FieldType.int), 0, 0),
  (7, yX7_restore, cX7_restore, 5, (some FieldType.int), 0, 0),
  (7, yX7_status, cX7_status, 2, (some FieldType.int), 1, 0),
  (7, yX7_refuse, cX7_refuse, 2, (some FieldType.int), 1, 0),
  (7, yX7_refuseFar, cX7_refuseFar, 2, (some FieldType.int), 1, 0),
  (7, yX7_whyNoRow, cX7_whyNoRow, 2, (some FieldType.int), 1, 0),
  (7, yX7_whyNoCopy, cX7_whyNoCopy, 5, (some FieldType.int), 2, 0),
  (7, yX7_whyNoWalk, cX7_whyNoWalk, 4, (some FieldType.int), 2, 0),
  (7, yX7_isShelf, cX7_isShelf, 1, (some FieldType.boolean), 1, 1),
  (7, yX7_isKind, cX7_isKind, 1, (some FieldType.boolean), 1, 1),
  (7, yX7_isRule, cX7_isRule, 1, (some FieldType.boolean), 1, 1),
  (7, yX7_isUnder, cX7_isUnder, 4, (some FieldType.boolean), 2, 1),
  (7, yX7_restOfKind, cX7_restOfKind, 1, (some FieldType.int), 1, 1),
  (7, yX7_isBetter, cX7_isBetter, 4, (some FieldType.boolean), 4, 1)]
def zx_ml_3 : List zx_MT := [(7, yX7_nthBit, cX7_nthBit, 4, (some FieldType.int), 2, 1),
  (7, yX7_tryWalk, cX7_tryWalk, 5, (some FieldType.int), 2, 0),
  (7, yX7_areSoTired, cX7_areSoTired, 3, (some FieldType.boolean), 2, 1),
  (7, yX7_leastToTheEnd, cX7_leastToTheEnd, 4, (some FieldType.int), 2, 0),
  (8, yX8_init, cX8_init, 1, none, 0, 2),
  (8, yX8_no, cX8_no, 2, (some FieldType.int), 1, 0),
  (8, yX8_noTen, cX8_noTen, 2, (some FieldType.int), 1, 0),
  (8, yX8_isShelf, cX8_isShelf, 2, (some FieldType.boolean), 1, 0),
  (8, yX8_isPerson, cX8_isPerson, 2, (some FieldType.boolean), 1, 0),
  (8, yX8_isFurlong, cX8_isFurlong, 2, (some FieldType.boolean), 1, 0),
  (8, yX8_row, cX8_row, 5, (some FieldType.int), 3, 0),
  (8, yX8_set, cX8_set, 5, (some FieldType.int), 3, 0),
  (8, yX8_copy, cX8_copy, 7, (some FieldType.int), 5, 0),
  (8, yX8_element, cX8_element, 3, (some FieldType.long), 2, 0),
  (8, yX8_show, cX8_show, 3, (some FieldType.int), 2, 0),
  (8, yX8_holds, cX8_holds, 2, (some FieldType.int), 1, 0),
  (8, yX8_says, cX8_says, 6, (some FieldType.int), 2, 0),
  (8, yX8_wanted, cX8_wanted, 2, (some FieldType.int), 1, 0),
  (8, yX8_intAt, cX8_intAt, 3, (some FieldType.int), 2, 0),
  (8, yX8_bars, cX8_bars, 4, (some FieldType.int), 2, 0),
  (8, yX8_addsFurlong, cX8_addsFurlong, 3, (some FieldType.int), 2, 0),
  (8, yX8_addsPerson, cX8_addsPerson, 3, (some FieldType.int), 2, 0),
  (8, yX8_furlong, cX8_furlong, 3, (some FieldType.int), 2, 0),
  (8, yX8_person, cX8_person, 3, (some FieldType.int), 2, 0),
  (8, yX8_furlongOf, cX8_furlongOf, 3, (some FieldType.int), 2, 0),
  (8, yX8_personOf, cX8_personOf, 3, (some FieldType.int), 2, 0),
  (8, yX8_isAsked, cX8_isAsked, 3, (some FieldType.boolean), 2, 0),
  (8, yX8_told, cX8_told, 2, (some FieldType.int), 1, 0),
  (8, yX8_tells, cX8_tells, 3, none, 2, 0),
  (8, yX8_asks, cX8_asks, 4, (some FieldType.int), 2, 0),
  (8, yX8_ask, cX8_ask, 3, (some FieldType.int), 2, 0),
  (8, yX8_tire, cX8_tire, 4, (some FieldType.int), 2, 0),
  (8, yX8_bag, cX8_bag, 3, (some FieldType.int), 1, 0),
  (8, yX8_wrong, cX8_wrong, 2, (some FieldType.boolean), 1, 0),
  (8, yX8_stands, cX8_stands, 4, (some FieldType.boolean), 1, 0),
  (8, yX8_word, cX8_word, 6, (some FieldType.int), 0, 0),
  (8, yX8_isDigit, cX8_isDigit, 1, (some FieldType.boolean), 0, 0),
  (8, yX8_reads, cX8_reads, 2, (some FieldType.boolean), 0, 0),
  (8, yX8_isSo, cX8_isSo, 3, (some FieldType.boolean), 2, 0),
  (8, yX8_item, cX8_item, 4, (some FieldType.boolean), 0, 0)]
def zx_ml_4 : List zx_MT := [(8, yX8_carries, cX8_carries, 7, (some FieldType.int), 5, 0),
  (8, yX8_all, cX8_all, 6, none, 3, 0),
  (8, yX8_way, cX8_way, 5, (some FieldType.int), 1, 0),
  (8, yX8_fault, cX8_fault, 1, (some FieldType.int), 0, 0),
  (8, yX8_isAsleep, cX8_isAsleep, 1, (some FieldType.boolean), 0, 0),
  (8, yX8_loadOf, cX8_loadOf, 4, (some FieldType.int), 2, 0),
  (8, yX8_mayCarry, cX8_mayCarry, 3, (some FieldType.boolean), 1, 0),
  (8, yX8_mayBe, cX8_mayBe, 2, (some FieldType.boolean), 1, 0),
  (8, yX8_rests, cX8_rests, 3, none, 2, 0),
  (8, yX8_acts, cX8_acts, 5, none, 1, 0),
  (8, yX8_greatest, cX8_greatest, 3, (some FieldType.int), 0, 0),
  (8, yX8_load, cX8_load, 3, (some FieldType.int), 2, 0),
  (8, yX8_may, cX8_may, 2, (some FieldType.int), 1, 0),
  (8, yX8_next, cX8_next, 3, (some FieldType.int), 0, 0),
  (8, yX8_looks, cX8_looks, 7, none, 3, 0),
  (8, yX8_ahead, cX8_ahead, 5, (some FieldType.int), 2, 0),
  (8, yX8_freshest, cX8_freshest, 3, (some FieldType.int), 0, 0),
  (8, yX8_ruled, cX8_ruled, 4, (some FieldType.int), 1, 0),
  (8, yX8_begins, cX8_begins, 1, none, 0, 0),
  (8, yX8_goes, cX8_goes, 4, (some FieldType.boolean), 1, 0),
  (8, yX8_isRule, cX8_isRule, 2, (some FieldType.boolean), 1, 0),
  (8, yX8_leads, cX8_leads, 3, none, 1, 0),
  (8, yX8_takesBack, cX8_takesBack, 1, none, 0, 0),
  (8, yX8_by, cX8_by, 4, (some FieldType.int), 2, 0),
  (8, yX8_best, cX8_best, 7, (some FieldType.int), 1, 0),
  (8, yX8_whose, cX8_whose, 4, (some FieldType.int), 1, 0),
  (8, yX8_turn, cX8_turn, 6, (some FieldType.int), 2, 0),
  (8, yX8_pays, cX8_pays, 6, (some FieldType.int), 1, 0),
  (8, yX8_bagged, cX8_bagged, 7, (some FieldType.int), 1, 0),
  (8, yX8_wrongIn, cX8_wrongIn, 5, (some FieldType.int), 2, 0),
  (8, yX8_barsOf, cX8_barsOf, 4, (some FieldType.int), 2, 0),
  (8, yX8_judge, cX8_judge, 5, (some FieldType.int), 2, 0),
  (8, yX8_behind, cX8_behind, 7, (some FieldType.int), 3, 0),
  (8, yX8_done, cX8_done, 4, (some FieldType.int), 2, 0),
  (8, yX8_fits, cX8_fits, 7, (some FieldType.int), 1, 0),
  (8, yX8_enough, cX8_enough, 4, (some FieldType.int), 0, 0),
  (8, yX8_leastWorn, cX8_leastWorn, 5, (some FieldType.int), 1, 0),
  (8, yX8_does, cX8_does, 2, (some FieldType.int), 1, 0),
  (8, yX8_draw, cX8_draw, 2, (some FieldType.int), 1, 0),
  (8, yX8_summer, cX8_summer, 8, (some FieldType.int), 1, 0)]
def zx_ml_5 : List zx_MT := [(8, yX8_day, cX8_day, 3, (some FieldType.int), 0, 0),
  (8, yX8_seed, cX8_seed, 3, (some FieldType.int), 1, 0),
  (8, yX8_body, cX8_body, 2, none, 1, 0),
  (8, yX8_lifting, cX8_lifting, 5, (some FieldType.int), 2, 0),
  (8, yX8_stepping, cX8_stepping, 7, (some FieldType.int), 2, 0),
  (8, yX8_resting, cX8_resting, 5, (some FieldType.int), 2, 0),
  (8, yX8_act, cX8_act, 4, (some FieldType.int), 3, 0),
  (8, yX8_trace, cX8_trace, 2, (some FieldType.int), 1, 0),
  (8, yX8_image, cX8_image, 1, (some FieldType.int), 0, 0),
  (8, yX8_restore, cX8_restore, 2, (some FieldType.int), 0, 0),
  (8, yX8_status, cX8_status, 2, (some FieldType.int), 1, 0),
  (9, yJ6_bitCount_0f7a4, cJ6_bitCount_0f7a4, 1, (some FieldType.int), 1, 1),
  (10, yJ9_max_7cf53, cJ9_max_7cf53, 2, (some FieldType.int), 2, 3),
  (10, yJ9_min_7cf53, cJ9_min_7cf53, 2, (some FieldType.int), 2, 4),
  (11, yJ0_length_8abf5, cJ0_length_8abf5, 1, (some FieldType.int), 0, 0),
  (11, yJ0_charAt_5068e, cJ0_charAt_5068e, 2, (some FieldType.char), 1, 0),
  (11, yJ0_coder_7d493, cJ0_coder_7d493, 1, (some FieldType.byte), 0, 0),
  (11, yJ0_isLatin1_aae02, cJ0_isLatin1_aae02, 1, (some FieldType.boolean), 0, 0),
  (11, yJ0_checkIndex_df160, cJ0_checkIndex_df160, 2, none, 2, 1),
  (12, yJ1_charAt_3b067, cJ1_charAt_3b067, 2, (some FieldType.char), 2, 1),
  (13, yJ3_checkIndex_8e157, cJ3_checkIndex_8e157, 3, (some FieldType.int), 3, 1)]
def zx_ml : List zx_MT := zx_ml_0 ++ zx_ml_1 ++ zx_ml_2 ++ zx_ml_3 ++ zx_ml_4 ++ zx_ml_5
def zx_mc : List (Nat × Nat × Nat × Nat) := [(317, 87, 316, 0), (932, 87, 930, 931), (936, 87, 934, 935), (957, 87, 955, 956), (941, 87, 940, 33), (949, 87, 948, 34), (219, 84, 218, 0), (797, 84, 795, 796), (803, 84, 801, 802), (807, 84, 805, 806), (812, 84, 811, 27), (817, 84, 816, 28), (822, 84, 821, 29), (243, 85, 242, 0), (760, 85, 758, 759), (770, 85, 769, 24), (774, 85, 773, 25), (782, 85, 781, 26), (339, 88, 338, 0), (416, 88, 414, 415), (420, 88, 418, 419), (436, 88, 434, 435), (404, 88, 402, 403), (424, 88, 422, 423), (561, 88, 559, 560), (282, 86, 281, 0), (547, 86, 545, 546), (565, 86, 564, 4), (644, 86, 643, 8), (648, 86, 647, 9), (665, 86, 664, 13), (670, 86, 669, 14), (674, 86, 673, 15), (678, 86, 677, 16), (729, 86, 728, 23), (569, 86, 568, 5), (573, 86, 572, 6), (592, 86, 591, 7), (576, 86, 575, 0), (656, 86, 655, 11), (652, 86, 651, 10), (660, 86, 659, 12), (156, 82, 155, 0), (556, 82, 554, 555), (496, 82, 494, 495), (524, 82, 522, 523), (528, 82, 526, 527), (690, 82, 688, 689), (474, 82, 472, 473), (766, 82, 764, 765), (841, 82, 839, 840), (478, 82, 476, 477), (682, 82, 680, 681), (699, 82, 697, 698), (686, 82, 685, 17), (695, 82, 694, 18), (705, 82, 703, 704), (709, 82, 708, 19), (725, 82, 724, 22), (713, 82, 712, 20), (721, 82, 720, 21), (912, 82, 910, 911), (113, 83, 112, 0), (551, 83, 549, 550), (504, 83, 502, 503), (451, 83, 449, 450), (488, 83, 486, 487), (101, 81, 100, 0), (393, 81, 391, 392), (408, 81, 406, 407), (428, 81, 426, 427), (443, 81, 441, 442), (447, 81, 445, 446), (455, 81, 453, 454), (459, 81, 457, 458), (484, 81, 482, 483), (492, 81, 490, 491), (500, 81, 498, 499), (512, 81, 510, 511), (516, 81, 514, 515), (535, 81, 533, 534), (539, 81, 537, 538), (543, 81, 541, 542), (739, 81, 737, 738), (743, 81, 741, 742), (747, 81, 745, 746), (752, 81, 750, 751), (756, 81, 754, 755), (790, 81, 788, 789), (828, 81, 826, 827), (833, 81, 831, 832), (837, 81, 835, 836), (846, 81, 844, 845), (851, 81, 849, 850), (855, 81, 853, 854), (868, 81, 866, 867), (873, 81, 871, 872), (877, 81, 875, 876), (884, 81, 882, 883), (893, 81, 891, 892), (897, 81, 895, 896), (901, 81, 899, 900), (920, 81, 918, 919), (924, 81, 922, 923), (928, 81, 926, 927), (953, 81, 951, 952), (961, 81, 959, 960), (965, 81, 963, 964), (969, 81, 967, 968), (400, 81, 399, 0), (508, 81, 507, 3), (412, 81, 411, 1), (432, 81, 431, 2), (859, 81, 858, 30), (396, 81, 395, 0), (462, 81, 461, 0), (793, 81, 792, 0), (465, 81, 464, 0), (470, 81, 469, 0), (785, 81, 784, 0), (916, 81, 915, 0), (863, 81, 862, 31), (880, 81, 879, 0), (888, 81, 887, 32), (974, 89, 973, 0), (1147, 89, 1146, 36), (1211, 89, 1210, 43), (1143, 89, 1142, 35), (1167, 89, 1166, 37), (1207, 89, 1206, 42), (1139, 89, 1137, 1138), (1151, 89, 1149, 1150), (1155, 89, 1153, 1154), (1159, 89, 1157, 1158), (1163, 89, 1161, 1162), (1171, 89, 1169, 1170), (1175, 89, 1173, 1174), (1251, 89, 1250, 48), (1404, 89, 1403, 74), (1396, 89, 1395, 72), (1191, 89, 1190, 40), (1199, 89, 1198, 41), (1187, 89, 1185, 1186), (1195, 89, 1193, 1194), (1203, 89, 1201, 1202), (1215, 89, 1213, 1214), (1223, 89, 1222, 44), (1231, 89, 1230, 46), (1235, 89, 1234, 47), (1227, 89, 1226, 45), (1219, 89, 1217, 1218), (1239, 89, 1237, 1238), (1243, 89, 1241, 1242), (1271, 89, 1270, 53), (1267, 89, 1266, 52), (1275, 89, 1274, 54), (1283, 89, 1282, 56), (1279, 89, 1278, 55), (1287, 89, 1286, 57), (1263, 89, 1262, 51), (1259, 89, 1258, 50), (1255, 89, 1254, 49), (1247, 89, 1245, 1246), (1307, 89, 1305, 1306), (1179, 89, 1178, 38), (1183, 89, 1182, 39), (1295, 89, 1294, 59), (1291, 89, 1290, 58), (1303, 89, 1302, 61), (1299, 89, 1298, 60), (1327, 89, 1326, 62), (1311, 89, 1309, 1310), (1315, 89, 1313, 1314), (1319, 89, 1317, 1318), (1331, 89, 1330, 63), (1323, 89, 1321, 1322), (1360, 89, 1359, 69), (1356, 89, 1355, 68), (1348, 89, 1347, 66), (1352, 89, 1351, 67), (1340, 89, 1339, 64), (1344, 89, 1343, 65), (1364, 89, 1363, 70), (1336, 89, 1334, 1335), (1368, 89, 1366, 1367), (1372, 89, 1370, 1371), (1376, 89, 1374, 1375), (1380, 89, 1378, 1379), (1384, 89, 1382, 1383), (1400, 89, 1399, 73), (1392, 89, 1391, 71), (1388, 89, 1386, 1387), (1408, 89, 1406, 1407), (1412, 89, 1410, 1411), (1416, 89, 1414, 1415), (1420, 89, 1418, 1419), (1424, 89, 1422, 1423), (1428, 89, 1426, 1427), (1436, 89, 1435, 75), (1432, 89, 1430, 1431), (1441, 89, 1439, 1440), (1445, 89, 1443, 1444), (1457, 89, 1456, 77), (1453, 89, 1452, 76), (1461, 89, 1460, 78), (1465, 89, 1464, 79), (1449, 89, 1447, 1448), (1469, 89, 1467, 1468), (1473, 89, 1471, 1472), (1477, 89, 1475, 1476), (1481, 89, 1479, 1480), (905, 96, 904, 0), (717, 91, 716, 0), (531, 91, 530, 0), (596, 92, 594, 595), (606, 92, 604, 605), (600, 92, 598, 599), (610, 92, 608, 609), (616, 92, 615, 0), (613, 93, 612, 0), (621, 94, 620, 0)]
def zx_lF : List (List (Nat × Nat × Nat × Nat × Nat)) := [[(31, 6, 2, 1, 125), (36, 6, 3, 1, 129), (11, 0, 0, 0, 319), (15, 0, 1, 0, 320), (19, 0, 2, 0, 322), (22, 0, 3, 0, 323), (25, 0, 4, 0, 324)],
  [(69, 6, 1, 1, 120), (64, 6, 5, 1, 138), (60, 5, 0, 1, 161), (88, 5, 1, 1, 163), (73, 5, 10, 1, 181), (26, 1, 0, 0, 223), (9, 1, 1, 0, 225), (15, 1, 2, 0, 226), (18, 1, 3, 0, 228)],
  [(83, 5, 10, 1, 180), (90, 5, 11, 1, 184), (13, 2, 0, 0, 248), (17, 2, 1, 0, 249), (21, 2, 2, 0, 250), (24, 2, 3, 0, 252), (28, 2, 4, 0, 253), (31, 2, 5, 0, 255), (34, 2, 6, 0, 257), (37, 2, 7, 0, 259)],
  [(9, 3, 0, 0, 341), (15, 3, 1, 0, 343), (19, 3, 2, 0, 345)],
  [(79, 6, 1, 1, 119), (82, 6, 4, 1, 132), (100, 6, 5, 1, 137), (43, 5, 0, 1, 160), (114, 5, 1, 1, 164), (117, 5, 2, 1, 167), (17, 4, 0, 0, 288), (23, 4, 1, 0, 290), (27, 4, 2, 0, 291), (31, 4, 3, 0, 292), (34, 4, 4, 0, 293), (37, 4, 5, 0, 294), (40, 4, 6, 0, 296), (53, 3, 2, 1, 346)],
  [(102, 6, 0, 1, 117), (111, 6, 1, 1, 122), (59, 6, 2, 1, 124), (67, 6, 3, 1, 128), (76, 6, 4, 1, 133), (64, 6, 5, 1, 136), (49, 5, 0, 0, 159), (9, 5, 1, 0, 162), (15, 5, 2, 0, 166), (19, 5, 3, 0, 169), (22, 5, 4, 0, 171), (25, 5, 5, 0, 173), (28, 5, 6, 0, 174), (31, 5, 7, 0, 176), (34, 5, 8, 0, 177), (37, 5, 9, 0, 178), (40, 5, 10, 0, 179), (43, 5, 11, 0, 183), (46, 5, 12, 0, 186)],
  [(9, 6, 0, 0, 115), (15, 6, 1, 0, 118), (18, 6, 2, 0, 123), (21, 6, 3, 0, 127), (24, 6, 4, 0, 131), (28, 6, 5, 0, 135)],
  [(165, 6, 0, 1, 116), (168, 6, 1, 1, 121), (127, 6, 2, 1, 126), (171, 6, 3, 1, 130), (146, 6, 4, 1, 134), (153, 6, 5, 1, 139), (30, 5, 0, 1, 158), (143, 5, 1, 1, 165), (174, 5, 2, 1, 168), (307, 5, 3, 1, 170), (277, 5, 4, 1, 172), (304, 5, 6, 1, 175), (221, 5, 10, 1, 182), (230, 5, 11, 1, 185), (310, 5, 12, 1, 187), (246, 1, 0, 1, 224), (250, 1, 2, 1, 227), (247, 1, 3, 1, 229), (233, 2, 2, 1, 251), (215, 2, 4, 1, 254), (218, 2, 5, 1, 256), (224, 2, 6, 1, 258), (227, 2, 7, 1, 260), (196, 4, 0, 1, 289), (205, 4, 5, 1, 295), (193, 4, 6, 1, 297), (326, 0, 1, 1, 321), (108, 3, 0, 1, 342), (121, 3, 1, 1, 344), (280, 3, 2, 1, 347), (11, 7, 0, 0, 356), (23, 7, 1, 0, 357), (27, 7, 2, 0, 358), (34, 7, 3, 0, 359), (40, 7, 4, 0, 360), (47, 7, 5, 0, 361), (54, 7, 6, 0, 362), (61, 7, 7, 0, 363), (65, 7, 8, 0, 364), (69, 7, 9, 0, 365), (73, 7, 10, 0, 366)],
  [(108, 8, 0, 0, 976), (105, 8, 1, 0, 977), (9, 8, 2, 0, 978), (13, 8, 3, 0, 979), (16, 8, 4, 0, 980), (19, 8, 5, 0, 981), (204, 8, 6, 0, 982), (22, 8, 7, 0, 983), (25, 8, 8, 0, 984), (28, 8, 9, 0, 985), (207, 8, 10, 0, 986), (210, 8, 11, 0, 987), (31, 8, 12, 0, 988), (34, 8, 13, 0, 989), (37, 8, 14, 0, 990), (41, 8, 15, 0, 991), (44, 8, 16, 0, 992), (47, 8, 17, 0, 993), (50, 8, 18, 0, 994), (53, 8, 19, 0, 995), (56, 8, 20, 0, 996), (59, 8, 21, 0, 997), (62, 8, 22, 0, 998), (65, 8, 23, 0, 999), (68, 8, 24, 0, 1000), (72, 8, 25, 0, 1001), (75, 8, 26, 0, 1002), (78, 8, 27, 0, 1003), (81, 8, 28, 0, 1004), (168, 8, 29, 0, 1005), (162, 8, 30, 0, 1006), (165, 8, 31, 0, 1007), (171, 8, 32, 0, 1008), (159, 8, 33, 0, 1009), (84, 8, 34, 0, 1010), (87, 8, 35, 0, 1011), (90, 8, 36, 0, 1012), (93, 8, 37, 0, 1013), (96, 8, 38, 0, 1014), (99, 8, 39, 0, 1015), (229, 8, 40, 0, 1016), (232, 8, 41, 0, 1017), (235, 8, 42, 0, 1018), (238, 8, 43, 0, 1019), (248, 8, 44, 0, 1020), (257, 8, 45, 0, 1021), (254, 8, 46, 0, 1022), (269, 8, 47, 0, 1023), (272, 8, 48, 0, 1024), (275, 8, 49, 0, 1025), (102, 8, 50, 0, 1026), (303, 8, 51, 0, 1027), (318, 8, 52, 0, 1028)],
  [],
  [],
  [],
  [],
  [],
  []]
def zx_lM : List (List (Nat × Nat × Nat × Nat)) := [[(28, 1, 0, 937), (39, 4, 0, 938), (43, 115, 1, 942), (53, 5, 0, 946)],
  [(23, 42, 0, 222), (30, 43, 0, 798), (34, 49, 0, 799), (38, 9, 0, 804), (42, 47, 0, 808), (46, 10, 0, 809), (76, 52, 0, 813), (79, 11, 0, 814), (85, 53, 0, 818), (82, 12, 0, 819), (50, 56, 0, 823), (54, 212, 0, 824)],
  [(40, 42, 0, 247), (43, 213, 0, 761), (49, 43, 0, 762), (53, 49, 0, 763), (57, 15, 0, 767), (61, 16, 0, 771), (65, 47, 0, 775), (69, 52, 0, 776), (73, 56, 0, 777), (77, 212, 0, 778), (80, 17, 0, 779), (86, 119, 1, 783)],
  [],
  [(13, 62, 1, 286), (14, 42, 0, 287), (47, 63, 0, 548), (50, 43, 0, 553), (56, 24, 0, 558), (60, 27, 0, 562), (67, 35, 0, 566), (136, 36, 0, 570), (139, 38, 0, 574), (148, 37, 0, 589), (143, 214, 0, 593), (152, 215, 0, 603), (71, 28, 0, 641), (75, 29, 0, 645), (103, 40, 0, 649), (63, 39, 0, 653), (178, 41, 0, 657), (107, 66, 0, 661), (85, 30, 0, 662), (111, 44, 0, 666), (88, 31, 0, 667), (91, 32, 0, 671), (94, 33, 0, 675), (120, 52, 0, 679), (123, 56, 0, 702), (97, 34, 0, 726), (132, 46, 0, 732)],
  [(70, 213, 0, 529), (85, 54, 0, 683), (99, 47, 0, 687), (105, 48, 0, 691), (89, 55, 0, 692), (92, 53, 0, 696), (96, 65, 0, 700), (108, 51, 0, 701), (114, 57, 0, 706), (124, 59, 0, 710), (127, 118, 1, 714), (79, 212, 0, 715), (117, 60, 0, 718), (120, 58, 0, 722)],
  [],
  [(19, 62, 1, 111), (20, 42, 0, 154), (39, 6, 0, 217), (46, 13, 0, 241), (53, 25, 1, 280), (60, 0, 1, 315), (77, 18, 1, 337), (78, 114, 0, 394), (82, 109, 0, 397), (86, 22, 0, 401), (90, 111, 0, 409), (323, 19, 0, 413), (93, 20, 0, 417), (96, 23, 0, 421), (100, 112, 0, 429), (104, 21, 0, 433), (118, 65, 0, 448), (124, 115, 0, 460), (130, 117, 0, 463), (133, 118, 0, 468), (136, 48, 0, 471), (140, 51, 0, 475), (149, 66, 0, 485), (156, 44, 0, 493), (159, 64, 0, 501), (162, 110, 0, 505), (183, 45, 0, 521), (186, 46, 0, 525), (189, 26, 0, 544), (199, 63, 0, 733), (202, 43, 0, 734), (208, 52, 0, 748), (211, 14, 0, 757), (236, 116, 0, 791), (239, 7, 0, 794), (242, 8, 0, 800), (253, 119, 0, 829), (257, 50, 0, 838), (261, 9, 0, 842), (264, 56, 0, 847), (267, 113, 0, 856), (270, 121, 0, 860), (332, 24, 0, 864), (274, 49, 0, 869), (283, 122, 0, 878), (287, 123, 0, 885), (335, 47, 0, 889), (290, 86, 0, 902), (293, 211, 0, 903), (298, 61, 0, 909), (301, 120, 0, 914), (313, 1, 0, 929), (316, 2, 0, 933), (320, 3, 0, 954)],
  [(111, 127, 0, 1140), (115, 125, 0, 1144), (119, 128, 0, 1164), (122, 164, 0, 1176), (126, 165, 0, 1180), (133, 140, 0, 1188), (136, 141, 0, 1196), (139, 129, 0, 1204), (142, 126, 0, 1208), (152, 146, 0, 1220), (156, 149, 0, 1224), (145, 147, 0, 1228), (148, 148, 0, 1232), (130, 137, 0, 1248), (213, 161, 0, 1252), (200, 160, 0, 1256), (217, 159, 0, 1260), (183, 154, 0, 1264), (177, 153, 0, 1268), (186, 155, 0, 1272), (190, 157, 0, 1276), (174, 156, 0, 1280), (193, 158, 0, 1284), (180, 167, 0, 1288), (220, 166, 0, 1292), (196, 169, 0, 1296), (223, 168, 0, 1300), (241, 170, 0, 1324), (244, 174, 0, 1328), (226, 173, 0, 1332), (278, 180, 0, 1337), (281, 181, 0, 1341), (263, 178, 0, 1345), (266, 179, 0, 1349), (260, 177, 0, 1353), (251, 176, 0, 1357), (284, 182, 0, 1361), (293, 190, 0, 1389), (290, 139, 0, 1393), (296, 189, 0, 1397), (287, 138, 0, 1401), (300, 198, 0, 1433), (309, 203, 0, 1450), (306, 202, 0, 1454), (312, 204, 0, 1458), (315, 205, 0, 1462)],
  [],
  [],
  [(335, 216, 0, 597), (492, 217, 0, 607), (495, 219, 0, 611), (1059, 220, 0, 619)],
  [(9, 218, 0, 614)],
  [],
  [(9, 67, 0, 99), (13, 68, 0, 390), (20, 69, 0, 405), (25, 70, 0, 425), (30, 71, 0, 440), (35, 72, 0, 444), (40, 73, 0, 452), (45, 74, 0, 456), (49, 75, 0, 481), (54, 76, 0, 489), (58, 77, 0, 497), (62, 78, 0, 509), (66, 79, 0, 513), (70, 80, 0, 532), (74, 81, 0, 536), (78, 82, 0, 540), (82, 83, 0, 736), (87, 84, 0, 740), (91, 85, 0, 744), (95, 86, 0, 749), (99, 87, 0, 753), (103, 88, 0, 787), (107, 89, 0, 825), (111, 90, 0, 830), (115, 91, 0, 834), (119, 92, 0, 843), (123, 93, 0, 848), (127, 94, 0, 852), (131, 95, 0, 865), (135, 96, 0, 870), (139, 97, 0, 874), (143, 98, 0, 881), (147, 99, 0, 890), (151, 100, 0, 894), (155, 101, 0, 898), (159, 102, 0, 917), (163, 103, 0, 921), (167, 104, 0, 925), (171, 105, 0, 950), (175, 106, 0, 958), (179, 107, 0, 962), (183, 108, 0, 966), (12, 124, 0, 972), (17, 130, 0, 1136), (24, 131, 0, 1148), (29, 132, 0, 1152), (34, 133, 0, 1156), (39, 134, 0, 1160), (44, 135, 0, 1168), (48, 136, 0, 1172), (53, 142, 0, 1184), (57, 143, 0, 1192), (61, 144, 0, 1200), (65, 145, 0, 1212), (69, 150, 0, 1216), (73, 151, 0, 1236), (77, 152, 0, 1240), (81, 162, 0, 1244), (86, 163, 0, 1304), (90, 171, 0, 1308), (94, 172, 0, 1312), (98, 173, 0, 1316), (102, 175, 0, 1320), (106, 183, 0, 1333), (110, 184, 0, 1365), (114, 185, 0, 1369), (118, 186, 0, 1373), (122, 187, 0, 1377), (126, 188, 0, 1381), (130, 191, 0, 1385), (134, 192, 0, 1405), (138, 193, 0, 1409), (142, 194, 0, 1413), (146, 195, 0, 1417), (150, 196, 0, 1421), (154, 197, 0, 1425), (158, 199, 0, 1429), (162, 200, 0, 1438), (166, 201, 0, 1442), (170, 206, 0, 1446), (174, 207, 0, 1466), (178, 208, 0, 1470), (182, 209, 0, 1474), (186, 210, 0, 1478)]]
def zx_lC : List (List (Nat × Nat × Nat)) := [[],
  [(21, 5, 221)],
  [(11, 5, 245)],
  [],
  [(9, 5, 284), (11, 6, 285)],
  [],
  [],
  [(9, 3, 105), (15, 5, 107), (17, 6, 109), (37, 1, 215), (44, 2, 239), (51, 4, 278), (58, 0, 313)],
  [],
  [],
  [],
  [],
  [],
  [],
  [(7, 7, 97), (10, 8, 970)]]
def zx_lI : List (List (Nat × Int32 × Nat)) := [[],
  [],
  [],
  [],
  [],
  [(131, (1103515245 : Int32), 913)],
  [],
  [],
  [(299, (1103515245 : Int32), 1437)],
  [(265, (1431655765 : Int32), 906), (266, (858993459 : Int32), 907), (267, (252645135 : Int32), 908)],
  [],
  [],
  [],
  [],
  []]
def zx_lL : List (List (Nat × Int64 × Nat)) := [[],
  [],
  [],
  [],
  [],
  [],
  [],
  [],
  [],
  [],
  [],
  [],
  [],
  [],
  [(18, (4294967295 : Int64), 1482)]]
def zx_lS : List (List (Nat × Nat)) := [[],
  [],
  [],
  [],
  [(156, 0), (158, 1), (160, 2), (162, 3), (164, 4), (165, 5), (166, 6), (168, 7), (170, 8), (172, 9), (174, 10), (176, 11)],
  [],
  [],
  [],
  [],
  [],
  [],
  [],
  [],
  [],
  []]
def zx_lG : List (List (Nat × Nat × Nat × Nat)) := [[(47, 4, 0, 943), (50, 0, 1, 945)],
  [],
  [],
  [],
  [(126, 2, 1, 730), (129, 3, 1, 731)],
  [(82, 1, 1, 479)],
  [],
  [(329, 0, 0, 466), (177, 2, 0, 517), (180, 3, 0, 519)],
  [],
  [],
  [],
  [(38, 5, 0, 601), (1053, 6, 0, 617)],
  [],
  [],
  []]
def zx_lA : List (List (Nat × Nat)) := [[],
  [],
  [(93, 786)],
  [],
  [],
  [(53, 557)],
  [(31, 552)],
  [(112, 437)],
  [],
  [],
  [],
  [],
  [],
  [],
  []]
def zx_lO : List (List (Nat × Nat)) := [[(3, 318)],
  [(3, 220)],
  [(3, 244)],
  [(3, 340)],
  [(3, 283)],
  [(3, 157)],
  [(3, 114)],
  [(1, 102)],
  [(1, 975)],
  [],
  [],
  [],
  [],
  [],
  []]
def zx_lK : List (List (Nat × Nat × Nat)) := [[],
  [],
  [],
  [],
  [],
  [],
  [],
  [],
  [],
  [],
  [],
  [(9, 0, 1483), (15, 1, 1484)],
  [],
  [],
  []]
def zx_st : List (String × Nat × Nat) := [("up", 156, 577), ("down", 158, 578), ("stile", 160, 579), ("person", 162, 580), ("tired", 164, 581), ("bag", 165, 582), ("act", 166, 583), ("legs", 168, 584), ("nap", 170, 585), ("worn", 172, 586), ("biscuits", 174, 587), ("races", 176, 588)]
def zx_sa : List (List Int32) := [[-1, 0, 0, 1, 0, 2, 4], [0, -1, 1, -2, 2, 0, 2], [1, 1, 1, 0, 0], [9, 9, 99, 9, 9], [10, 11, 12, 20, 0, 0, 0, 30, 0, 0, 40, 0, 51, 0, 50, 0, 0, 60, 70, 71, 0]]
def zx_sl : List Nat := [2, 4, 5, 6, 5, 3, 3, 4, 3, 4, 8, 5]
def zx_sb : List (List Int32) := [[117, 112], [100, 111, 119, 110], [115, 116, 105, 108, 101], [112, 101, 114, 115, 111, 110], [116, 105, 114, 101, 100], [98, 97, 103], [97, 99, 116], [108, 101, 103, 115], [110, 97, 112], [119, 111, 114, 110], [98, 105, 115, 99, 117, 105, 116, 115], [114, 97, 99, 101, 115]]
def zx_sn : List (String × String × String) := [("CarriedAsFarAsTheStile", "KIND_ABOVE", "[I"), ("CarriedAsFarAsTheStile", "LOAD_MORE", "[I"), ("CarriedAsFarAsTheStile", "ASKED_LOWEST", "[I"), ("CarriedAsFarAsTheStile", "ASKED_HIGHEST", "[I"), ("CarriedAsFarAsTheStile$Moves", "BODIES", "[I"), ("java/lang/String", "COMPACT_STRINGS", "Z"), ("jdk/internal/util/Preconditions", "SIOOBE_FORMATTER", "Ljava/util/function/BiFunction;")]
def zx_pI : List (Nat × Nat) := [(314, 87), (216, 84), (240, 85), (336, 88), (279, 86), (108, 82), (110, 83), (98, 81), (971, 89)]
end
section
/-! part 03: a small machine over numbers of cells: values, cells, states, one step (zx_stp), runs (zx_ex) -/
abbrev zx_V : Type := Int32 ⊕ Int64 ⊕ (Nat × Nat)
abbrev zx_A : Type := List Int32 ⊕ List Int64 ⊕ List (Option Nat)
abbrev zx_C : Type := (Nat × List zx_V) ⊕ (Nat × zx_A)
def zx_an1 : zx_A → Nat
  | .inl f => f.length
  | .inr (.inl f) => f.length
  | .inr (.inr f) => f.length
abbrev zx_S : Type := Nat × List (Option zx_V) × List zx_V × List zx_C × Nat × Nat
abbrev zx_R : Type := Option zx_V × List zx_C × Nat × Nat
abbrev zx_Sc : Type := Option (Nat × (Nat → Int32))
abbrev zx_T : Type := Option (zx_S ⊕ zx_R)
def zx_m0 : zx_MT := (0, yX0_init, cX0_init, 1, none, 0, 2)
def zx_m (k : Nat) : zx_MT := (zx_ml[k]?).getD zx_m0
abbrev zx_mo (t : zx_MT) : Nat := t.1
abbrev zx_my (t : zx_MT) : MethodName := t.2.1
abbrev zx_mb (t : zx_MT) : ByteArray := t.2.2.1
abbrev zx_mn (t : zx_MT) : Nat := t.2.2.2.1
abbrev zx_mr (t : zx_MT) : Option FieldType := t.2.2.2.2.1
abbrev zx_mp (t : zx_MT) : Nat := t.2.2.2.2.2.1
abbrev zx_mk (t : zx_MT) : Nat := t.2.2.2.2.2.2
def zx_lk {α : Type} (l : List (List (Nat × α))) (o i : Nat) : Option α := match l[o]? with
  | some r => r.lookup i
  | none => none
-- what a value is: 0 int, 1 long, 2 a reference
def zx_kd : zx_V → Nat
  | .inl _ => 0
  | .inr (.inl _) => 1
  | .inr (.inr _) => 2
def zx_c1 : zx_V → Bool
  | .inr (.inl _) => false
  | _ => true
def zx_cs : List zx_V → Nat
  | [] => 0
  | v :: r => (if zx_c1 v then 1 else 2) + zx_cs r
def zx_vl (n : Nat) : zx_V → Bool
  | .inr (.inr (1, i)) => decide (i < n)
  | _ => true
def zx_vo (n : Nat) : Option zx_V → Bool
  | some v => zx_vl n v
  | none => true
def zx_vc (n : Nat) : zx_C → Bool
  | .inl (_, fs) => fs.all (zx_vl n)
  | .inr (_, .inr (.inr f)) => f.all (fun j => match j with | some i => decide (i < n) | none => true)
  | _ => true
def zx_rf : Option Nat → zx_V
  | none => .inr (.inr (0, 0))
  | some i => .inr (.inr (1, i))
def zx_N (pc : Nat) (L : List (Option zx_V)) (S : List zx_V) (h : List zx_C) (nc ns : Nat) : zx_T := some (.inl (pc, L, S, h, nc, ns))
def zx_J (pc : Nat) (off : Int) (L : List (Option zx_V)) (S : List zx_V) (h : List zx_C) (nc ns : Nat) : zx_T := if 0 ≤ (pc : Int) + off then zx_N ((pc : Int) + off).toNat L S h nc ns else none
def zx_cl1 (L : List (Option zx_V)) : Nat → List (Option zx_V)
  | 0 => L
  | i + 1 => match L[i]? with
    | some (some (.inr (.inl _))) => L.set i none
    | _ => L
def zx_ld (ty i n pc : Nat) (L : List (Option zx_V)) (S : List zx_V) (h : List zx_C) (nc ns : Nat) : zx_T := match L[i]? with
  | some (some v) => if zx_kd v = ty then zx_N (pc + n) L (v :: S) h nc ns else none
  | _ => none
def zx_sto (ty i n pc : Nat) (L : List (Option zx_V)) (S : List zx_V) (h : List zx_C) (nc ns : Nat) : zx_T := match S with
  | v :: r => if zx_kd v = ty ∧ zx_c1 v = true ∧ i < L.length then zx_N (pc + n) ((zx_cl1 L i).set i (some v)) r h nc ns else none
  | _ => none
def zx_stl (i n pc : Nat) (L : List (Option zx_V)) (S : List zx_V) (h : List zx_C) (nc ns : Nat) : zx_T := match S with
  | .inr (.inl x) :: r => if i + 1 < L.length then zx_N (pc + n) (((zx_cl1 L i).set i (some (.inr (.inl x)))).set (i + 1) none) r h nc ns else none
  | _ => none
def zx_iinc (i : Nat) (z : Int) (pc : Nat) (L : List (Option zx_V)) (S : List zx_V) (h : List zx_C) (nc ns : Nat) : zx_T := match L[i]? with
  | some (some (.inl x)) => zx_N (pc + 3) ((zx_cl1 L i).set i (some (.inl (x + Int32.ofInt z)))) S h nc ns
  | _ => none
def zx_b2 : Instr → Int32 → Int32 → Option Int32
  | .iadd, x, y => some (x + y)
  | .isub, x, y => some (x - y)
  | .imul, x, y => some (x * y)
  | .iand, x, y => some (x &&& y)
  | .ior, x, y => some (x ||| y)
  | .ixor, x, y => some (x ^^^ y)
  | .ishl, x, y => some (x <<< (y &&& 31))
  | .ishr, x, y => some (x >>> (y &&& 31))
  | .iushr, x, y => some (x.toUInt32 >>> (y.toUInt32 &&& Int32.toUInt32 31)).toInt32
  | .idiv, x, y => if y = 0 then none else some (x / y)
  | .irem, x, y => if y = 0 then none else some (x - x / y * y)
  | _, _, _ => none
def zx_bin (ins : Instr) (pc : Nat) (L : List (Option zx_V)) (S : List zx_V) (h : List zx_C) (nc ns : Nat) : zx_T := match S with
  | .inl y :: .inl x :: r => match zx_b2 ins x y with
    | some z => zx_N (pc + 1) L (.inl z :: r) h nc ns
    | none => none
  | _ => none
def zx_b1 : Instr → Int32 → Option Int32
  | .ineg, x => some (-x)
  | .i2b, x => some x.toInt8.toInt32
  | .i2s, x => some x.toInt16.toInt32
  | .i2c, x => some (x.toUInt32 % 65536).toInt32
  | _, _ => none
def zx_un (ins : Instr) (pc : Nat) (L : List (Option zx_V)) (S : List zx_V) (h : List zx_C) (nc ns : Nat) : zx_T := match S with
  | .inl x :: r => match zx_b1 ins x with
    | some z => zx_N (pc + 1) L (.inl z :: r) h nc ns
    | none => none
  | _ => none
def zx_lng (ins : Instr) (pc : Nat) (L : List (Option zx_V)) (S : List zx_V) (h : List zx_C) (nc ns : Nat) : zx_T := match ins, S with
  | .i2l, .inl x :: r => zx_N (pc + 1) L (.inr (.inl x.toInt64) :: r) h nc ns
  | .l2i, .inr (.inl x) :: r => zx_N (pc + 1) L (.inl x.toInt32 :: r) h nc ns
  | .land, .inr (.inl y) :: .inr (.inl x) :: r => zx_N (pc + 1) L (.inr (.inl (x &&& y)) :: r) h nc ns
  | .lor, .inr (.inl y) :: .inr (.inl x) :: r => zx_N (pc + 1) L (.inr (.inl (x ||| y)) :: r) h nc ns
  | .lshl, .inl y :: .inr (.inl x) :: r => zx_N (pc + 1) L (.inr (.inl (x <<< (y.toInt64 &&& 63))) :: r) h nc ns
  | _, _ => none
def zx_stk (ins : Instr) (pc : Nat) (L : List (Option zx_V)) (S : List zx_V) (h : List zx_C) (nc ns : Nat) : zx_T := match ins, S with
  | .dup, a :: r => if zx_c1 a = true then zx_N (pc + 1) L (a :: a :: r) h nc ns else none
  | .pop, a :: r => if zx_c1 a = true then zx_N (pc + 1) L r h nc ns else none
  | .dup_x1, a :: b :: r => if zx_c1 a = true ∧ zx_c1 b = true then zx_N (pc + 1) L (a :: b :: a :: r) h nc ns else none
  | .dup2, a :: b :: r => if zx_c1 a = true ∧ zx_c1 b = true then zx_N (pc + 1) L (a :: b :: a :: b :: r) h nc ns else none
  | .pop2, a :: r => if zx_c1 a = true then none else zx_N (pc + 1) L r h nc ns
  | _, _ => none
def zx_cb : ClassFile.Cond → Int32 → Int32 → Bool
  | .eq, x, y => decide (x = y)
  | .ne, x, y => decide (¬ x = y)
  | .lt, x, y => decide (x < y)
  | .ge, x, y => decide (y ≤ x)
  | .gt, x, y => decide (y < x)
  | .le, x, y => decide (x ≤ y)
def zx_br (t : Bool) (off : Int) (pc : Nat) (L : List (Option zx_V)) (S : List zx_V) (h : List zx_C) (nc ns : Nat) : zx_T := if 0 ≤ (pc : Int) + off then (if t = true then zx_N ((pc : Int) + off).toNat L S h nc ns else zx_N (pc + 3) L S h nc ns) else none
def zx_if1 (c : ClassFile.Cond) (off : Int) (pc : Nat) (L : List (Option zx_V)) (S : List zx_V) (h : List zx_C) (nc ns : Nat) : zx_T := match S with
  | .inl x :: r => zx_br (zx_cb c x 0) off pc L r h nc ns
  | _ => none
def zx_if2 (c : ClassFile.Cond) (off : Int) (pc : Nat) (L : List (Option zx_V)) (S : List zx_V) (h : List zx_C) (nc ns : Nat) : zx_T := match S with
  | .inl y :: .inl x :: r => zx_br (zx_cb c x y) off pc L r h nc ns
  | _ => none
def zx_tsw (dflt lo hi : Int) (offs : Array Int) (pc : Nat) (L : List (Option zx_V)) (S : List zx_V) (h : List zx_C) (nc ns : Nat) : zx_T := match S with
  | .inl x :: r => if x.toInt < lo ∨ hi < x.toInt then zx_J pc dflt L r h nc ns else match offs[(x.toInt - lo).toNat]? with
    | some off => zx_J pc off L r h nc ns
    | none => none
  | _ => none
def zx_lsw (dflt : Int) (ps : Array (Int × Int)) (pc : Nat) (L : List (Option zx_V)) (S : List zx_V) (h : List zx_C) (nc ns : Nat) : zx_T := match S with
  | .inl x :: r => if (ps.toList.zip (ps.toList.drop 1)).all (fun (a, next) => a.1 < next.1) = true then zx_J pc (Op.lookupswitch.offset ps.toList dflt x.toInt) L r h nc ns else none
  | _ => none
-- fields
def zx_T8 : Nat → u_T
  | 0 => TX0 | 1 => TX1 | 2 => TX2 | 3 => TX3 | 4 => TX4 | 5 => TX5 | 6 => TX6 | 7 => TX7 | _ => TX8
def zx_ft : Nat → Nat → FieldType
  | 0 => tyX0 | 1 => tyX1 | 2 => tyX2 | 3 => tyX3 | 4 => tyX4 | 5 => tyX5 | 6 => tyX6 | 7 => tyX7 | _ => tyX8
def zx_fn : Nat → Nat
  | 0 => 5 | 1 => 4 | 2 => 8 | 3 => 3 | 4 => 7 | 5 => 13 | 6 => 6 | 7 => 11 | _ => 53
def zx_R9 : Nat → String
  | 0 => RX0 | 1 => RX1 | 2 => RX2 | 3 => RX3 | 4 => RX4 | 5 => RX5 | 6 => RX6 | 7 => RX7 | _ => RX8
def zx_fit : FieldType → zx_V → Bool
  | .int, .inl _ => true
  | .boolean, .inl x => decide (x = 0 ∨ x = 1)
  | .array _, .inr (.inr (1, _)) => true
  | .object _, .inr (.inr (1, _)) => true
  | _, _ => false
def zx_df : FieldType → zx_V
  | .int => .inl 0
  | .boolean => .inl 0
  | .long => .inr (.inl 0)
  | _ => .inr (.inr (0, 0))
def zx_gf (o ix pc : Nat) (L : List (Option zx_V)) (S : List zx_V) (h : List zx_C) (nc ns : Nat) : zx_T := match S with
  | .inr (.inr (1, a)) :: r => match zx_lk zx_lF o ix, h[a]? with
    | some (ci, k, _), some (.inl (ci', fs)) => if ci' = ci then (match fs[k]? with
      | some v => zx_N (pc + 3) L (v :: r) h nc ns
      | none => none) else none
    | _, _ => none
  | .inr (.inr (2, a)) :: r => if a < 12 then (match zx_lk zx_lK o ix with
    | some (0, _) => zx_N (pc + 3) L (.inr (.inr (3, a)) :: r) h nc ns
    | some (1, _) => zx_N (pc + 3) L (.inl 0 :: r) h nc ns
    | _ => none) else none
  | _ => none
def zx_pf (o kd ix pc : Nat) (L : List (Option zx_V)) (S : List zx_V) (h : List zx_C) (nc ns : Nat) : zx_T := match S with
  | v :: .inr (.inr (1, a)) :: r => match zx_lk zx_lF o ix, h[a]? with
    | some (ci, k, nest, _), some (.inl (ci', fs)) => if ci' = ci ∧ k < fs.length ∧ zx_fit (zx_ft ci k) v = true ∧ ((zx_T8 ci k).2.2.2 = false ∨ (nest = 0 ∧ kd = 2 ∧ ci = o)) then zx_N (pc + 3) L r (h.set a (.inl (ci, fs.set k v))) nc ns else none
    | _, _ => none
  | _ => none
-- statics
def zx_gs (o ix pc : Nat) (L : List (Option zx_V)) (S : List zx_V) (h : List zx_C) (nc ns : Nat) : zx_T := match zx_lk zx_lG o ix with
  | some (g, _) => if g < 5 then zx_N (pc + 3) L (.inr (.inr (4, g)) :: S) h nc ns else if g = 5 then zx_N (pc + 3) L (.inl 1 :: S) h nc ns else if g = 6 then zx_N (pc + 3) L (.inr (.inr (6, 0)) :: S) h nc ns else none
  | none => none
-- rows
def zx_al (sc : zx_Sc) (pc : Nat) (L : List (Option zx_V)) (S : List zx_V) (h : List zx_C) (nc ns : Nat) : zx_T := match S with
  | .inr (.inr (1, a)) :: r => match h[a]? with
    | some (.inr (t0, z)) => if t0 < 4 then zx_N (pc + 1) L (.inl (Int32.ofNat (zx_an1 z)) :: r) h nc ns else none
    | _ => none
  | .inr (.inr (3, a)) :: r => if a < 12 then zx_N (pc + 1) L (.inl (Int32.ofNat (zx_sl.getD a 0)) :: r) h nc ns else none
  | .inr (.inr (5, 0)) :: r => match sc with
    | some q => zx_N (pc + 1) L (.inl (Int32.ofNat q.1) :: r) h nc ns
    | none => none
  | _ => none
def zx_ial (sc : zx_Sc) (pc : Nat) (L : List (Option zx_V)) (S : List zx_V) (h : List zx_C) (nc ns : Nat) : zx_T := match S with
  | .inl i :: .inr (.inr (1, a)) :: r => match h[a]? with
    | some (.inr (0, .inl f)) => if ¬ i < 0 ∧ i.toNatClampNeg < f.length then zx_N (pc + 1) L (.inl (f.getD i.toNatClampNeg 0) :: r) h nc ns else none
    | _ => none
  | .inl i :: .inr (.inr (4, a)) :: r => if a < 5 ∧ ¬ i < 0 ∧ i.toNatClampNeg < (zx_sa.getD a []).length then zx_N (pc + 1) L (.inl ((zx_sa.getD a []).getD i.toNatClampNeg 0) :: r) h nc ns else none
  | .inl i :: .inr (.inr (5, 0)) :: r => match sc with
    | some q => if ¬ i < 0 ∧ i.toNatClampNeg < q.1 then zx_N (pc + 1) L (.inl (q.2 i.toNatClampNeg) :: r) h nc ns else none
    | none => none
  | _ => none
def zx_ias (pc : Nat) (L : List (Option zx_V)) (S : List zx_V) (h : List zx_C) (nc ns : Nat) : zx_T := match S with
  | .inl x :: .inl i :: .inr (.inr (1, a)) :: r => match h[a]? with
    | some (.inr (0, .inl f)) => if ¬ i < 0 ∧ i.toNatClampNeg < f.length then zx_N (pc + 1) L r (h.set a (.inr (0, .inl (f.set i.toNatClampNeg x)))) nc ns else none
    | _ => none
  | _ => none
def zx_lal (pc : Nat) (L : List (Option zx_V)) (S : List zx_V) (h : List zx_C) (nc ns : Nat) : zx_T := match S with
  | .inl i :: .inr (.inr (1, a)) :: r => match h[a]? with
    | some (.inr (1, .inr (.inl f))) => if ¬ i < 0 ∧ i.toNatClampNeg < f.length then zx_N (pc + 1) L (.inr (.inl (f.getD i.toNatClampNeg 0)) :: r) h nc ns else none
    | _ => none
  | _ => none
def zx_las (pc : Nat) (L : List (Option zx_V)) (S : List zx_V) (h : List zx_C) (nc ns : Nat) : zx_T := match S with
  | .inr (.inl x) :: .inl i :: .inr (.inr (1, a)) :: r => match h[a]? with
    | some (.inr (1, .inr (.inl f))) => if ¬ i < 0 ∧ i.toNatClampNeg < f.length then zx_N (pc + 1) L r (h.set a (.inr (1, .inr (.inl (f.set i.toNatClampNeg x))))) nc ns else none
    | _ => none
  | _ => none
def zx_bal (pc : Nat) (L : List (Option zx_V)) (S : List zx_V) (h : List zx_C) (nc ns : Nat) : zx_T := match S with
  | .inl i :: .inr (.inr (3, a)) :: r => if a < 12 ∧ ¬ i < 0 ∧ i.toNatClampNeg < zx_sl.getD a 0 then zx_N (pc + 1) L (.inl ((zx_sb.getD a []).getD i.toNatClampNeg 0) :: r) h nc ns else none
  | _ => none
def zx_aal (pc : Nat) (L : List (Option zx_V)) (S : List zx_V) (h : List zx_C) (nc ns : Nat) : zx_T := match S with
  | .inl i :: .inr (.inr (1, a)) :: r => match h[a]? with
    | some (.inr (t0, .inr (.inr f))) => if (t0 = 2 ∨ t0 = 3) ∧ ¬ i < 0 ∧ i.toNatClampNeg < f.length then zx_N (pc + 1) L (zx_rf ((f[i.toNatClampNeg]?).getD none) :: r) h nc ns else none
    | _ => none
  | _ => none
def zx_aas (pc : Nat) (L : List (Option zx_V)) (S : List zx_V) (h : List zx_C) (nc ns : Nat) : zx_T := match S with
  | .inr (.inr (1, v)) :: .inl i :: .inr (.inr (1, a)) :: r => match h[a]?, h[v]? with
    | some (.inr (t0, .inr (.inr f))), some (.inl (ci, _)) => if ((t0 = 2 ∧ ci = 3) ∨ (t0 = 3 ∧ ci = 5)) ∧ ¬ i < 0 ∧ i.toNatClampNeg < f.length then zx_N (pc + 1) L r (h.set a (.inr (t0, .inr (.inr (f.set i.toNatClampNeg (some v)))))) nc ns else none
    | _, _ => none
  | _ => none
-- makings
def zx_ok (L : List (Option zx_V)) (S : List zx_V) (h : List zx_C) : Bool := L.all (zx_vo h.length) && (S.all (zx_vl h.length) && h.all (zx_vc h.length))
def zx_new (o ix pc : Nat) (L : List (Option zx_V)) (S : List zx_V) (h : List zx_C) (nc ns : Nat) : zx_T := match zx_lk zx_lC o ix with
  | some (ci, _) => if ci < 9 ∧ zx_ok L S h = true then zx_N (pc + 3) L (.inr (.inr (1, h.length)) :: S) (h ++ [.inl (ci, (List.range (zx_fn ci)).map (fun k => zx_df (zx_ft ci k)))]) (nc + 1) (ns + zx_fn ci) else none
  | none => none
def zx_na (ty : ArrayType) (pc : Nat) (L : List (Option zx_V)) (S : List zx_V) (h : List zx_C) (nc ns : Nat) : zx_T := match S with
  | .inl x :: r => if ¬ x < 0 ∧ x.toNatClampNeg ≤ 100000 ∧ zx_ok L r h = true then (match ty with
    | .int => zx_N (pc + 2) L (.inr (.inr (1, h.length)) :: r) (h ++ [.inr (0, .inl (List.replicate x.toNatClampNeg 0))]) (nc + 1) (ns + x.toNatClampNeg)
    | .long => zx_N (pc + 2) L (.inr (.inr (1, h.length)) :: r) (h ++ [.inr (1, .inr (.inl (List.replicate x.toNatClampNeg 0)))]) (nc + 1) (ns + x.toNatClampNeg)
    | _ => none) else none
  | _ => none
def zx_an (o ix pc : Nat) (L : List (Option zx_V)) (S : List zx_V) (h : List zx_C) (nc ns : Nat) : zx_T := match S with
  | .inl x :: r => if ¬ x < 0 ∧ x.toNatClampNeg ≤ 100000 ∧ zx_ok L r h = true then (match zx_lk zx_lC o ix with
    | some (3, _) => zx_N (pc + 3) L (.inr (.inr (1, h.length)) :: r) (h ++ [.inr (2, .inr (.inr (List.replicate x.toNatClampNeg none)))]) (nc + 1) (ns + x.toNatClampNeg)
    | some (5, _) => zx_N (pc + 3) L (.inr (.inr (1, h.length)) :: r) (h ++ [.inr (3, .inr (.inr (List.replicate x.toNatClampNeg none)))]) (nc + 1) (ns + x.toNatClampNeg)
    | _ => none) else none
  | _ => none
-- constants
def zx_lc (o ix n pc : Nat) (L : List (Option zx_V)) (S : List zx_V) (h : List zx_C) (nc ns : Nat) : zx_T := match zx_lk zx_lI o ix with
  | some (v, _) => zx_N (pc + n) L (.inl v :: S) h nc ns
  | none => if n = 2 then (match zx_lk zx_lS o ix with
    | some i => if o = 4 ∧ i < 12 then zx_N (pc + 2) L (.inr (.inr (2, i)) :: S) h nc ns else none
    | none => none) else none
def zx_lc2 (o ix pc : Nat) (L : List (Option zx_V)) (S : List zx_V) (h : List zx_C) (nc ns : Nat) : zx_T := match zx_lk zx_lL o ix with
  | some (v, _) => zx_N (pc + 3) L (.inr (.inl v) :: S) h nc ns
  | none => none
-- calls
def zx_ret (pc : Nat) (L : List (Option zx_V)) (r : List zx_V) (h : List zx_C) (nc ns : Nat) : Option zx_R → zx_T
  | some (v, h', mc, ms) => if h'.length = h.length ∨ zx_ok L r h = true then zx_N (pc + 3) L (v.toList ++ r) h' (nc + mc) (ns + ms) else none
  | none => none
def zx_iv (run : Nat → List zx_V → List zx_C → Option zx_R) (o ix pc : Nat) (L : List (Option zx_V)) (S : List zx_V) (h : List zx_C) (nc ns : Nat) : zx_T := match zx_lk zx_lM o ix with
  | some (k, _) => if zx_mk (zx_m k) = 0 ∧ k < 221 then (match S.drop (zx_mp (zx_m k)) with
    | .inr (.inr (1, a)) :: r => match h[a]? with
      | some (.inl (ci, _)) => if ci = zx_mo (zx_m k) ∧ ci < 9 ∧ zx_cs r ≤ 8 ∧ zx_mp (zx_m k) ≤ S.length then zx_ret pc L r h nc ns (run k (.inr (.inr (1, a)) :: (S.take (zx_mp (zx_m k))).reverse) h) else none
      | _ => none
    | .inr (.inr (2, a)) :: r => if a < 12 ∧ zx_mo (zx_m k) = 11 ∧ zx_cs r ≤ 8 ∧ zx_mp (zx_m k) ≤ S.length then zx_ret pc L r h nc ns (run k (.inr (.inr (2, a)) :: (S.take (zx_mp (zx_m k))).reverse) h) else none
    | _ => none) else none
  | none => none
/-- n of f from sp on, laid over g from dp on -/
def zx_cpy {α : Type} (f g : List α) (sp dp n : Nat) : List α := g.take dp ++ ((f.drop sp).take n ++ g.drop (dp + n))
def zx_ac (pc : Nat) (L : List (Option zx_V)) (S : List zx_V) (h : List zx_C) (nc ns : Nat) : zx_T := match S with
  | .inl n :: .inl dp :: .inr (.inr (1, b)) :: .inl sp :: .inr (.inr (1, a)) :: r => if zx_cs r ≤ 8 ∧ ¬ sp < 0 ∧ ¬ dp < 0 ∧ ¬ n < 0 then (match h[a]?, h[b]? with
    | some (.inr (0, .inl f)), some (.inr (0, .inl g)) => if sp.toNatClampNeg + n.toNatClampNeg ≤ f.length ∧ dp.toNatClampNeg + n.toNatClampNeg ≤ g.length then zx_N (pc + 3) L r (h.set b (.inr (0, .inl (zx_cpy f g sp.toNatClampNeg dp.toNatClampNeg n.toNatClampNeg)))) nc ns else none
    | some (.inr (1, .inr (.inl f))), some (.inr (1, .inr (.inl g))) => if sp.toNatClampNeg + n.toNatClampNeg ≤ f.length ∧ dp.toNatClampNeg + n.toNatClampNeg ≤ g.length then zx_N (pc + 3) L r (h.set b (.inr (1, .inr (.inl (zx_cpy f g sp.toNatClampNeg dp.toNatClampNeg n.toNatClampNeg))))) nc ns else none
    | _, _ => none) else none
  | _ => none
def zx_is (run : Nat → List zx_V → List zx_C → Option zx_R) (o ix pc : Nat) (L : List (Option zx_V)) (S : List zx_V) (h : List zx_C) (nc ns : Nat) : zx_T := match zx_lk zx_lM o ix with
  | some (k, _) => if zx_mk (zx_m k) = 1 ∧ k < 221 ∧ zx_cs (S.drop (zx_mp (zx_m k))) ≤ 8 ∧ zx_mp (zx_m k) ≤ S.length then zx_ret pc L (S.drop (zx_mp (zx_m k))) h nc ns (run k (S.take (zx_mp (zx_m k))).reverse h) else
    (match S with
    | .inl y :: .inl x :: r => if zx_cs r ≤ 8 ∧ k < 221 then (if zx_mk (zx_m k) = 3 then zx_N (pc + 3) L (.inl (if x < y then y else x) :: r) h nc ns else if zx_mk (zx_m k) = 4 then zx_N (pc + 3) L (.inl (if y < x then y else x) :: r) h nc ns else none) else none
    | _ => none)
  | none => match zx_lk zx_lA o ix with
    | some _ => zx_ac pc L S h nc ns
    | none => none
def zx_ii (run : Nat → List zx_V → List zx_C → Option zx_R) (o ix pc : Nat) (L : List (Option zx_V)) (S : List zx_V) (h : List zx_C) (nc ns : Nat) : zx_T := match zx_lk zx_lM o ix with
  | some (k, _) => if zx_mk (zx_m k) = 2 ∧ k < 221 then (match S.drop (zx_mp (zx_m k)) with
    | .inr (.inr (1, a)) :: r => if zx_cs r ≤ 8 ∧ zx_mp (zx_m k) ≤ S.length then zx_ret pc L r h nc ns (run k (.inr (.inr (1, a)) :: (S.take (zx_mp (zx_m k))).reverse) h) else none
    | _ => none) else none
  | none => match zx_lk zx_lO o ix, S with
    | some _, .inr (.inr (1, _)) :: r => if zx_cs r ≤ 8 then zx_N (pc + 3) L r h nc ns else none
    | _, _ => none
def zx_nr : FieldType → Int32 → Bool
  | .int, _ => true
  | .boolean, x => decide (x = 0 ∨ x = 1)
  | .byte, x => decide (x.toInt8.toInt32 = x)
  | .char, x => decide ((x.toUInt32 % 65536).toInt32 = x)
  | _, _ => false
def zx_ir (mr : Option FieldType) (S : List zx_V) (h : List zx_C) (nc ns : Nat) : zx_T := match mr, S with
  | some ty, [.inl v] => if zx_nr ty v = true then some (.inr (some (.inl v), h, nc, ns)) else none
  | _, _ => none
def zx_lr (mr : Option FieldType) (S : List zx_V) (h : List zx_C) (nc ns : Nat) : zx_T := match mr, S with
  | some .long, [.inr (.inl v)] => some (.inr (some (.inr (.inl v)), h, nc, ns))
  | _, _ => none
def zx_ar (mr : Option FieldType) (S : List zx_V) (h : List zx_C) (nc ns : Nat) : zx_T := match mr, S with
  | some (.object _), [.inr (.inr (2, a))] => some (.inr (some (.inr (.inr (2, a))), h, nc, ns))
  | _, _ => none
def zx_vr (mr : Option FieldType) (S : List zx_V) (h : List zx_C) (nc ns : Nat) : zx_T := match mr, S with
  | none, [] => some (.inr (none, h, nc, ns))
  | _, _ => none
def zx_len : Instr → Nat
  | .bipush _ => 2 | .sipush _ => 3 | .ldc _ => 2 | .ldc_w _ => 3 | .ldc2_w _ => 3
  | .iload _ => 2 | .lload _ => 2 | .aload _ => 2 | .istore _ => 2 | .lstore _ => 2 | .astore _ => 2 | .iinc _ _ => 3
  | .ifCond _ _ => 3 | .if_icmp _ _ => 3 | .goto _ => 3 | .getfield _ => 3 | .putfield _ => 3 | .getstatic _ => 3
  | .new _ => 3 | .newarray _ => 2 | .anewarray _ => 3 | .invokevirtual _ => 3 | .invokestatic _ => 3 | .invokespecial _ => 3
  | _ => 1
def zx_lok : Instr → Nat → Bool
  | .tableswitch .., _ => true
  | .lookupswitch .., _ => true
  | i, n => n == zx_len i
def zx_ins (sc : zx_Sc) (run : Nat → List zx_V → List zx_C → Option zx_R) (t : zx_MT) (ins : Instr) (pc : Nat) (L : List (Option zx_V)) (S : List zx_V) (h : List zx_C) (nc ns : Nat) : zx_T := match ins with
  | .iconst n => zx_N (pc + 1) L (.inl (Int32.ofInt n) :: S) h nc ns
  | .bipush n => zx_N (pc + 2) L (.inl (Int8.ofInt n).toInt32 :: S) h nc ns
  | .sipush n => zx_N (pc + 3) L (.inl (Int16.ofInt n).toInt32 :: S) h nc ns
  | .lconst n => zx_N (pc + 1) L (.inr (.inl (Int64.ofNat (n : Nat))) :: S) h nc ns
  | .ldc ix => zx_lc (zx_mo t) ix 2 pc L S h nc ns
  | .ldc_w ix => zx_lc (zx_mo t) ix 3 pc L S h nc ns
  | .ldc2_w ix => zx_lc2 (zx_mo t) ix pc L S h nc ns
  | .iload i => zx_ld 0 i 2 pc L S h nc ns
  | .iload_n i => zx_ld 0 (i : Nat) 1 pc L S h nc ns
  | .lload i => zx_ld 1 i 2 pc L S h nc ns
  | .lload_n i => zx_ld 1 (i : Nat) 1 pc L S h nc ns
  | .aload i => zx_ld 2 i 2 pc L S h nc ns
  | .aload_n i => zx_ld 2 (i : Nat) 1 pc L S h nc ns
  | .istore i => zx_sto 0 i 2 pc L S h nc ns
  | .istore_n i => zx_sto 0 (i : Nat) 1 pc L S h nc ns
  | .astore i => zx_sto 2 i 2 pc L S h nc ns
  | .astore_n i => zx_sto 2 (i : Nat) 1 pc L S h nc ns
  | .lstore i => zx_stl i 2 pc L S h nc ns
  | .lstore_n i => zx_stl (i : Nat) 1 pc L S h nc ns
  | .iinc i z => zx_iinc i z pc L S h nc ns
  | .iadd => zx_bin .iadd pc L S h nc ns
  | .isub => zx_bin .isub pc L S h nc ns
  | .imul => zx_bin .imul pc L S h nc ns
  | .iand => zx_bin .iand pc L S h nc ns
  | .ior => zx_bin .ior pc L S h nc ns
  | .ixor => zx_bin .ixor pc L S h nc ns
  | .ishl => zx_bin .ishl pc L S h nc ns
  | .ishr => zx_bin .ishr pc L S h nc ns
  | .iushr => zx_bin .iushr pc L S h nc ns
  | .idiv => zx_bin .idiv pc L S h nc ns
  | .irem => zx_bin .irem pc L S h nc ns
  | .ineg => zx_un .ineg pc L S h nc ns
  | .i2b => zx_un .i2b pc L S h nc ns
  | .i2s => zx_un .i2s pc L S h nc ns
  | .i2c => zx_un .i2c pc L S h nc ns
  | .i2l => zx_lng .i2l pc L S h nc ns
  | .l2i => zx_lng .l2i pc L S h nc ns
  | .land => zx_lng .land pc L S h nc ns
  | .lor => zx_lng .lor pc L S h nc ns
  | .lshl => zx_lng .lshl pc L S h nc ns
  | .dup => zx_stk .dup pc L S h nc ns
  | .pop => zx_stk .pop pc L S h nc ns
  | .dup_x1 => zx_stk .dup_x1 pc L S h nc ns
  | .dup2 => zx_stk .dup2 pc L S h nc ns
  | .pop2 => zx_stk .pop2 pc L S h nc ns
  | .ifCond c off => zx_if1 c off pc L S h nc ns
  | .if_icmp c off => zx_if2 c off pc L S h nc ns
  | .goto off => zx_J pc off L S h nc ns
  | .tableswitch dflt lo hi offs => zx_tsw dflt lo hi offs pc L S h nc ns
  | .lookupswitch dflt ps => zx_lsw dflt ps pc L S h nc ns
  | .getfield ix => zx_gf (zx_mo t) ix pc L S h nc ns
  | .putfield ix => zx_pf (zx_mo t) (zx_mk t) ix pc L S h nc ns
  | .getstatic ix => zx_gs (zx_mo t) ix pc L S h nc ns
  | .arraylength => zx_al sc pc L S h nc ns
  | .iaload => zx_ial sc pc L S h nc ns
  | .iastore => zx_ias pc L S h nc ns
  | .laload => zx_lal pc L S h nc ns
  | .lastore => zx_las pc L S h nc ns
  | .baload => zx_bal pc L S h nc ns
  | .aaload => zx_aal pc L S h nc ns
  | .aastore => zx_aas pc L S h nc ns
  | .new ix => zx_new (zx_mo t) ix pc L S h nc ns
  | .newarray ty => zx_na ty pc L S h nc ns
  | .anewarray ix => zx_an (zx_mo t) ix pc L S h nc ns
  | .invokevirtual ix => zx_iv run (zx_mo t) ix pc L S h nc ns
  | .invokestatic ix => zx_is run (zx_mo t) ix pc L S h nc ns
  | .invokespecial ix => zx_ii run (zx_mo t) ix pc L S h nc ns
  | .ireturn => zx_ir (zx_mr t) S h nc ns
  | .lreturn => zx_lr (zx_mr t) S h nc ns
  | .areturn => zx_ar (zx_mr t) S h nc ns
  | .return_ => zx_vr (zx_mr t) S h nc ns
  | _ => none
def zx_stp (sc : zx_Sc) (run : Nat → List zx_V → List zx_C → Option zx_R) (t : zx_MT) (st : zx_S) : zx_T := match decode (zx_mb t) st.1 with
  | .ok (ins, len) => if zx_lok ins len = true then zx_ins sc run t ins st.1 st.2.1 st.2.2.1 st.2.2.2.1 st.2.2.2.2.1 st.2.2.2.2.2 else none
  | .error _ => none
def zx_L0 (n : Nat) : List zx_V → List (Option zx_V)
  | [] => List.replicate n none
  | v :: r => if zx_c1 v then some v :: zx_L0 (n - 1) r else some v :: none :: zx_L0 (n - 2) r
/-- n instructions at most, d calls deep at most -/
def zx_ex : Nat → Nat → zx_Sc → zx_MT → zx_S → Option zx_R
  | 0, _, _, _, _ => none
  | n + 1, d, sc, t, st => match zx_stp sc (fun k as h => match d with
      | 0 => none
      | d + 1 => if zx_cs as ≤ zx_mn (zx_m k) then zx_ex n d none (zx_m k) (0, zx_L0 (zx_mn (zx_m k)) as, [], h, 0, 0) else none) t st with
    | some (.inl st') => zx_ex n d sc t st'
    | some (.inr r) => some r
    | none => none
def zx_run (n d k : Nat) (as : List zx_V) (h : List zx_C) : Option zx_R := if zx_cs as ≤ zx_mn (zx_m k) then zx_ex n d none (zx_m k) (0, zx_L0 (zx_mn (zx_m k)) as, [], h, 0, 0) else none
end
section
/-! part 04: what a program decides of the tables: each link's word stands among the statement's words -/
def zx_G : List Cond := lw_tbl.filter goodWord
def zx_isN : Cond → Bool
  | .fieldLinkNest .. => true
  | .methodLinkNest .. => true
  | _ => false
def zx_nw : List Cond := lw_tbl.filter zx_isN
def zx_at (p : Nat) (w : Cond) : Bool := match lw_tbl[p]? with
  | some w' => decide (w' = w)
  | none => false
def zx_inG (p : Nat) (w : Cond) : Bool := zx_at p w && goodWord w
def zx_inN (p : Nat) (w : Cond) : Bool := zx_at p w && zx_isN w
theorem zx_at_mem {p : Nat} {w : Cond} (h : zx_at p w = true) : w ∈ lw_tbl := by
  unfold zx_at at h
  split at h
  · rename_i w' e
    have e2 : w' = w := by simpa using h
    subst e2
    exact List.mem_of_getElem? e
  · cases h
theorem zx_inG_mem {p : Nat} {w : Cond} (h : zx_inG p w = true) : w ∈ zx_G := by
  unfold zx_inG at h
  rw [Bool.and_eq_true] at h
  exact List.mem_filter.mpr ⟨zx_at_mem h.1, h.2⟩
theorem zx_inN_mem {p : Nat} {w : Cond} (h : zx_inN p w = true) : w ∈ zx_nw := by
  unfold zx_inN at h
  rw [Bool.and_eq_true] at h
  exact List.mem_filter.mpr ⟨zx_at_mem h.1, h.2⟩
def zx_o (o : Nat) : String := (zx_on[o]?).getD ""
def zx_host : String := "CarriedAsFarAsTheStile"
def zx_ckm (t : zx_MT) (q : Nat × Nat × Nat × Nat) : Bool :=
  (zx_inG q.2.1 (.initialized (zx_my t).cls) && (decide (zx_o (zx_mo t) = (zx_my t).cls) && (decide (zx_mo t < 14) && (decide (zx_mn t ≤ 20) && (decide ((zx_my t).cls ≠ "java/lang/invoke/MethodHandle") && (decide ((zx_my t).cls ≠ "java/lang/invoke/VarHandle") && (decide ((parseMethodDescriptor (zx_my t).desc).map (fun d => d.parameters.length) = some (zx_mp t)) &&
  (match zx_mk t with
    | 0 => zx_inG q.2.2.1 (.instanceMethod (zx_my t)) && (zx_inG q.2.2.2 (.selects (zx_my t).cls (zx_my t) (zx_my t)) && plainName (zx_my t).cls)
    | 1 => zx_inG q.2.2.1 (.static (zx_my t)) && plainName (zx_my t).cls
    | 2 => zx_inG q.2.2.1 (.instanceMethod (zx_my t)) && (decide ((zx_my t).name = "<init>") && (decide (zx_mr t = none) && plainName (zx_my t).cls))
    | 3 => zx_inG q.2.2.1 (.static Lib.Math.max.name) && (decide (zx_my t = Lib.Math.max.name) && zx_inG q.2.1 (.initialized "java/lang/Math"))
    | 4 => zx_inG q.2.2.1 (.static Lib.Math.min.name) && (decide (zx_my t = Lib.Math.min.name) && zx_inG q.2.1 (.initialized "java/lang/Math"))
    | _ => false))))))))
theorem zx_cdm {p : Nat} {y : MethodName} {b : ByteArray} {n : Nat} {r : Option FieldType} (h : lw_tbl[p]? = some (Cond.code y b n r)) : Cond.code y b n r ∈ zx_G := List.mem_filter.mpr ⟨List.mem_of_getElem? h, rfl⟩
set_option maxRecDepth 20000 in
theorem zx_k0 : (Cond.code yX0_init cX0_init 1 none) ∈ zx_G := zx_cdm (p := 317) rfl
set_option maxRecDepth 20000 in
theorem zx_k1 : (Cond.code yX0_forget cX0_forget 1 none) ∈ zx_G := zx_cdm (p := 932) rfl
set_option maxRecDepth 20000 in
theorem zx_k2 : (Cond.code yX0_run cX0_run 5 (some FieldType.int)) ∈ zx_G := zx_cdm (p := 936) rfl
set_option maxRecDepth 20000 in
theorem zx_k3 : (Cond.code yX0_kept cX0_kept 2 (some FieldType.int)) ∈ zx_G := zx_cdm (p := 957) rfl
set_option maxRecDepth 20000 in
theorem zx_k4 : (Cond.code yX0_from cX0_from 7 (some FieldType.int)) ∈ zx_G := zx_cdm (p := 941) rfl
set_option maxRecDepth 20000 in
theorem zx_k5 : (Cond.code yX0_runBody cX0_runBody 5 (some FieldType.int)) ∈ zx_G := zx_cdm (p := 949) rfl
set_option maxRecDepth 20000 in
theorem zx_k6 : (Cond.code yX1_init cX1_init 2 none) ∈ zx_G := zx_cdm (p := 219) rfl
set_option maxRecDepth 20000 in
theorem zx_k7 : (Cond.code yX1_begin cX1_begin 2 none) ∈ zx_G := zx_cdm (p := 797) rfl
set_option maxRecDepth 20000 in
theorem zx_k8 : (Cond.code yX1_goOn cX1_goOn 3 none) ∈ zx_G := zx_cdm (p := 803) rfl
set_option maxRecDepth 20000 in
theorem zx_k9 : (Cond.code yX1_step cX1_step 3 (some FieldType.boolean)) ∈ zx_G := zx_cdm (p := 807) rfl
set_option maxRecDepth 20000 in
theorem zx_k10 : (Cond.code yX1_choose cX1_choose 3 (some FieldType.int)) ∈ zx_G := zx_cdm (p := 812) rfl
set_option maxRecDepth 20000 in
theorem zx_k11 : (Cond.code yX1_whoseTurn cX1_whoseTurn 4 (some FieldType.int)) ∈ zx_G := zx_cdm (p := 817) rfl
set_option maxRecDepth 20000 in
theorem zx_k12 : (Cond.code yX1_freshest cX1_freshest 3 (some FieldType.int)) ∈ zx_G := zx_cdm (p := 822) rfl
set_option maxRecDepth 20000 in
theorem zx_k13 : (Cond.code yX2_init cX2_init 3 none) ∈ zx_G := zx_cdm (p := 243) rfl
set_option maxRecDepth 20000 in
theorem zx_k14 : (Cond.code yX2_look cX2_look 3 none) ∈ zx_G := zx_cdm (p := 760) rfl
set_option maxRecDepth 20000 in
theorem zx_k15 : (Cond.code yX2_deeper cX2_deeper 7 none) ∈ zx_G := zx_cdm (p := 770) rfl
set_option maxRecDepth 20000 in
theorem zx_k16 : (Cond.code yX2_isHopeless cX2_isHopeless 4 (some FieldType.boolean)) ∈ zx_G := zx_cdm (p := 774) rfl
set_option maxRecDepth 20000 in
theorem zx_k17 : (Cond.code yX2_offer cX2_offer 6 none) ∈ zx_G := zx_cdm (p := 782) rfl
set_option maxRecDepth 20000 in
theorem zx_k18 : (Cond.code yX3_init cX3_init 1 none) ∈ zx_G := zx_cdm (p := 339) rfl
set_option maxRecDepth 20000 in
theorem zx_k19 : (Cond.code yX3_holdsRow cX3_holdsRow 1 (some FieldType.boolean)) ∈ zx_G := zx_cdm (p := 416) rfl
set_option maxRecDepth 20000 in
theorem zx_k20 : (Cond.code yX3_hasElement cX3_hasElement 2 (some FieldType.boolean)) ∈ zx_G := zx_cdm (p := 420) rfl
set_option maxRecDepth 20000 in
theorem zx_k21 : (Cond.code yX3_hasElements cX3_hasElements 3 (some FieldType.boolean)) ∈ zx_G := zx_cdm (p := 436) rfl
set_option maxRecDepth 20000 in
theorem zx_k22 : (Cond.code yX3_makeRow cX3_makeRow 4 none) ∈ zx_G := zx_cdm (p := 404) rfl
set_option maxRecDepth 20000 in
theorem zx_k23 : (Cond.code yX3_put cX3_put 4 none) ∈ zx_G := zx_cdm (p := 424) rfl
set_option maxRecDepth 20000 in
theorem zx_k24 : (Cond.code yX3_number cX3_number 2 (some FieldType.int)) ∈ zx_G := zx_cdm (p := 561) rfl
set_option maxRecDepth 20000 in
theorem zx_k25 : (Cond.code yX4_init cX4_init 1 none) ∈ zx_G := zx_cdm (p := 282) rfl
set_option maxRecDepth 20000 in
theorem zx_k26 : (Cond.code yX4_read cX4_read 5 none) ∈ zx_G := zx_cdm (p := 547) rfl
set_option maxRecDepth 20000 in
theorem zx_k27 : (Cond.code yX4_readItem cX4_readItem 3 none) ∈ zx_G := zx_cdm (p := 565) rfl
set_option maxRecDepth 20000 in
theorem zx_k28 : (Cond.code yX4_hasRoomFor cX4_hasRoomFor 2 (some FieldType.boolean)) ∈ zx_G := zx_cdm (p := 644) rfl
set_option maxRecDepth 20000 in
theorem zx_k29 : (Cond.code yX4_tellFurlong cX4_tellFurlong 3 none) ∈ zx_G := zx_cdm (p := 648) rfl
set_option maxRecDepth 20000 in
theorem zx_k30 : (Cond.code yX4_tellPerson cX4_tellPerson 3 none) ∈ zx_G := zx_cdm (p := 665) rfl
set_option maxRecDepth 20000 in
theorem zx_k31 : (Cond.code yX4_tellTired cX4_tellTired 3 none) ∈ zx_G := zx_cdm (p := 670) rfl
set_option maxRecDepth 20000 in
theorem zx_k32 : (Cond.code yX4_tellBag cX4_tellBag 2 none) ∈ zx_G := zx_cdm (p := 674) rfl
set_option maxRecDepth 20000 in
theorem zx_k33 : (Cond.code yX4_tellAct cX4_tellAct 2 none) ∈ zx_G := zx_cdm (p := 678) rfl
set_option maxRecDepth 20000 in
theorem zx_k34 : (Cond.code yX4_tellAsked cX4_tellAsked 3 none) ∈ zx_G := zx_cdm (p := 729) rfl
set_option maxRecDepth 20000 in
theorem zx_k35 : (Cond.code yX4_readWord cX4_readWord 4 (some FieldType.int)) ∈ zx_G := zx_cdm (p := 569) rfl
set_option maxRecDepth 20000 in
theorem zx_k36 : (Cond.code yX4_wordBeginning cX4_wordBeginning 4 (some FieldType.int)) ∈ zx_G := zx_cdm (p := 573) rfl
set_option maxRecDepth 20000 in
theorem zx_k37 : (Cond.code yX4_beginsThere cX4_beginsThere 5 (some FieldType.boolean)) ∈ zx_G := zx_cdm (p := 592) rfl
set_option maxRecDepth 20000 in
theorem zx_k38 : (Cond.code yX4_spelling cX4_spelling 1 (some (FieldType.object "java/lang/String"))) ∈ zx_G := zx_cdm (p := 576) rfl
set_option maxRecDepth 20000 in
theorem zx_k39 : (Cond.code yX4_readSign cX4_readSign 2 (some FieldType.boolean)) ∈ zx_G := zx_cdm (p := 656) rfl
set_option maxRecDepth 20000 in
theorem zx_k40 : (Cond.code yX4_readNumber cX4_readNumber 5 (some FieldType.int)) ∈ zx_G := zx_cdm (p := 652) rfl
set_option maxRecDepth 20000 in
theorem zx_k41 : (Cond.code yX4_isDigitNext cX4_isDigitNext 1 (some FieldType.boolean)) ∈ zx_G := zx_cdm (p := 660) rfl
set_option maxRecDepth 20000 in
theorem zx_k42 : (Cond.code yX5_init cX5_init 2 none) ∈ zx_G := zx_cdm (p := 156) rfl
set_option maxRecDepth 20000 in
theorem zx_k43 : (Cond.code yX5_copyFrom cX5_copyFrom 2 none) ∈ zx_G := zx_cdm (p := 556) rfl
set_option maxRecDepth 20000 in
theorem zx_k44 : (Cond.code yX5_addPerson cX5_addPerson 3 (some FieldType.int)) ∈ zx_G := zx_cdm (p := 496) rfl
set_option maxRecDepth 20000 in
theorem zx_k45 : (Cond.code yX5_asked cX5_asked 2 (some FieldType.int)) ∈ zx_G := zx_cdm (p := 524) rfl
set_option maxRecDepth 20000 in
theorem zx_k46 : (Cond.code yX5_become cX5_become 3 none) ∈ zx_G := zx_cdm (p := 528) rfl
set_option maxRecDepth 20000 in
theorem zx_k47 : (Cond.code yX5_atEnd cX5_atEnd 1 (some FieldType.boolean)) ∈ zx_G := zx_cdm (p := 690) rfl
set_option maxRecDepth 20000 in
theorem zx_k48 : (Cond.code yX5_asleep cX5_asleep 1 (some FieldType.boolean)) ∈ zx_G := zx_cdm (p := 474) rfl
set_option maxRecDepth 20000 in
theorem zx_k49 : (Cond.code yX5_greatestTired cX5_greatestTired 3 (some FieldType.int)) ∈ zx_G := zx_cdm (p := 766) rfl
set_option maxRecDepth 20000 in
theorem zx_k50 : (Cond.code yX5_minutesThereAndBack cX5_minutesThereAndBack 1 (some FieldType.int)) ∈ zx_G := zx_cdm (p := 841) rfl
set_option maxRecDepth 20000 in
theorem zx_k51 : (Cond.code yX5_loadOnSlope cX5_loadOnSlope 5 (some FieldType.int)) ∈ zx_G := zx_cdm (p := 478) rfl
set_option maxRecDepth 20000 in
theorem zx_k52 : (Cond.code yX5_mayBe cX5_mayBe 2 (some FieldType.boolean)) ∈ zx_G := zx_cdm (p := 682) rfl
set_option maxRecDepth 20000 in
theorem zx_k53 : (Cond.code yX5_mayCarry cX5_mayCarry 4 (some FieldType.boolean)) ∈ zx_G := zx_cdm (p := 699) rfl
set_option maxRecDepth 20000 in
theorem zx_k54 : (Cond.code yX5_mayWalk cX5_mayWalk 1 (some FieldType.boolean)) ∈ zx_G := zx_cdm (p := 686) rfl
set_option maxRecDepth 20000 in
theorem zx_k55 : (Cond.code yX5_mayRest cX5_mayRest 1 (some FieldType.boolean)) ∈ zx_G := zx_cdm (p := 695) rfl
set_option maxRecDepth 20000 in
theorem zx_k56 : (Cond.code yX5_come cX5_come 2 none) ∈ zx_G := zx_cdm (p := 705) rfl
set_option maxRecDepth 20000 in
theorem zx_k57 : (Cond.code yX5_walk cX5_walk 1 none) ∈ zx_G := zx_cdm (p := 709) rfl
set_option maxRecDepth 20000 in
theorem zx_k58 : (Cond.code yX5_carry cX5_carry 3 none) ∈ zx_G := zx_cdm (p := 725) rfl
set_option maxRecDepth 20000 in
theorem zx_k59 : (Cond.code yX5_restOthers cX5_restOthers 4 none) ∈ zx_G := zx_cdm (p := 713) rfl
set_option maxRecDepth 20000 in
theorem zx_k60 : (Cond.code yX5_restAll cX5_restAll 2 none) ∈ zx_G := zx_cdm (p := 721) rfl
set_option maxRecDepth 20000 in
theorem zx_k61 : (Cond.code yX5_draw cX5_draw 2 (some FieldType.int)) ∈ zx_G := zx_cdm (p := 912) rfl
set_option maxRecDepth 20000 in
theorem zx_k62 : (Cond.code yX6_init cX6_init 1 none) ∈ zx_G := zx_cdm (p := 113) rfl
set_option maxRecDepth 20000 in
theorem zx_k63 : (Cond.code yX6_copyFrom cX6_copyFrom 2 none) ∈ zx_G := zx_cdm (p := 551) rfl
set_option maxRecDepth 20000 in
theorem zx_k64 : (Cond.code yX6_hasFurlong cX6_hasFurlong 2 (some FieldType.boolean)) ∈ zx_G := zx_cdm (p := 504) rfl
set_option maxRecDepth 20000 in
theorem zx_k65 : (Cond.code yX6_hasPerson cX6_hasPerson 2 (some FieldType.boolean)) ∈ zx_G := zx_cdm (p := 451) rfl
set_option maxRecDepth 20000 in
theorem zx_k66 : (Cond.code yX6_addFurlong cX6_addFurlong 3 (some FieldType.int)) ∈ zx_G := zx_cdm (p := 488) rfl
set_option maxRecDepth 20000 in
theorem zx_k67 : (Cond.code yX7_init cX7_init 2 none) ∈ zx_G := zx_cdm (p := 101) rfl
set_option maxRecDepth 20000 in
theorem zx_k68 : (Cond.code yX7_row cX7_row 4 (some FieldType.int)) ∈ zx_G := zx_cdm (p := 393) rfl
set_option maxRecDepth 20000 in
theorem zx_k69 : (Cond.code yX7_set cX7_set 6 (some FieldType.int)) ∈ zx_G := zx_cdm (p := 408) rfl
set_option maxRecDepth 20000 in
theorem zx_k70 : (Cond.code yX7_copy cX7_copy 9 (some FieldType.int)) ∈ zx_G := zx_cdm (p := 428) rfl
set_option maxRecDepth 20000 in
theorem zx_k71 : (Cond.code yX7_element cX7_element 3 (some FieldType.long)) ∈ zx_G := zx_cdm (p := 443) rfl
set_option maxRecDepth 20000 in
theorem zx_k72 : (Cond.code yX7_show cX7_show 3 (some FieldType.int)) ∈ zx_G := zx_cdm (p := 447) rfl
set_option maxRecDepth 20000 in
theorem zx_k73 : (Cond.code yX7_holds cX7_holds 2 (some FieldType.int)) ∈ zx_G := zx_cdm (p := 455) rfl
set_option maxRecDepth 20000 in
theorem zx_k74 : (Cond.code yX7_says cX7_says 4 (some FieldType.int)) ∈ zx_G := zx_cdm (p := 459) rfl
set_option maxRecDepth 20000 in
theorem zx_k75 : (Cond.code yX7_furlong cX7_furlong 3 (some FieldType.int)) ∈ zx_G := zx_cdm (p := 484) rfl
set_option maxRecDepth 20000 in
theorem zx_k76 : (Cond.code yX7_person cX7_person 3 (some FieldType.int)) ∈ zx_G := zx_cdm (p := 492) rfl
set_option maxRecDepth 20000 in
theorem zx_k77 : (Cond.code yX7_furlongOf cX7_furlongOf 3 (some FieldType.int)) ∈ zx_G := zx_cdm (p := 500) rfl
set_option maxRecDepth 20000 in
theorem zx_k78 : (Cond.code yX7_personOf cX7_personOf 3 (some FieldType.int)) ∈ zx_G := zx_cdm (p := 512) rfl
set_option maxRecDepth 20000 in
theorem zx_k79 : (Cond.code yX7_ask cX7_ask 4 (some FieldType.int)) ∈ zx_G := zx_cdm (p := 516) rfl
set_option maxRecDepth 20000 in
theorem zx_k80 : (Cond.code yX7_tire cX7_tire 4 (some FieldType.int)) ∈ zx_G := zx_cdm (p := 535) rfl
set_option maxRecDepth 20000 in
theorem zx_k81 : (Cond.code yX7_bag cX7_bag 3 (some FieldType.int)) ∈ zx_G := zx_cdm (p := 539) rfl
set_option maxRecDepth 20000 in
theorem zx_k82 : (Cond.code yX7_way cX7_way 3 (some FieldType.int)) ∈ zx_G := zx_cdm (p := 543) rfl
set_option maxRecDepth 20000 in
theorem zx_k83 : (Cond.code yX7_fault cX7_fault 1 (some FieldType.int)) ∈ zx_G := zx_cdm (p := 739) rfl
set_option maxRecDepth 20000 in
theorem zx_k84 : (Cond.code yX7_load cX7_load 3 (some FieldType.int)) ∈ zx_G := zx_cdm (p := 743) rfl
set_option maxRecDepth 20000 in
theorem zx_k85 : (Cond.code yX7_may cX7_may 2 (some FieldType.int)) ∈ zx_G := zx_cdm (p := 747) rfl
set_option maxRecDepth 20000 in
theorem zx_k86 : (Cond.code yX7_next cX7_next 3 (some FieldType.int)) ∈ zx_G := zx_cdm (p := 752) rfl
set_option maxRecDepth 20000 in
theorem zx_k87 : (Cond.code yX7_ahead cX7_ahead 3 (some FieldType.int)) ∈ zx_G := zx_cdm (p := 756) rfl
set_option maxRecDepth 20000 in
theorem zx_k88 : (Cond.code yX7_by cX7_by 4 (some FieldType.int)) ∈ zx_G := zx_cdm (p := 790) rfl
set_option maxRecDepth 20000 in
theorem zx_k89 : (Cond.code yX7_best cX7_best 7 (some FieldType.int)) ∈ zx_G := zx_cdm (p := 828) rfl
set_option maxRecDepth 20000 in
theorem zx_k90 : (Cond.code yX7_whose cX7_whose 5 (some FieldType.int)) ∈ zx_G := zx_cdm (p := 833) rfl
set_option maxRecDepth 20000 in
theorem zx_k91 : (Cond.code yX7_turn cX7_turn 5 (some FieldType.int)) ∈ zx_G := zx_cdm (p := 837) rfl
set_option maxRecDepth 20000 in
theorem zx_k92 : (Cond.code yX7_pays cX7_pays 4 (some FieldType.int)) ∈ zx_G := zx_cdm (p := 846) rfl
set_option maxRecDepth 20000 in
theorem zx_k93 : (Cond.code yX7_bagged cX7_bagged 6 (some FieldType.int)) ∈ zx_G := zx_cdm (p := 851) rfl
set_option maxRecDepth 20000 in
theorem zx_k94 : (Cond.code yX7_judge cX7_judge 4 (some FieldType.int)) ∈ zx_G := zx_cdm (p := 855) rfl
set_option maxRecDepth 20000 in
theorem zx_k95 : (Cond.code yX7_behind cX7_behind 5 (some FieldType.int)) ∈ zx_G := zx_cdm (p := 868) rfl
set_option maxRecDepth 20000 in
theorem zx_k96 : (Cond.code yX7_done cX7_done 4 (some FieldType.int)) ∈ zx_G := zx_cdm (p := 873) rfl
set_option maxRecDepth 20000 in
theorem zx_k97 : (Cond.code yX7_fits cX7_fits 5 (some FieldType.int)) ∈ zx_G := zx_cdm (p := 877) rfl
set_option maxRecDepth 20000 in
theorem zx_k98 : (Cond.code yX7_enough cX7_enough 1 (some FieldType.int)) ∈ zx_G := zx_cdm (p := 884) rfl
set_option maxRecDepth 20000 in
theorem zx_k99 : (Cond.code yX7_leastWorn cX7_leastWorn 2 (some FieldType.int)) ∈ zx_G := zx_cdm (p := 893) rfl
set_option maxRecDepth 20000 in
theorem zx_k100 : (Cond.code yX7_does cX7_does 2 (some FieldType.int)) ∈ zx_G := zx_cdm (p := 897) rfl
set_option maxRecDepth 20000 in
theorem zx_k101 : (Cond.code yX7_summer cX7_summer 5 (some FieldType.int)) ∈ zx_G := zx_cdm (p := 901) rfl
set_option maxRecDepth 20000 in
theorem zx_k102 : (Cond.code yX7_day cX7_day 3 (some FieldType.int)) ∈ zx_G := zx_cdm (p := 920) rfl
set_option maxRecDepth 20000 in
theorem zx_k103 : (Cond.code yX7_seed cX7_seed 3 (some FieldType.int)) ∈ zx_G := zx_cdm (p := 924) rfl
set_option maxRecDepth 20000 in
theorem zx_k104 : (Cond.code yX7_act cX7_act 4 (some FieldType.int)) ∈ zx_G := zx_cdm (p := 928) rfl
set_option maxRecDepth 20000 in
theorem zx_k105 : (Cond.code yX7_trace cX7_trace 2 (some FieldType.int)) ∈ zx_G := zx_cdm (p := 953) rfl
set_option maxRecDepth 20000 in
theorem zx_k106 : (Cond.code yX7_image cX7_image 1 (some FieldType.int)) ∈ zx_G := zx_cdm (p := 961) rfl
set_option maxRecDepth 20000 in
theorem zx_k107 : (Cond.code yX7_restore cX7_restore 5 (some FieldType.int)) ∈ zx_G := zx_cdm (p := 965) rfl
set_option maxRecDepth 20000 in
theorem zx_k108 : (Cond.code yX7_status cX7_status 2 (some FieldType.int)) ∈ zx_G := zx_cdm (p := 969) rfl
set_option maxRecDepth 20000 in
theorem zx_k109 : (Cond.code yX7_refuse cX7_refuse 2 (some FieldType.int)) ∈ zx_G := zx_cdm (p := 400) rfl
set_option maxRecDepth 20000 in
theorem zx_k110 : (Cond.code yX7_refuseFar cX7_refuseFar 2 (some FieldType.int)) ∈ zx_G := zx_cdm (p := 508) rfl
set_option maxRecDepth 20000 in
theorem zx_k111 : (Cond.code yX7_whyNoRow cX7_whyNoRow 2 (some FieldType.int)) ∈ zx_G := zx_cdm (p := 412) rfl
set_option maxRecDepth 20000 in
theorem zx_k112 : (Cond.code yX7_whyNoCopy cX7_whyNoCopy 5 (some FieldType.int)) ∈ zx_G := zx_cdm (p := 432) rfl
set_option maxRecDepth 20000 in
theorem zx_k113 : (Cond.code yX7_whyNoWalk cX7_whyNoWalk 4 (some FieldType.int)) ∈ zx_G := zx_cdm (p := 859) rfl
set_option maxRecDepth 20000 in
theorem zx_k114 : (Cond.code yX7_isShelf cX7_isShelf 1 (some FieldType.boolean)) ∈ zx_G := zx_cdm (p := 396) rfl
set_option maxRecDepth 20000 in
theorem zx_k115 : (Cond.code yX7_isKind cX7_isKind 1 (some FieldType.boolean)) ∈ zx_G := zx_cdm (p := 462) rfl
set_option maxRecDepth 20000 in
theorem zx_k116 : (Cond.code yX7_isRule cX7_isRule 1 (some FieldType.boolean)) ∈ zx_G := zx_cdm (p := 793) rfl
set_option maxRecDepth 20000 in
theorem zx_k117 : (Cond.code yX7_isUnder cX7_isUnder 4 (some FieldType.boolean)) ∈ zx_G := zx_cdm (p := 465) rfl
set_option maxRecDepth 20000 in
theorem zx_k118 : (Cond.code yX7_restOfKind cX7_restOfKind 1 (some FieldType.int)) ∈ zx_G := zx_cdm (p := 470) rfl
set_option maxRecDepth 20000 in
theorem zx_k119 : (Cond.code yX7_isBetter cX7_isBetter 4 (some FieldType.boolean)) ∈ zx_G := zx_cdm (p := 785) rfl
set_option maxRecDepth 20000 in
theorem zx_k120 : (Cond.code yX7_nthBit cX7_nthBit 4 (some FieldType.int)) ∈ zx_G := zx_cdm (p := 916) rfl
set_option maxRecDepth 20000 in
theorem zx_k121 : (Cond.code yX7_tryWalk cX7_tryWalk 5 (some FieldType.int)) ∈ zx_G := zx_cdm (p := 863) rfl
set_option maxRecDepth 20000 in
theorem zx_k122 : (Cond.code yX7_areSoTired cX7_areSoTired 3 (some FieldType.boolean)) ∈ zx_G := zx_cdm (p := 880) rfl
set_option maxRecDepth 20000 in
theorem zx_k123 : (Cond.code yX7_leastToTheEnd cX7_leastToTheEnd 4 (some FieldType.int)) ∈ zx_G := zx_cdm (p := 888) rfl
set_option maxRecDepth 20000 in
theorem zx_k124 : (Cond.code yX8_init cX8_init 1 none) ∈ zx_G := zx_cdm (p := 974) rfl
set_option maxRecDepth 20000 in
theorem zx_k125 : (Cond.code yX8_no cX8_no 2 (some FieldType.int)) ∈ zx_G := zx_cdm (p := 1147) rfl
set_option maxRecDepth 20000 in
theorem zx_k126 : (Cond.code yX8_noTen cX8_noTen 2 (some FieldType.int)) ∈ zx_G := zx_cdm (p := 1211) rfl
set_option maxRecDepth 20000 in
theorem zx_k127 : (Cond.code yX8_isShelf cX8_isShelf 2 (some FieldType.boolean)) ∈ zx_G := zx_cdm (p := 1143) rfl
set_option maxRecDepth 20000 in
theorem zx_k128 : (Cond.code yX8_isPerson cX8_isPerson 2 (some FieldType.boolean)) ∈ zx_G := zx_cdm (p := 1167) rfl
set_option maxRecDepth 20000 in
theorem zx_k129 : (Cond.code yX8_isFurlong cX8_isFurlong 2 (some FieldType.boolean)) ∈ zx_G := zx_cdm (p := 1207) rfl
set_option maxRecDepth 20000 in
theorem zx_k130 : (Cond.code yX8_row cX8_row 5 (some FieldType.int)) ∈ zx_G := zx_cdm (p := 1139) rfl
set_option maxRecDepth 20000 in
theorem zx_k131 : (Cond.code yX8_set cX8_set 5 (some FieldType.int)) ∈ zx_G := zx_cdm (p := 1151) rfl
set_option maxRecDepth 20000 in
theorem zx_k132 : (Cond.code yX8_copy cX8_copy 7 (some FieldType.int)) ∈ zx_G := zx_cdm (p := 1155) rfl
set_option maxRecDepth 20000 in
theorem zx_k133 : (Cond.code yX8_element cX8_element 3 (some FieldType.long)) ∈ zx_G := zx_cdm (p := 1159) rfl
set_option maxRecDepth 20000 in
theorem zx_k134 : (Cond.code yX8_show cX8_show 3 (some FieldType.int)) ∈ zx_G := zx_cdm (p := 1163) rfl
set_option maxRecDepth 20000 in
theorem zx_k135 : (Cond.code yX8_holds cX8_holds 2 (some FieldType.int)) ∈ zx_G := zx_cdm (p := 1171) rfl
set_option maxRecDepth 20000 in
theorem zx_k136 : (Cond.code yX8_says cX8_says 6 (some FieldType.int)) ∈ zx_G := zx_cdm (p := 1175) rfl
set_option maxRecDepth 20000 in
theorem zx_k137 : (Cond.code yX8_wanted cX8_wanted 2 (some FieldType.int)) ∈ zx_G := zx_cdm (p := 1251) rfl
set_option maxRecDepth 20000 in
theorem zx_k138 : (Cond.code yX8_intAt cX8_intAt 3 (some FieldType.int)) ∈ zx_G := zx_cdm (p := 1404) rfl
set_option maxRecDepth 20000 in
theorem zx_k139 : (Cond.code yX8_bars cX8_bars 4 (some FieldType.int)) ∈ zx_G := zx_cdm (p := 1396) rfl
set_option maxRecDepth 20000 in
theorem zx_k140 : (Cond.code yX8_addsFurlong cX8_addsFurlong 3 (some FieldType.int)) ∈ zx_G := zx_cdm (p := 1191) rfl
set_option maxRecDepth 20000 in
theorem zx_k141 : (Cond.code yX8_addsPerson cX8_addsPerson 3 (some FieldType.int)) ∈ zx_G := zx_cdm (p := 1199) rfl
set_option maxRecDepth 20000 in
theorem zx_k142 : (Cond.code yX8_furlong cX8_furlong 3 (some FieldType.int)) ∈ zx_G := zx_cdm (p := 1187) rfl
set_option maxRecDepth 20000 in
theorem zx_k143 : (Cond.code yX8_person cX8_person 3 (some FieldType.int)) ∈ zx_G := zx_cdm (p := 1195) rfl
set_option maxRecDepth 20000 in
theorem zx_k144 : (Cond.code yX8_furlongOf cX8_furlongOf 3 (some FieldType.int)) ∈ zx_G := zx_cdm (p := 1203) rfl
set_option maxRecDepth 20000 in
theorem zx_k145 : (Cond.code yX8_personOf cX8_personOf 3 (some FieldType.int)) ∈ zx_G := zx_cdm (p := 1215) rfl
set_option maxRecDepth 20000 in
theorem zx_k146 : (Cond.code yX8_isAsked cX8_isAsked 3 (some FieldType.boolean)) ∈ zx_G := zx_cdm (p := 1223) rfl
set_option maxRecDepth 20000 in
theorem zx_k147 : (Cond.code yX8_told cX8_told 2 (some FieldType.int)) ∈ zx_G := zx_cdm (p := 1231) rfl
set_option maxRecDepth 20000 in
theorem zx_k148 : (Cond.code yX8_tells cX8_tells 3 none) ∈ zx_G := zx_cdm (p := 1235) rfl
set_option maxRecDepth 20000 in
theorem zx_k149 : (Cond.code yX8_asks cX8_asks 4 (some FieldType.int)) ∈ zx_G := zx_cdm (p := 1227) rfl
set_option maxRecDepth 20000 in
theorem zx_k150 : (Cond.code yX8_ask cX8_ask 3 (some FieldType.int)) ∈ zx_G := zx_cdm (p := 1219) rfl
set_option maxRecDepth 20000 in
theorem zx_k151 : (Cond.code yX8_tire cX8_tire 4 (some FieldType.int)) ∈ zx_G := zx_cdm (p := 1239) rfl
set_option maxRecDepth 20000 in
theorem zx_k152 : (Cond.code yX8_bag cX8_bag 3 (some FieldType.int)) ∈ zx_G := zx_cdm (p := 1243) rfl
set_option maxRecDepth 20000 in
theorem zx_k153 : (Cond.code yX8_wrong cX8_wrong 2 (some FieldType.boolean)) ∈ zx_G := zx_cdm (p := 1271) rfl
set_option maxRecDepth 20000 in
theorem zx_k154 : (Cond.code yX8_stands cX8_stands 4 (some FieldType.boolean)) ∈ zx_G := zx_cdm (p := 1267) rfl
set_option maxRecDepth 20000 in
theorem zx_k155 : (Cond.code yX8_word cX8_word 6 (some FieldType.int)) ∈ zx_G := zx_cdm (p := 1275) rfl
set_option maxRecDepth 20000 in
theorem zx_k156 : (Cond.code yX8_isDigit cX8_isDigit 1 (some FieldType.boolean)) ∈ zx_G := zx_cdm (p := 1283) rfl
set_option maxRecDepth 20000 in
theorem zx_k157 : (Cond.code yX8_reads cX8_reads 2 (some FieldType.boolean)) ∈ zx_G := zx_cdm (p := 1279) rfl
set_option maxRecDepth 20000 in
theorem zx_k158 : (Cond.code yX8_isSo cX8_isSo 3 (some FieldType.boolean)) ∈ zx_G := zx_cdm (p := 1287) rfl
set_option maxRecDepth 20000 in
theorem zx_k159 : (Cond.code yX8_item cX8_item 4 (some FieldType.boolean)) ∈ zx_G := zx_cdm (p := 1263) rfl
set_option maxRecDepth 20000 in
theorem zx_k160 : (Cond.code yX8_carries cX8_carries 7 (some FieldType.int)) ∈ zx_G := zx_cdm (p := 1259) rfl
set_option maxRecDepth 20000 in
theorem zx_k161 : (Cond.code yX8_all cX8_all 6 none) ∈ zx_G := zx_cdm (p := 1255) rfl
set_option maxRecDepth 20000 in
theorem zx_k162 : (Cond.code yX8_way cX8_way 5 (some FieldType.int)) ∈ zx_G := zx_cdm (p := 1247) rfl
set_option maxRecDepth 20000 in
theorem zx_k163 : (Cond.code yX8_fault cX8_fault 1 (some FieldType.int)) ∈ zx_G := zx_cdm (p := 1307) rfl
set_option maxRecDepth 20000 in
theorem zx_k164 : (Cond.code yX8_isAsleep cX8_isAsleep 1 (some FieldType.boolean)) ∈ zx_G := zx_cdm (p := 1179) rfl
set_option maxRecDepth 20000 in
theorem zx_k165 : (Cond.code yX8_loadOf cX8_loadOf 4 (some FieldType.int)) ∈ zx_G := zx_cdm (p := 1183) rfl
set_option maxRecDepth 20000 in
theorem zx_k166 : (Cond.code yX8_mayCarry cX8_mayCarry 3 (some FieldType.boolean)) ∈ zx_G := zx_cdm (p := 1295) rfl
set_option maxRecDepth 20000 in
theorem zx_k167 : (Cond.code yX8_mayBe cX8_mayBe 2 (some FieldType.boolean)) ∈ zx_G := zx_cdm (p := 1291) rfl
set_option maxRecDepth 20000 in
theorem zx_k168 : (Cond.code yX8_rests cX8_rests 3 none) ∈ zx_G := zx_cdm (p := 1303) rfl
set_option maxRecDepth 20000 in
theorem zx_k169 : (Cond.code yX8_acts cX8_acts 5 none) ∈ zx_G := zx_cdm (p := 1299) rfl
set_option maxRecDepth 20000 in
theorem zx_k170 : (Cond.code yX8_greatest cX8_greatest 3 (some FieldType.int)) ∈ zx_G := zx_cdm (p := 1327) rfl
set_option maxRecDepth 20000 in
theorem zx_k171 : (Cond.code yX8_load cX8_load 3 (some FieldType.int)) ∈ zx_G := zx_cdm (p := 1311) rfl
set_option maxRecDepth 20000 in
theorem zx_k172 : (Cond.code yX8_may cX8_may 2 (some FieldType.int)) ∈ zx_G := zx_cdm (p := 1315) rfl
set_option maxRecDepth 20000 in
theorem zx_k173 : (Cond.code yX8_next cX8_next 3 (some FieldType.int)) ∈ zx_G := zx_cdm (p := 1319) rfl
set_option maxRecDepth 20000 in
theorem zx_k174 : (Cond.code yX8_looks cX8_looks 7 none) ∈ zx_G := zx_cdm (p := 1331) rfl
set_option maxRecDepth 20000 in
theorem zx_k175 : (Cond.code yX8_ahead cX8_ahead 5 (some FieldType.int)) ∈ zx_G := zx_cdm (p := 1323) rfl
set_option maxRecDepth 20000 in
theorem zx_k176 : (Cond.code yX8_freshest cX8_freshest 3 (some FieldType.int)) ∈ zx_G := zx_cdm (p := 1360) rfl
set_option maxRecDepth 20000 in
theorem zx_k177 : (Cond.code yX8_ruled cX8_ruled 4 (some FieldType.int)) ∈ zx_G := zx_cdm (p := 1356) rfl
set_option maxRecDepth 20000 in
theorem zx_k178 : (Cond.code yX8_begins cX8_begins 1 none) ∈ zx_G := zx_cdm (p := 1348) rfl
set_option maxRecDepth 20000 in
theorem zx_k179 : (Cond.code yX8_goes cX8_goes 4 (some FieldType.boolean)) ∈ zx_G := zx_cdm (p := 1352) rfl
set_option maxRecDepth 20000 in
theorem zx_k180 : (Cond.code yX8_isRule cX8_isRule 2 (some FieldType.boolean)) ∈ zx_G := zx_cdm (p := 1340) rfl
set_option maxRecDepth 20000 in
theorem zx_k181 : (Cond.code yX8_leads cX8_leads 3 none) ∈ zx_G := zx_cdm (p := 1344) rfl
set_option maxRecDepth 20000 in
theorem zx_k182 : (Cond.code yX8_takesBack cX8_takesBack 1 none) ∈ zx_G := zx_cdm (p := 1364) rfl
set_option maxRecDepth 20000 in
theorem zx_k183 : (Cond.code yX8_by cX8_by 4 (some FieldType.int)) ∈ zx_G := zx_cdm (p := 1336) rfl
set_option maxRecDepth 20000 in
theorem zx_k184 : (Cond.code yX8_best cX8_best 7 (some FieldType.int)) ∈ zx_G := zx_cdm (p := 1368) rfl
set_option maxRecDepth 20000 in
theorem zx_k185 : (Cond.code yX8_whose cX8_whose 4 (some FieldType.int)) ∈ zx_G := zx_cdm (p := 1372) rfl
set_option maxRecDepth 20000 in
theorem zx_k186 : (Cond.code yX8_turn cX8_turn 6 (some FieldType.int)) ∈ zx_G := zx_cdm (p := 1376) rfl
set_option maxRecDepth 20000 in
theorem zx_k187 : (Cond.code yX8_pays cX8_pays 6 (some FieldType.int)) ∈ zx_G := zx_cdm (p := 1380) rfl
set_option maxRecDepth 20000 in
theorem zx_k188 : (Cond.code yX8_bagged cX8_bagged 7 (some FieldType.int)) ∈ zx_G := zx_cdm (p := 1384) rfl
set_option maxRecDepth 20000 in
theorem zx_k189 : (Cond.code yX8_wrongIn cX8_wrongIn 5 (some FieldType.int)) ∈ zx_G := zx_cdm (p := 1400) rfl
set_option maxRecDepth 20000 in
theorem zx_k190 : (Cond.code yX8_barsOf cX8_barsOf 4 (some FieldType.int)) ∈ zx_G := zx_cdm (p := 1392) rfl
set_option maxRecDepth 20000 in
theorem zx_k191 : (Cond.code yX8_judge cX8_judge 5 (some FieldType.int)) ∈ zx_G := zx_cdm (p := 1388) rfl
set_option maxRecDepth 20000 in
theorem zx_k192 : (Cond.code yX8_behind cX8_behind 7 (some FieldType.int)) ∈ zx_G := zx_cdm (p := 1408) rfl
set_option maxRecDepth 20000 in
theorem zx_k193 : (Cond.code yX8_done cX8_done 4 (some FieldType.int)) ∈ zx_G := zx_cdm (p := 1412) rfl
set_option maxRecDepth 20000 in
theorem zx_k194 : (Cond.code yX8_fits cX8_fits 7 (some FieldType.int)) ∈ zx_G := zx_cdm (p := 1416) rfl
set_option maxRecDepth 20000 in
theorem zx_k195 : (Cond.code yX8_enough cX8_enough 4 (some FieldType.int)) ∈ zx_G := zx_cdm (p := 1420) rfl
set_option maxRecDepth 20000 in
theorem zx_k196 : (Cond.code yX8_leastWorn cX8_leastWorn 5 (some FieldType.int)) ∈ zx_G := zx_cdm (p := 1424) rfl
set_option maxRecDepth 20000 in
theorem zx_k197 : (Cond.code yX8_does cX8_does 2 (some FieldType.int)) ∈ zx_G := zx_cdm (p := 1428) rfl
set_option maxRecDepth 20000 in
theorem zx_k198 : (Cond.code yX8_draw cX8_draw 2 (some FieldType.int)) ∈ zx_G := zx_cdm (p := 1436) rfl
set_option maxRecDepth 20000 in
theorem zx_k199 : (Cond.code yX8_summer cX8_summer 8 (some FieldType.int)) ∈ zx_G := zx_cdm (p := 1432) rfl
set_option maxRecDepth 20000 in
theorem zx_k200 : (Cond.code yX8_day cX8_day 3 (some FieldType.int)) ∈ zx_G := zx_cdm (p := 1441) rfl
set_option maxRecDepth 20000 in
theorem zx_k201 : (Cond.code yX8_seed cX8_seed 3 (some FieldType.int)) ∈ zx_G := zx_cdm (p := 1445) rfl
set_option maxRecDepth 20000 in
theorem zx_k202 : (Cond.code yX8_body cX8_body 2 none) ∈ zx_G := zx_cdm (p := 1457) rfl
set_option maxRecDepth 20000 in
theorem zx_k203 : (Cond.code yX8_lifting cX8_lifting 5 (some FieldType.int)) ∈ zx_G := zx_cdm (p := 1453) rfl
set_option maxRecDepth 20000 in
theorem zx_k204 : (Cond.code yX8_stepping cX8_stepping 7 (some FieldType.int)) ∈ zx_G := zx_cdm (p := 1461) rfl
set_option maxRecDepth 20000 in
theorem zx_k205 : (Cond.code yX8_resting cX8_resting 5 (some FieldType.int)) ∈ zx_G := zx_cdm (p := 1465) rfl
set_option maxRecDepth 20000 in
theorem zx_k206 : (Cond.code yX8_act cX8_act 4 (some FieldType.int)) ∈ zx_G := zx_cdm (p := 1449) rfl
set_option maxRecDepth 20000 in
theorem zx_k207 : (Cond.code yX8_trace cX8_trace 2 (some FieldType.int)) ∈ zx_G := zx_cdm (p := 1469) rfl
set_option maxRecDepth 20000 in
theorem zx_k208 : (Cond.code yX8_image cX8_image 1 (some FieldType.int)) ∈ zx_G := zx_cdm (p := 1473) rfl
set_option maxRecDepth 20000 in
theorem zx_k209 : (Cond.code yX8_restore cX8_restore 2 (some FieldType.int)) ∈ zx_G := zx_cdm (p := 1477) rfl
set_option maxRecDepth 20000 in
theorem zx_k210 : (Cond.code yX8_status cX8_status 2 (some FieldType.int)) ∈ zx_G := zx_cdm (p := 1481) rfl
set_option maxRecDepth 20000 in
theorem zx_k211 : (Cond.code yJ6_bitCount_0f7a4 cJ6_bitCount_0f7a4 1 (some FieldType.int)) ∈ zx_G := zx_cdm (p := 905) rfl
set_option maxRecDepth 20000 in
theorem zx_k212 : (Cond.code yJ9_max_7cf53 cJ9_max_7cf53 2 (some FieldType.int)) ∈ zx_G := zx_cdm (p := 717) rfl
set_option maxRecDepth 20000 in
theorem zx_k213 : (Cond.code yJ9_min_7cf53 cJ9_min_7cf53 2 (some FieldType.int)) ∈ zx_G := zx_cdm (p := 531) rfl
set_option maxRecDepth 20000 in
theorem zx_k214 : (Cond.code yJ0_length_8abf5 cJ0_length_8abf5 1 (some FieldType.int)) ∈ zx_G := zx_cdm (p := 596) rfl
set_option maxRecDepth 20000 in
theorem zx_k215 : (Cond.code yJ0_charAt_5068e cJ0_charAt_5068e 2 (some FieldType.char)) ∈ zx_G := zx_cdm (p := 606) rfl
set_option maxRecDepth 20000 in
theorem zx_k216 : (Cond.code yJ0_coder_7d493 cJ0_coder_7d493 1 (some FieldType.byte)) ∈ zx_G := zx_cdm (p := 600) rfl
set_option maxRecDepth 20000 in
theorem zx_k217 : (Cond.code yJ0_isLatin1_aae02 cJ0_isLatin1_aae02 1 (some FieldType.boolean)) ∈ zx_G := zx_cdm (p := 610) rfl
set_option maxRecDepth 20000 in
theorem zx_k218 : (Cond.code yJ0_checkIndex_df160 cJ0_checkIndex_df160 2 none) ∈ zx_G := zx_cdm (p := 616) rfl
set_option maxRecDepth 20000 in
theorem zx_k219 : (Cond.code yJ1_charAt_3b067 cJ1_charAt_3b067 2 (some FieldType.char)) ∈ zx_G := zx_cdm (p := 613) rfl
set_option maxRecDepth 20000 in
theorem zx_k220 : (Cond.code yJ3_checkIndex_8e157 cJ3_checkIndex_8e157 3 (some FieldType.int)) ∈ zx_G := zx_cdm (p := 621) rfl
set_option maxRecDepth 20000 in
theorem zx_kc_0 : ∀ t ∈ zx_ml_0, (Cond.code (zx_my t) (zx_mb t) (zx_mn t) (zx_mr t)) ∈ zx_G := List.forall_mem_cons.mpr ⟨zx_k0, List.forall_mem_cons.mpr ⟨zx_k1, List.forall_mem_cons.mpr ⟨zx_k2, List.forall_mem_cons.mpr ⟨zx_k3, List.forall_mem_cons.mpr ⟨zx_k4, List.forall_mem_cons.mpr ⟨zx_k5, List.forall_mem_cons.mpr ⟨zx_k6, List.forall_mem_cons.mpr ⟨zx_k7, List.forall_mem_cons.mpr ⟨zx_k8, List.forall_mem_cons.mpr ⟨zx_k9, List.forall_mem_cons.mpr ⟨zx_k10, List.forall_mem_cons.mpr ⟨zx_k11, List.forall_mem_cons.mpr ⟨zx_k12, List.forall_mem_cons.mpr ⟨zx_k13, List.forall_mem_cons.mpr ⟨zx_k14, List.forall_mem_cons.mpr ⟨zx_k15, List.forall_mem_cons.mpr ⟨zx_k16, List.forall_mem_cons.mpr ⟨zx_k17, List.forall_mem_cons.mpr ⟨zx_k18, List.forall_mem_cons.mpr ⟨zx_k19, List.forall_mem_cons.mpr ⟨zx_k20, List.forall_mem_cons.mpr ⟨zx_k21, List.forall_mem_cons.mpr ⟨zx_k22, List.forall_mem_cons.mpr ⟨zx_k23, List.forall_mem_cons.mpr ⟨zx_k24, List.forall_mem_cons.mpr ⟨zx_k25, List.forall_mem_cons.mpr ⟨zx_k26, List.forall_mem_cons.mpr ⟨zx_k27, List.forall_mem_cons.mpr ⟨zx_k28, List.forall_mem_cons.mpr ⟨zx_k29, List.forall_mem_cons.mpr ⟨zx_k30, List.forall_mem_cons.mpr ⟨zx_k31, List.forall_mem_cons.mpr ⟨zx_k32, List.forall_mem_cons.mpr ⟨zx_k33, List.forall_mem_cons.mpr ⟨zx_k34, List.forall_mem_cons.mpr ⟨zx_k35, List.forall_mem_cons.mpr ⟨zx_k36, List.forall_mem_cons.mpr ⟨zx_k37, List.forall_mem_cons.mpr ⟨zx_k38, List.forall_mem_cons.mpr ⟨zx_k39, fun _ h => absurd h List.not_mem_nil⟩⟩⟩⟩⟩⟩⟩⟩⟩⟩⟩⟩⟩⟩⟩⟩⟩⟩⟩⟩⟩⟩⟩⟩⟩⟩⟩⟩⟩⟩⟩⟩⟩⟩⟩⟩⟩⟩⟩⟩
set_option maxRecDepth 20000 in
theorem zx_kc_1 : ∀ t ∈ zx_ml_1, (Cond.code (zx_my t) (zx_mb t) (zx_mn t) (zx_mr t)) ∈ zx_G := List.forall_mem_cons.mpr ⟨zx_k40, List.forall_mem_cons.mpr ⟨zx_k41, List.forall_mem_cons.mpr ⟨zx_k42, List.forall_mem_cons.mpr ⟨zx_k43, List.forall_mem_cons.mpr ⟨zx_k44, List.forall_mem_cons.mpr ⟨zx_k45, List.forall_mem_cons.mpr ⟨zx_k46, List.forall_mem_cons.mpr ⟨zx_k47, List.forall_mem_cons.mpr ⟨zx_k48, List.forall_mem_cons.mpr ⟨zx_k49, List.forall_mem_cons.mpr ⟨zx_k50, List.forall_mem_cons.mpr ⟨zx_k51, List.forall_mem_cons.mpr ⟨zx_k52, List.forall_mem_cons.mpr ⟨zx_k53, List.forall_mem_cons.mpr ⟨zx_k54, List.forall_mem_cons.mpr ⟨zx_k55, List.forall_mem_cons.mpr ⟨zx_k56, List.forall_mem_cons.mpr ⟨zx_k57, List.forall_mem_cons.mpr ⟨zx_k58, List.forall_mem_cons.mpr ⟨zx_k59, List.forall_mem_cons.mpr ⟨zx_k60, List.forall_mem_cons.mpr ⟨zx_k61, List.forall_mem_cons.mpr ⟨zx_k62, List.forall_mem_cons.mpr ⟨zx_k63, List.forall_mem_cons.mpr ⟨zx_k64, List.forall_mem_cons.mpr ⟨zx_k65, List.forall_mem_cons.mpr ⟨zx_k66, List.forall_mem_cons.mpr ⟨zx_k67, List.forall_mem_cons.mpr ⟨zx_k68, List.forall_mem_cons.mpr ⟨zx_k69, List.forall_mem_cons.mpr ⟨zx_k70, List.forall_mem_cons.mpr ⟨zx_k71, List.forall_mem_cons.mpr ⟨zx_k72, List.forall_mem_cons.mpr ⟨zx_k73, List.forall_mem_cons.mpr ⟨zx_k74, List.forall_mem_cons.mpr ⟨zx_k75, List.forall_mem_cons.mpr ⟨zx_k76, List.forall_mem_cons.mpr ⟨zx_k77, List.forall_mem_cons.mpr ⟨zx_k78, List.forall_mem_cons.mpr ⟨zx_k79, fun _ h => absurd h List.not_mem_nil⟩⟩⟩⟩⟩⟩⟩⟩⟩⟩⟩⟩⟩⟩⟩⟩⟩⟩⟩⟩⟩⟩⟩⟩⟩⟩⟩⟩⟩⟩⟩⟩⟩⟩⟩⟩⟩⟩⟩⟩
set_option maxRecDepth 20000 in
theorem zx_kc_2 : ∀ t ∈ zx_ml_2, (Cond.code (zx_my t) (zx_mb t) (zx_mn t) (zx_mr t)) ∈ zx_G := List.forall_mem_cons.mpr ⟨zx_k80, List.forall_mem_cons.mpr ⟨zx_k81, List.forall_mem_cons.mpr ⟨zx_k82, List.forall_mem_cons.mpr ⟨zx_k83, List.forall_mem_cons.mpr ⟨zx_k84, List.forall_mem_cons.mpr ⟨zx_k85, List.forall_mem_cons.mpr ⟨zx_k86, List.forall_mem_cons.mpr ⟨zx_k87, List.forall_mem_cons.mpr ⟨zx_k88, List.forall_mem_cons.mpr ⟨zx_k89, List.forall_mem_cons.mpr ⟨zx_k90, List.forall_mem_cons.mpr ⟨zx_k91, List.forall_mem_cons.mpr ⟨zx_k92, List.forall_mem_cons.mpr ⟨zx_k93, List.forall_mem_cons.mpr ⟨zx_k94, List.forall_mem_cons.mpr ⟨zx_k95, List.forall_mem_cons.mpr ⟨zx_k96, List.forall_mem_cons.mpr ⟨zx_k97, List.forall_mem_cons.mpr ⟨zx_k98, List.forall_mem_cons.mpr ⟨zx_k99, List.forall_mem_cons.mpr ⟨zx_k100, List.forall_mem_cons.mpr ⟨zx_k101, List.forall_mem_cons.mpr ⟨zx_k102, List.forall_mem_cons.mpr ⟨zx_k103, List.forall_mem_cons.mpr ⟨zx_k104, List.forall_mem_cons.mpr ⟨zx_k105, List.forall_mem_cons.mpr ⟨zx_k106, List.forall_mem_cons.mpr ⟨zx_k107, List.forall_mem_cons.mpr ⟨zx_k108, List.forall_mem_cons.mpr ⟨zx_k109, List.forall_mem_cons.mpr ⟨zx_k110, List.forall_mem_cons.mpr ⟨zx_k111, List.forall_mem_cons.mpr ⟨zx_k112, List.forall_mem_cons.mpr ⟨zx_k113, List.forall_mem_cons.mpr ⟨zx_k114, List.forall_mem_cons.mpr ⟨zx_k115, List.forall_mem_cons.mpr ⟨zx_k116, List.forall_mem_cons.mpr ⟨zx_k117, List.forall_mem_cons.mpr ⟨zx_k118, List.forall_mem_cons.mpr ⟨zx_k119, fun _ h => absurd h List.not_mem_nil⟩⟩⟩⟩⟩⟩⟩⟩⟩⟩⟩⟩⟩⟩⟩⟩⟩⟩⟩⟩⟩⟩⟩⟩⟩⟩⟩⟩⟩⟩⟩⟩⟩⟩⟩⟩⟩⟩⟩⟩
set_option maxRecDepth 20000 in
theorem zx_kc_3 : ∀ t ∈ zx_ml_3, (Cond.code (zx_my t) (zx_mb t) (zx_mn t) (zx_mr t)) ∈ zx_G := List.forall_mem_cons.mpr ⟨zx_k120, List.forall_mem_cons.mpr ⟨zx_k121, List.forall_mem_cons.mpr ⟨zx_k122, List.forall_mem_cons.mpr ⟨zx_k123, List.forall_mem_cons.mpr ⟨zx_k124, List.forall_mem_cons.mpr ⟨zx_k125, List.forall_mem_cons.mpr ⟨zx_k126, List.forall_mem_cons.mpr ⟨zx_k127, List.forall_mem_cons.mpr ⟨zx_k128, List.forall_mem_cons.mpr ⟨zx_k129, List.forall_mem_cons.mpr ⟨zx_k130, List.forall_mem_cons.mpr ⟨zx_k131, List.forall_mem_cons.mpr ⟨zx_k132, List.forall_mem_cons.mpr ⟨zx_k133, List.forall_mem_cons.mpr ⟨zx_k134, List.forall_mem_cons.mpr ⟨zx_k135, List.forall_mem_cons.mpr ⟨zx_k136, List.forall_mem_cons.mpr ⟨zx_k137, List.forall_mem_cons.mpr ⟨zx_k138, List.forall_mem_cons.mpr ⟨zx_k139, List.forall_mem_cons.mpr ⟨zx_k140, List.forall_mem_cons.mpr ⟨zx_k141, List.forall_mem_cons.mpr ⟨zx_k142, List.forall_mem_cons.mpr ⟨zx_k143, List.forall_mem_cons.mpr ⟨zx_k144, List.forall_mem_cons.mpr ⟨zx_k145, List.forall_mem_cons.mpr ⟨zx_k146, List.forall_mem_cons.mpr ⟨zx_k147, List.forall_mem_cons.mpr ⟨zx_k148, List.forall_mem_cons.mpr ⟨zx_k149, List.forall_mem_cons.mpr ⟨zx_k150, List.forall_mem_cons.mpr ⟨zx_k151, List.forall_mem_cons.mpr ⟨zx_k152, List.forall_mem_cons.mpr ⟨zx_k153, List.forall_mem_cons.mpr ⟨zx_k154, List.forall_mem_cons.mpr ⟨zx_k155, List.forall_mem_cons.mpr ⟨zx_k156, List.forall_mem_cons.mpr ⟨zx_k157, List.forall_mem_cons.mpr ⟨zx_k158, List.forall_mem_cons.mpr ⟨zx_k159, fun _ h => absurd h List.not_mem_nil⟩⟩⟩⟩⟩⟩⟩⟩⟩⟩⟩⟩⟩⟩⟩⟩⟩⟩⟩⟩⟩⟩⟩⟩⟩⟩⟩⟩⟩⟩⟩⟩⟩⟩⟩⟩⟩⟩⟩⟩
set_option maxRecDepth 20000 in
theorem zx_kc_4 : ∀ t ∈ zx_ml_4, (Cond.code (zx_my t) (zx_mb t) (zx_mn t) (zx_mr t)) ∈ zx_G := List.forall_mem_cons.mpr ⟨zx_k160, List.forall_mem_cons.mpr ⟨zx_k161, List.forall_mem_cons.mpr ⟨zx_k162, List.forall_mem_cons.mpr ⟨zx_k163, List.forall_mem_cons.mpr ⟨zx_k164, List.forall_mem_cons.mpr ⟨zx_k165, List.forall_mem_cons.mpr ⟨zx_k166, List.forall_mem_cons.mpr ⟨zx_k167, List.forall_mem_cons.mpr ⟨zx_k168, List.forall_mem_cons.mpr ⟨zx_k169, List.forall_mem_cons.mpr ⟨zx_k170, List.forall_mem_cons.mpr ⟨zx_k171, List.forall_mem_cons.mpr ⟨zx_k172, List.forall_mem_cons.mpr ⟨zx_k173, List.forall_mem_cons.mpr ⟨zx_k174, List.forall_mem_cons.mpr ⟨zx_k175, List.forall_mem_cons.mpr ⟨zx_k176, List.forall_mem_cons.mpr ⟨zx_k177, List.forall_mem_cons.mpr ⟨zx_k178, List.forall_mem_cons.mpr ⟨zx_k179, List.forall_mem_cons.mpr ⟨zx_k180, List.forall_mem_cons.mpr ⟨zx_k181, List.forall_mem_cons.mpr ⟨zx_k182, List.forall_mem_cons.mpr ⟨zx_k183, List.forall_mem_cons.mpr ⟨zx_k184, List.forall_mem_cons.mpr ⟨zx_k185, List.forall_mem_cons.mpr ⟨zx_k186, List.forall_mem_cons.mpr ⟨zx_k187, List.forall_mem_cons.mpr ⟨zx_k188, List.forall_mem_cons.mpr ⟨zx_k189, List.forall_mem_cons.mpr ⟨zx_k190, List.forall_mem_cons.mpr ⟨zx_k191, List.forall_mem_cons.mpr ⟨zx_k192, List.forall_mem_cons.mpr ⟨zx_k193, List.forall_mem_cons.mpr ⟨zx_k194, List.forall_mem_cons.mpr ⟨zx_k195, List.forall_mem_cons.mpr ⟨zx_k196, List.forall_mem_cons.mpr ⟨zx_k197, List.forall_mem_cons.mpr ⟨zx_k198, List.forall_mem_cons.mpr ⟨zx_k199, fun _ h => absurd h List.not_mem_nil⟩⟩⟩⟩⟩⟩⟩⟩⟩⟩⟩⟩⟩⟩⟩⟩⟩⟩⟩⟩⟩⟩⟩⟩⟩⟩⟩⟩⟩⟩⟩⟩⟩⟩⟩⟩⟩⟩⟩⟩
set_option maxRecDepth 20000 in
theorem zx_kc_5 : ∀ t ∈ zx_ml_5, (Cond.code (zx_my t) (zx_mb t) (zx_mn t) (zx_mr t)) ∈ zx_G := List.forall_mem_cons.mpr ⟨zx_k200, List.forall_mem_cons.mpr ⟨zx_k201, List.forall_mem_cons.mpr ⟨zx_k202, List.forall_mem_cons.mpr ⟨zx_k203, List.forall_mem_cons.mpr ⟨zx_k204, List.forall_mem_cons.mpr ⟨zx_k205, List.forall_mem_cons.mpr ⟨zx_k206, List.forall_mem_cons.mpr ⟨zx_k207, List.forall_mem_cons.mpr ⟨zx_k208, List.forall_mem_cons.mpr ⟨zx_k209, List.forall_mem_cons.mpr ⟨zx_k210, List.forall_mem_cons.mpr ⟨zx_k211, List.forall_mem_cons.mpr ⟨zx_k212, List.forall_mem_cons.mpr ⟨zx_k213, List.forall_mem_cons.mpr ⟨zx_k214, List.forall_mem_cons.mpr ⟨zx_k215, List.forall_mem_cons.mpr ⟨zx_k216, List.forall_mem_cons.mpr ⟨zx_k217, List.forall_mem_cons.mpr ⟨zx_k218, List.forall_mem_cons.mpr ⟨zx_k219, List.forall_mem_cons.mpr ⟨zx_k220, fun _ h => absurd h List.not_mem_nil⟩⟩⟩⟩⟩⟩⟩⟩⟩⟩⟩⟩⟩⟩⟩⟩⟩⟩⟩⟩⟩
set_option maxRecDepth 20000 in
theorem zx_kc : ∀ t ∈ zx_ml, (Cond.code (zx_my t) (zx_mb t) (zx_mn t) (zx_mr t)) ∈ zx_G := by
  show ∀ t ∈ zx_ml_0 ++ zx_ml_1 ++ zx_ml_2 ++ zx_ml_3 ++ zx_ml_4 ++ zx_ml_5, _
  exact List.forall_mem_append.mpr ⟨List.forall_mem_append.mpr ⟨List.forall_mem_append.mpr ⟨List.forall_mem_append.mpr ⟨List.forall_mem_append.mpr ⟨zx_kc_0, zx_kc_1⟩, zx_kc_2⟩, zx_kc_3⟩, zx_kc_4⟩, zx_kc_5⟩
end
section
/-! part 05: the other checks -/
set_option maxRecDepth 100000 in
theorem zx_ckM_0 : (zx_ml_0.zip (zx_mc.drop 0)).all (fun q => zx_ckm q.1 q.2) = true := by decide +kernel
set_option maxRecDepth 100000 in
theorem zx_ckM_1 : (zx_ml_1.zip (zx_mc.drop 40)).all (fun q => zx_ckm q.1 q.2) = true := by decide +kernel
set_option maxRecDepth 100000 in
theorem zx_ckM_2 : (zx_ml_2.zip (zx_mc.drop 80)).all (fun q => zx_ckm q.1 q.2) = true := by decide +kernel
set_option maxRecDepth 100000 in
theorem zx_ckM_3 : (zx_ml_3.zip (zx_mc.drop 120)).all (fun q => zx_ckm q.1 q.2) = true := by decide +kernel
set_option maxRecDepth 100000 in
theorem zx_ckM_4 : (zx_ml_4.zip (zx_mc.drop 160)).all (fun q => zx_ckm q.1 q.2) = true := by decide +kernel
set_option maxRecDepth 100000 in
theorem zx_ckM_5 : (zx_ml_5.zip (zx_mc.drop 200)).all (fun q => zx_ckm q.1 q.2) = true := by decide +kernel
set_option maxRecDepth 100000 in
theorem zx_ml_len : zx_ml.length = 221 ∧ zx_mc.length = 221 := by decide +kernel
def zx_cka {α : Type} (l : List (List α)) (f : Nat → α → Bool) : Bool := l.zipIdx.all (fun q => q.1.all (f q.2))
def zx_ckF (o : Nat) (e : Nat × Nat × Nat × Nat × Nat) : Bool := decide (e.2.1 < 9) && (decide (e.2.2.1 < zx_fn e.2.1) && (match e.2.2.2.1 with
  | 0 => zx_inG e.2.2.2.2 (.fieldLink (zx_o o) e.1 (zx_T8 e.2.1 e.2.2.1).1 (zx_T8 e.2.1 e.2.2.1).2.1 (zx_T8 e.2.1 e.2.2.1).2.2.1)
  | 1 => zx_inN e.2.2.2.2 (.fieldLinkNest (zx_o o) e.1 (zx_T8 e.2.1 e.2.2.1).1 (zx_T8 e.2.1 e.2.2.1).2.1 (zx_T8 e.2.1 e.2.2.1).2.2.1 zx_host)
  | _ => false))
set_option maxRecDepth 100000 in
theorem zx_ckF_all : zx_cka zx_lF zx_ckF = true := by decide +kernel
def zx_ckL (o : Nat) (e : Nat × Nat × Nat × Nat) : Bool := match e.2.2.1 with
  | 0 => zx_inG e.2.2.2 (.methodLink (zx_o o) e.1 (zx_my (zx_m e.2.1)))
  | 1 => zx_inN e.2.2.2 (.methodLinkNest (zx_o o) e.1 (zx_my (zx_m e.2.1)) zx_host)
  | _ => false
set_option maxRecDepth 100000 in
theorem zx_ckL_all : zx_cka zx_lM zx_ckL = true := by decide +kernel
set_option maxRecDepth 100000 in
theorem zx_ckC_all : zx_cka zx_lC (fun o e => zx_inG e.2.2 (.classLink (zx_o o) e.1 (zx_R9 e.2.1)) && decide (e.2.1 < 9)) = true := by decide +kernel
set_option maxRecDepth 100000 in
theorem zx_ckI_all : zx_cka zx_lI (fun o e => zx_inG e.2.2 (.constant (zx_o o) e.1 e.2.1)) = true := by decide +kernel
set_option maxRecDepth 100000 in
theorem zx_ckJ_all : zx_cka zx_lL (fun o e => zx_inG e.2.2 (.constantLong (zx_o o) e.1 e.2.1)) = true := by decide +kernel
def zx_sx (g : Nat) : String × String × String := (zx_sn[g]?).getD ("", "", "")
set_option maxRecDepth 100000 in
theorem zx_ckG_all : zx_cka zx_lG (fun o e => match e.2.2.1 with
  | 0 => zx_inG e.2.2.2 (.fieldLink (zx_o o) e.1 (zx_sx e.2.1).1 (zx_sx e.2.1).2.1 (zx_sx e.2.1).2.2)
  | 1 => zx_inN e.2.2.2 (.fieldLinkNest (zx_o o) e.1 (zx_sx e.2.1).1 (zx_sx e.2.1).2.1 (zx_sx e.2.1).2.2 zx_host)
  | _ => false) = true := by decide +kernel
set_option maxRecDepth 100000 in
theorem zx_ckA_all : zx_cka zx_lA (fun o e => zx_inG e.2 (.methodLink (zx_o o) e.1 arraycopyName)) = true := by decide +kernel
set_option maxRecDepth 100000 in
theorem zx_ckO_all : zx_cka zx_lO (fun o e => zx_inG e.2 (.methodLink (zx_o o) e.1 Lib.objectInit)) = true := by decide +kernel
set_option maxRecDepth 100000 in
theorem zx_ckK_all : zx_cka zx_lK (fun o e => match e.2.1 with
  | 0 => zx_inG e.2.2 (.fieldLink (zx_o o) e.1 "java/lang/String" "value" "[B")
  | 1 => zx_inG e.2.2 (.fieldLink (zx_o o) e.1 "java/lang/String" "coder" "B")
  | _ => false) = true := by decide +kernel
set_option maxRecDepth 100000 in
theorem zx_ckP : (List.range 9).all (fun i => match zx_pI[i]? with
  | some q => zx_inG q.1 (.instantiable (zx_R9 i) (zx_fn i)) && zx_inG q.2 (.initialized (zx_R9 i))
  | none => false) = true := by decide +kernel
set_option maxRecDepth 100000 in
theorem zx_ckX : (zx_inG 153 (.arrayClass .int) && (zx_inG 355 (.arrayClass .long) && (zx_inG 90 (.initialized "java/lang/System") && (zx_inG 439 (.native arraycopyName) && (zx_inG 438 (.static arraycopyName) && (zx_inG 103 (.instanceMethod Lib.objectInit) && zx_inG 104 (.code Lib.objectInit ⟨#[0xb1]⟩ 1 none))))))) = true := by decide +kernel
set_option maxRecDepth 100000 in
theorem zx_ckU : (List.range 9).all (fun i => (u_ws (zx_R9 i) (zx_T8 i) (zx_fn i)).all (fun w => decide (w ∈ zx_G))) = true := by decide +kernel
set_option maxRecDepth 100000 in
theorem zx_ckS : zx_st.all (fun q => zx_at q.2.2 (.stringRef RX4 q.2.1 q.1)) = true := by decide +kernel
set_option maxRecDepth 100000 in
theorem zx_ckY : zx_at 106 (.arrayOver (.object RX3)) = true ∧ zx_at 246 (.arrayOver (.object RX5)) = true := by decide +kernel
end
section
/-! part 06: the machine's states and the small machine's: what a value, a cell, a row of locals stands for -/
def zx_c (fx : Nat → Nat → Nat) (vq : Value) (ad : Nat → Nat) : zx_V → Value
  | .inl x => .int x
  | .inr (.inl y) => .long y
  | .inr (.inr (0, _)) => .null
  | .inr (.inr (1, i)) => .ref (ad i)
  | .inr (.inr (6, _)) => vq
  | .inr (.inr (t, i)) => .ref (fx t i)
def zx_e (fx : Nat → Nat → Nat) (vq : Value) (ct : Nat → ClassId) (ad : Nat → Nat) : zx_C → va_E
  | .inl (ci, fs) => .inr (ci, fs.map (zx_c fx vq ad))
  | .inr (t, .inl f) => .inl (ct t, f.length, .inl (fun j : Nat => f.getD j 0))
  | .inr (t, .inr (.inl f)) => .inl (ct t, f.length, .inr (.inl (fun j : Nat => f.getD j 0)))
  | .inr (t, .inr (.inr f)) => .inl (ct t, f.length, .inr (.inr (.inr (.inr (fun j : Nat => ((f[j]?).getD none).map ad)))))
def zx_w (fx : Nat → Nat → Nat) (vq : Value) (ct : Nat → ClassId) (ad : Nat → Nat) (h : List zx_C) : va_W := h.mapIdx (fun i c => (ad i, zx_e fx vq ct ad c))
def zx_l (fx : Nat → Nat → Nat) (vq : Value) (ad : Nat → Nat) (L : List (Option zx_V)) : List (Nat × Value) := L.zipIdx.filterMap (fun q => q.1.map (fun v => (q.2, zx_c fx vq ad v)))
def zx_ty : Nat → FieldType
  | 0 => .int
  | 1 => .long
  | 2 => .object RX3
  | _ => .object RX5
def zx_tys (ct : Nat → ClassId) : List (ClassId × FieldType) := [(ct 0, .int), (ct 1, .long), (ct 2, .object RX3), (ct 3, .object RX5)]
theorem zx_tyk {ct : Nat → ClassId} {t : Nat} (h : t < 4) : (zx_tys ct)[t]? = some (ct t, zx_ty t) := by
  rcases (show t = 0 ∨ t = 1 ∨ t = 2 ∨ t = 3 by omega) with rfl | rfl | rfl | rfl <;> rfl
theorem zx_clk {ci : Nat} (h : ci < 9) : zx_cl[ci]? = some (zx_R9 ci, zx_T8 ci, zx_fn ci) := by
  rcases (show ci = 0 ∨ ci = 1 ∨ ci = 2 ∨ ci = 3 ∨ ci = 4 ∨ ci = 5 ∨ ci = 6 ∨ ci = 7 ∨ ci = 8 by omega) with rfl | rfl | rfl | rfl | rfl | rfl | rfl | rfl | rfl <;> rfl
theorem zx_ok9 {ci : Nat} (h : ci < 9) : (∀ k, k < zx_fn ci → parseFieldDescriptor (zx_T8 ci k).2.2.1 = some (zx_ft ci k)) ∧ (∀ a, a < zx_fn ci → ∀ b, b < zx_fn ci → a ≠ b → (zx_T8 ci a).2.1 ≠ (zx_T8 ci b).2.1) := by
  rcases (show ci = 0 ∨ ci = 1 ∨ ci = 2 ∨ ci = 3 ∨ ci = 4 ∨ ci = 5 ∨ ci = 6 ∨ ci = 7 ∨ ci = 8 by omega) with rfl | rfl | rfl | rfl | rfl | rfl | rfl | rfl | rfl
  · exact ⟨tyX0_ok, nmX0⟩
  · exact ⟨tyX1_ok, nmX1⟩
  · exact ⟨tyX2_ok, nmX2⟩
  · exact ⟨tyX3_ok, nmX3⟩
  · exact ⟨tyX4_ok, nmX4⟩
  · exact ⟨tyX5_ok, nmX5⟩
  · exact ⟨tyX6_ok, nmX6⟩
  · exact ⟨tyX7_ok, nmX7⟩
  · exact ⟨tyX8_ok, nmX8⟩
section
variable {fx : Nat → Nat → Nat} {vq : Value} {ct : Nat → ClassId} {ad ad' : Nat → Nat} {h : List zx_C} {L : List (Option zx_V)}
theorem zx_w_get {i : Nat} {x : zx_C} (hc : h[i]? = some x) : (zx_w fx vq ct ad h)[i]? = some (ad i, zx_e fx vq ct ad x) := by
  unfold zx_w
  rw [List.getElem?_mapIdx, hc]
  rfl
theorem zx_w_set {i : Nat} {x : zx_C} : zx_w fx vq ct ad (h.set i x) = (zx_w fx vq ct ad h).set i (ad i, zx_e fx vq ct ad x) := by
  apply List.ext_getElem?
  intro j
  unfold zx_w
  rw [List.getElem?_mapIdx, List.getElem?_set, List.getElem?_set, List.getElem?_mapIdx, List.length_mapIdx]
  by_cases e : i = j
  · subst e
    by_cases e2 : i < h.length
    · simp [e2]
    · simp [e2]
  · simp [e]
theorem zx_l_mem {i : Nat} {w : Value} : (i, w) ∈ zx_l fx vq ad L ↔ ∃ v, L[i]? = some (some v) ∧ w = zx_c fx vq ad v := by
  unfold zx_l
  rw [List.mem_filterMap]
  constructor
  · rintro ⟨⟨o, j⟩, h1, h2⟩
    have h1' := List.mem_zipIdx_iff_getElem?.mp h1
    cases o with
    | none => cases h2
    | some v =>
      have h2' : (j, zx_c fx vq ad v) = (i, w) := Option.some.inj h2
      injection h2' with a b
      subst a
      exact ⟨v, h1', b.symm⟩
  · rintro ⟨v, h1, rfl⟩
    exact ⟨(some v, i), List.mem_zipIdx_iff_getElem?.mpr h1, rfl⟩
theorem zx_l_get {ls : Array Slot} {n i : Nat} {v : zx_V} (hl : lv_has ls n (zx_l fx vq ad L)) (hv : L[i]? = some (some v)) : ls[i]? = some (.val (zx_c fx vq ad v)) := hl.2.2 (i, _) (zx_l_mem.mpr ⟨v, hv, rfl⟩)
theorem zx_l_sub {ls : Array Slot} {n : Nat} {a b : List (Nat × Value)} (hl : lv_has ls n a) (hs : ∀ q ∈ b, q ∈ a) : lv_has ls n b := ⟨hl.1, hl.2.1, fun q hq => hl.2.2 q (hs q hq)⟩
theorem zx_kd0 {v : zx_V} (h : zx_kd v = 0) : ∃ x, v = .inl x := by
  rcases v with x | x | x
  · exact ⟨x, rfl⟩
  · cases h
  · cases h
theorem zx_kd1 {v : zx_V} (h : zx_kd v = 1) : ∃ x, v = .inr (.inl x) := by
  rcases v with x | x | x
  · cases h
  · exact ⟨x, rfl⟩
  · cases h
theorem zx_kd2 (hq : vq = .null ∨ ∃ t, vq = .ref t) {v : zx_V} (h : zx_kd v = 2) : zx_c fx vq ad v = .null ∨ ∃ a, zx_c fx vq ad v = .ref a := by
  rcases v with x | x | ⟨t, i⟩
  · cases h
  · cases h
  · unfold zx_c
    split <;> first | exact Or.inl rfl | exact hq | exact Or.inr ⟨_, rfl⟩ | (rename_i e; cases e)
theorem zx_cat (hq : vq = .null ∨ ∃ t, vq = .ref t) (v : zx_V) : (zx_c fx vq ad v).category = if zx_c1 v then 1 else 2 := by
  rcases v with x | x | y
  · rfl
  · rfl
  · rcases zx_kd2 (fx := fx) (ad := ad) hq (v := .inr (.inr y)) rfl with e | ⟨a, e⟩ <;> rw [e] <;> rfl
theorem zx_cat1 (hq : vq = .null ∨ ∃ t, vq = .ref t) {v : zx_V} (h : zx_c1 v = true) : (zx_c fx vq ad v).category = 1 := by rw [zx_cat hq, h]; rfl
theorem zx_cat2 (hq : vq = .null ∨ ∃ t, vq = .ref t) {v : zx_V} (h : ¬ zx_c1 v = true) : (zx_c fx vq ad v).category = 2 := by rw [zx_cat hq, if_neg h]
theorem zx_sum (hq : vq = .null ∨ ∃ t, vq = .ref t) : ∀ r : List zx_V, ((r.map (zx_c fx vq ad)).map fun v => v.category).sum = zx_cs r
  | [] => rfl
  | v :: r => by
    show (zx_c fx vq ad v).category + ((r.map (zx_c fx vq ad)).map fun v => v.category).sum = _
    rw [zx_sum hq r, zx_cat hq]
    rfl
-- storing
theorem zx_cl1_len (L : List (Option zx_V)) (i : Nat) : (zx_cl1 L i).length = L.length := by
  cases i with
  | zero => rfl
  | succ i =>
    show (match L[i]? with | some (some (.inr (.inl _))) => L.set i none | _ => L).length = _
    split
    · rw [List.length_set]
    · rfl
theorem zx_cl1_get {i j : Nat} {v : zx_V} (h : (zx_cl1 L i)[j]? = some (some v)) : L[j]? = some (some v) ∧ ¬ (j + 1 = i ∧ (zx_c fx vq ad v).category = 2 ∧ zx_c1 v = false) := by
  cases i with
  | zero => exact ⟨h, by omega⟩
  | succ i =>
    have h2 : (match L[i]? with | some (some (.inr (.inl _))) => L.set i none | _ => L)[j]? = some (some v) := h
    split at h2
    · rename_i z e
      rw [List.getElem?_set] at h2
      by_cases q : i = j
      · rw [if_pos q] at h2
        split at h2 <;> cases h2
      · rw [if_neg q] at h2
        exact ⟨h2, fun w => q (by omega)⟩
    · rename_i e
      refine ⟨h2, fun w => ?_⟩
      have ej : j = i := by omega
      subst ej
      rcases v with x | x | x
      · cases w.2.2
      · exact e x h2
      · cases w.2.2
theorem zx_l_set1 (hq : vq = .null ∨ ∃ t, vq = .ref t) {i : Nat} {v : zx_V} : ∀ q ∈ zx_l fx vq ad ((zx_cl1 L i).set i (some v)), q ∈ (i, zx_c fx vq ad v) :: (zx_l fx vq ad L).filter (fun q => !(q.1 == i) && !(q.1 + 1 == i && q.2.category == 2)) := by
  rintro ⟨j, w⟩ hm
  obtain ⟨u, h1, rfl⟩ := zx_l_mem.mp hm
  rw [List.getElem?_set] at h1
  by_cases e : i = j
  · subst e
    rw [if_pos rfl] at h1
    split at h1
    · have e2 : v = u := Option.some.inj (Option.some.inj h1)
      rw [e2]
      exact List.mem_cons_self
    · cases h1
  · rw [if_neg e] at h1
    obtain ⟨h2, h3⟩ := zx_cl1_get (fx := fx) (vq := vq) (ad := ad) h1
    refine List.mem_cons_of_mem _ (List.mem_filter.mpr ⟨zx_l_mem.mpr ⟨u, h2, rfl⟩, ?_⟩)
    have n1 : ¬ j = i := fun z => e z.symm
    by_cases e3 : j + 1 = i
    · have n2 : ¬ (zx_c fx vq ad u).category = 2 := fun z => h3 ⟨e3, z, by
        by_cases y : zx_c1 u = true
        · rw [zx_cat1 hq y] at z; omega
        · simpa using y⟩
      simp [n1, n2]
    · simp [n1, e3]
theorem zx_l_set2 (hq : vq = .null ∨ ∃ t, vq = .ref t) {i : Nat} {v : zx_V} : ∀ q ∈ zx_l fx vq ad (((zx_cl1 L i).set i (some v)).set (i + 1) none), q ∈ (i, zx_c fx vq ad v) :: (zx_l fx vq ad L).filter (fun q => !(q.1 == i) && (!(q.1 == i + 1) && !(q.1 + 1 == i && q.2.category == 2))) := by
  rintro ⟨j, w⟩ hm
  obtain ⟨u, h1, rfl⟩ := zx_l_mem.mp hm
  rw [List.getElem?_set] at h1
  by_cases e0 : i + 1 = j
  · rw [if_pos e0] at h1
    split at h1 <;> cases h1
  · rw [if_neg e0] at h1
    have h4 := zx_l_set1 (fx := fx) (ad := ad) (L := L) hq (i := i) (v := v) (j, zx_c fx vq ad u) (zx_l_mem.mpr ⟨u, h1, rfl⟩)
    rcases List.mem_cons.mp h4 with h5 | h5
    · rw [h5]
      exact List.mem_cons_self
    · obtain ⟨h6, h7⟩ := List.mem_filter.mp h5
      refine List.mem_cons_of_mem _ (List.mem_filter.mpr ⟨h6, ?_⟩)
      have n0 : ¬ j = i + 1 := fun z => e0 z.symm
      simp only [Bool.and_eq_true] at h7 ⊢
      exact ⟨h7.1, by simp [n0], h7.2⟩
-- another row of addresses
theorem zx_c_ad {n : Nat} (hd : ∀ i, i < n → ad' i = ad i) {v : zx_V} (hv : zx_vl n v = true) : zx_c fx vq ad' v = zx_c fx vq ad v := by
  rcases v with x | x | ⟨t, i⟩
  · rfl
  · rfl
  · unfold zx_c
    split <;> try rfl
    rename_i e
    have e2 := Sum.inr.inj (Sum.inr.inj e)
    injection e2 with e3 e4
    subst e3 e4
    rw [hd _ (by simpa [zx_vl] using hv)]
theorem zx_S_ad {n : Nat} (hd : ∀ i, i < n → ad' i = ad i) {S : List zx_V} (hv : S.all (zx_vl n) = true) : S.map (zx_c fx vq ad') = S.map (zx_c fx vq ad) :=
  List.map_congr_left fun v h => zx_c_ad hd (List.all_eq_true.mp hv v h)
theorem zx_l_ad {n : Nat} (hd : ∀ i, i < n → ad' i = ad i) (hv : L.all (zx_vo n) = true) : ∀ q ∈ zx_l fx vq ad' L, q ∈ zx_l fx vq ad L := by
  rintro ⟨j, w⟩ hm
  obtain ⟨u, h1, rfl⟩ := zx_l_mem.mp hm
  rw [zx_c_ad hd (List.all_eq_true.mp hv (some u) (List.mem_of_getElem? h1))]
  exact zx_l_mem.mpr ⟨u, h1, rfl⟩
theorem zx_e_ad {n : Nat} (hd : ∀ i, i < n → ad' i = ad i) {x : zx_C} (hv : zx_vc n x = true) : zx_e fx vq ct ad' x = zx_e fx vq ct ad x := by
  rcases x with ⟨ci, fs⟩ | ⟨t, f | f | f⟩
  · show Sum.inr (ci, fs.map _) = Sum.inr (ci, fs.map _)
    rw [zx_S_ad hd hv]
  · rfl
  · rfl
  · show Sum.inl (ct t, f.length, Sum.inr (Sum.inr (Sum.inr (Sum.inr (fun j : Nat => ((f[j]?).getD none).map ad'))))) = Sum.inl (ct t, f.length, Sum.inr (Sum.inr (Sum.inr (Sum.inr (fun j : Nat => ((f[j]?).getD none).map ad)))))
    have e : (fun j : Nat => ((f[j]?).getD none).map ad') = (fun j : Nat => ((f[j]?).getD none).map ad) := by
      funext j
      cases e : f[j]? with
      | none => rfl
      | some o =>
        cases o with
        | none => rfl
        | some i =>
          have h1 := List.all_eq_true.mp hv (some i) (List.mem_of_getElem? e)
          show some (ad' i) = some (ad i)
          rw [hd i (by simpa using h1)]
    rw [e]
theorem zx_w_ad (hd : ∀ i, i < h.length → ad' i = ad i) (hv : h.all (zx_vc h.length) = true) : zx_w fx vq ct ad' h = zx_w fx vq ct ad h := by
  unfold zx_w
  apply List.ext_getElem?
  intro j
  rw [List.getElem?_mapIdx, List.getElem?_mapIdx]
  cases e : h[j]? with
  | none => rfl
  | some x =>
    have hj : j < h.length := (List.getElem?_eq_some_iff.mp e).1
    show some (ad' j, zx_e fx vq ct ad' x) = some (ad j, zx_e fx vq ct ad x)
    rw [hd j hj, zx_e_ad hd (List.all_eq_true.mp hv x (List.mem_of_getElem? e))]
theorem zx_w_app {q : Nat} {x : zx_C} (hv : h.all (zx_vc h.length) = true) : zx_w fx vq ct (va_up ad h.length q) (h ++ [x]) = zx_w fx vq ct ad h ++ [(q, zx_e fx vq ct (va_up ad h.length q) x)] := by
  have e1 : zx_w fx vq ct (va_up ad h.length q) (h ++ [x]) = zx_w fx vq ct (va_up ad h.length q) h ++ [((va_up ad h.length q) h.length, zx_e fx vq ct (va_up ad h.length q) x)] := by
    unfold zx_w
    rw [List.mapIdx_concat]
  rw [e1, zx_w_ad (ad := ad) (fun i hi => by unfold va_up; rw [if_neg (by omega)]) hv]
  have e2 : va_up ad h.length q h.length = q := by unfold va_up; rw [if_pos rfl]
  rw [e2]
end
end
section
/-! part 07: each step of the small machine is a step of the machine -/
def zx_St (fx : Nat → Nat → Nat) (vq : Value) (A : Nat → Prop) (sc : zx_Sc) (U : State) (H : Heap) : Prop :=
  (∀ w ∈ zx_nw, va_Nw w U) ∧ va_AO RX3 U ∧ va_AO RX5 U ∧
  (∀ i : Nat, ∀ q : String × Nat × Nat, zx_st[i]? = some q → vk_R RX4 q.2.1 q.1 (fx 2 i) U) ∧
  vk_S 12 zx_sl zx_sb (fx 2) (fx 3) A U H ∧
  (∀ i : Nat, i < 5 → va_Z (zx_sx i).1 (zx_sx i).2.1 (zx_sx i).2.2 (.ref (fx 4 i)) A U H ∧ va_T .int (fx 4 i) (zx_sa.getD i []).length (fun j => .int ((zx_sa.getD i []).getD j 0)) A U H) ∧
  va_Z (zx_sx 5).1 (zx_sx 5).2.1 (zx_sx 5).2.2 (.int 1) A U H ∧ va_Z (zx_sx 6).1 (zx_sx 6).2.1 (zx_sx 6).2.2 vq A U H ∧ (vq = .null ∨ ∃ t, vq = .ref t) ∧
  (∀ q : Nat × (Nat → Int32), sc = some q → va_X (fx 5 0) q.1 q.2 U H ∧ fx 5 0 < H.size ∧ ¬ A (fx 5 0))
theorem zx_lk_mem {α : Type} {l : List (List (Nat × α))} {o i : Nat} {a : α} (h : zx_lk l o i = some a) : ∃ r, l[o]? = some r ∧ (i, a) ∈ r := by
  unfold zx_lk at h
  split at h
  · rename_i r e
    refine ⟨r, e, ?_⟩
    clear e
    induction r with
    | nil => cases h
    | cons q r ih =>
      obtain ⟨k, b⟩ := q
      rw [List.lookup_cons] at h
      split at h
      · rename_i e
        have e2 : i = k := by simpa using e
        cases h
        subst e2
        exact List.mem_cons_self
      · exact List.mem_cons_of_mem _ (ih h)
  · cases h
theorem zx_cka_use {α : Type} {l : List (List (Nat × α))} {f : Nat → Nat × α → Bool} (hk : zx_cka l f = true) {o i : Nat} {a : α} (h : zx_lk l o i = some a) : f o (i, a) = true := by
  obtain ⟨r, h1, h2⟩ := zx_lk_mem h
  have h3 := List.all_eq_true.mp hk (r, o) (List.mem_zipIdx_iff_getElem?.mpr h1)
  exact List.all_eq_true.mp h3 (i, a) h2
theorem zx_Ni {pc : Nat} {L : List (Option zx_V)} {S : List zx_V} {h : List zx_C} {nc ns : Nat} {st : zx_S} (e : zx_N pc L S h nc ns = some (.inl st)) : st = (pc, L, S, h, nc, ns) := (Sum.inl.inj (Option.some.inj e)).symm
theorem zx_Ji {pc : Nat} {off : Int} {L : List (Option zx_V)} {S : List zx_V} {h : List zx_C} {nc ns : Nat} {st : zx_S} (e : zx_J pc off L S h nc ns = some (.inl st)) : ∃ tgt : Nat, (pc : Int) + off = (tgt : Int) ∧ st = (tgt, L, S, h, nc, ns) := by
  unfold zx_J at e
  split at e
  · rename_i g
    exact ⟨_, (Int.toNat_of_nonneg g).symm, zx_Ni e⟩
  · cases e
theorem zx_vin {i : Int32} {n : Nat} (h : ¬ i < 0 ∧ i.toNatClampNeg < n) : vp_in i n := fun q => q.elim h.1 (fun z => absurd h.2 (Nat.not_lt.mpr z))
section
variable {p : Program} {l : Launch} {e : Env} {R : Room} {s : State} {m : MethodId} {args : Array Value} {below : List Frame} {meth : Method} {c : Code} {Q : State → Prop}
variable {fx : Nat → Nat → Nat} {vq : Value} {ct : Nat → ClassId} {ad : Nat → Nat} {A : Nat → Prop} {sc : zx_Sc} {D : va_G} {t : zx_MT} {d : Nat}
variable {pc nc ns : Nat} {L : List (Option zx_V)} {S : List zx_V} {h : List zx_C} {st : zx_S}
/-- what stays true all through a method -/
def zx_Cx (p : Program) (R : Room) (s : State) (m : MethodId) (args : Array Value) (meth : Method) (c : Code) (fx : Nat → Nat → Nat) (vq : Value) (ct : Nat → ClassId) (A : Nat → Prop) (sc : zx_Sc) (D : va_G) (t : zx_MT) (d : Nat) : Prop :=
  p.tables.exec = Jvm.exec ∧ c.code = zx_mb t ∧ c.maxLocals = zx_mn t ∧ s.vm.findClass (zx_o (zx_mo t)) = some m.cls ∧ (∀ w ∈ zx_G, w.before args s = true) ∧ va_K D zx_cl (zx_tys ct) s ∧ (∀ q : Nat, s.heap.size ≤ q → A q) ∧ zx_St fx vq A sc s s.heap ∧ (d + 1 ≤ R.frames ∧ 40 * d + 40 ≤ R.locals) ∧ (zx_mk t = 2 → meth.name = "<init>")
/-- from this state of the small machine the machine comes to an end with Q -/
def zx_Go (p : Program) (l : Launch) (e : Env) (R : Room) (s : State) (m : MethodId) (args : Array Value) (below : List Frame) (meth : Method) (c : Code) (Q : State → Prop) (fx : Nat → Nat → Nat) (vq : Value) (ct : Nat → ClassId) (A : Nat → Prop) (D : va_G) (t : zx_MT) (ad : Nat → Nat) (st : zx_S) : Prop :=
  ∀ (H : Heap) (locs : List Loc) (ls : Array Slot), va_P D zx_cl (zx_w fx vq ct ad st.2.2.2.1) H → va_D A (zx_w fx vq ct ad st.2.2.2.1) → va_S A s.heap H locs → lv_has ls (zx_mn t) (zx_l fx vq ad st.2.1) →
    W p l e R s m args below meth c H locs st.2.2.2.2.1 st.2.2.2.2.2 Q (F0 m st.1 ls (st.2.2.1.map (zx_c fx vq ad)))
theorem zx_s_ld {ty i n : Nat} {v : zx_V} (h1 : zx_ld ty i n pc L S h nc ns = some (.inl st)) : ∃ v, L[i]? = some (some v) ∧ zx_kd v = ty ∧ st = (pc + n, L, v :: S, h, nc, ns) := by
  unfold zx_ld at h1
  split at h1
  · rename_i v e
    split at h1
    · rename_i g
      exact ⟨v, e, g, zx_Ni h1⟩
    · cases h1
  · cases h1
theorem zx_s_load (X : zx_Cx p R s m args meth c fx vq ct A sc D t d) {ty i n : Nat} (h1 : zx_ld ty i n pc L S h nc ns = some (.inl st))
    (h0 : ∀ {x : Int32} {ls : Array Slot} {rest : List Value} {H : Heap} {locs : List Loc}, ty = 0 → ls[i]? = some (.val (.int x)) → W p l e R s m args below meth c H locs nc ns Q (F0 m (pc + n) ls (.int x :: rest)) → W p l e R s m args below meth c H locs nc ns Q (F0 m pc ls rest))
    (h2 : ∀ {x : Int64} {ls : Array Slot} {rest : List Value} {H : Heap} {locs : List Loc}, ty = 1 → ls[i]? = some (.val (.long x)) → W p l e R s m args below meth c H locs nc ns Q (F0 m (pc + n) ls (.long x :: rest)) → W p l e R s m args below meth c H locs nc ns Q (F0 m pc ls rest))
    (h3 : ∀ {x : Nat} {ls : Array Slot} {rest : List Value} {H : Heap} {locs : List Loc}, ty = 2 → ls[i]? = some (.val (.ref x)) → W p l e R s m args below meth c H locs nc ns Q (F0 m (pc + n) ls (.ref x :: rest)) → W p l e R s m args below meth c H locs nc ns Q (F0 m pc ls rest))
    (h4 : ∀ {ls : Array Slot} {rest : List Value} {H : Heap} {locs : List Loc}, ty = 2 → ls[i]? = some (.val .null) → W p l e R s m args below meth c H locs nc ns Q (F0 m (pc + n) ls (.null :: rest)) → W p l e R s m args below meth c H locs nc ns Q (F0 m pc ls rest))
    (hty : ty < 3) (K : zx_Go p l e R s m args below meth c Q fx vq ct A D t ad st) : zx_Go p l e R s m args below meth c Q fx vq ct A D t ad (pc, L, S, h, nc, ns) := by
  obtain ⟨v, hv, hk, rfl⟩ := zx_s_ld (v := .inl 0) h1
  obtain ⟨-, -, -, -, -, -, -, hSt, -, -⟩ := X
  have hq := hSt.2.2.2.2.2.2.2.2.1
  intro H locs ls hP hD hS hl
  have k := K H locs ls hP hD hS hl
  have g := zx_l_get hl hv
  rcases (show ty = 0 ∨ ty = 1 ∨ ty = 2 by omega) with rfl | rfl | rfl
  · obtain ⟨x, rfl⟩ := zx_kd0 hk
    exact h0 rfl g k
  · obtain ⟨x, rfl⟩ := zx_kd1 hk
    exact h2 rfl g k
  · have k2 : W p l e R s m args below meth c H locs nc ns Q (F0 m (pc + n) ls (zx_c fx vq ad v :: S.map (zx_c fx vq ad))) := k
    rcases zx_kd2 (fx := fx) (ad := ad) hq hk with e1 | ⟨a, e1⟩
    · rw [e1] at g k2
      exact h4 rfl g k2
    · rw [e1] at g k2
      exact h3 rfl g k2
theorem zx_s_store (X : zx_Cx p R s m args meth c fx vq ct A sc D t d) {ty i n : Nat} (h1 : zx_sto ty i n pc L S h nc ns = some (.inl st)) (hLn : L.length ≤ zx_mn t)
    (h0 : ∀ {x : Int32} {ls : Array Slot} {rest : List Value} {H : Heap} {locs : List Loc} {lv : List (Nat × Value)}, ty = 0 → lv_has ls (zx_mn t) lv → i < zx_mn t → (∀ ls' : Array Slot, lv_has ls' (zx_mn t) ((i, Value.int x) :: lv.filter (fun q => !(q.1 == i) && !(q.1 + 1 == i && q.2.category == 2))) → W p l e R s m args below meth c H locs nc ns Q (F0 m (pc + n) ls' rest)) → W p l e R s m args below meth c H locs nc ns Q (F0 m pc ls (.int x :: rest)))
    (h3 : ∀ {x : Nat} {ls : Array Slot} {rest : List Value} {H : Heap} {locs : List Loc} {lv : List (Nat × Value)}, ty = 2 → lv_has ls (zx_mn t) lv → i < zx_mn t → (∀ ls' : Array Slot, lv_has ls' (zx_mn t) ((i, Value.ref x) :: lv.filter (fun q => !(q.1 == i) && !(q.1 + 1 == i && q.2.category == 2))) → W p l e R s m args below meth c H locs nc ns Q (F0 m (pc + n) ls' rest)) → W p l e R s m args below meth c H locs nc ns Q (F0 m pc ls (.ref x :: rest)))
    (h4 : ∀ {ls : Array Slot} {rest : List Value} {H : Heap} {locs : List Loc} {lv : List (Nat × Value)}, ty = 2 → lv_has ls (zx_mn t) lv → i < zx_mn t → (∀ ls' : Array Slot, lv_has ls' (zx_mn t) ((i, Value.null) :: lv.filter (fun q => !(q.1 == i) && !(q.1 + 1 == i && q.2.category == 2))) → W p l e R s m args below meth c H locs nc ns Q (F0 m (pc + n) ls' rest)) → W p l e R s m args below meth c H locs nc ns Q (F0 m pc ls (.null :: rest)))
    (hty : ty = 0 ∨ ty = 2) (K : zx_Go p l e R s m args below meth c Q fx vq ct A D t ad st) : zx_Go p l e R s m args below meth c Q fx vq ct A D t ad (pc, L, S, h, nc, ns) := by
  obtain ⟨-, -, -, -, -, -, -, hSt, -, -⟩ := X
  have hq := hSt.2.2.2.2.2.2.2.2.1
  unfold zx_sto at h1
  split at h1
  · rename_i v r
    split at h1
    · rename_i g
      obtain ⟨hk, hc1, hi⟩ := g
      obtain rfl := zx_Ni h1
      intro H locs ls hP hD hS hl
      have hin : i < zx_mn t := by omega
      have k : ∀ ls' : Array Slot, lv_has ls' (zx_mn t) ((i, zx_c fx vq ad v) :: (zx_l fx vq ad L).filter (fun q => !(q.1 == i) && !(q.1 + 1 == i && q.2.category == 2))) → W p l e R s m args below meth c H locs nc ns Q (F0 m (pc + n) ls' (r.map (zx_c fx vq ad))) := fun ls' h' => K H locs ls' hP hD hS (zx_l_sub h' (zx_l_set1 hq))
      show W p l e R s m args below meth c H locs nc ns Q (F0 m pc ls (zx_c fx vq ad v :: r.map (zx_c fx vq ad)))
      rcases hty with rfl | rfl
      · obtain ⟨x, rfl⟩ := zx_kd0 hk
        exact h0 rfl hl hin k
      · rcases zx_kd2 (fx := fx) (ad := ad) hq hk with e1 | ⟨a, e1⟩
        · rw [e1] at k ⊢
          exact h4 rfl hl hin k
        · rw [e1] at k ⊢
          exact h3 rfl hl hin k
    · cases h1
  · cases h1
theorem zx_s_stl (X : zx_Cx p R s m args meth c fx vq ct A sc D t d) {i n : Nat} (h1 : zx_stl i n pc L S h nc ns = some (.inl st)) (hLn : L.length ≤ zx_mn t)
    (h0 : ∀ {x : Int64} {ls : Array Slot} {rest : List Value} {H : Heap} {locs : List Loc} {lv : List (Nat × Value)}, lv_has ls (zx_mn t) lv → i + 1 < zx_mn t → (∀ ls' : Array Slot, lv_has ls' (zx_mn t) ((i, Value.long x) :: lv.filter (fun q => !(q.1 == i) && (!(q.1 == i + 1) && !(q.1 + 1 == i && q.2.category == 2)))) → W p l e R s m args below meth c H locs nc ns Q (F0 m (pc + n) ls' rest)) → W p l e R s m args below meth c H locs nc ns Q (F0 m pc ls (.long x :: rest)))
    (K : zx_Go p l e R s m args below meth c Q fx vq ct A D t ad st) : zx_Go p l e R s m args below meth c Q fx vq ct A D t ad (pc, L, S, h, nc, ns) := by
  obtain ⟨-, -, -, -, -, -, -, hSt, -, -⟩ := X
  have hq := hSt.2.2.2.2.2.2.2.2.1
  unfold zx_stl at h1
  split at h1
  · split at h1
    · rename_i x r g
      obtain rfl := zx_Ni h1
      intro H locs ls hP hD hS hl
      exact h0 hl (by omega) (fun ls' h' => K H locs ls' hP hD hS (zx_l_sub h' (zx_l_set2 hq)))
    · cases h1
  · cases h1
theorem zx_s_iinc (X : zx_Cx p R s m args meth c fx vq ct A sc D t d) {i : Nat} {z : Int} (hdg : decode (zx_mb t) pc = .ok (.iinc i z, 3)) (h1 : zx_iinc i z pc L S h nc ns = some (.inl st)) (hLn : L.length ≤ zx_mn t)
    (K : zx_Go p l e R s m args below meth c Q fx vq ct A D t ad st) : zx_Go p l e R s m args below meth c Q fx vq ct A D t ad (pc, L, S, h, nc, ns) := by
  obtain ⟨hx, hb, -, -, -, -, -, hSt, -, -⟩ := X
  have hq := hSt.2.2.2.2.2.2.2.2.1
  unfold zx_iinc at h1
  split at h1
  · rename_i x g
    obtain rfl := zx_Ni h1
    intro H locs ls hP hD hS hl
    have hi : i < L.length := (List.getElem?_eq_some_iff.mp g).1
    have hm : (i, Value.int x) ∈ zx_l fx vq ad L := zx_l_mem.mpr ⟨_, g, rfl⟩
    obtain ⟨k, hk⟩ := List.getElem?_of_mem hm
    exact lv_iinc hx hb hdg hl hk rfl (by omega) rfl (fun ls' h' => K H locs ls' hP hD hS (zx_l_sub h' (zx_l_set1 (v := .inl (x + Int32.ofInt z)) hq)))
  · cases h1
theorem zx_s_bin (X : zx_Cx p R s m args meth c fx vq ct A sc D t d) {ins : Instr} (hdg : decode (zx_mb t) pc = .ok (ins, 1)) (h1 : zx_bin ins pc L S h nc ns = some (.inl st))
    (K : zx_Go p l e R s m args below meth c Q fx vq ct A D t ad st) : zx_Go p l e R s m args below meth c Q fx vq ct A D t ad (pc, L, S, h, nc, ns) := by
  obtain ⟨hx, hb, -⟩ := X
  unfold zx_bin at h1
  split at h1
  · rename_i y x r
    split at h1
    · rename_i z g
      obtain rfl := zx_Ni h1
      intro H locs ls hP hD hS hl
      have k := K H locs ls hP hD hS hl
      unfold zx_b2 at g
      split at g
      · cases g; exact lv_iadd hx hb hdg k
      · cases g; exact lv_isub hx hb hdg k
      · cases g; exact lv_imul hx hb hdg k
      · cases g; exact lv_iand hx hb hdg k
      · cases g; exact lv_ior hx hb hdg k
      · cases g; exact lv_ixor hx hb hdg k
      · cases g; exact lv_ishl hx hb hdg k
      · cases g; exact lv_ishr hx hb hdg k
      · cases g; exact lv_iushr hx hb hdg rfl k
      · split at g
        · cases g
        · rename_i hne; cases g; exact lv_idiv hx hb hdg hne k
      · split at g
        · cases g
        · rename_i hne; cases g; exact lv_irem hx hb hdg hne k
      · cases g
    · cases h1
  · cases h1
theorem zx_s_un (X : zx_Cx p R s m args meth c fx vq ct A sc D t d) {ins : Instr} (hdg : decode (zx_mb t) pc = .ok (ins, 1)) (h1 : zx_un ins pc L S h nc ns = some (.inl st))
    (K : zx_Go p l e R s m args below meth c Q fx vq ct A D t ad st) : zx_Go p l e R s m args below meth c Q fx vq ct A D t ad (pc, L, S, h, nc, ns) := by
  obtain ⟨hx, hb, -⟩ := X
  unfold zx_un at h1
  split at h1
  · split at h1
    · rename_i z g
      obtain rfl := zx_Ni h1
      intro H locs ls hP hD hS hl
      have k := K H locs ls hP hD hS hl
      unfold zx_b1 at g
      split at g
      · cases g; exact lv_ineg hx hb hdg k
      · cases g; exact lv_i2b hx hb hdg rfl k
      · cases g; exact lv_i2s hx hb hdg rfl k
      · cases g; exact lv_i2c hx hb hdg rfl k
      · cases g
    · cases h1
  · cases h1
theorem zx_s_lng (X : zx_Cx p R s m args meth c fx vq ct A sc D t d) {ins : Instr} (hdg : decode (zx_mb t) pc = .ok (ins, 1)) (h1 : zx_lng ins pc L S h nc ns = some (.inl st))
    (K : zx_Go p l e R s m args below meth c Q fx vq ct A D t ad st) : zx_Go p l e R s m args below meth c Q fx vq ct A D t ad (pc, L, S, h, nc, ns) := by
  obtain ⟨hx, hb, -⟩ := X
  unfold zx_lng at h1
  split at h1
  · obtain rfl := zx_Ni h1
    intro H locs ls hP hD hS hl
    exact lv_i2l hx hb hdg rfl (K H locs ls hP hD hS hl)
  · obtain rfl := zx_Ni h1
    intro H locs ls hP hD hS hl
    exact lv_l2i hx hb hdg rfl (K H locs ls hP hD hS hl)
  · obtain rfl := zx_Ni h1
    intro H locs ls hP hD hS hl
    exact lv_land hx hb hdg (K H locs ls hP hD hS hl)
  · obtain rfl := zx_Ni h1
    intro H locs ls hP hD hS hl
    exact lv_lor hx hb hdg (K H locs ls hP hD hS hl)
  · obtain rfl := zx_Ni h1
    intro H locs ls hP hD hS hl
    exact lv_lshl hx hb hdg rfl (K H locs ls hP hD hS hl)
  · cases h1
theorem zx_s_stk (X : zx_Cx p R s m args meth c fx vq ct A sc D t d) {ins : Instr} (hdg : decode (zx_mb t) pc = .ok (ins, 1)) (h1 : zx_stk ins pc L S h nc ns = some (.inl st))
    (K : zx_Go p l e R s m args below meth c Q fx vq ct A D t ad st) : zx_Go p l e R s m args below meth c Q fx vq ct A D t ad (pc, L, S, h, nc, ns) := by
  obtain ⟨hx, hb, -, -, -, -, -, hSt, -, -⟩ := X
  have hq := hSt.2.2.2.2.2.2.2.2.1
  unfold zx_stk at h1
  split at h1
  · split at h1
    · rename_i g
      obtain rfl := zx_Ni h1
      intro H locs ls hP hD hS hl
      exact lv_dup hx hb hdg (zx_cat1 hq g) (K H locs ls hP hD hS hl)
    · cases h1
  · split at h1
    · rename_i g
      obtain rfl := zx_Ni h1
      intro H locs ls hP hD hS hl
      exact lv_pop hx hb hdg (zx_cat1 hq g) (K H locs ls hP hD hS hl)
    · cases h1
  · split at h1
    · rename_i g
      obtain rfl := zx_Ni h1
      intro H locs ls hP hD hS hl
      exact lv_dup_x1 hx hb hdg (zx_cat1 hq g.1) (zx_cat1 hq g.2) (K H locs ls hP hD hS hl)
    · cases h1
  · split at h1
    · rename_i g
      obtain rfl := zx_Ni h1
      intro H locs ls hP hD hS hl
      exact lv_dup2_11 hx hb hdg (zx_cat1 hq g.1) (zx_cat1 hq g.2) (K H locs ls hP hD hS hl)
    · cases h1
  · split at h1
    · cases h1
    · rename_i g
      obtain rfl := zx_Ni h1
      intro H locs ls hP hD hS hl
      exact lv_pop2_2 hx hb hdg (zx_cat2 hq g) (K H locs ls hP hD hS hl)
  · cases h1
theorem zx_s_br {b : Bool} {off : Int} {r : List zx_V} {S0 : List zx_V} (h1 : zx_br b off pc L r h nc ns = some (.inl st))
    (kk : ∀ {tgt : Nat} {ls : Array Slot} {H : Heap} {locs : List Loc}, (pc : Int) + off = (tgt : Int) → (b = true → W p l e R s m args below meth c H locs nc ns Q (F0 m tgt ls (r.map (zx_c fx vq ad)))) → (b = false → W p l e R s m args below meth c H locs nc ns Q (F0 m (pc + 3) ls (r.map (zx_c fx vq ad)))) → W p l e R s m args below meth c H locs nc ns Q (F0 m pc ls (S0.map (zx_c fx vq ad))))
    (K : zx_Go p l e R s m args below meth c Q fx vq ct A D t ad st) : zx_Go p l e R s m args below meth c Q fx vq ct A D t ad (pc, L, S0, h, nc, ns) := by
  unfold zx_br at h1
  split at h1
  · rename_i g0
    split at h1
    · rename_i g
      obtain rfl := zx_Ni h1
      intro H locs ls hP hD hS hl
      exact kk (Int.toNat_of_nonneg g0).symm (fun _ => K H locs ls hP hD hS hl) (fun z => by rw [g] at z; cases z)
    · rename_i g
      obtain rfl := zx_Ni h1
      intro H locs ls hP hD hS hl
      exact kk (Int.toNat_of_nonneg g0).symm (fun z => absurd z g) (fun _ => K H locs ls hP hD hS hl)
  · cases h1
theorem zx_s_if1 (X : zx_Cx p R s m args meth c fx vq ct A sc D t d) {cn : ClassFile.Cond} {off : Int} (hdg : decode (zx_mb t) pc = .ok (.ifCond cn off, 3)) (h1 : zx_if1 cn off pc L S h nc ns = some (.inl st))
    (K : zx_Go p l e R s m args below meth c Q fx vq ct A D t ad st) : zx_Go p l e R s m args below meth c Q fx vq ct A D t ad (pc, L, S, h, nc, ns) := by
  obtain ⟨hx, hb, -⟩ := X
  unfold zx_if1 at h1
  split at h1
  · refine zx_s_br h1 (fun ht k1 k2 => ?_) K
    cases cn
    · exact lv_if_eq hx hb hdg ht (fun z => k1 (decide_eq_true z)) (fun z => k2 (decide_eq_false z))
    · exact lv_if_ne hx hb hdg ht (fun z => k1 (decide_eq_true z)) (fun z => k2 (decide_eq_false (fun y => y z)))
    · exact lv_if_lt hx hb hdg ht (fun z => k1 (decide_eq_true z)) (fun z => k2 (decide_eq_false z))
    · exact lv_if_ge hx hb hdg ht (fun z => k1 (decide_eq_true z)) (fun z => k2 (decide_eq_false z))
    · exact lv_if_gt hx hb hdg ht (fun z => k1 (decide_eq_true z)) (fun z => k2 (decide_eq_false z))
    · exact lv_if_le hx hb hdg ht (fun z => k1 (decide_eq_true z)) (fun z => k2 (decide_eq_false z))
  · cases h1
theorem zx_s_if2 (X : zx_Cx p R s m args meth c fx vq ct A sc D t d) {cn : ClassFile.Cond} {off : Int} (hdg : decode (zx_mb t) pc = .ok (.if_icmp cn off, 3)) (h1 : zx_if2 cn off pc L S h nc ns = some (.inl st))
    (K : zx_Go p l e R s m args below meth c Q fx vq ct A D t ad st) : zx_Go p l e R s m args below meth c Q fx vq ct A D t ad (pc, L, S, h, nc, ns) := by
  obtain ⟨hx, hb, -⟩ := X
  unfold zx_if2 at h1
  split at h1
  · refine zx_s_br h1 (fun ht k1 k2 => ?_) K
    cases cn
    · exact lv_icmp_eq hx hb hdg ht (fun z => k1 (decide_eq_true z)) (fun z => k2 (decide_eq_false z))
    · exact lv_icmp_ne hx hb hdg ht (fun z => k1 (decide_eq_true z)) (fun z => k2 (decide_eq_false (fun y => y z)))
    · exact lv_icmp_lt hx hb hdg ht (fun z => k1 (decide_eq_true z)) (fun z => k2 (decide_eq_false z))
    · exact lv_icmp_ge hx hb hdg ht (fun z => k1 (decide_eq_true z)) (fun z => k2 (decide_eq_false z))
    · exact lv_icmp_gt hx hb hdg ht (fun z => k1 (decide_eq_true z)) (fun z => k2 (decide_eq_false z))
    · exact lv_icmp_le hx hb hdg ht (fun z => k1 (decide_eq_true z)) (fun z => k2 (decide_eq_false z))
  · cases h1
theorem zx_s_goto (X : zx_Cx p R s m args meth c fx vq ct A sc D t d) {off : Int} (hdg : decode (zx_mb t) pc = .ok (.goto off, 3)) (h1 : zx_J pc off L S h nc ns = some (.inl st))
    (K : zx_Go p l e R s m args below meth c Q fx vq ct A D t ad st) : zx_Go p l e R s m args below meth c Q fx vq ct A D t ad (pc, L, S, h, nc, ns) := by
  obtain ⟨hx, hb, -⟩ := X
  obtain ⟨tgt, ht, rfl⟩ := zx_Ji h1
  intro H locs ls hP hD hS hl
  exact lv_goto hx hb hdg ht (K H locs ls hP hD hS hl)
theorem zx_s_tsw (X : zx_Cx p R s m args meth c fx vq ct A sc D t d) {dflt lo hi : Int} {offs : Array Int} {len : Nat} (hdg : decode (zx_mb t) pc = .ok (.tableswitch dflt lo hi offs, len)) (h1 : zx_tsw dflt lo hi offs pc L S h nc ns = some (.inl st))
    (K : zx_Go p l e R s m args below meth c Q fx vq ct A D t ad st) : zx_Go p l e R s m args below meth c Q fx vq ct A D t ad (pc, L, S, h, nc, ns) := by
  obtain ⟨hx, hb, -⟩ := X
  unfold zx_tsw at h1
  split at h1
  · split at h1
    · rename_i g
      obtain ⟨tgt, ht, rfl⟩ := zx_Ji h1
      intro H locs ls hP hD hS hl
      exact lv_tableOut hx hb hdg g ht (K H locs ls hP hD hS hl)
    · rename_i g
      split at h1
      · rename_i off g2
        obtain ⟨tgt, ht, rfl⟩ := zx_Ji h1
        intro H locs ls hP hD hS hl
        exact lv_tableIn hx hb hdg (fun z => g (Or.inl z)) (fun z => g (Or.inr z)) g2 ht (K H locs ls hP hD hS hl)
      · cases h1
  · cases h1
theorem zx_s_lsw (X : zx_Cx p R s m args meth c fx vq ct A sc D t d) {dflt : Int} {ps : Array (Int × Int)} {len : Nat} (hdg : decode (zx_mb t) pc = .ok (.lookupswitch dflt ps, len)) (h1 : zx_lsw dflt ps pc L S h nc ns = some (.inl st))
    (K : zx_Go p l e R s m args below meth c Q fx vq ct A D t ad st) : zx_Go p l e R s m args below meth c Q fx vq ct A D t ad (pc, L, S, h, nc, ns) := by
  obtain ⟨hx, hb, -⟩ := X
  unfold zx_lsw at h1
  split at h1
  · split at h1
    · rename_i g
      obtain ⟨tgt, ht, rfl⟩ := zx_Ji h1
      intro H locs ls hP hD hS hl
      exact lv_lookup hx hb hdg g rfl ht (K H locs ls hP hD hS hl)
    · cases h1
  · cases h1
end
end
section
/-! part 08: fields, statics, rows, constants -/
section
variable {p : Program} {l : Launch} {e : Env} {R : Room} {s : State} {m : MethodId} {args : Array Value} {below : List Frame} {meth : Method} {c : Code} {Q : State → Prop}
variable {fx : Nat → Nat → Nat} {vq : Value} {ct : Nat → ClassId} {ad : Nat → Nat} {A : Nat → Prop} {sc : zx_Sc} {D : va_G} {t : zx_MT} {d : Nat}
variable {pc nc ns : Nat} {L : List (Option zx_V)} {S : List zx_V} {h : List zx_C} {st : zx_S}
theorem zx_hin {ci : Nat} (h : ci < 9) : ∀ w ∈ u_ws (zx_R9 ci) (zx_T8 ci) (zx_fn ci), w ∈ zx_G := by
  have h1 := List.all_eq_true.mp zx_ckU ci (List.mem_range.mpr h)
  intro w hw
  have h2 := List.all_eq_true.mp h1 w hw
  simpa using h2
theorem zx_nest {w : Cond} (hN : ∀ w ∈ zx_nw, va_Nw w s) (hw : w ∈ zx_nw) : w.before args s = true := by
  have h1 := (List.mem_filter.mp hw).2
  have h2 := hN w hw
  cases w <;> first | exact va_Nw.use rfl h2 | (exact absurd h1 (by intro z; cases z))
theorem zx_s_gf (X : zx_Cx p R s m args meth c fx vq ct A sc D t d) {ix : Nat} (hdg : decode (zx_mb t) pc = .ok (.getfield ix, 3)) (h1 : zx_gf (zx_mo t) ix pc L S h nc ns = some (.inl st))
    (K : zx_Go p l e R s m args below meth c Q fx vq ct A D t ad st) : zx_Go p l e R s m args below meth c Q fx vq ct A D t ad (pc, L, S, h, nc, ns) := by
  obtain ⟨hx, hb, -, hown, hts, hK, -, hSt, -, -⟩ := X
  unfold zx_gf at h1
  split at h1
  · split at h1
    · rename_i a r _ _ ci k np ci' fs e1 e2
      split at h1
      · rename_i g
        subst g
        split at h1
        · rename_i v g2
          obtain rfl := zx_Ni h1
          have hF := zx_cka_use zx_ckF_all e1
          simp only [zx_ckF, Bool.and_eq_true, decide_eq_true_eq] at hF
          obtain ⟨hci, hk, hF⟩ := hF
          intro H locs ls hP hD hS hl
          have he := zx_w_get (fx := fx) (vq := vq) (ct := ct) (ad := ad) e2
          have hv : (fs.map (zx_c fx vq ad))[k]? = some (zx_c fx vq ad v) := by rw [List.getElem?_map, g2]; rfl
          split at hF
          · exact va_get hx hb hts (zx_hin hci) hown hK hP _ he (zx_clk hci) k hk (hts _ (zx_inG_mem hF)) (fun _ h9 => h9) hv hdg (K H locs ls hP hD hS hl)
          · exact va_getN hx hb hts (zx_hin hci) hown hK hP _ he (zx_clk hci) k hk (zx_nest hSt.1 (zx_inN_mem hF)) (fun _ h9 => h9) hv hdg (K H locs ls hP hD hS hl)
          · cases hF
        · cases h1
      · cases h1
    · cases h1
  · rename_i a r
    split at h1
    · rename_i ha
      have hE := hSt.2.2.2.2.1.1 a ha
      split at h1
      · rename_i e1
        obtain rfl := zx_Ni h1
        have hF := zx_cka_use zx_ckK_all e1
        intro H locs ls hP hD hS hl
        exact vk_getf hx hb hE.2.2.1 hS hown (hts _ (zx_inG_mem hF)) (fun _ h9 => h9) hdg (K H locs ls hP hD hS hl)
      · rename_i e1
        obtain rfl := zx_Ni h1
        have hF := zx_cka_use zx_ckK_all e1
        intro H locs ls hP hD hS hl
        exact vk_getf hx hb hE.2.1 hS hown (hts _ (zx_inG_mem hF)) (fun _ h9 => h9) hdg (K H locs ls hP hD hS hl)
      · cases h1
    · cases h1
  · cases h1
theorem zx_fits_ok {ty : FieldType} {v : zx_V} (h : zx_fit ty v = true) : narrow ty (zx_c fx vq ad v) = zx_c fx vq ad v ∧ fits ty (zx_c fx vq ad v) = true := by
  unfold zx_fit at h
  split at h
  · exact ⟨rfl, rfl⟩
  · rename_i x
    have h2 : x = 0 ∨ x = 1 := by simpa using h
    rcases h2 with rfl | rfl
    · exact ⟨by show narrow FieldType.boolean (Value.int 0) = Value.int 0; decide, by show fits FieldType.boolean (Value.int 0) = true; decide⟩
    · exact ⟨by show narrow FieldType.boolean (Value.int 1) = Value.int 1; decide, by show fits FieldType.boolean (Value.int 1) = true; decide⟩
  · exact ⟨rfl, rfl⟩
  · exact ⟨rfl, rfl⟩
  · cases h
theorem zx_map_set {α β : Type} (f : α → β) (l : List α) (k : Nat) (v : α) : (l.set k v).map f = (l.map f).set k (f v) := by
  rw [List.map_set]
theorem zx_o9 {ci : Nat} (h : ci < 9) (k : Nat) : (zx_T8 ci k).1 = zx_o ci := by
  rcases (show ci = 0 ∨ ci = 1 ∨ ci = 2 ∨ ci = 3 ∨ ci = 4 ∨ ci = 5 ∨ ci = 6 ∨ ci = 7 ∨ ci = 8 by omega) with rfl | rfl | rfl | rfl | rfl | rfl | rfl | rfl | rfl
  · show (TX0 k).1 = _; unfold TX0; split <;> rfl
  · show (TX1 k).1 = _; unfold TX1; split <;> rfl
  · show (TX2 k).1 = _; unfold TX2; split <;> rfl
  · show (TX3 k).1 = _; unfold TX3; split <;> rfl
  · show (TX4 k).1 = _; unfold TX4; split <;> rfl
  · show (TX5 k).1 = _; unfold TX5; split <;> rfl
  · show (TX6 k).1 = _; unfold TX6; split <;> rfl
  · show (TX7 k).1 = _; unfold TX7; split <;> rfl
  · show (TX8 k).1 = _; unfold TX8; split <;> rfl
theorem zx_s_pf (X : zx_Cx p R s m args meth c fx vq ct A sc D t d) {ix : Nat} (hdg : decode (zx_mb t) pc = .ok (.putfield ix, 3)) (h1 : zx_pf (zx_mo t) (zx_mk t) ix pc L S h nc ns = some (.inl st))
    (K : zx_Go p l e R s m args below meth c Q fx vq ct A D t ad st) : zx_Go p l e R s m args below meth c Q fx vq ct A D t ad (pc, L, S, h, nc, ns) := by
  obtain ⟨hx, hb, -, hown, hts, hK, -, hSt, -, hin⟩ := X
  unfold zx_pf at h1
  split at h1
  · split at h1
    · rename_i v a r _ _ ci k nest pp ci' fs e1 e2
      split at h1
      · rename_i g
        obtain ⟨g, hkl, hfit, hfin⟩ := g
        subst g
        obtain rfl := zx_Ni h1
        have hF := zx_cka_use zx_ckF_all e1
        simp only [zx_ckF, Bool.and_eq_true, decide_eq_true_eq] at hF
        obtain ⟨hci, hk, hF⟩ := hF
        obtain ⟨hty, hnm⟩ := zx_ok9 hci
        obtain ⟨f1, f2⟩ := zx_fits_ok (fx := fx) (vq := vq) (ad := ad) hfit
        intro H locs ls hP hD hS hl
        have he := zx_w_get (fx := fx) (vq := vq) (ct := ct) (ad := ad) e2
        have hlen : k < (fs.map (zx_c fx vq ad)).length := by rw [List.length_map]; exact hkl
        have ew : zx_w fx vq ct ad (h.set a (.inl (ci', fs.set k v))) = (zx_w fx vq ct ad h).set a (ad a, .inr (ci', (fs.map (zx_c fx vq ad)).set k (zx_c fx vq ad v))) := by
          rw [zx_w_set]
          show (zx_w fx vq ct ad h).set a (ad a, Sum.inr (ci', (fs.set k v).map (zx_c fx vq ad))) = _
          rw [zx_map_set]
        have K2 : ∀ (H1 : Heap) (locs1 : List Loc), va_P D zx_cl ((zx_w fx vq ct ad h).set a (ad a, .inr (ci', (fs.map (zx_c fx vq ad)).set k (zx_c fx vq ad v)))) H1 → va_D A ((zx_w fx vq ct ad h).set a (ad a, .inr (ci', (fs.map (zx_c fx vq ad)).set k (zx_c fx vq ad v)))) → va_S A s.heap H1 locs1 → W p l e R s m args below meth c H1 locs1 nc ns Q (F0 m (pc + 3) ls (r.map (zx_c fx vq ad))) := by
          intro H1 locs1 hP1 hD1 hS1
          rw [← ew] at hP1 hD1
          exact K H1 locs1 ls hP1 hD1 hS1 hl
        rcases hfin with hff | ⟨rfl, hkd, hco⟩
        · split at hF
          · exact va_put hx hb hts (zx_hin hci) (zx_ft ci') hty hnm hown hK hP hD hS _ he (zx_clk hci) k hk (hts _ (zx_inG_mem hF)) (fun _ h9 => h9) hff (hty k hk) f1 f2 hlen hdg K2
          · exact va_putN hx hb hts (zx_hin hci) (zx_ft ci') hty hnm hown hK hP hD hS _ he (zx_clk hci) k hk (zx_nest hSt.1 (zx_inN_mem hF)) (fun _ h9 => h9) hff (hty k hk) f1 f2 hlen hdg K2
          · cases hF
        · by_cases hff : (zx_T8 ci' k).2.2.2 = false
          · exact va_put hx hb hts (zx_hin hci) (zx_ft ci') hty hnm hown hK hP hD hS _ he (zx_clk hci) k hk (hts _ (zx_inG_mem hF)) (fun _ h9 => h9) hff (hty k hk) f1 f2 hlen hdg K2
          · exact va_putF hx hb hts (zx_hin hci) (zx_ft ci') hty hnm hown hK hP hD hS _ he (zx_clk hci) k hk (hts _ (zx_inG_mem hF)) (fun _ h9 => h9) (by simpa using hff) (hin hkd) (by rw [zx_o9 hci, hco]) (hty k hk) f1 f2 hlen hdg K2
      · cases h1
    · cases h1
  · cases h1
theorem zx_s_gs (X : zx_Cx p R s m args meth c fx vq ct A sc D t d) {ix : Nat} (hdg : decode (zx_mb t) pc = .ok (.getstatic ix, 3)) (h1 : zx_gs (zx_mo t) ix pc L S h nc ns = some (.inl st))
    (K : zx_Go p l e R s m args below meth c Q fx vq ct A D t ad st) : zx_Go p l e R s m args below meth c Q fx vq ct A D t ad (pc, L, S, h, nc, ns) := by
  obtain ⟨hx, hb, -, hown, hts, hK, -, hSt, -, hin⟩ := X
  unfold zx_gs at h1
  split at h1
  · rename_i g pp e1
    have hF := zx_cka_use zx_ckG_all e1
    have key : ∀ {v : Value} {H : Heap} {locs : List Loc} {ls : Array Slot}, va_Z (zx_sx g).1 (zx_sx g).2.1 (zx_sx g).2.2 v A s s.heap → va_S A s.heap H locs → W p l e R s m args below meth c H locs nc ns Q (F0 m (pc + 3) ls (v :: S.map (zx_c fx vq ad))) → W p l e R s m args below meth c H locs nc ns Q (F0 m pc ls (S.map (zx_c fx vq ad))) := by
      intro v H locs ls hZ hS k
      simp only at hF
      split at hF
      · exact va_gets hx hb hZ hS hown (hts _ (zx_inG_mem hF)) (fun _ h9 => h9) hdg k
      · exact va_getsN hx hb hZ hS hown (zx_nest hSt.1 (zx_inN_mem hF)) (fun _ h9 => h9) hdg k
      · cases hF
    split at h1
    · rename_i g5
      obtain rfl := zx_Ni h1
      intro H locs ls hP hD hS hl
      exact key (hSt.2.2.2.2.2.1 g g5).1 hS (K H locs ls hP hD hS hl)
    · split at h1
      · rename_i g5
        subst g5
        obtain rfl := zx_Ni h1
        intro H locs ls hP hD hS hl
        exact key hSt.2.2.2.2.2.2.1 hS (K H locs ls hP hD hS hl)
      · split at h1
        · rename_i g5
          subst g5
          obtain rfl := zx_Ni h1
          intro H locs ls hP hD hS hl
          exact key hSt.2.2.2.2.2.2.2.1 hS (K H locs ls hP hD hS hl)
        · cases h1
  · cases h1
theorem zx_s_al (X : zx_Cx p R s m args meth c fx vq ct A sc D t d) (hdg : decode (zx_mb t) pc = .ok (.arraylength, 1)) (h1 : zx_al sc pc L S h nc ns = some (.inl st))
    (K : zx_Go p l e R s m args below meth c Q fx vq ct A D t ad st) : zx_Go p l e R s m args below meth c Q fx vq ct A D t ad (pc, L, S, h, nc, ns) := by
  obtain ⟨hx, hb, -, hown, hts, hK, -, hSt, -, hin⟩ := X
  unfold zx_al at h1
  split at h1
  · split at h1
    · rename_i a r _ t0 z e2
      split at h1
      · rename_i g
        obtain rfl := zx_Ni h1
        intro H locs ls hP hD hS hl
        have he := zx_w_get (fx := fx) (vq := vq) (ct := ct) (ad := ad) e2
        rcases z with f | f | f
        · exact va_alen hx hb hK hP _ t0 he (zx_tyk g) rfl hdg (K H locs ls hP hD hS hl)
        · exact va_alen hx hb hK hP _ t0 he (zx_tyk g) rfl hdg (K H locs ls hP hD hS hl)
        · exact va_alen hx hb hK hP _ t0 he (zx_tyk g) rfl hdg (K H locs ls hP hD hS hl)
      · cases h1
    · cases h1
  · split at h1
    · rename_i a r g
      obtain rfl := zx_Ni h1
      intro H locs ls hP hD hS hl
      exact va_tlen hx hb (hSt.2.2.2.2.1.1 a g).2.2.2 hS rfl hdg (K H locs ls hP hD hS hl)
    · cases h1
  · split at h1
    · rename_i q
      have hsc := hSt.2.2.2.2.2.2.2.2.2 q rfl
      obtain rfl := zx_Ni h1
      intro H locs ls hP hD hS hl
      exact va_slen hx hb hsc.1 hsc.2.1 hsc.2.2 hS hdg (K H locs ls hP hD hS hl)
    · cases h1
  · cases h1
theorem zx_s_ial (X : zx_Cx p R s m args meth c fx vq ct A sc D t d) (hdg : decode (zx_mb t) pc = .ok (.iaload, 1)) (h1 : zx_ial sc pc L S h nc ns = some (.inl st))
    (K : zx_Go p l e R s m args below meth c Q fx vq ct A D t ad st) : zx_Go p l e R s m args below meth c Q fx vq ct A D t ad (pc, L, S, h, nc, ns) := by
  obtain ⟨hx, hb, -, hown, hts, hK, -, hSt, -, hin⟩ := X
  unfold zx_ial at h1
  split at h1
  · split at h1
    · rename_i i a r _ f e2
      split at h1
      · rename_i g
        obtain rfl := zx_Ni h1
        intro H locs ls hP hD hS hl
        exact va_iald hx hb hK hP _ 0 (zx_w_get (fx := fx) (vq := vq) (ct := ct) (ad := ad) e2) rfl (zx_vin g) hdg (K H locs ls hP hD hS hl)
      · cases h1
    · cases h1
  · split at h1
    · rename_i i a r g
      obtain rfl := zx_Ni h1
      intro H locs ls hP hD hS hl
      exact va_ti hx hb (hSt.2.2.2.2.2.1 a g.1).2 hS (zx_vin g.2) rfl hdg (K H locs ls hP hD hS hl)
    · cases h1
  · split at h1
    · rename_i q
      split at h1
      · rename_i g
        have hsc := hSt.2.2.2.2.2.2.2.2.2 q rfl
        obtain rfl := zx_Ni h1
        intro H locs ls hP hD hS hl
        exact va_sld hx hb hsc.1 hsc.2.1 hsc.2.2 hS (zx_vin g) hdg (K H locs ls hP hD hS hl)
      · cases h1
    · cases h1
  · cases h1
theorem zx_setf {α : Type} {f : List α} {i : Nat} {x d0 : α} (hi : i < f.length) (j : Nat) : (f.set i x).getD j d0 = if j = i then x else f.getD j d0 := by
  rw [List.getD_eq_getElem?_getD, List.getD_eq_getElem?_getD, List.getElem?_set]
  by_cases e : i = j
  · subst e
    rw [if_pos rfl, if_pos rfl, if_pos hi]
    rfl
  · rw [if_neg e, if_neg (fun q => e q.symm)]
theorem zx_w_ias {a i : Nat} {f : List Int32} {x : Int32} (hi : i < f.length) : zx_w fx vq ct ad (h.set a (.inr (0, .inl (f.set i x)))) = (zx_w fx vq ct ad h).set a (ad a, .inl (ct 0, f.length, .inl (upd (fun j : Nat => f.getD j 0) i x))) := by
  rw [zx_w_set]
  show (zx_w fx vq ct ad h).set a (ad a, .inl (ct 0, (f.set i x).length, .inl (fun j : Nat => (f.set i x).getD j 0))) = _
  have e : (fun j : Nat => (f.set i x).getD j 0) = upd (fun j : Nat => f.getD j 0) i x := by
    funext j
    exact zx_setf hi j
  rw [e, List.length_set]
theorem zx_w_las {a i : Nat} {f : List Int64} {x : Int64} (hi : i < f.length) : zx_w fx vq ct ad (h.set a (.inr (1, .inr (.inl (f.set i x))))) = (zx_w fx vq ct ad h).set a (ad a, .inl (ct 1, f.length, .inr (.inl (vp_updL (fun j : Nat => f.getD j 0) i x)))) := by
  rw [zx_w_set]
  show (zx_w fx vq ct ad h).set a (ad a, .inl (ct 1, (f.set i x).length, .inr (.inl (fun j : Nat => (f.set i x).getD j 0)))) = _
  have e : (fun j : Nat => (f.set i x).getD j 0) = vp_updL (fun j : Nat => f.getD j 0) i x := by
    funext j
    exact zx_setf hi j
  rw [e, List.length_set]
theorem zx_s_ias (X : zx_Cx p R s m args meth c fx vq ct A sc D t d) (hdg : decode (zx_mb t) pc = .ok (.iastore, 1)) (h1 : zx_ias pc L S h nc ns = some (.inl st))
    (K : zx_Go p l e R s m args below meth c Q fx vq ct A D t ad st) : zx_Go p l e R s m args below meth c Q fx vq ct A D t ad (pc, L, S, h, nc, ns) := by
  obtain ⟨hx, hb, -, hown, hts, hK, -, hSt, -, hin⟩ := X
  unfold zx_ias at h1
  split at h1
  · split at h1
    · rename_i x i a r _ f e2
      split at h1
      · rename_i g
        obtain rfl := zx_Ni h1
        intro H locs ls hP hD hS hl
        exact va_iast hx hb hK hP hD hS _ 0 (zx_w_get (fx := fx) (vq := vq) (ct := ct) (ad := ad) e2) rfl (zx_vin g) hdg (fun H1 locs1 hP1 hD1 hS1 => K H1 locs1 ls (by rw [zx_w_ias g.2]; exact hP1) (by rw [zx_w_ias g.2]; exact hD1) hS1 hl)
      · cases h1
    · cases h1
  · cases h1
theorem zx_s_lal (X : zx_Cx p R s m args meth c fx vq ct A sc D t d) (hdg : decode (zx_mb t) pc = .ok (.laload, 1)) (h1 : zx_lal pc L S h nc ns = some (.inl st))
    (K : zx_Go p l e R s m args below meth c Q fx vq ct A D t ad st) : zx_Go p l e R s m args below meth c Q fx vq ct A D t ad (pc, L, S, h, nc, ns) := by
  obtain ⟨hx, hb, -, hown, hts, hK, -, hSt, -, hin⟩ := X
  unfold zx_lal at h1
  split at h1
  · split at h1
    · rename_i i a r _ f e2
      split at h1
      · rename_i g
        obtain rfl := zx_Ni h1
        intro H locs ls hP hD hS hl
        exact va_lald hx hb hK hP _ 1 (zx_w_get (fx := fx) (vq := vq) (ct := ct) (ad := ad) e2) rfl (zx_vin g) hdg (K H locs ls hP hD hS hl)
      · cases h1
    · cases h1
  · cases h1
theorem zx_s_las (X : zx_Cx p R s m args meth c fx vq ct A sc D t d) (hdg : decode (zx_mb t) pc = .ok (.lastore, 1)) (h1 : zx_las pc L S h nc ns = some (.inl st))
    (K : zx_Go p l e R s m args below meth c Q fx vq ct A D t ad st) : zx_Go p l e R s m args below meth c Q fx vq ct A D t ad (pc, L, S, h, nc, ns) := by
  obtain ⟨hx, hb, -, hown, hts, hK, -, hSt, -, hin⟩ := X
  unfold zx_las at h1
  split at h1
  · split at h1
    · rename_i x i a r _ f e2
      split at h1
      · rename_i g
        obtain rfl := zx_Ni h1
        intro H locs ls hP hD hS hl
        exact va_last hx hb hK hP hD hS _ 1 (zx_w_get (fx := fx) (vq := vq) (ct := ct) (ad := ad) e2) rfl (zx_vin g) hdg (fun H1 locs1 hP1 hD1 hS1 => K H1 locs1 ls (by rw [zx_w_las g.2]; exact hP1) (by rw [zx_w_las g.2]; exact hD1) hS1 hl)
      · cases h1
    · cases h1
  · cases h1
theorem zx_s_bal (X : zx_Cx p R s m args meth c fx vq ct A sc D t d) (hdg : decode (zx_mb t) pc = .ok (.baload, 1)) (h1 : zx_bal pc L S h nc ns = some (.inl st))
    (K : zx_Go p l e R s m args below meth c Q fx vq ct A D t ad st) : zx_Go p l e R s m args below meth c Q fx vq ct A D t ad (pc, L, S, h, nc, ns) := by
  obtain ⟨hx, hb, -, hown, hts, hK, -, hSt, -, hin⟩ := X
  unfold zx_bal at h1
  split at h1
  · split at h1
    · rename_i i a r g
      obtain rfl := zx_Ni h1
      intro H locs ls hP hD hS hl
      exact va_tb hx hb (hSt.2.2.2.2.1.1 a g.1).2.2.2 hS (zx_vin g.2) rfl hdg (K H locs ls hP hD hS hl)
    · cases h1
  · cases h1
theorem zx_rf_c (o : Option Nat) : va_rf (o.map ad) = zx_c fx vq ad (zx_rf o) := by
  cases o <;> rfl
theorem zx_s_aal (X : zx_Cx p R s m args meth c fx vq ct A sc D t d) (hdg : decode (zx_mb t) pc = .ok (.aaload, 1)) (h1 : zx_aal pc L S h nc ns = some (.inl st))
    (K : zx_Go p l e R s m args below meth c Q fx vq ct A D t ad st) : zx_Go p l e R s m args below meth c Q fx vq ct A D t ad (pc, L, S, h, nc, ns) := by
  obtain ⟨hx, hb, -, hown, hts, hK, -, hSt, -, hin⟩ := X
  unfold zx_aal at h1
  split at h1
  · split at h1
    · rename_i i a r _ t0 f e2
      split at h1
      · rename_i g
        obtain ⟨g0, g⟩ := g
        obtain rfl := zx_Ni h1
        intro H locs ls hP hD hS hl
        have he := zx_w_get (fx := fx) (vq := vq) (ct := ct) (ad := ad) e2
        have k : W p l e R s m args below meth c H locs nc ns Q (F0 m (pc + 1) ls (zx_c fx vq ad (zx_rf ((f[i.toNatClampNeg]?).getD none)) :: r.map (zx_c fx vq ad))) := K H locs ls hP hD hS hl
        rw [← zx_rf_c] at k
        rcases g0 with rfl | rfl
        · exact va_aldq hx hb hK hP _ 2 he rfl (zx_vin g) hdg k
        · exact va_aldq hx hb hK hP _ 3 he rfl (zx_vin g) hdg k
      · cases h1
    · cases h1
  · cases h1
theorem zx_up_set {f : List (Option Nat)} {i v : Nat} (hi : i < f.length) : (fun j : Nat => (((f.set i (some v))[j]?).getD none).map ad) = va_up (fun j : Nat => ((f[j]?).getD none).map ad) i (some (ad v)) := by
  funext j
  unfold va_up
  rw [List.getElem?_set]
  by_cases e : i = j
  · subst e
    rw [if_pos rfl, if_pos rfl, if_pos hi]
    rfl
  · rw [if_neg e, if_neg (fun q => e q.symm)]
theorem zx_s_aas (X : zx_Cx p R s m args meth c fx vq ct A sc D t d) (hdg : decode (zx_mb t) pc = .ok (.aastore, 1)) (h1 : zx_aas pc L S h nc ns = some (.inl st))
    (K : zx_Go p l e R s m args below meth c Q fx vq ct A D t ad st) : zx_Go p l e R s m args below meth c Q fx vq ct A D t ad (pc, L, S, h, nc, ns) := by
  obtain ⟨hx, hb, -, hown, hts, hK, -, hSt, -, hin⟩ := X
  unfold zx_aas at h1
  split at h1
  · split at h1
    · rename_i v i a r _ _ t0 f ci vs e2 e3
      split at h1
      · rename_i g
        obtain ⟨g0, g1, g2⟩ := g
        obtain rfl := zx_Ni h1
        intro H locs ls hP hD hS hl
        have he := zx_w_get (fx := fx) (vq := vq) (ct := ct) (ad := ad) e2
        have hv := zx_w_get (fx := fx) (vq := vq) (ct := ct) (ad := ad) e3
        have ew : zx_w fx vq ct ad (h.set a (.inr (t0, .inr (.inr (f.set i.toNatClampNeg (some v)))))) = (zx_w fx vq ct ad h).set a (ad a, .inl (ct t0, f.length, .inr (.inr (.inr (.inr (va_up (fun j : Nat => ((f[j]?).getD none).map ad) i.toNatClampNeg (some (ad v)))))))) := by
          rw [zx_w_set]
          show (zx_w fx vq ct ad h).set a (ad a, .inl (ct t0, (f.set i.toNatClampNeg (some v)).length, .inr (.inr (.inr (.inr (fun j : Nat => (((f.set i.toNatClampNeg (some v))[j]?).getD none).map ad)))))) = _
          rw [zx_up_set g2, List.length_set]
        have K2 : ∀ (H1 : Heap) (locs1 : List Loc), va_P D zx_cl ((zx_w fx vq ct ad h).set a (ad a, .inl (ct t0, f.length, .inr (.inr (.inr (.inr (va_up (fun j : Nat => ((f[j]?).getD none).map ad) i.toNatClampNeg (some (ad v))))))))) H1 → va_D A ((zx_w fx vq ct ad h).set a (ad a, .inl (ct t0, f.length, .inr (.inr (.inr (.inr (va_up (fun j : Nat => ((f[j]?).getD none).map ad) i.toNatClampNeg (some (ad v))))))))) → va_S A s.heap H1 locs1 → W p l e R s m args below meth c H1 locs1 nc ns Q (F0 m (pc + 1) ls (r.map (zx_c fx vq ad))) := by
          intro H1 locs1 hP1 hD1 hS1
          rw [← ew] at hP1 hD1
          exact K H1 locs1 ls hP1 hD1 hS1 hl
        rcases g0 with ⟨rfl, rfl⟩ | ⟨rfl, rfl⟩
        · exact va_astq hx hb hK hP hD hS _ 2 _ 3 (r := (RX3, TX3, 3)) he rfl hv rfl (zx_vin ⟨g1, g2⟩) hdg K2
        · exact va_astq hx hb hK hP hD hS _ 3 _ 5 (r := (RX5, TX5, 13)) he rfl hv rfl (zx_vin ⟨g1, g2⟩) hdg K2
      · cases h1
    · cases h1
  · cases h1
theorem zx_s_lc (X : zx_Cx p R s m args meth c fx vq ct A sc D t d) {ix : Nat} (hdg : decode (zx_mb t) pc = .ok (.ldc ix, 2)) (h1 : zx_lc (zx_mo t) ix 2 pc L S h nc ns = some (.inl st))
    (hs4 : ∀ i, zx_lk zx_lS 4 ix = some i → ∃ q : String × Nat × Nat, zx_st[i]? = some q ∧ q.2.1 = ix)
    (K : zx_Go p l e R s m args below meth c Q fx vq ct A D t ad st) : zx_Go p l e R s m args below meth c Q fx vq ct A D t ad (pc, L, S, h, nc, ns) := by
  obtain ⟨hx, hb, -, hown, hts, hK, -, hSt, -, hin⟩ := X
  unfold zx_lc at h1
  split at h1
  · rename_i v pp e1
    have hF := zx_cka_use zx_ckI_all e1
    obtain rfl := zx_Ni h1
    intro H locs ls hP hD hS hl
    exact lv_ldc hx hb hown (hts _ (zx_inG_mem hF)) hdg (K H locs ls hP hD hS hl)
  · split at h1
    · split at h1
      · rename_i i e1
        split at h1
        · rename_i g
          obtain ⟨g0, g1⟩ := g
          rw [g0] at e1 hown
          obtain ⟨q, hq1, hq2⟩ := hs4 i e1
          have hR := hSt.2.2.2.1 i q hq1
          rw [hq2] at hR
          obtain rfl := zx_Ni h1
          intro H locs ls hP hD hS hl
          exact va_ldcS hx hb hown hR hdg (K H locs ls hP hD hS hl)
        · cases h1
      · cases h1
    · cases h1
theorem zx_s_lcw (X : zx_Cx p R s m args meth c fx vq ct A sc D t d) {ix : Nat} (hdg : decode (zx_mb t) pc = .ok (.ldc_w ix, 3)) (h1 : zx_lc (zx_mo t) ix 3 pc L S h nc ns = some (.inl st))
    (K : zx_Go p l e R s m args below meth c Q fx vq ct A D t ad st) : zx_Go p l e R s m args below meth c Q fx vq ct A D t ad (pc, L, S, h, nc, ns) := by
  obtain ⟨hx, hb, -, hown, hts, hK, -, hSt, -, hin⟩ := X
  unfold zx_lc at h1
  split at h1
  · rename_i v pp e1
    have hF := zx_cka_use zx_ckI_all e1
    obtain rfl := zx_Ni h1
    intro H locs ls hP hD hS hl
    exact lv_ldcw hx hb hown (hts _ (zx_inG_mem hF)) hdg (K H locs ls hP hD hS hl)
  · split at h1
    · rename_i g
      exact absurd g (by decide)
    · cases h1
theorem zx_s_lc2 (X : zx_Cx p R s m args meth c fx vq ct A sc D t d) {ix : Nat} (hdg : decode (zx_mb t) pc = .ok (.ldc2_w ix, 3)) (h1 : zx_lc2 (zx_mo t) ix pc L S h nc ns = some (.inl st))
    (K : zx_Go p l e R s m args below meth c Q fx vq ct A D t ad st) : zx_Go p l e R s m args below meth c Q fx vq ct A D t ad (pc, L, S, h, nc, ns) := by
  obtain ⟨hx, hb, -, hown, hts, hK, -, hSt, -, hin⟩ := X
  unfold zx_lc2 at h1
  split at h1
  · rename_i v pp e1
    have hF := zx_cka_use zx_ckJ_all e1
    obtain rfl := zx_Ni h1
    intro H locs ls hP hD hS hl
    exact lv_ldc2 hx hb hown (hts _ (zx_inG_mem hF)) hdg (K H locs ls hP hD hS hl)
  · cases h1
end
end
section
/-! part 09: what a step leaves as it is; makings; a call; ends -/
section
variable {p : Program} {l : Launch} {e : Env} {R : Room} {s : State} {m : MethodId} {args : Array Value} {below : List Frame} {meth : Method} {c : Code} {Q : State → Prop}
variable {fx : Nat → Nat → Nat} {vq : Value} {ct : Nat → ClassId} {ad : Nat → Nat} {A : Nat → Prop} {sc : zx_Sc} {D : va_G} {t : zx_MT} {d : Nat}
variable {pc nc ns : Nat} {L : List (Option zx_V)} {S : List zx_V} {h : List zx_C} {st : zx_S}
/-- as many locals, as many cells, nothing made -/
def zx_sm (L : List (Option zx_V)) (h : List zx_C) (nc ns : Nat) (st : zx_S) : Prop := st.2.1.length = L.length ∧ st.2.2.2.1.length = h.length ∧ st.2.2.2.2.1 = nc ∧ st.2.2.2.2.2 = ns
theorem zx_k_ld {ty i n : Nat} (h1 : zx_ld ty i n pc L S h nc ns = some (.inl st)) : zx_sm L h nc ns st := by
  unfold zx_ld at h1
  repeat' split at h1
  all_goals first | (cases h1; done) | (obtain rfl := zx_Ni h1; simp [zx_sm, zx_cl1_len])
theorem zx_k_sto {ty i n : Nat} (h1 : zx_sto ty i n pc L S h nc ns = some (.inl st)) : zx_sm L h nc ns st := by
  unfold zx_sto at h1
  repeat' split at h1
  all_goals first | (cases h1; done) | (obtain rfl := zx_Ni h1; simp [zx_sm, zx_cl1_len])
theorem zx_k_stl {i n : Nat} (h1 : zx_stl i n pc L S h nc ns = some (.inl st)) : zx_sm L h nc ns st := by
  unfold zx_stl at h1
  repeat' split at h1
  all_goals first | (cases h1; done) | (obtain rfl := zx_Ni h1; simp [zx_sm, zx_cl1_len])
theorem zx_k_iinc {i : Nat} {z : Int} (h1 : zx_iinc i z pc L S h nc ns = some (.inl st)) : zx_sm L h nc ns st := by
  unfold zx_iinc at h1
  repeat' split at h1
  all_goals first | (cases h1; done) | (obtain rfl := zx_Ni h1; simp [zx_sm, zx_cl1_len])
theorem zx_k_bin {ins : Instr} (h1 : zx_bin ins pc L S h nc ns = some (.inl st)) : zx_sm L h nc ns st := by
  unfold zx_bin at h1
  repeat' split at h1
  all_goals first | (cases h1; done) | (obtain rfl := zx_Ni h1; simp [zx_sm, zx_cl1_len])
theorem zx_k_un {ins : Instr} (h1 : zx_un ins pc L S h nc ns = some (.inl st)) : zx_sm L h nc ns st := by
  unfold zx_un at h1
  repeat' split at h1
  all_goals first | (cases h1; done) | (obtain rfl := zx_Ni h1; simp [zx_sm, zx_cl1_len])
theorem zx_k_lng {ins : Instr} (h1 : zx_lng ins pc L S h nc ns = some (.inl st)) : zx_sm L h nc ns st := by
  unfold zx_lng at h1
  repeat' split at h1
  all_goals first | (cases h1; done) | (obtain rfl := zx_Ni h1; simp [zx_sm, zx_cl1_len])
theorem zx_k_stk {ins : Instr} (h1 : zx_stk ins pc L S h nc ns = some (.inl st)) : zx_sm L h nc ns st := by
  unfold zx_stk at h1
  repeat' split at h1
  all_goals first | (cases h1; done) | (obtain rfl := zx_Ni h1; simp [zx_sm, zx_cl1_len])
theorem zx_k_J {off : Int} (h1 : zx_J pc off L S h nc ns = some (.inl st)) : zx_sm L h nc ns st := by
  unfold zx_J at h1
  repeat' split at h1
  all_goals first | (cases h1; done) | (obtain rfl := zx_Ni h1; simp [zx_sm, zx_cl1_len])
theorem zx_k_br {b : Bool} {off : Int} (h1 : zx_br b off pc L S h nc ns = some (.inl st)) : zx_sm L h nc ns st := by
  unfold zx_br at h1
  repeat' split at h1
  all_goals first | (cases h1; done) | (obtain rfl := zx_Ni h1; simp [zx_sm, zx_cl1_len])
theorem zx_k_if1 {cn : ClassFile.Cond} {off : Int} (h1 : zx_if1 cn off pc L S h nc ns = some (.inl st)) : zx_sm L h nc ns st := by
  unfold zx_if1 at h1
  repeat' split at h1
  all_goals first | (cases h1; done) | exact zx_k_br h1 | (obtain rfl := zx_Ni h1; simp [zx_sm, zx_cl1_len])
theorem zx_k_if2 {cn : ClassFile.Cond} {off : Int} (h1 : zx_if2 cn off pc L S h nc ns = some (.inl st)) : zx_sm L h nc ns st := by
  unfold zx_if2 at h1
  repeat' split at h1
  all_goals first | (cases h1; done) | exact zx_k_br h1 | (obtain rfl := zx_Ni h1; simp [zx_sm, zx_cl1_len])
theorem zx_k_tsw {dflt lo hi : Int} {offs : Array Int} (h1 : zx_tsw dflt lo hi offs pc L S h nc ns = some (.inl st)) : zx_sm L h nc ns st := by
  unfold zx_tsw at h1
  repeat' split at h1
  all_goals first | (cases h1; done) | exact zx_k_J h1 | (obtain rfl := zx_Ni h1; simp [zx_sm, zx_cl1_len])
theorem zx_k_lsw {dflt : Int} {ps : Array (Int × Int)} (h1 : zx_lsw dflt ps pc L S h nc ns = some (.inl st)) : zx_sm L h nc ns st := by
  unfold zx_lsw at h1
  repeat' split at h1
  all_goals first | (cases h1; done) | exact zx_k_J h1 | (obtain rfl := zx_Ni h1; simp [zx_sm, zx_cl1_len])
theorem zx_k_gf {o ix : Nat} (h1 : zx_gf o ix pc L S h nc ns = some (.inl st)) : zx_sm L h nc ns st := by
  unfold zx_gf at h1
  repeat' split at h1
  all_goals first | (cases h1; done) | (obtain rfl := zx_Ni h1; simp [zx_sm, zx_cl1_len])
theorem zx_k_pf {o kd ix : Nat} (h1 : zx_pf o kd ix pc L S h nc ns = some (.inl st)) : zx_sm L h nc ns st := by
  unfold zx_pf at h1
  repeat' split at h1
  all_goals first | (cases h1; done) | (obtain rfl := zx_Ni h1; simp [zx_sm, zx_cl1_len])
theorem zx_k_gs {o ix : Nat} (h1 : zx_gs o ix pc L S h nc ns = some (.inl st)) : zx_sm L h nc ns st := by
  unfold zx_gs at h1
  repeat' split at h1
  all_goals first | (cases h1; done) | (obtain rfl := zx_Ni h1; simp [zx_sm, zx_cl1_len])
theorem zx_k_al  (h1 : zx_al sc pc L S h nc ns = some (.inl st)) : zx_sm L h nc ns st := by
  unfold zx_al at h1
  repeat' split at h1
  all_goals first | (cases h1; done) | (obtain rfl := zx_Ni h1; simp [zx_sm, zx_cl1_len])
theorem zx_k_ial  (h1 : zx_ial sc pc L S h nc ns = some (.inl st)) : zx_sm L h nc ns st := by
  unfold zx_ial at h1
  repeat' split at h1
  all_goals first | (cases h1; done) | (obtain rfl := zx_Ni h1; simp [zx_sm, zx_cl1_len])
theorem zx_k_ias  (h1 : zx_ias pc L S h nc ns = some (.inl st)) : zx_sm L h nc ns st := by
  unfold zx_ias at h1
  repeat' split at h1
  all_goals first | (cases h1; done) | (obtain rfl := zx_Ni h1; simp [zx_sm, zx_cl1_len])
theorem zx_k_lal  (h1 : zx_lal pc L S h nc ns = some (.inl st)) : zx_sm L h nc ns st := by
  unfold zx_lal at h1
  repeat' split at h1
  all_goals first | (cases h1; done) | (obtain rfl := zx_Ni h1; simp [zx_sm, zx_cl1_len])
theorem zx_k_las  (h1 : zx_las pc L S h nc ns = some (.inl st)) : zx_sm L h nc ns st := by
  unfold zx_las at h1
  repeat' split at h1
  all_goals first | (cases h1; done) | (obtain rfl := zx_Ni h1; simp [zx_sm, zx_cl1_len])
theorem zx_k_bal  (h1 : zx_bal pc L S h nc ns = some (.inl st)) : zx_sm L h nc ns st := by
  unfold zx_bal at h1
  repeat' split at h1
  all_goals first | (cases h1; done) | (obtain rfl := zx_Ni h1; simp [zx_sm, zx_cl1_len])
theorem zx_k_aal  (h1 : zx_aal pc L S h nc ns = some (.inl st)) : zx_sm L h nc ns st := by
  unfold zx_aal at h1
  repeat' split at h1
  all_goals first | (cases h1; done) | (obtain rfl := zx_Ni h1; simp [zx_sm, zx_cl1_len])
theorem zx_k_aas  (h1 : zx_aas pc L S h nc ns = some (.inl st)) : zx_sm L h nc ns st := by
  unfold zx_aas at h1
  repeat' split at h1
  all_goals first | (cases h1; done) | (obtain rfl := zx_Ni h1; simp [zx_sm, zx_cl1_len])
theorem zx_k_lc {o ix n : Nat} (h1 : zx_lc o ix n pc L S h nc ns = some (.inl st)) : zx_sm L h nc ns st := by
  unfold zx_lc at h1
  repeat' split at h1
  all_goals first | (cases h1; done) | (obtain rfl := zx_Ni h1; simp [zx_sm, zx_cl1_len])
theorem zx_k_lc2 {o ix : Nat} (h1 : zx_lc2 o ix pc L S h nc ns = some (.inl st)) : zx_sm L h nc ns st := by
  unfold zx_lc2 at h1
  repeat' split at h1
  all_goals first | (cases h1; done) | (obtain rfl := zx_Ni h1; simp [zx_sm, zx_cl1_len])
theorem zx_k_ac  (h1 : zx_ac pc L S h nc ns = some (.inl st)) : zx_sm L h nc ns st := by
  unfold zx_ac at h1
  repeat' split at h1
  all_goals first | (cases h1; done) | (obtain rfl := zx_Ni h1; simp [zx_sm, zx_cl1_len])
/-- the addresses behind a step -/
def zx_ext (ad : Nat → Nat) (h : List zx_C) (ad' : Nat → Nat) (h' : List zx_C) : Prop := h.length ≤ h'.length ∧ (∀ i, i < h.length → ad' i = ad i) ∧ (h'.length = h.length → ad' = ad)
theorem zx_ext_sm {h' : List zx_C} (e : h'.length = h.length) : zx_ext ad h ad h' := ⟨by omega, fun _ _ => rfl, fun _ => rfl⟩
theorem zx_ext_tr {ad1 ad2 : Nat → Nat} {h1 h2 : List zx_C} (a : zx_ext ad h ad1 h1) (b : zx_ext ad1 h1 ad2 h2) : zx_ext ad h ad2 h2 := by
  obtain ⟨a1, a2, a3⟩ := a
  obtain ⟨b1, b2, b3⟩ := b
  refine ⟨by omega, fun i hi => ?_, fun q => ?_⟩
  · rw [b2 i (by omega), a2 i hi]
  · rw [b3 (by omega), a3 (by omega)]
theorem zx_df_ok {ci : Nat} (h : ci < 9) (k : Nat) (fx : Nat → Nat → Nat) (vq : Value) (ad : Nat → Nat) : zx_c fx vq ad (zx_df (zx_ft ci k)) = defaultValue (zx_ft ci k) := by
  rcases (show ci = 0 ∨ ci = 1 ∨ ci = 2 ∨ ci = 3 ∨ ci = 4 ∨ ci = 5 ∨ ci = 6 ∨ ci = 7 ∨ ci = 8 by omega) with rfl | rfl | rfl | rfl | rfl | rfl | rfl | rfl | rfl
  · show zx_c fx vq ad (zx_df (tyX0 k)) = defaultValue (tyX0 k); unfold tyX0; split <;> rfl
  · show zx_c fx vq ad (zx_df (tyX1 k)) = defaultValue (tyX1 k); unfold tyX1; split <;> rfl
  · show zx_c fx vq ad (zx_df (tyX2 k)) = defaultValue (tyX2 k); unfold tyX2; split <;> rfl
  · show zx_c fx vq ad (zx_df (tyX3 k)) = defaultValue (tyX3 k); unfold tyX3; split <;> rfl
  · show zx_c fx vq ad (zx_df (tyX4 k)) = defaultValue (tyX4 k); unfold tyX4; split <;> rfl
  · show zx_c fx vq ad (zx_df (tyX5 k)) = defaultValue (tyX5 k); unfold tyX5; split <;> rfl
  · show zx_c fx vq ad (zx_df (tyX6 k)) = defaultValue (tyX6 k); unfold tyX6; split <;> rfl
  · show zx_c fx vq ad (zx_df (tyX7 k)) = defaultValue (tyX7 k); unfold tyX7; split <;> rfl
  · show zx_c fx vq ad (zx_df (tyX8 k)) = defaultValue (tyX8 k); unfold tyX8; split <;> rfl
theorem zx_okL (h1 : zx_ok L S h = true) : L.all (zx_vo h.length) = true ∧ S.all (zx_vl h.length) = true ∧ h.all (zx_vc h.length) = true := by
  unfold zx_ok at h1
  rw [Bool.and_eq_true, Bool.and_eq_true] at h1
  exact h1
theorem zx_up_lt {n q : Nat} : ∀ i, i < n → va_up ad n q i = ad i := fun i hi => by unfold va_up; rw [if_neg (by omega)]
theorem zx_up_eq {n q : Nat} : va_up ad n q n = q := by unfold va_up; rw [if_pos rfl]
theorem zx_ext_new {q : Nat} {x : zx_C} : zx_ext ad h (va_up ad h.length q) (h ++ [x]) := ⟨by simp, zx_up_lt, fun z => by simp at z⟩
/-- behind a making: the state with the new cell -/
theorem zx_made {q : Nat} {x : zx_C} {n mc ms : Nat} {r : List zx_V} {H1 : Heap} {locs1 : List Loc} {ls : Array Slot} (hok : zx_ok L r h = true) {en : va_E} (hen : zx_e fx vq ct (va_up ad h.length q) x = en)
    (K : ∀ ad', zx_ext ad h ad' (h ++ [x]) → zx_Go p l e R s m args below meth c Q fx vq ct A D t ad' (pc + n, L, .inr (.inr (1, h.length)) :: r, h ++ [x], mc, ms))
    (hP1 : va_P D zx_cl (zx_w fx vq ct ad h ++ [(q, en)]) H1) (hD1 : va_D A (zx_w fx vq ct ad h ++ [(q, en)])) (hS1 : va_S A s.heap H1 locs1) (hl : lv_has ls (zx_mn t) (zx_l fx vq ad L)) :
    W p l e R s m args below meth c H1 locs1 mc ms Q (F0 m (pc + n) ls (.ref q :: r.map (zx_c fx vq ad))) := by
  obtain ⟨o1, o2, o3⟩ := zx_okL hok
  have k := K (va_up ad h.length q) zx_ext_new H1 locs1 ls (by rw [zx_w_app o3, hen]; exact hP1) (by rw [zx_w_app o3, hen]; exact hD1) hS1 (zx_l_sub hl (zx_l_ad zx_up_lt o1))
  have k2 : W p l e R s m args below meth c H1 locs1 mc ms Q (F0 m (pc + n) ls (.ref (va_up ad h.length q h.length) :: r.map (zx_c fx vq (va_up ad h.length q)))) := k
  rw [zx_up_eq, zx_S_ad zx_up_lt o2] at k2
  exact k2
theorem zx_s_new (X : zx_Cx p R s m args meth c fx vq ct A sc D t d) {ix : Nat} (hdg : decode (zx_mb t) pc = .ok (.new ix, 3)) (h1 : zx_new (zx_mo t) ix pc L S h nc ns = some (.inl st)) (hR : st.2.2.2.2.1 ≤ R.cells ∧ st.2.2.2.2.2 ≤ R.slots)
    (K : ∀ ad', zx_ext ad h ad' st.2.2.2.1 → zx_Go p l e R s m args below meth c Q fx vq ct A D t ad' st) : zx_Go p l e R s m args below meth c Q fx vq ct A D t ad (pc, L, S, h, nc, ns) := by
  obtain ⟨hx, hb, -, hown, hts, hK, hA, hSt, -, hin⟩ := X
  unfold zx_new at h1
  split at h1
  · rename_i ci pp e1
    have hC := zx_cka_use zx_ckC_all e1
    rw [Bool.and_eq_true] at hC
    split at h1
    · rename_i g
      obtain ⟨hci, hok⟩ := g
      obtain rfl := zx_Ni h1
      have hpI := List.all_eq_true.mp zx_ckP ci (List.mem_range.mpr hci)
      split at hpI
      · rename_i q9 e9
        rw [Bool.and_eq_true] at hpI
        intro H locs ls hP hD hS hl
        refine va_new (fs := ((List.range (zx_fn ci)).map (fun k => zx_df (zx_ft ci k))).map (zx_c fx vq ad)) hx hb hts (zx_hin hci) (zx_ft ci) (zx_ok9 hci).1 hown (hts _ (zx_inG_mem hC.1)) (hts _ (zx_inG_mem hpI.1)) (hts _ (zx_inG_mem hpI.2)) hK hP hD hS hA (zx_clk hci) ?_ hR.1 hR.2 hdg ?_
        · intro j hj
          show _ = (((List.range (zx_fn ci)).map (fun k => zx_df (zx_ft ci k))).map (zx_c fx vq ad)).getD j .null
          rw [List.getD_eq_getElem?_getD, List.getElem?_map, List.getElem?_map, List.getElem?_range hj]
          exact (zx_df_ok hci j fx vq ad).symm
        · intro q H1 hP1 hD1 hS1
          refine zx_made hok ?_ K hP1 hD1 hS1 hl
          show Sum.inr (ci, ((List.range (zx_fn ci)).map (fun k => zx_df (zx_ft ci k))).map _) = Sum.inr (ci, ((List.range (zx_fn ci)).map (fun k => zx_df (zx_ft ci k))).map _)
          rw [List.map_map, List.map_map]
          have e : (zx_c fx vq (va_up ad h.length q) ∘ fun k => zx_df (zx_ft ci k)) = (zx_c fx vq ad ∘ fun k => zx_df (zx_ft ci k)) := by
            funext k
            exact (zx_df_ok hci k fx vq _).trans (zx_df_ok hci k fx vq _).symm
          rw [e]
      · cases hpI
    · cases h1
  · cases h1
theorem zx_ca {cA : ClassId} {ty : FieldType} {i : Nat} (hK : va_K D zx_cl (zx_tys ct ++ [(cA, ty)]) s) (hi : (zx_tys ct)[i]? = some (ct i, ty)) (hi4 : i < 4) : cA = ct i := by
  have h1 := (hK.2 4 (cA, ty) (by rfl)).2
  have h2 := (hK.2 i (ct i, ty) (by rw [List.getElem?_append_left (by exact hi4)]; exact hi)).2
  cases ty with
  | object C =>
    obtain ⟨_, _, _, _, _, a⟩ := h1
    obtain ⟨_, _, _, _, _, b⟩ := h2
    exact Option.some.inj (a.symm.trans b)
  | _ => exact Option.some.inj ((show s.vm.findClass _ = some cA from h1).symm.trans h2)
theorem zx_rep0 {α : Type} {d0 : α} (n : Nat) : (fun j : Nat => (List.replicate n d0).getD j d0) = fun _ => d0 := by
  funext j
  rw [List.getD_eq_getElem?_getD, List.getElem?_replicate]
  split <;> rfl
theorem zx_s_na (X : zx_Cx p R s m args meth c fx vq ct A sc D t d) {ty : ArrayType} (hdg : decode (zx_mb t) pc = .ok (.newarray ty, 2)) (h1 : zx_na ty pc L S h nc ns = some (.inl st)) (hR : st.2.2.2.2.1 ≤ R.cells ∧ st.2.2.2.2.2 ≤ R.slots)
    (K : ∀ ad', zx_ext ad h ad' st.2.2.2.1 → zx_Go p l e R s m args below meth c Q fx vq ct A D t ad' st) : zx_Go p l e R s m args below meth c Q fx vq ct A D t ad (pc, L, S, h, nc, ns) := by
  obtain ⟨hx, hb, -, hown, hts, hK, hA, hSt, -, hin⟩ := X
  have hX := zx_ckX
  simp only [Bool.and_eq_true] at hX
  unfold zx_na at h1
  split at h1
  · rename_i x r
    split at h1
    · rename_i g
      obtain ⟨g1, g2, hok⟩ := g
      split at h1
      · obtain rfl := zx_Ni h1
        intro H locs ls hP hD hS hl
        refine va_newa (atype := .int) (ty := .int) (a0 := (x.toNatClampNeg, .inl (fun _ => 0))) hx hb (hts _ (zx_inG_mem hX.1)) rfl hK hP hD hS hA (fun _ => rfl) g1 rfl (by show _ * 4 ≤ _; omega) hR.1 hR.2 hdg ?_
        intro q cA H1 hK1 hP1 hD1 hS1
        have e := zx_ca hK1 (i := 0) rfl (by decide)
        subst e
        exact zx_made hok (by show Sum.inl (ct 0, (List.replicate x.toNatClampNeg (0 : Int32)).length, Sum.inl (fun j : Nat => (List.replicate x.toNatClampNeg (0 : Int32)).getD j 0)) = _; rw [zx_rep0, List.length_replicate]) K hP1 hD1 hS1 hl
      · obtain rfl := zx_Ni h1
        intro H locs ls hP hD hS hl
        refine va_newa (atype := .long) (ty := .long) (a0 := (x.toNatClampNeg, .inr (.inl (fun _ => 0)))) hx hb (hts _ (zx_inG_mem hX.2.1)) rfl hK hP hD hS hA (fun _ => rfl) g1 rfl (by show _ * 8 ≤ _; omega) hR.1 hR.2 hdg ?_
        intro q cA H1 hK1 hP1 hD1 hS1
        have e := zx_ca hK1 (i := 1) rfl (by decide)
        subst e
        exact zx_made hok (by show Sum.inl (ct 1, (List.replicate x.toNatClampNeg (0 : Int64)).length, Sum.inr (Sum.inl (fun j : Nat => (List.replicate x.toNatClampNeg (0 : Int64)).getD j 0))) = _; rw [zx_rep0, List.length_replicate]) K hP1 hD1 hS1 hl
      · cases h1
    · cases h1
  · cases h1
theorem zx_s_an (X : zx_Cx p R s m args meth c fx vq ct A sc D t d) {ix : Nat} (hdg : decode (zx_mb t) pc = .ok (.anewarray ix, 3)) (h1 : zx_an (zx_mo t) ix pc L S h nc ns = some (.inl st)) (hR : st.2.2.2.2.1 ≤ R.cells ∧ st.2.2.2.2.2 ≤ R.slots)
    (K : ∀ ad', zx_ext ad h ad' st.2.2.2.1 → zx_Go p l e R s m args below meth c Q fx vq ct A D t ad' st) : zx_Go p l e R s m args below meth c Q fx vq ct A D t ad (pc, L, S, h, nc, ns) := by
  obtain ⟨hx, hb, -, hown, hts, hK, hA, hSt, -, hin⟩ := X
  have hrep : ∀ (n : Nat) (ad2 : Nat → Nat), (fun j : Nat => (((List.replicate n (none : Option Nat))[j]?).getD none).map ad2) = fun _ => none := by
    intro n ad2
    funext j
    rw [List.getElem?_replicate]
    split <;> rfl
  unfold zx_an at h1
  split at h1
  · rename_i x r
    split at h1
    · rename_i g
      obtain ⟨g1, g2, hok⟩ := g
      split at h1
      · rename_i e1
        have hC := zx_cka_use zx_ckC_all e1
        rw [Bool.and_eq_true] at hC
        obtain rfl := zx_Ni h1
        intro H locs ls hP hD hS hl
        refine va_newq (C := RX3) hx hb hown (hts _ (zx_inG_mem hC.1)) hSt.2.1 hK hP hD hS hA g1 rfl (by omega) hR.1 hR.2 hdg ?_
        intro q cA H1 hK1 hP1 hD1 hS1
        have e := zx_ca hK1 (i := 2) rfl (by decide)
        subst e
        exact zx_made hok (by show Sum.inl (ct 2, (List.replicate x.toNatClampNeg (none : Option Nat)).length, _) = _; rw [hrep, List.length_replicate]) K hP1 hD1 hS1 hl
      · rename_i e1
        have hC := zx_cka_use zx_ckC_all e1
        rw [Bool.and_eq_true] at hC
        obtain rfl := zx_Ni h1
        intro H locs ls hP hD hS hl
        refine va_newq (C := RX5) hx hb hown (hts _ (zx_inG_mem hC.1)) hSt.2.2.1 hK hP hD hS hA g1 rfl (by omega) hR.1 hR.2 hdg ?_
        intro q cA H1 hK1 hP1 hD1 hS1
        have e := zx_ca hK1 (i := 3) rfl (by decide)
        subst e
        exact zx_made hok (by show Sum.inl (ct 3, (List.replicate x.toNatClampNeg (none : Option Nat)).length, _) = _; rw [hrep, List.length_replicate]) K hP1 hD1 hS1 hl
      · cases h1
    · cases h1
  · cases h1
end
end
section
/-! part 10: calls -/
section
variable {p : Program} {l : Launch} {e : Env} {R : Room} {s : State} {m : MethodId} {args : Array Value} {below : List Frame} {meth : Method} {c : Code} {Q : State → Prop}
variable {fx : Nat → Nat → Nat} {vq : Value} {ct : Nat → ClassId} {ad : Nat → Nat} {A : Nat → Prop} {sc : zx_Sc} {D : va_G} {t : zx_MT} {d : Nat}
variable {pc nc ns : Nat} {L : List (Option zx_V)} {S : List zx_V} {h : List zx_C} {st : zx_S}
theorem zx_nw_k {w : Cond} (h : w ∈ zx_nw) : zx_isN w = true := (List.mem_filter.mp h).2
theorem zx_St_go {u U : State} {H : Heap} (hvm : u.vm.Alike U.vm) (h1 : ∀ w ∈ zx_nw, va_Nw w U) (h2 : ∀ i : Nat, ∀ q : String × Nat × Nat, zx_st[i]? = some q → vk_R RX4 q.2.1 q.1 (fx 2 i) U) (hS : zx_St fx vq A sc u H) : zx_St fx vq A sc U H := by
  obtain ⟨-, a2, a3, -, a5, a6, a7, a8, a9, a10⟩ := hS
  exact ⟨h1, va_AO.moved hvm a2, va_AO.moved hvm a3, h2, vk_S.moved hvm a5, fun i hi => ⟨va_Z.moved hvm (a6 i hi).1, va_T.moved hvm (a6 i hi).2⟩, va_Z.moved hvm a7, va_Z.moved hvm a8, a9, fun q e => ⟨va_X.moved hvm (a10 q e).1, (a10 q e).2⟩⟩
theorem zx_St_same {u U : State} {H : Heap} (hv : U.vm = u.vm) (hS : zx_St fx vq A sc u H) : zx_St fx vq A sc U H := by
  refine zx_St_go (by rw [hv]; exact Vm.Alike.refl _) (fun w hw => ?_) (fun i q hi => vk_R.same hv (hS.2.2.2.1 i q hi)) hS
  have h1 := zx_nw_k hw
  have h2 := hS.1 w hw
  cases w <;> first | exact va_Nw.same rfl hv.symm h2 | (exact absurd h1 (by intro z; cases z))
theorem zx_St_warm {u U : State} {H : Heap} (hW : u.WarmedH U.vm) (hS : zx_St fx vq A sc u H) : zx_St fx vq A sc U H := by
  refine zx_St_go hW.alike (fun w hw => ?_) (fun i q hi => vk_R.warm hW (hS.2.2.2.1 i q hi)) hS
  have h1 := zx_nw_k hw
  have h2 := hS.1 w hw
  cases w <;> first | exact va_Nw.warmF hW h2 | exact va_Nw.warmM hW h2 | (exact absurd h1 (by intro z; cases z))
theorem zx_St_kept {U : State} {H H1 : Heap} (hq : ∀ a : Nat, a < H.size → ¬ A a → H1[a]? = H[a]?) (hz : H.size ≤ H1.size) (hS : zx_St fx vq A sc U H) : zx_St fx vq A sc U H1 := by
  obtain ⟨a1, a2, a3, a4, a5, a6, a7, a8, a9, a10⟩ := hS
  exact ⟨a1, a2, a3, a4, vk_S.kept a5 hq, fun i hi => ⟨va_Z.kept (a6 i hi).1 hq, va_T.kept (a6 i hi).2 hq⟩, va_Z.kept a7 hq, va_Z.kept a8 hq, a9, fun q e => ⟨va_X.kept (a10 q e).1 (hq _ (a10 q e).2.1 (a10 q e).2.2), Nat.lt_of_lt_of_le (a10 q e).2.1 hz, (a10 q e).2.2⟩⟩
theorem zx_St_none {U : State} {H : Heap} (hS : zx_St fx vq A sc U H) : zx_St fx vq A none U H := by
  obtain ⟨a1, a2, a3, a4, a5, a6, a7, a8, a9, -⟩ := hS
  exact ⟨a1, a2, a3, a4, a5, a6, a7, a8, a9, fun q e => by cases e⟩
/-- what a method finds -/
def zx_Wd (fx : Nat → Nat → Nat) (vq : Value) (ct : Nat → ClassId) (A : Nat → Prop) (sc : zx_Sc) (D : va_G) (ad : Nat → Nat) (h : List zx_C) (U : State) : Prop :=
  va_P D zx_cl (zx_w fx vq ct ad h) U.heap ∧ va_D A (zx_w fx vq ct ad h) ∧ va_K D zx_cl (zx_tys ct) U ∧ (∀ q : Nat, U.heap.size ≤ q → A q) ∧ zx_St fx vq A sc U U.heap
/-- what a method leaves -/
def zx_Qc (fx : Nat → Nat → Nat) (vq : Value) (ct : Nat → ClassId) (A : Nat → Prop) (D : va_G) (ad : Nat → Nat) (h : List zx_C) (r : zx_R) : Array Value → State → Outcome → State → Prop := fun _ st oc t =>
  (∃ ad' : Nat → Nat, oc = .returned (r.1.map (zx_c fx vq ad')) ∧ zx_ext ad h ad' r.2.1 ∧ va_P D zx_cl (zx_w fx vq ct ad' r.2.1) t.heap ∧ va_D A (zx_w fx vq ct ad' r.2.1)) ∧ va_F A st t
def zx_ws (k : Nat) : List Cond := Cond.code (zx_my (zx_m k)) (zx_mb (zx_m k)) (zx_mn (zx_m k)) (zx_mr (zx_m k)) :: zx_G
def zx_rm (d : Nat) (r : zx_R) : Room := { frames := d + 1, cells := r.2.2.1, slots := r.2.2.2, locals := 40 * d + 40 }
def zx_Met (l : Launch) (fx : Nat → Nat → Nat) (vq : Value) (ct : Nat → ClassId) (A : Nat → Prop) (sc : zx_Sc) (D : va_G) (d k : Nat) (as : List zx_V) (h : List zx_C) (r : zx_R) (ad : Nat → Nat) : Prop :=
  Met l (zx_my (zx_m k)) (zx_ws k) (zx_rm d r) (va_Pc (as.map (zx_c fx vq ad)) (zx_Wd fx vq ct A sc D ad h)) (zx_Qc fx vq ct A D ad h r) r.2.2.1 r.2.2.2 A
theorem zx_blind {av : List Value} {ad : Nat → Nat} {h : List zx_C} : FrameBlind (va_Pc av (zx_Wd fx vq ct A sc D ad h)) := fun a U g mk q => ⟨q.1, q.2.1, q.2.2.1, va_K.moved (u := U) (U := U.calling g mk a) (Vm.Alike.refl U.vm) q.2.2.2.1, q.2.2.2.2.1, zx_St_same (u := U) (U := U.calling g mk a) rfl q.2.2.2.2.2⟩
theorem zx_in {H : Heap} {locs : List Loc} (X : zx_Cx p R s m args meth c fx vq ct A sc D t d) (hP : va_P D zx_cl (zx_w fx vq ct ad h) H) (hD : va_D A (zx_w fx vq ct ad h)) (hS : va_S A s.heap H locs) (as : List zx_V) : ∀ U : State, U.heap = H → s.WarmedH U.vm → va_Pc (as.map (zx_c fx vq ad)) (zx_Wd fx vq ct A none D ad h) (as.map (zx_c fx vq ad)).toArray U := by
  obtain ⟨-, -, -, -, -, hK, hA, hSt, -, -⟩ := X
  intro U hU hW
  refine ⟨rfl, by rw [hU]; exact hP, hD, va_K.moved hW.alike hK, fun q hq => hA q (Nat.le_trans hS.1 (by rw [hU] at hq; exact hq)), ?_⟩
  rw [hU]
  exact zx_St_none (zx_St_kept hS.2.1 hS.1 (zx_St_warm hW hSt))
theorem zx_call {r : zx_R} {rest st0 : List Value} {ls : Array Slot} {a : Array Value} {H : Heap} {locs : List Loc} (hr : va_Run p l e R s m args below meth c H locs nc ns r.2.2.1 r.2.2.2 (F0 m pc ls st0) rest (zx_Qc fx vq ct A D ad h r a) A) (hS : va_S A s.heap H locs)
    (kk : ∀ (ad' : Nat → Nat) (H1 : Heap) (locs1 : List Loc), zx_ext ad h ad' r.2.1 → va_P D zx_cl (zx_w fx vq ct ad' r.2.1) H1 → va_D A (zx_w fx vq ct ad' r.2.1) → va_S A s.heap H1 locs1 → W p l e R s m args below meth c H1 locs1 (nc + r.2.2.1) (ns + r.2.2.2) Q (F0 m (pc + 3) ls ((r.1.map (zx_c fx vq ad')).toList ++ rest))) : W p l e R s m args below meth c H locs nc ns Q (F0 m pc ls st0) := by
  intro T hT X
  obtain ⟨v, st₀, t, T', L, h0, X', hL, e1, e2, ⟨⟨ad', hv, hx, hP, hD⟩, hz, hk⟩, st⟩ := hr T hT X
  have hv' : v = r.1.map (zx_c fx vq ad') := by
    injection hv
  subst hv'
  rw [h0] at hz hk
  obtain ⟨t2, a1, b1⟩ := kk ad' T'.heap (locs ++ L) hx (by rw [e1]; exact hP) hD
    ⟨Nat.le_trans hS.1 (by rw [e1]; exact hz), fun q h1 h2 => by rw [e1, hk q (Nat.lt_of_lt_of_le h1 hS.1) h2]; exact hS.2.1 q h1 h2, fun q hq => by
      rcases List.mem_append.mp hq with h | h
      · exact hS.2.2 q h
      · exact hL q h⟩ T' rfl X'
  exact ⟨t2, st t2 a1, b1⟩
theorem zx_retI {ro : Option zx_R} {r : List zx_V} (h1 : zx_ret pc L r h nc ns ro = some (.inl st)) : ∃ q : zx_R, ro = some q ∧ (q.2.1.length = h.length ∨ zx_ok L r h = true) ∧ st = (pc + 3, L, q.1.toList ++ r, q.2.1, nc + q.2.2.1, ns + q.2.2.2) := by
  unfold zx_ret at h1
  split at h1
  · rename_i v h' mc ms
    split at h1
    · rename_i g
      exact ⟨(v, h', mc, ms), rfl, g, zx_Ni h1⟩
    · cases h1
  · cases h1
/-- a call's end, put back beside the caller's own values -/
theorem zx_back {q : zx_R} {r : List zx_V} {st0 : List Value} {ls : Array Slot} {a : Array Value} {H : Heap} {locs : List Loc} (hor : q.2.1.length = h.length ∨ zx_ok L r h = true)
    (hr : va_Run p l e R s m args below meth c H locs nc ns q.2.2.1 q.2.2.2 (F0 m pc ls st0) (r.map (zx_c fx vq ad)) (zx_Qc fx vq ct A D ad h q a) A) (hS : va_S A s.heap H locs) (hl : lv_has ls (zx_mn t) (zx_l fx vq ad L))
    (K : ∀ ad', zx_ext ad h ad' q.2.1 → zx_Go p l e R s m args below meth c Q fx vq ct A D t ad' (pc + 3, L, q.1.toList ++ r, q.2.1, nc + q.2.2.1, ns + q.2.2.2)) : W p l e R s m args below meth c H locs nc ns Q (F0 m pc ls st0) := by
  refine zx_call hr hS (fun ad' H1 locs1 hx hP1 hD1 hS1 => ?_)
  have hb : r.map (zx_c fx vq ad') = r.map (zx_c fx vq ad) ∧ ∀ z ∈ zx_l fx vq ad' L, z ∈ zx_l fx vq ad L := by
    rcases hor with e1 | e1
    · rw [hx.2.2 e1]
      exact ⟨rfl, fun _ z => z⟩
    · obtain ⟨o1, o2, -⟩ := zx_okL e1
      exact ⟨zx_S_ad hx.2.1 o2, zx_l_ad hx.2.1 o1⟩
  have k : W p l e R s m args below meth c H1 locs1 (nc + q.2.2.1) (ns + q.2.2.2) Q (F0 m (pc + 3) ls ((q.1.toList ++ r).map (zx_c fx vq ad'))) := K ad' hx H1 locs1 ls hP1 hD1 hS1 (zx_l_sub hl hb.2)
  rw [List.map_append, hb.1] at k
  have e2 : q.1.toList.map (zx_c fx vq ad') = (q.1.map (zx_c fx vq ad')).toList := by cases q.1 <;> rfl
  rw [e2] at k
  exact k
theorem zx_gi {ws : List Cond} (hw : ∀ w ∈ ws, w ∈ zx_G) : GoodIn zx_G ws := fun w h => ⟨hw w h, good_of_word (List.mem_filter.mp (hw w h)).2⟩
theorem zx_zip {α β : Type} {x : α} : ∀ {a : List α} {b : List β}, x ∈ a → a.length ≤ b.length → ∃ y, (x, y) ∈ a.zip b
  | [], _, h, _ => absurd h List.not_mem_nil
  | _ :: _, [], _, hl => absurd hl (by simp)
  | z :: a, y :: b, h, hl => by
    rcases List.mem_cons.mp h with rfl | h
    · exact ⟨y, by simp⟩
    · obtain ⟨w, hw⟩ := zx_zip h (b := b) (by simpa using hl)
      exact ⟨w, by simp [hw]⟩
theorem zx_mk_chunk {a : List zx_MT} {n : Nat} (hc : (a.zip (zx_mc.drop n)).all (fun q => zx_ckm q.1 q.2) = true) (hl : a.length ≤ (zx_mc.drop n).length) : ∀ x ∈ a, ∃ q, zx_ckm x q = true := by
  intro x hx
  obtain ⟨y, hy⟩ := zx_zip hx hl
  exact ⟨y, List.all_eq_true.mp hc (x, y) hy⟩
set_option maxRecDepth 100000 in
theorem zx_mok : ∀ x ∈ zx_ml, ∃ q, zx_ckm x q = true := by
  show ∀ x ∈ zx_ml_0 ++ zx_ml_1 ++ zx_ml_2 ++ zx_ml_3 ++ zx_ml_4 ++ zx_ml_5, _
  exact List.forall_mem_append.mpr ⟨List.forall_mem_append.mpr ⟨List.forall_mem_append.mpr ⟨List.forall_mem_append.mpr ⟨List.forall_mem_append.mpr ⟨zx_mk_chunk zx_ckM_0 (by decide +kernel), zx_mk_chunk zx_ckM_1 (by decide +kernel)⟩, zx_mk_chunk zx_ckM_2 (by decide +kernel)⟩, zx_mk_chunk zx_ckM_3 (by decide +kernel)⟩, zx_mk_chunk zx_ckM_4 (by decide +kernel)⟩, zx_mk_chunk zx_ckM_5 (by decide +kernel)⟩
theorem zx_m_mem {k : Nat} (hk : k < 221) : zx_m k ∈ zx_ml := by
  unfold zx_m
  rw [List.getElem?_eq_getElem (by rw [zx_ml_len.1]; exact hk)]
  exact List.getElem_mem _
theorem zx_ws_in {k : Nat} (hk : k < 221) : ∀ w ∈ zx_ws k, w ∈ zx_G := by
  intro w hw
  rcases List.mem_cons.mp hw with rfl | hw
  · exact zx_kc _ (zx_m_mem hk)
  · exact hw
/-- what a program has decided of a method -/
theorem zx_mfacts {k : Nat} (hk : k < 221) : Cond.initialized (zx_my (zx_m k)).cls ∈ zx_G ∧ zx_o (zx_mo (zx_m k)) = (zx_my (zx_m k)).cls ∧ zx_mn (zx_m k) ≤ 20 ∧ (zx_my (zx_m k)).cls ≠ "java/lang/invoke/MethodHandle" ∧ (zx_my (zx_m k)).cls ≠ "java/lang/invoke/VarHandle" ∧ (parseMethodDescriptor (zx_my (zx_m k)).desc).map (fun d => d.parameters.length) = some (zx_mp (zx_m k)) ∧
    (zx_mk (zx_m k) = 0 → Cond.instanceMethod (zx_my (zx_m k)) ∈ zx_G ∧ Cond.selects (zx_my (zx_m k)).cls (zx_my (zx_m k)) (zx_my (zx_m k)) ∈ zx_G ∧ plainName (zx_my (zx_m k)).cls = true) ∧
    (zx_mk (zx_m k) = 1 → Cond.static (zx_my (zx_m k)) ∈ zx_G ∧ plainName (zx_my (zx_m k)).cls = true) ∧
    (zx_mk (zx_m k) = 2 → Cond.instanceMethod (zx_my (zx_m k)) ∈ zx_G ∧ (zx_my (zx_m k)).name = "<init>" ∧ zx_mr (zx_m k) = none ∧ plainName (zx_my (zx_m k)).cls = true) ∧
    (zx_mk (zx_m k) = 3 → Cond.static Lib.Math.max.name ∈ zx_G ∧ zx_my (zx_m k) = Lib.Math.max.name ∧ Cond.initialized "java/lang/Math" ∈ zx_G) ∧
    (zx_mk (zx_m k) = 4 → Cond.static Lib.Math.min.name ∈ zx_G ∧ zx_my (zx_m k) = Lib.Math.min.name ∧ Cond.initialized "java/lang/Math" ∈ zx_G) := by
  obtain ⟨q, hq⟩ := zx_mok _ (zx_m_mem hk)
  unfold zx_ckm at hq
  simp only [Bool.and_eq_true, decide_eq_true_eq] at hq
  obtain ⟨q1, q2, -, q3, q4, q5, q6, q7⟩ := hq
  refine ⟨zx_inG_mem q1, q2, q3, q4, q5, q6, ?_, ?_, ?_, ?_, ?_⟩
  · intro z; rw [z] at q7; simp only [Bool.and_eq_true] at q7
    exact ⟨zx_inG_mem q7.1, zx_inG_mem q7.2.1, q7.2.2⟩
  · intro z; rw [z] at q7; simp only [Bool.and_eq_true] at q7
    exact ⟨zx_inG_mem q7.1, q7.2⟩
  · intro z; rw [z] at q7; simp only [Bool.and_eq_true, decide_eq_true_eq] at q7
    exact ⟨zx_inG_mem q7.1, q7.2.1, q7.2.2.1, q7.2.2.2⟩
  · intro z; rw [z] at q7; simp only [Bool.and_eq_true, decide_eq_true_eq] at q7
    exact ⟨zx_inG_mem q7.1, q7.2.1, zx_inG_mem q7.2.2⟩
  · intro z; rw [z] at q7; simp only [Bool.and_eq_true, decide_eq_true_eq] at q7
    exact ⟨zx_inG_mem q7.1, q7.2.1, zx_inG_mem q7.2.2⟩
end
end
section
/-! part 11: the steps that call -/
section
variable {p : Program} {l : Launch} {e : Env} {R : Room} {s : State} {m : MethodId} {args : Array Value} {below : List Frame} {meth : Method} {c : Code} {Q : State → Prop}
variable {fx : Nat → Nat → Nat} {vq : Value} {ct : Nat → ClassId} {ad : Nat → Nat} {A : Nat → Prop} {sc : zx_Sc} {D : va_G} {t : zx_MT} {d : Nat}
variable {pc nc ns : Nat} {L : List (Option zx_V)} {S : List zx_V} {h : List zx_C} {st : zx_S}
set_option maxRecDepth 100000 in
theorem zx_nwl : zx_nw.all (fun w => match w with | .methodLinkNest _ _ y _ => decide (y.cls ≠ "java/lang/Math") | _ => true) = true := by decide +kernel
theorem zx_noN1 (o : String) (i : Nat) : ¬ Cond.methodLinkNest o i Lib.Math.max.name zx_host ∈ lw_tbl := by
  intro h
  have h2 := List.all_eq_true.mp zx_nwl _ (List.mem_filter.mpr ⟨h, rfl⟩)
  exact absurd (by decide : (Lib.Math.max.name).cls = "java/lang/Math") (by simpa using h2)
theorem zx_noN2 (o : String) (i : Nat) : ¬ Cond.methodLinkNest o i Lib.Math.min.name zx_host ∈ lw_tbl := by
  intro h
  have h2 := List.all_eq_true.mp zx_nwl _ (List.mem_filter.mpr ⟨h, rfl⟩)
  exact absurd (by decide : (Lib.Math.min.name).cls = "java/lang/Math") (by simpa using h2)
set_option maxRecDepth 100000 in
theorem zx_cmax : Cond.code Lib.Math.max.name Lib.Math.max.code 2 (some .int) ∈ zx_G := zx_cdm (p := 717) rfl
set_option maxRecDepth 100000 in
theorem zx_cmin : Cond.code Lib.Math.min.name Lib.Math.min.code 2 (some .int) ∈ zx_G := zx_cdm (p := 531) rfl
variable {run : Nat → List zx_V → List zx_C → Option zx_R}
/-- the callees are known -/
def zx_Hm (l : Launch) (fx : Nat → Nat → Nat) (vq : Value) (ct : Nat → ClassId) (A : Nat → Prop) (sc : zx_Sc) (D : va_G) (d : Nat) (run : Nat → List zx_V → List zx_C → Option zx_R) : Prop := ∀ (k : Nat) (as : List zx_V) (h : List zx_C) (r : zx_R) (ad : Nat → Nat), k < 221 → zx_mk (zx_m k) < 3 → run k as h = some r → ∃ d', d = d' + 1 ∧ zx_Met l fx vq ct A none D d' k as h r ad
theorem zx_stk_split {n a : Nat} {tg : Nat} {r : List zx_V} {va : Value} (hd : S.drop n = .inr (.inr (tg, a)) :: r) (hva : zx_c fx vq ad (.inr (.inr (tg, a))) = va) : S.map (zx_c fx vq ad) = ((S.take n).reverse.map (zx_c fx vq ad)).reverse ++ va :: r.map (zx_c fx vq ad) := by
  rw [List.map_reverse, List.reverse_reverse, ← hva]
  have e1 : S = S.take n ++ S.drop n := (List.take_append_drop n S).symm
  have e2 : S.map (zx_c fx vq ad) = (S.take n ++ S.drop n).map (zx_c fx vq ad) := by rw [← e1]
  rw [e2, List.map_append, hd]
  rfl
theorem zx_room {d' k : Nat} {q : zx_R} (hk : k < 221) (hR : d' + 1 + 1 ≤ R.frames ∧ 40 * (d' + 1) + 40 ≤ R.locals) : (zx_rm d' q).frames + 1 ≤ R.frames ∧ 8 + (zx_mn (zx_m k) + 11) + (zx_rm d' q).locals ≤ R.locals := by
  have h1 := (zx_mfacts hk).2.2.1
  refine ⟨hR.1, ?_⟩
  show 8 + (zx_mn (zx_m k) + 11) + (40 * d' + 40) ≤ R.locals
  have h2 := hR.2
  omega
theorem zx_take_len {n : Nat} (hn : n ≤ S.length) : ((S.take n).reverse.map (zx_c fx vq ad)).length = n := by
  rw [List.length_map, List.length_reverse, List.length_take]
  omega
theorem zx_hW {r : List zx_V} {ls : Array Slot} {rest : List Value} (hq : vq = .null ∨ ∃ t, vq = .ref t) (hr : zx_cs r ≤ 8) : 2 * (F0 m pc ls rest).monitorRoom + ((r.map (zx_c fx vq ad)).map fun v => v.category).sum ≤ 8 := lv_room (by rw [zx_sum hq]; exact hr)
theorem zx_s_iv (X : zx_Cx p R s m args meth c fx vq ct A sc D t d) (hM : zx_Hm l fx vq ct A sc D d run) {ix : Nat} (hdg : decode (zx_mb t) pc = .ok (.invokevirtual ix, 3)) (h1 : zx_iv run (zx_mo t) ix pc L S h nc ns = some (.inl st)) (hR : st.2.2.2.2.1 ≤ R.cells ∧ st.2.2.2.2.2 ≤ R.slots)
    (K : ∀ ad', zx_ext ad h ad' st.2.2.2.1 → zx_Go p l e R s m args below meth c Q fx vq ct A D t ad' st) : zx_Go p l e R s m args below meth c Q fx vq ct A D t ad (pc, L, S, h, nc, ns) := by
  have X0 := X
  obtain ⟨hx, hb, hml, hown, hts, hK, hA, hSt, hRm, hin⟩ := X
  have hq := hSt.2.2.2.2.2.2.2.2.1
  unfold zx_iv at h1
  split at h1
  · rename_i k np e1
    have hL := zx_cka_use zx_ckL_all e1
    split at h1
    · rename_i g
      obtain ⟨hk0, hk⟩ := g
      obtain ⟨f1, f2, f3, f4, f5, f6, f7, -, -, -, -⟩ := zx_mfacts hk
      obtain ⟨w1, w2, w3⟩ := f7 hk0
      have key : ∀ {tg a : Nat} {b : Nat} {r : List zx_V} {q : zx_R} {H : Heap} {locs : List Loc} {ls : Array Slot}, S.drop (zx_mp (zx_m k)) = .inr (.inr (tg, a)) :: r → zx_c fx vq ad (.inr (.inr (tg, a))) = .ref b → zx_cs r ≤ 8 → zx_mp (zx_m k) ≤ S.length →
          run k (.inr (.inr (tg, a)) :: (S.take (zx_mp (zx_m k))).reverse) h = some q → nc + q.2.2.1 ≤ R.cells ∧ ns + q.2.2.2 ≤ R.slots →
          va_P D zx_cl (zx_w fx vq ct ad h) H → va_D A (zx_w fx vq ct ad h) → va_S A s.heap H locs → ls.size = zx_mn t → (∃ cellB : Cell, H[b]? = some cellB ∧ cellB.vm.isStatics = false ∧ s.vm.findClass (zx_my (zx_m k)).cls = some cellB.cls) →
          ∃ aa, va_Run p l e R s m args below meth c H locs nc ns q.2.2.1 q.2.2.2 (F0 m pc ls (S.map (zx_c fx vq ad))) (r.map (zx_c fx vq ad)) (zx_Qc fx vq ct A D ad h q aa) A := by
        intro tg a b r q H locs ls hdr hva hcs hlen hrun hf hP hD hS hsz hcell
        obtain ⟨d', rfl, hMet⟩ := hM k _ h q ad hk (by omega) hrun
        have hpre : PreV s H (zx_my (zx_m k)).cls b (va_Pc ((.inr (.inr (tg, a)) :: (S.take (zx_mp (zx_m k))).reverse : List zx_V).map (zx_c fx vq ad)) (zx_Wd fx vq ct A none D ad h)) ((S.take (zx_mp (zx_m k))).reverse.map (zx_c fx vq ad)) := by
          refine ⟨zx_blind, hcell, fun U hU hW => ?_⟩
          have h9 := zx_in X0 hP hD hS (.inr (.inr (tg, a)) :: (S.take (zx_mp (zx_m k))).reverse) U hU hW
          have e9 : (Value.ref b :: (S.take (zx_mp (zx_m k))).reverse.map (zx_c fx vq ad)) = (.inr (.inr (tg, a)) :: (S.take (zx_mp (zx_m k))).reverse : List zx_V).map (zx_c fx vq ad) := by rw [List.map_cons, hva]
          rw [e9]
          exact h9
        unfold zx_ckL at hL
        split at hL
        · exact ⟨_, va_runV ⟨hx, hb, hml, hown, hts⟩ hMet (cwV (zx_mp (zx_m k)) hts (zx_gi (fun w hw => by
            rcases List.mem_append.mp hw with hw | hw
            · simp only [List.mem_cons, List.not_mem_nil, or_false] at hw
              rcases hw with rfl | rfl | rfl | rfl
              · exact zx_inG_mem hL
              · exact w1
              · exact w2
              · exact f1
            · exact zx_ws_in hk w hw)) rfl rfl rfl ⟨rfl, f4, f5, f6⟩ (zx_room hk hRm)) hpre rfl (zx_take_len hlen) hsz (zx_stk_split hdr hva) (zx_hW hq hcs) hdg hf⟩
        · exact ⟨_, va_runVN ⟨hx, hb, hml, hown, hts⟩ hMet ⟨va_cnB (zx_mp (zx_m k)) hts (zx_gi (zx_ws_in hk)) rfl rfl rfl (hSt.1 _ (zx_inN_mem hL)) (hts _ f1) ⟨f4, f5, f6⟩ (zx_room hk hRm), hts _ w1, hts _ w2⟩ hpre rfl (zx_take_len hlen) hsz (zx_stk_split hdr hva) (zx_hW hq hcs) hdg hf⟩
        · cases hL
      split at h1
      · rename_i a r hdr
        split at h1
        · rename_i ci fs e2
          split at h1
          · rename_i g
            obtain ⟨g1, g2, g3, g4⟩ := g
            obtain ⟨q, hrun, hor, rfl⟩ := zx_retI h1
            intro H locs ls hP hD hS hl
            have hcell := va_recv hK hP (zx_clk g2) (zx_w_get (fx := fx) (vq := vq) (ct := ct) (ad := ad) e2)
            have e9 : zx_R9 ci = (zx_my (zx_m k)).cls := by
              rw [← f2, ← g1]
              rcases (show ci = 0 ∨ ci = 1 ∨ ci = 2 ∨ ci = 3 ∨ ci = 4 ∨ ci = 5 ∨ ci = 6 ∨ ci = 7 ∨ ci = 8 by omega) with rfl | rfl | rfl | rfl | rfl | rfl | rfl | rfl | rfl <;> rfl
            rw [show (zx_R9 ci, zx_T8 ci, zx_fn ci).1 = (zx_my (zx_m k)).cls from e9] at hcell
            obtain ⟨aa, hr⟩ := key hdr rfl g3 g4 hrun hR hP hD hS hl.1 hcell
            exact zx_back hor hr hS hl K
          · cases h1
        · cases h1
      · rename_i a r hdr
        split at h1
        · rename_i g
          obtain ⟨g1, g2, g3, g4⟩ := g
          obtain ⟨q, hrun, hor, rfl⟩ := zx_retI h1
          intro H locs ls hP hD hS hl
          have hcell := vk_recv hSt.2.2.2.2.1 g1 hS
          rw [g2] at f2
          rw [show ("java/lang/String" : String) = (zx_my (zx_m k)).cls from f2] at hcell
          obtain ⟨aa, hr⟩ := key hdr rfl g3 g4 hrun hR hP hD hS hl.1 hcell
          exact zx_back hor hr hS hl K
        · cases h1
      · cases h1
    · cases h1
  · cases h1
theorem zx_cpy_len {α : Type} {f g : List α} {sp dp n : Nat} (h1 : sp + n ≤ f.length) (h2 : dp + n ≤ g.length) : (zx_cpy f g sp dp n).length = g.length := by
  unfold zx_cpy
  simp only [List.length_append, List.length_take, List.length_drop]
  omega
theorem zx_cpy_fn {α : Type} {d0 : α} {f g : List α} {sp dp n : Nat} (h1 : sp + n ≤ f.length) (h2 : dp + n ≤ g.length) : (fun j : Nat => (zx_cpy f g sp dp n).getD j d0) = va_cpy (fun j : Nat => f.getD j d0) (fun j : Nat => g.getD j d0) sp dp n := by
  funext j
  unfold va_cpy
  show (zx_cpy f g sp dp n).getD j d0 = if dp ≤ j ∧ j < dp + n then f.getD (sp + (j - dp)) d0 else g.getD j d0
  unfold zx_cpy
  rw [List.getD_eq_getElem?_getD, List.getD_eq_getElem?_getD, List.getD_eq_getElem?_getD]
  have l1 : (g.take dp).length = dp := by rw [List.length_take]; omega
  have l2 : ((f.drop sp).take n).length = n := by rw [List.length_take, List.length_drop]; omega
  by_cases a : j < dp
  · rw [List.getElem?_append_left (by omega), List.getElem?_take, if_pos a, if_neg (by omega)]
  · rw [List.getElem?_append_right (by omega), l1]
    by_cases b : j - dp < n
    · rw [List.getElem?_append_left (by omega), List.getElem?_take, if_pos b, List.getElem?_drop, if_pos (by omega)]
    · rw [List.getElem?_append_right (by omega), l2, List.getElem?_drop, if_neg (by omega), show dp + n + (j - dp - n) = j by omega]
theorem zx_s_ac (X : zx_Cx p R s m args meth c fx vq ct A sc D t d) {ix : Nat} (hdg : decode (zx_mb t) pc = .ok (.invokestatic ix, 3)) (hlk : Cond.methodLink (zx_o (zx_mo t)) ix arraycopyName ∈ zx_G) (h1 : zx_ac pc L S h nc ns = some (.inl st))
    (K : zx_Go p l e R s m args below meth c Q fx vq ct A D t ad st) : zx_Go p l e R s m args below meth c Q fx vq ct A D t ad (pc, L, S, h, nc, ns) := by
  obtain ⟨hx, hb, hml, hown, hts, hK, hA, hSt, hRm, hin⟩ := X
  have hq := hSt.2.2.2.2.2.2.2.2.1
  have hX := zx_ckX
  simp only [Bool.and_eq_true] at hX
  have hnw : nativeFrameWords "java/lang/System" "arraycopy" 5 + 11 ≤ 32 := by decide +kernel
  unfold zx_ac at h1
  split at h1
  · rename_i n dp b sp a r
    split at h1
    · rename_i g
      obtain ⟨g1, g2, g3, g4⟩ := g
      have hloc : ((r.map (zx_c fx vq ad)).map fun v => v.category).sum + (nativeFrameWords "java/lang/System" "arraycopy" 5 + 11) ≤ R.locals := by
        rw [zx_sum hq]
        have := hRm.2
        omega
      split at h1
      · rename_i f z e1 e2
        split at h1
        · rename_i g5
          obtain rfl := zx_Ni h1
          intro H locs ls hP hD hS hl
          have ew : zx_w fx vq ct ad (h.set b (.inr (0, .inl (zx_cpy f z sp.toNatClampNeg dp.toNatClampNeg n.toNatClampNeg)))) = (zx_w fx vq ct ad h).set b (ad b, .inl (ct 0, z.length, .inl (va_cpy (fun j : Nat => f.getD j 0) (fun j : Nat => z.getD j 0) sp.toNatClampNeg dp.toNatClampNeg n.toNatClampNeg))) := by
            rw [zx_w_set, ← zx_cpy_fn g5.1 g5.2, ← zx_cpy_len g5.1 g5.2]
            rfl
          exact va_copyi hx hb (hml.trans hl.1.symm) hown (hts _ hlk) (hts _ (zx_inG_mem hX.2.2.2.1)) (hts _ (zx_inG_mem hX.2.2.2.2.1)) (hts _ (zx_inG_mem hX.2.2.1)) hK hP hD hS a b 0 0 (ty := .int) (zx_w_get (fx := fx) (vq := vq) (ct := ct) (ad := ad) e1) (zx_w_get (fx := fx) (vq := vq) (ct := ct) (ad := ad) e2) rfl rfl rfl g2 g3 g4 g5.1 g5.2 (fun _ _ => rfl) (by have := hRm.1; omega) hloc hdg (fun H1 locs1 hP1 hD1 hS1 => K H1 locs1 ls (by rw [ew]; exact hP1) (by rw [ew]; exact hD1) hS1 hl)
        · cases h1
      · rename_i f z e1 e2
        split at h1
        · rename_i g5
          obtain rfl := zx_Ni h1
          intro H locs ls hP hD hS hl
          have ew : zx_w fx vq ct ad (h.set b (.inr (1, .inr (.inl (zx_cpy f z sp.toNatClampNeg dp.toNatClampNeg n.toNatClampNeg))))) = (zx_w fx vq ct ad h).set b (ad b, .inl (ct 1, z.length, .inr (.inl (va_cpy (fun j : Nat => f.getD j 0) (fun j : Nat => z.getD j 0) sp.toNatClampNeg dp.toNatClampNeg n.toNatClampNeg)))) := by
            rw [zx_w_set, ← zx_cpy_fn g5.1 g5.2, ← zx_cpy_len g5.1 g5.2]
            rfl
          exact va_copyl hx hb (hml.trans hl.1.symm) hown (hts _ hlk) (hts _ (zx_inG_mem hX.2.2.2.1)) (hts _ (zx_inG_mem hX.2.2.2.2.1)) (hts _ (zx_inG_mem hX.2.2.1)) hK hP hD hS a b 1 1 (ty := .long) (zx_w_get (fx := fx) (vq := vq) (ct := ct) (ad := ad) e1) (zx_w_get (fx := fx) (vq := vq) (ct := ct) (ad := ad) e2) rfl rfl rfl g2 g3 g4 g5.1 g5.2 (fun _ _ => rfl) (by have := hRm.1; omega) hloc hdg (fun H1 locs1 hP1 hD1 hS1 => K H1 locs1 ls (by rw [ew]; exact hP1) (by rw [ew]; exact hD1) hS1 hl)
        · cases h1
      · cases h1
    · cases h1
  · cases h1
theorem zx_s_is (X : zx_Cx p R s m args meth c fx vq ct A sc D t d) (hM : zx_Hm l fx vq ct A sc D d run) {ix : Nat} (hdg : decode (zx_mb t) pc = .ok (.invokestatic ix, 3)) (h1 : zx_is run (zx_mo t) ix pc L S h nc ns = some (.inl st)) (hR : st.2.2.2.2.1 ≤ R.cells ∧ st.2.2.2.2.2 ≤ R.slots)
    (K : ∀ ad', zx_ext ad h ad' st.2.2.2.1 → zx_Go p l e R s m args below meth c Q fx vq ct A D t ad' st) : zx_Go p l e R s m args below meth c Q fx vq ct A D t ad (pc, L, S, h, nc, ns) := by
  have X0 := X
  obtain ⟨hx, hb, hml, hown, hts, hK, hA, hSt, hRm, hin⟩ := X
  have hq := hSt.2.2.2.2.2.2.2.2.1
  unfold zx_is at h1
  split at h1
  · rename_i k np e1
    have hL := zx_cka_use zx_ckL_all e1
    split at h1
    · rename_i g
      obtain ⟨hk1, hk, hcs, hlen⟩ := g
      obtain ⟨f1, f2, f3, f4, f5, f6, -, f7, -, -, -⟩ := zx_mfacts hk
      obtain ⟨w1, w3⟩ := f7 hk1
      obtain ⟨q, hrun, hor, rfl⟩ := zx_retI h1
      intro H locs ls hP hD hS hl
      obtain ⟨d', rfl, hMet⟩ := hM k _ h q ad hk (by omega) hrun
      have hpre : PreS s H (va_Pc ((S.take (zx_mp (zx_m k))).reverse.map (zx_c fx vq ad)) (zx_Wd fx vq ct A none D ad h)) ((S.take (zx_mp (zx_m k))).reverse.map (zx_c fx vq ad)) := ⟨zx_blind, zx_in X0 hP hD hS _⟩
      have hstk : S.map (zx_c fx vq ad) = ((S.take (zx_mp (zx_m k))).reverse.map (zx_c fx vq ad)).reverse ++ (S.drop (zx_mp (zx_m k))).map (zx_c fx vq ad) := by
        rw [List.map_reverse, List.reverse_reverse, ← List.map_append, List.take_append_drop]
      unfold zx_ckL at hL
      split at hL
      · exact zx_back hor (va_runS ⟨hx, hb, hml, hown, hts⟩ hMet (va_cwS (zx_mp (zx_m k)) hts (zx_gi (fun w hw => by
          rcases List.mem_append.mp hw with hw | hw
          · simp only [List.mem_cons, List.not_mem_nil, or_false] at hw
            rcases hw with rfl | rfl | rfl
            · exact zx_inG_mem hL
            · exact w1
            · exact f1
          · exact zx_ws_in hk w hw)) rfl rfl rfl ⟨f4, f5, f6⟩ (zx_room hk hRm)) hpre rfl (zx_take_len hlen) hl.1 hstk (zx_hW hq hcs) hdg hR) hS hl K
      · exact zx_back hor (va_runSN ⟨hx, hb, hml, hown, hts⟩ hMet ⟨va_cnB (zx_mp (zx_m k)) hts (zx_gi (zx_ws_in hk)) rfl rfl rfl (hSt.1 _ (zx_inN_mem hL)) (hts _ f1) ⟨f4, f5, f6⟩ (zx_room hk hRm), hts _ w1, trivial⟩ hpre rfl (zx_take_len hlen) hl.1 hstk (zx_hW hq hcs) hdg hR) hS hl K
      · cases hL
    · split at h1
      · rename_i y x r _
        split at h1
        · rename_i g
          obtain ⟨hcs, hk⟩ := g
          have hloc : ((r.map (zx_c fx vq ad)).map fun v => v.category).sum + 13 ≤ R.locals := by
            rw [zx_sum hq]
            have := hRm.2
            omega
          obtain ⟨f1, f2, f3, f4, f5, f6, -, -, -, f7, f8⟩ := zx_mfacts hk
          have hcode := zx_kc _ (zx_m_mem hk)
          split at h1
          · rename_i hk3
            obtain ⟨w1, w2, w3⟩ := f7 hk3
            obtain rfl := zx_Ni h1
            intro H locs ls hP hD hS hl
            have hlk : Cond.methodLink (zx_o (zx_mo t)) ix Lib.Math.max.name ∈ zx_G := by
              unfold zx_ckL at hL
              split at hL
              · rw [← w2]; exact zx_inG_mem hL
              · exfalso
                have hn := List.mem_filter.mp (zx_inN_mem hL)
                rw [w2] at hn
                exact zx_noN1 _ _ hn.1
              · cases hL
            exact va_mmax hx hb (hml.trans hl.1.symm) hown (hts _ hlk) (hts _ w1) (hts _ w3) (hts _ zx_cmax) (by have := hRm.1; omega) hloc hR.1 hR.2 hdg (K ad (zx_ext_sm rfl) H locs ls hP hD hS hl)
          · split at h1
            · rename_i hk4
              obtain ⟨w1, w2, w3⟩ := f8 hk4
              obtain rfl := zx_Ni h1
              intro H locs ls hP hD hS hl
              have hlk : Cond.methodLink (zx_o (zx_mo t)) ix Lib.Math.min.name ∈ zx_G := by
                unfold zx_ckL at hL
                split at hL
                · rw [← w2]; exact zx_inG_mem hL
                · exfalso
                  have hn := List.mem_filter.mp (zx_inN_mem hL)
                  rw [w2] at hn
                  exact zx_noN2 _ _ hn.1
                · cases hL
              exact va_mmin hx hb (hml.trans hl.1.symm) hown (hts _ hlk) (hts _ w1) (hts _ w3) (hts _ zx_cmin) (by have := hRm.1; omega) hloc hR.1 hR.2 hdg (K ad (zx_ext_sm rfl) H locs ls hP hD hS hl)
            · cases h1
        · cases h1
      · cases h1
  · split at h1
    · rename_i pp e1
      have hA9 := zx_cka_use zx_ckA_all e1
      exact zx_s_ac X0 hdg (zx_inG_mem hA9) h1 (K ad (zx_ext_sm (zx_k_ac h1).2.1))
    · cases h1
theorem zx_s_ii (X : zx_Cx p R s m args meth c fx vq ct A sc D t d) (hM : zx_Hm l fx vq ct A sc D d run) {ix : Nat} (hdg : decode (zx_mb t) pc = .ok (.invokespecial ix, 3)) (h1 : zx_ii run (zx_mo t) ix pc L S h nc ns = some (.inl st)) (hR : st.2.2.2.2.1 ≤ R.cells ∧ st.2.2.2.2.2 ≤ R.slots)
    (K : ∀ ad', zx_ext ad h ad' st.2.2.2.1 → zx_Go p l e R s m args below meth c Q fx vq ct A D t ad' st) : zx_Go p l e R s m args below meth c Q fx vq ct A D t ad (pc, L, S, h, nc, ns) := by
  have X0 := X
  obtain ⟨hx, hb, hml, hown, hts, hK, hA, hSt, hRm, hin⟩ := X
  have hq := hSt.2.2.2.2.2.2.2.2.1
  unfold zx_ii at h1
  split at h1
  · rename_i k np e1
    have hL := zx_cka_use zx_ckL_all e1
    split at h1
    · rename_i g
      obtain ⟨hk2, hk⟩ := g
      obtain ⟨f1, f2, f3, f4, f5, f6, -, -, f7, -, -⟩ := zx_mfacts hk
      obtain ⟨w1, w2, w3, w4⟩ := f7 hk2
      split at h1
      · rename_i a r hdr
        split at h1
        · rename_i g
          obtain ⟨hcs, hlen⟩ := g
          obtain ⟨q, hrun, hor, rfl⟩ := zx_retI h1
          intro H locs ls hP hD hS hl
          obtain ⟨d', rfl, hMet⟩ := hM k _ h q ad hk (by omega) hrun
          have hpre : PreS s H (va_Pc ((.inr (.inr (1, a)) :: (S.take (zx_mp (zx_m k))).reverse : List zx_V).map (zx_c fx vq ad)) (zx_Wd fx vq ct A none D ad h)) (.ref (ad a) :: (S.take (zx_mp (zx_m k))).reverse.map (zx_c fx vq ad)) := ⟨zx_blind, zx_in X0 hP hD hS (.inr (.inr (1, a)) :: (S.take (zx_mp (zx_m k))).reverse)⟩
          have hws : zx_ws k = Cond.code (zx_my (zx_m k)) (zx_mb (zx_m k)) (zx_mn (zx_m k)) none :: zx_G := by
            unfold zx_ws
            rw [w3]
          unfold zx_ckL at hL
          split at hL
          · exact zx_back hor (va_runI ⟨hx, hb, hml, hown, hts⟩ hMet (cwI (zx_mp (zx_m k)) hts (zx_gi (zx_ws_in hk)) hws rfl rfl (hts _ f1) (hts _ (zx_inG_mem hL)) (hts _ w1) w2 ⟨f4, f5, f6⟩ (zx_room hk hRm)) hpre rfl (zx_take_len hlen) hl.1 (zx_stk_split hdr rfl) (zx_hW hq hcs) hdg hR) hS hl K
          · exact zx_back hor (va_runIN ⟨hx, hb, hml, hown, hts⟩ hMet ⟨va_cnB (zx_mp (zx_m k)) hts (zx_gi (zx_ws_in hk)) hws rfl rfl (hSt.1 _ (zx_inN_mem hL)) (hts _ f1) ⟨f4, f5, f6⟩ (zx_room hk hRm), w2, hts _ w1⟩ hpre rfl (zx_take_len hlen) hl.1 (zx_stk_split hdr rfl) (zx_hW hq hcs) hdg hR) hS hl K
          · cases hL
        · cases h1
      · cases h1
    · cases h1
  · split at h1
    · rename_i pp a r e1
      have hO := zx_cka_use zx_ckO_all e1
      have hX := zx_ckX
      simp only [Bool.and_eq_true] at hX
      split at h1
      · rename_i hcs
        obtain rfl := zx_Ni h1
        intro H locs ls hP hD hS hl
        refine W.objInit hx hb hown (hts _ (zx_inG_mem hO)) (hts _ (zx_inG_mem hX.2.2.2.2.2.1)) (hts _ (zx_inG_mem hX.2.2.2.2.2.2)) rfl (by rw [hml]; exact hl.1) rfl hdg (by have := hRm.1; omega) ?_ (K ad (zx_ext_sm rfl) H locs ls hP hD hS hl)
        have h8 := hRm.2
        show 2 * 0 + ((r.map (zx_c fx vq ad)).map fun v => v.category).sum + 12 ≤ R.locals
        have h7 : ((r.map (zx_c fx vq ad)).map fun v => v.category).sum ≤ 8 := by rw [zx_sum hq]; exact hcs
        omega
      · cases h1
    · cases h1
end
end
section
/-! part 12: every step; every run: the small machine's runs are the machine's -/
section
variable {p : Program} {l : Launch} {e : Env} {R : Room} {s : State} {m : MethodId} {args : Array Value} {below : List Frame} {meth : Method} {c : Code} {Q : State → Prop}
variable {fx : Nat → Nat → Nat} {vq : Value} {ct : Nat → ClassId} {ad : Nat → Nat} {A : Nat → Prop} {sc : zx_Sc} {D : va_G} {t : zx_MT} {d : Nat}
variable {pc nc ns : Nat} {L : List (Option zx_V)} {S : List zx_V} {h : List zx_C} {st : zx_S}
variable {run : Nat → List zx_V → List zx_C → Option zx_R}
theorem zx_lSok : ∀ ix i, zx_lk zx_lS 4 ix = some i → ∃ q : String × Nat × Nat, zx_st[i]? = some q ∧ q.2.1 = ix := by
  intro ix i h1
  obtain ⟨r, h2, h3⟩ := zx_lk_mem h1
  have h4 : (zx_lS[4]?).all (fun r => r.all (fun e => match zx_st[e.2]? with | some q => decide (q.2.1 = e.1) | none => false)) = true := by decide +kernel
  rw [h2] at h4
  have h5 := List.all_eq_true.mp (by simpa using h4 : (r.all (fun e => match zx_st[e.2]? with | some q => decide (q.2.1 = e.1) | none => false)) = true) _ h3
  simp only at h5
  split at h5
  · rename_i q e5
    exact ⟨q, e5, by simpa using h5⟩
  · cases h5
theorem zx_nc_ret {ro : Option zx_R} {r : List zx_V} (h1 : zx_ret pc L r h nc ns ro = some (.inl st)) : st.2.1.length = L.length ∧ nc ≤ st.2.2.2.2.1 ∧ ns ≤ st.2.2.2.2.2 := by
  obtain ⟨q, -, -, rfl⟩ := zx_retI h1
  exact ⟨rfl, Nat.le_add_right _ _, Nat.le_add_right _ _⟩
theorem zx_nc_sm (h1 : zx_sm L h nc ns st) : st.2.1.length = L.length ∧ nc ≤ st.2.2.2.2.1 ∧ ns ≤ st.2.2.2.2.2 := ⟨h1.1, by rw [h1.2.2.1]; exact Nat.le_refl _, by rw [h1.2.2.2]; exact Nat.le_refl _⟩
theorem zx_nc_N {pc' : Nat} {L' : List (Option zx_V)} {S' : List zx_V} {h' : List zx_C} {nc' ns' : Nat} (h1 : zx_N pc' L' S' h' nc' ns' = some (.inl st)) (a : L'.length = L.length) (b : nc ≤ nc') (c : ns ≤ ns') : st.2.1.length = L.length ∧ nc ≤ st.2.2.2.2.1 ∧ ns ≤ st.2.2.2.2.2 := by
  obtain rfl := zx_Ni h1
  exact ⟨a, b, c⟩
theorem zx_nc_new {o ix : Nat} (h1 : zx_new o ix pc L S h nc ns = some (.inl st)) : st.2.1.length = L.length ∧ nc ≤ st.2.2.2.2.1 ∧ ns ≤ st.2.2.2.2.2 := by
  unfold zx_new at h1
  repeat' split at h1
  all_goals first | (cases h1; done) | exact zx_nc_N h1 rfl (by omega) (by omega)
theorem zx_nc_na {ty : ArrayType} (h1 : zx_na ty pc L S h nc ns = some (.inl st)) : st.2.1.length = L.length ∧ nc ≤ st.2.2.2.2.1 ∧ ns ≤ st.2.2.2.2.2 := by
  unfold zx_na at h1
  repeat' split at h1
  all_goals first | (cases h1; done) | exact zx_nc_N h1 rfl (by omega) (by omega)
theorem zx_nc_an {o ix : Nat} (h1 : zx_an o ix pc L S h nc ns = some (.inl st)) : st.2.1.length = L.length ∧ nc ≤ st.2.2.2.2.1 ∧ ns ≤ st.2.2.2.2.2 := by
  unfold zx_an at h1
  repeat' split at h1
  all_goals first | (cases h1; done) | exact zx_nc_N h1 rfl (by omega) (by omega)
theorem zx_nc_iv {o ix : Nat} (h1 : zx_iv run o ix pc L S h nc ns = some (.inl st)) : st.2.1.length = L.length ∧ nc ≤ st.2.2.2.2.1 ∧ ns ≤ st.2.2.2.2.2 := by
  unfold zx_iv at h1
  repeat' split at h1
  all_goals first | (cases h1; done) | exact zx_nc_ret h1
theorem zx_nc_is {o ix : Nat} (h1 : zx_is run o ix pc L S h nc ns = some (.inl st)) : st.2.1.length = L.length ∧ nc ≤ st.2.2.2.2.1 ∧ ns ≤ st.2.2.2.2.2 := by
  unfold zx_is at h1
  repeat' split at h1
  all_goals first | (cases h1; done) | exact zx_nc_ret h1 | exact zx_nc_sm (zx_k_ac h1) | exact zx_nc_N h1 rfl (Nat.le_refl _) (Nat.le_refl _)
theorem zx_nc_ii {o ix : Nat} (h1 : zx_ii run o ix pc L S h nc ns = some (.inl st)) : st.2.1.length = L.length ∧ nc ≤ st.2.2.2.2.1 ∧ ns ≤ st.2.2.2.2.2 := by
  unfold zx_ii at h1
  repeat' split at h1
  all_goals first | (cases h1; done) | exact zx_nc_ret h1 | exact zx_nc_N h1 rfl (Nat.le_refl _) (Nat.le_refl _)
theorem zx_noR {mr : Option FieldType} (h1 : zx_ir mr S h nc ns = some (.inl st) ∨ zx_lr mr S h nc ns = some (.inl st) ∨ zx_ar mr S h nc ns = some (.inl st) ∨ zx_vr mr S h nc ns = some (.inl st)) : False := by
  rcases h1 with h1 | h1 | h1 | h1
  · unfold zx_ir at h1
    repeat' split at h1
    all_goals cases h1
  · unfold zx_lr at h1
    repeat' split at h1
    all_goals cases h1
  · unfold zx_ar at h1
    repeat' split at h1
    all_goals cases h1
  · unfold zx_vr at h1
    repeat' split at h1
    all_goals cases h1
theorem zx_nc_ins {ins : Instr} (h1 : zx_ins sc run t ins pc L S h nc ns = some (.inl st)) : st.2.1.length = L.length ∧ nc ≤ st.2.2.2.2.1 ∧ ns ≤ st.2.2.2.2.2 := by
  unfold zx_ins at h1
  split at h1
  all_goals first | (cases h1; done) | exact zx_nc_N h1 rfl (Nat.le_refl _) (Nat.le_refl _) | exact zx_nc_sm (zx_k_lc h1) | exact zx_nc_sm (zx_k_lc2 h1) | exact zx_nc_sm (zx_k_ld h1) | exact zx_nc_sm (zx_k_sto h1) | exact zx_nc_sm (zx_k_stl h1) | exact zx_nc_sm (zx_k_iinc h1) | exact zx_nc_sm (zx_k_bin h1) | exact zx_nc_sm (zx_k_un h1) | exact zx_nc_sm (zx_k_lng h1) | exact zx_nc_sm (zx_k_stk h1) | exact zx_nc_sm (zx_k_if1 h1) | exact zx_nc_sm (zx_k_if2 h1) | exact zx_nc_sm (zx_k_J h1) | exact zx_nc_sm (zx_k_tsw h1) | exact zx_nc_sm (zx_k_lsw h1) | exact zx_nc_sm (zx_k_gf h1) | exact zx_nc_sm (zx_k_pf h1) | exact zx_nc_sm (zx_k_gs h1) | exact zx_nc_sm (zx_k_al h1) | exact zx_nc_sm (zx_k_ial h1) | exact zx_nc_sm (zx_k_ias h1) | exact zx_nc_sm (zx_k_lal h1) | exact zx_nc_sm (zx_k_las h1) | exact zx_nc_sm (zx_k_bal h1) | exact zx_nc_sm (zx_k_aal h1) | exact zx_nc_sm (zx_k_aas h1) | exact zx_nc_new h1 | exact zx_nc_na h1 | exact zx_nc_an h1 | exact zx_nc_iv h1 | exact zx_nc_is h1 | exact zx_nc_ii h1 | exact (zx_noR (Or.inl h1)).elim | exact (zx_noR (Or.inr (Or.inl h1))).elim | exact (zx_noR (Or.inr (Or.inr (Or.inl h1)))).elim | exact (zx_noR (Or.inr (Or.inr (Or.inr h1)))).elim
theorem zx_s_ins (X : zx_Cx p R s m args meth c fx vq ct A sc D t d) (hM : zx_Hm l fx vq ct A sc D d run) (hLn : L.length ≤ zx_mn t) {ins : Instr} {len : Nat} (hdg : decode (zx_mb t) pc = .ok (ins, len)) (hlen : zx_lok ins len = true) (h1 : zx_ins sc run t ins pc L S h nc ns = some (.inl st)) (hR : st.2.2.2.2.1 ≤ R.cells ∧ st.2.2.2.2.2 ≤ R.slots)
    (K : ∀ ad', zx_ext ad h ad' st.2.2.2.1 → zx_Go p l e R s m args below meth c Q fx vq ct A D t ad' st) : zx_Go p l e R s m args below meth c Q fx vq ct A D t ad (pc, L, S, h, nc, ns) := by
  obtain ⟨hx, hb, -⟩ := id X
  have sm : zx_sm L h nc ns st → zx_Go p l e R s m args below meth c Q fx vq ct A D t ad st := fun q => K ad (zx_ext_sm q.2.1)
  cases ins
  case iconst n =>
    have e9 : len = 1 := by simpa [zx_lok, zx_len] using hlen
    subst e9
    obtain rfl := zx_Ni h1
    intro H locs ls hP hD hS hl
    exact lv_iconst hx hb hdg rfl (K ad (zx_ext_sm rfl) H locs ls hP hD hS hl)
  case bipush n =>
    have e9 : len = 2 := by simpa [zx_lok, zx_len] using hlen
    subst e9
    obtain rfl := zx_Ni h1
    intro H locs ls hP hD hS hl
    exact lv_bipush hx hb hdg rfl (K ad (zx_ext_sm rfl) H locs ls hP hD hS hl)
  case sipush n =>
    have e9 : len = 3 := by simpa [zx_lok, zx_len] using hlen
    subst e9
    obtain rfl := zx_Ni h1
    intro H locs ls hP hD hS hl
    exact lv_sipush hx hb hdg rfl (K ad (zx_ext_sm rfl) H locs ls hP hD hS hl)
  case lconst n =>
    have e9 : len = 1 := by simpa [zx_lok, zx_len] using hlen
    subst e9
    obtain rfl := zx_Ni h1
    intro H locs ls hP hD hS hl
    exact lv_lconst hx hb hdg rfl (K ad (zx_ext_sm rfl) H locs ls hP hD hS hl)
  case iload i =>
    have e9 : len = 2 := by simpa [zx_lok, zx_len] using hlen
    subst e9
    exact zx_s_load X h1 (fun _ g k => lv_iload hx hb hdg g k) (fun q => by cases q) (fun q => by cases q) (fun q => by cases q) (by decide) (sm (zx_k_ld h1))
  case iload_n i =>
    have e9 : len = 1 := by simpa [zx_lok, zx_len] using hlen
    subst e9
    exact zx_s_load X h1 (fun _ g k => lv_iload_n hx hb hdg rfl g k) (fun q => by cases q) (fun q => by cases q) (fun q => by cases q) (by decide) (sm (zx_k_ld h1))
  case lload i =>
    have e9 : len = 2 := by simpa [zx_lok, zx_len] using hlen
    subst e9
    exact zx_s_load X h1 (fun q => by cases q) (fun _ g k => lv_lload hx hb hdg g k) (fun q => by cases q) (fun q => by cases q) (by decide) (sm (zx_k_ld h1))
  case lload_n i =>
    have e9 : len = 1 := by simpa [zx_lok, zx_len] using hlen
    subst e9
    exact zx_s_load X h1 (fun q => by cases q) (fun _ g k => lv_lload_n hx hb hdg rfl g k) (fun q => by cases q) (fun q => by cases q) (by decide) (sm (zx_k_ld h1))
  case aload i =>
    have e9 : len = 2 := by simpa [zx_lok, zx_len] using hlen
    subst e9
    exact zx_s_load X h1 (fun q => by cases q) (fun q => by cases q) (fun _ g k => lv_aload hx hb hdg g k) (fun _ g k => lv_aloadN hx hb hdg g k) (by decide) (sm (zx_k_ld h1))
  case aload_n i =>
    have e9 : len = 1 := by simpa [zx_lok, zx_len] using hlen
    subst e9
    exact zx_s_load X h1 (fun q => by cases q) (fun q => by cases q) (fun _ g k => lv_aload_n hx hb hdg rfl g k) (fun _ g k => lv_aload_nN hx hb hdg rfl g k) (by decide) (sm (zx_k_ld h1))
  case istore i =>
    have e9 : len = 2 := by simpa [zx_lok, zx_len] using hlen
    subst e9
    exact zx_s_store X h1 hLn (fun _ g a k => lv_istore hx hb hdg g a rfl k) (fun q => by cases q) (fun q => by cases q) (by decide) (sm (zx_k_sto h1))
  case istore_n i =>
    have e9 : len = 1 := by simpa [zx_lok, zx_len] using hlen
    subst e9
    exact zx_s_store X h1 hLn (fun _ g a k => lv_istore_n hx hb hdg rfl g a rfl k) (fun q => by cases q) (fun q => by cases q) (by decide) (sm (zx_k_sto h1))
  case astore i =>
    have e9 : len = 2 := by simpa [zx_lok, zx_len] using hlen
    subst e9
    exact zx_s_store X h1 hLn (fun q => by cases q) (fun _ g a k => lv_astore hx hb hdg g a rfl k) (fun _ g a k => lv_astoreN hx hb hdg g a rfl k) (by decide) (sm (zx_k_sto h1))
  case astore_n i =>
    have e9 : len = 1 := by simpa [zx_lok, zx_len] using hlen
    subst e9
    exact zx_s_store X h1 hLn (fun q => by cases q) (fun _ g a k => lv_astore_n hx hb hdg rfl g a rfl k) (fun _ g a k => lv_astore_nN hx hb hdg rfl g a rfl k) (by decide) (sm (zx_k_sto h1))
  case lstore i =>
    have e9 : len = 2 := by simpa [zx_lok, zx_len] using hlen
    subst e9
    exact zx_s_stl X h1 hLn (fun g a k => lv_lstore hx hb hdg g a rfl k) (sm (zx_k_stl h1))
  case lstore_n i =>
    have e9 : len = 1 := by simpa [zx_lok, zx_len] using hlen
    subst e9
    exact zx_s_stl X h1 hLn (fun g a k => lv_lstore_n hx hb hdg rfl g a rfl k) (sm (zx_k_stl h1))
  case iinc i z =>
    have e9 : len = 3 := by simpa [zx_lok, zx_len] using hlen
    subst e9
    exact zx_s_iinc X hdg h1 hLn (sm (zx_k_iinc h1))
  case iadd =>
    have e9 : len = 1 := by simpa [zx_lok, zx_len] using hlen
    subst e9
    have h2 : zx_bin .iadd pc L S h nc ns = some (.inl st) := h1
    exact zx_s_bin X hdg h2 (sm (zx_k_bin h2))
  case isub =>
    have e9 : len = 1 := by simpa [zx_lok, zx_len] using hlen
    subst e9
    have h2 : zx_bin .isub pc L S h nc ns = some (.inl st) := h1
    exact zx_s_bin X hdg h2 (sm (zx_k_bin h2))
  case imul =>
    have e9 : len = 1 := by simpa [zx_lok, zx_len] using hlen
    subst e9
    have h2 : zx_bin .imul pc L S h nc ns = some (.inl st) := h1
    exact zx_s_bin X hdg h2 (sm (zx_k_bin h2))
  case iand =>
    have e9 : len = 1 := by simpa [zx_lok, zx_len] using hlen
    subst e9
    have h2 : zx_bin .iand pc L S h nc ns = some (.inl st) := h1
    exact zx_s_bin X hdg h2 (sm (zx_k_bin h2))
  case ior =>
    have e9 : len = 1 := by simpa [zx_lok, zx_len] using hlen
    subst e9
    have h2 : zx_bin .ior pc L S h nc ns = some (.inl st) := h1
    exact zx_s_bin X hdg h2 (sm (zx_k_bin h2))
  case ixor =>
    have e9 : len = 1 := by simpa [zx_lok, zx_len] using hlen
    subst e9
    have h2 : zx_bin .ixor pc L S h nc ns = some (.inl st) := h1
    exact zx_s_bin X hdg h2 (sm (zx_k_bin h2))
  case ishl =>
    have e9 : len = 1 := by simpa [zx_lok, zx_len] using hlen
    subst e9
    have h2 : zx_bin .ishl pc L S h nc ns = some (.inl st) := h1
    exact zx_s_bin X hdg h2 (sm (zx_k_bin h2))
  case ishr =>
    have e9 : len = 1 := by simpa [zx_lok, zx_len] using hlen
    subst e9
    have h2 : zx_bin .ishr pc L S h nc ns = some (.inl st) := h1
    exact zx_s_bin X hdg h2 (sm (zx_k_bin h2))
  case iushr =>
    have e9 : len = 1 := by simpa [zx_lok, zx_len] using hlen
    subst e9
    have h2 : zx_bin .iushr pc L S h nc ns = some (.inl st) := h1
    exact zx_s_bin X hdg h2 (sm (zx_k_bin h2))
  case idiv =>
    have e9 : len = 1 := by simpa [zx_lok, zx_len] using hlen
    subst e9
    have h2 : zx_bin .idiv pc L S h nc ns = some (.inl st) := h1
    exact zx_s_bin X hdg h2 (sm (zx_k_bin h2))
  case irem =>
    have e9 : len = 1 := by simpa [zx_lok, zx_len] using hlen
    subst e9
    have h2 : zx_bin .irem pc L S h nc ns = some (.inl st) := h1
    exact zx_s_bin X hdg h2 (sm (zx_k_bin h2))
  case ineg =>
    have e9 : len = 1 := by simpa [zx_lok, zx_len] using hlen
    subst e9
    have h2 : zx_un .ineg pc L S h nc ns = some (.inl st) := h1
    exact zx_s_un X hdg h2 (sm (zx_k_un h2))
  case i2b =>
    have e9 : len = 1 := by simpa [zx_lok, zx_len] using hlen
    subst e9
    have h2 : zx_un .i2b pc L S h nc ns = some (.inl st) := h1
    exact zx_s_un X hdg h2 (sm (zx_k_un h2))
  case i2s =>
    have e9 : len = 1 := by simpa [zx_lok, zx_len] using hlen
    subst e9
    have h2 : zx_un .i2s pc L S h nc ns = some (.inl st) := h1
    exact zx_s_un X hdg h2 (sm (zx_k_un h2))
  case i2c =>
    have e9 : len = 1 := by simpa [zx_lok, zx_len] using hlen
    subst e9
    have h2 : zx_un .i2c pc L S h nc ns = some (.inl st) := h1
    exact zx_s_un X hdg h2 (sm (zx_k_un h2))
  case i2l =>
    have e9 : len = 1 := by simpa [zx_lok, zx_len] using hlen
    subst e9
    have h2 : zx_lng .i2l pc L S h nc ns = some (.inl st) := h1
    exact zx_s_lng X hdg h2 (sm (zx_k_lng h2))
  case l2i =>
    have e9 : len = 1 := by simpa [zx_lok, zx_len] using hlen
    subst e9
    have h2 : zx_lng .l2i pc L S h nc ns = some (.inl st) := h1
    exact zx_s_lng X hdg h2 (sm (zx_k_lng h2))
  case land =>
    have e9 : len = 1 := by simpa [zx_lok, zx_len] using hlen
    subst e9
    have h2 : zx_lng .land pc L S h nc ns = some (.inl st) := h1
    exact zx_s_lng X hdg h2 (sm (zx_k_lng h2))
  case lor =>
    have e9 : len = 1 := by simpa [zx_lok, zx_len] using hlen
    subst e9
    have h2 : zx_lng .lor pc L S h nc ns = some (.inl st) := h1
    exact zx_s_lng X hdg h2 (sm (zx_k_lng h2))
  case lshl =>
    have e9 : len = 1 := by simpa [zx_lok, zx_len] using hlen
    subst e9
    have h2 : zx_lng .lshl pc L S h nc ns = some (.inl st) := h1
    exact zx_s_lng X hdg h2 (sm (zx_k_lng h2))
  case dup =>
    have e9 : len = 1 := by simpa [zx_lok, zx_len] using hlen
    subst e9
    have h2 : zx_stk .dup pc L S h nc ns = some (.inl st) := h1
    exact zx_s_stk X hdg h2 (sm (zx_k_stk h2))
  case pop =>
    have e9 : len = 1 := by simpa [zx_lok, zx_len] using hlen
    subst e9
    have h2 : zx_stk .pop pc L S h nc ns = some (.inl st) := h1
    exact zx_s_stk X hdg h2 (sm (zx_k_stk h2))
  case dup_x1 =>
    have e9 : len = 1 := by simpa [zx_lok, zx_len] using hlen
    subst e9
    have h2 : zx_stk .dup_x1 pc L S h nc ns = some (.inl st) := h1
    exact zx_s_stk X hdg h2 (sm (zx_k_stk h2))
  case dup2 =>
    have e9 : len = 1 := by simpa [zx_lok, zx_len] using hlen
    subst e9
    have h2 : zx_stk .dup2 pc L S h nc ns = some (.inl st) := h1
    exact zx_s_stk X hdg h2 (sm (zx_k_stk h2))
  case pop2 =>
    have e9 : len = 1 := by simpa [zx_lok, zx_len] using hlen
    subst e9
    have h2 : zx_stk .pop2 pc L S h nc ns = some (.inl st) := h1
    exact zx_s_stk X hdg h2 (sm (zx_k_stk h2))
  case ifCond cn off =>
    have e9 : len = 3 := by simpa [zx_lok, zx_len] using hlen
    subst e9
    exact zx_s_if1 X hdg h1 (sm (zx_k_if1 h1))
  case if_icmp cn off =>
    have e9 : len = 3 := by simpa [zx_lok, zx_len] using hlen
    subst e9
    exact zx_s_if2 X hdg h1 (sm (zx_k_if2 h1))
  case goto off =>
    have e9 : len = 3 := by simpa [zx_lok, zx_len] using hlen
    subst e9
    exact zx_s_goto X hdg h1 (sm (zx_k_J h1))
  case tableswitch a b c2 d2 => exact zx_s_tsw X hdg h1 (sm (zx_k_tsw h1))
  case lookupswitch a b => exact zx_s_lsw X hdg h1 (sm (zx_k_lsw h1))
  case getfield ix =>
    have e9 : len = 3 := by simpa [zx_lok, zx_len] using hlen
    subst e9
    exact zx_s_gf X hdg h1 (sm (zx_k_gf h1))
  case putfield ix =>
    have e9 : len = 3 := by simpa [zx_lok, zx_len] using hlen
    subst e9
    exact zx_s_pf X hdg h1 (sm (zx_k_pf h1))
  case getstatic ix =>
    have e9 : len = 3 := by simpa [zx_lok, zx_len] using hlen
    subst e9
    exact zx_s_gs X hdg h1 (sm (zx_k_gs h1))
  case arraylength =>
    have e9 : len = 1 := by simpa [zx_lok, zx_len] using hlen
    subst e9
    exact zx_s_al X hdg h1 (sm (zx_k_al h1))
  case iaload =>
    have e9 : len = 1 := by simpa [zx_lok, zx_len] using hlen
    subst e9
    exact zx_s_ial X hdg h1 (sm (zx_k_ial h1))
  case iastore =>
    have e9 : len = 1 := by simpa [zx_lok, zx_len] using hlen
    subst e9
    exact zx_s_ias X hdg h1 (sm (zx_k_ias h1))
  case laload =>
    have e9 : len = 1 := by simpa [zx_lok, zx_len] using hlen
    subst e9
    exact zx_s_lal X hdg h1 (sm (zx_k_lal h1))
  case lastore =>
    have e9 : len = 1 := by simpa [zx_lok, zx_len] using hlen
    subst e9
    exact zx_s_las X hdg h1 (sm (zx_k_las h1))
  case baload =>
    have e9 : len = 1 := by simpa [zx_lok, zx_len] using hlen
    subst e9
    exact zx_s_bal X hdg h1 (sm (zx_k_bal h1))
  case aaload =>
    have e9 : len = 1 := by simpa [zx_lok, zx_len] using hlen
    subst e9
    exact zx_s_aal X hdg h1 (sm (zx_k_aal h1))
  case aastore =>
    have e9 : len = 1 := by simpa [zx_lok, zx_len] using hlen
    subst e9
    exact zx_s_aas X hdg h1 (sm (zx_k_aas h1))
  case ldc_w ix =>
    have e9 : len = 3 := by simpa [zx_lok, zx_len] using hlen
    subst e9
    exact zx_s_lcw X hdg h1 (sm (zx_k_lc h1))
  case ldc2_w ix =>
    have e9 : len = 3 := by simpa [zx_lok, zx_len] using hlen
    subst e9
    exact zx_s_lc2 X hdg h1 (sm (zx_k_lc2 h1))
  case ldc ix =>
    have e9 : len = 2 := by simpa [zx_lok, zx_len] using hlen
    subst e9
    exact zx_s_lc X hdg h1 (zx_lSok ix) (sm (zx_k_lc h1))
  case new ix =>
    have e9 : len = 3 := by simpa [zx_lok, zx_len] using hlen
    subst e9
    exact zx_s_new X hdg h1 hR K
  case newarray ty =>
    have e9 : len = 2 := by simpa [zx_lok, zx_len] using hlen
    subst e9
    exact zx_s_na X hdg h1 hR K
  case anewarray ix =>
    have e9 : len = 3 := by simpa [zx_lok, zx_len] using hlen
    subst e9
    exact zx_s_an X hdg h1 hR K
  case invokevirtual ix =>
    have e9 : len = 3 := by simpa [zx_lok, zx_len] using hlen
    subst e9
    exact zx_s_iv X hM hdg h1 hR K
  case invokestatic ix =>
    have e9 : len = 3 := by simpa [zx_lok, zx_len] using hlen
    subst e9
    exact zx_s_is X hM hdg h1 hR K
  case invokespecial ix =>
    have e9 : len = 3 := by simpa [zx_lok, zx_len] using hlen
    subst e9
    exact zx_s_ii X hM hdg h1 hR K
  case ireturn => exact (zx_noR (Or.inl h1)).elim
  case lreturn => exact (zx_noR (Or.inr (Or.inl h1))).elim
  case areturn => exact (zx_noR (Or.inr (Or.inr (Or.inl h1)))).elim
  case return_ => exact (zx_noR (Or.inr (Or.inr (Or.inr h1)))).elim
  all_goals (replace h1 : (none : zx_T) = some (.inl st) := h1; cases h1)
/-- one step -/
theorem zx_s_stp (X : zx_Cx p R s m args meth c fx vq ct A sc D t d) (hM : zx_Hm l fx vq ct A sc D d run) {st0 st1 : zx_S} (hLn : st0.2.1.length ≤ zx_mn t) (h1 : zx_stp sc run t st0 = some (.inl st1)) (hR : st1.2.2.2.2.1 ≤ R.cells ∧ st1.2.2.2.2.2 ≤ R.slots)
    (K : ∀ ad', zx_ext ad st0.2.2.2.1 ad' st1.2.2.2.1 → zx_Go p l e R s m args below meth c Q fx vq ct A D t ad' st1) : zx_Go p l e R s m args below meth c Q fx vq ct A D t ad st0 := by
  unfold zx_stp at h1
  split at h1
  · rename_i ins len hdg
    split at h1
    · rename_i hlen
      exact zx_s_ins X hM hLn hdg hlen h1 hR K
    · cases h1
  · cases h1
theorem zx_nc_stp {st0 st1 : zx_S} (h1 : zx_stp sc run t st0 = some (.inl st1)) : st1.2.1.length = st0.2.1.length ∧ st0.2.2.2.2.1 ≤ st1.2.2.2.2.1 ∧ st0.2.2.2.2.2 ≤ st1.2.2.2.2.2 := by
  unfold zx_stp at h1
  split at h1
  · split at h1
    · exact zx_nc_ins h1
    · cases h1
  · cases h1
end
end
section
/-! part 13: ends; every run of the small machine is a contract of the machine -/
section
variable {p : Program} {l : Launch} {e : Env} {R : Room} {s : State} {m : MethodId} {args : Array Value} {below : List Frame} {meth : Method} {c : Code} {Q : State → Prop}
variable {fx : Nat → Nat → Nat} {vq : Value} {ct : Nat → ClassId} {ad : Nat → Nat} {A : Nat → Prop} {sc : zx_Sc} {D : va_G} {t : zx_MT} {d : Nat}
variable {pc nc ns : Nat} {L : List (Option zx_V)} {S : List zx_V} {h : List zx_C} {st : zx_S}
variable {run : Nat → List zx_V → List zx_C → Option zx_R} {rr : zx_R}
theorem zx_i_N {pc : Nat} {L : List (Option zx_V)} {S : List zx_V} {h : List zx_C} {nc ns : Nat} (h1 : zx_N pc L S h nc ns = some (.inr rr)) : False := by
  unfold zx_N at h1
  cases h1
theorem zx_i_ld {ty i n : Nat} (h1 : zx_ld ty i n pc L S h nc ns = some (.inr rr)) : False := by
  unfold zx_ld at h1
  repeat' split at h1
  all_goals first | (cases h1; done) | exact zx_i_N h1
theorem zx_i_sto {ty i n : Nat} (h1 : zx_sto ty i n pc L S h nc ns = some (.inr rr)) : False := by
  unfold zx_sto at h1
  repeat' split at h1
  all_goals first | (cases h1; done) | exact zx_i_N h1
theorem zx_i_stl {i n : Nat} (h1 : zx_stl i n pc L S h nc ns = some (.inr rr)) : False := by
  unfold zx_stl at h1
  repeat' split at h1
  all_goals first | (cases h1; done) | exact zx_i_N h1
theorem zx_i_iinc {i : Nat} {z : Int} (h1 : zx_iinc i z pc L S h nc ns = some (.inr rr)) : False := by
  unfold zx_iinc at h1
  repeat' split at h1
  all_goals first | (cases h1; done) | exact zx_i_N h1
theorem zx_i_bin {ins : Instr} (h1 : zx_bin ins pc L S h nc ns = some (.inr rr)) : False := by
  unfold zx_bin at h1
  repeat' split at h1
  all_goals first | (cases h1; done) | exact zx_i_N h1
theorem zx_i_un {ins : Instr} (h1 : zx_un ins pc L S h nc ns = some (.inr rr)) : False := by
  unfold zx_un at h1
  repeat' split at h1
  all_goals first | (cases h1; done) | exact zx_i_N h1
theorem zx_i_lng {ins : Instr} (h1 : zx_lng ins pc L S h nc ns = some (.inr rr)) : False := by
  unfold zx_lng at h1
  repeat' split at h1
  all_goals first | (cases h1; done) | exact zx_i_N h1
theorem zx_i_stk {ins : Instr} (h1 : zx_stk ins pc L S h nc ns = some (.inr rr)) : False := by
  unfold zx_stk at h1
  repeat' split at h1
  all_goals first | (cases h1; done) | exact zx_i_N h1
theorem zx_i_J {off : Int} (h1 : zx_J pc off L S h nc ns = some (.inr rr)) : False := by
  unfold zx_J at h1
  repeat' split at h1
  all_goals first | (cases h1; done) | exact zx_i_N h1
theorem zx_i_br {b : Bool} {off : Int} (h1 : zx_br b off pc L S h nc ns = some (.inr rr)) : False := by
  unfold zx_br at h1
  repeat' split at h1
  all_goals first | (cases h1; done) | exact zx_i_N h1
theorem zx_i_if1 {cn : ClassFile.Cond} {off : Int} (h1 : zx_if1 cn off pc L S h nc ns = some (.inr rr)) : False := by
  unfold zx_if1 at h1
  repeat' split at h1
  all_goals first | (cases h1; done) | exact zx_i_N h1 | exact zx_i_br h1
theorem zx_i_if2 {cn : ClassFile.Cond} {off : Int} (h1 : zx_if2 cn off pc L S h nc ns = some (.inr rr)) : False := by
  unfold zx_if2 at h1
  repeat' split at h1
  all_goals first | (cases h1; done) | exact zx_i_N h1 | exact zx_i_br h1
theorem zx_i_tsw {dflt lo hi : Int} {offs : Array Int} (h1 : zx_tsw dflt lo hi offs pc L S h nc ns = some (.inr rr)) : False := by
  unfold zx_tsw at h1
  repeat' split at h1
  all_goals first | (cases h1; done) | exact zx_i_N h1 | exact zx_i_J h1
theorem zx_i_lsw {dflt : Int} {ps : Array (Int × Int)} (h1 : zx_lsw dflt ps pc L S h nc ns = some (.inr rr)) : False := by
  unfold zx_lsw at h1
  repeat' split at h1
  all_goals first | (cases h1; done) | exact zx_i_N h1 | exact zx_i_J h1
theorem zx_i_gf {o ix : Nat} (h1 : zx_gf o ix pc L S h nc ns = some (.inr rr)) : False := by
  unfold zx_gf at h1
  repeat' split at h1
  all_goals first | (cases h1; done) | exact zx_i_N h1
theorem zx_i_pf {o kd ix : Nat} (h1 : zx_pf o kd ix pc L S h nc ns = some (.inr rr)) : False := by
  unfold zx_pf at h1
  repeat' split at h1
  all_goals first | (cases h1; done) | exact zx_i_N h1
theorem zx_i_gs {o ix : Nat} (h1 : zx_gs o ix pc L S h nc ns = some (.inr rr)) : False := by
  unfold zx_gs at h1
  repeat' split at h1
  all_goals first | (cases h1; done) | exact zx_i_N h1
theorem zx_i_al  (h1 : zx_al sc pc L S h nc ns = some (.inr rr)) : False := by
  unfold zx_al at h1
  repeat' split at h1
  all_goals first | (cases h1; done) | exact zx_i_N h1
theorem zx_i_ial  (h1 : zx_ial sc pc L S h nc ns = some (.inr rr)) : False := by
  unfold zx_ial at h1
  repeat' split at h1
  all_goals first | (cases h1; done) | exact zx_i_N h1
theorem zx_i_ias  (h1 : zx_ias pc L S h nc ns = some (.inr rr)) : False := by
  unfold zx_ias at h1
  repeat' split at h1
  all_goals first | (cases h1; done) | exact zx_i_N h1
theorem zx_i_lal  (h1 : zx_lal pc L S h nc ns = some (.inr rr)) : False := by
  unfold zx_lal at h1
  repeat' split at h1
  all_goals first | (cases h1; done) | exact zx_i_N h1
theorem zx_i_las  (h1 : zx_las pc L S h nc ns = some (.inr rr)) : False := by
  unfold zx_las at h1
  repeat' split at h1
  all_goals first | (cases h1; done) | exact zx_i_N h1
theorem zx_i_bal  (h1 : zx_bal pc L S h nc ns = some (.inr rr)) : False := by
  unfold zx_bal at h1
  repeat' split at h1
  all_goals first | (cases h1; done) | exact zx_i_N h1
theorem zx_i_aal  (h1 : zx_aal pc L S h nc ns = some (.inr rr)) : False := by
  unfold zx_aal at h1
  repeat' split at h1
  all_goals first | (cases h1; done) | exact zx_i_N h1
theorem zx_i_aas  (h1 : zx_aas pc L S h nc ns = some (.inr rr)) : False := by
  unfold zx_aas at h1
  repeat' split at h1
  all_goals first | (cases h1; done) | exact zx_i_N h1
theorem zx_i_lc {o ix n : Nat} (h1 : zx_lc o ix n pc L S h nc ns = some (.inr rr)) : False := by
  unfold zx_lc at h1
  repeat' split at h1
  all_goals first | (cases h1; done) | exact zx_i_N h1
theorem zx_i_lc2 {o ix : Nat} (h1 : zx_lc2 o ix pc L S h nc ns = some (.inr rr)) : False := by
  unfold zx_lc2 at h1
  repeat' split at h1
  all_goals first | (cases h1; done) | exact zx_i_N h1
theorem zx_i_ac  (h1 : zx_ac pc L S h nc ns = some (.inr rr)) : False := by
  unfold zx_ac at h1
  repeat' split at h1
  all_goals first | (cases h1; done) | exact zx_i_N h1
theorem zx_i_new {o ix : Nat} (h1 : zx_new o ix pc L S h nc ns = some (.inr rr)) : False := by
  unfold zx_new at h1
  repeat' split at h1
  all_goals first | (cases h1; done) | exact zx_i_N h1
theorem zx_i_na {ty : ArrayType} (h1 : zx_na ty pc L S h nc ns = some (.inr rr)) : False := by
  unfold zx_na at h1
  repeat' split at h1
  all_goals first | (cases h1; done) | exact zx_i_N h1
theorem zx_i_an {o ix : Nat} (h1 : zx_an o ix pc L S h nc ns = some (.inr rr)) : False := by
  unfold zx_an at h1
  repeat' split at h1
  all_goals first | (cases h1; done) | exact zx_i_N h1
theorem zx_i_ret {r : List zx_V} {ro : Option zx_R} (h1 : zx_ret pc L r h nc ns ro = some (.inr rr)) : False := by
  unfold zx_ret at h1
  repeat' split at h1
  all_goals first | (cases h1; done) | exact zx_i_N h1
theorem zx_i_iv {o ix : Nat} (h1 : zx_iv run o ix pc L S h nc ns = some (.inr rr)) : False := by
  unfold zx_iv at h1
  repeat' split at h1
  all_goals first | (cases h1; done) | exact zx_i_N h1 | exact zx_i_ret h1
theorem zx_i_is {o ix : Nat} (h1 : zx_is run o ix pc L S h nc ns = some (.inr rr)) : False := by
  unfold zx_is at h1
  repeat' split at h1
  all_goals first | (cases h1; done) | exact zx_i_N h1 | exact zx_i_ret h1 | exact zx_i_ac h1
theorem zx_i_ii {o ix : Nat} (h1 : zx_ii run o ix pc L S h nc ns = some (.inr rr)) : False := by
  unfold zx_ii at h1
  repeat' split at h1
  all_goals first | (cases h1; done) | exact zx_i_N h1 | exact zx_i_ret h1
theorem zx_e_ins {ins : Instr} (h1 : zx_ins sc run t ins pc L S h nc ns = some (.inr rr)) : (ins = .ireturn ∧ zx_ir (zx_mr t) S h nc ns = some (.inr rr)) ∨ (ins = .lreturn ∧ zx_lr (zx_mr t) S h nc ns = some (.inr rr)) ∨ (ins = .areturn ∧ zx_ar (zx_mr t) S h nc ns = some (.inr rr)) ∨ (ins = .return_ ∧ zx_vr (zx_mr t) S h nc ns = some (.inr rr)) := by
  unfold zx_ins at h1
  split at h1
  all_goals first | (cases h1; done) | exact (zx_i_N h1).elim | exact (zx_i_ld h1).elim | exact (zx_i_sto h1).elim | exact (zx_i_stl h1).elim | exact (zx_i_iinc h1).elim | exact (zx_i_bin h1).elim | exact (zx_i_un h1).elim | exact (zx_i_lng h1).elim | exact (zx_i_stk h1).elim | exact (zx_i_J h1).elim | exact (zx_i_if1 h1).elim | exact (zx_i_if2 h1).elim | exact (zx_i_tsw h1).elim | exact (zx_i_lsw h1).elim | exact (zx_i_gf h1).elim | exact (zx_i_pf h1).elim | exact (zx_i_gs h1).elim | exact (zx_i_al h1).elim | exact (zx_i_ial h1).elim | exact (zx_i_ias h1).elim | exact (zx_i_lal h1).elim | exact (zx_i_las h1).elim | exact (zx_i_bal h1).elim | exact (zx_i_aal h1).elim | exact (zx_i_aas h1).elim | exact (zx_i_lc h1).elim | exact (zx_i_lc2 h1).elim | exact (zx_i_new h1).elim | exact (zx_i_na h1).elim | exact (zx_i_an h1).elim | exact (zx_i_iv h1).elim | exact (zx_i_is h1).elim | exact (zx_i_ii h1).elim | exact Or.inl ⟨rfl, h1⟩ | exact Or.inr (Or.inl ⟨rfl, h1⟩) | exact Or.inr (Or.inr (Or.inl ⟨rfl, h1⟩)) | exact Or.inr (Or.inr (Or.inr ⟨rfl, h1⟩))
theorem zx_nr_ok {ty : FieldType} {v : Int32} (h1 : zx_nr ty v = true) : narrow ty (.int v) = .int v := by
  unfold zx_nr at h1
  split at h1
  · rfl
  · have h2 : v = 0 ∨ v = 1 := by simpa using h1
    rcases h2 with rfl | rfl <;> decide
  · have h2 : v.toInt8.toInt32 = v := by simpa using h1
    rw [← h2]
    exact pk_nb v
  · have h2 : (v.toUInt32 % 65536).toInt32 = v := by simpa using h1
    rw [← h2]
    exact pk_nc v
  · cases h1
theorem zx_re {st0 : zx_S} (h1 : zx_stp sc run t st0 = some (.inr rr)) : rr.2.2.1 = st0.2.2.2.2.1 ∧ rr.2.2.2 = st0.2.2.2.2.2 := by
  unfold zx_stp at h1
  split at h1
  · split at h1
    · rcases zx_e_ins h1 with ⟨-, h2⟩ | ⟨-, h2⟩ | ⟨-, h2⟩ | ⟨-, h2⟩
      · unfold zx_ir at h2
        repeat' split at h2
        all_goals first | (cases h2; done) | (cases h2; exact ⟨rfl, rfl⟩)
      · unfold zx_lr at h2
        repeat' split at h2
        all_goals first | (cases h2; done) | (cases h2; exact ⟨rfl, rfl⟩)
      · unfold zx_ar at h2
        repeat' split at h2
        all_goals first | (cases h2; done) | (cases h2; exact ⟨rfl, rfl⟩)
      · unfold zx_vr at h2
        repeat' split at h2
        all_goals first | (cases h2; done) | (cases h2; exact ⟨rfl, rfl⟩)
    · cases h1
  · cases h1
/-- a method's end -/
theorem zx_e_stp {ad0 : Nat → Nat} {h0 : List zx_C} (X : zx_Cx p R s m args meth c fx vq ct A sc D t d) (hr : meth.sig.returnType = zx_mr t) (hlocks : meth.locks = false) {st0 : zx_S} (hx0 : zx_ext ad0 h0 ad st0.2.2.2.1) (h1 : zx_stp sc run t st0 = some (.inr rr)) :
    zx_Go p l e R s m args below meth c (MQ below (zx_Qc fx vq ct A D ad0 h0 rr) args s rr.2.2.1 rr.2.2.2 A) fx vq ct A D t ad st0 := by
  obtain ⟨hx, hb, -⟩ := X
  unfold zx_stp at h1
  split at h1
  · rename_i ins len hdg
    split at h1
    · rename_i hlen
      rcases zx_e_ins h1 with ⟨rfl, h2⟩ | ⟨rfl, h2⟩ | ⟨rfl, h2⟩ | ⟨rfl, h2⟩
      · have e9 : len = 1 := by simpa [zx_lok, zx_len] using hlen
        subst e9
        obtain ⟨pc, L, S, h, nc, ns⟩ := st0
        replace h2 : zx_ir (zx_mr t) S h nc ns = some (.inr rr) := h2
        unfold zx_ir at h2
        split at h2
        · rename_i ty v e1
          split at h2
          · rename_i g
            cases h2
            intro H locs ls hP hD hS hl
            exact W.zret (v := v) hx hb (hr.trans e1) (zx_nr_ok g) (fun u hu hW => ⟨⟨ad, rfl, hx0, by rw [hu]; exact hP, hD⟩, hS.F hu⟩) hS.2.2 hdg hlocks
          · cases h2
        · cases h2
      · have e9 : len = 1 := by simpa [zx_lok, zx_len] using hlen
        subst e9
        obtain ⟨pc, L, S, h, nc, ns⟩ := st0
        replace h2 : zx_lr (zx_mr t) S h nc ns = some (.inr rr) := h2
        unfold zx_lr at h2
        split at h2
        · rename_i v e1
          cases h2
          intro H locs ls hP hD hS hl
          exact W.lret (v := v) hx hb (hr.trans e1) (fun u hu hW => ⟨⟨ad, rfl, hx0, by rw [hu]; exact hP, hD⟩, hS.F hu⟩) hS.2.2 hdg hlocks
        · cases h2
      · have e9 : len = 1 := by simpa [zx_lok, zx_len] using hlen
        subst e9
        obtain ⟨pc, L, S, h, nc, ns⟩ := st0
        replace h2 : zx_ar (zx_mr t) S h nc ns = some (.inr rr) := h2
        unfold zx_ar at h2
        split at h2
        · rename_i cn a e1
          cases h2
          intro H locs ls hP hD hS hl
          exact W.aret (v := .ref (fx 2 a)) hx hb (hr.trans e1) (Or.inl ⟨_, rfl⟩) (Or.inr ⟨_, rfl⟩) (fun u hu hW => ⟨⟨ad, rfl, hx0, by rw [hu]; exact hP, hD⟩, hS.F hu⟩) hS.2.2 hdg hlocks
        · cases h2
      · have e9 : len = 1 := by simpa [zx_lok, zx_len] using hlen
        subst e9
        obtain ⟨pc, L, S, h, nc, ns⟩ := st0
        replace h2 : zx_vr (zx_mr t) S h nc ns = some (.inr rr) := h2
        unfold zx_vr at h2
        split at h2
        · rename_i e1
          cases h2
          intro H locs ls hP hD hS hl
          exact W.vret hx hb (hr.trans e1) (fun u hu hW => ⟨⟨ad, rfl, hx0, by rw [hu]; exact hP, hD⟩, hS.F hu⟩) hS.2.2 hdg hlocks
        · cases h2
    · cases h1
  · cases h1
theorem zx_mono : ∀ (n d : Nat) (sc : zx_Sc) (t : zx_MT) (st0 : zx_S) (r : zx_R), zx_ex n d sc t st0 = some r → st0.2.2.2.2.1 ≤ r.2.2.1 ∧ st0.2.2.2.2.2 ≤ r.2.2.2
  | 0, _, _, _, _, _, h => by unfold zx_ex at h; cases h
  | n + 1, d, sc, t, st0, r, h => by
    unfold zx_ex at h
    split at h
    · rename_i st1 e
      have h1 := zx_nc_stp e
      have h2 := zx_mono n d sc t st1 r h
      exact ⟨Nat.le_trans h1.2.1 h2.1, Nat.le_trans h1.2.2 h2.2⟩
    · rename_i r' e
      cases h
      have h1 := zx_re e
      exact ⟨Nat.le_of_eq h1.1.symm, Nat.le_of_eq h1.2.symm⟩
    · cases h
/-- a run inside a frame -/
theorem zx_exW {N : Nat} (hall : ∀ n, n < N → ∀ (d k : Nat) (as : List zx_V) (h : List zx_C) (r : zx_R) (ad : Nat → Nat), k < 221 → zx_mk (zx_m k) < 3 → zx_run n d k as h = some r → zx_Met l fx vq ct A none D d k as h r ad)
    {ad0 : Nat → Nat} {h0 : List zx_C} (X : zx_Cx p R s m args meth c fx vq ct A sc D t d) (hr : meth.sig.returnType = zx_mr t) (hlocks : meth.locks = false) (hRc : rr.2.2.1 ≤ R.cells ∧ rr.2.2.2 ≤ R.slots) :
    ∀ (n : Nat), n ≤ N → ∀ (st0 : zx_S) (ad : Nat → Nat), zx_ex n d sc t st0 = some rr → st0.2.1.length ≤ zx_mn t → zx_ext ad0 h0 ad st0.2.2.2.1 → zx_Go p l e R s m args below meth c (MQ below (zx_Qc fx vq ct A D ad0 h0 rr) args s rr.2.2.1 rr.2.2.2 A) fx vq ct A D t ad st0 := by
  intro n
  induction n with
  | zero =>
    intro _ st0 ad h1
    unfold zx_ex at h1
    cases h1
  | succ n ih =>
    intro hn st0 ad h1 hLn hx0
    unfold zx_ex at h1
    split at h1
    · rename_i st1 e1
      have hm := zx_mono n d sc t st1 rr h1
      have hn1 := zx_nc_stp e1
      refine zx_s_stp X ?_ hLn e1 ⟨Nat.le_trans hm.1 hRc.1, Nat.le_trans hm.2 hRc.2⟩ (fun ad' hx1 => ih (by omega) st1 ad' h1 (by rw [hn1.1]; exact hLn) (zx_ext_tr hx0 hx1))
      intro k as h' r' ad' hk hk3 hrun
      cases d with
      | zero => cases hrun
      | succ d => exact ⟨d, rfl, hall n (by omega) d k as h' r' ad' hk hk3 hrun⟩
    · rename_i r' e1
      cases h1
      exact zx_e_stp X hr hlocks hx0 e1
    · cases h1
theorem zx_L0_len : ∀ (as : List zx_V) (n : Nat), zx_cs as ≤ n → (zx_L0 n as).length = n
  | [], n, _ => by simp [zx_L0]
  | v :: r, n, h => by
    unfold zx_cs at h
    unfold zx_L0
    by_cases g : zx_c1 v = true
    · rw [if_pos g] at h ⊢
      rw [List.length_cons, zx_L0_len r (n - 1) (by omega)]
      omega
    · rw [if_neg g] at h ⊢
      rw [List.length_cons, List.length_cons, zx_L0_len r (n - 2) (by omega)]
      omega
theorem zx_L0_args (hq : vq = .null ∨ ∃ t, vq = .ref t) : ∀ (as : List zx_V) (n o i : Nat) (v : zx_V), (zx_L0 n as)[i]? = some (some v) → (o + i, zx_c fx vq ad v) ∈ lv_args o (as.map (zx_c fx vq ad))
  | [], n, o, i, v, h => by
    unfold zx_L0 at h
    rw [List.getElem?_replicate] at h
    split at h <;> cases h
  | w :: r, n, o, i, v, h => by
    unfold zx_L0 at h
    show _ ∈ (o, zx_c fx vq ad w) :: lv_args (if (zx_c fx vq ad w).category = 2 then o + 2 else o + 1) (r.map (zx_c fx vq ad))
    by_cases g : zx_c1 w = true
    · rw [if_pos g] at h
      have hc : ¬ (zx_c fx vq ad w).category = 2 := by rw [zx_cat1 hq g]; decide
      rw [if_neg hc]
      cases i with
      | zero =>
        have e : w = v := Option.some.inj (Option.some.inj h)
        rw [e]
        exact List.mem_cons_self
      | succ i =>
        have h2 := zx_L0_args hq r (n - 1) (o + 1) i v h
        rw [show o + (i + 1) = o + 1 + i by omega]
        exact List.mem_cons_of_mem _ h2
    · rw [if_neg g] at h
      rw [if_pos (zx_cat2 hq g)]
      cases i with
      | zero =>
        have e : w = v := Option.some.inj (Option.some.inj h)
        rw [e]
        exact List.mem_cons_self
      | succ i =>
        cases i with
        | zero => cases h
        | succ i =>
          have h2 := zx_L0_args hq r (n - 2) (o + 2) i v h
          rw [show o + (i + 1 + 1) = o + 2 + i by omega]
          exact List.mem_cons_of_mem _ h2
theorem zx_sl_len (hq : vq = .null ∨ ∃ t, vq = .ref t) : ∀ (as : List zx_V), (lg_sl (as.map (zx_c fx vq ad))).length = zx_cs as
  | [] => rfl
  | v :: r => by
    show ((if (zx_c fx vq ad v).category = 2 then [Slot.val (zx_c fx vq ad v), .second] else [Slot.val (zx_c fx vq ad v)]) ++ lg_sl (r.map (zx_c fx vq ad))).length = _
    rw [List.length_append, zx_sl_len hq r, show zx_cs (v :: r) = (if zx_c1 v then 1 else 2) + zx_cs r from rfl]
    by_cases g : zx_c1 v = true
    · rw [if_pos g, if_neg (by rw [zx_cat1 hq g]; decide)]
      rfl
    · rw [if_neg g, if_pos (zx_cat2 hq g)]
      rfl
theorem zx_plain {k : Nat} (hk : k < 221) (hk3 : zx_mk (zx_m k) < 3) : plainName (zx_my (zx_m k)).cls = true := by
  obtain ⟨-, -, -, -, -, -, f0, f1, f2, -, -⟩ := zx_mfacts hk
  rcases (show zx_mk (zx_m k) = 0 ∨ zx_mk (zx_m k) = 1 ∨ zx_mk (zx_m k) = 2 by omega) with g | g | g
  · exact (f0 g).2.2
  · exact (f1 g).2
  · exact (f2 g).2.2.2
/-- THE SMALL MACHINE'S RUNS ARE CONTRACTS -/
theorem zx_sound : ∀ (N d k : Nat) (as : List zx_V) (h : List zx_C) (r : zx_R) (ad : Nat → Nat), k < 221 → zx_mk (zx_m k) < 3 → zx_run N d k as h = some r → zx_Met l fx vq ct A none D d k as h r ad := by
  intro N
  induction N using Nat.strongRecOn with
  | ind N IH =>
    intro d k as h r ad hk hk3 hrun
    unfold zx_run at hrun
    split at hrun
    · rename_i hcs
      unfold zx_Met
      refine Met.ofW (cc := zx_mb (zx_m k)) (maxL := zx_mn (zx_m k)) (ret := zx_mr (zx_m k)) (zx_plain hk hk3) rfl ?_
      intro p e s m args below meth c s₁ B hml hv
      obtain ⟨rfl, hP, hD, hK, hA, hSt⟩ := hv
      have hq := hSt.2.2.2.2.2.2.2.2.1
      have hf := zx_mfacts hk
      have hown : s.vm.findClass (zx_o (zx_mo (zx_m k))) = some m.cls := by rw [hf.2.1]; exact findClass_of_methodNamed B.named
      have hts : ∀ w ∈ zx_G, w.before ((as.map (zx_c fx vq ad)).toArray) s = true := fun w hw => atoms_spec (ws := zx_ws k) B.pre w (List.mem_cons_of_mem _ hw)
      have X : zx_Cx p (headSpec (zx_ws k) (zx_rm d r)).room s m ((as.map (zx_c fx vq ad)).toArray) meth c fx vq ct A none D (zx_m k) d :=
        ⟨B.exec, B.bytes, hml, hown, hts, hK, hA, hSt, ⟨Nat.le_refl _, Nat.le_refl _⟩, fun g => ((name_of_methodNamed B.named B.method).1).trans (hf.2.2.2.2.2.2.2.2.1 g).2.1⟩
      rw [lg_entry_eq]
      have hen := lv_entry (as.map (zx_c fx vq ad)) (n := zx_mn (zx_m k)) (by rw [zx_sl_len hq]; exact hcs)
      refine zx_exW IH X B.returns B.notSynchronized ⟨Nat.le_refl _, Nat.le_refl _⟩ N (Nat.le_refl N) (0, zx_L0 (zx_mn (zx_m k)) as, [], h, 0, 0) ad hrun (Nat.le_of_eq (zx_L0_len as _ hcs)) (zx_ext_sm rfl) s.heap [] _ hP hD va_S.rf (zx_l_sub hen ?_)
      rintro ⟨i, w⟩ hm
      obtain ⟨v, h1, rfl⟩ := zx_l_mem.mp hm
      have h2 := zx_L0_args (fx := fx) (ad := ad) hq as _ 0 i v h1
      rw [Nat.zero_add] at h2
      exact h2
    · cases hrun
end
end
section
/-! part 14: what the statement gives of the start: laid by wip/p2/start.py -/
def zx_fl : List Cond := flatC (Jvm.Cond.and given_1 narrow_1)
def zx_fat (p : Nat) (w : Cond) : Bool := match zx_fl[p]? with
  | some w' => decide (w' = w)
  | none => false
theorem zx_fat_mem {p : Nat} {w : Cond} (h : zx_fat p w = true) : w ∈ zx_fl := by
  unfold zx_fat at h
  split at h
  · rename_i w' e
    have e2 : w' = w := by simpa using h
    subst e2
    exact List.mem_of_getElem? e
  · cases h
def zx_sr : List (Nat × Nat × Nat × Nat × List Nat) := [(87, 88, 89, 90, [91, 92]), (93, 94, 95, 96, [97, 98, 99, 100]), (102, 103, 104, 105, [106, 107, 108, 109, 110]), (113, 114, 115, 116, [117, 118, 119, 120, 121, 122]), (126, 127, 128, 129, [130, 131, 132, 133, 134]), (139, 140, 141, 142, [143, 144, 145]), (151, 152, 153, 154, [155, 156, 157]), (164, 165, 166, 167, [168, 169, 170, 171]), (179, 180, 181, 182, [183, 184, 185]), (194, 195, 196, 197, [198, 199, 200, 201]), (211, 212, 213, 214, [215, 216, 217, 218, 219, 220, 221, 222]), (233, 234, 235, 236, [237, 238, 239, 240, 241])]
def zx_ne : List (Nat × Nat × Nat) := [(0, 1, 101), (0, 2, 111), (0, 3, 123), (0, 4, 135), (0, 5, 146), (0, 6, 158), (0, 7, 172), (0, 8, 186), (0, 9, 202), (0, 10, 223), (0, 11, 242), (1, 2, 112), (1, 3, 124), (1, 4, 136), (1, 5, 147), (1, 6, 159), (1, 7, 173), (1, 8, 187), (1, 9, 203), (1, 10, 224), (1, 11, 243), (2, 3, 125), (2, 4, 137), (2, 5, 148), (2, 6, 160), (2, 7, 174), (2, 8, 188), (2, 9, 204), (2, 10, 225), (2, 11, 244), (3, 4, 138), (3, 5, 149), (3, 6, 161), (3, 7, 175), (3, 8, 189), (3, 9, 205), (3, 10, 226), (3, 11, 245), (4, 5, 150), (4, 6, 162), (4, 7, 176), (4, 8, 190), (4, 9, 206), (4, 10, 227), (4, 11, 246), (5, 6, 163), (5, 7, 177), (5, 8, 191), (5, 9, 207), (5, 10, 228), (5, 11, 247), (6, 7, 178), (6, 8, 192), (6, 9, 208), (6, 10, 229), (6, 11, 248), (7, 8, 193), (7, 9, 209), (7, 10, 230), (7, 11, 249), (8, 9, 210), (8, 10, 231), (8, 11, 250), (9, 10, 232), (9, 11, 251), (10, 11, 252)]
def zx_ar4 : List (Nat × Nat × List Nat) := [(5, 6, [7, 8, 9, 10, 11, 12, 13]), (15, 16, [17, 18, 19, 20, 21, 22, 23]), (25, 26, [27, 28, 29, 30, 31]), (33, 34, [35, 36, 37, 38, 39]), (46, 47, [48, 49, 50, 51, 52, 53, 54, 55, 56, 57, 58, 59, 60, 61, 62, 63, 64, 65, 66, 67, 68])]
def zx_sp : List (Nat × Nat) := [(467, 81), (480, 81), (518, 81), (520, 81), (944, 87), (602, 92), (618, 94)]
def zx_tm (i : Nat) : Term := .string RX4 ((zx_st[i]?).getD ("", 0, 0)).2.1
def zx_fv (i : Nat) : Term := .field (zx_tm i) "java/lang/String" "value" "[B"
def zx_ks (i : Nat) : Bool := match zx_sr[i]? with
  | some (a, b, c, d, e) => zx_fat a (.exactly (zx_tm i) "java/lang/String") && (zx_fat b (.eq (.field (zx_tm i) "java/lang/String" "coder" "B") (.int 0)) && (zx_fat c (.arrayOf (zx_fv i) .byte) && (zx_fat d (.eq (.length (zx_fv i)) (.int (Int32.ofNat (zx_sl.getD i 0)))) && (decide (e.length = zx_sl.getD i 0) && e.zipIdx.all (fun q => zx_fat q.1 (.eq (.elem (zx_fv i) (.int (Int32.ofNat q.2))) (.int ((zx_sb.getD i []).getD q.2 0))))))))
  | none => false
set_option maxRecDepth 100000 in
theorem zx_ks_0 : zx_ks 0 = true := by decide +kernel
set_option maxRecDepth 100000 in
theorem zx_ks_1 : zx_ks 1 = true := by decide +kernel
set_option maxRecDepth 100000 in
theorem zx_ks_2 : zx_ks 2 = true := by decide +kernel
set_option maxRecDepth 100000 in
theorem zx_ks_3 : zx_ks 3 = true := by decide +kernel
set_option maxRecDepth 100000 in
theorem zx_ks_4 : zx_ks 4 = true := by decide +kernel
set_option maxRecDepth 100000 in
theorem zx_ks_5 : zx_ks 5 = true := by decide +kernel
set_option maxRecDepth 100000 in
theorem zx_ks_6 : zx_ks 6 = true := by decide +kernel
set_option maxRecDepth 100000 in
theorem zx_ks_7 : zx_ks 7 = true := by decide +kernel
set_option maxRecDepth 100000 in
theorem zx_ks_8 : zx_ks 8 = true := by decide +kernel
set_option maxRecDepth 100000 in
theorem zx_ks_9 : zx_ks 9 = true := by decide +kernel
set_option maxRecDepth 100000 in
theorem zx_ks_10 : zx_ks 10 = true := by decide +kernel
set_option maxRecDepth 100000 in
theorem zx_ks_11 : zx_ks 11 = true := by decide +kernel
theorem zx_ks_all {i : Nat} (h : i < 12) : zx_ks i = true := by
  rcases (show i = 0 ∨ i = 1 ∨ i = 2 ∨ i = 3 ∨ i = 4 ∨ i = 5 ∨ i = 6 ∨ i = 7 ∨ i = 8 ∨ i = 9 ∨ i = 10 ∨ i = 11 by omega) with rfl | rfl | rfl | rfl | rfl | rfl | rfl | rfl | rfl | rfl | rfl | rfl
  · exact zx_ks_0
  · exact zx_ks_1
  · exact zx_ks_2
  · exact zx_ks_3
  · exact zx_ks_4
  · exact zx_ks_5
  · exact zx_ks_6
  · exact zx_ks_7
  · exact zx_ks_8
  · exact zx_ks_9
  · exact zx_ks_10
  · exact zx_ks_11
set_option maxRecDepth 100000 in
theorem zx_kn : zx_ne.all (fun q => zx_fat q.2.2 (.not (.eq (zx_tm q.1) (zx_tm q.2.1)))) = true := by decide +kernel
set_option maxRecDepth 100000 in
theorem zx_kn2 : (List.range 12).all (fun i => (List.range 12).all (fun j => decide (i < j → ∃ q ∈ zx_ne, q.1 = i ∧ q.2.1 = j))) = true := by decide +kernel
def zx_tg (g : Nat) : Term := .static (zx_sx g).1 (zx_sx g).2.1 (zx_sx g).2.2
def zx_kg (g : Nat) : Bool := match zx_ar4[g]?, zx_sp[g]? with
  | some (a, b, e), some (c, d) => zx_fat a (.arrayOf (zx_tg g) .int) && (zx_fat b (.eq (.length (zx_tg g)) (.int (Int32.ofNat (zx_sa.getD g []).length))) && (decide (e.length = (zx_sa.getD g []).length) && (e.zipIdx.all (fun q => zx_fat q.1 (.eq (.elem (zx_tg g) (.int (Int32.ofNat q.2))) (.int ((zx_sa.getD g []).getD q.2 0)))) && (zx_at c (.laysStatic (zx_sx g).1 (zx_sx g).2.1 (zx_sx g).2.2) && zx_at d (.initialized (zx_sx g).1)))))
  | _, _ => false
set_option maxRecDepth 100000 in
theorem zx_kg_0 : zx_kg 0 = true := by decide +kernel
set_option maxRecDepth 100000 in
theorem zx_kg_1 : zx_kg 1 = true := by decide +kernel
set_option maxRecDepth 100000 in
theorem zx_kg_2 : zx_kg 2 = true := by decide +kernel
set_option maxRecDepth 100000 in
theorem zx_kg_3 : zx_kg 3 = true := by decide +kernel
set_option maxRecDepth 100000 in
theorem zx_kg_4 : zx_kg 4 = true := by decide +kernel
theorem zx_kg_all {i : Nat} (h : i < 5) : zx_kg i = true := by
  rcases (show i = 0 ∨ i = 1 ∨ i = 2 ∨ i = 3 ∨ i = 4 by omega) with rfl | rfl | rfl | rfl | rfl
  · exact zx_kg_0
  · exact zx_kg_1
  · exact zx_kg_2
  · exact zx_kg_3
  · exact zx_kg_4
set_option maxRecDepth 100000 in
theorem zx_kst5 : (zx_fat 40 (.eq (zx_tg 5) (.int 1)) && (zx_at 602 (.laysStatic (zx_sx 5).1 (zx_sx 5).2.1 (zx_sx 5).2.2) && (zx_at 92 (.initialized (zx_sx 5).1) && (zx_fat 41 (.isRef (zx_tg 6)) && (zx_at 618 (.laysStatic (zx_sx 6).1 (zx_sx 6).2.1 (zx_sx 6).2.2) && zx_at 94 (.initialized (zx_sx 6).1)))))) = true := by decide +kernel
theorem zx_strings {args : Array Value} {s : State} {A : Nat → Prop} (hf : ∀ w ∈ zx_fl, w.before args s = true) (hA : ∀ a : Nat, a < s.heap.size → ¬ A a) : ∃ adK adV : Nat → Nat, vk_S 12 zx_sl zx_sb adK adV A s s.heap ∧ ∀ i : Nat, i < 12 → (zx_tm i).eval args s none [] s = some (.ref (adK i)) := by
  have key : ∀ i : Nat, i < 12 → (Cond.exactly (zx_tm i) "java/lang/String").before args s = true ∧ (Cond.eq (.field (zx_tm i) "java/lang/String" "coder" "B") (.int 0)).before args s = true ∧ (Cond.arrayOf (zx_fv i) .byte).before args s = true ∧ (Cond.eq (.length (zx_fv i)) (.int (Int32.ofNat (zx_sl.getD i 0)))).before args s = true ∧ ∀ j : Nat, j < zx_sl.getD i 0 → (Cond.eq (.elem (zx_fv i) (.int (Int32.ofNat j))) (.int ((zx_sb.getD i []).getD j 0))).before args s = true := by
    intro i hi
    have h1 := zx_ks_all hi
    unfold zx_ks at h1
    split at h1
    · rename_i a b c d e h2
      simp only [Bool.and_eq_true, decide_eq_true_eq] at h1
      obtain ⟨g1, g2, g3, g4, g5, g6⟩ := h1
      refine ⟨hf _ (zx_fat_mem g1), hf _ (zx_fat_mem g2), hf _ (zx_fat_mem g3), hf _ (zx_fat_mem g4), fun j hj => ?_⟩
      have hj2 : j < e.length := by rw [g5]; exact hj
      have h3 := List.all_eq_true.mp g6 (e[j], j) (List.mem_zipIdx_iff_getElem?.mpr (List.getElem?_eq_getElem hj2))
      exact hf _ (zx_fat_mem h3)
    · cases h1
  refine vk_Sof (tm := zx_tm) ?_ (fun i hi => (key i hi).1) (fun i hi => (key i hi).2.1) (fun i hi => (key i hi).2.2.1) (fun i hi => (key i hi).2.2.2.1) (fun i hi => (key i hi).2.2.2.2) ?_ hA
  · intro i hi
    rcases (show i = 0 ∨ i = 1 ∨ i = 2 ∨ i = 3 ∨ i = 4 ∨ i = 5 ∨ i = 6 ∨ i = 7 ∨ i = 8 ∨ i = 9 ∨ i = 10 ∨ i = 11 by omega) with rfl | rfl | rfl | rfl | rfl | rfl | rfl | rfl | rfl | rfl | rfl | rfl <;> decide
  · intro i j hi hj hij
    have h1 := fun (a b : Nat) (ha : a < 12) (hb : b < 12) (hab : a < b) => (of_decide_eq_true (List.all_eq_true.mp (List.all_eq_true.mp zx_kn2 a (List.mem_range.mpr ha)) b (List.mem_range.mpr hb))) hab
    rcases Nat.lt_or_gt_of_ne hij with h2 | h2
    · obtain ⟨q, hq, rfl, rfl⟩ := h1 i j hi hj h2
      exact Or.inl (hf _ (zx_fat_mem (List.all_eq_true.mp zx_kn q hq)))
    · obtain ⟨q, hq, rfl, rfl⟩ := h1 j i hj hi h2
      exact Or.inr (hf _ (zx_fat_mem (List.all_eq_true.mp zx_kn q hq)))
theorem zx_rows {args : Array Value} {s : State} {A : Nat → Prop} (hf : ∀ w ∈ zx_fl, w.before args s = true) (hts : ∀ w ∈ lw_tbl, w.before args s = true) (hA : ∀ a : Nat, a < s.heap.size → ¬ A a) {g : Nat} (hg : g < 5) : ∃ t : Nat, va_Z (zx_sx g).1 (zx_sx g).2.1 (zx_sx g).2.2 (.ref t) A s s.heap ∧ va_T .int t (zx_sa.getD g []).length (fun j => .int ((zx_sa.getD g []).getD j 0)) A s s.heap := by
  have h1 := zx_kg_all hg
  unfold zx_kg at h1
  split at h1
  · rename_i a b e c d h2 h3
    simp only [Bool.and_eq_true, decide_eq_true_eq] at h1
    obtain ⟨g1, g2, g3, g4, g5, g6⟩ := h1
    obtain ⟨t, ht, hT⟩ := va_Tof (ty := .int) (f := fun j => .int ((zx_sa.getD g []).getD j 0)) (A := A) (N := (zx_sa.getD g []).length) (by rcases (show g = 0 ∨ g = 1 ∨ g = 2 ∨ g = 3 ∨ g = 4 by omega) with rfl | rfl | rfl | rfl | rfl <;> decide) (hf _ (zx_fat_mem g1)) (va_eqt (hf _ (zx_fat_mem g2))) (fun j hj => by
      have hj2 : j < e.length := by rw [g3]; exact hj
      have h4 := List.all_eq_true.mp g4 (e[j], j) (List.mem_zipIdx_iff_getElem?.mpr (List.getElem?_eq_getElem hj2))
      exact va_eqt (hf _ (zx_fat_mem h4))) hA
    exact ⟨t, va_Zof (hts _ (zx_at_mem g5)) (hts _ (zx_at_mem g6)) ht hA, hT⟩
  · cases h1
theorem zx_start {args : Array Value} {s : State} {b L : Nat} {xs : Nat → Int32} (hf : ∀ w ∈ zx_fl, w.before args s = true) (hts : ∀ w ∈ lw_tbl, w.before args s = true) (hX : va_X b L xs s s.heap) (hb : b < s.heap.size) :
    ∃ (fx : Nat → Nat → Nat) (vq : Value) (ct : Nat → ClassId) (D : va_G), fx 5 0 = b ∧ zx_St fx vq (fun q : Nat => s.heap.size ≤ q) (some (L, xs)) s s.heap ∧ va_K D zx_cl (zx_tys ct) s := by
  have hA : ∀ a : Nat, a < s.heap.size → ¬ (fun q : Nat => s.heap.size ≤ q) a := fun a h => Nat.not_le.mpr h
  obtain ⟨adK, adV, hS, hE⟩ := zx_strings (A := fun q : Nat => s.heap.size ≤ q) hf hA
  obtain ⟨t0, z0, r0⟩ := zx_rows hf hts hA (g := 0) (by decide)
  obtain ⟨t1, z1, r1⟩ := zx_rows hf hts hA (g := 1) (by decide)
  obtain ⟨t2, z2, r2⟩ := zx_rows hf hts hA (g := 2) (by decide)
  obtain ⟨t3, z3, r3⟩ := zx_rows hf hts hA (g := 3) (by decide)
  obtain ⟨t4, z4, r4⟩ := zx_rows hf hts hA (g := 4) (by decide)
  have h5 := zx_kst5
  simp only [Bool.and_eq_true] at h5
  obtain ⟨g1, g2, g3, g4, g5, g6⟩ := h5
  have hz5 : va_Z (zx_sx 5).1 (zx_sx 5).2.1 (zx_sx 5).2.2 (.int 1) (fun q : Nat => s.heap.size ≤ q) s s.heap := va_Zof (hts _ (zx_at_mem g2)) (hts _ (zx_at_mem g3)) (va_eqi (hf _ (zx_fat_mem g1))) hA
  have hz6 : ∃ vq : Value, va_Z (zx_sx 6).1 (zx_sx 6).2.1 (zx_sx 6).2.2 vq (fun q : Nat => s.heap.size ≤ q) s s.heap ∧ (vq = .null ∨ ∃ t, vq = .ref t) := by
    rcases va_Zqof (A := fun q : Nat => s.heap.size ≤ q) (hts _ (zx_at_mem g5)) (hts _ (zx_at_mem g6)) (hf _ (zx_fat_mem g4)) hA with h | ⟨t, h⟩
    · exact ⟨_, h, Or.inl rfl⟩
    · exact ⟨_, h, Or.inr ⟨t, rfl⟩⟩
  obtain ⟨vq, hq1, hq2⟩ := hz6
  have hG : ∀ w ∈ zx_G, w.before args s = true := fun w hw => hts w (List.mem_filter.mp hw).1
  have hXX := zx_ckX
  simp only [Bool.and_eq_true] at hXX
  obtain ⟨c0, k0, p0, a1, a2, a3⟩ := Cond.arrayClass_spec (hG _ (zx_inG_mem hXX.1))
  obtain ⟨c1, k1, p1, b1, b2, b3⟩ := Cond.arrayClass_spec (hG _ (zx_inG_mem hXX.2.1))
  obtain ⟨p2, c2, k2, d1, -, d2, d3, d4⟩ := Cond.arrayOver_spec (hts _ (zx_at_mem zx_ckY.1))
  obtain ⟨p3, c3, k3, e1, -, e2, e3, e4⟩ := Cond.arrayOver_spec (hts _ (zx_at_mem zx_ckY.2))
  have hkn : ∀ i : Nat, i < 9 → ∃ (cC : ClassId) (iS : Nat → Nat), u_Kn s (zx_R9 i) (zx_T8 i) (zx_fn i) cC iS := by
    intro i hi
    have hpI := List.all_eq_true.mp zx_ckP i (List.mem_range.mpr hi)
    split at hpI
    · rw [Bool.and_eq_true] at hpI
      exact u_known (ws := zx_G) hG (zx_hin hi) (hG _ (zx_inG_mem hpI.1))
    · cases hpI
  have hkn2 : ∀ i : Nat, ∃ q : ClassId × (Nat → Nat), i < 9 → u_Kn s (zx_R9 i) (zx_T8 i) (zx_fn i) q.1 q.2 := by
    intro i
    by_cases hi : i < 9
    · obtain ⟨a, b, h⟩ := hkn i hi
      exact ⟨(a, b), fun _ => h⟩
    · exact ⟨(c0, fun _ => 0), fun h => absurd h hi⟩
  obtain ⟨dd, hdd⟩ := Classical.axiomOfChoice hkn2
  refine ⟨fun t i => if t = 2 then adK i else if t = 3 then adV i else if t = 4 then (if i = 0 then t0 else if i = 1 then t1 else if i = 2 then t2 else if i = 3 then t3 else t4) else b, vq, fun t => if t = 0 then c0 else if t = 1 then c1 else if t = 2 then c2 else c3, (fun i => (dd i).1, fun i => (dd i).2), rfl, ⟨?_, ?_, ?_, ?_, hS, ?_, hz5, hq1, hq2, fun q e => by cases e; exact ⟨hX, hb, Nat.not_le.mpr hb⟩⟩, ⟨?_, ?_⟩⟩
  · intro w hw
    have h1 := zx_nw_k hw
    have h2 := hts w (List.mem_filter.mp hw).1
    cases w <;> first | exact va_Nw.of rfl h2 | (exact absurd h1 (by intro z; cases z))
  · exact va_AO.of (hts _ (zx_at_mem zx_ckY.1))
  · exact va_AO.of (hts _ (zx_at_mem zx_ckY.2))
  · intro i q hi
    have hi12 : i < 12 := (List.getElem?_eq_some_iff.mp hi).1
    have h1 := List.all_eq_true.mp zx_ckS q (List.mem_of_getElem? hi)
    have h2 := hE i hi12
    unfold zx_tm at h2
    rw [hi] at h2
    exact vk_R.of (hts _ (zx_at_mem h1)) h2
  · intro i hi
    rcases (show i = 0 ∨ i = 1 ∨ i = 2 ∨ i = 3 ∨ i = 4 by omega) with rfl | rfl | rfl | rfl | rfl
    · exact ⟨z0, r0⟩
    · exact ⟨z1, r1⟩
    · exact ⟨z2, r2⟩
    · exact ⟨z3, r3⟩
    · exact ⟨z4, r4⟩
  · intro c q hc
    have hc9 : c < 9 := (List.getElem?_eq_some_iff.mp hc).1
    rw [zx_clk hc9] at hc
    cases hc
    exact hdd c hc9
  · intro k q hk
    have hk4 : k < 4 := (List.getElem?_eq_some_iff.mp hk).1
    rcases (show k = 0 ∨ k = 1 ∨ k = 2 ∨ k = 3 by omega) with rfl | rfl | rfl | rfl
    · cases hk
      exact ⟨fun n z => ⟨fun k h => (by cases h), k0, a2, p0, a3⟩, a1⟩
    · cases hk
      exact ⟨fun n z => ⟨fun k h => (by cases h), k1, b2, p1, b3⟩, b1⟩
    · cases hk
      exact ⟨fun n z => ⟨fun k h => (by cases h), k2, d2, p2, d3⟩, k2, p2, d2, d3, d1, d4⟩
    · cases hk
      exact ⟨fun n z => ⟨fun k h => (by cases h), k3, e2, p3, e3⟩, k3, p3, e2, e3, e1, e4⟩
end
section
/-! part 15: the law: a run of the small machine that answers 1 closes it (the rows ahead of zx_tl are the kit's skeleton) -/
/-! THE CLAIM OUT OF ONE WALK OF THE LAW'S BODY. Your part is whole_start (and what it stands on); all else here is the same for every law, but numbers. -/
def R_law : String := "CarriedAsFarAsTheStileLaw"
def lw_P (b : Addr) (xs : List Int32) (args : Array Value) (s : State) : Prop := args = #[.ref b] ∧ s.IntsAt b xs ∧ xs.length ≤ 3072 ∧ (Jvm.Cond.and given_1 narrow_1).before args s = true
def lw_Q (_ : Array Value) (s : State) (o : Outcome) (t : State) : Prop := o = .returned (some (.int 1)) ∧ Framed s o t [] 600000 7302250
def lw_Z (below : List Frame) (a : Array Value) (s : State) : State → Prop := fun t => ∃ o, t.status = .running ∧ Ended t below o ∧ lw_Q a s o t
/-- the law's own end, with 1 on the stack, nothing written that was there before, its room as the claim has it -/
theorem lw_ret {p : Program} {l : Launch} {e : Env} {s : State} {m : MethodId} {below : List Frame} {meth : Method} {c : Code} {b : Nat} (hx : p.tables.exec = Jvm.exec) (hb : c.code = code) (hr : meth.sig.returnType = ret) (hlocks : meth.locks = false) {pc : Nat} {H : Heap} {ls : Array Slot} (hdg : decode code pc = .ok (.ireturn, 1)) : W p l e room_1 s m #[Value.ref b] below meth c H [] 600000 7302250 (lw_Z below #[Value.ref b] s) (F0 m pc ls [.int 1]) := by
  intro T hT X
  obtain ⟨fs, hret, hrun, hended, hW, hframe⟩ := X.leave (v := some (.int 1)) (hlocks := hlocks) (fun h => by rw [hr] at h; cases h)
  have hmeth' : T.vm.method? m = some meth := X.method'
  refine ⟨T.setFrames fs, ?_, .returned (some (.int 1)), hrun, hended, rfl, ⟨_, rfl⟩, hW, hframe⟩
  jvm_step X.here [X.here.top, hx, hb, hdg, hmeth', hr, ret, narrow_b1]
  (try refine ⟨rfl, ?_⟩); (try refine ⟨rfl, ?_⟩)
  first | (intro acts; rw [hret _ acts rfl rfl rfl]) | rw [hret _ _ rfl rfl rfl]
  exact Steps.refl _
/-- what holds at the law's entry: the machine, the code, the tables' words (any of lw_tbl by 'hts w (by decide +kernel)'), the script of L ints xs at the cell b, what the Statement gives of the start (any of its parts by flat_of_before) -/
def lw_At (p : Program) (s : State) (m : MethodId) (meth : Method) (c : Code) (b L : Nat) (xs : Nat → Int32) : Prop :=
  p.tables.exec = Jvm.exec ∧ c.code = code ∧ meth.sig.returnType = ret ∧ c.maxLocals = 4 ∧ s.vm.findClass R_law = some m.cls ∧ (∀ w ∈ lw_tbl, w.before #[Value.ref b] s = true) ∧ va_X b L xs s s.heap ∧ b < s.heap.size ∧ meth.locks = false ∧ (Jvm.Cond.and given_1 narrow_1).before #[Value.ref b] s = true
def zx_tl : zx_MT := (14, x, code, 4, some .boolean, 1, 1)
def zx_sl0 : zx_S := (0, [some (.inr (.inr (5, 0))), none, none, none], [], [], 0, 0)
section
variable {p : Program} {l : Launch} {e : Env} {R : Room} {s : State} {m : MethodId} {args : Array Value} {below : List Frame} {meth : Method} {c : Code} {Q : State → Prop}
variable {fx : Nat → Nat → Nat} {vq : Value} {ct : Nat → ClassId} {ad : Nat → Nat} {A : Nat → Prop} {sc : zx_Sc} {D : va_G} {t : zx_MT} {d : Nat}
variable {pc nc ns : Nat} {L : List (Option zx_V)} {S : List zx_V} {h : List zx_C} {st : zx_S}
variable {rr : zx_R}
theorem zx_exQ {N : Nat} (X : zx_Cx p R s m args meth c fx vq ct A sc D t d) (hRc : rr.2.2.1 ≤ R.cells ∧ rr.2.2.2 ≤ R.slots)
    (kend : ∀ (st1 : zx_S) (ad1 : Nat → Nat), zx_stp sc (fun k as h => match N with | 0 => none | _ => none) t st1 = some (.inr rr) ∨ (∃ run, zx_stp sc run t st1 = some (.inr rr)) → zx_Go p l e R s m args below meth c Q fx vq ct A D t ad1 st1) :
    ∀ (n : Nat) (st0 : zx_S) (ad : Nat → Nat), zx_ex n d sc t st0 = some rr → st0.2.1.length ≤ zx_mn t → zx_Go p l e R s m args below meth c Q fx vq ct A D t ad st0 := by
  intro n
  induction n with
  | zero =>
    intro st0 ad h1
    unfold zx_ex at h1
    cases h1
  | succ n ih =>
    intro st0 ad h1 hLn
    unfold zx_ex at h1
    split at h1
    · rename_i st1 e1
      have hm := zx_mono n d sc t st1 rr h1
      have hn1 := zx_nc_stp e1
      refine zx_s_stp X ?_ hLn e1 ⟨Nat.le_trans hm.1 hRc.1, Nat.le_trans hm.2 hRc.2⟩ (fun ad' hx1 => ih st1 ad' h1 (by rw [hn1.1]; exact hLn))
      intro k as h' r' ad' hk hk3 hrun
      cases d with
      | zero => cases hrun
      | succ d => exact ⟨d, rfl, zx_sound n d k as h' r' ad' hk hk3 hrun⟩
    · rename_i r' e1
      cases h1
      exact kend st0 ad (Or.inr ⟨_, e1⟩)
    · cases h1
end
theorem zx_whole {p : Program} {e : Env} {s : State} {m : MethodId} {below : List Frame} {meth : Method} {c : Code} (l : Launch) {b L : Nat} {xs : Nat → Int32}
    (hrun : ∃ (n : Nat) (r : zx_R), zx_ex n 200 (some (L, xs)) zx_tl zx_sl0 = some r ∧ r.1 = some (.inl 1) ∧ r.2.2.1 ≤ 600000 ∧ r.2.2.2 ≤ 7302250) (C0 : lw_At p s m meth c b L xs) : W p l e room_1 s m #[Value.ref b] below meth c s.heap [] 0 0 (lw_Z below #[Value.ref b] s) (entryFrame m ([Value.ref b] : List Value).toArray 4) := by
  obtain ⟨hx, hb, hr, hml, hown, hts, hX, hbl, hlocks, hgv⟩ := C0
  obtain ⟨n, r, hex, h1, hc1, hc2⟩ := hrun
  have hf : ∀ w ∈ zx_fl, w.before #[Value.ref b] s = true := flat_of_before _ hgv
  obtain ⟨fx, vq, ct, D, hfb, hSt, hK⟩ := zx_start (args := #[Value.ref b]) hf hts hX hbl
  have hq := hSt.2.2.2.2.2.2.2.2.1
  have X : zx_Cx p room_1 s m #[Value.ref b] meth c fx vq ct (fun q : Nat => s.heap.size ≤ q) (some (L, xs)) D zx_tl 200 :=
    ⟨hx, hb, hml, hown, fun w hw => hts w (List.mem_filter.mp hw).1, hK, fun _ h => h, hSt, ⟨by decide, by decide⟩, fun g => by cases g⟩
  have hen := lv_entry ([.ref b]) (n := 4) (Nat.le_of_ble_eq_true rfl)
  rw [lg_entry_eq]
  refine zx_exQ (N := 0) X ⟨hc1, hc2⟩ ?_ n zx_sl0 (fun _ => 0) hex (by decide) s.heap [] _ (fun k q h => by simp [zx_w, zx_sl0] at h) ⟨fun i j p q h => by simp [zx_w, zx_sl0] at h, fun k q h => by simp [zx_w, zx_sl0] at h⟩ va_S.rf (zx_l_sub hen ?_)
  · intro st1 ad1 hs
    have hs2 : ∃ run, zx_stp (some (L, xs)) run zx_tl st1 = some (.inr r) := by
      rcases hs with h | h
      · exact ⟨_, h⟩
      · exact h
    obtain ⟨run, h2⟩ := hs2
    unfold zx_stp at h2
    split at h2
    · rename_i ins len hdg
      split at h2
      · rename_i hlen
        obtain ⟨pc, L1, S1, h9, nc, ns⟩ := st1
        rcases zx_e_ins h2 with ⟨rfl, h3⟩ | ⟨rfl, h3⟩ | ⟨rfl, h3⟩ | ⟨rfl, h3⟩
        · have e9 : len = 1 := by simpa [zx_lok, zx_len] using hlen
          subst e9
          replace h3 : zx_ir (some .boolean) S1 h9 nc ns = some (.inr r) := h3
          unfold zx_ir at h3
          split at h3
          · rename_i ty v e1
            split at h3
            · cases h3
              have hv : v = 1 := by
                have h4 : (some (Sum.inl v) : Option zx_V) = some (.inl 1) := h1
                exact Sum.inl.inj (Option.some.inj h4)
              subst hv
              intro H locs ls hP hD hS hl
              refine va_forget (fun q hq => hS.2.2 q hq) ?_
              refine W.widen (k := 600000) (n := 7302250) hc1 hc2 ?_
              exact lw_ret hx hb hr hlocks hdg
            · cases h3
          · cases h3
        · exfalso
          replace h3 : zx_lr (some .boolean) S1 h9 nc ns = some (.inr r) := h3
          unfold zx_lr at h3
          split at h3
          · rename_i e1; cases e1
          · cases h3
        · exfalso
          replace h3 : zx_ar (some .boolean) S1 h9 nc ns = some (.inr r) := h3
          unfold zx_ar at h3
          split at h3
          · rename_i e1; cases e1
          · cases h3
        · exfalso
          replace h3 : zx_vr (some .boolean) S1 h9 nc ns = some (.inr r) := h3
          unfold zx_vr at h3
          split at h3
          · rename_i e1; cases e1
          · cases h3
      · cases h2
    · cases h2
  · rintro ⟨i, w⟩ hm
    obtain ⟨v, h2, rfl⟩ := zx_l_mem.mp hm
    match i, h2 with
    | 0, h2 =>
      cases h2
      show (0, Value.ref (fx 5 0)) ∈ lv_args 0 [Value.ref b]
      rw [hfb]
      exact List.mem_cons_self
    | 1, h2 => cases h2
    | 2, h2 => cases h2
    | 3, h2 => cases h2
    | i + 4, h2 => cases h2
end
section
/-! part 16: the cells behind the two constructors, in blocks that the kernel checks: laid by wip/p2/born.py -/
def zx_rn : Nat → List zx_V → List zx_C → Option zx_R := fun k as h => zx_run 300 20 k as h
def zx_it (t : zx_MT) : Nat → zx_S → Option zx_S
  | 0, st => some st
  | n + 1, st => match zx_stp none zx_rn t st with
    | some (.inl st') => zx_it t n st'
    | _ => none
def zx_veq : DecidableEq zx_V := inferInstance
def zx_aeq : DecidableEq zx_A := inferInstance
def zx_oeq : DecidableEq (Nat × List zx_V) := inferInstance
def zx_peq : DecidableEq (Nat × zx_A) := inferInstance
def zx_cb2 : zx_C → zx_C → Bool
  | .inl a, .inl b => (zx_oeq a b).decide
  | .inr a, .inr b => (zx_peq a b).decide
  | _, _ => false
theorem zx_cb2_ok : ∀ {a b : zx_C}, zx_cb2 a b = true → a = b
  | .inl a, .inl b, h => by
    have h2 : a = b := @of_decide_eq_true _ (zx_oeq a b) h
    rw [h2]
  | .inr a, .inr b, h => by
    have h2 : a = b := @of_decide_eq_true _ (zx_peq a b) h
    rw [h2]
  | .inl _, .inr _, h => by cases h
  | .inr _, .inl _, h => by cases h
def zx_lb : List zx_C → List zx_C → Bool
  | [], [] => true
  | a :: r, b :: q => zx_cb2 a b && zx_lb r q
  | _, _ => false
theorem zx_lb_ok : ∀ {a b : List zx_C}, zx_lb a b = true → a = b
  | [], [], _ => rfl
  | a :: r, b :: q, h => by
    unfold zx_lb at h
    rw [Bool.and_eq_true] at h
    rw [zx_cb2_ok h.1, zx_lb_ok h.2]
  | [], _ :: _, h => by cases h
  | _ :: _, [], h => by cases h
def zx_Leq : DecidableEq (List (Option zx_V)) := inferInstance
def zx_seq (a : Option zx_S) (b : zx_S) : Bool := match a with
  | some a => decide (a.1 = b.1) && ((zx_Leq a.2.1 b.2.1).decide && (decide (a.2.2.1 = b.2.2.1) && (zx_lb a.2.2.2.1 b.2.2.2.1 && (decide (a.2.2.2.2.1 = b.2.2.2.2.1) && decide (a.2.2.2.2.2 = b.2.2.2.2.2)))))
  | none => false
theorem zx_seq_ok {a : Option zx_S} {b : zx_S} (h : zx_seq a b = true) : a = some b := by
  unfold zx_seq at h
  split at h
  · rename_i a
    simp only [Bool.and_eq_true, decide_eq_true_eq] at h
    obtain ⟨h1, h2, h3, h4, h5, h6⟩ := h
    obtain ⟨p1, p2, p3, p4, p5, p6⟩ := a
    obtain ⟨q1, q2, q3, q4, q5, q6⟩ := b
    replace h2 : p2 = q2 := h2
    replace h4 : p4 = q4 := zx_lb_ok h4
    simp only at h1 h3 h5 h6
    subst h1 h2 h3 h4 h5 h6
    rfl
  · cases h
def zx_bx0 : zx_S := (0, [some (.inr (.inr (1, 0))), none], [], [.inl (7, [.inr (.inr (0, 0)), .inr (.inr (0, 0)), .inr (.inr (0, 0)), .inr (.inr (0, 0)), .inr (.inr (0, 0)), .inr (.inr (0, 0)), .inr (.inr (0, 0)), .inr (.inr (0, 0)), .inr (.inr (0, 0)), .inl 0, .inl 0])], 0, 0)
def zx_bx1 : zx_S := (17, [some (.inr (.inr (1, 0))), none], [.inr (.inr (1, 2)), .inr (.inr (1, 0))], [.inl (7, [.inr (.inr (1, 1)), .inr (.inr (0, 0)), .inr (.inr (0, 0)), .inr (.inr (0, 0)), .inr (.inr (0, 0)), .inr (.inr (0, 0)), .inr (.inr (0, 0)), .inr (.inr (0, 0)), .inr (.inr (0, 0)), .inl 0, .inl 0]),
  .inr (2, .inr (.inr [none, none, none, none, none, none, none, none])),
  .inl (5, [.inr (.inr (0, 0)), .inr (.inr (0, 0)), .inl 0, .inl 0, .inl 0, .inl 0, .inl 0, .inl 0, .inl 0, .inl 0, .inl 0, .inl 0, .inl 0])], 2, 21)
set_option maxRecDepth 1000000 in
theorem zx_bx1_ok : zx_seq (zx_it (zx_m 67) 8 zx_bx0) zx_bx1 = true := by decide +kernel
def zx_bx2 : zx_S := (35, [some (.inr (.inr (1, 0))), none], [.inr (.inr (1, 9)), .inr (.inr (1, 0))], [.inl (7, [.inr (.inr (1, 1)), .inr (.inr (1, 2)), .inr (.inr (0, 0)), .inr (.inr (0, 0)), .inr (.inr (0, 0)), .inr (.inr (0, 0)), .inr (.inr (0, 0)), .inr (.inr (0, 0)), .inr (.inr (0, 0)), .inl 0, .inl 0]),
  .inr (2, .inr (.inr [none, none, none, none, none, none, none, none])),
  .inl (5, [.inr (.inr (1, 3)), .inr (.inr (1, 8)), .inl (-1), .inl 3, .inl 3, .inl 4, .inl 0, .inl 2, .inl 1, .inl 20, .inl 0, .inl 0, .inl 1]),
  .inl (6, [.inr (.inr (1, 4)), .inr (.inr (1, 5)), .inr (.inr (1, 6)), .inr (.inr (1, 7)), .inl 0, .inl 0]),
  .inr (0, .inl (List.replicate 24 0)),
  .inr (0, .inl (List.replicate 24 0)),
  .inr (0, .inl (List.replicate 6 0)),
  .inr (0, .inl (List.replicate 6 0)),
  .inr (0, .inl (List.replicate 6 0)),
  .inl (5, [.inr (.inr (0, 0)), .inr (.inr (0, 0)), .inl 0, .inl 0, .inl 0, .inl 0, .inl 0, .inl 0, .inl 0, .inl 0, .inl 0, .inl 0, .inl 0])], 9, 106)
set_option maxRecDepth 1000000 in
theorem zx_bx2_ok : zx_seq (zx_it (zx_m 67) 8 zx_bx1) zx_bx2 = true := by decide +kernel
def zx_bx3 : zx_S := (53, [some (.inr (.inr (1, 0))), none], [.inr (.inr (1, 16)), .inr (.inr (1, 0))], [.inl (7, [.inr (.inr (1, 1)), .inr (.inr (1, 2)), .inr (.inr (1, 9)), .inr (.inr (0, 0)), .inr (.inr (0, 0)), .inr (.inr (0, 0)), .inr (.inr (0, 0)), .inr (.inr (0, 0)), .inr (.inr (0, 0)), .inl 0, .inl 0]),
  .inr (2, .inr (.inr [none, none, none, none, none, none, none, none])),
  .inl (5, [.inr (.inr (1, 3)), .inr (.inr (1, 8)), .inl (-1), .inl 3, .inl 3, .inl 4, .inl 0, .inl 2, .inl 1, .inl 20, .inl 0, .inl 0, .inl 1]),
  .inl (6, [.inr (.inr (1, 4)), .inr (.inr (1, 5)), .inr (.inr (1, 6)), .inr (.inr (1, 7)), .inl 0, .inl 0]),
  .inr (0, .inl (List.replicate 24 0)),
  .inr (0, .inl (List.replicate 24 0)),
  .inr (0, .inl (List.replicate 6 0)),
  .inr (0, .inl (List.replicate 6 0)),
  .inr (0, .inl (List.replicate 6 0)),
  .inl (5, [.inr (.inr (1, 10)), .inr (.inr (1, 15)), .inl (-1), .inl 3, .inl 3, .inl 4, .inl 0, .inl 2, .inl 1, .inl 20, .inl 0, .inl 0, .inl 1]),
  .inl (6, [.inr (.inr (1, 11)), .inr (.inr (1, 12)), .inr (.inr (1, 13)), .inr (.inr (1, 14)), .inl 0, .inl 0]),
  .inr (0, .inl (List.replicate 24 0)),
  .inr (0, .inl (List.replicate 24 0)),
  .inr (0, .inl (List.replicate 6 0)),
  .inr (0, .inl (List.replicate 6 0)),
  .inr (0, .inl (List.replicate 6 0)),
  .inl (5, [.inr (.inr (0, 0)), .inr (.inr (0, 0)), .inl 0, .inl 0, .inl 0, .inl 0, .inl 0, .inl 0, .inl 0, .inl 0, .inl 0, .inl 0, .inl 0])], 16, 191)
set_option maxRecDepth 1000000 in
theorem zx_bx3_ok : zx_seq (zx_it (zx_m 67) 8 zx_bx2) zx_bx3 = true := by decide +kernel
def zx_bx4 : zx_S := (71, [some (.inr (.inr (1, 0))), none], [.inr (.inr (1, 18)), .inr (.inr (1, 0))], [.inl (7, [.inr (.inr (1, 1)), .inr (.inr (1, 2)), .inr (.inr (1, 9)), .inr (.inr (1, 16)), .inr (.inr (0, 0)), .inr (.inr (0, 0)), .inr (.inr (0, 0)), .inr (.inr (0, 0)), .inr (.inr (0, 0)), .inl 0, .inl 0]),
  .inr (2, .inr (.inr [none, none, none, none, none, none, none, none])),
  .inl (5, [.inr (.inr (1, 3)), .inr (.inr (1, 8)), .inl (-1), .inl 3, .inl 3, .inl 4, .inl 0, .inl 2, .inl 1, .inl 20, .inl 0, .inl 0, .inl 1]),
  .inl (6, [.inr (.inr (1, 4)), .inr (.inr (1, 5)), .inr (.inr (1, 6)), .inr (.inr (1, 7)), .inl 0, .inl 0]),
  .inr (0, .inl (List.replicate 24 0)),
  .inr (0, .inl (List.replicate 24 0)),
  .inr (0, .inl (List.replicate 6 0)),
  .inr (0, .inl (List.replicate 6 0)),
  .inr (0, .inl (List.replicate 6 0)),
  .inl (5, [.inr (.inr (1, 10)), .inr (.inr (1, 15)), .inl (-1), .inl 3, .inl 3, .inl 4, .inl 0, .inl 2, .inl 1, .inl 20, .inl 0, .inl 0, .inl 1]),
  .inl (6, [.inr (.inr (1, 11)), .inr (.inr (1, 12)), .inr (.inr (1, 13)), .inr (.inr (1, 14)), .inl 0, .inl 0]),
  .inr (0, .inl (List.replicate 24 0)),
  .inr (0, .inl (List.replicate 24 0)),
  .inr (0, .inl (List.replicate 6 0)),
  .inr (0, .inl (List.replicate 6 0)),
  .inr (0, .inl (List.replicate 6 0)),
  .inl (5, [.inr (.inr (1, 3)), .inr (.inr (1, 17)), .inl (-1), .inl 3, .inl 3, .inl 4, .inl 0, .inl 2, .inl 1, .inl 20, .inl 0, .inl 0, .inl 1]),
  .inr (0, .inl (List.replicate 6 0)),
  .inl (1, [.inr (.inr (0, 0)), .inl 0, .inl 0, .inl 0])], 18, 201)
set_option maxRecDepth 1000000 in
theorem zx_bx4_ok : zx_seq (zx_it (zx_m 67) 8 zx_bx3) zx_bx4 = true := by decide +kernel
def zx_bx5 : zx_S := (89, [some (.inr (.inr (1, 0))), none], [.inr (.inr (1, 21)), .inr (.inr (1, 0))], [.inl (7, [.inr (.inr (1, 1)), .inr (.inr (1, 2)), .inr (.inr (1, 9)), .inr (.inr (1, 16)), .inr (.inr (1, 18)), .inr (.inr (0, 0)), .inr (.inr (0, 0)), .inr (.inr (0, 0)), .inr (.inr (0, 0)), .inl 0, .inl 0]),
  .inr (2, .inr (.inr [none, none, none, none, none, none, none, none])),
  .inl (5, [.inr (.inr (1, 3)), .inr (.inr (1, 8)), .inl (-1), .inl 3, .inl 3, .inl 4, .inl 0, .inl 2, .inl 1, .inl 20, .inl 0, .inl 0, .inl 1]),
  .inl (6, [.inr (.inr (1, 4)), .inr (.inr (1, 5)), .inr (.inr (1, 6)), .inr (.inr (1, 7)), .inl 0, .inl 0]),
  .inr (0, .inl (List.replicate 24 0)),
  .inr (0, .inl (List.replicate 24 0)),
  .inr (0, .inl (List.replicate 6 0)),
  .inr (0, .inl (List.replicate 6 0)),
  .inr (0, .inl (List.replicate 6 0)),
  .inl (5, [.inr (.inr (1, 10)), .inr (.inr (1, 15)), .inl (-1), .inl 3, .inl 3, .inl 4, .inl 0, .inl 2, .inl 1, .inl 20, .inl 0, .inl 0, .inl 1]),
  .inl (6, [.inr (.inr (1, 11)), .inr (.inr (1, 12)), .inr (.inr (1, 13)), .inr (.inr (1, 14)), .inl 0, .inl 0]),
  .inr (0, .inl (List.replicate 24 0)),
  .inr (0, .inl (List.replicate 24 0)),
  .inr (0, .inl (List.replicate 6 0)),
  .inr (0, .inl (List.replicate 6 0)),
  .inr (0, .inl (List.replicate 6 0)),
  .inl (5, [.inr (.inr (1, 3)), .inr (.inr (1, 17)), .inl (-1), .inl 3, .inl 3, .inl 4, .inl 0, .inl 2, .inl 1, .inl 20, .inl 0, .inl 0, .inl 1]),
  .inr (0, .inl (List.replicate 6 0)),
  .inl (1, [.inr (.inr (1, 19)), .inl 0, .inl 0, .inl 0]),
  .inl (5, [.inr (.inr (1, 3)), .inr (.inr (1, 20)), .inl (-1), .inl 3, .inl 3, .inl 4, .inl 0, .inl 2, .inl 1, .inl 20, .inl 0, .inl 0, .inl 1]),
  .inr (0, .inl (List.replicate 6 0)),
  .inl (2, [.inr (.inr (0, 0)), .inr (.inr (0, 0)), .inr (.inr (0, 0)), .inl 0, .inl 0, .inl 0, .inl 0, .inl 0])], 21, 228)
set_option maxRecDepth 1000000 in
theorem zx_bx5_ok : zx_seq (zx_it (zx_m 67) 8 zx_bx4) zx_bx5 = true := by decide +kernel
def zx_bx6 : zx_S := (107, [some (.inr (.inr (1, 0))), none], [.inr (.inr (1, 35)), .inr (.inr (1, 0))], [.inl (7, [.inr (.inr (1, 1)), .inr (.inr (1, 2)), .inr (.inr (1, 9)), .inr (.inr (1, 16)), .inr (.inr (1, 18)), .inr (.inr (1, 21)), .inr (.inr (0, 0)), .inr (.inr (0, 0)), .inr (.inr (0, 0)), .inl 0, .inl 0]),
  .inr (2, .inr (.inr [none, none, none, none, none, none, none, none])),
  .inl (5, [.inr (.inr (1, 3)), .inr (.inr (1, 8)), .inl (-1), .inl 3, .inl 3, .inl 4, .inl 0, .inl 2, .inl 1, .inl 20, .inl 0, .inl 0, .inl 1]),
  .inl (6, [.inr (.inr (1, 4)), .inr (.inr (1, 5)), .inr (.inr (1, 6)), .inr (.inr (1, 7)), .inl 0, .inl 0]),
  .inr (0, .inl (List.replicate 24 0)),
  .inr (0, .inl (List.replicate 24 0)),
  .inr (0, .inl (List.replicate 6 0)),
  .inr (0, .inl (List.replicate 6 0)),
  .inr (0, .inl (List.replicate 6 0)),
  .inl (5, [.inr (.inr (1, 10)), .inr (.inr (1, 15)), .inl (-1), .inl 3, .inl 3, .inl 4, .inl 0, .inl 2, .inl 1, .inl 20, .inl 0, .inl 0, .inl 1]),
  .inl (6, [.inr (.inr (1, 11)), .inr (.inr (1, 12)), .inr (.inr (1, 13)), .inr (.inr (1, 14)), .inl 0, .inl 0]),
  .inr (0, .inl (List.replicate 24 0)),
  .inr (0, .inl (List.replicate 24 0)),
  .inr (0, .inl (List.replicate 6 0)),
  .inr (0, .inl (List.replicate 6 0)),
  .inr (0, .inl (List.replicate 6 0)),
  .inl (5, [.inr (.inr (1, 3)), .inr (.inr (1, 17)), .inl (-1), .inl 3, .inl 3, .inl 4, .inl 0, .inl 2, .inl 1, .inl 20, .inl 0, .inl 0, .inl 1]),
  .inr (0, .inl (List.replicate 6 0)),
  .inl (1, [.inr (.inr (1, 19)), .inl 0, .inl 0, .inl 0]),
  .inl (5, [.inr (.inr (1, 3)), .inr (.inr (1, 20)), .inl (-1), .inl 3, .inl 3, .inl 4, .inl 0, .inl 2, .inl 1, .inl 20, .inl 0, .inl 0, .inl 1]),
  .inr (0, .inl (List.replicate 6 0)),
  .inl (2, [.inr (.inr (1, 22)), .inr (.inr (1, 23)), .inr (.inr (1, 24)), .inl 0, .inl 0, .inl (-1), .inl 0, .inl 0]),
  .inr (3, .inr (.inr [some 25, some 27, some 29, some 31, some 33])),
  .inr (0, .inl (List.replicate 4 0)),
  .inr (0, .inl (List.replicate 4 0)),
  .inl (5, [.inr (.inr (1, 3)), .inr (.inr (1, 26)), .inl (-1), .inl 3, .inl 3, .inl 4, .inl 0, .inl 2, .inl 1, .inl 20, .inl 0, .inl 0, .inl 1]),
  .inr (0, .inl (List.replicate 6 0)),
  .inl (5, [.inr (.inr (1, 3)), .inr (.inr (1, 28)), .inl (-1), .inl 3, .inl 3, .inl 4, .inl 0, .inl 2, .inl 1, .inl 20, .inl 0, .inl 0, .inl 1]),
  .inr (0, .inl (List.replicate 6 0)),
  .inl (5, [.inr (.inr (1, 3)), .inr (.inr (1, 30)), .inl (-1), .inl 3, .inl 3, .inl 4, .inl 0, .inl 2, .inl 1, .inl 20, .inl 0, .inl 0, .inl 1]),
  .inr (0, .inl (List.replicate 6 0)),
  .inl (5, [.inr (.inr (1, 3)), .inr (.inr (1, 32)), .inl (-1), .inl 3, .inl 3, .inl 4, .inl 0, .inl 2, .inl 1, .inl 20, .inl 0, .inl 0, .inl 1]),
  .inr (0, .inl (List.replicate 6 0)),
  .inl (5, [.inr (.inr (1, 3)), .inr (.inr (1, 34)), .inl (-1), .inl 3, .inl 3, .inl 4, .inl 0, .inl 2, .inl 1, .inl 20, .inl 0, .inl 0, .inl 1]),
  .inr (0, .inl (List.replicate 6 0)),
  .inl (4, [.inr (.inr (0, 0)), .inr (.inr (0, 0)), .inl 0, .inl 0, .inl 0, .inl 0, .inl 0])], 35, 343)
set_option maxRecDepth 1000000 in
theorem zx_bx6_ok : zx_seq (zx_it (zx_m 67) 8 zx_bx5) zx_bx6 = true := by decide +kernel
def zx_bx7 : zx_S := (125, [some (.inr (.inr (1, 0))), none], [], [.inl (7, [.inr (.inr (1, 1)), .inr (.inr (1, 2)), .inr (.inr (1, 9)), .inr (.inr (1, 16)), .inr (.inr (1, 18)), .inr (.inr (1, 21)), .inr (.inr (1, 35)), .inr (.inr (1, 44)), .inr (.inr (0, 0)), .inl 0, .inl 0]),
  .inr (2, .inr (.inr [none, none, none, none, none, none, none, none])),
  .inl (5, [.inr (.inr (1, 3)), .inr (.inr (1, 8)), .inl (-1), .inl 3, .inl 3, .inl 4, .inl 0, .inl 2, .inl 1, .inl 20, .inl 0, .inl 0, .inl 1]),
  .inl (6, [.inr (.inr (1, 4)), .inr (.inr (1, 5)), .inr (.inr (1, 6)), .inr (.inr (1, 7)), .inl 0, .inl 0]),
  .inr (0, .inl (List.replicate 24 0)),
  .inr (0, .inl (List.replicate 24 0)),
  .inr (0, .inl (List.replicate 6 0)),
  .inr (0, .inl (List.replicate 6 0)),
  .inr (0, .inl (List.replicate 6 0)),
  .inl (5, [.inr (.inr (1, 10)), .inr (.inr (1, 15)), .inl (-1), .inl 3, .inl 3, .inl 4, .inl 0, .inl 2, .inl 1, .inl 20, .inl 0, .inl 0, .inl 1]),
  .inl (6, [.inr (.inr (1, 11)), .inr (.inr (1, 12)), .inr (.inr (1, 13)), .inr (.inr (1, 14)), .inl 0, .inl 0]),
  .inr (0, .inl (List.replicate 24 0)),
  .inr (0, .inl (List.replicate 24 0)),
  .inr (0, .inl (List.replicate 6 0)),
  .inr (0, .inl (List.replicate 6 0)),
  .inr (0, .inl (List.replicate 6 0)),
  .inl (5, [.inr (.inr (1, 3)), .inr (.inr (1, 17)), .inl (-1), .inl 3, .inl 3, .inl 4, .inl 0, .inl 2, .inl 1, .inl 20, .inl 0, .inl 0, .inl 1]),
  .inr (0, .inl (List.replicate 6 0)),
  .inl (1, [.inr (.inr (1, 19)), .inl 0, .inl 0, .inl 0]),
  .inl (5, [.inr (.inr (1, 3)), .inr (.inr (1, 20)), .inl (-1), .inl 3, .inl 3, .inl 4, .inl 0, .inl 2, .inl 1, .inl 20, .inl 0, .inl 0, .inl 1]),
  .inr (0, .inl (List.replicate 6 0)),
  .inl (2, [.inr (.inr (1, 22)), .inr (.inr (1, 23)), .inr (.inr (1, 24)), .inl 0, .inl 0, .inl (-1), .inl 0, .inl 0]),
  .inr (3, .inr (.inr [some 25, some 27, some 29, some 31, some 33])),
  .inr (0, .inl (List.replicate 4 0)),
  .inr (0, .inl (List.replicate 4 0)),
  .inl (5, [.inr (.inr (1, 3)), .inr (.inr (1, 26)), .inl (-1), .inl 3, .inl 3, .inl 4, .inl 0, .inl 2, .inl 1, .inl 20, .inl 0, .inl 0, .inl 1]),
  .inr (0, .inl (List.replicate 6 0)),
  .inl (5, [.inr (.inr (1, 3)), .inr (.inr (1, 28)), .inl (-1), .inl 3, .inl 3, .inl 4, .inl 0, .inl 2, .inl 1, .inl 20, .inl 0, .inl 0, .inl 1]),
  .inr (0, .inl (List.replicate 6 0)),
  .inl (5, [.inr (.inr (1, 3)), .inr (.inr (1, 30)), .inl (-1), .inl 3, .inl 3, .inl 4, .inl 0, .inl 2, .inl 1, .inl 20, .inl 0, .inl 0, .inl 1]),
  .inr (0, .inl (List.replicate 6 0)),
  .inl (5, [.inr (.inr (1, 3)), .inr (.inr (1, 32)), .inl (-1), .inl 3, .inl 3, .inl 4, .inl 0, .inl 2, .inl 1, .inl 20, .inl 0, .inl 0, .inl 1]),
  .inr (0, .inl (List.replicate 6 0)),
  .inl (5, [.inr (.inr (1, 3)), .inr (.inr (1, 34)), .inl (-1), .inl 3, .inl 3, .inl 4, .inl 0, .inl 2, .inl 1, .inl 20, .inl 0, .inl 0, .inl 1]),
  .inr (0, .inl (List.replicate 6 0)),
  .inl (4, [.inr (.inr (1, 36)), .inr (.inr (1, 43)), .inl 0, .inl 0, .inl 0, .inl 0, .inl (-1)]),
  .inl (5, [.inr (.inr (1, 37)), .inr (.inr (1, 42)), .inl (-1), .inl 3, .inl 3, .inl 4, .inl 0, .inl 2, .inl 1, .inl 20, .inl 0, .inl 0, .inl 1]),
  .inl (6, [.inr (.inr (1, 38)), .inr (.inr (1, 39)), .inr (.inr (1, 40)), .inr (.inr (1, 41)), .inl 0, .inl 0]),
  .inr (0, .inl (List.replicate 24 0)),
  .inr (0, .inl (List.replicate 24 0)),
  .inr (0, .inl (List.replicate 6 0)),
  .inr (0, .inl (List.replicate 6 0)),
  .inr (0, .inl (List.replicate 6 0)),
  .inr (0, .inl (List.replicate 160 0)),
  .inl (0, [.inr (.inr (1, 45)), .inl 0, .inl 0, .inl 0, .inl 0]),
  .inr (0, .inl (List.replicate 20 0))], 45, 613)
set_option maxRecDepth 1000000 in
theorem zx_bx7_ok : zx_seq (zx_it (zx_m 67) 8 zx_bx6) zx_bx7 = true := by decide +kernel
def zx_bx8 : zx_S := (139, [some (.inr (.inr (1, 0))), none], [.inr (.inr (1, 0))], [.inl (7, [.inr (.inr (1, 1)), .inr (.inr (1, 2)), .inr (.inr (1, 9)), .inr (.inr (1, 16)), .inr (.inr (1, 18)), .inr (.inr (1, 21)), .inr (.inr (1, 35)), .inr (.inr (1, 44)), .inr (.inr (1, 46)), .inl 0, .inl 0]),
  .inr (2, .inr (.inr [none, none, none, none, none, none, none, none])),
  .inl (5, [.inr (.inr (1, 3)), .inr (.inr (1, 8)), .inl (-1), .inl 3, .inl 3, .inl 4, .inl 0, .inl 2, .inl 1, .inl 20, .inl 0, .inl 0, .inl 1]),
  .inl (6, [.inr (.inr (1, 4)), .inr (.inr (1, 5)), .inr (.inr (1, 6)), .inr (.inr (1, 7)), .inl 0, .inl 0]),
  .inr (0, .inl (List.replicate 24 0)),
  .inr (0, .inl (List.replicate 24 0)),
  .inr (0, .inl (List.replicate 6 0)),
  .inr (0, .inl (List.replicate 6 0)),
  .inr (0, .inl (List.replicate 6 0)),
  .inl (5, [.inr (.inr (1, 10)), .inr (.inr (1, 15)), .inl (-1), .inl 3, .inl 3, .inl 4, .inl 0, .inl 2, .inl 1, .inl 20, .inl 0, .inl 0, .inl 1]),
  .inl (6, [.inr (.inr (1, 11)), .inr (.inr (1, 12)), .inr (.inr (1, 13)), .inr (.inr (1, 14)), .inl 0, .inl 0]),
  .inr (0, .inl (List.replicate 24 0)),
  .inr (0, .inl (List.replicate 24 0)),
  .inr (0, .inl (List.replicate 6 0)),
  .inr (0, .inl (List.replicate 6 0)),
  .inr (0, .inl (List.replicate 6 0)),
  .inl (5, [.inr (.inr (1, 3)), .inr (.inr (1, 17)), .inl (-1), .inl 3, .inl 3, .inl 4, .inl 0, .inl 2, .inl 1, .inl 20, .inl 0, .inl 0, .inl 1]),
  .inr (0, .inl (List.replicate 6 0)),
  .inl (1, [.inr (.inr (1, 19)), .inl 0, .inl 0, .inl 0]),
  .inl (5, [.inr (.inr (1, 3)), .inr (.inr (1, 20)), .inl (-1), .inl 3, .inl 3, .inl 4, .inl 0, .inl 2, .inl 1, .inl 20, .inl 0, .inl 0, .inl 1]),
  .inr (0, .inl (List.replicate 6 0)),
  .inl (2, [.inr (.inr (1, 22)), .inr (.inr (1, 23)), .inr (.inr (1, 24)), .inl 0, .inl 0, .inl (-1), .inl 0, .inl 0]),
  .inr (3, .inr (.inr [some 25, some 27, some 29, some 31, some 33])),
  .inr (0, .inl (List.replicate 4 0)),
  .inr (0, .inl (List.replicate 4 0)),
  .inl (5, [.inr (.inr (1, 3)), .inr (.inr (1, 26)), .inl (-1), .inl 3, .inl 3, .inl 4, .inl 0, .inl 2, .inl 1, .inl 20, .inl 0, .inl 0, .inl 1]),
  .inr (0, .inl (List.replicate 6 0)),
  .inl (5, [.inr (.inr (1, 3)), .inr (.inr (1, 28)), .inl (-1), .inl 3, .inl 3, .inl 4, .inl 0, .inl 2, .inl 1, .inl 20, .inl 0, .inl 0, .inl 1]),
  .inr (0, .inl (List.replicate 6 0)),
  .inl (5, [.inr (.inr (1, 3)), .inr (.inr (1, 30)), .inl (-1), .inl 3, .inl 3, .inl 4, .inl 0, .inl 2, .inl 1, .inl 20, .inl 0, .inl 0, .inl 1]),
  .inr (0, .inl (List.replicate 6 0)),
  .inl (5, [.inr (.inr (1, 3)), .inr (.inr (1, 32)), .inl (-1), .inl 3, .inl 3, .inl 4, .inl 0, .inl 2, .inl 1, .inl 20, .inl 0, .inl 0, .inl 1]),
  .inr (0, .inl (List.replicate 6 0)),
  .inl (5, [.inr (.inr (1, 3)), .inr (.inr (1, 34)), .inl (-1), .inl 3, .inl 3, .inl 4, .inl 0, .inl 2, .inl 1, .inl 20, .inl 0, .inl 0, .inl 1]),
  .inr (0, .inl (List.replicate 6 0)),
  .inl (4, [.inr (.inr (1, 36)), .inr (.inr (1, 43)), .inl 0, .inl 0, .inl 0, .inl 0, .inl (-1)]),
  .inl (5, [.inr (.inr (1, 37)), .inr (.inr (1, 42)), .inl (-1), .inl 3, .inl 3, .inl 4, .inl 0, .inl 2, .inl 1, .inl 20, .inl 0, .inl 0, .inl 1]),
  .inl (6, [.inr (.inr (1, 38)), .inr (.inr (1, 39)), .inr (.inr (1, 40)), .inr (.inr (1, 41)), .inl 0, .inl 0]),
  .inr (0, .inl (List.replicate 24 0)),
  .inr (0, .inl (List.replicate 24 0)),
  .inr (0, .inl (List.replicate 6 0)),
  .inr (0, .inl (List.replicate 6 0)),
  .inr (0, .inl (List.replicate 6 0)),
  .inr (0, .inl (List.replicate 160 0)),
  .inl (0, [.inr (.inr (1, 45)), .inl 0, .inl 0, .inl 0, .inl 0]),
  .inr (0, .inl (List.replicate 20 0)),
  .inr (0, .inl (List.replicate 8 0))], 46, 621)
set_option maxRecDepth 1000000 in
theorem zx_bx8_ok : zx_seq (zx_it (zx_m 67) 8 zx_bx7) zx_bx8 = true := by decide +kernel
def zx_bx9 : zx_S := (152, [some (.inr (.inr (1, 0))), some (.inl 0)], [.inr (.inr (1, 0))], [.inl (7, [.inr (.inr (1, 1)), .inr (.inr (1, 2)), .inr (.inr (1, 9)), .inr (.inr (1, 16)), .inr (.inr (1, 18)), .inr (.inr (1, 21)), .inr (.inr (1, 35)), .inr (.inr (1, 44)), .inr (.inr (1, 46)), .inl 0, .inl (-1)]),
  .inr (2, .inr (.inr [none, none, none, none, none, none, none, none])),
  .inl (5, [.inr (.inr (1, 3)), .inr (.inr (1, 8)), .inl (-1), .inl 3, .inl 3, .inl 4, .inl 0, .inl 2, .inl 1, .inl 20, .inl 0, .inl 0, .inl 1]),
  .inl (6, [.inr (.inr (1, 4)), .inr (.inr (1, 5)), .inr (.inr (1, 6)), .inr (.inr (1, 7)), .inl 0, .inl 0]),
  .inr (0, .inl (List.replicate 24 0)),
  .inr (0, .inl (List.replicate 24 0)),
  .inr (0, .inl (List.replicate 6 0)),
  .inr (0, .inl (List.replicate 6 0)),
  .inr (0, .inl (List.replicate 6 0)),
  .inl (5, [.inr (.inr (1, 10)), .inr (.inr (1, 15)), .inl (-1), .inl 3, .inl 3, .inl 4, .inl 0, .inl 2, .inl 1, .inl 20, .inl 0, .inl 0, .inl 1]),
  .inl (6, [.inr (.inr (1, 11)), .inr (.inr (1, 12)), .inr (.inr (1, 13)), .inr (.inr (1, 14)), .inl 0, .inl 0]),
  .inr (0, .inl (List.replicate 24 0)),
  .inr (0, .inl (List.replicate 24 0)),
  .inr (0, .inl (List.replicate 6 0)),
  .inr (0, .inl (List.replicate 6 0)),
  .inr (0, .inl (List.replicate 6 0)),
  .inl (5, [.inr (.inr (1, 3)), .inr (.inr (1, 17)), .inl (-1), .inl 3, .inl 3, .inl 4, .inl 0, .inl 2, .inl 1, .inl 20, .inl 0, .inl 0, .inl 1]),
  .inr (0, .inl (List.replicate 6 0)),
  .inl (1, [.inr (.inr (1, 19)), .inl 0, .inl 0, .inl 0]),
  .inl (5, [.inr (.inr (1, 3)), .inr (.inr (1, 20)), .inl (-1), .inl 3, .inl 3, .inl 4, .inl 0, .inl 2, .inl 1, .inl 20, .inl 0, .inl 0, .inl 1]),
  .inr (0, .inl (List.replicate 6 0)),
  .inl (2, [.inr (.inr (1, 22)), .inr (.inr (1, 23)), .inr (.inr (1, 24)), .inl 0, .inl 0, .inl (-1), .inl 0, .inl 0]),
  .inr (3, .inr (.inr [some 25, some 27, some 29, some 31, some 33])),
  .inr (0, .inl (List.replicate 4 0)),
  .inr (0, .inl (List.replicate 4 0)),
  .inl (5, [.inr (.inr (1, 3)), .inr (.inr (1, 26)), .inl (-1), .inl 3, .inl 3, .inl 4, .inl 0, .inl 2, .inl 1, .inl 20, .inl 0, .inl 0, .inl 1]),
  .inr (0, .inl (List.replicate 6 0)),
  .inl (5, [.inr (.inr (1, 3)), .inr (.inr (1, 28)), .inl (-1), .inl 3, .inl 3, .inl 4, .inl 0, .inl 2, .inl 1, .inl 20, .inl 0, .inl 0, .inl 1]),
  .inr (0, .inl (List.replicate 6 0)),
  .inl (5, [.inr (.inr (1, 3)), .inr (.inr (1, 30)), .inl (-1), .inl 3, .inl 3, .inl 4, .inl 0, .inl 2, .inl 1, .inl 20, .inl 0, .inl 0, .inl 1]),
  .inr (0, .inl (List.replicate 6 0)),
  .inl (5, [.inr (.inr (1, 3)), .inr (.inr (1, 32)), .inl (-1), .inl 3, .inl 3, .inl 4, .inl 0, .inl 2, .inl 1, .inl 20, .inl 0, .inl 0, .inl 1]),
  .inr (0, .inl (List.replicate 6 0)),
  .inl (5, [.inr (.inr (1, 3)), .inr (.inr (1, 34)), .inl (-1), .inl 3, .inl 3, .inl 4, .inl 0, .inl 2, .inl 1, .inl 20, .inl 0, .inl 0, .inl 1]),
  .inr (0, .inl (List.replicate 6 0)),
  .inl (4, [.inr (.inr (1, 36)), .inr (.inr (1, 43)), .inl 0, .inl 0, .inl 0, .inl 0, .inl (-1)]),
  .inl (5, [.inr (.inr (1, 37)), .inr (.inr (1, 42)), .inl (-1), .inl 3, .inl 3, .inl 4, .inl 0, .inl 2, .inl 1, .inl 20, .inl 0, .inl 0, .inl 1]),
  .inl (6, [.inr (.inr (1, 38)), .inr (.inr (1, 39)), .inr (.inr (1, 40)), .inr (.inr (1, 41)), .inl 0, .inl 0]),
  .inr (0, .inl (List.replicate 24 0)),
  .inr (0, .inl (List.replicate 24 0)),
  .inr (0, .inl (List.replicate 6 0)),
  .inr (0, .inl (List.replicate 6 0)),
  .inr (0, .inl (List.replicate 6 0)),
  .inr (0, .inl (List.replicate 160 0)),
  .inl (0, [.inr (.inr (1, 45)), .inl 0, .inl 0, .inl 0, .inl 0]),
  .inr (0, .inl (List.replicate 20 0)),
  .inr (0, .inl (List.replicate 8 0))], 46, 621)
set_option maxRecDepth 1000000 in
theorem zx_bx9_ok : zx_seq (zx_it (zx_m 67) 8 zx_bx8) zx_bx9 = true := by decide +kernel
def zx_bx10 : zx_S := (145, [some (.inr (.inr (1, 0))), some (.inl 1)], [], [.inl (7, [.inr (.inr (1, 1)), .inr (.inr (1, 2)), .inr (.inr (1, 9)), .inr (.inr (1, 16)), .inr (.inr (1, 18)), .inr (.inr (1, 21)), .inr (.inr (1, 35)), .inr (.inr (1, 44)), .inr (.inr (1, 46)), .inl 0, .inl (-1)]),
  .inr (2, .inr (.inr [some 47, none, none, none, none, none, none, none])),
  .inl (5, [.inr (.inr (1, 3)), .inr (.inr (1, 8)), .inl (-1), .inl 3, .inl 3, .inl 4, .inl 0, .inl 2, .inl 1, .inl 20, .inl 0, .inl 0, .inl 1]),
  .inl (6, [.inr (.inr (1, 4)), .inr (.inr (1, 5)), .inr (.inr (1, 6)), .inr (.inr (1, 7)), .inl 0, .inl 0]),
  .inr (0, .inl (List.replicate 24 0)),
  .inr (0, .inl (List.replicate 24 0)),
  .inr (0, .inl (List.replicate 6 0)),
  .inr (0, .inl (List.replicate 6 0)),
  .inr (0, .inl (List.replicate 6 0)),
  .inl (5, [.inr (.inr (1, 10)), .inr (.inr (1, 15)), .inl (-1), .inl 3, .inl 3, .inl 4, .inl 0, .inl 2, .inl 1, .inl 20, .inl 0, .inl 0, .inl 1]),
  .inl (6, [.inr (.inr (1, 11)), .inr (.inr (1, 12)), .inr (.inr (1, 13)), .inr (.inr (1, 14)), .inl 0, .inl 0]),
  .inr (0, .inl (List.replicate 24 0)),
  .inr (0, .inl (List.replicate 24 0)),
  .inr (0, .inl (List.replicate 6 0)),
  .inr (0, .inl (List.replicate 6 0)),
  .inr (0, .inl (List.replicate 6 0)),
  .inl (5, [.inr (.inr (1, 3)), .inr (.inr (1, 17)), .inl (-1), .inl 3, .inl 3, .inl 4, .inl 0, .inl 2, .inl 1, .inl 20, .inl 0, .inl 0, .inl 1]),
  .inr (0, .inl (List.replicate 6 0)),
  .inl (1, [.inr (.inr (1, 19)), .inl 0, .inl 0, .inl 0]),
  .inl (5, [.inr (.inr (1, 3)), .inr (.inr (1, 20)), .inl (-1), .inl 3, .inl 3, .inl 4, .inl 0, .inl 2, .inl 1, .inl 20, .inl 0, .inl 0, .inl 1]),
  .inr (0, .inl (List.replicate 6 0)),
  .inl (2, [.inr (.inr (1, 22)), .inr (.inr (1, 23)), .inr (.inr (1, 24)), .inl 0, .inl 0, .inl (-1), .inl 0, .inl 0]),
  .inr (3, .inr (.inr [some 25, some 27, some 29, some 31, some 33])),
  .inr (0, .inl (List.replicate 4 0)),
  .inr (0, .inl (List.replicate 4 0)),
  .inl (5, [.inr (.inr (1, 3)), .inr (.inr (1, 26)), .inl (-1), .inl 3, .inl 3, .inl 4, .inl 0, .inl 2, .inl 1, .inl 20, .inl 0, .inl 0, .inl 1]),
  .inr (0, .inl (List.replicate 6 0)),
  .inl (5, [.inr (.inr (1, 3)), .inr (.inr (1, 28)), .inl (-1), .inl 3, .inl 3, .inl 4, .inl 0, .inl 2, .inl 1, .inl 20, .inl 0, .inl 0, .inl 1]),
  .inr (0, .inl (List.replicate 6 0)),
  .inl (5, [.inr (.inr (1, 3)), .inr (.inr (1, 30)), .inl (-1), .inl 3, .inl 3, .inl 4, .inl 0, .inl 2, .inl 1, .inl 20, .inl 0, .inl 0, .inl 1]),
  .inr (0, .inl (List.replicate 6 0)),
  .inl (5, [.inr (.inr (1, 3)), .inr (.inr (1, 32)), .inl (-1), .inl 3, .inl 3, .inl 4, .inl 0, .inl 2, .inl 1, .inl 20, .inl 0, .inl 0, .inl 1]),
  .inr (0, .inl (List.replicate 6 0)),
  .inl (5, [.inr (.inr (1, 3)), .inr (.inr (1, 34)), .inl (-1), .inl 3, .inl 3, .inl 4, .inl 0, .inl 2, .inl 1, .inl 20, .inl 0, .inl 0, .inl 1]),
  .inr (0, .inl (List.replicate 6 0)),
  .inl (4, [.inr (.inr (1, 36)), .inr (.inr (1, 43)), .inl 0, .inl 0, .inl 0, .inl 0, .inl (-1)]),
  .inl (5, [.inr (.inr (1, 37)), .inr (.inr (1, 42)), .inl (-1), .inl 3, .inl 3, .inl 4, .inl 0, .inl 2, .inl 1, .inl 20, .inl 0, .inl 0, .inl 1]),
  .inl (6, [.inr (.inr (1, 38)), .inr (.inr (1, 39)), .inr (.inr (1, 40)), .inr (.inr (1, 41)), .inl 0, .inl 0]),
  .inr (0, .inl (List.replicate 24 0)),
  .inr (0, .inl (List.replicate 24 0)),
  .inr (0, .inl (List.replicate 6 0)),
  .inr (0, .inl (List.replicate 6 0)),
  .inr (0, .inl (List.replicate 6 0)),
  .inr (0, .inl (List.replicate 160 0)),
  .inl (0, [.inr (.inr (1, 45)), .inl 0, .inl 0, .inl 0, .inl 0]),
  .inr (0, .inl (List.replicate 20 0)),
  .inr (0, .inl (List.replicate 8 0)),
  .inl (3, [.inr (.inr (1, 48)), .inl (-1), .inl 0]),
  .inr (1, .inr (.inl (List.replicate 160 0)))], 48, 784)
set_option maxRecDepth 1000000 in
theorem zx_bx10_ok : zx_seq (zx_it (zx_m 67) 8 zx_bx9) zx_bx10 = true := by decide +kernel
def zx_bx11 : zx_S := (160, [some (.inr (.inr (1, 0))), some (.inl 1)], [.inr (.inr (1, 49)), .inr (.inr (1, 49)), .inl 1, .inr (.inr (1, 1))], [.inl (7, [.inr (.inr (1, 1)), .inr (.inr (1, 2)), .inr (.inr (1, 9)), .inr (.inr (1, 16)), .inr (.inr (1, 18)), .inr (.inr (1, 21)), .inr (.inr (1, 35)), .inr (.inr (1, 44)), .inr (.inr (1, 46)), .inl 0, .inl (-1)]),
  .inr (2, .inr (.inr [some 47, none, none, none, none, none, none, none])),
  .inl (5, [.inr (.inr (1, 3)), .inr (.inr (1, 8)), .inl (-1), .inl 3, .inl 3, .inl 4, .inl 0, .inl 2, .inl 1, .inl 20, .inl 0, .inl 0, .inl 1]),
  .inl (6, [.inr (.inr (1, 4)), .inr (.inr (1, 5)), .inr (.inr (1, 6)), .inr (.inr (1, 7)), .inl 0, .inl 0]),
  .inr (0, .inl (List.replicate 24 0)),
  .inr (0, .inl (List.replicate 24 0)),
  .inr (0, .inl (List.replicate 6 0)),
  .inr (0, .inl (List.replicate 6 0)),
  .inr (0, .inl (List.replicate 6 0)),
  .inl (5, [.inr (.inr (1, 10)), .inr (.inr (1, 15)), .inl (-1), .inl 3, .inl 3, .inl 4, .inl 0, .inl 2, .inl 1, .inl 20, .inl 0, .inl 0, .inl 1]),
  .inl (6, [.inr (.inr (1, 11)), .inr (.inr (1, 12)), .inr (.inr (1, 13)), .inr (.inr (1, 14)), .inl 0, .inl 0]),
  .inr (0, .inl (List.replicate 24 0)),
  .inr (0, .inl (List.replicate 24 0)),
  .inr (0, .inl (List.replicate 6 0)),
  .inr (0, .inl (List.replicate 6 0)),
  .inr (0, .inl (List.replicate 6 0)),
  .inl (5, [.inr (.inr (1, 3)), .inr (.inr (1, 17)), .inl (-1), .inl 3, .inl 3, .inl 4, .inl 0, .inl 2, .inl 1, .inl 20, .inl 0, .inl 0, .inl 1]),
  .inr (0, .inl (List.replicate 6 0)),
  .inl (1, [.inr (.inr (1, 19)), .inl 0, .inl 0, .inl 0]),
  .inl (5, [.inr (.inr (1, 3)), .inr (.inr (1, 20)), .inl (-1), .inl 3, .inl 3, .inl 4, .inl 0, .inl 2, .inl 1, .inl 20, .inl 0, .inl 0, .inl 1]),
  .inr (0, .inl (List.replicate 6 0)),
  .inl (2, [.inr (.inr (1, 22)), .inr (.inr (1, 23)), .inr (.inr (1, 24)), .inl 0, .inl 0, .inl (-1), .inl 0, .inl 0]),
  .inr (3, .inr (.inr [some 25, some 27, some 29, some 31, some 33])),
  .inr (0, .inl (List.replicate 4 0)),
  .inr (0, .inl (List.replicate 4 0)),
  .inl (5, [.inr (.inr (1, 3)), .inr (.inr (1, 26)), .inl (-1), .inl 3, .inl 3, .inl 4, .inl 0, .inl 2, .inl 1, .inl 20, .inl 0, .inl 0, .inl 1]),
  .inr (0, .inl (List.replicate 6 0)),
  .inl (5, [.inr (.inr (1, 3)), .inr (.inr (1, 28)), .inl (-1), .inl 3, .inl 3, .inl 4, .inl 0, .inl 2, .inl 1, .inl 20, .inl 0, .inl 0, .inl 1]),
  .inr (0, .inl (List.replicate 6 0)),
  .inl (5, [.inr (.inr (1, 3)), .inr (.inr (1, 30)), .inl (-1), .inl 3, .inl 3, .inl 4, .inl 0, .inl 2, .inl 1, .inl 20, .inl 0, .inl 0, .inl 1]),
  .inr (0, .inl (List.replicate 6 0)),
  .inl (5, [.inr (.inr (1, 3)), .inr (.inr (1, 32)), .inl (-1), .inl 3, .inl 3, .inl 4, .inl 0, .inl 2, .inl 1, .inl 20, .inl 0, .inl 0, .inl 1]),
  .inr (0, .inl (List.replicate 6 0)),
  .inl (5, [.inr (.inr (1, 3)), .inr (.inr (1, 34)), .inl (-1), .inl 3, .inl 3, .inl 4, .inl 0, .inl 2, .inl 1, .inl 20, .inl 0, .inl 0, .inl 1]),
  .inr (0, .inl (List.replicate 6 0)),
  .inl (4, [.inr (.inr (1, 36)), .inr (.inr (1, 43)), .inl 0, .inl 0, .inl 0, .inl 0, .inl (-1)]),
  .inl (5, [.inr (.inr (1, 37)), .inr (.inr (1, 42)), .inl (-1), .inl 3, .inl 3, .inl 4, .inl 0, .inl 2, .inl 1, .inl 20, .inl 0, .inl 0, .inl 1]),
  .inl (6, [.inr (.inr (1, 38)), .inr (.inr (1, 39)), .inr (.inr (1, 40)), .inr (.inr (1, 41)), .inl 0, .inl 0]),
  .inr (0, .inl (List.replicate 24 0)),
  .inr (0, .inl (List.replicate 24 0)),
  .inr (0, .inl (List.replicate 6 0)),
  .inr (0, .inl (List.replicate 6 0)),
  .inr (0, .inl (List.replicate 6 0)),
  .inr (0, .inl (List.replicate 160 0)),
  .inl (0, [.inr (.inr (1, 45)), .inl 0, .inl 0, .inl 0, .inl 0]),
  .inr (0, .inl (List.replicate 20 0)),
  .inr (0, .inl (List.replicate 8 0)),
  .inl (3, [.inr (.inr (1, 48)), .inl (-1), .inl 0]),
  .inr (1, .inr (.inl (List.replicate 160 0))),
  .inl (3, [.inr (.inr (0, 0)), .inl 0, .inl 0])], 49, 787)
set_option maxRecDepth 1000000 in
theorem zx_bx11_ok : zx_seq (zx_it (zx_m 67) 8 zx_bx10) zx_bx11 = true := by decide +kernel
def zx_bx12 : zx_S := (152, [some (.inr (.inr (1, 0))), some (.inl 2)], [.inr (.inr (1, 0))], [.inl (7, [.inr (.inr (1, 1)), .inr (.inr (1, 2)), .inr (.inr (1, 9)), .inr (.inr (1, 16)), .inr (.inr (1, 18)), .inr (.inr (1, 21)), .inr (.inr (1, 35)), .inr (.inr (1, 44)), .inr (.inr (1, 46)), .inl 0, .inl (-1)]),
  .inr (2, .inr (.inr [some 47, some 49, none, none, none, none, none, none])),
  .inl (5, [.inr (.inr (1, 3)), .inr (.inr (1, 8)), .inl (-1), .inl 3, .inl 3, .inl 4, .inl 0, .inl 2, .inl 1, .inl 20, .inl 0, .inl 0, .inl 1]),
  .inl (6, [.inr (.inr (1, 4)), .inr (.inr (1, 5)), .inr (.inr (1, 6)), .inr (.inr (1, 7)), .inl 0, .inl 0]),
  .inr (0, .inl (List.replicate 24 0)),
  .inr (0, .inl (List.replicate 24 0)),
  .inr (0, .inl (List.replicate 6 0)),
  .inr (0, .inl (List.replicate 6 0)),
  .inr (0, .inl (List.replicate 6 0)),
  .inl (5, [.inr (.inr (1, 10)), .inr (.inr (1, 15)), .inl (-1), .inl 3, .inl 3, .inl 4, .inl 0, .inl 2, .inl 1, .inl 20, .inl 0, .inl 0, .inl 1]),
  .inl (6, [.inr (.inr (1, 11)), .inr (.inr (1, 12)), .inr (.inr (1, 13)), .inr (.inr (1, 14)), .inl 0, .inl 0]),
  .inr (0, .inl (List.replicate 24 0)),
  .inr (0, .inl (List.replicate 24 0)),
  .inr (0, .inl (List.replicate 6 0)),
  .inr (0, .inl (List.replicate 6 0)),
  .inr (0, .inl (List.replicate 6 0)),
  .inl (5, [.inr (.inr (1, 3)), .inr (.inr (1, 17)), .inl (-1), .inl 3, .inl 3, .inl 4, .inl 0, .inl 2, .inl 1, .inl 20, .inl 0, .inl 0, .inl 1]),
  .inr (0, .inl (List.replicate 6 0)),
  .inl (1, [.inr (.inr (1, 19)), .inl 0, .inl 0, .inl 0]),
  .inl (5, [.inr (.inr (1, 3)), .inr (.inr (1, 20)), .inl (-1), .inl 3, .inl 3, .inl 4, .inl 0, .inl 2, .inl 1, .inl 20, .inl 0, .inl 0, .inl 1]),
  .inr (0, .inl (List.replicate 6 0)),
  .inl (2, [.inr (.inr (1, 22)), .inr (.inr (1, 23)), .inr (.inr (1, 24)), .inl 0, .inl 0, .inl (-1), .inl 0, .inl 0]),
  .inr (3, .inr (.inr [some 25, some 27, some 29, some 31, some 33])),
  .inr (0, .inl (List.replicate 4 0)),
  .inr (0, .inl (List.replicate 4 0)),
  .inl (5, [.inr (.inr (1, 3)), .inr (.inr (1, 26)), .inl (-1), .inl 3, .inl 3, .inl 4, .inl 0, .inl 2, .inl 1, .inl 20, .inl 0, .inl 0, .inl 1]),
  .inr (0, .inl (List.replicate 6 0)),
  .inl (5, [.inr (.inr (1, 3)), .inr (.inr (1, 28)), .inl (-1), .inl 3, .inl 3, .inl 4, .inl 0, .inl 2, .inl 1, .inl 20, .inl 0, .inl 0, .inl 1]),
  .inr (0, .inl (List.replicate 6 0)),
  .inl (5, [.inr (.inr (1, 3)), .inr (.inr (1, 30)), .inl (-1), .inl 3, .inl 3, .inl 4, .inl 0, .inl 2, .inl 1, .inl 20, .inl 0, .inl 0, .inl 1]),
  .inr (0, .inl (List.replicate 6 0)),
  .inl (5, [.inr (.inr (1, 3)), .inr (.inr (1, 32)), .inl (-1), .inl 3, .inl 3, .inl 4, .inl 0, .inl 2, .inl 1, .inl 20, .inl 0, .inl 0, .inl 1]),
  .inr (0, .inl (List.replicate 6 0)),
  .inl (5, [.inr (.inr (1, 3)), .inr (.inr (1, 34)), .inl (-1), .inl 3, .inl 3, .inl 4, .inl 0, .inl 2, .inl 1, .inl 20, .inl 0, .inl 0, .inl 1]),
  .inr (0, .inl (List.replicate 6 0)),
  .inl (4, [.inr (.inr (1, 36)), .inr (.inr (1, 43)), .inl 0, .inl 0, .inl 0, .inl 0, .inl (-1)]),
  .inl (5, [.inr (.inr (1, 37)), .inr (.inr (1, 42)), .inl (-1), .inl 3, .inl 3, .inl 4, .inl 0, .inl 2, .inl 1, .inl 20, .inl 0, .inl 0, .inl 1]),
  .inl (6, [.inr (.inr (1, 38)), .inr (.inr (1, 39)), .inr (.inr (1, 40)), .inr (.inr (1, 41)), .inl 0, .inl 0]),
  .inr (0, .inl (List.replicate 24 0)),
  .inr (0, .inl (List.replicate 24 0)),
  .inr (0, .inl (List.replicate 6 0)),
  .inr (0, .inl (List.replicate 6 0)),
  .inr (0, .inl (List.replicate 6 0)),
  .inr (0, .inl (List.replicate 160 0)),
  .inl (0, [.inr (.inr (1, 45)), .inl 0, .inl 0, .inl 0, .inl 0]),
  .inr (0, .inl (List.replicate 20 0)),
  .inr (0, .inl (List.replicate 8 0)),
  .inl (3, [.inr (.inr (1, 48)), .inl (-1), .inl 0]),
  .inr (1, .inr (.inl (List.replicate 160 0))),
  .inl (3, [.inr (.inr (1, 50)), .inl (-1), .inl 0]),
  .inr (1, .inr (.inl (List.replicate 160 0)))], 50, 947)
set_option maxRecDepth 1000000 in
theorem zx_bx12_ok : zx_seq (zx_it (zx_m 67) 8 zx_bx11) zx_bx12 = true := by decide +kernel
def zx_bx13 : zx_S := (145, [some (.inr (.inr (1, 0))), some (.inl 3)], [], [.inl (7, [.inr (.inr (1, 1)), .inr (.inr (1, 2)), .inr (.inr (1, 9)), .inr (.inr (1, 16)), .inr (.inr (1, 18)), .inr (.inr (1, 21)), .inr (.inr (1, 35)), .inr (.inr (1, 44)), .inr (.inr (1, 46)), .inl 0, .inl (-1)]),
  .inr (2, .inr (.inr [some 47, some 49, some 51, none, none, none, none, none])),
  .inl (5, [.inr (.inr (1, 3)), .inr (.inr (1, 8)), .inl (-1), .inl 3, .inl 3, .inl 4, .inl 0, .inl 2, .inl 1, .inl 20, .inl 0, .inl 0, .inl 1]),
  .inl (6, [.inr (.inr (1, 4)), .inr (.inr (1, 5)), .inr (.inr (1, 6)), .inr (.inr (1, 7)), .inl 0, .inl 0]),
  .inr (0, .inl (List.replicate 24 0)),
  .inr (0, .inl (List.replicate 24 0)),
  .inr (0, .inl (List.replicate 6 0)),
  .inr (0, .inl (List.replicate 6 0)),
  .inr (0, .inl (List.replicate 6 0)),
  .inl (5, [.inr (.inr (1, 10)), .inr (.inr (1, 15)), .inl (-1), .inl 3, .inl 3, .inl 4, .inl 0, .inl 2, .inl 1, .inl 20, .inl 0, .inl 0, .inl 1]),
  .inl (6, [.inr (.inr (1, 11)), .inr (.inr (1, 12)), .inr (.inr (1, 13)), .inr (.inr (1, 14)), .inl 0, .inl 0]),
  .inr (0, .inl (List.replicate 24 0)),
  .inr (0, .inl (List.replicate 24 0)),
  .inr (0, .inl (List.replicate 6 0)),
  .inr (0, .inl (List.replicate 6 0)),
  .inr (0, .inl (List.replicate 6 0)),
  .inl (5, [.inr (.inr (1, 3)), .inr (.inr (1, 17)), .inl (-1), .inl 3, .inl 3, .inl 4, .inl 0, .inl 2, .inl 1, .inl 20, .inl 0, .inl 0, .inl 1]),
  .inr (0, .inl (List.replicate 6 0)),
  .inl (1, [.inr (.inr (1, 19)), .inl 0, .inl 0, .inl 0]),
  .inl (5, [.inr (.inr (1, 3)), .inr (.inr (1, 20)), .inl (-1), .inl 3, .inl 3, .inl 4, .inl 0, .inl 2, .inl 1, .inl 20, .inl 0, .inl 0, .inl 1]),
  .inr (0, .inl (List.replicate 6 0)),
  .inl (2, [.inr (.inr (1, 22)), .inr (.inr (1, 23)), .inr (.inr (1, 24)), .inl 0, .inl 0, .inl (-1), .inl 0, .inl 0]),
  .inr (3, .inr (.inr [some 25, some 27, some 29, some 31, some 33])),
  .inr (0, .inl (List.replicate 4 0)),
  .inr (0, .inl (List.replicate 4 0)),
  .inl (5, [.inr (.inr (1, 3)), .inr (.inr (1, 26)), .inl (-1), .inl 3, .inl 3, .inl 4, .inl 0, .inl 2, .inl 1, .inl 20, .inl 0, .inl 0, .inl 1]),
  .inr (0, .inl (List.replicate 6 0)),
  .inl (5, [.inr (.inr (1, 3)), .inr (.inr (1, 28)), .inl (-1), .inl 3, .inl 3, .inl 4, .inl 0, .inl 2, .inl 1, .inl 20, .inl 0, .inl 0, .inl 1]),
  .inr (0, .inl (List.replicate 6 0)),
  .inl (5, [.inr (.inr (1, 3)), .inr (.inr (1, 30)), .inl (-1), .inl 3, .inl 3, .inl 4, .inl 0, .inl 2, .inl 1, .inl 20, .inl 0, .inl 0, .inl 1]),
  .inr (0, .inl (List.replicate 6 0)),
  .inl (5, [.inr (.inr (1, 3)), .inr (.inr (1, 32)), .inl (-1), .inl 3, .inl 3, .inl 4, .inl 0, .inl 2, .inl 1, .inl 20, .inl 0, .inl 0, .inl 1]),
  .inr (0, .inl (List.replicate 6 0)),
  .inl (5, [.inr (.inr (1, 3)), .inr (.inr (1, 34)), .inl (-1), .inl 3, .inl 3, .inl 4, .inl 0, .inl 2, .inl 1, .inl 20, .inl 0, .inl 0, .inl 1]),
  .inr (0, .inl (List.replicate 6 0)),
  .inl (4, [.inr (.inr (1, 36)), .inr (.inr (1, 43)), .inl 0, .inl 0, .inl 0, .inl 0, .inl (-1)]),
  .inl (5, [.inr (.inr (1, 37)), .inr (.inr (1, 42)), .inl (-1), .inl 3, .inl 3, .inl 4, .inl 0, .inl 2, .inl 1, .inl 20, .inl 0, .inl 0, .inl 1]),
  .inl (6, [.inr (.inr (1, 38)), .inr (.inr (1, 39)), .inr (.inr (1, 40)), .inr (.inr (1, 41)), .inl 0, .inl 0]),
  .inr (0, .inl (List.replicate 24 0)),
  .inr (0, .inl (List.replicate 24 0)),
  .inr (0, .inl (List.replicate 6 0)),
  .inr (0, .inl (List.replicate 6 0)),
  .inr (0, .inl (List.replicate 6 0)),
  .inr (0, .inl (List.replicate 160 0)),
  .inl (0, [.inr (.inr (1, 45)), .inl 0, .inl 0, .inl 0, .inl 0]),
  .inr (0, .inl (List.replicate 20 0)),
  .inr (0, .inl (List.replicate 8 0)),
  .inl (3, [.inr (.inr (1, 48)), .inl (-1), .inl 0]),
  .inr (1, .inr (.inl (List.replicate 160 0))),
  .inl (3, [.inr (.inr (1, 50)), .inl (-1), .inl 0]),
  .inr (1, .inr (.inl (List.replicate 160 0))),
  .inl (3, [.inr (.inr (1, 52)), .inl (-1), .inl 0]),
  .inr (1, .inr (.inl (List.replicate 160 0)))], 52, 1110)
set_option maxRecDepth 1000000 in
theorem zx_bx13_ok : zx_seq (zx_it (zx_m 67) 8 zx_bx12) zx_bx13 = true := by decide +kernel
def zx_bx14 : zx_S := (160, [some (.inr (.inr (1, 0))), some (.inl 3)], [.inr (.inr (1, 53)), .inr (.inr (1, 53)), .inl 3, .inr (.inr (1, 1))], [.inl (7, [.inr (.inr (1, 1)), .inr (.inr (1, 2)), .inr (.inr (1, 9)), .inr (.inr (1, 16)), .inr (.inr (1, 18)), .inr (.inr (1, 21)), .inr (.inr (1, 35)), .inr (.inr (1, 44)), .inr (.inr (1, 46)), .inl 0, .inl (-1)]),
  .inr (2, .inr (.inr [some 47, some 49, some 51, none, none, none, none, none])),
  .inl (5, [.inr (.inr (1, 3)), .inr (.inr (1, 8)), .inl (-1), .inl 3, .inl 3, .inl 4, .inl 0, .inl 2, .inl 1, .inl 20, .inl 0, .inl 0, .inl 1]),
  .inl (6, [.inr (.inr (1, 4)), .inr (.inr (1, 5)), .inr (.inr (1, 6)), .inr (.inr (1, 7)), .inl 0, .inl 0]),
  .inr (0, .inl (List.replicate 24 0)),
  .inr (0, .inl (List.replicate 24 0)),
  .inr (0, .inl (List.replicate 6 0)),
  .inr (0, .inl (List.replicate 6 0)),
  .inr (0, .inl (List.replicate 6 0)),
  .inl (5, [.inr (.inr (1, 10)), .inr (.inr (1, 15)), .inl (-1), .inl 3, .inl 3, .inl 4, .inl 0, .inl 2, .inl 1, .inl 20, .inl 0, .inl 0, .inl 1]),
  .inl (6, [.inr (.inr (1, 11)), .inr (.inr (1, 12)), .inr (.inr (1, 13)), .inr (.inr (1, 14)), .inl 0, .inl 0]),
  .inr (0, .inl (List.replicate 24 0)),
  .inr (0, .inl (List.replicate 24 0)),
  .inr (0, .inl (List.replicate 6 0)),
  .inr (0, .inl (List.replicate 6 0)),
  .inr (0, .inl (List.replicate 6 0)),
  .inl (5, [.inr (.inr (1, 3)), .inr (.inr (1, 17)), .inl (-1), .inl 3, .inl 3, .inl 4, .inl 0, .inl 2, .inl 1, .inl 20, .inl 0, .inl 0, .inl 1]),
  .inr (0, .inl (List.replicate 6 0)),
  .inl (1, [.inr (.inr (1, 19)), .inl 0, .inl 0, .inl 0]),
  .inl (5, [.inr (.inr (1, 3)), .inr (.inr (1, 20)), .inl (-1), .inl 3, .inl 3, .inl 4, .inl 0, .inl 2, .inl 1, .inl 20, .inl 0, .inl 0, .inl 1]),
  .inr (0, .inl (List.replicate 6 0)),
  .inl (2, [.inr (.inr (1, 22)), .inr (.inr (1, 23)), .inr (.inr (1, 24)), .inl 0, .inl 0, .inl (-1), .inl 0, .inl 0]),
  .inr (3, .inr (.inr [some 25, some 27, some 29, some 31, some 33])),
  .inr (0, .inl (List.replicate 4 0)),
  .inr (0, .inl (List.replicate 4 0)),
  .inl (5, [.inr (.inr (1, 3)), .inr (.inr (1, 26)), .inl (-1), .inl 3, .inl 3, .inl 4, .inl 0, .inl 2, .inl 1, .inl 20, .inl 0, .inl 0, .inl 1]),
  .inr (0, .inl (List.replicate 6 0)),
  .inl (5, [.inr (.inr (1, 3)), .inr (.inr (1, 28)), .inl (-1), .inl 3, .inl 3, .inl 4, .inl 0, .inl 2, .inl 1, .inl 20, .inl 0, .inl 0, .inl 1]),
  .inr (0, .inl (List.replicate 6 0)),
  .inl (5, [.inr (.inr (1, 3)), .inr (.inr (1, 30)), .inl (-1), .inl 3, .inl 3, .inl 4, .inl 0, .inl 2, .inl 1, .inl 20, .inl 0, .inl 0, .inl 1]),
  .inr (0, .inl (List.replicate 6 0)),
  .inl (5, [.inr (.inr (1, 3)), .inr (.inr (1, 32)), .inl (-1), .inl 3, .inl 3, .inl 4, .inl 0, .inl 2, .inl 1, .inl 20, .inl 0, .inl 0, .inl 1]),
  .inr (0, .inl (List.replicate 6 0)),
  .inl (5, [.inr (.inr (1, 3)), .inr (.inr (1, 34)), .inl (-1), .inl 3, .inl 3, .inl 4, .inl 0, .inl 2, .inl 1, .inl 20, .inl 0, .inl 0, .inl 1]),
  .inr (0, .inl (List.replicate 6 0)),
  .inl (4, [.inr (.inr (1, 36)), .inr (.inr (1, 43)), .inl 0, .inl 0, .inl 0, .inl 0, .inl (-1)]),
  .inl (5, [.inr (.inr (1, 37)), .inr (.inr (1, 42)), .inl (-1), .inl 3, .inl 3, .inl 4, .inl 0, .inl 2, .inl 1, .inl 20, .inl 0, .inl 0, .inl 1]),
  .inl (6, [.inr (.inr (1, 38)), .inr (.inr (1, 39)), .inr (.inr (1, 40)), .inr (.inr (1, 41)), .inl 0, .inl 0]),
  .inr (0, .inl (List.replicate 24 0)),
  .inr (0, .inl (List.replicate 24 0)),
  .inr (0, .inl (List.replicate 6 0)),
  .inr (0, .inl (List.replicate 6 0)),
  .inr (0, .inl (List.replicate 6 0)),
  .inr (0, .inl (List.replicate 160 0)),
  .inl (0, [.inr (.inr (1, 45)), .inl 0, .inl 0, .inl 0, .inl 0]),
  .inr (0, .inl (List.replicate 20 0)),
  .inr (0, .inl (List.replicate 8 0)),
  .inl (3, [.inr (.inr (1, 48)), .inl (-1), .inl 0]),
  .inr (1, .inr (.inl (List.replicate 160 0))),
  .inl (3, [.inr (.inr (1, 50)), .inl (-1), .inl 0]),
  .inr (1, .inr (.inl (List.replicate 160 0))),
  .inl (3, [.inr (.inr (1, 52)), .inl (-1), .inl 0]),
  .inr (1, .inr (.inl (List.replicate 160 0))),
  .inl (3, [.inr (.inr (0, 0)), .inl 0, .inl 0])], 53, 1113)
set_option maxRecDepth 1000000 in
theorem zx_bx14_ok : zx_seq (zx_it (zx_m 67) 8 zx_bx13) zx_bx14 = true := by decide +kernel
def zx_bx15 : zx_S := (152, [some (.inr (.inr (1, 0))), some (.inl 4)], [.inr (.inr (1, 0))], [.inl (7, [.inr (.inr (1, 1)), .inr (.inr (1, 2)), .inr (.inr (1, 9)), .inr (.inr (1, 16)), .inr (.inr (1, 18)), .inr (.inr (1, 21)), .inr (.inr (1, 35)), .inr (.inr (1, 44)), .inr (.inr (1, 46)), .inl 0, .inl (-1)]),
  .inr (2, .inr (.inr [some 47, some 49, some 51, some 53, none, none, none, none])),
  .inl (5, [.inr (.inr (1, 3)), .inr (.inr (1, 8)), .inl (-1), .inl 3, .inl 3, .inl 4, .inl 0, .inl 2, .inl 1, .inl 20, .inl 0, .inl 0, .inl 1]),
  .inl (6, [.inr (.inr (1, 4)), .inr (.inr (1, 5)), .inr (.inr (1, 6)), .inr (.inr (1, 7)), .inl 0, .inl 0]),
  .inr (0, .inl (List.replicate 24 0)),
  .inr (0, .inl (List.replicate 24 0)),
  .inr (0, .inl (List.replicate 6 0)),
  .inr (0, .inl (List.replicate 6 0)),
  .inr (0, .inl (List.replicate 6 0)),
  .inl (5, [.inr (.inr (1, 10)), .inr (.inr (1, 15)), .inl (-1), .inl 3, .inl 3, .inl 4, .inl 0, .inl 2, .inl 1, .inl 20, .inl 0, .inl 0, .inl 1]),
  .inl (6, [.inr (.inr (1, 11)), .inr (.inr (1, 12)), .inr (.inr (1, 13)), .inr (.inr (1, 14)), .inl 0, .inl 0]),
  .inr (0, .inl (List.replicate 24 0)),
  .inr (0, .inl (List.replicate 24 0)),
  .inr (0, .inl (List.replicate 6 0)),
  .inr (0, .inl (List.replicate 6 0)),
  .inr (0, .inl (List.replicate 6 0)),
  .inl (5, [.inr (.inr (1, 3)), .inr (.inr (1, 17)), .inl (-1), .inl 3, .inl 3, .inl 4, .inl 0, .inl 2, .inl 1, .inl 20, .inl 0, .inl 0, .inl 1]),
  .inr (0, .inl (List.replicate 6 0)),
  .inl (1, [.inr (.inr (1, 19)), .inl 0, .inl 0, .inl 0]),
  .inl (5, [.inr (.inr (1, 3)), .inr (.inr (1, 20)), .inl (-1), .inl 3, .inl 3, .inl 4, .inl 0, .inl 2, .inl 1, .inl 20, .inl 0, .inl 0, .inl 1]),
  .inr (0, .inl (List.replicate 6 0)),
  .inl (2, [.inr (.inr (1, 22)), .inr (.inr (1, 23)), .inr (.inr (1, 24)), .inl 0, .inl 0, .inl (-1), .inl 0, .inl 0]),
  .inr (3, .inr (.inr [some 25, some 27, some 29, some 31, some 33])),
  .inr (0, .inl (List.replicate 4 0)),
  .inr (0, .inl (List.replicate 4 0)),
  .inl (5, [.inr (.inr (1, 3)), .inr (.inr (1, 26)), .inl (-1), .inl 3, .inl 3, .inl 4, .inl 0, .inl 2, .inl 1, .inl 20, .inl 0, .inl 0, .inl 1]),
  .inr (0, .inl (List.replicate 6 0)),
  .inl (5, [.inr (.inr (1, 3)), .inr (.inr (1, 28)), .inl (-1), .inl 3, .inl 3, .inl 4, .inl 0, .inl 2, .inl 1, .inl 20, .inl 0, .inl 0, .inl 1]),
  .inr (0, .inl (List.replicate 6 0)),
  .inl (5, [.inr (.inr (1, 3)), .inr (.inr (1, 30)), .inl (-1), .inl 3, .inl 3, .inl 4, .inl 0, .inl 2, .inl 1, .inl 20, .inl 0, .inl 0, .inl 1]),
  .inr (0, .inl (List.replicate 6 0)),
  .inl (5, [.inr (.inr (1, 3)), .inr (.inr (1, 32)), .inl (-1), .inl 3, .inl 3, .inl 4, .inl 0, .inl 2, .inl 1, .inl 20, .inl 0, .inl 0, .inl 1]),
  .inr (0, .inl (List.replicate 6 0)),
  .inl (5, [.inr (.inr (1, 3)), .inr (.inr (1, 34)), .inl (-1), .inl 3, .inl 3, .inl 4, .inl 0, .inl 2, .inl 1, .inl 20, .inl 0, .inl 0, .inl 1]),
  .inr (0, .inl (List.replicate 6 0)),
  .inl (4, [.inr (.inr (1, 36)), .inr (.inr (1, 43)), .inl 0, .inl 0, .inl 0, .inl 0, .inl (-1)]),
  .inl (5, [.inr (.inr (1, 37)), .inr (.inr (1, 42)), .inl (-1), .inl 3, .inl 3, .inl 4, .inl 0, .inl 2, .inl 1, .inl 20, .inl 0, .inl 0, .inl 1]),
  .inl (6, [.inr (.inr (1, 38)), .inr (.inr (1, 39)), .inr (.inr (1, 40)), .inr (.inr (1, 41)), .inl 0, .inl 0]),
  .inr (0, .inl (List.replicate 24 0)),
  .inr (0, .inl (List.replicate 24 0)),
  .inr (0, .inl (List.replicate 6 0)),
  .inr (0, .inl (List.replicate 6 0)),
  .inr (0, .inl (List.replicate 6 0)),
  .inr (0, .inl (List.replicate 160 0)),
  .inl (0, [.inr (.inr (1, 45)), .inl 0, .inl 0, .inl 0, .inl 0]),
  .inr (0, .inl (List.replicate 20 0)),
  .inr (0, .inl (List.replicate 8 0)),
  .inl (3, [.inr (.inr (1, 48)), .inl (-1), .inl 0]),
  .inr (1, .inr (.inl (List.replicate 160 0))),
  .inl (3, [.inr (.inr (1, 50)), .inl (-1), .inl 0]),
  .inr (1, .inr (.inl (List.replicate 160 0))),
  .inl (3, [.inr (.inr (1, 52)), .inl (-1), .inl 0]),
  .inr (1, .inr (.inl (List.replicate 160 0))),
  .inl (3, [.inr (.inr (1, 54)), .inl (-1), .inl 0]),
  .inr (1, .inr (.inl (List.replicate 160 0)))], 54, 1273)
set_option maxRecDepth 1000000 in
theorem zx_bx15_ok : zx_seq (zx_it (zx_m 67) 8 zx_bx14) zx_bx15 = true := by decide +kernel
def zx_bx16 : zx_S := (145, [some (.inr (.inr (1, 0))), some (.inl 5)], [], [.inl (7, [.inr (.inr (1, 1)), .inr (.inr (1, 2)), .inr (.inr (1, 9)), .inr (.inr (1, 16)), .inr (.inr (1, 18)), .inr (.inr (1, 21)), .inr (.inr (1, 35)), .inr (.inr (1, 44)), .inr (.inr (1, 46)), .inl 0, .inl (-1)]),
  .inr (2, .inr (.inr [some 47, some 49, some 51, some 53, some 55, none, none, none])),
  .inl (5, [.inr (.inr (1, 3)), .inr (.inr (1, 8)), .inl (-1), .inl 3, .inl 3, .inl 4, .inl 0, .inl 2, .inl 1, .inl 20, .inl 0, .inl 0, .inl 1]),
  .inl (6, [.inr (.inr (1, 4)), .inr (.inr (1, 5)), .inr (.inr (1, 6)), .inr (.inr (1, 7)), .inl 0, .inl 0]),
  .inr (0, .inl (List.replicate 24 0)),
  .inr (0, .inl (List.replicate 24 0)),
  .inr (0, .inl (List.replicate 6 0)),
  .inr (0, .inl (List.replicate 6 0)),
  .inr (0, .inl (List.replicate 6 0)),
  .inl (5, [.inr (.inr (1, 10)), .inr (.inr (1, 15)), .inl (-1), .inl 3, .inl 3, .inl 4, .inl 0, .inl 2, .inl 1, .inl 20, .inl 0, .inl 0, .inl 1]),
  .inl (6, [.inr (.inr (1, 11)), .inr (.inr (1, 12)), .inr (.inr (1, 13)), .inr (.inr (1, 14)), .inl 0, .inl 0]),
  .inr (0, .inl (List.replicate 24 0)),
  .inr (0, .inl (List.replicate 24 0)),
  .inr (0, .inl (List.replicate 6 0)),
  .inr (0, .inl (List.replicate 6 0)),
  .inr (0, .inl (List.replicate 6 0)),
  .inl (5, [.inr (.inr (1, 3)), .inr (.inr (1, 17)), .inl (-1), .inl 3, .inl 3, .inl 4, .inl 0, .inl 2, .inl 1, .inl 20, .inl 0, .inl 0, .inl 1]),
  .inr (0, .inl (List.replicate 6 0)),
  .inl (1, [.inr (.inr (1, 19)), .inl 0, .inl 0, .inl 0]),
  .inl (5, [.inr (.inr (1, 3)), .inr (.inr (1, 20)), .inl (-1), .inl 3, .inl 3, .inl 4, .inl 0, .inl 2, .inl 1, .inl 20, .inl 0, .inl 0, .inl 1]),
  .inr (0, .inl (List.replicate 6 0)),
  .inl (2, [.inr (.inr (1, 22)), .inr (.inr (1, 23)), .inr (.inr (1, 24)), .inl 0, .inl 0, .inl (-1), .inl 0, .inl 0]),
  .inr (3, .inr (.inr [some 25, some 27, some 29, some 31, some 33])),
  .inr (0, .inl (List.replicate 4 0)),
  .inr (0, .inl (List.replicate 4 0)),
  .inl (5, [.inr (.inr (1, 3)), .inr (.inr (1, 26)), .inl (-1), .inl 3, .inl 3, .inl 4, .inl 0, .inl 2, .inl 1, .inl 20, .inl 0, .inl 0, .inl 1]),
  .inr (0, .inl (List.replicate 6 0)),
  .inl (5, [.inr (.inr (1, 3)), .inr (.inr (1, 28)), .inl (-1), .inl 3, .inl 3, .inl 4, .inl 0, .inl 2, .inl 1, .inl 20, .inl 0, .inl 0, .inl 1]),
  .inr (0, .inl (List.replicate 6 0)),
  .inl (5, [.inr (.inr (1, 3)), .inr (.inr (1, 30)), .inl (-1), .inl 3, .inl 3, .inl 4, .inl 0, .inl 2, .inl 1, .inl 20, .inl 0, .inl 0, .inl 1]),
  .inr (0, .inl (List.replicate 6 0)),
  .inl (5, [.inr (.inr (1, 3)), .inr (.inr (1, 32)), .inl (-1), .inl 3, .inl 3, .inl 4, .inl 0, .inl 2, .inl 1, .inl 20, .inl 0, .inl 0, .inl 1]),
  .inr (0, .inl (List.replicate 6 0)),
  .inl (5, [.inr (.inr (1, 3)), .inr (.inr (1, 34)), .inl (-1), .inl 3, .inl 3, .inl 4, .inl 0, .inl 2, .inl 1, .inl 20, .inl 0, .inl 0, .inl 1]),
  .inr (0, .inl (List.replicate 6 0)),
  .inl (4, [.inr (.inr (1, 36)), .inr (.inr (1, 43)), .inl 0, .inl 0, .inl 0, .inl 0, .inl (-1)]),
  .inl (5, [.inr (.inr (1, 37)), .inr (.inr (1, 42)), .inl (-1), .inl 3, .inl 3, .inl 4, .inl 0, .inl 2, .inl 1, .inl 20, .inl 0, .inl 0, .inl 1]),
  .inl (6, [.inr (.inr (1, 38)), .inr (.inr (1, 39)), .inr (.inr (1, 40)), .inr (.inr (1, 41)), .inl 0, .inl 0]),
  .inr (0, .inl (List.replicate 24 0)),
  .inr (0, .inl (List.replicate 24 0)),
  .inr (0, .inl (List.replicate 6 0)),
  .inr (0, .inl (List.replicate 6 0)),
  .inr (0, .inl (List.replicate 6 0)),
  .inr (0, .inl (List.replicate 160 0)),
  .inl (0, [.inr (.inr (1, 45)), .inl 0, .inl 0, .inl 0, .inl 0]),
  .inr (0, .inl (List.replicate 20 0)),
  .inr (0, .inl (List.replicate 8 0)),
  .inl (3, [.inr (.inr (1, 48)), .inl (-1), .inl 0]),
  .inr (1, .inr (.inl (List.replicate 160 0))),
  .inl (3, [.inr (.inr (1, 50)), .inl (-1), .inl 0]),
  .inr (1, .inr (.inl (List.replicate 160 0))),
  .inl (3, [.inr (.inr (1, 52)), .inl (-1), .inl 0]),
  .inr (1, .inr (.inl (List.replicate 160 0))),
  .inl (3, [.inr (.inr (1, 54)), .inl (-1), .inl 0]),
  .inr (1, .inr (.inl (List.replicate 160 0))),
  .inl (3, [.inr (.inr (1, 56)), .inl (-1), .inl 0]),
  .inr (1, .inr (.inl (List.replicate 160 0)))], 56, 1436)
set_option maxRecDepth 1000000 in
theorem zx_bx16_ok : zx_seq (zx_it (zx_m 67) 8 zx_bx15) zx_bx16 = true := by decide +kernel
def zx_bx17 : zx_S := (160, [some (.inr (.inr (1, 0))), some (.inl 5)], [.inr (.inr (1, 57)), .inr (.inr (1, 57)), .inl 5, .inr (.inr (1, 1))], [.inl (7, [.inr (.inr (1, 1)), .inr (.inr (1, 2)), .inr (.inr (1, 9)), .inr (.inr (1, 16)), .inr (.inr (1, 18)), .inr (.inr (1, 21)), .inr (.inr (1, 35)), .inr (.inr (1, 44)), .inr (.inr (1, 46)), .inl 0, .inl (-1)]),
  .inr (2, .inr (.inr [some 47, some 49, some 51, some 53, some 55, none, none, none])),
  .inl (5, [.inr (.inr (1, 3)), .inr (.inr (1, 8)), .inl (-1), .inl 3, .inl 3, .inl 4, .inl 0, .inl 2, .inl 1, .inl 20, .inl 0, .inl 0, .inl 1]),
  .inl (6, [.inr (.inr (1, 4)), .inr (.inr (1, 5)), .inr (.inr (1, 6)), .inr (.inr (1, 7)), .inl 0, .inl 0]),
  .inr (0, .inl (List.replicate 24 0)),
  .inr (0, .inl (List.replicate 24 0)),
  .inr (0, .inl (List.replicate 6 0)),
  .inr (0, .inl (List.replicate 6 0)),
  .inr (0, .inl (List.replicate 6 0)),
  .inl (5, [.inr (.inr (1, 10)), .inr (.inr (1, 15)), .inl (-1), .inl 3, .inl 3, .inl 4, .inl 0, .inl 2, .inl 1, .inl 20, .inl 0, .inl 0, .inl 1]),
  .inl (6, [.inr (.inr (1, 11)), .inr (.inr (1, 12)), .inr (.inr (1, 13)), .inr (.inr (1, 14)), .inl 0, .inl 0]),
  .inr (0, .inl (List.replicate 24 0)),
  .inr (0, .inl (List.replicate 24 0)),
  .inr (0, .inl (List.replicate 6 0)),
  .inr (0, .inl (List.replicate 6 0)),
  .inr (0, .inl (List.replicate 6 0)),
  .inl (5, [.inr (.inr (1, 3)), .inr (.inr (1, 17)), .inl (-1), .inl 3, .inl 3, .inl 4, .inl 0, .inl 2, .inl 1, .inl 20, .inl 0, .inl 0, .inl 1]),
  .inr (0, .inl (List.replicate 6 0)),
  .inl (1, [.inr (.inr (1, 19)), .inl 0, .inl 0, .inl 0]),
  .inl (5, [.inr (.inr (1, 3)), .inr (.inr (1, 20)), .inl (-1), .inl 3, .inl 3, .inl 4, .inl 0, .inl 2, .inl 1, .inl 20, .inl 0, .inl 0, .inl 1]),
  .inr (0, .inl (List.replicate 6 0)),
  .inl (2, [.inr (.inr (1, 22)), .inr (.inr (1, 23)), .inr (.inr (1, 24)), .inl 0, .inl 0, .inl (-1), .inl 0, .inl 0]),
  .inr (3, .inr (.inr [some 25, some 27, some 29, some 31, some 33])),
  .inr (0, .inl (List.replicate 4 0)),
  .inr (0, .inl (List.replicate 4 0)),
  .inl (5, [.inr (.inr (1, 3)), .inr (.inr (1, 26)), .inl (-1), .inl 3, .inl 3, .inl 4, .inl 0, .inl 2, .inl 1, .inl 20, .inl 0, .inl 0, .inl 1]),
  .inr (0, .inl (List.replicate 6 0)),
  .inl (5, [.inr (.inr (1, 3)), .inr (.inr (1, 28)), .inl (-1), .inl 3, .inl 3, .inl 4, .inl 0, .inl 2, .inl 1, .inl 20, .inl 0, .inl 0, .inl 1]),
  .inr (0, .inl (List.replicate 6 0)),
  .inl (5, [.inr (.inr (1, 3)), .inr (.inr (1, 30)), .inl (-1), .inl 3, .inl 3, .inl 4, .inl 0, .inl 2, .inl 1, .inl 20, .inl 0, .inl 0, .inl 1]),
  .inr (0, .inl (List.replicate 6 0)),
  .inl (5, [.inr (.inr (1, 3)), .inr (.inr (1, 32)), .inl (-1), .inl 3, .inl 3, .inl 4, .inl 0, .inl 2, .inl 1, .inl 20, .inl 0, .inl 0, .inl 1]),
  .inr (0, .inl (List.replicate 6 0)),
  .inl (5, [.inr (.inr (1, 3)), .inr (.inr (1, 34)), .inl (-1), .inl 3, .inl 3, .inl 4, .inl 0, .inl 2, .inl 1, .inl 20, .inl 0, .inl 0, .inl 1]),
  .inr (0, .inl (List.replicate 6 0)),
  .inl (4, [.inr (.inr (1, 36)), .inr (.inr (1, 43)), .inl 0, .inl 0, .inl 0, .inl 0, .inl (-1)]),
  .inl (5, [.inr (.inr (1, 37)), .inr (.inr (1, 42)), .inl (-1), .inl 3, .inl 3, .inl 4, .inl 0, .inl 2, .inl 1, .inl 20, .inl 0, .inl 0, .inl 1]),
  .inl (6, [.inr (.inr (1, 38)), .inr (.inr (1, 39)), .inr (.inr (1, 40)), .inr (.inr (1, 41)), .inl 0, .inl 0]),
  .inr (0, .inl (List.replicate 24 0)),
  .inr (0, .inl (List.replicate 24 0)),
  .inr (0, .inl (List.replicate 6 0)),
  .inr (0, .inl (List.replicate 6 0)),
  .inr (0, .inl (List.replicate 6 0)),
  .inr (0, .inl (List.replicate 160 0)),
  .inl (0, [.inr (.inr (1, 45)), .inl 0, .inl 0, .inl 0, .inl 0]),
  .inr (0, .inl (List.replicate 20 0)),
  .inr (0, .inl (List.replicate 8 0)),
  .inl (3, [.inr (.inr (1, 48)), .inl (-1), .inl 0]),
  .inr (1, .inr (.inl (List.replicate 160 0))),
  .inl (3, [.inr (.inr (1, 50)), .inl (-1), .inl 0]),
  .inr (1, .inr (.inl (List.replicate 160 0))),
  .inl (3, [.inr (.inr (1, 52)), .inl (-1), .inl 0]),
  .inr (1, .inr (.inl (List.replicate 160 0))),
  .inl (3, [.inr (.inr (1, 54)), .inl (-1), .inl 0]),
  .inr (1, .inr (.inl (List.replicate 160 0))),
  .inl (3, [.inr (.inr (1, 56)), .inl (-1), .inl 0]),
  .inr (1, .inr (.inl (List.replicate 160 0))),
  .inl (3, [.inr (.inr (0, 0)), .inl 0, .inl 0])], 57, 1439)
set_option maxRecDepth 1000000 in
theorem zx_bx17_ok : zx_seq (zx_it (zx_m 67) 8 zx_bx16) zx_bx17 = true := by decide +kernel
def zx_bx18 : zx_S := (152, [some (.inr (.inr (1, 0))), some (.inl 6)], [.inr (.inr (1, 0))], [.inl (7, [.inr (.inr (1, 1)), .inr (.inr (1, 2)), .inr (.inr (1, 9)), .inr (.inr (1, 16)), .inr (.inr (1, 18)), .inr (.inr (1, 21)), .inr (.inr (1, 35)), .inr (.inr (1, 44)), .inr (.inr (1, 46)), .inl 0, .inl (-1)]),
  .inr (2, .inr (.inr [some 47, some 49, some 51, some 53, some 55, some 57, none, none])),
  .inl (5, [.inr (.inr (1, 3)), .inr (.inr (1, 8)), .inl (-1), .inl 3, .inl 3, .inl 4, .inl 0, .inl 2, .inl 1, .inl 20, .inl 0, .inl 0, .inl 1]),
  .inl (6, [.inr (.inr (1, 4)), .inr (.inr (1, 5)), .inr (.inr (1, 6)), .inr (.inr (1, 7)), .inl 0, .inl 0]),
  .inr (0, .inl (List.replicate 24 0)),
  .inr (0, .inl (List.replicate 24 0)),
  .inr (0, .inl (List.replicate 6 0)),
  .inr (0, .inl (List.replicate 6 0)),
  .inr (0, .inl (List.replicate 6 0)),
  .inl (5, [.inr (.inr (1, 10)), .inr (.inr (1, 15)), .inl (-1), .inl 3, .inl 3, .inl 4, .inl 0, .inl 2, .inl 1, .inl 20, .inl 0, .inl 0, .inl 1]),
  .inl (6, [.inr (.inr (1, 11)), .inr (.inr (1, 12)), .inr (.inr (1, 13)), .inr (.inr (1, 14)), .inl 0, .inl 0]),
  .inr (0, .inl (List.replicate 24 0)),
  .inr (0, .inl (List.replicate 24 0)),
  .inr (0, .inl (List.replicate 6 0)),
  .inr (0, .inl (List.replicate 6 0)),
  .inr (0, .inl (List.replicate 6 0)),
  .inl (5, [.inr (.inr (1, 3)), .inr (.inr (1, 17)), .inl (-1), .inl 3, .inl 3, .inl 4, .inl 0, .inl 2, .inl 1, .inl 20, .inl 0, .inl 0, .inl 1]),
  .inr (0, .inl (List.replicate 6 0)),
  .inl (1, [.inr (.inr (1, 19)), .inl 0, .inl 0, .inl 0]),
  .inl (5, [.inr (.inr (1, 3)), .inr (.inr (1, 20)), .inl (-1), .inl 3, .inl 3, .inl 4, .inl 0, .inl 2, .inl 1, .inl 20, .inl 0, .inl 0, .inl 1]),
  .inr (0, .inl (List.replicate 6 0)),
  .inl (2, [.inr (.inr (1, 22)), .inr (.inr (1, 23)), .inr (.inr (1, 24)), .inl 0, .inl 0, .inl (-1), .inl 0, .inl 0]),
  .inr (3, .inr (.inr [some 25, some 27, some 29, some 31, some 33])),
  .inr (0, .inl (List.replicate 4 0)),
  .inr (0, .inl (List.replicate 4 0)),
  .inl (5, [.inr (.inr (1, 3)), .inr (.inr (1, 26)), .inl (-1), .inl 3, .inl 3, .inl 4, .inl 0, .inl 2, .inl 1, .inl 20, .inl 0, .inl 0, .inl 1]),
  .inr (0, .inl (List.replicate 6 0)),
  .inl (5, [.inr (.inr (1, 3)), .inr (.inr (1, 28)), .inl (-1), .inl 3, .inl 3, .inl 4, .inl 0, .inl 2, .inl 1, .inl 20, .inl 0, .inl 0, .inl 1]),
  .inr (0, .inl (List.replicate 6 0)),
  .inl (5, [.inr (.inr (1, 3)), .inr (.inr (1, 30)), .inl (-1), .inl 3, .inl 3, .inl 4, .inl 0, .inl 2, .inl 1, .inl 20, .inl 0, .inl 0, .inl 1]),
  .inr (0, .inl (List.replicate 6 0)),
  .inl (5, [.inr (.inr (1, 3)), .inr (.inr (1, 32)), .inl (-1), .inl 3, .inl 3, .inl 4, .inl 0, .inl 2, .inl 1, .inl 20, .inl 0, .inl 0, .inl 1]),
  .inr (0, .inl (List.replicate 6 0)),
  .inl (5, [.inr (.inr (1, 3)), .inr (.inr (1, 34)), .inl (-1), .inl 3, .inl 3, .inl 4, .inl 0, .inl 2, .inl 1, .inl 20, .inl 0, .inl 0, .inl 1]),
  .inr (0, .inl (List.replicate 6 0)),
  .inl (4, [.inr (.inr (1, 36)), .inr (.inr (1, 43)), .inl 0, .inl 0, .inl 0, .inl 0, .inl (-1)]),
  .inl (5, [.inr (.inr (1, 37)), .inr (.inr (1, 42)), .inl (-1), .inl 3, .inl 3, .inl 4, .inl 0, .inl 2, .inl 1, .inl 20, .inl 0, .inl 0, .inl 1]),
  .inl (6, [.inr (.inr (1, 38)), .inr (.inr (1, 39)), .inr (.inr (1, 40)), .inr (.inr (1, 41)), .inl 0, .inl 0]),
  .inr (0, .inl (List.replicate 24 0)),
  .inr (0, .inl (List.replicate 24 0)),
  .inr (0, .inl (List.replicate 6 0)),
  .inr (0, .inl (List.replicate 6 0)),
  .inr (0, .inl (List.replicate 6 0)),
  .inr (0, .inl (List.replicate 160 0)),
  .inl (0, [.inr (.inr (1, 45)), .inl 0, .inl 0, .inl 0, .inl 0]),
  .inr (0, .inl (List.replicate 20 0)),
  .inr (0, .inl (List.replicate 8 0)),
  .inl (3, [.inr (.inr (1, 48)), .inl (-1), .inl 0]),
  .inr (1, .inr (.inl (List.replicate 160 0))),
  .inl (3, [.inr (.inr (1, 50)), .inl (-1), .inl 0]),
  .inr (1, .inr (.inl (List.replicate 160 0))),
  .inl (3, [.inr (.inr (1, 52)), .inl (-1), .inl 0]),
  .inr (1, .inr (.inl (List.replicate 160 0))),
  .inl (3, [.inr (.inr (1, 54)), .inl (-1), .inl 0]),
  .inr (1, .inr (.inl (List.replicate 160 0))),
  .inl (3, [.inr (.inr (1, 56)), .inl (-1), .inl 0]),
  .inr (1, .inr (.inl (List.replicate 160 0))),
  .inl (3, [.inr (.inr (1, 58)), .inl (-1), .inl 0]),
  .inr (1, .inr (.inl (List.replicate 160 0)))], 58, 1599)
set_option maxRecDepth 1000000 in
theorem zx_bx18_ok : zx_seq (zx_it (zx_m 67) 8 zx_bx17) zx_bx18 = true := by decide +kernel
def zx_bx19 : zx_S := (145, [some (.inr (.inr (1, 0))), some (.inl 7)], [], [.inl (7, [.inr (.inr (1, 1)), .inr (.inr (1, 2)), .inr (.inr (1, 9)), .inr (.inr (1, 16)), .inr (.inr (1, 18)), .inr (.inr (1, 21)), .inr (.inr (1, 35)), .inr (.inr (1, 44)), .inr (.inr (1, 46)), .inl 0, .inl (-1)]),
  .inr (2, .inr (.inr [some 47, some 49, some 51, some 53, some 55, some 57, some 59, none])),
  .inl (5, [.inr (.inr (1, 3)), .inr (.inr (1, 8)), .inl (-1), .inl 3, .inl 3, .inl 4, .inl 0, .inl 2, .inl 1, .inl 20, .inl 0, .inl 0, .inl 1]),
  .inl (6, [.inr (.inr (1, 4)), .inr (.inr (1, 5)), .inr (.inr (1, 6)), .inr (.inr (1, 7)), .inl 0, .inl 0]),
  .inr (0, .inl (List.replicate 24 0)),
  .inr (0, .inl (List.replicate 24 0)),
  .inr (0, .inl (List.replicate 6 0)),
  .inr (0, .inl (List.replicate 6 0)),
  .inr (0, .inl (List.replicate 6 0)),
  .inl (5, [.inr (.inr (1, 10)), .inr (.inr (1, 15)), .inl (-1), .inl 3, .inl 3, .inl 4, .inl 0, .inl 2, .inl 1, .inl 20, .inl 0, .inl 0, .inl 1]),
  .inl (6, [.inr (.inr (1, 11)), .inr (.inr (1, 12)), .inr (.inr (1, 13)), .inr (.inr (1, 14)), .inl 0, .inl 0]),
  .inr (0, .inl (List.replicate 24 0)),
  .inr (0, .inl (List.replicate 24 0)),
  .inr (0, .inl (List.replicate 6 0)),
  .inr (0, .inl (List.replicate 6 0)),
  .inr (0, .inl (List.replicate 6 0)),
  .inl (5, [.inr (.inr (1, 3)), .inr (.inr (1, 17)), .inl (-1), .inl 3, .inl 3, .inl 4, .inl 0, .inl 2, .inl 1, .inl 20, .inl 0, .inl 0, .inl 1]),
  .inr (0, .inl (List.replicate 6 0)),
  .inl (1, [.inr (.inr (1, 19)), .inl 0, .inl 0, .inl 0]),
  .inl (5, [.inr (.inr (1, 3)), .inr (.inr (1, 20)), .inl (-1), .inl 3, .inl 3, .inl 4, .inl 0, .inl 2, .inl 1, .inl 20, .inl 0, .inl 0, .inl 1]),
  .inr (0, .inl (List.replicate 6 0)),
  .inl (2, [.inr (.inr (1, 22)), .inr (.inr (1, 23)), .inr (.inr (1, 24)), .inl 0, .inl 0, .inl (-1), .inl 0, .inl 0]),
  .inr (3, .inr (.inr [some 25, some 27, some 29, some 31, some 33])),
  .inr (0, .inl (List.replicate 4 0)),
  .inr (0, .inl (List.replicate 4 0)),
  .inl (5, [.inr (.inr (1, 3)), .inr (.inr (1, 26)), .inl (-1), .inl 3, .inl 3, .inl 4, .inl 0, .inl 2, .inl 1, .inl 20, .inl 0, .inl 0, .inl 1]),
  .inr (0, .inl (List.replicate 6 0)),
  .inl (5, [.inr (.inr (1, 3)), .inr (.inr (1, 28)), .inl (-1), .inl 3, .inl 3, .inl 4, .inl 0, .inl 2, .inl 1, .inl 20, .inl 0, .inl 0, .inl 1]),
  .inr (0, .inl (List.replicate 6 0)),
  .inl (5, [.inr (.inr (1, 3)), .inr (.inr (1, 30)), .inl (-1), .inl 3, .inl 3, .inl 4, .inl 0, .inl 2, .inl 1, .inl 20, .inl 0, .inl 0, .inl 1]),
  .inr (0, .inl (List.replicate 6 0)),
  .inl (5, [.inr (.inr (1, 3)), .inr (.inr (1, 32)), .inl (-1), .inl 3, .inl 3, .inl 4, .inl 0, .inl 2, .inl 1, .inl 20, .inl 0, .inl 0, .inl 1]),
  .inr (0, .inl (List.replicate 6 0)),
  .inl (5, [.inr (.inr (1, 3)), .inr (.inr (1, 34)), .inl (-1), .inl 3, .inl 3, .inl 4, .inl 0, .inl 2, .inl 1, .inl 20, .inl 0, .inl 0, .inl 1]),
  .inr (0, .inl (List.replicate 6 0)),
  .inl (4, [.inr (.inr (1, 36)), .inr (.inr (1, 43)), .inl 0, .inl 0, .inl 0, .inl 0, .inl (-1)]),
  .inl (5, [.inr (.inr (1, 37)), .inr (.inr (1, 42)), .inl (-1), .inl 3, .inl 3, .inl 4, .inl 0, .inl 2, .inl 1, .inl 20, .inl 0, .inl 0, .inl 1]),
  .inl (6, [.inr (.inr (1, 38)), .inr (.inr (1, 39)), .inr (.inr (1, 40)), .inr (.inr (1, 41)), .inl 0, .inl 0]),
  .inr (0, .inl (List.replicate 24 0)),
  .inr (0, .inl (List.replicate 24 0)),
  .inr (0, .inl (List.replicate 6 0)),
  .inr (0, .inl (List.replicate 6 0)),
  .inr (0, .inl (List.replicate 6 0)),
  .inr (0, .inl (List.replicate 160 0)),
  .inl (0, [.inr (.inr (1, 45)), .inl 0, .inl 0, .inl 0, .inl 0]),
  .inr (0, .inl (List.replicate 20 0)),
  .inr (0, .inl (List.replicate 8 0)),
  .inl (3, [.inr (.inr (1, 48)), .inl (-1), .inl 0]),
  .inr (1, .inr (.inl (List.replicate 160 0))),
  .inl (3, [.inr (.inr (1, 50)), .inl (-1), .inl 0]),
  .inr (1, .inr (.inl (List.replicate 160 0))),
  .inl (3, [.inr (.inr (1, 52)), .inl (-1), .inl 0]),
  .inr (1, .inr (.inl (List.replicate 160 0))),
  .inl (3, [.inr (.inr (1, 54)), .inl (-1), .inl 0]),
  .inr (1, .inr (.inl (List.replicate 160 0))),
  .inl (3, [.inr (.inr (1, 56)), .inl (-1), .inl 0]),
  .inr (1, .inr (.inl (List.replicate 160 0))),
  .inl (3, [.inr (.inr (1, 58)), .inl (-1), .inl 0]),
  .inr (1, .inr (.inl (List.replicate 160 0))),
  .inl (3, [.inr (.inr (1, 60)), .inl (-1), .inl 0]),
  .inr (1, .inr (.inl (List.replicate 160 0)))], 60, 1762)
set_option maxRecDepth 1000000 in
theorem zx_bx19_ok : zx_seq (zx_it (zx_m 67) 8 zx_bx18) zx_bx19 = true := by decide +kernel
def zx_bx20 : zx_S := (160, [some (.inr (.inr (1, 0))), some (.inl 7)], [.inr (.inr (1, 61)), .inr (.inr (1, 61)), .inl 7, .inr (.inr (1, 1))], [.inl (7, [.inr (.inr (1, 1)), .inr (.inr (1, 2)), .inr (.inr (1, 9)), .inr (.inr (1, 16)), .inr (.inr (1, 18)), .inr (.inr (1, 21)), .inr (.inr (1, 35)), .inr (.inr (1, 44)), .inr (.inr (1, 46)), .inl 0, .inl (-1)]),
  .inr (2, .inr (.inr [some 47, some 49, some 51, some 53, some 55, some 57, some 59, none])),
  .inl (5, [.inr (.inr (1, 3)), .inr (.inr (1, 8)), .inl (-1), .inl 3, .inl 3, .inl 4, .inl 0, .inl 2, .inl 1, .inl 20, .inl 0, .inl 0, .inl 1]),
  .inl (6, [.inr (.inr (1, 4)), .inr (.inr (1, 5)), .inr (.inr (1, 6)), .inr (.inr (1, 7)), .inl 0, .inl 0]),
  .inr (0, .inl (List.replicate 24 0)),
  .inr (0, .inl (List.replicate 24 0)),
  .inr (0, .inl (List.replicate 6 0)),
  .inr (0, .inl (List.replicate 6 0)),
  .inr (0, .inl (List.replicate 6 0)),
  .inl (5, [.inr (.inr (1, 10)), .inr (.inr (1, 15)), .inl (-1), .inl 3, .inl 3, .inl 4, .inl 0, .inl 2, .inl 1, .inl 20, .inl 0, .inl 0, .inl 1]),
  .inl (6, [.inr (.inr (1, 11)), .inr (.inr (1, 12)), .inr (.inr (1, 13)), .inr (.inr (1, 14)), .inl 0, .inl 0]),
  .inr (0, .inl (List.replicate 24 0)),
  .inr (0, .inl (List.replicate 24 0)),
  .inr (0, .inl (List.replicate 6 0)),
  .inr (0, .inl (List.replicate 6 0)),
  .inr (0, .inl (List.replicate 6 0)),
  .inl (5, [.inr (.inr (1, 3)), .inr (.inr (1, 17)), .inl (-1), .inl 3, .inl 3, .inl 4, .inl 0, .inl 2, .inl 1, .inl 20, .inl 0, .inl 0, .inl 1]),
  .inr (0, .inl (List.replicate 6 0)),
  .inl (1, [.inr (.inr (1, 19)), .inl 0, .inl 0, .inl 0]),
  .inl (5, [.inr (.inr (1, 3)), .inr (.inr (1, 20)), .inl (-1), .inl 3, .inl 3, .inl 4, .inl 0, .inl 2, .inl 1, .inl 20, .inl 0, .inl 0, .inl 1]),
  .inr (0, .inl (List.replicate 6 0)),
  .inl (2, [.inr (.inr (1, 22)), .inr (.inr (1, 23)), .inr (.inr (1, 24)), .inl 0, .inl 0, .inl (-1), .inl 0, .inl 0]),
  .inr (3, .inr (.inr [some 25, some 27, some 29, some 31, some 33])),
  .inr (0, .inl (List.replicate 4 0)),
  .inr (0, .inl (List.replicate 4 0)),
  .inl (5, [.inr (.inr (1, 3)), .inr (.inr (1, 26)), .inl (-1), .inl 3, .inl 3, .inl 4, .inl 0, .inl 2, .inl 1, .inl 20, .inl 0, .inl 0, .inl 1]),
  .inr (0, .inl (List.replicate 6 0)),
  .inl (5, [.inr (.inr (1, 3)), .inr (.inr (1, 28)), .inl (-1), .inl 3, .inl 3, .inl 4, .inl 0, .inl 2, .inl 1, .inl 20, .inl 0, .inl 0, .inl 1]),
  .inr (0, .inl (List.replicate 6 0)),
  .inl (5, [.inr (.inr (1, 3)), .inr (.inr (1, 30)), .inl (-1), .inl 3, .inl 3, .inl 4, .inl 0, .inl 2, .inl 1, .inl 20, .inl 0, .inl 0, .inl 1]),
  .inr (0, .inl (List.replicate 6 0)),
  .inl (5, [.inr (.inr (1, 3)), .inr (.inr (1, 32)), .inl (-1), .inl 3, .inl 3, .inl 4, .inl 0, .inl 2, .inl 1, .inl 20, .inl 0, .inl 0, .inl 1]),
  .inr (0, .inl (List.replicate 6 0)),
  .inl (5, [.inr (.inr (1, 3)), .inr (.inr (1, 34)), .inl (-1), .inl 3, .inl 3, .inl 4, .inl 0, .inl 2, .inl 1, .inl 20, .inl 0, .inl 0, .inl 1]),
  .inr (0, .inl (List.replicate 6 0)),
  .inl (4, [.inr (.inr (1, 36)), .inr (.inr (1, 43)), .inl 0, .inl 0, .inl 0, .inl 0, .inl (-1)]),
  .inl (5, [.inr (.inr (1, 37)), .inr (.inr (1, 42)), .inl (-1), .inl 3, .inl 3, .inl 4, .inl 0, .inl 2, .inl 1, .inl 20, .inl 0, .inl 0, .inl 1]),
  .inl (6, [.inr (.inr (1, 38)), .inr (.inr (1, 39)), .inr (.inr (1, 40)), .inr (.inr (1, 41)), .inl 0, .inl 0]),
  .inr (0, .inl (List.replicate 24 0)),
  .inr (0, .inl (List.replicate 24 0)),
  .inr (0, .inl (List.replicate 6 0)),
  .inr (0, .inl (List.replicate 6 0)),
  .inr (0, .inl (List.replicate 6 0)),
  .inr (0, .inl (List.replicate 160 0)),
  .inl (0, [.inr (.inr (1, 45)), .inl 0, .inl 0, .inl 0, .inl 0]),
  .inr (0, .inl (List.replicate 20 0)),
  .inr (0, .inl (List.replicate 8 0)),
  .inl (3, [.inr (.inr (1, 48)), .inl (-1), .inl 0]),
  .inr (1, .inr (.inl (List.replicate 160 0))),
  .inl (3, [.inr (.inr (1, 50)), .inl (-1), .inl 0]),
  .inr (1, .inr (.inl (List.replicate 160 0))),
  .inl (3, [.inr (.inr (1, 52)), .inl (-1), .inl 0]),
  .inr (1, .inr (.inl (List.replicate 160 0))),
  .inl (3, [.inr (.inr (1, 54)), .inl (-1), .inl 0]),
  .inr (1, .inr (.inl (List.replicate 160 0))),
  .inl (3, [.inr (.inr (1, 56)), .inl (-1), .inl 0]),
  .inr (1, .inr (.inl (List.replicate 160 0))),
  .inl (3, [.inr (.inr (1, 58)), .inl (-1), .inl 0]),
  .inr (1, .inr (.inl (List.replicate 160 0))),
  .inl (3, [.inr (.inr (1, 60)), .inl (-1), .inl 0]),
  .inr (1, .inr (.inl (List.replicate 160 0))),
  .inl (3, [.inr (.inr (0, 0)), .inl 0, .inl 0])], 61, 1765)
set_option maxRecDepth 1000000 in
theorem zx_bx20_ok : zx_seq (zx_it (zx_m 67) 8 zx_bx19) zx_bx20 = true := by decide +kernel
def zx_bx21 : zx_S := (170, [some (.inr (.inr (1, 0))), some (.inl 8)], [], [.inl (7, [.inr (.inr (1, 1)), .inr (.inr (1, 2)), .inr (.inr (1, 9)), .inr (.inr (1, 16)), .inr (.inr (1, 18)), .inr (.inr (1, 21)), .inr (.inr (1, 35)), .inr (.inr (1, 44)), .inr (.inr (1, 46)), .inl 0, .inl (-1)]),
  .inr (2, .inr (.inr [some 47, some 49, some 51, some 53, some 55, some 57, some 59, some 61])),
  .inl (5, [.inr (.inr (1, 3)), .inr (.inr (1, 8)), .inl (-1), .inl 3, .inl 3, .inl 4, .inl 0, .inl 2, .inl 1, .inl 20, .inl 0, .inl 0, .inl 1]),
  .inl (6, [.inr (.inr (1, 4)), .inr (.inr (1, 5)), .inr (.inr (1, 6)), .inr (.inr (1, 7)), .inl 0, .inl 0]),
  .inr (0, .inl (List.replicate 24 0)),
  .inr (0, .inl (List.replicate 24 0)),
  .inr (0, .inl (List.replicate 6 0)),
  .inr (0, .inl (List.replicate 6 0)),
  .inr (0, .inl (List.replicate 6 0)),
  .inl (5, [.inr (.inr (1, 10)), .inr (.inr (1, 15)), .inl (-1), .inl 3, .inl 3, .inl 4, .inl 0, .inl 2, .inl 1, .inl 20, .inl 0, .inl 0, .inl 1]),
  .inl (6, [.inr (.inr (1, 11)), .inr (.inr (1, 12)), .inr (.inr (1, 13)), .inr (.inr (1, 14)), .inl 0, .inl 0]),
  .inr (0, .inl (List.replicate 24 0)),
  .inr (0, .inl (List.replicate 24 0)),
  .inr (0, .inl (List.replicate 6 0)),
  .inr (0, .inl (List.replicate 6 0)),
  .inr (0, .inl (List.replicate 6 0)),
  .inl (5, [.inr (.inr (1, 3)), .inr (.inr (1, 17)), .inl (-1), .inl 3, .inl 3, .inl 4, .inl 0, .inl 2, .inl 1, .inl 20, .inl 0, .inl 0, .inl 1]),
  .inr (0, .inl (List.replicate 6 0)),
  .inl (1, [.inr (.inr (1, 19)), .inl 0, .inl 0, .inl 0]),
  .inl (5, [.inr (.inr (1, 3)), .inr (.inr (1, 20)), .inl (-1), .inl 3, .inl 3, .inl 4, .inl 0, .inl 2, .inl 1, .inl 20, .inl 0, .inl 0, .inl 1]),
  .inr (0, .inl (List.replicate 6 0)),
  .inl (2, [.inr (.inr (1, 22)), .inr (.inr (1, 23)), .inr (.inr (1, 24)), .inl 0, .inl 0, .inl (-1), .inl 0, .inl 0]),
  .inr (3, .inr (.inr [some 25, some 27, some 29, some 31, some 33])),
  .inr (0, .inl (List.replicate 4 0)),
  .inr (0, .inl (List.replicate 4 0)),
  .inl (5, [.inr (.inr (1, 3)), .inr (.inr (1, 26)), .inl (-1), .inl 3, .inl 3, .inl 4, .inl 0, .inl 2, .inl 1, .inl 20, .inl 0, .inl 0, .inl 1]),
  .inr (0, .inl (List.replicate 6 0)),
  .inl (5, [.inr (.inr (1, 3)), .inr (.inr (1, 28)), .inl (-1), .inl 3, .inl 3, .inl 4, .inl 0, .inl 2, .inl 1, .inl 20, .inl 0, .inl 0, .inl 1]),
  .inr (0, .inl (List.replicate 6 0)),
  .inl (5, [.inr (.inr (1, 3)), .inr (.inr (1, 30)), .inl (-1), .inl 3, .inl 3, .inl 4, .inl 0, .inl 2, .inl 1, .inl 20, .inl 0, .inl 0, .inl 1]),
  .inr (0, .inl (List.replicate 6 0)),
  .inl (5, [.inr (.inr (1, 3)), .inr (.inr (1, 32)), .inl (-1), .inl 3, .inl 3, .inl 4, .inl 0, .inl 2, .inl 1, .inl 20, .inl 0, .inl 0, .inl 1]),
  .inr (0, .inl (List.replicate 6 0)),
  .inl (5, [.inr (.inr (1, 3)), .inr (.inr (1, 34)), .inl (-1), .inl 3, .inl 3, .inl 4, .inl 0, .inl 2, .inl 1, .inl 20, .inl 0, .inl 0, .inl 1]),
  .inr (0, .inl (List.replicate 6 0)),
  .inl (4, [.inr (.inr (1, 36)), .inr (.inr (1, 43)), .inl 0, .inl 0, .inl 0, .inl 0, .inl (-1)]),
  .inl (5, [.inr (.inr (1, 37)), .inr (.inr (1, 42)), .inl (-1), .inl 3, .inl 3, .inl 4, .inl 0, .inl 2, .inl 1, .inl 20, .inl 0, .inl 0, .inl 1]),
  .inl (6, [.inr (.inr (1, 38)), .inr (.inr (1, 39)), .inr (.inr (1, 40)), .inr (.inr (1, 41)), .inl 0, .inl 0]),
  .inr (0, .inl (List.replicate 24 0)),
  .inr (0, .inl (List.replicate 24 0)),
  .inr (0, .inl (List.replicate 6 0)),
  .inr (0, .inl (List.replicate 6 0)),
  .inr (0, .inl (List.replicate 6 0)),
  .inr (0, .inl (List.replicate 160 0)),
  .inl (0, [.inr (.inr (1, 45)), .inl 0, .inl 0, .inl 0, .inl 0]),
  .inr (0, .inl (List.replicate 20 0)),
  .inr (0, .inl (List.replicate 8 0)),
  .inl (3, [.inr (.inr (1, 48)), .inl (-1), .inl 0]),
  .inr (1, .inr (.inl (List.replicate 160 0))),
  .inl (3, [.inr (.inr (1, 50)), .inl (-1), .inl 0]),
  .inr (1, .inr (.inl (List.replicate 160 0))),
  .inl (3, [.inr (.inr (1, 52)), .inl (-1), .inl 0]),
  .inr (1, .inr (.inl (List.replicate 160 0))),
  .inl (3, [.inr (.inr (1, 54)), .inl (-1), .inl 0]),
  .inr (1, .inr (.inl (List.replicate 160 0))),
  .inl (3, [.inr (.inr (1, 56)), .inl (-1), .inl 0]),
  .inr (1, .inr (.inl (List.replicate 160 0))),
  .inl (3, [.inr (.inr (1, 58)), .inl (-1), .inl 0]),
  .inr (1, .inr (.inl (List.replicate 160 0))),
  .inl (3, [.inr (.inr (1, 60)), .inl (-1), .inl 0]),
  .inr (1, .inr (.inl (List.replicate 160 0))),
  .inl (3, [.inr (.inr (1, 62)), .inl (-1), .inl 0]),
  .inr (1, .inr (.inl (List.replicate 160 0)))], 62, 1925)
set_option maxRecDepth 1000000 in
theorem zx_bx21_ok : zx_seq (zx_it (zx_m 67) 7 zx_bx20) zx_bx21 = true := by decide +kernel
def zx_hX : List zx_C := [.inl (7, [.inr (.inr (1, 1)), .inr (.inr (1, 2)), .inr (.inr (1, 9)), .inr (.inr (1, 16)), .inr (.inr (1, 18)), .inr (.inr (1, 21)), .inr (.inr (1, 35)), .inr (.inr (1, 44)), .inr (.inr (1, 46)), .inl 0, .inl (-1)]),
  .inr (2, .inr (.inr [some 47, some 49, some 51, some 53, some 55, some 57, some 59, some 61])),
  .inl (5, [.inr (.inr (1, 3)), .inr (.inr (1, 8)), .inl (-1), .inl 3, .inl 3, .inl 4, .inl 0, .inl 2, .inl 1, .inl 20, .inl 0, .inl 0, .inl 1]),
  .inl (6, [.inr (.inr (1, 4)), .inr (.inr (1, 5)), .inr (.inr (1, 6)), .inr (.inr (1, 7)), .inl 0, .inl 0]),
  .inr (0, .inl (List.replicate 24 0)),
  .inr (0, .inl (List.replicate 24 0)),
  .inr (0, .inl (List.replicate 6 0)),
  .inr (0, .inl (List.replicate 6 0)),
  .inr (0, .inl (List.replicate 6 0)),
  .inl (5, [.inr (.inr (1, 10)), .inr (.inr (1, 15)), .inl (-1), .inl 3, .inl 3, .inl 4, .inl 0, .inl 2, .inl 1, .inl 20, .inl 0, .inl 0, .inl 1]),
  .inl (6, [.inr (.inr (1, 11)), .inr (.inr (1, 12)), .inr (.inr (1, 13)), .inr (.inr (1, 14)), .inl 0, .inl 0]),
  .inr (0, .inl (List.replicate 24 0)),
  .inr (0, .inl (List.replicate 24 0)),
  .inr (0, .inl (List.replicate 6 0)),
  .inr (0, .inl (List.replicate 6 0)),
  .inr (0, .inl (List.replicate 6 0)),
  .inl (5, [.inr (.inr (1, 3)), .inr (.inr (1, 17)), .inl (-1), .inl 3, .inl 3, .inl 4, .inl 0, .inl 2, .inl 1, .inl 20, .inl 0, .inl 0, .inl 1]),
  .inr (0, .inl (List.replicate 6 0)),
  .inl (1, [.inr (.inr (1, 19)), .inl 0, .inl 0, .inl 0]),
  .inl (5, [.inr (.inr (1, 3)), .inr (.inr (1, 20)), .inl (-1), .inl 3, .inl 3, .inl 4, .inl 0, .inl 2, .inl 1, .inl 20, .inl 0, .inl 0, .inl 1]),
  .inr (0, .inl (List.replicate 6 0)),
  .inl (2, [.inr (.inr (1, 22)), .inr (.inr (1, 23)), .inr (.inr (1, 24)), .inl 0, .inl 0, .inl (-1), .inl 0, .inl 0]),
  .inr (3, .inr (.inr [some 25, some 27, some 29, some 31, some 33])),
  .inr (0, .inl (List.replicate 4 0)),
  .inr (0, .inl (List.replicate 4 0)),
  .inl (5, [.inr (.inr (1, 3)), .inr (.inr (1, 26)), .inl (-1), .inl 3, .inl 3, .inl 4, .inl 0, .inl 2, .inl 1, .inl 20, .inl 0, .inl 0, .inl 1]),
  .inr (0, .inl (List.replicate 6 0)),
  .inl (5, [.inr (.inr (1, 3)), .inr (.inr (1, 28)), .inl (-1), .inl 3, .inl 3, .inl 4, .inl 0, .inl 2, .inl 1, .inl 20, .inl 0, .inl 0, .inl 1]),
  .inr (0, .inl (List.replicate 6 0)),
  .inl (5, [.inr (.inr (1, 3)), .inr (.inr (1, 30)), .inl (-1), .inl 3, .inl 3, .inl 4, .inl 0, .inl 2, .inl 1, .inl 20, .inl 0, .inl 0, .inl 1]),
  .inr (0, .inl (List.replicate 6 0)),
  .inl (5, [.inr (.inr (1, 3)), .inr (.inr (1, 32)), .inl (-1), .inl 3, .inl 3, .inl 4, .inl 0, .inl 2, .inl 1, .inl 20, .inl 0, .inl 0, .inl 1]),
  .inr (0, .inl (List.replicate 6 0)),
  .inl (5, [.inr (.inr (1, 3)), .inr (.inr (1, 34)), .inl (-1), .inl 3, .inl 3, .inl 4, .inl 0, .inl 2, .inl 1, .inl 20, .inl 0, .inl 0, .inl 1]),
  .inr (0, .inl (List.replicate 6 0)),
  .inl (4, [.inr (.inr (1, 36)), .inr (.inr (1, 43)), .inl 0, .inl 0, .inl 0, .inl 0, .inl (-1)]),
  .inl (5, [.inr (.inr (1, 37)), .inr (.inr (1, 42)), .inl (-1), .inl 3, .inl 3, .inl 4, .inl 0, .inl 2, .inl 1, .inl 20, .inl 0, .inl 0, .inl 1]),
  .inl (6, [.inr (.inr (1, 38)), .inr (.inr (1, 39)), .inr (.inr (1, 40)), .inr (.inr (1, 41)), .inl 0, .inl 0]),
  .inr (0, .inl (List.replicate 24 0)),
  .inr (0, .inl (List.replicate 24 0)),
  .inr (0, .inl (List.replicate 6 0)),
  .inr (0, .inl (List.replicate 6 0)),
  .inr (0, .inl (List.replicate 6 0)),
  .inr (0, .inl (List.replicate 160 0)),
  .inl (0, [.inr (.inr (1, 45)), .inl 0, .inl 0, .inl 0, .inl 0]),
  .inr (0, .inl (List.replicate 20 0)),
  .inr (0, .inl (List.replicate 8 0)),
  .inl (3, [.inr (.inr (1, 48)), .inl (-1), .inl 0]),
  .inr (1, .inr (.inl (List.replicate 160 0))),
  .inl (3, [.inr (.inr (1, 50)), .inl (-1), .inl 0]),
  .inr (1, .inr (.inl (List.replicate 160 0))),
  .inl (3, [.inr (.inr (1, 52)), .inl (-1), .inl 0]),
  .inr (1, .inr (.inl (List.replicate 160 0))),
  .inl (3, [.inr (.inr (1, 54)), .inl (-1), .inl 0]),
  .inr (1, .inr (.inl (List.replicate 160 0))),
  .inl (3, [.inr (.inr (1, 56)), .inl (-1), .inl 0]),
  .inr (1, .inr (.inl (List.replicate 160 0))),
  .inl (3, [.inr (.inr (1, 58)), .inl (-1), .inl 0]),
  .inr (1, .inr (.inl (List.replicate 160 0))),
  .inl (3, [.inr (.inr (1, 60)), .inl (-1), .inl 0]),
  .inr (1, .inr (.inl (List.replicate 160 0))),
  .inl (3, [.inr (.inr (1, 62)), .inl (-1), .inl 0]),
  .inr (1, .inr (.inl (List.replicate 160 0)))]
end
section
/-! part 17: the reference's constructor -/
def zx_bm0 : zx_S := (0, [some (.inr (.inr (1, 63)))], [], zx_hX ++ [.inl (8, [.inl 0, .inl 0, .inl 0, .inl 0, .inl 0, .inl 0, .inl 0, .inl 0, .inl 0, .inl 0, .inl 0, .inl 0, .inl 0, .inl 0, .inr (.inr (0, 0)), .inr (.inr (0, 0)), .inr (.inr (0, 0)), .inr (.inr (0, 0)), .inr (.inr (0, 0)), .inr (.inr (0, 0)), .inr (.inr (0, 0)), .inr (.inr (0, 0)), .inr (.inr (0, 0)), .inr (.inr (0, 0)), .inr (.inr (0, 0)), .inr (.inr (0, 0)), .inr (.inr (0, 0)), .inr (.inr (0, 0)), .inr (.inr (0, 0)), .inl 0, .inl 0, .inl 0, .inl 0, .inl 0, .inr (.inr (0, 0)), .inr (.inr (0, 0)), .inr (.inr (0, 0)), .inr (.inr (0, 0)), .inr (.inr (0, 0)), .inr (.inr (0, 0)), .inl 0, .inl 0, .inl 0, .inl 0, .inl 0, .inl 0, .inl 0, .inl 0, .inl 0, .inl 0, .inr (.inr (0, 0)), .inl 0, .inl 0])], 0, 0)
def zx_bm1 : zx_S := (20, [some (.inr (.inr (1, 63)))], [.inr (.inr (1, 63))], zx_hX ++ [.inl (8, [.inl 0, .inl 0, .inl (-1), .inl 3, .inl 3, .inl 0, .inl 0, .inl 0, .inl 0, .inl 0, .inl 0, .inl 0, .inl 0, .inl 0, .inr (.inr (0, 0)), .inr (.inr (0, 0)), .inr (.inr (0, 0)), .inr (.inr (0, 0)), .inr (.inr (0, 0)), .inr (.inr (0, 0)), .inr (.inr (0, 0)), .inr (.inr (0, 0)), .inr (.inr (0, 0)), .inr (.inr (0, 0)), .inr (.inr (0, 0)), .inr (.inr (0, 0)), .inr (.inr (0, 0)), .inr (.inr (0, 0)), .inr (.inr (0, 0)), .inl 0, .inl 0, .inl 0, .inl 0, .inl 0, .inr (.inr (0, 0)), .inr (.inr (0, 0)), .inr (.inr (0, 0)), .inr (.inr (0, 0)), .inr (.inr (0, 0)), .inr (.inr (0, 0)), .inl 0, .inl 0, .inl 0, .inl 0, .inl 0, .inl 0, .inl 0, .inl 0, .inl 0, .inl 0, .inr (.inr (0, 0)), .inl 0, .inl 0])], 0, 0)
set_option maxRecDepth 1000000 in
theorem zx_bm1_ok : zx_seq (zx_it (zx_m 124) 12 zx_bm0) zx_bm1 = true := by decide +kernel
def zx_bm2 : zx_S := (41, [some (.inr (.inr (1, 63)))], [.inr (.inr (1, 63))], zx_hX ++ [.inl (8, [.inl 0, .inl 0, .inl (-1), .inl 3, .inl 3, .inl 4, .inl 0, .inl 2, .inl 1, .inl 20, .inl 0, .inl 0, .inl 0, .inl 0, .inr (.inr (0, 0)), .inr (.inr (0, 0)), .inr (.inr (0, 0)), .inr (.inr (0, 0)), .inr (.inr (0, 0)), .inr (.inr (0, 0)), .inr (.inr (0, 0)), .inr (.inr (0, 0)), .inr (.inr (0, 0)), .inr (.inr (0, 0)), .inr (.inr (0, 0)), .inr (.inr (0, 0)), .inr (.inr (0, 0)), .inr (.inr (0, 0)), .inr (.inr (0, 0)), .inl 0, .inl 0, .inl 0, .inl 0, .inl 0, .inr (.inr (0, 0)), .inr (.inr (0, 0)), .inr (.inr (0, 0)), .inr (.inr (0, 0)), .inr (.inr (0, 0)), .inr (.inr (0, 0)), .inl 0, .inl 0, .inl 0, .inl 0, .inl 0, .inl 0, .inl 0, .inl 0, .inl 0, .inl 0, .inr (.inr (0, 0)), .inl 0, .inl 0])], 0, 0)
set_option maxRecDepth 1000000 in
theorem zx_bm2_ok : zx_seq (zx_it (zx_m 124) 12 zx_bm1) zx_bm2 = true := by decide +kernel
def zx_bm3 : zx_S := (63, [some (.inr (.inr (1, 63)))], [.inr (.inr (1, 65)), .inr (.inr (1, 63))], zx_hX ++ [.inl (8, [.inl 0, .inl 0, .inl (-1), .inl 3, .inl 3, .inl 4, .inl 0, .inl 2, .inl 1, .inl 20, .inl 0, .inl 0, .inl 1, .inl (-1), .inr (.inr (1, 64)), .inr (.inr (0, 0)), .inr (.inr (0, 0)), .inr (.inr (0, 0)), .inr (.inr (0, 0)), .inr (.inr (0, 0)), .inr (.inr (0, 0)), .inr (.inr (0, 0)), .inr (.inr (0, 0)), .inr (.inr (0, 0)), .inr (.inr (0, 0)), .inr (.inr (0, 0)), .inr (.inr (0, 0)), .inr (.inr (0, 0)), .inr (.inr (0, 0)), .inl 0, .inl 0, .inl 0, .inl 0, .inl 0, .inr (.inr (0, 0)), .inr (.inr (0, 0)), .inr (.inr (0, 0)), .inr (.inr (0, 0)), .inr (.inr (0, 0)), .inr (.inr (0, 0)), .inl 0, .inl 0, .inl 0, .inl 0, .inl 0, .inl 0, .inl 0, .inl 0, .inl 0, .inl 0, .inr (.inr (0, 0)), .inl 0, .inl 0]),
  .inr (0, .inl (List.replicate 8 0)),
  .inr (0, .inl (List.replicate 24 0))], 2, 32)
set_option maxRecDepth 1000000 in
theorem zx_bm3_ok : zx_seq (zx_it (zx_m 124) 12 zx_bm2) zx_bm3 = true := by decide +kernel
def zx_bm4 : zx_S := (87, [some (.inr (.inr (1, 63)))], [.inr (.inr (1, 68)), .inr (.inr (1, 63))], zx_hX ++ [.inl (8, [.inl 0, .inl 0, .inl (-1), .inl 3, .inl 3, .inl 4, .inl 0, .inl 2, .inl 1, .inl 20, .inl 0, .inl 0, .inl 1, .inl (-1), .inr (.inr (1, 64)), .inr (.inr (1, 65)), .inr (.inr (1, 66)), .inr (.inr (1, 67)), .inr (.inr (0, 0)), .inr (.inr (0, 0)), .inr (.inr (0, 0)), .inr (.inr (0, 0)), .inr (.inr (0, 0)), .inr (.inr (0, 0)), .inr (.inr (0, 0)), .inr (.inr (0, 0)), .inr (.inr (0, 0)), .inr (.inr (0, 0)), .inr (.inr (0, 0)), .inl 0, .inl 0, .inl 0, .inl 0, .inl 0, .inr (.inr (0, 0)), .inr (.inr (0, 0)), .inr (.inr (0, 0)), .inr (.inr (0, 0)), .inr (.inr (0, 0)), .inr (.inr (0, 0)), .inl 0, .inl 0, .inl 0, .inl 0, .inl 0, .inl 0, .inl 0, .inl 0, .inl 0, .inl 0, .inr (.inr (0, 0)), .inl 0, .inl 0]),
  .inr (0, .inl (List.replicate 8 0)),
  .inr (0, .inl (List.replicate 24 0)),
  .inr (0, .inl (List.replicate 24 0)),
  .inr (0, .inl (List.replicate 6 0)),
  .inr (0, .inl (List.replicate 6 0))], 5, 68)
set_option maxRecDepth 1000000 in
theorem zx_bm4_ok : zx_seq (zx_it (zx_m 124) 12 zx_bm3) zx_bm4 = true := by decide +kernel
def zx_bm5 : zx_S := (111, [some (.inr (.inr (1, 63)))], [.inr (.inr (1, 71)), .inr (.inr (1, 63))], zx_hX ++ [.inl (8, [.inl 0, .inl 0, .inl (-1), .inl 3, .inl 3, .inl 4, .inl 0, .inl 2, .inl 1, .inl 20, .inl 0, .inl 0, .inl 1, .inl (-1), .inr (.inr (1, 64)), .inr (.inr (1, 65)), .inr (.inr (1, 66)), .inr (.inr (1, 67)), .inr (.inr (1, 68)), .inr (.inr (1, 69)), .inr (.inr (1, 70)), .inr (.inr (0, 0)), .inr (.inr (0, 0)), .inr (.inr (0, 0)), .inr (.inr (0, 0)), .inr (.inr (0, 0)), .inr (.inr (0, 0)), .inr (.inr (0, 0)), .inr (.inr (0, 0)), .inl 0, .inl 0, .inl 0, .inl 0, .inl 0, .inr (.inr (0, 0)), .inr (.inr (0, 0)), .inr (.inr (0, 0)), .inr (.inr (0, 0)), .inr (.inr (0, 0)), .inr (.inr (0, 0)), .inl 0, .inl 0, .inl 0, .inl 0, .inl 0, .inl 0, .inl 0, .inl 0, .inl 0, .inl 0, .inr (.inr (0, 0)), .inl 0, .inl 0]),
  .inr (0, .inl (List.replicate 8 0)),
  .inr (0, .inl (List.replicate 24 0)),
  .inr (0, .inl (List.replicate 24 0)),
  .inr (0, .inl (List.replicate 6 0)),
  .inr (0, .inl (List.replicate 6 0)),
  .inr (0, .inl (List.replicate 6 0)),
  .inr (0, .inl (List.replicate 8 0)),
  .inr (0, .inl (List.replicate 8 0))], 8, 90)
set_option maxRecDepth 1000000 in
theorem zx_bm5_ok : zx_seq (zx_it (zx_m 124) 12 zx_bm4) zx_bm5 = true := by decide +kernel
def zx_bm6 : zx_S := (136, [some (.inr (.inr (1, 63)))], [.inr (.inr (1, 74)), .inr (.inr (1, 63))], zx_hX ++ [.inl (8, [.inl 0, .inl 0, .inl (-1), .inl 3, .inl 3, .inl 4, .inl 0, .inl 2, .inl 1, .inl 20, .inl 0, .inl 0, .inl 1, .inl (-1), .inr (.inr (1, 64)), .inr (.inr (1, 65)), .inr (.inr (1, 66)), .inr (.inr (1, 67)), .inr (.inr (1, 68)), .inr (.inr (1, 69)), .inr (.inr (1, 70)), .inr (.inr (1, 71)), .inr (.inr (1, 72)), .inr (.inr (1, 73)), .inr (.inr (0, 0)), .inr (.inr (0, 0)), .inr (.inr (0, 0)), .inr (.inr (0, 0)), .inr (.inr (0, 0)), .inl 0, .inl 0, .inl 0, .inl 0, .inl 0, .inr (.inr (0, 0)), .inr (.inr (0, 0)), .inr (.inr (0, 0)), .inr (.inr (0, 0)), .inr (.inr (0, 0)), .inr (.inr (0, 0)), .inl 0, .inl 0, .inl 0, .inl 0, .inl 0, .inl 0, .inl 0, .inl 0, .inl 0, .inl 0, .inr (.inr (0, 0)), .inl 0, .inl 0]),
  .inr (0, .inl (List.replicate 8 0)),
  .inr (0, .inl (List.replicate 24 0)),
  .inr (0, .inl (List.replicate 24 0)),
  .inr (0, .inl (List.replicate 6 0)),
  .inr (0, .inl (List.replicate 6 0)),
  .inr (0, .inl (List.replicate 6 0)),
  .inr (0, .inl (List.replicate 8 0)),
  .inr (0, .inl (List.replicate 8 0)),
  .inr (0, .inl (List.replicate 8 0)),
  .inr (0, .inl (List.replicate 8 0)),
  .inr (1, .inr (.inl (List.replicate 1280 0)))], 11, 1386)
set_option maxRecDepth 1000000 in
theorem zx_bm6_ok : zx_seq (zx_it (zx_m 124) 12 zx_bm5) zx_bm6 = true := by decide +kernel
def zx_bm7 : zx_S := (158, [some (.inr (.inr (1, 63)))], [.inr (.inr (1, 76)), .inr (.inr (1, 63))], zx_hX ++ [.inl (8, [.inl 0, .inl 0, .inl (-1), .inl 3, .inl 3, .inl 4, .inl 0, .inl 2, .inl 1, .inl 20, .inl 0, .inl 0, .inl 1, .inl (-1), .inr (.inr (1, 64)), .inr (.inr (1, 65)), .inr (.inr (1, 66)), .inr (.inr (1, 67)), .inr (.inr (1, 68)), .inr (.inr (1, 69)), .inr (.inr (1, 70)), .inr (.inr (1, 71)), .inr (.inr (1, 72)), .inr (.inr (1, 73)), .inr (.inr (1, 74)), .inr (.inr (1, 75)), .inr (.inr (0, 0)), .inr (.inr (0, 0)), .inr (.inr (0, 0)), .inl 0, .inl 0, .inl 0, .inl 0, .inl 0, .inr (.inr (0, 0)), .inr (.inr (0, 0)), .inr (.inr (0, 0)), .inr (.inr (0, 0)), .inr (.inr (0, 0)), .inr (.inr (0, 0)), .inl 0, .inl 0, .inl 0, .inl 0, .inl 0, .inl 0, .inl 0, .inl 0, .inl 0, .inl 0, .inr (.inr (0, 0)), .inl 0, .inl 0]),
  .inr (0, .inl (List.replicate 8 0)),
  .inr (0, .inl (List.replicate 24 0)),
  .inr (0, .inl (List.replicate 24 0)),
  .inr (0, .inl (List.replicate 6 0)),
  .inr (0, .inl (List.replicate 6 0)),
  .inr (0, .inl (List.replicate 6 0)),
  .inr (0, .inl (List.replicate 8 0)),
  .inr (0, .inl (List.replicate 8 0)),
  .inr (0, .inl (List.replicate 8 0)),
  .inr (0, .inl (List.replicate 8 0)),
  .inr (1, .inr (.inl (List.replicate 1280 0))),
  .inr (1, .inr (.inl (List.replicate 160 0))),
  .inr (0, .inl [117, 0, 0, 0, 0, 0, 0, 0, 0, 0, 0, 0, 0, 0, 0, 0, 0, 0, 0, 0, 0, 0, 0, 0, 0, 0, 0, 0, 0, 0, 0, 0, 0, 0, 0, 0, 0, 0, 0, 0, 0, 0, 0, 0, 0, 0, 0, 0, 0, 0, 0, 0, 0, 0, 0, 0, 0, 0, 0, 0, 0, 0, 0, 0, 0, 0, 0, 0, 0, 0, 0, 0, 0, 0, 0])], 13, 1621)
set_option maxRecDepth 1000000 in
theorem zx_bm7_ok : zx_seq (zx_it (zx_m 124) 12 zx_bm6) zx_bm7 = true := by decide +kernel
def zx_bm8 : zx_S := (172, [some (.inr (.inr (1, 63)))], [.inr (.inr (1, 76)), .inr (.inr (1, 63))], zx_hX ++ [.inl (8, [.inl 0, .inl 0, .inl (-1), .inl 3, .inl 3, .inl 4, .inl 0, .inl 2, .inl 1, .inl 20, .inl 0, .inl 0, .inl 1, .inl (-1), .inr (.inr (1, 64)), .inr (.inr (1, 65)), .inr (.inr (1, 66)), .inr (.inr (1, 67)), .inr (.inr (1, 68)), .inr (.inr (1, 69)), .inr (.inr (1, 70)), .inr (.inr (1, 71)), .inr (.inr (1, 72)), .inr (.inr (1, 73)), .inr (.inr (1, 74)), .inr (.inr (1, 75)), .inr (.inr (0, 0)), .inr (.inr (0, 0)), .inr (.inr (0, 0)), .inl 0, .inl 0, .inl 0, .inl 0, .inl 0, .inr (.inr (0, 0)), .inr (.inr (0, 0)), .inr (.inr (0, 0)), .inr (.inr (0, 0)), .inr (.inr (0, 0)), .inr (.inr (0, 0)), .inl 0, .inl 0, .inl 0, .inl 0, .inl 0, .inl 0, .inl 0, .inl 0, .inl 0, .inl 0, .inr (.inr (0, 0)), .inl 0, .inl 0]),
  .inr (0, .inl (List.replicate 8 0)),
  .inr (0, .inl (List.replicate 24 0)),
  .inr (0, .inl (List.replicate 24 0)),
  .inr (0, .inl (List.replicate 6 0)),
  .inr (0, .inl (List.replicate 6 0)),
  .inr (0, .inl (List.replicate 6 0)),
  .inr (0, .inl (List.replicate 8 0)),
  .inr (0, .inl (List.replicate 8 0)),
  .inr (0, .inl (List.replicate 8 0)),
  .inr (0, .inl (List.replicate 8 0)),
  .inr (1, .inr (.inl (List.replicate 1280 0))),
  .inr (1, .inr (.inl (List.replicate 160 0))),
  .inr (0, .inl [117, 112, 32, 0, 0, 0, 0, 0, 0, 0, 0, 0, 0, 0, 0, 0, 0, 0, 0, 0, 0, 0, 0, 0, 0, 0, 0, 0, 0, 0, 0, 0, 0, 0, 0, 0, 0, 0, 0, 0, 0, 0, 0, 0, 0, 0, 0, 0, 0, 0, 0, 0, 0, 0, 0, 0, 0, 0, 0, 0, 0, 0, 0, 0, 0, 0, 0, 0, 0, 0, 0, 0, 0, 0, 0])], 13, 1621)
set_option maxRecDepth 1000000 in
theorem zx_bm8_ok : zx_seq (zx_it (zx_m 124) 12 zx_bm7) zx_bm8 = true := by decide +kernel
def zx_bm9 : zx_S := (188, [some (.inr (.inr (1, 63)))], [.inr (.inr (1, 76)), .inr (.inr (1, 63))], zx_hX ++ [.inl (8, [.inl 0, .inl 0, .inl (-1), .inl 3, .inl 3, .inl 4, .inl 0, .inl 2, .inl 1, .inl 20, .inl 0, .inl 0, .inl 1, .inl (-1), .inr (.inr (1, 64)), .inr (.inr (1, 65)), .inr (.inr (1, 66)), .inr (.inr (1, 67)), .inr (.inr (1, 68)), .inr (.inr (1, 69)), .inr (.inr (1, 70)), .inr (.inr (1, 71)), .inr (.inr (1, 72)), .inr (.inr (1, 73)), .inr (.inr (1, 74)), .inr (.inr (1, 75)), .inr (.inr (0, 0)), .inr (.inr (0, 0)), .inr (.inr (0, 0)), .inl 0, .inl 0, .inl 0, .inl 0, .inl 0, .inr (.inr (0, 0)), .inr (.inr (0, 0)), .inr (.inr (0, 0)), .inr (.inr (0, 0)), .inr (.inr (0, 0)), .inr (.inr (0, 0)), .inl 0, .inl 0, .inl 0, .inl 0, .inl 0, .inl 0, .inl 0, .inl 0, .inl 0, .inl 0, .inr (.inr (0, 0)), .inl 0, .inl 0]),
  .inr (0, .inl (List.replicate 8 0)),
  .inr (0, .inl (List.replicate 24 0)),
  .inr (0, .inl (List.replicate 24 0)),
  .inr (0, .inl (List.replicate 6 0)),
  .inr (0, .inl (List.replicate 6 0)),
  .inr (0, .inl (List.replicate 6 0)),
  .inr (0, .inl (List.replicate 8 0)),
  .inr (0, .inl (List.replicate 8 0)),
  .inr (0, .inl (List.replicate 8 0)),
  .inr (0, .inl (List.replicate 8 0)),
  .inr (1, .inr (.inl (List.replicate 1280 0))),
  .inr (1, .inr (.inl (List.replicate 160 0))),
  .inr (0, .inl [117, 112, 32, 0, 100, 111, 119, 0, 0, 0, 0, 0, 0, 0, 0, 0, 0, 0, 0, 0, 0, 0, 0, 0, 0, 0, 0, 0, 0, 0, 0, 0, 0, 0, 0, 0, 0, 0, 0, 0, 0, 0, 0, 0, 0, 0, 0, 0, 0, 0, 0, 0, 0, 0, 0, 0, 0, 0, 0, 0, 0, 0, 0, 0, 0, 0, 0, 0, 0, 0, 0, 0, 0, 0, 0])], 13, 1621)
set_option maxRecDepth 1000000 in
theorem zx_bm9_ok : zx_seq (zx_it (zx_m 124) 12 zx_bm8) zx_bm9 = true := by decide +kernel
def zx_bm10 : zx_S := (205, [some (.inr (.inr (1, 63)))], [.inr (.inr (1, 76)), .inr (.inr (1, 63))], zx_hX ++ [.inl (8, [.inl 0, .inl 0, .inl (-1), .inl 3, .inl 3, .inl 4, .inl 0, .inl 2, .inl 1, .inl 20, .inl 0, .inl 0, .inl 1, .inl (-1), .inr (.inr (1, 64)), .inr (.inr (1, 65)), .inr (.inr (1, 66)), .inr (.inr (1, 67)), .inr (.inr (1, 68)), .inr (.inr (1, 69)), .inr (.inr (1, 70)), .inr (.inr (1, 71)), .inr (.inr (1, 72)), .inr (.inr (1, 73)), .inr (.inr (1, 74)), .inr (.inr (1, 75)), .inr (.inr (0, 0)), .inr (.inr (0, 0)), .inr (.inr (0, 0)), .inl 0, .inl 0, .inl 0, .inl 0, .inl 0, .inr (.inr (0, 0)), .inr (.inr (0, 0)), .inr (.inr (0, 0)), .inr (.inr (0, 0)), .inr (.inr (0, 0)), .inr (.inr (0, 0)), .inl 0, .inl 0, .inl 0, .inl 0, .inl 0, .inl 0, .inl 0, .inl 0, .inl 0, .inl 0, .inr (.inr (0, 0)), .inl 0, .inl 0]),
  .inr (0, .inl (List.replicate 8 0)),
  .inr (0, .inl (List.replicate 24 0)),
  .inr (0, .inl (List.replicate 24 0)),
  .inr (0, .inl (List.replicate 6 0)),
  .inr (0, .inl (List.replicate 6 0)),
  .inr (0, .inl (List.replicate 6 0)),
  .inr (0, .inl (List.replicate 8 0)),
  .inr (0, .inl (List.replicate 8 0)),
  .inr (0, .inl (List.replicate 8 0)),
  .inr (0, .inl (List.replicate 8 0)),
  .inr (1, .inr (.inl (List.replicate 1280 0))),
  .inr (1, .inr (.inl (List.replicate 160 0))),
  .inr (0, .inl [117, 112, 32, 0, 100, 111, 119, 110, 32, 0, 0, 0, 0, 0, 0, 0, 0, 0, 0, 0, 0, 0, 0, 0, 0, 0, 0, 0, 0, 0, 0, 0, 0, 0, 0, 0, 0, 0, 0, 0, 0, 0, 0, 0, 0, 0, 0, 0, 0, 0, 0, 0, 0, 0, 0, 0, 0, 0, 0, 0, 0, 0, 0, 0, 0, 0, 0, 0, 0, 0, 0, 0, 0, 0, 0])], 13, 1621)
set_option maxRecDepth 1000000 in
theorem zx_bm10_ok : zx_seq (zx_it (zx_m 124) 12 zx_bm9) zx_bm10 = true := by decide +kernel
def zx_bm11 : zx_S := (223, [some (.inr (.inr (1, 63)))], [.inr (.inr (1, 76)), .inr (.inr (1, 63))], zx_hX ++ [.inl (8, [.inl 0, .inl 0, .inl (-1), .inl 3, .inl 3, .inl 4, .inl 0, .inl 2, .inl 1, .inl 20, .inl 0, .inl 0, .inl 1, .inl (-1), .inr (.inr (1, 64)), .inr (.inr (1, 65)), .inr (.inr (1, 66)), .inr (.inr (1, 67)), .inr (.inr (1, 68)), .inr (.inr (1, 69)), .inr (.inr (1, 70)), .inr (.inr (1, 71)), .inr (.inr (1, 72)), .inr (.inr (1, 73)), .inr (.inr (1, 74)), .inr (.inr (1, 75)), .inr (.inr (0, 0)), .inr (.inr (0, 0)), .inr (.inr (0, 0)), .inl 0, .inl 0, .inl 0, .inl 0, .inl 0, .inr (.inr (0, 0)), .inr (.inr (0, 0)), .inr (.inr (0, 0)), .inr (.inr (0, 0)), .inr (.inr (0, 0)), .inr (.inr (0, 0)), .inl 0, .inl 0, .inl 0, .inl 0, .inl 0, .inl 0, .inl 0, .inl 0, .inl 0, .inl 0, .inr (.inr (0, 0)), .inl 0, .inl 0]),
  .inr (0, .inl (List.replicate 8 0)),
  .inr (0, .inl (List.replicate 24 0)),
  .inr (0, .inl (List.replicate 24 0)),
  .inr (0, .inl (List.replicate 6 0)),
  .inr (0, .inl (List.replicate 6 0)),
  .inr (0, .inl (List.replicate 6 0)),
  .inr (0, .inl (List.replicate 8 0)),
  .inr (0, .inl (List.replicate 8 0)),
  .inr (0, .inl (List.replicate 8 0)),
  .inr (0, .inl (List.replicate 8 0)),
  .inr (1, .inr (.inl (List.replicate 1280 0))),
  .inr (1, .inr (.inl (List.replicate 160 0))),
  .inr (0, .inl [117, 112, 32, 0, 100, 111, 119, 110, 32, 0, 115, 116, 105, 0, 0, 0, 0, 0, 0, 0, 0, 0, 0, 0, 0, 0, 0, 0, 0, 0, 0, 0, 0, 0, 0, 0, 0, 0, 0, 0, 0, 0, 0, 0, 0, 0, 0, 0, 0, 0, 0, 0, 0, 0, 0, 0, 0, 0, 0, 0, 0, 0, 0, 0, 0, 0, 0, 0, 0, 0, 0, 0, 0, 0, 0])], 13, 1621)
set_option maxRecDepth 1000000 in
theorem zx_bm11_ok : zx_seq (zx_it (zx_m 124) 12 zx_bm10) zx_bm11 = true := by decide +kernel
def zx_bm12 : zx_S := (240, [some (.inr (.inr (1, 63)))], [.inr (.inr (1, 76)), .inr (.inr (1, 63))], zx_hX ++ [.inl (8, [.inl 0, .inl 0, .inl (-1), .inl 3, .inl 3, .inl 4, .inl 0, .inl 2, .inl 1, .inl 20, .inl 0, .inl 0, .inl 1, .inl (-1), .inr (.inr (1, 64)), .inr (.inr (1, 65)), .inr (.inr (1, 66)), .inr (.inr (1, 67)), .inr (.inr (1, 68)), .inr (.inr (1, 69)), .inr (.inr (1, 70)), .inr (.inr (1, 71)), .inr (.inr (1, 72)), .inr (.inr (1, 73)), .inr (.inr (1, 74)), .inr (.inr (1, 75)), .inr (.inr (0, 0)), .inr (.inr (0, 0)), .inr (.inr (0, 0)), .inl 0, .inl 0, .inl 0, .inl 0, .inl 0, .inr (.inr (0, 0)), .inr (.inr (0, 0)), .inr (.inr (0, 0)), .inr (.inr (0, 0)), .inr (.inr (0, 0)), .inr (.inr (0, 0)), .inl 0, .inl 0, .inl 0, .inl 0, .inl 0, .inl 0, .inl 0, .inl 0, .inl 0, .inl 0, .inr (.inr (0, 0)), .inl 0, .inl 0]),
  .inr (0, .inl (List.replicate 8 0)),
  .inr (0, .inl (List.replicate 24 0)),
  .inr (0, .inl (List.replicate 24 0)),
  .inr (0, .inl (List.replicate 6 0)),
  .inr (0, .inl (List.replicate 6 0)),
  .inr (0, .inl (List.replicate 6 0)),
  .inr (0, .inl (List.replicate 8 0)),
  .inr (0, .inl (List.replicate 8 0)),
  .inr (0, .inl (List.replicate 8 0)),
  .inr (0, .inl (List.replicate 8 0)),
  .inr (1, .inr (.inl (List.replicate 1280 0))),
  .inr (1, .inr (.inl (List.replicate 160 0))),
  .inr (0, .inl [117, 112, 32, 0, 100, 111, 119, 110, 32, 0, 115, 116, 105, 108, 101, 0, 0, 0, 0, 0, 0, 0, 0, 0, 0, 0, 0, 0, 0, 0, 0, 0, 0, 0, 0, 0, 0, 0, 0, 0, 0, 0, 0, 0, 0, 0, 0, 0, 0, 0, 0, 0, 0, 0, 0, 0, 0, 0, 0, 0, 0, 0, 0, 0, 0, 0, 0, 0, 0, 0, 0, 0, 0, 0, 0])], 13, 1621)
set_option maxRecDepth 1000000 in
theorem zx_bm12_ok : zx_seq (zx_it (zx_m 124) 12 zx_bm11) zx_bm12 = true := by decide +kernel
def zx_bm13 : zx_S := (258, [some (.inr (.inr (1, 63)))], [.inr (.inr (1, 76)), .inr (.inr (1, 63))], zx_hX ++ [.inl (8, [.inl 0, .inl 0, .inl (-1), .inl 3, .inl 3, .inl 4, .inl 0, .inl 2, .inl 1, .inl 20, .inl 0, .inl 0, .inl 1, .inl (-1), .inr (.inr (1, 64)), .inr (.inr (1, 65)), .inr (.inr (1, 66)), .inr (.inr (1, 67)), .inr (.inr (1, 68)), .inr (.inr (1, 69)), .inr (.inr (1, 70)), .inr (.inr (1, 71)), .inr (.inr (1, 72)), .inr (.inr (1, 73)), .inr (.inr (1, 74)), .inr (.inr (1, 75)), .inr (.inr (0, 0)), .inr (.inr (0, 0)), .inr (.inr (0, 0)), .inl 0, .inl 0, .inl 0, .inl 0, .inl 0, .inr (.inr (0, 0)), .inr (.inr (0, 0)), .inr (.inr (0, 0)), .inr (.inr (0, 0)), .inr (.inr (0, 0)), .inr (.inr (0, 0)), .inl 0, .inl 0, .inl 0, .inl 0, .inl 0, .inl 0, .inl 0, .inl 0, .inl 0, .inl 0, .inr (.inr (0, 0)), .inl 0, .inl 0]),
  .inr (0, .inl (List.replicate 8 0)),
  .inr (0, .inl (List.replicate 24 0)),
  .inr (0, .inl (List.replicate 24 0)),
  .inr (0, .inl (List.replicate 6 0)),
  .inr (0, .inl (List.replicate 6 0)),
  .inr (0, .inl (List.replicate 6 0)),
  .inr (0, .inl (List.replicate 8 0)),
  .inr (0, .inl (List.replicate 8 0)),
  .inr (0, .inl (List.replicate 8 0)),
  .inr (0, .inl (List.replicate 8 0)),
  .inr (1, .inr (.inl (List.replicate 1280 0))),
  .inr (1, .inr (.inl (List.replicate 160 0))),
  .inr (0, .inl [117, 112, 32, 0, 100, 111, 119, 110, 32, 0, 115, 116, 105, 108, 101, 0, 112, 101, 114, 0, 0, 0, 0, 0, 0, 0, 0, 0, 0, 0, 0, 0, 0, 0, 0, 0, 0, 0, 0, 0, 0, 0, 0, 0, 0, 0, 0, 0, 0, 0, 0, 0, 0, 0, 0, 0, 0, 0, 0, 0, 0, 0, 0, 0, 0, 0, 0, 0, 0, 0, 0, 0, 0, 0, 0])], 13, 1621)
set_option maxRecDepth 1000000 in
theorem zx_bm13_ok : zx_seq (zx_it (zx_m 124) 12 zx_bm12) zx_bm13 = true := by decide +kernel
def zx_bm14 : zx_S := (276, [some (.inr (.inr (1, 63)))], [.inr (.inr (1, 76)), .inr (.inr (1, 63))], zx_hX ++ [.inl (8, [.inl 0, .inl 0, .inl (-1), .inl 3, .inl 3, .inl 4, .inl 0, .inl 2, .inl 1, .inl 20, .inl 0, .inl 0, .inl 1, .inl (-1), .inr (.inr (1, 64)), .inr (.inr (1, 65)), .inr (.inr (1, 66)), .inr (.inr (1, 67)), .inr (.inr (1, 68)), .inr (.inr (1, 69)), .inr (.inr (1, 70)), .inr (.inr (1, 71)), .inr (.inr (1, 72)), .inr (.inr (1, 73)), .inr (.inr (1, 74)), .inr (.inr (1, 75)), .inr (.inr (0, 0)), .inr (.inr (0, 0)), .inr (.inr (0, 0)), .inl 0, .inl 0, .inl 0, .inl 0, .inl 0, .inr (.inr (0, 0)), .inr (.inr (0, 0)), .inr (.inr (0, 0)), .inr (.inr (0, 0)), .inr (.inr (0, 0)), .inr (.inr (0, 0)), .inl 0, .inl 0, .inl 0, .inl 0, .inl 0, .inl 0, .inl 0, .inl 0, .inl 0, .inl 0, .inr (.inr (0, 0)), .inl 0, .inl 0]),
  .inr (0, .inl (List.replicate 8 0)),
  .inr (0, .inl (List.replicate 24 0)),
  .inr (0, .inl (List.replicate 24 0)),
  .inr (0, .inl (List.replicate 6 0)),
  .inr (0, .inl (List.replicate 6 0)),
  .inr (0, .inl (List.replicate 6 0)),
  .inr (0, .inl (List.replicate 8 0)),
  .inr (0, .inl (List.replicate 8 0)),
  .inr (0, .inl (List.replicate 8 0)),
  .inr (0, .inl (List.replicate 8 0)),
  .inr (1, .inr (.inl (List.replicate 1280 0))),
  .inr (1, .inr (.inl (List.replicate 160 0))),
  .inr (0, .inl [117, 112, 32, 0, 100, 111, 119, 110, 32, 0, 115, 116, 105, 108, 101, 0, 112, 101, 114, 115, 111, 110, 0, 0, 0, 0, 0, 0, 0, 0, 0, 0, 0, 0, 0, 0, 0, 0, 0, 0, 0, 0, 0, 0, 0, 0, 0, 0, 0, 0, 0, 0, 0, 0, 0, 0, 0, 0, 0, 0, 0, 0, 0, 0, 0, 0, 0, 0, 0, 0, 0, 0, 0, 0, 0])], 13, 1621)
set_option maxRecDepth 1000000 in
theorem zx_bm14_ok : zx_seq (zx_it (zx_m 124) 12 zx_bm13) zx_bm14 = true := by decide +kernel
def zx_bm15 : zx_S := (293, [some (.inr (.inr (1, 63)))], [.inr (.inr (1, 76)), .inr (.inr (1, 63))], zx_hX ++ [.inl (8, [.inl 0, .inl 0, .inl (-1), .inl 3, .inl 3, .inl 4, .inl 0, .inl 2, .inl 1, .inl 20, .inl 0, .inl 0, .inl 1, .inl (-1), .inr (.inr (1, 64)), .inr (.inr (1, 65)), .inr (.inr (1, 66)), .inr (.inr (1, 67)), .inr (.inr (1, 68)), .inr (.inr (1, 69)), .inr (.inr (1, 70)), .inr (.inr (1, 71)), .inr (.inr (1, 72)), .inr (.inr (1, 73)), .inr (.inr (1, 74)), .inr (.inr (1, 75)), .inr (.inr (0, 0)), .inr (.inr (0, 0)), .inr (.inr (0, 0)), .inl 0, .inl 0, .inl 0, .inl 0, .inl 0, .inr (.inr (0, 0)), .inr (.inr (0, 0)), .inr (.inr (0, 0)), .inr (.inr (0, 0)), .inr (.inr (0, 0)), .inr (.inr (0, 0)), .inl 0, .inl 0, .inl 0, .inl 0, .inl 0, .inl 0, .inl 0, .inl 0, .inl 0, .inl 0, .inr (.inr (0, 0)), .inl 0, .inl 0]),
  .inr (0, .inl (List.replicate 8 0)),
  .inr (0, .inl (List.replicate 24 0)),
  .inr (0, .inl (List.replicate 24 0)),
  .inr (0, .inl (List.replicate 6 0)),
  .inr (0, .inl (List.replicate 6 0)),
  .inr (0, .inl (List.replicate 6 0)),
  .inr (0, .inl (List.replicate 8 0)),
  .inr (0, .inl (List.replicate 8 0)),
  .inr (0, .inl (List.replicate 8 0)),
  .inr (0, .inl (List.replicate 8 0)),
  .inr (1, .inr (.inl (List.replicate 1280 0))),
  .inr (1, .inr (.inl (List.replicate 160 0))),
  .inr (0, .inl [117, 112, 32, 0, 100, 111, 119, 110, 32, 0, 115, 116, 105, 108, 101, 0, 112, 101, 114, 115, 111, 110, 32, 0, 116, 0, 0, 0, 0, 0, 0, 0, 0, 0, 0, 0, 0, 0, 0, 0, 0, 0, 0, 0, 0, 0, 0, 0, 0, 0, 0, 0, 0, 0, 0, 0, 0, 0, 0, 0, 0, 0, 0, 0, 0, 0, 0, 0, 0, 0, 0, 0, 0, 0, 0])], 13, 1621)
set_option maxRecDepth 1000000 in
theorem zx_bm15_ok : zx_seq (zx_it (zx_m 124) 12 zx_bm14) zx_bm15 = true := by decide +kernel
def zx_bm16 : zx_S := (311, [some (.inr (.inr (1, 63)))], [.inr (.inr (1, 76)), .inr (.inr (1, 63))], zx_hX ++ [.inl (8, [.inl 0, .inl 0, .inl (-1), .inl 3, .inl 3, .inl 4, .inl 0, .inl 2, .inl 1, .inl 20, .inl 0, .inl 0, .inl 1, .inl (-1), .inr (.inr (1, 64)), .inr (.inr (1, 65)), .inr (.inr (1, 66)), .inr (.inr (1, 67)), .inr (.inr (1, 68)), .inr (.inr (1, 69)), .inr (.inr (1, 70)), .inr (.inr (1, 71)), .inr (.inr (1, 72)), .inr (.inr (1, 73)), .inr (.inr (1, 74)), .inr (.inr (1, 75)), .inr (.inr (0, 0)), .inr (.inr (0, 0)), .inr (.inr (0, 0)), .inl 0, .inl 0, .inl 0, .inl 0, .inl 0, .inr (.inr (0, 0)), .inr (.inr (0, 0)), .inr (.inr (0, 0)), .inr (.inr (0, 0)), .inr (.inr (0, 0)), .inr (.inr (0, 0)), .inl 0, .inl 0, .inl 0, .inl 0, .inl 0, .inl 0, .inl 0, .inl 0, .inl 0, .inl 0, .inr (.inr (0, 0)), .inl 0, .inl 0]),
  .inr (0, .inl (List.replicate 8 0)),
  .inr (0, .inl (List.replicate 24 0)),
  .inr (0, .inl (List.replicate 24 0)),
  .inr (0, .inl (List.replicate 6 0)),
  .inr (0, .inl (List.replicate 6 0)),
  .inr (0, .inl (List.replicate 6 0)),
  .inr (0, .inl (List.replicate 8 0)),
  .inr (0, .inl (List.replicate 8 0)),
  .inr (0, .inl (List.replicate 8 0)),
  .inr (0, .inl (List.replicate 8 0)),
  .inr (1, .inr (.inl (List.replicate 1280 0))),
  .inr (1, .inr (.inl (List.replicate 160 0))),
  .inr (0, .inl [117, 112, 32, 0, 100, 111, 119, 110, 32, 0, 115, 116, 105, 108, 101, 0, 112, 101, 114, 115, 111, 110, 32, 0, 116, 105, 114, 101, 0, 0, 0, 0, 0, 0, 0, 0, 0, 0, 0, 0, 0, 0, 0, 0, 0, 0, 0, 0, 0, 0, 0, 0, 0, 0, 0, 0, 0, 0, 0, 0, 0, 0, 0, 0, 0, 0, 0, 0, 0, 0, 0, 0, 0, 0, 0])], 13, 1621)
set_option maxRecDepth 1000000 in
theorem zx_bm16_ok : zx_seq (zx_it (zx_m 124) 12 zx_bm15) zx_bm16 = true := by decide +kernel
def zx_bm17 : zx_S := (328, [some (.inr (.inr (1, 63)))], [.inr (.inr (1, 76)), .inr (.inr (1, 63))], zx_hX ++ [.inl (8, [.inl 0, .inl 0, .inl (-1), .inl 3, .inl 3, .inl 4, .inl 0, .inl 2, .inl 1, .inl 20, .inl 0, .inl 0, .inl 1, .inl (-1), .inr (.inr (1, 64)), .inr (.inr (1, 65)), .inr (.inr (1, 66)), .inr (.inr (1, 67)), .inr (.inr (1, 68)), .inr (.inr (1, 69)), .inr (.inr (1, 70)), .inr (.inr (1, 71)), .inr (.inr (1, 72)), .inr (.inr (1, 73)), .inr (.inr (1, 74)), .inr (.inr (1, 75)), .inr (.inr (0, 0)), .inr (.inr (0, 0)), .inr (.inr (0, 0)), .inl 0, .inl 0, .inl 0, .inl 0, .inl 0, .inr (.inr (0, 0)), .inr (.inr (0, 0)), .inr (.inr (0, 0)), .inr (.inr (0, 0)), .inr (.inr (0, 0)), .inr (.inr (0, 0)), .inl 0, .inl 0, .inl 0, .inl 0, .inl 0, .inl 0, .inl 0, .inl 0, .inl 0, .inl 0, .inr (.inr (0, 0)), .inl 0, .inl 0]),
  .inr (0, .inl (List.replicate 8 0)),
  .inr (0, .inl (List.replicate 24 0)),
  .inr (0, .inl (List.replicate 24 0)),
  .inr (0, .inl (List.replicate 6 0)),
  .inr (0, .inl (List.replicate 6 0)),
  .inr (0, .inl (List.replicate 6 0)),
  .inr (0, .inl (List.replicate 8 0)),
  .inr (0, .inl (List.replicate 8 0)),
  .inr (0, .inl (List.replicate 8 0)),
  .inr (0, .inl (List.replicate 8 0)),
  .inr (1, .inr (.inl (List.replicate 1280 0))),
  .inr (1, .inr (.inl (List.replicate 160 0))),
  .inr (0, .inl [117, 112, 32, 0, 100, 111, 119, 110, 32, 0, 115, 116, 105, 108, 101, 0, 112, 101, 114, 115, 111, 110, 32, 0, 116, 105, 114, 101, 100, 32, 0, 0, 0, 0, 0, 0, 0, 0, 0, 0, 0, 0, 0, 0, 0, 0, 0, 0, 0, 0, 0, 0, 0, 0, 0, 0, 0, 0, 0, 0, 0, 0, 0, 0, 0, 0, 0, 0, 0, 0, 0, 0, 0, 0, 0])], 13, 1621)
set_option maxRecDepth 1000000 in
theorem zx_bm17_ok : zx_seq (zx_it (zx_m 124) 12 zx_bm16) zx_bm17 = true := by decide +kernel
def zx_bm18 : zx_S := (346, [some (.inr (.inr (1, 63)))], [.inr (.inr (1, 76)), .inr (.inr (1, 63))], zx_hX ++ [.inl (8, [.inl 0, .inl 0, .inl (-1), .inl 3, .inl 3, .inl 4, .inl 0, .inl 2, .inl 1, .inl 20, .inl 0, .inl 0, .inl 1, .inl (-1), .inr (.inr (1, 64)), .inr (.inr (1, 65)), .inr (.inr (1, 66)), .inr (.inr (1, 67)), .inr (.inr (1, 68)), .inr (.inr (1, 69)), .inr (.inr (1, 70)), .inr (.inr (1, 71)), .inr (.inr (1, 72)), .inr (.inr (1, 73)), .inr (.inr (1, 74)), .inr (.inr (1, 75)), .inr (.inr (0, 0)), .inr (.inr (0, 0)), .inr (.inr (0, 0)), .inl 0, .inl 0, .inl 0, .inl 0, .inl 0, .inr (.inr (0, 0)), .inr (.inr (0, 0)), .inr (.inr (0, 0)), .inr (.inr (0, 0)), .inr (.inr (0, 0)), .inr (.inr (0, 0)), .inl 0, .inl 0, .inl 0, .inl 0, .inl 0, .inl 0, .inl 0, .inl 0, .inl 0, .inl 0, .inr (.inr (0, 0)), .inl 0, .inl 0]),
  .inr (0, .inl (List.replicate 8 0)),
  .inr (0, .inl (List.replicate 24 0)),
  .inr (0, .inl (List.replicate 24 0)),
  .inr (0, .inl (List.replicate 6 0)),
  .inr (0, .inl (List.replicate 6 0)),
  .inr (0, .inl (List.replicate 6 0)),
  .inr (0, .inl (List.replicate 8 0)),
  .inr (0, .inl (List.replicate 8 0)),
  .inr (0, .inl (List.replicate 8 0)),
  .inr (0, .inl (List.replicate 8 0)),
  .inr (1, .inr (.inl (List.replicate 1280 0))),
  .inr (1, .inr (.inl (List.replicate 160 0))),
  .inr (0, .inl [117, 112, 32, 0, 100, 111, 119, 110, 32, 0, 115, 116, 105, 108, 101, 0, 112, 101, 114, 115, 111, 110, 32, 0, 116, 105, 114, 101, 100, 32, 0, 98, 97, 103, 0, 0, 0, 0, 0, 0, 0, 0, 0, 0, 0, 0, 0, 0, 0, 0, 0, 0, 0, 0, 0, 0, 0, 0, 0, 0, 0, 0, 0, 0, 0, 0, 0, 0, 0, 0, 0, 0, 0, 0, 0])], 13, 1621)
set_option maxRecDepth 1000000 in
theorem zx_bm18_ok : zx_seq (zx_it (zx_m 124) 12 zx_bm17) zx_bm18 = true := by decide +kernel
def zx_bm19 : zx_S := (363, [some (.inr (.inr (1, 63)))], [.inr (.inr (1, 76)), .inr (.inr (1, 63))], zx_hX ++ [.inl (8, [.inl 0, .inl 0, .inl (-1), .inl 3, .inl 3, .inl 4, .inl 0, .inl 2, .inl 1, .inl 20, .inl 0, .inl 0, .inl 1, .inl (-1), .inr (.inr (1, 64)), .inr (.inr (1, 65)), .inr (.inr (1, 66)), .inr (.inr (1, 67)), .inr (.inr (1, 68)), .inr (.inr (1, 69)), .inr (.inr (1, 70)), .inr (.inr (1, 71)), .inr (.inr (1, 72)), .inr (.inr (1, 73)), .inr (.inr (1, 74)), .inr (.inr (1, 75)), .inr (.inr (0, 0)), .inr (.inr (0, 0)), .inr (.inr (0, 0)), .inl 0, .inl 0, .inl 0, .inl 0, .inl 0, .inr (.inr (0, 0)), .inr (.inr (0, 0)), .inr (.inr (0, 0)), .inr (.inr (0, 0)), .inr (.inr (0, 0)), .inr (.inr (0, 0)), .inl 0, .inl 0, .inl 0, .inl 0, .inl 0, .inl 0, .inl 0, .inl 0, .inl 0, .inl 0, .inr (.inr (0, 0)), .inl 0, .inl 0]),
  .inr (0, .inl (List.replicate 8 0)),
  .inr (0, .inl (List.replicate 24 0)),
  .inr (0, .inl (List.replicate 24 0)),
  .inr (0, .inl (List.replicate 6 0)),
  .inr (0, .inl (List.replicate 6 0)),
  .inr (0, .inl (List.replicate 6 0)),
  .inr (0, .inl (List.replicate 8 0)),
  .inr (0, .inl (List.replicate 8 0)),
  .inr (0, .inl (List.replicate 8 0)),
  .inr (0, .inl (List.replicate 8 0)),
  .inr (1, .inr (.inl (List.replicate 1280 0))),
  .inr (1, .inr (.inl (List.replicate 160 0))),
  .inr (0, .inl [117, 112, 32, 0, 100, 111, 119, 110, 32, 0, 115, 116, 105, 108, 101, 0, 112, 101, 114, 115, 111, 110, 32, 0, 116, 105, 114, 101, 100, 32, 0, 98, 97, 103, 32, 0, 108, 0, 0, 0, 0, 0, 0, 0, 0, 0, 0, 0, 0, 0, 0, 0, 0, 0, 0, 0, 0, 0, 0, 0, 0, 0, 0, 0, 0, 0, 0, 0, 0, 0, 0, 0, 0, 0, 0])], 13, 1621)
set_option maxRecDepth 1000000 in
theorem zx_bm19_ok : zx_seq (zx_it (zx_m 124) 12 zx_bm18) zx_bm19 = true := by decide +kernel
def zx_bm20 : zx_S := (381, [some (.inr (.inr (1, 63)))], [.inr (.inr (1, 76)), .inr (.inr (1, 63))], zx_hX ++ [.inl (8, [.inl 0, .inl 0, .inl (-1), .inl 3, .inl 3, .inl 4, .inl 0, .inl 2, .inl 1, .inl 20, .inl 0, .inl 0, .inl 1, .inl (-1), .inr (.inr (1, 64)), .inr (.inr (1, 65)), .inr (.inr (1, 66)), .inr (.inr (1, 67)), .inr (.inr (1, 68)), .inr (.inr (1, 69)), .inr (.inr (1, 70)), .inr (.inr (1, 71)), .inr (.inr (1, 72)), .inr (.inr (1, 73)), .inr (.inr (1, 74)), .inr (.inr (1, 75)), .inr (.inr (0, 0)), .inr (.inr (0, 0)), .inr (.inr (0, 0)), .inl 0, .inl 0, .inl 0, .inl 0, .inl 0, .inr (.inr (0, 0)), .inr (.inr (0, 0)), .inr (.inr (0, 0)), .inr (.inr (0, 0)), .inr (.inr (0, 0)), .inr (.inr (0, 0)), .inl 0, .inl 0, .inl 0, .inl 0, .inl 0, .inl 0, .inl 0, .inl 0, .inl 0, .inl 0, .inr (.inr (0, 0)), .inl 0, .inl 0]),
  .inr (0, .inl (List.replicate 8 0)),
  .inr (0, .inl (List.replicate 24 0)),
  .inr (0, .inl (List.replicate 24 0)),
  .inr (0, .inl (List.replicate 6 0)),
  .inr (0, .inl (List.replicate 6 0)),
  .inr (0, .inl (List.replicate 6 0)),
  .inr (0, .inl (List.replicate 8 0)),
  .inr (0, .inl (List.replicate 8 0)),
  .inr (0, .inl (List.replicate 8 0)),
  .inr (0, .inl (List.replicate 8 0)),
  .inr (1, .inr (.inl (List.replicate 1280 0))),
  .inr (1, .inr (.inl (List.replicate 160 0))),
  .inr (0, .inl [117, 112, 32, 0, 100, 111, 119, 110, 32, 0, 115, 116, 105, 108, 101, 0, 112, 101, 114, 115, 111, 110, 32, 0, 116, 105, 114, 101, 100, 32, 0, 98, 97, 103, 32, 0, 108, 101, 103, 115, 0, 0, 0, 0, 0, 0, 0, 0, 0, 0, 0, 0, 0, 0, 0, 0, 0, 0, 0, 0, 0, 0, 0, 0, 0, 0, 0, 0, 0, 0, 0, 0, 0, 0, 0])], 13, 1621)
set_option maxRecDepth 1000000 in
theorem zx_bm20_ok : zx_seq (zx_it (zx_m 124) 12 zx_bm19) zx_bm20 = true := by decide +kernel
def zx_bm21 : zx_S := (398, [some (.inr (.inr (1, 63)))], [.inr (.inr (1, 76)), .inr (.inr (1, 63))], zx_hX ++ [.inl (8, [.inl 0, .inl 0, .inl (-1), .inl 3, .inl 3, .inl 4, .inl 0, .inl 2, .inl 1, .inl 20, .inl 0, .inl 0, .inl 1, .inl (-1), .inr (.inr (1, 64)), .inr (.inr (1, 65)), .inr (.inr (1, 66)), .inr (.inr (1, 67)), .inr (.inr (1, 68)), .inr (.inr (1, 69)), .inr (.inr (1, 70)), .inr (.inr (1, 71)), .inr (.inr (1, 72)), .inr (.inr (1, 73)), .inr (.inr (1, 74)), .inr (.inr (1, 75)), .inr (.inr (0, 0)), .inr (.inr (0, 0)), .inr (.inr (0, 0)), .inl 0, .inl 0, .inl 0, .inl 0, .inl 0, .inr (.inr (0, 0)), .inr (.inr (0, 0)), .inr (.inr (0, 0)), .inr (.inr (0, 0)), .inr (.inr (0, 0)), .inr (.inr (0, 0)), .inl 0, .inl 0, .inl 0, .inl 0, .inl 0, .inl 0, .inl 0, .inl 0, .inl 0, .inl 0, .inr (.inr (0, 0)), .inl 0, .inl 0]),
  .inr (0, .inl (List.replicate 8 0)),
  .inr (0, .inl (List.replicate 24 0)),
  .inr (0, .inl (List.replicate 24 0)),
  .inr (0, .inl (List.replicate 6 0)),
  .inr (0, .inl (List.replicate 6 0)),
  .inr (0, .inl (List.replicate 6 0)),
  .inr (0, .inl (List.replicate 8 0)),
  .inr (0, .inl (List.replicate 8 0)),
  .inr (0, .inl (List.replicate 8 0)),
  .inr (0, .inl (List.replicate 8 0)),
  .inr (1, .inr (.inl (List.replicate 1280 0))),
  .inr (1, .inr (.inl (List.replicate 160 0))),
  .inr (0, .inl [117, 112, 32, 0, 100, 111, 119, 110, 32, 0, 115, 116, 105, 108, 101, 0, 112, 101, 114, 115, 111, 110, 32, 0, 116, 105, 114, 101, 100, 32, 0, 98, 97, 103, 32, 0, 108, 101, 103, 115, 32, 0, 110, 0, 0, 0, 0, 0, 0, 0, 0, 0, 0, 0, 0, 0, 0, 0, 0, 0, 0, 0, 0, 0, 0, 0, 0, 0, 0, 0, 0, 0, 0, 0, 0])], 13, 1621)
set_option maxRecDepth 1000000 in
theorem zx_bm21_ok : zx_seq (zx_it (zx_m 124) 12 zx_bm20) zx_bm21 = true := by decide +kernel
def zx_bm22 : zx_S := (416, [some (.inr (.inr (1, 63)))], [.inr (.inr (1, 76)), .inr (.inr (1, 63))], zx_hX ++ [.inl (8, [.inl 0, .inl 0, .inl (-1), .inl 3, .inl 3, .inl 4, .inl 0, .inl 2, .inl 1, .inl 20, .inl 0, .inl 0, .inl 1, .inl (-1), .inr (.inr (1, 64)), .inr (.inr (1, 65)), .inr (.inr (1, 66)), .inr (.inr (1, 67)), .inr (.inr (1, 68)), .inr (.inr (1, 69)), .inr (.inr (1, 70)), .inr (.inr (1, 71)), .inr (.inr (1, 72)), .inr (.inr (1, 73)), .inr (.inr (1, 74)), .inr (.inr (1, 75)), .inr (.inr (0, 0)), .inr (.inr (0, 0)), .inr (.inr (0, 0)), .inl 0, .inl 0, .inl 0, .inl 0, .inl 0, .inr (.inr (0, 0)), .inr (.inr (0, 0)), .inr (.inr (0, 0)), .inr (.inr (0, 0)), .inr (.inr (0, 0)), .inr (.inr (0, 0)), .inl 0, .inl 0, .inl 0, .inl 0, .inl 0, .inl 0, .inl 0, .inl 0, .inl 0, .inl 0, .inr (.inr (0, 0)), .inl 0, .inl 0]),
  .inr (0, .inl (List.replicate 8 0)),
  .inr (0, .inl (List.replicate 24 0)),
  .inr (0, .inl (List.replicate 24 0)),
  .inr (0, .inl (List.replicate 6 0)),
  .inr (0, .inl (List.replicate 6 0)),
  .inr (0, .inl (List.replicate 6 0)),
  .inr (0, .inl (List.replicate 8 0)),
  .inr (0, .inl (List.replicate 8 0)),
  .inr (0, .inl (List.replicate 8 0)),
  .inr (0, .inl (List.replicate 8 0)),
  .inr (1, .inr (.inl (List.replicate 1280 0))),
  .inr (1, .inr (.inl (List.replicate 160 0))),
  .inr (0, .inl [117, 112, 32, 0, 100, 111, 119, 110, 32, 0, 115, 116, 105, 108, 101, 0, 112, 101, 114, 115, 111, 110, 32, 0, 116, 105, 114, 101, 100, 32, 0, 98, 97, 103, 32, 0, 108, 101, 103, 115, 32, 0, 110, 97, 112, 32, 0, 0, 0, 0, 0, 0, 0, 0, 0, 0, 0, 0, 0, 0, 0, 0, 0, 0, 0, 0, 0, 0, 0, 0, 0, 0, 0, 0, 0])], 13, 1621)
set_option maxRecDepth 1000000 in
theorem zx_bm22_ok : zx_seq (zx_it (zx_m 124) 12 zx_bm21) zx_bm22 = true := by decide +kernel
def zx_bm23 : zx_S := (433, [some (.inr (.inr (1, 63)))], [.inr (.inr (1, 76)), .inr (.inr (1, 63))], zx_hX ++ [.inl (8, [.inl 0, .inl 0, .inl (-1), .inl 3, .inl 3, .inl 4, .inl 0, .inl 2, .inl 1, .inl 20, .inl 0, .inl 0, .inl 1, .inl (-1), .inr (.inr (1, 64)), .inr (.inr (1, 65)), .inr (.inr (1, 66)), .inr (.inr (1, 67)), .inr (.inr (1, 68)), .inr (.inr (1, 69)), .inr (.inr (1, 70)), .inr (.inr (1, 71)), .inr (.inr (1, 72)), .inr (.inr (1, 73)), .inr (.inr (1, 74)), .inr (.inr (1, 75)), .inr (.inr (0, 0)), .inr (.inr (0, 0)), .inr (.inr (0, 0)), .inl 0, .inl 0, .inl 0, .inl 0, .inl 0, .inr (.inr (0, 0)), .inr (.inr (0, 0)), .inr (.inr (0, 0)), .inr (.inr (0, 0)), .inr (.inr (0, 0)), .inr (.inr (0, 0)), .inl 0, .inl 0, .inl 0, .inl 0, .inl 0, .inl 0, .inl 0, .inl 0, .inl 0, .inl 0, .inr (.inr (0, 0)), .inl 0, .inl 0]),
  .inr (0, .inl (List.replicate 8 0)),
  .inr (0, .inl (List.replicate 24 0)),
  .inr (0, .inl (List.replicate 24 0)),
  .inr (0, .inl (List.replicate 6 0)),
  .inr (0, .inl (List.replicate 6 0)),
  .inr (0, .inl (List.replicate 6 0)),
  .inr (0, .inl (List.replicate 8 0)),
  .inr (0, .inl (List.replicate 8 0)),
  .inr (0, .inl (List.replicate 8 0)),
  .inr (0, .inl (List.replicate 8 0)),
  .inr (1, .inr (.inl (List.replicate 1280 0))),
  .inr (1, .inr (.inl (List.replicate 160 0))),
  .inr (0, .inl [117, 112, 32, 0, 100, 111, 119, 110, 32, 0, 115, 116, 105, 108, 101, 0, 112, 101, 114, 115, 111, 110, 32, 0, 116, 105, 114, 101, 100, 32, 0, 98, 97, 103, 32, 0, 108, 101, 103, 115, 32, 0, 110, 97, 112, 32, 0, 119, 111, 0, 0, 0, 0, 0, 0, 0, 0, 0, 0, 0, 0, 0, 0, 0, 0, 0, 0, 0, 0, 0, 0, 0, 0, 0, 0])], 13, 1621)
set_option maxRecDepth 1000000 in
theorem zx_bm23_ok : zx_seq (zx_it (zx_m 124) 12 zx_bm22) zx_bm23 = true := by decide +kernel
def zx_bm24 : zx_S := (451, [some (.inr (.inr (1, 63)))], [.inr (.inr (1, 76)), .inr (.inr (1, 63))], zx_hX ++ [.inl (8, [.inl 0, .inl 0, .inl (-1), .inl 3, .inl 3, .inl 4, .inl 0, .inl 2, .inl 1, .inl 20, .inl 0, .inl 0, .inl 1, .inl (-1), .inr (.inr (1, 64)), .inr (.inr (1, 65)), .inr (.inr (1, 66)), .inr (.inr (1, 67)), .inr (.inr (1, 68)), .inr (.inr (1, 69)), .inr (.inr (1, 70)), .inr (.inr (1, 71)), .inr (.inr (1, 72)), .inr (.inr (1, 73)), .inr (.inr (1, 74)), .inr (.inr (1, 75)), .inr (.inr (0, 0)), .inr (.inr (0, 0)), .inr (.inr (0, 0)), .inl 0, .inl 0, .inl 0, .inl 0, .inl 0, .inr (.inr (0, 0)), .inr (.inr (0, 0)), .inr (.inr (0, 0)), .inr (.inr (0, 0)), .inr (.inr (0, 0)), .inr (.inr (0, 0)), .inl 0, .inl 0, .inl 0, .inl 0, .inl 0, .inl 0, .inl 0, .inl 0, .inl 0, .inl 0, .inr (.inr (0, 0)), .inl 0, .inl 0]),
  .inr (0, .inl (List.replicate 8 0)),
  .inr (0, .inl (List.replicate 24 0)),
  .inr (0, .inl (List.replicate 24 0)),
  .inr (0, .inl (List.replicate 6 0)),
  .inr (0, .inl (List.replicate 6 0)),
  .inr (0, .inl (List.replicate 6 0)),
  .inr (0, .inl (List.replicate 8 0)),
  .inr (0, .inl (List.replicate 8 0)),
  .inr (0, .inl (List.replicate 8 0)),
  .inr (0, .inl (List.replicate 8 0)),
  .inr (1, .inr (.inl (List.replicate 1280 0))),
  .inr (1, .inr (.inl (List.replicate 160 0))),
  .inr (0, .inl [117, 112, 32, 0, 100, 111, 119, 110, 32, 0, 115, 116, 105, 108, 101, 0, 112, 101, 114, 115, 111, 110, 32, 0, 116, 105, 114, 101, 100, 32, 0, 98, 97, 103, 32, 0, 108, 101, 103, 115, 32, 0, 110, 97, 112, 32, 0, 119, 111, 114, 110, 32, 0, 0, 0, 0, 0, 0, 0, 0, 0, 0, 0, 0, 0, 0, 0, 0, 0, 0, 0, 0, 0, 0, 0])], 13, 1621)
set_option maxRecDepth 1000000 in
theorem zx_bm24_ok : zx_seq (zx_it (zx_m 124) 12 zx_bm23) zx_bm24 = true := by decide +kernel
def zx_bm25 : zx_S := (468, [some (.inr (.inr (1, 63)))], [.inr (.inr (1, 76)), .inr (.inr (1, 63))], zx_hX ++ [.inl (8, [.inl 0, .inl 0, .inl (-1), .inl 3, .inl 3, .inl 4, .inl 0, .inl 2, .inl 1, .inl 20, .inl 0, .inl 0, .inl 1, .inl (-1), .inr (.inr (1, 64)), .inr (.inr (1, 65)), .inr (.inr (1, 66)), .inr (.inr (1, 67)), .inr (.inr (1, 68)), .inr (.inr (1, 69)), .inr (.inr (1, 70)), .inr (.inr (1, 71)), .inr (.inr (1, 72)), .inr (.inr (1, 73)), .inr (.inr (1, 74)), .inr (.inr (1, 75)), .inr (.inr (0, 0)), .inr (.inr (0, 0)), .inr (.inr (0, 0)), .inl 0, .inl 0, .inl 0, .inl 0, .inl 0, .inr (.inr (0, 0)), .inr (.inr (0, 0)), .inr (.inr (0, 0)), .inr (.inr (0, 0)), .inr (.inr (0, 0)), .inr (.inr (0, 0)), .inl 0, .inl 0, .inl 0, .inl 0, .inl 0, .inl 0, .inl 0, .inl 0, .inl 0, .inl 0, .inr (.inr (0, 0)), .inl 0, .inl 0]),
  .inr (0, .inl (List.replicate 8 0)),
  .inr (0, .inl (List.replicate 24 0)),
  .inr (0, .inl (List.replicate 24 0)),
  .inr (0, .inl (List.replicate 6 0)),
  .inr (0, .inl (List.replicate 6 0)),
  .inr (0, .inl (List.replicate 6 0)),
  .inr (0, .inl (List.replicate 8 0)),
  .inr (0, .inl (List.replicate 8 0)),
  .inr (0, .inl (List.replicate 8 0)),
  .inr (0, .inl (List.replicate 8 0)),
  .inr (1, .inr (.inl (List.replicate 1280 0))),
  .inr (1, .inr (.inl (List.replicate 160 0))),
  .inr (0, .inl [117, 112, 32, 0, 100, 111, 119, 110, 32, 0, 115, 116, 105, 108, 101, 0, 112, 101, 114, 115, 111, 110, 32, 0, 116, 105, 114, 101, 100, 32, 0, 98, 97, 103, 32, 0, 108, 101, 103, 115, 32, 0, 110, 97, 112, 32, 0, 119, 111, 114, 110, 32, 0, 98, 105, 0, 0, 0, 0, 0, 0, 0, 0, 0, 0, 0, 0, 0, 0, 0, 0, 0, 0, 0, 0])], 13, 1621)
set_option maxRecDepth 1000000 in
theorem zx_bm25_ok : zx_seq (zx_it (zx_m 124) 12 zx_bm24) zx_bm25 = true := by decide +kernel
def zx_bm26 : zx_S := (486, [some (.inr (.inr (1, 63)))], [.inr (.inr (1, 76)), .inr (.inr (1, 63))], zx_hX ++ [.inl (8, [.inl 0, .inl 0, .inl (-1), .inl 3, .inl 3, .inl 4, .inl 0, .inl 2, .inl 1, .inl 20, .inl 0, .inl 0, .inl 1, .inl (-1), .inr (.inr (1, 64)), .inr (.inr (1, 65)), .inr (.inr (1, 66)), .inr (.inr (1, 67)), .inr (.inr (1, 68)), .inr (.inr (1, 69)), .inr (.inr (1, 70)), .inr (.inr (1, 71)), .inr (.inr (1, 72)), .inr (.inr (1, 73)), .inr (.inr (1, 74)), .inr (.inr (1, 75)), .inr (.inr (0, 0)), .inr (.inr (0, 0)), .inr (.inr (0, 0)), .inl 0, .inl 0, .inl 0, .inl 0, .inl 0, .inr (.inr (0, 0)), .inr (.inr (0, 0)), .inr (.inr (0, 0)), .inr (.inr (0, 0)), .inr (.inr (0, 0)), .inr (.inr (0, 0)), .inl 0, .inl 0, .inl 0, .inl 0, .inl 0, .inl 0, .inl 0, .inl 0, .inl 0, .inl 0, .inr (.inr (0, 0)), .inl 0, .inl 0]),
  .inr (0, .inl (List.replicate 8 0)),
  .inr (0, .inl (List.replicate 24 0)),
  .inr (0, .inl (List.replicate 24 0)),
  .inr (0, .inl (List.replicate 6 0)),
  .inr (0, .inl (List.replicate 6 0)),
  .inr (0, .inl (List.replicate 6 0)),
  .inr (0, .inl (List.replicate 8 0)),
  .inr (0, .inl (List.replicate 8 0)),
  .inr (0, .inl (List.replicate 8 0)),
  .inr (0, .inl (List.replicate 8 0)),
  .inr (1, .inr (.inl (List.replicate 1280 0))),
  .inr (1, .inr (.inl (List.replicate 160 0))),
  .inr (0, .inl [117, 112, 32, 0, 100, 111, 119, 110, 32, 0, 115, 116, 105, 108, 101, 0, 112, 101, 114, 115, 111, 110, 32, 0, 116, 105, 114, 101, 100, 32, 0, 98, 97, 103, 32, 0, 108, 101, 103, 115, 32, 0, 110, 97, 112, 32, 0, 119, 111, 114, 110, 32, 0, 98, 105, 115, 99, 117, 0, 0, 0, 0, 0, 0, 0, 0, 0, 0, 0, 0, 0, 0, 0, 0, 0])], 13, 1621)
set_option maxRecDepth 1000000 in
theorem zx_bm26_ok : zx_seq (zx_it (zx_m 124) 12 zx_bm25) zx_bm26 = true := by decide +kernel
def zx_bm27 : zx_S := (504, [some (.inr (.inr (1, 63)))], [.inr (.inr (1, 76)), .inr (.inr (1, 63))], zx_hX ++ [.inl (8, [.inl 0, .inl 0, .inl (-1), .inl 3, .inl 3, .inl 4, .inl 0, .inl 2, .inl 1, .inl 20, .inl 0, .inl 0, .inl 1, .inl (-1), .inr (.inr (1, 64)), .inr (.inr (1, 65)), .inr (.inr (1, 66)), .inr (.inr (1, 67)), .inr (.inr (1, 68)), .inr (.inr (1, 69)), .inr (.inr (1, 70)), .inr (.inr (1, 71)), .inr (.inr (1, 72)), .inr (.inr (1, 73)), .inr (.inr (1, 74)), .inr (.inr (1, 75)), .inr (.inr (0, 0)), .inr (.inr (0, 0)), .inr (.inr (0, 0)), .inl 0, .inl 0, .inl 0, .inl 0, .inl 0, .inr (.inr (0, 0)), .inr (.inr (0, 0)), .inr (.inr (0, 0)), .inr (.inr (0, 0)), .inr (.inr (0, 0)), .inr (.inr (0, 0)), .inl 0, .inl 0, .inl 0, .inl 0, .inl 0, .inl 0, .inl 0, .inl 0, .inl 0, .inl 0, .inr (.inr (0, 0)), .inl 0, .inl 0]),
  .inr (0, .inl (List.replicate 8 0)),
  .inr (0, .inl (List.replicate 24 0)),
  .inr (0, .inl (List.replicate 24 0)),
  .inr (0, .inl (List.replicate 6 0)),
  .inr (0, .inl (List.replicate 6 0)),
  .inr (0, .inl (List.replicate 6 0)),
  .inr (0, .inl (List.replicate 8 0)),
  .inr (0, .inl (List.replicate 8 0)),
  .inr (0, .inl (List.replicate 8 0)),
  .inr (0, .inl (List.replicate 8 0)),
  .inr (1, .inr (.inl (List.replicate 1280 0))),
  .inr (1, .inr (.inl (List.replicate 160 0))),
  .inr (0, .inl [117, 112, 32, 0, 100, 111, 119, 110, 32, 0, 115, 116, 105, 108, 101, 0, 112, 101, 114, 115, 111, 110, 32, 0, 116, 105, 114, 101, 100, 32, 0, 98, 97, 103, 32, 0, 108, 101, 103, 115, 32, 0, 110, 97, 112, 32, 0, 119, 111, 114, 110, 32, 0, 98, 105, 115, 99, 117, 105, 116, 115, 0, 0, 0, 0, 0, 0, 0, 0, 0, 0, 0, 0, 0, 0])], 13, 1621)
set_option maxRecDepth 1000000 in
theorem zx_bm27_ok : zx_seq (zx_it (zx_m 124) 12 zx_bm26) zx_bm27 = true := by decide +kernel
def zx_bm28 : zx_S := (521, [some (.inr (.inr (1, 63)))], [.inr (.inr (1, 76)), .inr (.inr (1, 63))], zx_hX ++ [.inl (8, [.inl 0, .inl 0, .inl (-1), .inl 3, .inl 3, .inl 4, .inl 0, .inl 2, .inl 1, .inl 20, .inl 0, .inl 0, .inl 1, .inl (-1), .inr (.inr (1, 64)), .inr (.inr (1, 65)), .inr (.inr (1, 66)), .inr (.inr (1, 67)), .inr (.inr (1, 68)), .inr (.inr (1, 69)), .inr (.inr (1, 70)), .inr (.inr (1, 71)), .inr (.inr (1, 72)), .inr (.inr (1, 73)), .inr (.inr (1, 74)), .inr (.inr (1, 75)), .inr (.inr (0, 0)), .inr (.inr (0, 0)), .inr (.inr (0, 0)), .inl 0, .inl 0, .inl 0, .inl 0, .inl 0, .inr (.inr (0, 0)), .inr (.inr (0, 0)), .inr (.inr (0, 0)), .inr (.inr (0, 0)), .inr (.inr (0, 0)), .inr (.inr (0, 0)), .inl 0, .inl 0, .inl 0, .inl 0, .inl 0, .inl 0, .inl 0, .inl 0, .inl 0, .inl 0, .inr (.inr (0, 0)), .inl 0, .inl 0]),
  .inr (0, .inl (List.replicate 8 0)),
  .inr (0, .inl (List.replicate 24 0)),
  .inr (0, .inl (List.replicate 24 0)),
  .inr (0, .inl (List.replicate 6 0)),
  .inr (0, .inl (List.replicate 6 0)),
  .inr (0, .inl (List.replicate 6 0)),
  .inr (0, .inl (List.replicate 8 0)),
  .inr (0, .inl (List.replicate 8 0)),
  .inr (0, .inl (List.replicate 8 0)),
  .inr (0, .inl (List.replicate 8 0)),
  .inr (1, .inr (.inl (List.replicate 1280 0))),
  .inr (1, .inr (.inl (List.replicate 160 0))),
  .inr (0, .inl [117, 112, 32, 0, 100, 111, 119, 110, 32, 0, 115, 116, 105, 108, 101, 0, 112, 101, 114, 115, 111, 110, 32, 0, 116, 105, 114, 101, 100, 32, 0, 98, 97, 103, 32, 0, 108, 101, 103, 115, 32, 0, 110, 97, 112, 32, 0, 119, 111, 114, 110, 32, 0, 98, 105, 115, 99, 117, 105, 116, 115, 32, 0, 114, 0, 0, 0, 0, 0, 0, 0, 0, 0, 0, 0])], 13, 1621)
set_option maxRecDepth 1000000 in
theorem zx_bm28_ok : zx_seq (zx_it (zx_m 124) 12 zx_bm27) zx_bm28 = true := by decide +kernel
def zx_bm29 : zx_S := (539, [some (.inr (.inr (1, 63)))], [.inr (.inr (1, 76)), .inr (.inr (1, 63))], zx_hX ++ [.inl (8, [.inl 0, .inl 0, .inl (-1), .inl 3, .inl 3, .inl 4, .inl 0, .inl 2, .inl 1, .inl 20, .inl 0, .inl 0, .inl 1, .inl (-1), .inr (.inr (1, 64)), .inr (.inr (1, 65)), .inr (.inr (1, 66)), .inr (.inr (1, 67)), .inr (.inr (1, 68)), .inr (.inr (1, 69)), .inr (.inr (1, 70)), .inr (.inr (1, 71)), .inr (.inr (1, 72)), .inr (.inr (1, 73)), .inr (.inr (1, 74)), .inr (.inr (1, 75)), .inr (.inr (0, 0)), .inr (.inr (0, 0)), .inr (.inr (0, 0)), .inl 0, .inl 0, .inl 0, .inl 0, .inl 0, .inr (.inr (0, 0)), .inr (.inr (0, 0)), .inr (.inr (0, 0)), .inr (.inr (0, 0)), .inr (.inr (0, 0)), .inr (.inr (0, 0)), .inl 0, .inl 0, .inl 0, .inl 0, .inl 0, .inl 0, .inl 0, .inl 0, .inl 0, .inl 0, .inr (.inr (0, 0)), .inl 0, .inl 0]),
  .inr (0, .inl (List.replicate 8 0)),
  .inr (0, .inl (List.replicate 24 0)),
  .inr (0, .inl (List.replicate 24 0)),
  .inr (0, .inl (List.replicate 6 0)),
  .inr (0, .inl (List.replicate 6 0)),
  .inr (0, .inl (List.replicate 6 0)),
  .inr (0, .inl (List.replicate 8 0)),
  .inr (0, .inl (List.replicate 8 0)),
  .inr (0, .inl (List.replicate 8 0)),
  .inr (0, .inl (List.replicate 8 0)),
  .inr (1, .inr (.inl (List.replicate 1280 0))),
  .inr (1, .inr (.inl (List.replicate 160 0))),
  .inr (0, .inl [117, 112, 32, 0, 100, 111, 119, 110, 32, 0, 115, 116, 105, 108, 101, 0, 112, 101, 114, 115, 111, 110, 32, 0, 116, 105, 114, 101, 100, 32, 0, 98, 97, 103, 32, 0, 108, 101, 103, 115, 32, 0, 110, 97, 112, 32, 0, 119, 111, 114, 110, 32, 0, 98, 105, 115, 99, 117, 105, 116, 115, 32, 0, 114, 97, 99, 101, 0, 0, 0, 0, 0, 0, 0, 0])], 13, 1621)
set_option maxRecDepth 1000000 in
theorem zx_bm29_ok : zx_seq (zx_it (zx_m 124) 12 zx_bm28) zx_bm29 = true := by decide +kernel
def zx_bm30 : zx_S := (556, [some (.inr (.inr (1, 63)))], [.inr (.inr (1, 76)), .inr (.inr (1, 63))], zx_hX ++ [.inl (8, [.inl 0, .inl 0, .inl (-1), .inl 3, .inl 3, .inl 4, .inl 0, .inl 2, .inl 1, .inl 20, .inl 0, .inl 0, .inl 1, .inl (-1), .inr (.inr (1, 64)), .inr (.inr (1, 65)), .inr (.inr (1, 66)), .inr (.inr (1, 67)), .inr (.inr (1, 68)), .inr (.inr (1, 69)), .inr (.inr (1, 70)), .inr (.inr (1, 71)), .inr (.inr (1, 72)), .inr (.inr (1, 73)), .inr (.inr (1, 74)), .inr (.inr (1, 75)), .inr (.inr (0, 0)), .inr (.inr (0, 0)), .inr (.inr (0, 0)), .inl 0, .inl 0, .inl 0, .inl 0, .inl 0, .inr (.inr (0, 0)), .inr (.inr (0, 0)), .inr (.inr (0, 0)), .inr (.inr (0, 0)), .inr (.inr (0, 0)), .inr (.inr (0, 0)), .inl 0, .inl 0, .inl 0, .inl 0, .inl 0, .inl 0, .inl 0, .inl 0, .inl 0, .inl 0, .inr (.inr (0, 0)), .inl 0, .inl 0]),
  .inr (0, .inl (List.replicate 8 0)),
  .inr (0, .inl (List.replicate 24 0)),
  .inr (0, .inl (List.replicate 24 0)),
  .inr (0, .inl (List.replicate 6 0)),
  .inr (0, .inl (List.replicate 6 0)),
  .inr (0, .inl (List.replicate 6 0)),
  .inr (0, .inl (List.replicate 8 0)),
  .inr (0, .inl (List.replicate 8 0)),
  .inr (0, .inl (List.replicate 8 0)),
  .inr (0, .inl (List.replicate 8 0)),
  .inr (1, .inr (.inl (List.replicate 1280 0))),
  .inr (1, .inr (.inl (List.replicate 160 0))),
  .inr (0, .inl [117, 112, 32, 0, 100, 111, 119, 110, 32, 0, 115, 116, 105, 108, 101, 0, 112, 101, 114, 115, 111, 110, 32, 0, 116, 105, 114, 101, 100, 32, 0, 98, 97, 103, 32, 0, 108, 101, 103, 115, 32, 0, 110, 97, 112, 32, 0, 119, 111, 114, 110, 32, 0, 98, 105, 115, 99, 117, 105, 116, 115, 32, 0, 114, 97, 99, 101, 115, 32, 0, 0, 0, 0, 0, 0])], 13, 1621)
set_option maxRecDepth 1000000 in
theorem zx_bm30_ok : zx_seq (zx_it (zx_m 124) 12 zx_bm29) zx_bm30 = true := by decide +kernel
def zx_bm31 : zx_S := (574, [some (.inr (.inr (1, 63)))], [.inr (.inr (1, 76)), .inr (.inr (1, 63))], zx_hX ++ [.inl (8, [.inl 0, .inl 0, .inl (-1), .inl 3, .inl 3, .inl 4, .inl 0, .inl 2, .inl 1, .inl 20, .inl 0, .inl 0, .inl 1, .inl (-1), .inr (.inr (1, 64)), .inr (.inr (1, 65)), .inr (.inr (1, 66)), .inr (.inr (1, 67)), .inr (.inr (1, 68)), .inr (.inr (1, 69)), .inr (.inr (1, 70)), .inr (.inr (1, 71)), .inr (.inr (1, 72)), .inr (.inr (1, 73)), .inr (.inr (1, 74)), .inr (.inr (1, 75)), .inr (.inr (0, 0)), .inr (.inr (0, 0)), .inr (.inr (0, 0)), .inl 0, .inl 0, .inl 0, .inl 0, .inl 0, .inr (.inr (0, 0)), .inr (.inr (0, 0)), .inr (.inr (0, 0)), .inr (.inr (0, 0)), .inr (.inr (0, 0)), .inr (.inr (0, 0)), .inl 0, .inl 0, .inl 0, .inl 0, .inl 0, .inl 0, .inl 0, .inl 0, .inl 0, .inl 0, .inr (.inr (0, 0)), .inl 0, .inl 0]),
  .inr (0, .inl (List.replicate 8 0)),
  .inr (0, .inl (List.replicate 24 0)),
  .inr (0, .inl (List.replicate 24 0)),
  .inr (0, .inl (List.replicate 6 0)),
  .inr (0, .inl (List.replicate 6 0)),
  .inr (0, .inl (List.replicate 6 0)),
  .inr (0, .inl (List.replicate 8 0)),
  .inr (0, .inl (List.replicate 8 0)),
  .inr (0, .inl (List.replicate 8 0)),
  .inr (0, .inl (List.replicate 8 0)),
  .inr (1, .inr (.inl (List.replicate 1280 0))),
  .inr (1, .inr (.inl (List.replicate 160 0))),
  .inr (0, .inl [117, 112, 32, 0, 100, 111, 119, 110, 32, 0, 115, 116, 105, 108, 101, 0, 112, 101, 114, 115, 111, 110, 32, 0, 116, 105, 114, 101, 100, 32, 0, 98, 97, 103, 32, 0, 108, 101, 103, 115, 32, 0, 110, 97, 112, 32, 0, 119, 111, 114, 110, 32, 0, 98, 105, 115, 99, 117, 105, 116, 115, 32, 0, 114, 97, 99, 101, 115, 32, 0, 97, 99, 116, 0, 0])], 13, 1621)
set_option maxRecDepth 1000000 in
theorem zx_bm31_ok : zx_seq (zx_it (zx_m 124) 12 zx_bm30) zx_bm31 = true := by decide +kernel
def zx_bm32 : zx_S := (593, [some (.inr (.inr (1, 63)))], [.inr (.inr (1, 77)), .inr (.inr (1, 63))], zx_hX ++ [.inl (8, [.inl 0, .inl 0, .inl (-1), .inl 3, .inl 3, .inl 4, .inl 0, .inl 2, .inl 1, .inl 20, .inl 0, .inl 0, .inl 1, .inl (-1), .inr (.inr (1, 64)), .inr (.inr (1, 65)), .inr (.inr (1, 66)), .inr (.inr (1, 67)), .inr (.inr (1, 68)), .inr (.inr (1, 69)), .inr (.inr (1, 70)), .inr (.inr (1, 71)), .inr (.inr (1, 72)), .inr (.inr (1, 73)), .inr (.inr (1, 74)), .inr (.inr (1, 75)), .inr (.inr (1, 76)), .inr (.inr (0, 0)), .inr (.inr (0, 0)), .inl 0, .inl 0, .inl 0, .inl 0, .inl 0, .inr (.inr (0, 0)), .inr (.inr (0, 0)), .inr (.inr (0, 0)), .inr (.inr (0, 0)), .inr (.inr (0, 0)), .inr (.inr (0, 0)), .inl 0, .inl 0, .inl 0, .inl 0, .inl 0, .inl 0, .inl 0, .inl 0, .inl 0, .inl 0, .inr (.inr (0, 0)), .inl 0, .inl 0]),
  .inr (0, .inl (List.replicate 8 0)),
  .inr (0, .inl (List.replicate 24 0)),
  .inr (0, .inl (List.replicate 24 0)),
  .inr (0, .inl (List.replicate 6 0)),
  .inr (0, .inl (List.replicate 6 0)),
  .inr (0, .inl (List.replicate 6 0)),
  .inr (0, .inl (List.replicate 8 0)),
  .inr (0, .inl (List.replicate 8 0)),
  .inr (0, .inl (List.replicate 8 0)),
  .inr (0, .inl (List.replicate 8 0)),
  .inr (1, .inr (.inl (List.replicate 1280 0))),
  .inr (1, .inr (.inl (List.replicate 160 0))),
  .inr (0, .inl [117, 112, 32, 0, 100, 111, 119, 110, 32, 0, 115, 116, 105, 108, 101, 0, 112, 101, 114, 115, 111, 110, 32, 0, 116, 105, 114, 101, 100, 32, 0, 98, 97, 103, 32, 0, 108, 101, 103, 115, 32, 0, 110, 97, 112, 32, 0, 119, 111, 114, 110, 32, 0, 98, 105, 115, 99, 117, 105, 116, 115, 32, 0, 114, 97, 99, 101, 115, 32, 0, 97, 99, 116, 32, 0]),
  .inr (0, .inl (List.replicate 12 0))], 14, 1633)
set_option maxRecDepth 1000000 in
theorem zx_bm32_ok : zx_seq (zx_it (zx_m 124) 12 zx_bm31) zx_bm32 = true := by decide +kernel
def zx_bm33 : zx_S := (605, [some (.inr (.inr (1, 63)))], [.inr (.inr (1, 77)), .inr (.inr (1, 63))], zx_hX ++ [.inl (8, [.inl 0, .inl 0, .inl (-1), .inl 3, .inl 3, .inl 4, .inl 0, .inl 2, .inl 1, .inl 20, .inl 0, .inl 0, .inl 1, .inl (-1), .inr (.inr (1, 64)), .inr (.inr (1, 65)), .inr (.inr (1, 66)), .inr (.inr (1, 67)), .inr (.inr (1, 68)), .inr (.inr (1, 69)), .inr (.inr (1, 70)), .inr (.inr (1, 71)), .inr (.inr (1, 72)), .inr (.inr (1, 73)), .inr (.inr (1, 74)), .inr (.inr (1, 75)), .inr (.inr (1, 76)), .inr (.inr (0, 0)), .inr (.inr (0, 0)), .inl 0, .inl 0, .inl 0, .inl 0, .inl 0, .inr (.inr (0, 0)), .inr (.inr (0, 0)), .inr (.inr (0, 0)), .inr (.inr (0, 0)), .inr (.inr (0, 0)), .inr (.inr (0, 0)), .inl 0, .inl 0, .inl 0, .inl 0, .inl 0, .inl 0, .inl 0, .inl 0, .inl 0, .inl 0, .inr (.inr (0, 0)), .inl 0, .inl 0]),
  .inr (0, .inl (List.replicate 8 0)),
  .inr (0, .inl (List.replicate 24 0)),
  .inr (0, .inl (List.replicate 24 0)),
  .inr (0, .inl (List.replicate 6 0)),
  .inr (0, .inl (List.replicate 6 0)),
  .inr (0, .inl (List.replicate 6 0)),
  .inr (0, .inl (List.replicate 8 0)),
  .inr (0, .inl (List.replicate 8 0)),
  .inr (0, .inl (List.replicate 8 0)),
  .inr (0, .inl (List.replicate 8 0)),
  .inr (1, .inr (.inl (List.replicate 1280 0))),
  .inr (1, .inr (.inl (List.replicate 160 0))),
  .inr (0, .inl [117, 112, 32, 0, 100, 111, 119, 110, 32, 0, 115, 116, 105, 108, 101, 0, 112, 101, 114, 115, 111, 110, 32, 0, 116, 105, 114, 101, 100, 32, 0, 98, 97, 103, 32, 0, 108, 101, 103, 115, 32, 0, 110, 97, 112, 32, 0, 119, 111, 114, 110, 32, 0, 98, 105, 115, 99, 117, 105, 116, 115, 32, 0, 114, 97, 99, 101, 115, 32, 0, 97, 99, 116, 32, 0]),
  .inr (0, .inl [1, 1, 0, 0, 0, 0, 0, 0, 0, 0, 0, 0])], 14, 1633)
set_option maxRecDepth 1000000 in
theorem zx_bm33_ok : zx_seq (zx_it (zx_m 124) 12 zx_bm32) zx_bm33 = true := by decide +kernel
def zx_bm34 : zx_S := (617, [some (.inr (.inr (1, 63)))], [.inr (.inr (1, 77)), .inr (.inr (1, 63))], zx_hX ++ [.inl (8, [.inl 0, .inl 0, .inl (-1), .inl 3, .inl 3, .inl 4, .inl 0, .inl 2, .inl 1, .inl 20, .inl 0, .inl 0, .inl 1, .inl (-1), .inr (.inr (1, 64)), .inr (.inr (1, 65)), .inr (.inr (1, 66)), .inr (.inr (1, 67)), .inr (.inr (1, 68)), .inr (.inr (1, 69)), .inr (.inr (1, 70)), .inr (.inr (1, 71)), .inr (.inr (1, 72)), .inr (.inr (1, 73)), .inr (.inr (1, 74)), .inr (.inr (1, 75)), .inr (.inr (1, 76)), .inr (.inr (0, 0)), .inr (.inr (0, 0)), .inl 0, .inl 0, .inl 0, .inl 0, .inl 0, .inr (.inr (0, 0)), .inr (.inr (0, 0)), .inr (.inr (0, 0)), .inr (.inr (0, 0)), .inr (.inr (0, 0)), .inr (.inr (0, 0)), .inl 0, .inl 0, .inl 0, .inl 0, .inl 0, .inl 0, .inl 0, .inl 0, .inl 0, .inl 0, .inr (.inr (0, 0)), .inl 0, .inl 0]),
  .inr (0, .inl (List.replicate 8 0)),
  .inr (0, .inl (List.replicate 24 0)),
  .inr (0, .inl (List.replicate 24 0)),
  .inr (0, .inl (List.replicate 6 0)),
  .inr (0, .inl (List.replicate 6 0)),
  .inr (0, .inl (List.replicate 6 0)),
  .inr (0, .inl (List.replicate 8 0)),
  .inr (0, .inl (List.replicate 8 0)),
  .inr (0, .inl (List.replicate 8 0)),
  .inr (0, .inl (List.replicate 8 0)),
  .inr (1, .inr (.inl (List.replicate 1280 0))),
  .inr (1, .inr (.inl (List.replicate 160 0))),
  .inr (0, .inl [117, 112, 32, 0, 100, 111, 119, 110, 32, 0, 115, 116, 105, 108, 101, 0, 112, 101, 114, 115, 111, 110, 32, 0, 116, 105, 114, 101, 100, 32, 0, 98, 97, 103, 32, 0, 108, 101, 103, 115, 32, 0, 110, 97, 112, 32, 0, 119, 111, 114, 110, 32, 0, 98, 105, 115, 99, 117, 105, 116, 115, 32, 0, 114, 97, 99, 101, 115, 32, 0, 97, 99, 116, 32, 0]),
  .inr (0, .inl [1, 1, 0, 2, 2, 1, 0, 0, 0, 0, 0, 0])], 14, 1633)
set_option maxRecDepth 1000000 in
theorem zx_bm34_ok : zx_seq (zx_it (zx_m 124) 12 zx_bm33) zx_bm34 = true := by decide +kernel
def zx_bm35 : zx_S := (632, [some (.inr (.inr (1, 63)))], [.inr (.inr (1, 77)), .inr (.inr (1, 63))], zx_hX ++ [.inl (8, [.inl 0, .inl 0, .inl (-1), .inl 3, .inl 3, .inl 4, .inl 0, .inl 2, .inl 1, .inl 20, .inl 0, .inl 0, .inl 1, .inl (-1), .inr (.inr (1, 64)), .inr (.inr (1, 65)), .inr (.inr (1, 66)), .inr (.inr (1, 67)), .inr (.inr (1, 68)), .inr (.inr (1, 69)), .inr (.inr (1, 70)), .inr (.inr (1, 71)), .inr (.inr (1, 72)), .inr (.inr (1, 73)), .inr (.inr (1, 74)), .inr (.inr (1, 75)), .inr (.inr (1, 76)), .inr (.inr (0, 0)), .inr (.inr (0, 0)), .inl 0, .inl 0, .inl 0, .inl 0, .inl 0, .inr (.inr (0, 0)), .inr (.inr (0, 0)), .inr (.inr (0, 0)), .inr (.inr (0, 0)), .inr (.inr (0, 0)), .inr (.inr (0, 0)), .inl 0, .inl 0, .inl 0, .inl 0, .inl 0, .inl 0, .inl 0, .inl 0, .inl 0, .inl 0, .inr (.inr (0, 0)), .inl 0, .inl 0]),
  .inr (0, .inl (List.replicate 8 0)),
  .inr (0, .inl (List.replicate 24 0)),
  .inr (0, .inl (List.replicate 24 0)),
  .inr (0, .inl (List.replicate 6 0)),
  .inr (0, .inl (List.replicate 6 0)),
  .inr (0, .inl (List.replicate 6 0)),
  .inr (0, .inl (List.replicate 8 0)),
  .inr (0, .inl (List.replicate 8 0)),
  .inr (0, .inl (List.replicate 8 0)),
  .inr (0, .inl (List.replicate 8 0)),
  .inr (1, .inr (.inl (List.replicate 1280 0))),
  .inr (1, .inr (.inl (List.replicate 160 0))),
  .inr (0, .inl [117, 112, 32, 0, 100, 111, 119, 110, 32, 0, 115, 116, 105, 108, 101, 0, 112, 101, 114, 115, 111, 110, 32, 0, 116, 105, 114, 101, 100, 32, 0, 98, 97, 103, 32, 0, 108, 101, 103, 115, 32, 0, 110, 97, 112, 32, 0, 119, 111, 114, 110, 32, 0, 98, 105, 115, 99, 117, 105, 116, 115, 32, 0, 114, 97, 99, 101, 115, 32, 0, 97, 99, 116, 32, 0]),
  .inr (0, .inl [1, 1, 0, 2, 2, 1, 1, 1, 1, 0, 0, 0])], 14, 1633)
set_option maxRecDepth 1000000 in
theorem zx_bm35_ok : zx_seq (zx_it (zx_m 124) 12 zx_bm34) zx_bm35 = true := by decide +kernel
def zx_bm36 : zx_S := (647, [some (.inr (.inr (1, 63)))], [.inr (.inr (1, 77)), .inr (.inr (1, 63))], zx_hX ++ [.inl (8, [.inl 0, .inl 0, .inl (-1), .inl 3, .inl 3, .inl 4, .inl 0, .inl 2, .inl 1, .inl 20, .inl 0, .inl 0, .inl 1, .inl (-1), .inr (.inr (1, 64)), .inr (.inr (1, 65)), .inr (.inr (1, 66)), .inr (.inr (1, 67)), .inr (.inr (1, 68)), .inr (.inr (1, 69)), .inr (.inr (1, 70)), .inr (.inr (1, 71)), .inr (.inr (1, 72)), .inr (.inr (1, 73)), .inr (.inr (1, 74)), .inr (.inr (1, 75)), .inr (.inr (1, 76)), .inr (.inr (0, 0)), .inr (.inr (0, 0)), .inl 0, .inl 0, .inl 0, .inl 0, .inl 0, .inr (.inr (0, 0)), .inr (.inr (0, 0)), .inr (.inr (0, 0)), .inr (.inr (0, 0)), .inr (.inr (0, 0)), .inr (.inr (0, 0)), .inl 0, .inl 0, .inl 0, .inl 0, .inl 0, .inl 0, .inl 0, .inl 0, .inl 0, .inl 0, .inr (.inr (0, 0)), .inl 0, .inl 0]),
  .inr (0, .inl (List.replicate 8 0)),
  .inr (0, .inl (List.replicate 24 0)),
  .inr (0, .inl (List.replicate 24 0)),
  .inr (0, .inl (List.replicate 6 0)),
  .inr (0, .inl (List.replicate 6 0)),
  .inr (0, .inl (List.replicate 6 0)),
  .inr (0, .inl (List.replicate 8 0)),
  .inr (0, .inl (List.replicate 8 0)),
  .inr (0, .inl (List.replicate 8 0)),
  .inr (0, .inl (List.replicate 8 0)),
  .inr (1, .inr (.inl (List.replicate 1280 0))),
  .inr (1, .inr (.inl (List.replicate 160 0))),
  .inr (0, .inl [117, 112, 32, 0, 100, 111, 119, 110, 32, 0, 115, 116, 105, 108, 101, 0, 112, 101, 114, 115, 111, 110, 32, 0, 116, 105, 114, 101, 100, 32, 0, 98, 97, 103, 32, 0, 108, 101, 103, 115, 32, 0, 110, 97, 112, 32, 0, 119, 111, 114, 110, 32, 0, 98, 105, 115, 99, 117, 105, 116, 115, 32, 0, 114, 97, 99, 101, 115, 32, 0, 97, 99, 116, 32, 0]),
  .inr (0, .inl [1, 1, 0, 2, 2, 1, 1, 1, 1, 1, 1, 1])], 14, 1633)
set_option maxRecDepth 1000000 in
theorem zx_bm36_ok : zx_seq (zx_it (zx_m 124) 12 zx_bm35) zx_bm36 = true := by decide +kernel
def zx_bm37 : zx_S := (670, [some (.inr (.inr (1, 63)))], [.inr (.inr (1, 80)), .inr (.inr (1, 63))], zx_hX ++ [.inl (8, [.inl 0, .inl 0, .inl (-1), .inl 3, .inl 3, .inl 4, .inl 0, .inl 2, .inl 1, .inl 20, .inl 0, .inl 0, .inl 1, .inl (-1), .inr (.inr (1, 64)), .inr (.inr (1, 65)), .inr (.inr (1, 66)), .inr (.inr (1, 67)), .inr (.inr (1, 68)), .inr (.inr (1, 69)), .inr (.inr (1, 70)), .inr (.inr (1, 71)), .inr (.inr (1, 72)), .inr (.inr (1, 73)), .inr (.inr (1, 74)), .inr (.inr (1, 75)), .inr (.inr (1, 76)), .inr (.inr (1, 77)), .inr (.inr (1, 78)), .inl 0, .inl 0, .inl 0, .inl 0, .inl 0, .inr (.inr (1, 79)), .inr (.inr (0, 0)), .inr (.inr (0, 0)), .inr (.inr (0, 0)), .inr (.inr (0, 0)), .inr (.inr (0, 0)), .inl 0, .inl 0, .inl 0, .inl 0, .inl 0, .inl 0, .inl 0, .inl 0, .inl 0, .inl 0, .inr (.inr (0, 0)), .inl 0, .inl 0]),
  .inr (0, .inl (List.replicate 8 0)),
  .inr (0, .inl (List.replicate 24 0)),
  .inr (0, .inl (List.replicate 24 0)),
  .inr (0, .inl (List.replicate 6 0)),
  .inr (0, .inl (List.replicate 6 0)),
  .inr (0, .inl (List.replicate 6 0)),
  .inr (0, .inl (List.replicate 8 0)),
  .inr (0, .inl (List.replicate 8 0)),
  .inr (0, .inl (List.replicate 8 0)),
  .inr (0, .inl (List.replicate 8 0)),
  .inr (1, .inr (.inl (List.replicate 1280 0))),
  .inr (1, .inr (.inl (List.replicate 160 0))),
  .inr (0, .inl [117, 112, 32, 0, 100, 111, 119, 110, 32, 0, 115, 116, 105, 108, 101, 0, 112, 101, 114, 115, 111, 110, 32, 0, 116, 105, 114, 101, 100, 32, 0, 98, 97, 103, 32, 0, 108, 101, 103, 115, 32, 0, 110, 97, 112, 32, 0, 119, 111, 114, 110, 32, 0, 98, 105, 115, 99, 117, 105, 116, 115, 32, 0, 114, 97, 99, 101, 115, 32, 0, 97, 99, 116, 32, 0]),
  .inr (0, .inl [1, 1, 0, 2, 2, 1, 1, 1, 1, 1, 1, 1]),
  .inr (0, .inl (List.replicate 2 0)),
  .inr (0, .inl (List.replicate 90 0)),
  .inr (0, .inl (List.replicate 90 0))], 17, 1815)
set_option maxRecDepth 1000000 in
theorem zx_bm37_ok : zx_seq (zx_it (zx_m 124) 12 zx_bm36) zx_bm37 = true := by decide +kernel
def zx_bm38 : zx_S := (694, [some (.inr (.inr (1, 63)))], [.inr (.inr (1, 83)), .inr (.inr (1, 63))], zx_hX ++ [.inl (8, [.inl 0, .inl 0, .inl (-1), .inl 3, .inl 3, .inl 4, .inl 0, .inl 2, .inl 1, .inl 20, .inl 0, .inl 0, .inl 1, .inl (-1), .inr (.inr (1, 64)), .inr (.inr (1, 65)), .inr (.inr (1, 66)), .inr (.inr (1, 67)), .inr (.inr (1, 68)), .inr (.inr (1, 69)), .inr (.inr (1, 70)), .inr (.inr (1, 71)), .inr (.inr (1, 72)), .inr (.inr (1, 73)), .inr (.inr (1, 74)), .inr (.inr (1, 75)), .inr (.inr (1, 76)), .inr (.inr (1, 77)), .inr (.inr (1, 78)), .inl 0, .inl 0, .inl 0, .inl 0, .inl 0, .inr (.inr (1, 79)), .inr (.inr (1, 80)), .inr (.inr (1, 81)), .inr (.inr (1, 82)), .inr (.inr (0, 0)), .inr (.inr (0, 0)), .inl 0, .inl 0, .inl 0, .inl 0, .inl 0, .inl 0, .inl 0, .inl 0, .inl 0, .inl 0, .inr (.inr (0, 0)), .inl 0, .inl 0]),
  .inr (0, .inl (List.replicate 8 0)),
  .inr (0, .inl (List.replicate 24 0)),
  .inr (0, .inl (List.replicate 24 0)),
  .inr (0, .inl (List.replicate 6 0)),
  .inr (0, .inl (List.replicate 6 0)),
  .inr (0, .inl (List.replicate 6 0)),
  .inr (0, .inl (List.replicate 8 0)),
  .inr (0, .inl (List.replicate 8 0)),
  .inr (0, .inl (List.replicate 8 0)),
  .inr (0, .inl (List.replicate 8 0)),
  .inr (1, .inr (.inl (List.replicate 1280 0))),
  .inr (1, .inr (.inl (List.replicate 160 0))),
  .inr (0, .inl [117, 112, 32, 0, 100, 111, 119, 110, 32, 0, 115, 116, 105, 108, 101, 0, 112, 101, 114, 115, 111, 110, 32, 0, 116, 105, 114, 101, 100, 32, 0, 98, 97, 103, 32, 0, 108, 101, 103, 115, 32, 0, 110, 97, 112, 32, 0, 119, 111, 114, 110, 32, 0, 98, 105, 115, 99, 117, 105, 116, 115, 32, 0, 114, 97, 99, 101, 115, 32, 0, 97, 99, 116, 32, 0]),
  .inr (0, .inl [1, 1, 0, 2, 2, 1, 1, 1, 1, 1, 1, 1]),
  .inr (0, .inl (List.replicate 2 0)),
  .inr (0, .inl (List.replicate 90 0)),
  .inr (0, .inl (List.replicate 90 0)),
  .inr (0, .inl (List.replicate 90 0)),
  .inr (0, .inl (List.replicate 450 0)),
  .inr (0, .inl (List.replicate 4 0))], 20, 2359)
set_option maxRecDepth 1000000 in
theorem zx_bm38_ok : zx_seq (zx_it (zx_m 124) 12 zx_bm37) zx_bm38 = true := by decide +kernel
def zx_bm39 : zx_S := (712, [some (.inr (.inr (1, 63)))], [], zx_hX ++ [.inl (8, [.inl 0, .inl 0, .inl (-1), .inl 3, .inl 3, .inl 4, .inl 0, .inl 2, .inl 1, .inl 20, .inl 0, .inl 0, .inl 1, .inl (-1), .inr (.inr (1, 64)), .inr (.inr (1, 65)), .inr (.inr (1, 66)), .inr (.inr (1, 67)), .inr (.inr (1, 68)), .inr (.inr (1, 69)), .inr (.inr (1, 70)), .inr (.inr (1, 71)), .inr (.inr (1, 72)), .inr (.inr (1, 73)), .inr (.inr (1, 74)), .inr (.inr (1, 75)), .inr (.inr (1, 76)), .inr (.inr (1, 77)), .inr (.inr (1, 78)), .inl 0, .inl 0, .inl 0, .inl 0, .inl 0, .inr (.inr (1, 79)), .inr (.inr (1, 80)), .inr (.inr (1, 81)), .inr (.inr (1, 82)), .inr (.inr (1, 83)), .inr (.inr (1, 84)), .inl 0, .inl 0, .inl 0, .inl 0, .inl 0, .inl 0, .inl 0, .inl 0, .inl 0, .inl 0, .inr (.inr (1, 85)), .inl 0, .inl 0]),
  .inr (0, .inl (List.replicate 8 0)),
  .inr (0, .inl (List.replicate 24 0)),
  .inr (0, .inl (List.replicate 24 0)),
  .inr (0, .inl (List.replicate 6 0)),
  .inr (0, .inl (List.replicate 6 0)),
  .inr (0, .inl (List.replicate 6 0)),
  .inr (0, .inl (List.replicate 8 0)),
  .inr (0, .inl (List.replicate 8 0)),
  .inr (0, .inl (List.replicate 8 0)),
  .inr (0, .inl (List.replicate 8 0)),
  .inr (1, .inr (.inl (List.replicate 1280 0))),
  .inr (1, .inr (.inl (List.replicate 160 0))),
  .inr (0, .inl [117, 112, 32, 0, 100, 111, 119, 110, 32, 0, 115, 116, 105, 108, 101, 0, 112, 101, 114, 115, 111, 110, 32, 0, 116, 105, 114, 101, 100, 32, 0, 98, 97, 103, 32, 0, 108, 101, 103, 115, 32, 0, 110, 97, 112, 32, 0, 119, 111, 114, 110, 32, 0, 98, 105, 115, 99, 117, 105, 116, 115, 32, 0, 114, 97, 99, 101, 115, 32, 0, 97, 99, 116, 32, 0]),
  .inr (0, .inl [1, 1, 0, 2, 2, 1, 1, 1, 1, 1, 1, 1]),
  .inr (0, .inl (List.replicate 2 0)),
  .inr (0, .inl (List.replicate 90 0)),
  .inr (0, .inl (List.replicate 90 0)),
  .inr (0, .inl (List.replicate 90 0)),
  .inr (0, .inl (List.replicate 450 0)),
  .inr (0, .inl (List.replicate 4 0)),
  .inr (0, .inl (List.replicate 4 0)),
  .inr (0, .inl (List.replicate 20 0))], 22, 2383)
set_option maxRecDepth 1000000 in
theorem zx_bm39_ok : zx_seq (zx_it (zx_m 124) 9 zx_bm38) zx_bm39 = true := by decide +kernel
def zx_hM : List zx_C := zx_hX ++ [.inl (8, [.inl 0, .inl 0, .inl (-1), .inl 3, .inl 3, .inl 4, .inl 0, .inl 2, .inl 1, .inl 20, .inl 0, .inl 0, .inl 1, .inl (-1), .inr (.inr (1, 64)), .inr (.inr (1, 65)), .inr (.inr (1, 66)), .inr (.inr (1, 67)), .inr (.inr (1, 68)), .inr (.inr (1, 69)), .inr (.inr (1, 70)), .inr (.inr (1, 71)), .inr (.inr (1, 72)), .inr (.inr (1, 73)), .inr (.inr (1, 74)), .inr (.inr (1, 75)), .inr (.inr (1, 76)), .inr (.inr (1, 77)), .inr (.inr (1, 78)), .inl 0, .inl 0, .inl 0, .inl 0, .inl 0, .inr (.inr (1, 79)), .inr (.inr (1, 80)), .inr (.inr (1, 81)), .inr (.inr (1, 82)), .inr (.inr (1, 83)), .inr (.inr (1, 84)), .inl 0, .inl 0, .inl 0, .inl 0, .inl 0, .inl 0, .inl 0, .inl 0, .inl 0, .inl 0, .inr (.inr (1, 85)), .inl 0, .inl 0]),
  .inr (0, .inl (List.replicate 8 0)),
  .inr (0, .inl (List.replicate 24 0)),
  .inr (0, .inl (List.replicate 24 0)),
  .inr (0, .inl (List.replicate 6 0)),
  .inr (0, .inl (List.replicate 6 0)),
  .inr (0, .inl (List.replicate 6 0)),
  .inr (0, .inl (List.replicate 8 0)),
  .inr (0, .inl (List.replicate 8 0)),
  .inr (0, .inl (List.replicate 8 0)),
  .inr (0, .inl (List.replicate 8 0)),
  .inr (1, .inr (.inl (List.replicate 1280 0))),
  .inr (1, .inr (.inl (List.replicate 160 0))),
  .inr (0, .inl [117, 112, 32, 0, 100, 111, 119, 110, 32, 0, 115, 116, 105, 108, 101, 0, 112, 101, 114, 115, 111, 110, 32, 0, 116, 105, 114, 101, 100, 32, 0, 98, 97, 103, 32, 0, 108, 101, 103, 115, 32, 0, 110, 97, 112, 32, 0, 119, 111, 114, 110, 32, 0, 98, 105, 115, 99, 117, 105, 116, 115, 32, 0, 114, 97, 99, 101, 115, 32, 0, 97, 99, 116, 32, 0]),
  .inr (0, .inl [1, 1, 0, 2, 2, 1, 1, 1, 1, 1, 1, 1]),
  .inr (0, .inl (List.replicate 2 0)),
  .inr (0, .inl (List.replicate 90 0)),
  .inr (0, .inl (List.replicate 90 0)),
  .inr (0, .inl (List.replicate 90 0)),
  .inr (0, .inl (List.replicate 450 0)),
  .inr (0, .inl (List.replicate 4 0)),
  .inr (0, .inl (List.replicate 4 0)),
  .inr (0, .inl (List.replicate 20 0))]
end
section
/-! part 18: longer runs, deeper runs; runs put together; a state's run with its end (zx_T), a method's (zx_M) -/
section
variable {sc : zx_Sc} {t : zx_MT} {run run' : Nat → List zx_V → List zx_C → Option zx_R} {pc nc ns : Nat} {L : List (Option zx_V)} {S : List zx_V} {h : List zx_C} {x : zx_S ⊕ zx_R}
theorem zx_m_ret (hr : ∀ k as h r, run k as h = some r → run' k as h = some r) {k : Nat} {as r : List zx_V} {h2 : List zx_C} (h1 : zx_ret pc L r h nc ns (run k as h2) = some x) : zx_ret pc L r h nc ns (run' k as h2) = some x := by
  cases e : run k as h2 with
  | none => rw [e] at h1; cases h1
  | some q => rw [hr _ _ _ _ e]; rw [e] at h1; exact h1
theorem zx_m_iv (hr : ∀ k as h r, run k as h = some r → run' k as h = some r) {o ix : Nat} : zx_iv run o ix pc L S h nc ns = some x → zx_iv run' o ix pc L S h nc ns = some x := by
  unfold zx_iv
  cases e0 : zx_lk zx_lM o ix with
  | none => exact id
  | some q =>
    obtain ⟨k, np⟩ := q
    show (if _ then _ else none) = some x → (if _ then _ else none) = some x
    by_cases g : zx_mk (zx_m k) = 0 ∧ k < 221
    · rw [if_pos g, if_pos g]
      cases e1 : S.drop (zx_mp (zx_m k)) with
      | nil => exact id
      | cons v r =>
        rcases v with y | y | ⟨tg, a⟩
        · exact id
        · exact id
        · match tg with
          | 0 => exact id
          | 1 =>
            cases e2 : h[a]? with
            | none => intro h1; simp only [e2] at h1; cases h1
            | some c =>
              rcases c with ⟨ci, fs⟩ | c
              · simp only [e2]
                by_cases g2 : ci = zx_mo (zx_m k) ∧ ci < 9 ∧ zx_cs r ≤ 8 ∧ zx_mp (zx_m k) ≤ S.length
                · rw [if_pos g2, if_pos g2]
                  exact zx_m_ret hr
                · rw [if_neg g2, if_neg g2]
                  exact id
              · intro h1; simp only [e2] at h1; cases h1
          | 2 =>
            show (if _ then _ else none) = some x → (if _ then _ else none) = some x
            by_cases g2 : a < 12 ∧ zx_mo (zx_m k) = 11 ∧ zx_cs r ≤ 8 ∧ zx_mp (zx_m k) ≤ S.length
            · rw [if_pos g2, if_pos g2]
              exact zx_m_ret hr
            · rw [if_neg g2, if_neg g2]
              exact id
          | n + 3 => exact id
    · rw [if_neg g, if_neg g]
      exact id
theorem zx_m_is (hr : ∀ k as h r, run k as h = some r → run' k as h = some r) {o ix : Nat} : zx_is run o ix pc L S h nc ns = some x → zx_is run' o ix pc L S h nc ns = some x := by
  unfold zx_is
  cases e0 : zx_lk zx_lM o ix with
  | none => exact id
  | some q =>
    obtain ⟨k, np⟩ := q
    show (if _ then _ else _) = some x → (if _ then _ else _) = some x
    by_cases g : zx_mk (zx_m k) = 1 ∧ k < 221 ∧ zx_cs (S.drop (zx_mp (zx_m k))) ≤ 8 ∧ zx_mp (zx_m k) ≤ S.length
    · rw [if_pos g, if_pos g]
      exact zx_m_ret hr
    · rw [if_neg g, if_neg g]
      exact id
theorem zx_m_ii (hr : ∀ k as h r, run k as h = some r → run' k as h = some r) {o ix : Nat} : zx_ii run o ix pc L S h nc ns = some x → zx_ii run' o ix pc L S h nc ns = some x := by
  unfold zx_ii
  cases e0 : zx_lk zx_lM o ix with
  | none => exact id
  | some q =>
    obtain ⟨k, np⟩ := q
    show (if _ then _ else none) = some x → (if _ then _ else none) = some x
    by_cases g : zx_mk (zx_m k) = 2 ∧ k < 221
    · rw [if_pos g, if_pos g]
      cases e1 : S.drop (zx_mp (zx_m k)) with
      | nil => exact id
      | cons v r =>
        rcases v with y | y | ⟨tg, a⟩
        · exact id
        · exact id
        · match tg with
          | 0 => exact id
          | 1 =>
            show (if _ then _ else none) = some x → (if _ then _ else none) = some x
            by_cases g2 : zx_cs r ≤ 8 ∧ zx_mp (zx_m k) ≤ S.length
            · rw [if_pos g2, if_pos g2]
              exact zx_m_ret hr
            · rw [if_neg g2, if_neg g2]
              exact id
          | n + 2 => exact id
    · rw [if_neg g, if_neg g]
      exact id
theorem zx_m_ins (hr : ∀ k as h r, run k as h = some r → run' k as h = some r) {ins : Instr} (h1 : zx_ins sc run t ins pc L S h nc ns = some x) : zx_ins sc run' t ins pc L S h nc ns = some x := by
  cases ins
  case invokevirtual ix => exact zx_m_iv hr h1
  case invokestatic ix => exact zx_m_is hr h1
  case invokespecial ix => exact zx_m_ii hr h1
  all_goals exact h1
theorem zx_m_stp (hr : ∀ k as h r, run k as h = some r → run' k as h = some r) {st : zx_S} (h1 : zx_stp sc run t st = some x) : zx_stp sc run' t st = some x := by
  unfold zx_stp at h1 ⊢
  cases e : decode (zx_mb t) st.1 with
  | error z => rw [e] at h1; cases h1
  | ok q =>
    obtain ⟨ins, len⟩ := q
    rw [e] at h1
    replace h1 : (if zx_lok ins len = true then zx_ins sc run t ins st.1 st.2.1 st.2.2.1 st.2.2.2.1 st.2.2.2.2.1 st.2.2.2.2.2 else none) = some x := h1
    show (if zx_lok ins len = true then zx_ins sc run' t ins st.1 st.2.1 st.2.2.1 st.2.2.2.1 st.2.2.2.2.1 st.2.2.2.2.2 else none) = some x
    by_cases g : zx_lok ins len = true
    · rw [if_pos g] at h1 ⊢
      exact zx_m_ins hr h1
    · rw [if_neg g] at h1
      cases h1
end
def zx_rr (n d : Nat) : Nat → List zx_V → List zx_C → Option zx_R := fun k as h => match d with
  | 0 => none
  | d + 1 => if zx_cs as ≤ zx_mn (zx_m k) then zx_ex n d none (zx_m k) (0, zx_L0 (zx_mn (zx_m k)) as, [], h, 0, 0) else none
theorem zx_ex_succ (n d : Nat) (sc : zx_Sc) (t : zx_MT) (st : zx_S) : zx_ex (n + 1) d sc t st = match zx_stp sc (zx_rr n d) t st with
    | some (.inl st') => zx_ex n d sc t st'
    | some (.inr r) => some r
    | none => none := by
  conv => lhs; unfold zx_ex
  rfl
theorem zx_ex_mono : ∀ (n m d e : Nat) (sc : zx_Sc) (t : zx_MT) (st : zx_S) (r : zx_R), n ≤ m → d ≤ e → zx_ex n d sc t st = some r → zx_ex m e sc t st = some r := by
  intro n
  induction n with
  | zero => intro m d e sc t st r _ _ h; cases h
  | succ n ih =>
    intro m d e sc t st r hm hd h
    obtain ⟨m, rfl⟩ : ∃ q, m = q + 1 := ⟨m - 1, by omega⟩
    rw [zx_ex_succ] at h ⊢
    have hr : ∀ k as h r, zx_rr n d k as h = some r → zx_rr m e k as h = some r := by
      intro k as h' r' h1
      unfold zx_rr at h1 ⊢
      cases d with
      | zero => cases h1
      | succ d =>
        obtain ⟨e, rfl⟩ : ∃ q, e = q + 1 := ⟨e - 1, by omega⟩
        simp only at h1 ⊢
        split at h1
        · rename_i g
          rw [if_pos g]
          exact ih m d e none _ _ _ (by omega) (by omega) h1
        · cases h1
    split at h
    · rename_i st' e1
      rw [zx_m_stp hr e1]
      exact ih m d e sc t st' r (by omega) hd h
    · rename_i r' e1
      rw [zx_m_stp hr e1]
      exact h
    · cases h
/-- a run to an end -/
def zx_Rn (sc : zx_Sc) (d : Nat) (t : zx_MT) (st : zx_S) (r : zx_R) : Prop := ∃ n, zx_ex n d sc t st = some r
theorem zx_rr_mono {n m d e k : Nat} {as : List zx_V} {h : List zx_C} {r : zx_R} (hn : n ≤ m) (hd : d ≤ e) (h1 : zx_rr n d k as h = some r) : zx_rr m e k as h = some r := by
  unfold zx_rr at h1 ⊢
  cases d with
  | zero => cases h1
  | succ d =>
    obtain ⟨e, rfl⟩ : ∃ q, e = q + 1 := ⟨e - 1, by omega⟩
    simp only at h1 ⊢
    split at h1
    · rename_i g
      rw [if_pos g]
      exact zx_ex_mono n m d e none _ _ _ hn (by omega) h1
    · cases h1
theorem zx_Rn_deep {sc : zx_Sc} {d e : Nat} {t : zx_MT} {st : zx_S} {r : zx_R} (hd : d ≤ e) (h : zx_Rn sc d t st r) : zx_Rn sc e t st r := by
  obtain ⟨n, hn⟩ := h
  exact ⟨n, zx_ex_mono n n d e sc t st r (Nat.le_refl _) hd hn⟩
theorem zx_Rn_step {sc : zx_Sc} {d N : Nat} {t : zx_MT} {st st' : zx_S} {r : zx_R} (h1 : zx_stp sc (zx_rr N d) t st = some (.inl st')) (h2 : zx_Rn sc d t st' r) : zx_Rn sc d t st r := by
  obtain ⟨n, hn⟩ := h2
  refine ⟨max n N + 1, ?_⟩
  rw [zx_ex_succ, zx_m_stp (fun _ _ _ _ q => zx_rr_mono (Nat.le_max_right n N) (Nat.le_refl d) q) h1]
  exact zx_ex_mono n _ d d sc t st' r (Nat.le_max_left n N) (Nat.le_refl _) hn
theorem zx_Rn_end {sc : zx_Sc} {d N : Nat} {t : zx_MT} {st : zx_S} {r : zx_R} (h1 : zx_stp sc (zx_rr N d) t st = some (.inr r)) : zx_Rn sc d t st r := by
  refine ⟨N + 1, ?_⟩
  rw [zx_ex_succ, h1]
theorem zx_it_run {t : zx_MT} : ∀ (n : Nat) {st st' : zx_S} {r : zx_R}, zx_it t n st = some st' → zx_Rn none 21 t st' r → zx_Rn none 21 t st r
  | 0, st, st', r, h, k => by
    cases h
    exact k
  | n + 1, st, st', r, h, k => by
    unfold zx_it at h
    split at h
    · rename_i st1 e
      have e2 : zx_stp none (zx_rr 300 21) t st = some (.inl st1) := e
      exact zx_Rn_step e2 (zx_it_run n h k)
    · cases h
theorem zx_it_seq {t : zx_MT} {n : Nat} {st st' : zx_S} {r : zx_R} (h : zx_seq (zx_it t n st) st' = true) (k : zx_Rn none 21 t st' r) : zx_Rn none 21 t st r := zx_it_run n (zx_seq_ok h) k
/-- the state's run ends, as many cells there as before, with Q of its answer and its cells -/
def zx_W (sc : zx_Sc) (nc ns d : Nat) (t : zx_MT) (pc : Nat) (L : List (Option zx_V)) (S : List zx_V) (h : List zx_C) (Q : Option zx_V → List zx_C → Prop) : Prop := ∃ (v : Option zx_V) (h' : List zx_C), zx_Rn sc d t (pc, L, S, h, nc, ns) (v, h', nc, ns) ∧ h'.length = h.length ∧ Q v h'
def zx_M (d k : Nat) (as : List zx_V) (h : List zx_C) (Q : Option zx_V → List zx_C → Prop) : Prop := ∃ (v : Option zx_V) (h' : List zx_C), (∃ n, zx_run n d k as h = some (v, h', 0, 0)) ∧ h'.length = h.length ∧ Q v h'
theorem zx_M_of {d k : Nat} {as : List zx_V} {h : List zx_C} {Q : Option zx_V → List zx_C → Prop} (hc : zx_cs as ≤ zx_mn (zx_m k)) {t : zx_MT} (ht : zx_m k = t) {L : List (Option zx_V)} (hL : zx_L0 (zx_mn t) as = L) (h1 : zx_W none 0 0 d t 0 L [] h Q) : zx_M d k as h Q := by
  subst ht hL
  obtain ⟨v, h', ⟨n, hn⟩, hl, hq⟩ := h1
  refine ⟨v, h', ⟨n, ?_⟩, hl, hq⟩
  unfold zx_run
  rw [if_pos hc]
  exact hn
theorem zx_M_cons {d k : Nat} {as : List zx_V} {h : List zx_C} {Q Q' : Option zx_V → List zx_C → Prop} (h1 : zx_M d k as h Q) (hq : ∀ v h', h'.length = h.length → Q v h' → Q' v h') : zx_M d k as h Q' := by
  obtain ⟨v, h', a, b, c⟩ := h1
  exact ⟨v, h', a, b, hq v h' b c⟩
theorem zx_M_deep {d e k : Nat} {as : List zx_V} {h : List zx_C} {Q : Option zx_V → List zx_C → Prop} (hd : d ≤ e) (h1 : zx_M d k as h Q) : zx_M e k as h Q := by
  obtain ⟨v, h', ⟨n, hn⟩, b, c⟩ := h1
  refine ⟨v, h', ⟨n, ?_⟩, b, c⟩
  unfold zx_run at hn ⊢
  split at hn
  · rename_i g
    rw [if_pos g]
    exact zx_ex_mono n n d e none _ _ _ (Nat.le_refl _) hd hn
  · cases hn
section
variable {sc : zx_Sc} {d nc ns : Nat} {t : zx_MT} {pc pc' : Nat} {L L' : List (Option zx_V)} {S S' : List zx_V} {h h' : List zx_C} {Q : Option zx_V → List zx_C → Prop}
theorem zx_W_stp {N : Nat} (h1 : zx_stp sc (zx_rr N d) t (pc, L, S, h, nc, ns) = some (.inl (pc', L', S', h', nc, ns))) (hl : h'.length = h.length) (k : zx_W sc nc ns d t pc' L' S' h' Q) : zx_W sc nc ns d t pc L S h Q := by
  obtain ⟨v, h2, a, b, c⟩ := k
  exact ⟨v, h2, zx_Rn_step h1 a, b.trans hl, c⟩
theorem zx_stp_ins {run : Nat → List zx_V → List zx_C → Option zx_R} {ins : Instr} {len : Nat} {st : zx_S} (hdg : decode (zx_mb t) st.1 = .ok (ins, len)) (hlen : zx_lok ins len = true) : zx_stp sc run t st = zx_ins sc run t ins st.1 st.2.1 st.2.2.1 st.2.2.2.1 st.2.2.2.2.1 st.2.2.2.2.2 := by
  unfold zx_stp
  simp only [hdg]
  rw [if_pos hlen]
/-- a step that calls nobody -/
theorem zx_W_ins {ins : Instr} {len : Nat} (hdg : decode (zx_mb t) pc = .ok (ins, len)) (hlen : zx_lok ins len = true) (h1 : ∀ run, zx_ins sc run t ins pc L S h nc ns = some (.inl (pc', L', S', h', nc, ns))) (hl : h'.length = h.length) (k : zx_W sc nc ns d t pc' L' S' h' Q) : zx_W sc nc ns d t pc L S h Q :=
  zx_W_stp (N := 0) ((zx_stp_ins (st := (pc, L, S, h, nc, ns)) (run := zx_rr 0 d) (sc := sc) hdg hlen).trans (h1 (zx_rr 0 d))) hl k
/-- an end -/
theorem zx_W_end {ins : Instr} {len : Nat} {v : Option zx_V} (hdg : decode (zx_mb t) pc = .ok (ins, len)) (hlen : zx_lok ins len = true) (h1 : ∀ run, zx_ins sc run t ins pc L S h nc ns = some (.inr (v, h, nc, ns))) (q : Q v h) : zx_W sc nc ns d t pc L S h Q :=
  ⟨v, h, zx_Rn_end (N := 0) ((zx_stp_ins (st := (pc, L, S, h, nc, ns)) (run := zx_rr 0 d) (sc := sc) hdg hlen).trans (h1 (zx_rr 0 d))), rfl, q⟩
theorem zx_rr_run {n k : Nat} {as : List zx_V} {r : zx_R} (h1 : zx_run n d k as h = some r) : zx_rr n (d + 1) k as h = some r := h1
/-- a call: the callee's end, then the caller's run -/
theorem zx_W_call {ins : Instr} {k : Nat} {as r : List zx_V} (hdg : decode (zx_mb t) pc = .ok (ins, 3)) (hlen : zx_lok ins 3 = true) (h1 : ∀ run, zx_ins sc run t ins pc L S h nc ns = zx_ret pc L r h nc ns (run k as h))
    (hM : zx_M d k as h (fun v h' => h'.length = h.length → zx_W sc nc ns (d + 1) t (pc + 3) L (v.toList ++ r) h' Q)) : zx_W sc nc ns (d + 1) t pc L S h Q := by
  obtain ⟨v, h', ⟨n, hn⟩, hl, k2⟩ := hM
  refine zx_W_stp (N := n) (pc' := pc + 3) (L' := L) (S' := v.toList ++ r) (h' := h') ?_ hl (k2 hl)
  refine (zx_stp_ins (st := (pc, L, S, h, nc, ns)) (run := zx_rr n (d + 1)) (sc := sc) hdg hlen).trans ?_
  show zx_ins sc (zx_rr n (d + 1)) t ins pc L S h nc ns = _
  rw [h1, zx_rr_run hn]
  unfold zx_ret
  simp only
  rw [if_pos (Or.inl hl)]
  rfl
theorem zx_W_cons {Q' : Option zx_V → List zx_C → Prop} (h1 : zx_W sc nc ns d t pc L S h Q) (hq : ∀ v h', h'.length = h.length → Q v h' → Q' v h') : zx_W sc nc ns d t pc L S h Q' := by
  obtain ⟨v, h', a, b, c⟩ := h1
  exact ⟨v, h', a, b, hq v h' b c⟩
end
end
section
/-! part 19: from the law's entry to its loop's head: laid by wip/p2/law0.py -/
def zx_obj (ci : Nat) : zx_C := .inl (ci, (List.range (zx_fn ci)).map (fun k => zx_df (zx_ft ci k)))
theorem zx_bx_d : decode (zx_mb (zx_m 67)) 170 = .ok (.return_, 1) := by decide +kernel
set_option maxRecDepth 100000 in
theorem zx_bx_e : zx_Rn none 21 (zx_m 67) zx_bx21 (none, zx_hX, 62, 1925) := zx_Rn_end (N := 0) ((zx_stp_ins (st := zx_bx21) zx_bx_d rfl).trans rfl)
theorem zx_bx_r : zx_Rn none 21 (zx_m 67) zx_bx0 (none, zx_hX, 62, 1925) := zx_it_seq zx_bx1_ok (zx_it_seq zx_bx2_ok (zx_it_seq zx_bx3_ok (zx_it_seq zx_bx4_ok (zx_it_seq zx_bx5_ok (zx_it_seq zx_bx6_ok (zx_it_seq zx_bx7_ok (zx_it_seq zx_bx8_ok (zx_it_seq zx_bx9_ok (zx_it_seq zx_bx10_ok (zx_it_seq zx_bx11_ok (zx_it_seq zx_bx12_ok (zx_it_seq zx_bx13_ok (zx_it_seq zx_bx14_ok (zx_it_seq zx_bx15_ok (zx_it_seq zx_bx16_ok (zx_it_seq zx_bx17_ok (zx_it_seq zx_bx18_ok (zx_it_seq zx_bx19_ok (zx_it_seq zx_bx20_ok (zx_it_seq zx_bx21_ok (zx_bx_e)))))))))))))))))))))
set_option maxRecDepth 100000 in
theorem zx_bx_run : ∃ N, zx_rr N 200 67 [.inr (.inr (1, 0))] [zx_obj 7] = some (none, zx_hX, 62, 1925) := by
  obtain ⟨n, hn⟩ := zx_bx_r
  refine ⟨n, ?_⟩
  have h1 := zx_ex_mono n n 21 199 none _ _ _ (Nat.le_refl _) (by decide) hn
  have h2 : zx_bx0 = (0, zx_L0 (zx_mn (zx_m 67)) [.inr (.inr (1, 0))], [], [zx_obj 7], 0, 0) := rfl
  rw [h2] at h1
  show (if zx_cs [.inr (.inr (1, 0))] ≤ zx_mn (zx_m 67) then _ else none) = _
  rw [if_pos (by decide)]
  exact h1
theorem zx_bm_d : decode (zx_mb (zx_m 124)) 712 = .ok (.return_, 1) := by decide +kernel
set_option maxRecDepth 100000 in
theorem zx_bm_e : zx_Rn none 21 (zx_m 124) zx_bm39 (none, zx_hM, 22, 2383) := zx_Rn_end (N := 0) ((zx_stp_ins (st := zx_bm39) zx_bm_d rfl).trans rfl)
theorem zx_bm_r : zx_Rn none 21 (zx_m 124) zx_bm0 (none, zx_hM, 22, 2383) := zx_it_seq zx_bm1_ok (zx_it_seq zx_bm2_ok (zx_it_seq zx_bm3_ok (zx_it_seq zx_bm4_ok (zx_it_seq zx_bm5_ok (zx_it_seq zx_bm6_ok (zx_it_seq zx_bm7_ok (zx_it_seq zx_bm8_ok (zx_it_seq zx_bm9_ok (zx_it_seq zx_bm10_ok (zx_it_seq zx_bm11_ok (zx_it_seq zx_bm12_ok (zx_it_seq zx_bm13_ok (zx_it_seq zx_bm14_ok (zx_it_seq zx_bm15_ok (zx_it_seq zx_bm16_ok (zx_it_seq zx_bm17_ok (zx_it_seq zx_bm18_ok (zx_it_seq zx_bm19_ok (zx_it_seq zx_bm20_ok (zx_it_seq zx_bm21_ok (zx_it_seq zx_bm22_ok (zx_it_seq zx_bm23_ok (zx_it_seq zx_bm24_ok (zx_it_seq zx_bm25_ok (zx_it_seq zx_bm26_ok (zx_it_seq zx_bm27_ok (zx_it_seq zx_bm28_ok (zx_it_seq zx_bm29_ok (zx_it_seq zx_bm30_ok (zx_it_seq zx_bm31_ok (zx_it_seq zx_bm32_ok (zx_it_seq zx_bm33_ok (zx_it_seq zx_bm34_ok (zx_it_seq zx_bm35_ok (zx_it_seq zx_bm36_ok (zx_it_seq zx_bm37_ok (zx_it_seq zx_bm38_ok (zx_it_seq zx_bm39_ok (zx_bm_e)))))))))))))))))))))))))))))))))))))))
set_option maxRecDepth 100000 in
theorem zx_bm_run : ∃ N, zx_rr N 200 124 [.inr (.inr (1, 63))] (zx_hX ++ [zx_obj 8]) = some (none, zx_hM, 22, 2383) := by
  obtain ⟨n, hn⟩ := zx_bm_r
  refine ⟨n, ?_⟩
  have h1 := zx_ex_mono n n 21 199 none _ _ _ (Nat.le_refl _) (by decide) hn
  have h2 : zx_bm0 = (0, zx_L0 (zx_mn (zx_m 124)) [.inr (.inr (1, 63))], [], (zx_hX ++ [zx_obj 8]), 0, 0) := rfl
  rw [h2] at h1
  show (if zx_cs [.inr (.inr (1, 63))] ≤ zx_mn (zx_m 124) then _ else none) = _
  rw [if_pos (by decide)]
  exact h1
theorem zx_dl_0 : decode (zx_mb zx_tl) 0 = .ok (.new 7, 3) := by decide +kernel
theorem zx_dl_3 : decode (zx_mb zx_tl) 3 = .ok (.dup, 1) := by decide +kernel
theorem zx_dl_4 : decode (zx_mb zx_tl) 4 = .ok (.invokespecial 9, 3) := by decide +kernel
theorem zx_dl_7 : decode (zx_mb zx_tl) 7 = .ok (.astore_n 1, 1) := by decide +kernel
theorem zx_dl_8 : decode (zx_mb zx_tl) 8 = .ok (.new 10, 3) := by decide +kernel
theorem zx_dl_11 : decode (zx_mb zx_tl) 11 = .ok (.dup, 1) := by decide +kernel
theorem zx_dl_12 : decode (zx_mb zx_tl) 12 = .ok (.invokespecial 12, 3) := by decide +kernel
theorem zx_dl_15 : decode (zx_mb zx_tl) 15 = .ok (.astore_n 2, 1) := by decide +kernel
theorem zx_dl_16 : decode (zx_mb zx_tl) 16 = .ok (.iconst 0, 1) := by decide +kernel
theorem zx_dl_17 : decode (zx_mb zx_tl) 17 = .ok (.istore_n 3, 1) := by decide +kernel
def zx_nc : Nat := 86
def zx_ns : Nat := 4372
/-- behind the constructors: the law's loop at its head -/
def zx_hd (i : Int32) (h : List zx_C) : zx_S := (18, [some (.inr (.inr (5, 0))), some (.inr (.inr (1, 0))), some (.inr (.inr (1, 63))), some (.inl i)], [], h, zx_nc, zx_ns)
set_option maxRecDepth 100000 in
theorem zx_law0 {q : Nat × (Nat → Int32)} {r : zx_R} (hk : zx_Rn (some q) 200 zx_tl (zx_hd 0 zx_hM) r) : zx_Rn (some q) 200 zx_tl zx_sl0 r := by
  obtain ⟨N1, e1⟩ := zx_bx_run
  obtain ⟨N2, e2⟩ := zx_bm_run
  refine zx_Rn_step (N := 0) (st := (0, [some (.inr (.inr (5, 0))), none, none, none], [], [], 0, 0)) (st' := (3, [some (.inr (.inr (5, 0))), none, none, none], [.inr (.inr (1, 0))], [zx_obj 7], 1, 11)) ((zx_stp_ins (st := (0, [some (.inr (.inr (5, 0))), none, none, none], [], [], 0, 0)) zx_dl_0 rfl).trans rfl) ?_
  refine zx_Rn_step (N := 0) (st := (3, [some (.inr (.inr (5, 0))), none, none, none], [.inr (.inr (1, 0))], [zx_obj 7], 1, 11)) (st' := (4, [some (.inr (.inr (5, 0))), none, none, none], [.inr (.inr (1, 0)), .inr (.inr (1, 0))], [zx_obj 7], 1, 11)) ((zx_stp_ins (st := (3, [some (.inr (.inr (5, 0))), none, none, none], [.inr (.inr (1, 0))], [zx_obj 7], 1, 11)) zx_dl_3 rfl).trans rfl) ?_
  refine zx_Rn_step (N := N1) (st := (4, [some (.inr (.inr (5, 0))), none, none, none], [.inr (.inr (1, 0)), .inr (.inr (1, 0))], [zx_obj 7], 1, 11)) (st' := (7, [some (.inr (.inr (5, 0))), none, none, none], [.inr (.inr (1, 0))], zx_hX, 63, 1936)) ((zx_stp_ins (st := (4, [some (.inr (.inr (5, 0))), none, none, none], [.inr (.inr (1, 0)), .inr (.inr (1, 0))], [zx_obj 7], 1, 11)) zx_dl_4 rfl).trans ?_) ?_
  · show zx_ret 4 [some (.inr (.inr (5, 0))), none, none, none] [.inr (.inr (1, 0))] [zx_obj 7] 1 11 (zx_rr N1 200 67 [.inr (.inr (1, 0))] [zx_obj 7]) = _
    rw [e1]
    rfl
  refine zx_Rn_step (N := 0) (st := (7, [some (.inr (.inr (5, 0))), none, none, none], [.inr (.inr (1, 0))], zx_hX, 63, 1936)) (st' := (8, [some (.inr (.inr (5, 0))), some (.inr (.inr (1, 0))), none, none], [], zx_hX, 63, 1936)) ((zx_stp_ins (st := (7, [some (.inr (.inr (5, 0))), none, none, none], [.inr (.inr (1, 0))], zx_hX, 63, 1936)) zx_dl_7 rfl).trans rfl) ?_
  refine zx_Rn_step (N := 0) (st := (8, [some (.inr (.inr (5, 0))), some (.inr (.inr (1, 0))), none, none], [], zx_hX, 63, 1936)) (st' := (11, [some (.inr (.inr (5, 0))), some (.inr (.inr (1, 0))), none, none], [.inr (.inr (1, 63))], (zx_hX ++ [zx_obj 8]), 64, 1989)) ((zx_stp_ins (st := (8, [some (.inr (.inr (5, 0))), some (.inr (.inr (1, 0))), none, none], [], zx_hX, 63, 1936)) zx_dl_8 rfl).trans rfl) ?_
  refine zx_Rn_step (N := 0) (st := (11, [some (.inr (.inr (5, 0))), some (.inr (.inr (1, 0))), none, none], [.inr (.inr (1, 63))], (zx_hX ++ [zx_obj 8]), 64, 1989)) (st' := (12, [some (.inr (.inr (5, 0))), some (.inr (.inr (1, 0))), none, none], [.inr (.inr (1, 63)), .inr (.inr (1, 63))], (zx_hX ++ [zx_obj 8]), 64, 1989)) ((zx_stp_ins (st := (11, [some (.inr (.inr (5, 0))), some (.inr (.inr (1, 0))), none, none], [.inr (.inr (1, 63))], (zx_hX ++ [zx_obj 8]), 64, 1989)) zx_dl_11 rfl).trans rfl) ?_
  refine zx_Rn_step (N := N2) (st := (12, [some (.inr (.inr (5, 0))), some (.inr (.inr (1, 0))), none, none], [.inr (.inr (1, 63)), .inr (.inr (1, 63))], (zx_hX ++ [zx_obj 8]), 64, 1989)) (st' := (15, [some (.inr (.inr (5, 0))), some (.inr (.inr (1, 0))), none, none], [.inr (.inr (1, 63))], zx_hM, 86, 4372)) ((zx_stp_ins (st := (12, [some (.inr (.inr (5, 0))), some (.inr (.inr (1, 0))), none, none], [.inr (.inr (1, 63)), .inr (.inr (1, 63))], (zx_hX ++ [zx_obj 8]), 64, 1989)) zx_dl_12 rfl).trans ?_) ?_
  · show zx_ret 12 [some (.inr (.inr (5, 0))), some (.inr (.inr (1, 0))), none, none] [.inr (.inr (1, 63))] (zx_hX ++ [zx_obj 8]) 64 1989 (zx_rr N2 200 124 [.inr (.inr (1, 63))] (zx_hX ++ [zx_obj 8])) = _
    rw [e2]
    rfl
  refine zx_Rn_step (N := 0) (st := (15, [some (.inr (.inr (5, 0))), some (.inr (.inr (1, 0))), none, none], [.inr (.inr (1, 63))], zx_hM, 86, 4372)) (st' := (16, [some (.inr (.inr (5, 0))), some (.inr (.inr (1, 0))), some (.inr (.inr (1, 63))), none], [], zx_hM, 86, 4372)) ((zx_stp_ins (st := (15, [some (.inr (.inr (5, 0))), some (.inr (.inr (1, 0))), none, none], [.inr (.inr (1, 63))], zx_hM, 86, 4372)) zx_dl_15 rfl).trans rfl) ?_
  refine zx_Rn_step (N := 0) (st := (16, [some (.inr (.inr (5, 0))), some (.inr (.inr (1, 0))), some (.inr (.inr (1, 63))), none], [], zx_hM, 86, 4372)) (st' := (17, [some (.inr (.inr (5, 0))), some (.inr (.inr (1, 0))), some (.inr (.inr (1, 63))), none], [.inl 0], zx_hM, 86, 4372)) ((zx_stp_ins (st := (16, [some (.inr (.inr (5, 0))), some (.inr (.inr (1, 0))), some (.inr (.inr (1, 63))), none], [], zx_hM, 86, 4372)) zx_dl_16 rfl).trans rfl) ?_
  refine zx_Rn_step (N := 0) (st := (17, [some (.inr (.inr (5, 0))), some (.inr (.inr (1, 0))), some (.inr (.inr (1, 63))), none], [.inl 0], zx_hM, 86, 4372)) (st' := (18, [some (.inr (.inr (5, 0))), some (.inr (.inr (1, 0))), some (.inr (.inr (1, 63))), some (.inl 0)], [], zx_hM, 86, 4372)) ((zx_stp_ins (st := (17, [some (.inr (.inr (5, 0))), some (.inr (.inr (1, 0))), some (.inr (.inr (1, 63))), none], [.inl 0], zx_hM, 86, 4372)) zx_dl_17 rfl).trans rfl) ?_
  exact hk
end
section
/-! part 20: rules of runs, an instruction each: laid by wip/p2/rules.py -/
section
variable {sc : zx_Sc} {d nc ns : Nat} {t : zx_MT} {pc : Nat} {L : List (Option zx_V)} {S r : List zx_V} {h : List zx_C} {Q : Option zx_V → List zx_C → Prop}
theorem zi_lt {x y : Int32} : x < y ↔ x.toInt < y.toInt := Int32.lt_iff_toInt_lt
theorem zi_le {x y : Int32} : x ≤ y ↔ x.toInt ≤ y.toInt := Int32.le_iff_toInt_le
theorem zi_eq {x y : Int32} : x = y ↔ x.toInt = y.toInt := Int32.toInt_inj.symm
theorem zi_in {x : Int32} {n : Nat} (h : 0 ≤ x.toInt ∧ x.toInt < n) : ¬ x < 0 ∧ x.toNatClampNeg < n := by
  refine ⟨fun q => ?_, ?_⟩
  · have := zi_lt.mp q
    have e : (0 : Int32).toInt = 0 := rfl
    omega
  · show x.toInt.toNat < n
    omega
theorem zw_icmp_eq {x y : Int32} {off : Int} {tgt pc' : Nat} (hdg : decode (zx_mb t) pc = .ok (.if_icmp .eq off, 3)) (ht : (pc : Int) + off = (tgt : Int)) (hp : pc + 3 = pc') (kt : x = y → zx_W sc nc ns d t tgt L r h Q) (kf : ¬ x = y → zx_W sc nc ns d t pc' L r h Q) : zx_W sc nc ns d t pc L (.inl y :: .inl x :: r) h Q := by
  subst hp
  by_cases g : x = y
  · refine zx_W_ins hdg rfl (fun run => ?_) rfl (kt (g))
    show zx_br (decide (x = y)) off pc L r h nc ns = _
    unfold zx_br
    rw [if_pos (by omega), if_pos (decide_eq_true g), show ((pc : Int) + off).toNat = tgt by omega]
    rfl
  · refine zx_W_ins hdg rfl (fun run => ?_) rfl (kf (g))
    show zx_br (decide (x = y)) off pc L r h nc ns = _
    unfold zx_br
    rw [if_pos (by omega), if_neg (by simpa using g)]
    rfl
theorem zw_if_eq {x : Int32} {off : Int} {tgt pc' : Nat} (hdg : decode (zx_mb t) pc = .ok (.ifCond .eq off, 3)) (ht : (pc : Int) + off = (tgt : Int)) (hp : pc + 3 = pc') (kt : x = 0 → zx_W sc nc ns d t tgt L r h Q) (kf : ¬ x = 0 → zx_W sc nc ns d t pc' L r h Q) : zx_W sc nc ns d t pc L (.inl x :: r) h Q := by
  subst hp
  by_cases g : x = 0
  · refine zx_W_ins hdg rfl (fun run => ?_) rfl (kt (g))
    show zx_br (decide (x = 0)) off pc L r h nc ns = _
    unfold zx_br
    rw [if_pos (by omega), if_pos (decide_eq_true g), show ((pc : Int) + off).toNat = tgt by omega]
    rfl
  · refine zx_W_ins hdg rfl (fun run => ?_) rfl (kf (g))
    show zx_br (decide (x = 0)) off pc L r h nc ns = _
    unfold zx_br
    rw [if_pos (by omega), if_neg (by simpa using g)]
    rfl
theorem zw_icmp_ne {x y : Int32} {off : Int} {tgt pc' : Nat} (hdg : decode (zx_mb t) pc = .ok (.if_icmp .ne off, 3)) (ht : (pc : Int) + off = (tgt : Int)) (hp : pc + 3 = pc') (kt : ¬ x = y → zx_W sc nc ns d t tgt L r h Q) (kf : x = y → zx_W sc nc ns d t pc' L r h Q) : zx_W sc nc ns d t pc L (.inl y :: .inl x :: r) h Q := by
  subst hp
  by_cases g : ¬ x = y
  · refine zx_W_ins hdg rfl (fun run => ?_) rfl (kt (g))
    show zx_br (decide (¬ x = y)) off pc L r h nc ns = _
    unfold zx_br
    rw [if_pos (by omega), if_pos (decide_eq_true g), show ((pc : Int) + off).toNat = tgt by omega]
    rfl
  · refine zx_W_ins hdg rfl (fun run => ?_) rfl (kf (Decidable.not_not.mp g))
    show zx_br (decide (¬ x = y)) off pc L r h nc ns = _
    unfold zx_br
    rw [if_pos (by omega), if_neg (by simpa using g)]
    rfl
theorem zw_if_ne {x : Int32} {off : Int} {tgt pc' : Nat} (hdg : decode (zx_mb t) pc = .ok (.ifCond .ne off, 3)) (ht : (pc : Int) + off = (tgt : Int)) (hp : pc + 3 = pc') (kt : ¬ x = 0 → zx_W sc nc ns d t tgt L r h Q) (kf : x = 0 → zx_W sc nc ns d t pc' L r h Q) : zx_W sc nc ns d t pc L (.inl x :: r) h Q := by
  subst hp
  by_cases g : ¬ x = 0
  · refine zx_W_ins hdg rfl (fun run => ?_) rfl (kt (g))
    show zx_br (decide (¬ x = 0)) off pc L r h nc ns = _
    unfold zx_br
    rw [if_pos (by omega), if_pos (decide_eq_true g), show ((pc : Int) + off).toNat = tgt by omega]
    rfl
  · refine zx_W_ins hdg rfl (fun run => ?_) rfl (kf (Decidable.not_not.mp g))
    show zx_br (decide (¬ x = 0)) off pc L r h nc ns = _
    unfold zx_br
    rw [if_pos (by omega), if_neg (by simpa using g)]
    rfl
theorem zw_icmp_lt {x y : Int32} {off : Int} {tgt pc' : Nat} (hdg : decode (zx_mb t) pc = .ok (.if_icmp .lt off, 3)) (ht : (pc : Int) + off = (tgt : Int)) (hp : pc + 3 = pc') (kt : x.toInt < y.toInt → zx_W sc nc ns d t tgt L r h Q) (kf : y.toInt ≤ x.toInt → zx_W sc nc ns d t pc' L r h Q) : zx_W sc nc ns d t pc L (.inl y :: .inl x :: r) h Q := by
  subst hp
  by_cases g : x < y
  · refine zx_W_ins hdg rfl (fun run => ?_) rfl (kt (zi_lt.mp g))
    show zx_br (decide (x < y)) off pc L r h nc ns = _
    unfold zx_br
    rw [if_pos (by omega), if_pos (decide_eq_true g), show ((pc : Int) + off).toNat = tgt by omega]
    rfl
  · refine zx_W_ins hdg rfl (fun run => ?_) rfl (kf (by have g2 : ¬ _ := fun q => g (zi_lt.mpr q); omega))
    show zx_br (decide (x < y)) off pc L r h nc ns = _
    unfold zx_br
    rw [if_pos (by omega), if_neg (by simpa using g)]
    rfl
theorem zw_if_lt {x : Int32} {off : Int} {tgt pc' : Nat} (hdg : decode (zx_mb t) pc = .ok (.ifCond .lt off, 3)) (ht : (pc : Int) + off = (tgt : Int)) (hp : pc + 3 = pc') (kt : x.toInt < 0 → zx_W sc nc ns d t tgt L r h Q) (kf : 0 ≤ x.toInt → zx_W sc nc ns d t pc' L r h Q) : zx_W sc nc ns d t pc L (.inl x :: r) h Q := by
  subst hp
  by_cases g : x < 0
  · refine zx_W_ins hdg rfl (fun run => ?_) rfl (kt (by have e0 : (0 : Int32).toInt = 0 := rfl; have g2 := zi_lt.mp g; omega))
    show zx_br (decide (x < 0)) off pc L r h nc ns = _
    unfold zx_br
    rw [if_pos (by omega), if_pos (decide_eq_true g), show ((pc : Int) + off).toNat = tgt by omega]
    rfl
  · refine zx_W_ins hdg rfl (fun run => ?_) rfl (kf (by have e0 : (0 : Int32).toInt = 0 := rfl; have g2 : ¬ _ := fun q => g (zi_lt.mpr q); omega))
    show zx_br (decide (x < 0)) off pc L r h nc ns = _
    unfold zx_br
    rw [if_pos (by omega), if_neg (by simpa using g)]
    rfl
theorem zw_icmp_ge {x y : Int32} {off : Int} {tgt pc' : Nat} (hdg : decode (zx_mb t) pc = .ok (.if_icmp .ge off, 3)) (ht : (pc : Int) + off = (tgt : Int)) (hp : pc + 3 = pc') (kt : y.toInt ≤ x.toInt → zx_W sc nc ns d t tgt L r h Q) (kf : x.toInt < y.toInt → zx_W sc nc ns d t pc' L r h Q) : zx_W sc nc ns d t pc L (.inl y :: .inl x :: r) h Q := by
  subst hp
  by_cases g : y ≤ x
  · refine zx_W_ins hdg rfl (fun run => ?_) rfl (kt (zi_le.mp g))
    show zx_br (decide (y ≤ x)) off pc L r h nc ns = _
    unfold zx_br
    rw [if_pos (by omega), if_pos (decide_eq_true g), show ((pc : Int) + off).toNat = tgt by omega]
    rfl
  · refine zx_W_ins hdg rfl (fun run => ?_) rfl (kf (by have g2 : ¬ _ := fun q => g (zi_le.mpr q); omega))
    show zx_br (decide (y ≤ x)) off pc L r h nc ns = _
    unfold zx_br
    rw [if_pos (by omega), if_neg (by simpa using g)]
    rfl
theorem zw_if_ge {x : Int32} {off : Int} {tgt pc' : Nat} (hdg : decode (zx_mb t) pc = .ok (.ifCond .ge off, 3)) (ht : (pc : Int) + off = (tgt : Int)) (hp : pc + 3 = pc') (kt : 0 ≤ x.toInt → zx_W sc nc ns d t tgt L r h Q) (kf : x.toInt < 0 → zx_W sc nc ns d t pc' L r h Q) : zx_W sc nc ns d t pc L (.inl x :: r) h Q := by
  subst hp
  by_cases g : 0 ≤ x
  · refine zx_W_ins hdg rfl (fun run => ?_) rfl (kt (by have e0 : (0 : Int32).toInt = 0 := rfl; have g2 := zi_le.mp g; omega))
    show zx_br (decide (0 ≤ x)) off pc L r h nc ns = _
    unfold zx_br
    rw [if_pos (by omega), if_pos (decide_eq_true g), show ((pc : Int) + off).toNat = tgt by omega]
    rfl
  · refine zx_W_ins hdg rfl (fun run => ?_) rfl (kf (by have e0 : (0 : Int32).toInt = 0 := rfl; have g2 : ¬ _ := fun q => g (zi_le.mpr q); omega))
    show zx_br (decide (0 ≤ x)) off pc L r h nc ns = _
    unfold zx_br
    rw [if_pos (by omega), if_neg (by simpa using g)]
    rfl
theorem zw_icmp_gt {x y : Int32} {off : Int} {tgt pc' : Nat} (hdg : decode (zx_mb t) pc = .ok (.if_icmp .gt off, 3)) (ht : (pc : Int) + off = (tgt : Int)) (hp : pc + 3 = pc') (kt : y.toInt < x.toInt → zx_W sc nc ns d t tgt L r h Q) (kf : x.toInt ≤ y.toInt → zx_W sc nc ns d t pc' L r h Q) : zx_W sc nc ns d t pc L (.inl y :: .inl x :: r) h Q := by
  subst hp
  by_cases g : y < x
  · refine zx_W_ins hdg rfl (fun run => ?_) rfl (kt (zi_lt.mp g))
    show zx_br (decide (y < x)) off pc L r h nc ns = _
    unfold zx_br
    rw [if_pos (by omega), if_pos (decide_eq_true g), show ((pc : Int) + off).toNat = tgt by omega]
    rfl
  · refine zx_W_ins hdg rfl (fun run => ?_) rfl (kf (by have g2 : ¬ _ := fun q => g (zi_lt.mpr q); omega))
    show zx_br (decide (y < x)) off pc L r h nc ns = _
    unfold zx_br
    rw [if_pos (by omega), if_neg (by simpa using g)]
    rfl
theorem zw_if_gt {x : Int32} {off : Int} {tgt pc' : Nat} (hdg : decode (zx_mb t) pc = .ok (.ifCond .gt off, 3)) (ht : (pc : Int) + off = (tgt : Int)) (hp : pc + 3 = pc') (kt : 0 < x.toInt → zx_W sc nc ns d t tgt L r h Q) (kf : x.toInt ≤ 0 → zx_W sc nc ns d t pc' L r h Q) : zx_W sc nc ns d t pc L (.inl x :: r) h Q := by
  subst hp
  by_cases g : 0 < x
  · refine zx_W_ins hdg rfl (fun run => ?_) rfl (kt (by have e0 : (0 : Int32).toInt = 0 := rfl; have g2 := zi_lt.mp g; omega))
    show zx_br (decide (0 < x)) off pc L r h nc ns = _
    unfold zx_br
    rw [if_pos (by omega), if_pos (decide_eq_true g), show ((pc : Int) + off).toNat = tgt by omega]
    rfl
  · refine zx_W_ins hdg rfl (fun run => ?_) rfl (kf (by have e0 : (0 : Int32).toInt = 0 := rfl; have g2 : ¬ _ := fun q => g (zi_lt.mpr q); omega))
    show zx_br (decide (0 < x)) off pc L r h nc ns = _
    unfold zx_br
    rw [if_pos (by omega), if_neg (by simpa using g)]
    rfl
theorem zw_icmp_le {x y : Int32} {off : Int} {tgt pc' : Nat} (hdg : decode (zx_mb t) pc = .ok (.if_icmp .le off, 3)) (ht : (pc : Int) + off = (tgt : Int)) (hp : pc + 3 = pc') (kt : x.toInt ≤ y.toInt → zx_W sc nc ns d t tgt L r h Q) (kf : y.toInt < x.toInt → zx_W sc nc ns d t pc' L r h Q) : zx_W sc nc ns d t pc L (.inl y :: .inl x :: r) h Q := by
  subst hp
  by_cases g : x ≤ y
  · refine zx_W_ins hdg rfl (fun run => ?_) rfl (kt (zi_le.mp g))
    show zx_br (decide (x ≤ y)) off pc L r h nc ns = _
    unfold zx_br
    rw [if_pos (by omega), if_pos (decide_eq_true g), show ((pc : Int) + off).toNat = tgt by omega]
    rfl
  · refine zx_W_ins hdg rfl (fun run => ?_) rfl (kf (by have g2 : ¬ _ := fun q => g (zi_le.mpr q); omega))
    show zx_br (decide (x ≤ y)) off pc L r h nc ns = _
    unfold zx_br
    rw [if_pos (by omega), if_neg (by simpa using g)]
    rfl
theorem zw_if_le {x : Int32} {off : Int} {tgt pc' : Nat} (hdg : decode (zx_mb t) pc = .ok (.ifCond .le off, 3)) (ht : (pc : Int) + off = (tgt : Int)) (hp : pc + 3 = pc') (kt : x.toInt ≤ 0 → zx_W sc nc ns d t tgt L r h Q) (kf : 0 < x.toInt → zx_W sc nc ns d t pc' L r h Q) : zx_W sc nc ns d t pc L (.inl x :: r) h Q := by
  subst hp
  by_cases g : x ≤ 0
  · refine zx_W_ins hdg rfl (fun run => ?_) rfl (kt (by have e0 : (0 : Int32).toInt = 0 := rfl; have g2 := zi_le.mp g; omega))
    show zx_br (decide (x ≤ 0)) off pc L r h nc ns = _
    unfold zx_br
    rw [if_pos (by omega), if_pos (decide_eq_true g), show ((pc : Int) + off).toNat = tgt by omega]
    rfl
  · refine zx_W_ins hdg rfl (fun run => ?_) rfl (kf (by have e0 : (0 : Int32).toInt = 0 := rfl; have g2 : ¬ _ := fun q => g (zi_le.mpr q); omega))
    show zx_br (decide (x ≤ 0)) off pc L r h nc ns = _
    unfold zx_br
    rw [if_pos (by omega), if_neg (by simpa using g)]
    rfl
theorem zw_goto {off : Int} {tgt : Nat} (hdg : decode (zx_mb t) pc = .ok (.goto off, 3)) (ht : (pc : Int) + off = (tgt : Int)) (k : zx_W sc nc ns d t tgt L S h Q) : zx_W sc nc ns d t pc L S h Q := by
  refine zx_W_ins hdg rfl (fun run => ?_) rfl k
  show zx_J pc off L S h nc ns = _
  unfold zx_J
  rw [if_pos (by omega), show ((pc : Int) + off).toNat = tgt by omega]
  rfl
theorem zw_bi {n : Int} {v : Int32} {pc' : Nat} (hdg : decode (zx_mb t) pc = .ok (.bipush n, 2)) (hp : pc + 2 = pc') (hv : (Int8.ofInt n).toInt32 = v) (k : zx_W sc nc ns d t pc' L (.inl v :: S) h Q) : zx_W sc nc ns d t pc L S h Q := by
  subst hp hv
  exact zx_W_ins hdg rfl (fun run => rfl) rfl k
theorem zw_si {n : Int} {v : Int32} {pc' : Nat} (hdg : decode (zx_mb t) pc = .ok (.sipush n, 3)) (hp : pc + 3 = pc') (hv : (Int16.ofInt n).toInt32 = v) (k : zx_W sc nc ns d t pc' L (.inl v :: S) h Q) : zx_W sc nc ns d t pc L S h Q := by
  subst hp hv
  exact zx_W_ins hdg rfl (fun run => rfl) rfl k
theorem zw_ic {n : Int} {v : Int32} {pc' : Nat} (hdg : decode (zx_mb t) pc = .ok (.iconst n, 1)) (hp : pc + 1 = pc') (hv : Int32.ofInt n = v) (k : zx_W sc nc ns d t pc' L (.inl v :: S) h Q) : zx_W sc nc ns d t pc L S h Q := by
  subst hp hv
  exact zx_W_ins hdg rfl (fun run => rfl) rfl k
theorem zw_gf {a ix ci k pc' : Nat} {np : Nat × Nat} {fs : List zx_V} {v : zx_V} (hdg : decode (zx_mb t) pc = .ok (.getfield ix, 3)) (hp : pc + 3 = pc') (hk : zx_lk zx_lF (zx_mo t) ix = some (ci, k, np)) (ha : h[a]? = some (.inl (ci, fs))) (hv : fs[k]? = some v) (kk : zx_W sc nc ns d t pc' L (v :: r) h Q) : zx_W sc nc ns d t pc L (.inr (.inr (1, a)) :: r) h Q := by
  subst hp
  refine zx_W_ins hdg rfl (fun run => ?_) rfl kk
  show zx_gf (zx_mo t) ix pc L (.inr (.inr (1, a)) :: r) h nc ns = _
  unfold zx_gf
  simp only [hk, ha, if_true, hv]
  rfl
theorem zw_pf {a ix ci k np pp pc' : Nat} {fs : List zx_V} {v : zx_V} (hdg : decode (zx_mb t) pc = .ok (.putfield ix, 3)) (hp : pc + 3 = pc') (hk : zx_lk zx_lF (zx_mo t) ix = some (ci, k, np, pp)) (ha : h[a]? = some (.inl (ci, fs))) (hf : (decide (k < fs.length) && (zx_fit (zx_ft ci k) v && decide ((zx_T8 ci k).2.2.2 = false))) = true) {fs' : List zx_V} (hs : fs.set k v = fs') (kk : zx_W sc nc ns d t pc' L r (h.set a (.inl (ci, fs'))) Q) : zx_W sc nc ns d t pc L (v :: .inr (.inr (1, a)) :: r) h Q := by
  subst hp hs
  simp only [Bool.and_eq_true, decide_eq_true_eq] at hf
  refine zx_W_ins hdg rfl (fun run => ?_) (List.length_set ..) kk
  show zx_pf (zx_mo t) (zx_mk t) ix pc L (v :: .inr (.inr (1, a)) :: r) h nc ns = _
  unfold zx_pf
  simp only [hk, ha]
  rw [if_pos ⟨trivial, hf.1, hf.2.1, Or.inl hf.2.2⟩]
  rfl
theorem zw_ial {a pc' : Nat} {i : Int32} {f : List Int32} (hdg : decode (zx_mb t) pc = .ok (.iaload, 1)) (hp : pc + 1 = pc') (ha : h[a]? = some (.inr (0, .inl f))) (hi : ¬ i < 0 ∧ i.toNatClampNeg < f.length) (kk : zx_W sc nc ns d t pc' L (.inl (f.getD i.toNatClampNeg 0) :: r) h Q) : zx_W sc nc ns d t pc L (.inl i :: .inr (.inr (1, a)) :: r) h Q := by
  subst hp
  refine zx_W_ins hdg rfl (fun run => ?_) rfl kk
  show zx_ial sc pc L (.inl i :: .inr (.inr (1, a)) :: r) h nc ns = _
  unfold zx_ial
  simp only [ha]
  rw [if_pos hi]
  rfl
theorem zw_ials {a pc' : Nat} {i : Int32} (hdg : decode (zx_mb t) pc = .ok (.iaload, 1)) (hp : pc + 1 = pc') (hi : a < 5 ∧ ¬ i < 0 ∧ i.toNatClampNeg < (zx_sa.getD a []).length) (kk : zx_W sc nc ns d t pc' L (.inl ((zx_sa.getD a []).getD i.toNatClampNeg 0) :: r) h Q) : zx_W sc nc ns d t pc L (.inl i :: .inr (.inr (4, a)) :: r) h Q := by
  subst hp
  refine zx_W_ins hdg rfl (fun run => ?_) rfl kk
  show zx_ial sc pc L (.inl i :: .inr (.inr (4, a)) :: r) h nc ns = _
  unfold zx_ial
  simp only
  rw [if_pos hi]
  rfl
theorem zw_ias {a pc' : Nat} {i x : Int32} {f : List Int32} (hdg : decode (zx_mb t) pc = .ok (.iastore, 1)) (hp : pc + 1 = pc') (ha : h[a]? = some (.inr (0, .inl f))) (hi : ¬ i < 0 ∧ i.toNatClampNeg < f.length) (kk : zx_W sc nc ns d t pc' L r (h.set a (.inr (0, .inl (f.set i.toNatClampNeg x)))) Q) : zx_W sc nc ns d t pc L (.inl x :: .inl i :: .inr (.inr (1, a)) :: r) h Q := by
  subst hp
  refine zx_W_ins hdg rfl (fun run => ?_) (List.length_set ..) kk
  show zx_ias pc L (.inl x :: .inl i :: .inr (.inr (1, a)) :: r) h nc ns = _
  unfold zx_ias
  simp only [ha]
  rw [if_pos hi]
  rfl
theorem zw_lal {a pc' : Nat} {i : Int32} {f : List Int64} (hdg : decode (zx_mb t) pc = .ok (.laload, 1)) (hp : pc + 1 = pc') (ha : h[a]? = some (.inr (1, .inr (.inl f)))) (hi : ¬ i < 0 ∧ i.toNatClampNeg < f.length) (kk : zx_W sc nc ns d t pc' L (.inr (.inl (f.getD i.toNatClampNeg 0)) :: r) h Q) : zx_W sc nc ns d t pc L (.inl i :: .inr (.inr (1, a)) :: r) h Q := by
  subst hp
  refine zx_W_ins hdg rfl (fun run => ?_) rfl kk
  show zx_lal pc L (.inl i :: .inr (.inr (1, a)) :: r) h nc ns = _
  unfold zx_lal
  simp only [ha]
  rw [if_pos hi]
  rfl
theorem zw_las {a pc' : Nat} {i : Int32} {x : Int64} {f : List Int64} (hdg : decode (zx_mb t) pc = .ok (.lastore, 1)) (hp : pc + 1 = pc') (ha : h[a]? = some (.inr (1, .inr (.inl f)))) (hi : ¬ i < 0 ∧ i.toNatClampNeg < f.length) (kk : zx_W sc nc ns d t pc' L r (h.set a (.inr (1, .inr (.inl (f.set i.toNatClampNeg x))))) Q) : zx_W sc nc ns d t pc L (.inr (.inl x) :: .inl i :: .inr (.inr (1, a)) :: r) h Q := by
  subst hp
  refine zx_W_ins hdg rfl (fun run => ?_) (List.length_set ..) kk
  show zx_las pc L (.inr (.inl x) :: .inl i :: .inr (.inr (1, a)) :: r) h nc ns = _
  unfold zx_las
  simp only [ha]
  rw [if_pos hi]
  rfl
theorem zw_aal {a pc' t0 : Nat} {i : Int32} {f : List (Option Nat)} (hdg : decode (zx_mb t) pc = .ok (.aaload, 1)) (hp : pc + 1 = pc') (ha : h[a]? = some (.inr (t0, .inr (.inr f)))) (ht : t0 = 2 ∨ t0 = 3) (hi : ¬ i < 0 ∧ i.toNatClampNeg < f.length) {b : Nat} (hb : f[i.toNatClampNeg]? = some (some b)) (kk : zx_W sc nc ns d t pc' L (.inr (.inr (1, b)) :: r) h Q) : zx_W sc nc ns d t pc L (.inl i :: .inr (.inr (1, a)) :: r) h Q := by
  subst hp
  refine zx_W_ins hdg rfl (fun run => ?_) rfl kk
  show zx_aal pc L (.inl i :: .inr (.inr (1, a)) :: r) h nc ns = _
  unfold zx_aal
  simp only [ha]
  rw [if_pos ⟨ht, hi⟩, hb]
  rfl
theorem zw_div {x y : Int32} {pc' : Nat} (hdg : decode (zx_mb t) pc = .ok (.idiv, 1)) (hp : pc + 1 = pc') (hy : ¬ y = 0) (kk : zx_W sc nc ns d t pc' L (.inl (x / y) :: r) h Q) : zx_W sc nc ns d t pc L (.inl y :: .inl x :: r) h Q := by
  subst hp
  refine zx_W_ins hdg rfl (fun run => ?_) rfl kk
  show zx_bin .idiv pc L (.inl y :: .inl x :: r) h nc ns = _
  unfold zx_bin zx_b2
  simp only
  rw [if_neg hy]
  rfl
theorem zw_rem {x y : Int32} {pc' : Nat} (hdg : decode (zx_mb t) pc = .ok (.irem, 1)) (hp : pc + 1 = pc') (hy : ¬ y = 0) (kk : zx_W sc nc ns d t pc' L (.inl (x - x / y * y) :: r) h Q) : zx_W sc nc ns d t pc L (.inl y :: .inl x :: r) h Q := by
  subst hp
  refine zx_W_ins hdg rfl (fun run => ?_) rfl kk
  show zx_bin .irem pc L (.inl y :: .inl x :: r) h nc ns = _
  unfold zx_bin zx_b2
  simp only
  rw [if_neg hy]
  rfl
theorem zw_iret {v : Int32} (hdg : decode (zx_mb t) pc = .ok (.ireturn, 1)) {ty : FieldType} (hr : zx_mr t = some ty) (hn : zx_nr ty v = true) (q : Q (some (.inl v)) h) : zx_W sc nc ns d t pc L [.inl v] h Q := by
  refine zx_W_end hdg rfl (fun run => ?_) q
  show zx_ir (zx_mr t) [.inl v] h nc ns = _
  unfold zx_ir
  rw [hr]
  simp only
  rw [if_pos hn]
theorem zw_vret (hdg : decode (zx_mb t) pc = .ok (.return_, 1)) (hr : zx_mr t = none) (q : Q none h) : zx_W sc nc ns d t pc L [] h Q := by
  refine zx_W_end hdg rfl (fun run => ?_) q
  show zx_vr (zx_mr t) [] h nc ns = _
  unfold zx_vr
  rw [hr]
theorem zw_lret {v : Int64} (hdg : decode (zx_mb t) pc = .ok (.lreturn, 1)) (hr : zx_mr t = some .long) (q : Q (some (.inr (.inl v))) h) : zx_W sc nc ns d t pc L [.inr (.inl v)] h Q := by
  refine zx_W_end hdg rfl (fun run => ?_) q
  show zx_lr (zx_mr t) [.inr (.inl v)] h nc ns = _
  unfold zx_lr
  rw [hr]
end
section
variable {sc : zx_Sc} {d nc ns : Nat} {t : zx_MT} {pc : Nat} {L : List (Option zx_V)} {S r : List zx_V} {h : List zx_C} {Q : Option zx_V → List zx_C → Prop}
/-- a virtual call on an object of ours -/
theorem zw_iv {a ix k ci pc' : Nat} {np : Nat × Nat} {fs as : List zx_V} (hdg : decode (zx_mb t) pc = .ok (.invokevirtual ix, 3)) (hp : pc + 3 = pc') (hk : zx_lk zx_lM (zx_mo t) ix = some (k, np)) (hkk : (decide (zx_mk (zx_m k) = 0) && decide (k < 221)) = true) (hd : S.drop (zx_mp (zx_m k)) = .inr (.inr (1, a)) :: r) (ha : h[a]? = some (.inl (ci, fs))) (hc : (decide (ci = zx_mo (zx_m k)) && (decide (ci < 9) && (decide (zx_cs r ≤ 8) && decide (zx_mp (zx_m k) ≤ S.length)))) = true) (has : (S.take (zx_mp (zx_m k))).reverse = as)
    (hM : zx_M d k (.inr (.inr (1, a)) :: as) h (fun v h' => h'.length = h.length → zx_W sc nc ns (d + 1) t pc' L (v.toList ++ r) h' Q)) : zx_W sc nc ns (d + 1) t pc L S h Q := by
  subst hp has
  simp only [Bool.and_eq_true, decide_eq_true_eq] at hkk hc
  refine zx_W_call hdg rfl (fun run => ?_) hM
  show zx_iv run (zx_mo t) ix pc L S h nc ns = _
  unfold zx_iv
  simp only [hk]
  rw [if_pos hkk]
  simp only [hd, ha]
  rw [if_pos hc]
theorem zw_is {ix k pc' : Nat} {np : Nat × Nat} {as : List zx_V} (hdg : decode (zx_mb t) pc = .ok (.invokestatic ix, 3)) (hp : pc + 3 = pc') (hk : zx_lk zx_lM (zx_mo t) ix = some (k, np)) (hkk : (decide (zx_mk (zx_m k) = 1) && (decide (k < 221) && (decide (zx_cs (S.drop (zx_mp (zx_m k))) ≤ 8) && decide (zx_mp (zx_m k) ≤ S.length)))) = true) (has : (S.take (zx_mp (zx_m k))).reverse = as) (hd : S.drop (zx_mp (zx_m k)) = r)
    (hM : zx_M d k as h (fun v h' => h'.length = h.length → zx_W sc nc ns (d + 1) t pc' L (v.toList ++ r) h' Q)) : zx_W sc nc ns (d + 1) t pc L S h Q := by
  subst hp has hd
  simp only [Bool.and_eq_true, decide_eq_true_eq] at hkk
  refine zx_W_call hdg rfl (fun run => ?_) hM
  show zx_is run (zx_mo t) ix pc L S h nc ns = _
  unfold zx_is
  simp only [hk]
  rw [if_pos hkk]
end
end
section
/-! part 21: small methods: laid by wip/p2/leaves.py (the rows fb_.. began as the kit's) -/
theorem fb_rng (x : Int32) : -2147483648 ≤ x.toInt ∧ x.toInt < 2147483648 := by
  have h1 := Int32.le_toInt x
  have h2 := Int32.toInt_lt x
  omega
theorem fb_bmod {z : Int} (h1 : -2147483648 ≤ z) (h2 : z < 2147483648) : z.bmod (2 ^ 32) = z := by
  rw [Int.bmod_eq_of_le (by omega) (by omega)]
theorem fb_addI {x y : Int32} (h1 : -2147483648 ≤ x.toInt + y.toInt) (h2 : x.toInt + y.toInt < 2147483648) : (x + y).toInt = x.toInt + y.toInt := by
  rw [Int32.toInt_add, fb_bmod h1 h2]
theorem fb_subI {x y : Int32} (h1 : -2147483648 ≤ x.toInt - y.toInt) (h2 : x.toInt - y.toInt < 2147483648) : (x - y).toInt = x.toInt - y.toInt := by
  rw [Int32.toInt_sub, fb_bmod h1 h2]
theorem fb_mulI {x y : Int32} (h1 : -2147483648 ≤ x.toInt * y.toInt) (h2 : x.toInt * y.toInt < 2147483648) : (x * y).toInt = x.toInt * y.toInt := by
  rw [Int32.toInt_mul, fb_bmod h1 h2]
theorem fb_negI {x : Int32} (h : x.toInt ≠ -2147483648) : (-x).toInt = -x.toInt := by
  have := fb_rng x
  rw [Int32.toInt_neg, fb_bmod (by omega) (by omega)]
section
variable {sc : zx_Sc} {d nc ns : Nat} {t : zx_MT} {pc : Nat} {L : List (Option zx_V)} {S r : List zx_V} {h : List zx_C} {Q : Option zx_V → List zx_C → Prop}
theorem zw_gs {ix g pc' : Nat} {np : Nat × Nat} (hdg : decode (zx_mb t) pc = .ok (.getstatic ix, 3)) (hp : pc + 3 = pc') (hk : zx_lk zx_lG (zx_mo t) ix = some (g, np)) (hg : g < 5) (kk : zx_W sc nc ns d t pc' L (.inr (.inr (4, g)) :: S) h Q) : zx_W sc nc ns d t pc L S h Q := by
  subst hp
  refine zx_W_ins hdg rfl (fun run => ?_) rfl kk
  show zx_gs (zx_mo t) ix pc L S h nc ns = _
  unfold zx_gs
  simp only [hk]
  rw [if_pos hg]
  rfl
theorem zw_max {ix k pc' : Nat} {np : Nat × Nat} {x y : Int32} (hdg : decode (zx_mb t) pc = .ok (.invokestatic ix, 3)) (hp : pc + 3 = pc') (hk : zx_lk zx_lM (zx_mo t) ix = some (k, np)) (hkk : (decide (zx_mk (zx_m k) = 3) && (decide (k < 221) && decide (zx_cs r ≤ 8))) = true) (kk : zx_W sc nc ns d t pc' L (.inl (if x < y then y else x) :: r) h Q) : zx_W sc nc ns d t pc L (.inl y :: .inl x :: r) h Q := by
  subst hp
  simp only [Bool.and_eq_true, decide_eq_true_eq] at hkk
  refine zx_W_ins hdg rfl (fun run => ?_) rfl kk
  show zx_is run (zx_mo t) ix pc L (.inl y :: .inl x :: r) h nc ns = _
  unfold zx_is
  simp only [hk]
  rw [if_neg (fun z => by rw [hkk.1] at z; exact absurd z.1 (by decide)), if_pos ⟨hkk.2.2, hkk.2.1⟩, if_pos hkk.1]
  rfl
theorem zw_min {ix k pc' : Nat} {np : Nat × Nat} {x y : Int32} (hdg : decode (zx_mb t) pc = .ok (.invokestatic ix, 3)) (hp : pc + 3 = pc') (hk : zx_lk zx_lM (zx_mo t) ix = some (k, np)) (hkk : (decide (zx_mk (zx_m k) = 4) && (decide (k < 221) && decide (zx_cs r ≤ 8))) = true) (kk : zx_W sc nc ns d t pc' L (.inl (if y < x then y else x) :: r) h Q) : zx_W sc nc ns d t pc L (.inl y :: .inl x :: r) h Q := by
  subst hp
  simp only [Bool.and_eq_true, decide_eq_true_eq] at hkk
  refine zx_W_ins hdg rfl (fun run => ?_) rfl kk
  show zx_is run (zx_mo t) ix pc L (.inl y :: .inl x :: r) h nc ns = _
  unfold zx_is
  simp only [hk]
  rw [if_neg (fun z => by rw [hkk.1] at z; exact absurd z.1 (by decide)), if_pos ⟨hkk.2.2, hkk.2.1⟩, if_neg (fun z => by rw [hkk.1] at z; exact absurd z (by decide)), if_pos hkk.1]
  rfl
end
def zl_all (P : Nat → Nat → Prop) (i : Nat) (l : List Nat) : Prop := ∀ (j tg : Nat), l[j]? = some tg → P (i + j) tg
theorem zl_nil {P : Nat → Nat → Prop} {i : Nat} : zl_all P i [] := fun j tg h => by cases h
theorem zl_cons {P : Nat → Nat → Prop} {i a : Nat} {r : List Nat} (h : P i a) (k : zl_all P (i + 1) r) : zl_all P i (a :: r) := by
  intro j tg hj
  cases j with
  | zero => cases hj; exact h
  | succ j =>
    have e : i + (j + 1) = i + 1 + j := by omega
    rw [e]
    exact k j tg hj
section
variable {sc : zx_Sc} {d nc ns : Nat} {t : zx_MT} {pc : Nat} {L : List (Option zx_V)} {S r : List zx_V} {h : List zx_C} {Q : Option zx_V → List zx_C → Prop}
theorem zw_tsc {dflt lo hi : Int} {offs : Array Int} {len : Nat} {x : Int32} {tgd : Nat} (hdg : decode (zx_mb t) pc = .ok (.tableswitch dflt lo hi offs, len)) (hd : (pc : Int) + dflt = (tgd : Int)) (tgts : List Nat) (ht : offs.toList.map (fun o => (pc : Int) + o) = tgts.map (fun n : Nat => (n : Int))) (hsz : hi - lo + 1 = (offs.size : Int))
    (kd : (x.toInt < lo ∨ hi < x.toInt) → zx_W sc nc ns d t tgd L r h Q) (kin : zl_all (fun i tg => x.toInt = lo + (i : Int) → zx_W sc nc ns d t tg L r h Q) 0 tgts) : zx_W sc nc ns d t pc L (.inl x :: r) h Q := by
  by_cases g : x.toInt < lo ∨ hi < x.toInt
  · refine zx_W_ins hdg rfl (fun run => ?_) rfl (kd g)
    show zx_tsw dflt lo hi offs pc L (.inl x :: r) h nc ns = _
    unfold zx_tsw
    simp only
    rw [if_pos g]
    unfold zx_J
    rw [if_pos (by omega), show ((pc : Int) + dflt).toNat = tgd by omega]
    rfl
  · have hlt : (x.toInt - lo).toNat < offs.size := by omega
    have e1 : offs[(x.toInt - lo).toNat]? = some offs[(x.toInt - lo).toNat] := Array.getElem?_eq_getElem hlt
    have e2 : (offs.toList.map (fun o => (pc : Int) + o))[(x.toInt - lo).toNat]? = some ((pc : Int) + offs[(x.toInt - lo).toNat]) := by
      rw [List.getElem?_map, Array.getElem?_toList, e1]
      rfl
    rw [ht, List.getElem?_map] at e2
    cases e3 : tgts[(x.toInt - lo).toNat]? with
    | none => rw [e3] at e2; cases e2
    | some tg =>
      rw [e3] at e2
      have e4 : (tg : Int) = (pc : Int) + offs[(x.toInt - lo).toNat] := Option.some.inj e2
      refine zx_W_ins hdg rfl (fun run => ?_) rfl (kin _ tg e3 (by omega))
      show zx_tsw dflt lo hi offs pc L (.inl x :: r) h nc ns = _
      unfold zx_tsw
      simp only
      rw [if_neg g, e1]
      show zx_J pc offs[(x.toInt - lo).toNat] L r h nc ns = _
      unfold zx_J
      rw [if_pos (by omega), show ((pc : Int) + offs[(x.toInt - lo).toNat]).toNat = tg by omega]
      rfl
end
end
section
/-! part 22: the cells as one flat memory; part 20's rules over it: laid by wip/flat/flat.py -/
abbrev zf_Me : Type := (Nat → Nat → Int32) × (Nat → Nat → Int64)
abbrev zf_Sh : Type := (Nat × List (Option Nat)) ⊕ (Nat × Nat) ⊕ (Nat × List Nat)
def zf_shl : List zf_Sh := [.inl (7, [some 1, some 2, some 9, some 16, some 18, some 21, some 35, some 44, some 46, none, none]),
  .inr (.inr (2, [47, 49, 51, 53, 55, 57, 59, 61])),
  .inl (5, [some 3, some 8, none, none, none, none, none, none, none, none, none, none, none]),
  .inl (6, [some 4, some 5, some 6, some 7, none, none]),
  .inr (.inl (0, 24)),
  .inr (.inl (0, 24)),
  .inr (.inl (0, 6)),
  .inr (.inl (0, 6)),
  .inr (.inl (0, 6)),
  .inl (5, [some 10, some 15, none, none, none, none, none, none, none, none, none, none, none]),
  .inl (6, [some 11, some 12, some 13, some 14, none, none]),
  .inr (.inl (0, 24)),
  .inr (.inl (0, 24)),
  .inr (.inl (0, 6)),
  .inr (.inl (0, 6)),
  .inr (.inl (0, 6)),
  .inl (5, [some 3, some 17, none, none, none, none, none, none, none, none, none, none, none]),
  .inr (.inl (0, 6)),
  .inl (1, [some 19, none, none, none]),
  .inl (5, [some 3, some 20, none, none, none, none, none, none, none, none, none, none, none]),
  .inr (.inl (0, 6)),
  .inl (2, [some 22, some 23, some 24, none, none, none, none, none]),
  .inr (.inr (3, [25, 27, 29, 31, 33])),
  .inr (.inl (0, 4)),
  .inr (.inl (0, 4)),
  .inl (5, [some 3, some 26, none, none, none, none, none, none, none, none, none, none, none]),
  .inr (.inl (0, 6)),
  .inl (5, [some 3, some 28, none, none, none, none, none, none, none, none, none, none, none]),
  .inr (.inl (0, 6)),
  .inl (5, [some 3, some 30, none, none, none, none, none, none, none, none, none, none, none]),
  .inr (.inl (0, 6)),
  .inl (5, [some 3, some 32, none, none, none, none, none, none, none, none, none, none, none]),
  .inr (.inl (0, 6)),
  .inl (5, [some 3, some 34, none, none, none, none, none, none, none, none, none, none, none]),
  .inr (.inl (0, 6)),
  .inl (4, [some 36, some 43, none, none, none, none, none]),
  .inl (5, [some 37, some 42, none, none, none, none, none, none, none, none, none, none, none]),
  .inl (6, [some 38, some 39, some 40, some 41, none, none]),
  .inr (.inl (0, 24)),
  .inr (.inl (0, 24)),
  .inr (.inl (0, 6)),
  .inr (.inl (0, 6)),
  .inr (.inl (0, 6)),
  .inr (.inl (0, 160)),
  .inl (0, [some 45, none, none, none, none]),
  .inr (.inl (0, 20)),
  .inr (.inl (0, 8)),
  .inl (3, [some 48, none, none]),
  .inr (.inl (1, 160)),
  .inl (3, [some 50, none, none]),
  .inr (.inl (1, 160)),
  .inl (3, [some 52, none, none]),
  .inr (.inl (1, 160)),
  .inl (3, [some 54, none, none]),
  .inr (.inl (1, 160)),
  .inl (3, [some 56, none, none]),
  .inr (.inl (1, 160)),
  .inl (3, [some 58, none, none]),
  .inr (.inl (1, 160)),
  .inl (3, [some 60, none, none]),
  .inr (.inl (1, 160)),
  .inl (3, [some 62, none, none]),
  .inr (.inl (1, 160)),
  .inl (8, [none, none, none, none, none, none, none, none, none, none, none, none, none, none, some 64, some 65, some 66, some 67, some 68, some 69, some 70, some 71, some 72, some 73, some 74, some 75, some 76, some 77, some 78, none, none, none, none, none, some 79, some 80, some 81, some 82, some 83, some 84, none, none, none, none, none, none, none, none, none, none, some 85, none, none]),
  .inr (.inl (0, 8)),
  .inr (.inl (0, 24)),
  .inr (.inl (0, 24)),
  .inr (.inl (0, 6)),
  .inr (.inl (0, 6)),
  .inr (.inl (0, 6)),
  .inr (.inl (0, 8)),
  .inr (.inl (0, 8)),
  .inr (.inl (0, 8)),
  .inr (.inl (0, 8)),
  .inr (.inl (1, 1280)),
  .inr (.inl (1, 160)),
  .inr (.inl (0, 75)),
  .inr (.inl (0, 12)),
  .inr (.inl (0, 2)),
  .inr (.inl (0, 90)),
  .inr (.inl (0, 90)),
  .inr (.inl (0, 90)),
  .inr (.inl (0, 450)),
  .inr (.inl (0, 4)),
  .inr (.inl (0, 4)),
  .inr (.inl (0, 20))]
def zf_sh (c : Nat) : zf_Sh := (zf_shl[c]?).getD (.inr (.inl (9, 0)))
def zf_fs (f : Nat → Int32) : Nat → List (Option Nat) → List zx_V
  | _, [] => []
  | k, some r :: t => .inr (.inr (1, r)) :: zf_fs f (k + 1) t
  | k, none :: t => .inl (f k) :: zf_fs f (k + 1) t
def zf_c (f : Nat → Int32) (g : Nat → Int64) : zf_Sh → zx_C
  | .inl (ci, fs) => .inl (ci, zf_fs f 0 fs)
  | .inr (.inl (0, n)) => .inr (0, .inl ((List.range n).map f))
  | .inr (.inl (_ + 1, n)) => .inr (1, .inr (.inl ((List.range n).map g)))
  | .inr (.inr (t, l)) => .inr (t, .inr (.inr (l.map some)))
def zf_E (m : zf_Me) : List zx_C := (List.range 86).map (fun c => zf_c (m.1 c) (m.2 c) (zf_sh c))
theorem zf_len (m : zf_Me) : (zf_E m).length = 86 := by simp [zf_E]
theorem zf_get {m : zf_Me} {c : Nat} (h : c < 86) : (zf_E m)[c]? = some (zf_c (m.1 c) (m.2 c) (zf_sh c)) := by
  unfold zf_E
  rw [List.getElem?_map, List.getElem?_range h]
  rfl
theorem zf_fs_len (f : Nat → Int32) : ∀ (fs : List (Option Nat)) (k : Nat), (zf_fs f k fs).length = fs.length
  | [], _ => rfl
  | some r :: t, k => by show (zf_fs f (k + 1) t).length + 1 = t.length + 1; rw [zf_fs_len f t]
  | none :: t, k => by show (zf_fs f (k + 1) t).length + 1 = t.length + 1; rw [zf_fs_len f t]
theorem zf_fs_int (f : Nat → Int32) : ∀ (fs : List (Option Nat)) (k j : Nat), fs[j]? = some none → (zf_fs f k fs)[j]? = some (.inl (f (k + j)))
  | [], _, _, h => by cases h
  | some r :: t, k, 0, h => by cases h
  | none :: t, k, 0, h => rfl
  | some r :: t, k, j + 1, h => by
    show (zf_fs f (k + 1) t)[j]? = _
    rw [zf_fs_int f t (k + 1) j h, show k + 1 + j = k + (j + 1) by omega]
  | none :: t, k, j + 1, h => by
    show (zf_fs f (k + 1) t)[j]? = _
    rw [zf_fs_int f t (k + 1) j h, show k + 1 + j = k + (j + 1) by omega]
theorem zf_fs_ref (f : Nat → Int32) : ∀ (fs : List (Option Nat)) (k j r : Nat), fs[j]? = some (some r) → (zf_fs f k fs)[j]? = some (.inr (.inr (1, r)))
  | [], _, _, _, h => by cases h
  | some r :: t, k, 0, r2, h => by cases h; rfl
  | none :: t, k, 0, r2, h => by cases h
  | some r :: t, k, j + 1, r2, h => zf_fs_ref f t (k + 1) j r2 h
  | none :: t, k, j + 1, r2, h => zf_fs_ref f t (k + 1) j r2 h
theorem zf_fs_up (f : Nat → Int32) (v : Int32) (i : Nat) : ∀ (fs : List (Option Nat)) (k : Nat), i < k → zf_fs (fun b => if b = i then v else f b) k fs = zf_fs f k fs
  | [], _, _ => rfl
  | some r :: t, k, h => by
    show _ :: zf_fs _ (k + 1) t = _ :: zf_fs _ (k + 1) t
    rw [zf_fs_up f v i t (k + 1) (by omega)]
  | none :: t, k, h => by
    show (.inl (if k = i then v else f k)) :: zf_fs _ (k + 1) t = .inl (f k) :: zf_fs _ (k + 1) t
    rw [zf_fs_up f v i t (k + 1) (by omega), if_neg (by omega)]
theorem zf_fs_set (f : Nat → Int32) (v : Int32) : ∀ (fs : List (Option Nat)) (k j : Nat), fs[j]? = some none → (zf_fs f k fs).set j (.inl v) = zf_fs (fun b => if b = k + j then v else f b) k fs
  | [], _, _, h => by cases h
  | some r :: t, k, 0, h => by cases h
  | none :: t, k, 0, h => by
    show .inl v :: zf_fs f (k + 1) t = .inl (if k = k then v else f k) :: zf_fs (fun b => if b = k then v else f b) (k + 1) t
    rw [if_pos rfl, zf_fs_up f v k t (k + 1) (by omega)]
  | some r :: t, k, j + 1, h => by
    show _ :: (zf_fs f (k + 1) t).set j (.inl v) = _ :: zf_fs _ (k + 1) t
    rw [zf_fs_set f v t (k + 1) j h, show k + 1 + j = k + (j + 1) by omega]
  | none :: t, k, j + 1, h => by
    show .inl (f k) :: (zf_fs f (k + 1) t).set j (.inl v) = .inl (if k = k + (j + 1) then v else f k) :: zf_fs _ (k + 1) t
    rw [zf_fs_set f v t (k + 1) j h, show k + 1 + j = k + (j + 1) by omega, if_neg (by omega)]
def zf_u (m : zf_Me) (c k : Nat) (v : Int32) : zf_Me := (fun a => if a = c then (fun b => if b = k then v else m.1 c b) else m.1 a, m.2)
def zf_ul (m : zf_Me) (c k : Nat) (v : Int64) : zf_Me := (m.1, fun a => if a = c then (fun b => if b = k then v else m.2 c b) else m.2 a)
def zf_cp (m : zf_Me) (x y sp dp n : Nat) : zf_Me := (fun a => if a = y then (fun b => if dp ≤ b ∧ b < dp + n then m.1 x (sp + (b - dp)) else m.1 y b) else m.1 a, m.2)
def zf_cpl (m : zf_Me) (x y sp dp n : Nat) : zf_Me := (m.1, fun a => if a = y then (fun b => if dp ≤ b ∧ b < dp + n then m.2 x (sp + (b - dp)) else m.2 y b) else m.2 a)
theorem zf_E_set {m m' : zf_Me} {c : Nat} {x : zx_C} (hc : c < 86) (hx : x = zf_c (m'.1 c) (m'.2 c) (zf_sh c)) (ho : ∀ a, a ≠ c → m'.1 a = m.1 a ∧ m'.2 a = m.2 a) : (zf_E m).set c x = zf_E m' := by
  apply List.ext_getElem?
  intro i
  by_cases hi : i < 86
  · by_cases e : c = i
    · subst e
      rw [List.getElem?_set_self (by rw [zf_len]; exact hi), zf_get hi, hx]
    · rw [List.getElem?_set_ne e, zf_get hi, zf_get hi, (ho i (Ne.symm e)).1, (ho i (Ne.symm e)).2]
  · rw [List.getElem?_eq_none (by rw [List.length_set, zf_len]; omega), List.getElem?_eq_none (by rw [zf_len]; omega)]
theorem zf_put {m : zf_Me} {c ci k : Nat} {fs : List (Option Nat)} {v : Int32} (hc : c < 86) (hs : zf_sh c = .inl (ci, fs)) (hk : fs[k]? = some none) : (zf_E m).set c (.inl (ci, (zf_fs (m.1 c) 0 fs).set k (.inl v))) = zf_E (zf_u m c k v) := by
  refine zf_E_set hc ?_ (fun a ha => ⟨if_neg ha, rfl⟩)
  rw [hs, zf_fs_set _ _ _ _ _ hk]
  show _ = Sum.inl (ci, zf_fs (if c = c then (fun b => if b = k then v else m.1 c b) else m.1 c) 0 fs)
  rw [if_pos rfl, Nat.zero_add]
theorem zf_rs {α : Type} {n i : Nat} {f : Nat → α} {v : α} : ((List.range n).map f).set i v = (List.range n).map (fun b => if b = i then v else f b) := by
  apply List.ext_getElem?
  intro j
  rw [List.getElem?_set, List.getElem?_map, List.getElem?_map, List.length_map, List.length_range]
  by_cases hj : j < n
  · rw [List.getElem?_range hj]
    by_cases e : i = j
    · subst e
      rw [if_pos rfl, if_pos hj]
      simp
    · rw [if_neg e]
      simp [Ne.symm e]
  · rw [List.getElem?_eq_none (by rw [List.length_range]; omega)]
    split
    · rw [if_neg (by omega)]
      rfl
    · rfl
theorem zf_gr {α : Type} {n i : Nat} {f : Nat → α} {d0 : α} (h : i < n) : ((List.range n).map f).getD i d0 = f i := by
  rw [List.getD_eq_getElem?_getD, List.getElem?_map, List.getElem?_range h]
  rfl
theorem zf_lr {α : Type} {n : Nat} {f : Nat → α} : ((List.range n).map f).length = n := by simp
theorem zf_set {m : zf_Me} {c n i : Nat} {v : Int32} (hc : c < 86) (hs : zf_sh c = .inr (.inl (0, n))) : (zf_E m).set c (.inr (0, .inl (((List.range n).map (m.1 c)).set i v))) = zf_E (zf_u m c i v) := by
  refine zf_E_set hc ?_ (fun a ha => ⟨if_neg ha, rfl⟩)
  rw [hs, zf_rs]
  show _ = Sum.inr (0, Sum.inl ((List.range n).map (if c = c then (fun b => if b = i then v else m.1 c b) else m.1 c)))
  rw [if_pos rfl]
theorem zf_setl {m : zf_Me} {c n i : Nat} {v : Int64} (hc : c < 86) (hs : zf_sh c = .inr (.inl (1, n))) : (zf_E m).set c (.inr (1, .inr (.inl (((List.range n).map (m.2 c)).set i v)))) = zf_E (zf_ul m c i v) := by
  refine zf_E_set hc ?_ (fun a ha => ⟨rfl, if_neg ha⟩)
  rw [hs, zf_rs]
  show _ = Sum.inr (1, Sum.inr (Sum.inl ((List.range n).map (if c = c then (fun b => if b = i then v else m.2 c b) else m.2 c))))
  rw [if_pos rfl]
theorem zf_cpr {α : Type} {f g : Nat → α} {n k sp dp z : Nat} (h1 : sp + z ≤ n) (h2 : dp + z ≤ k) : zx_cpy ((List.range n).map f) ((List.range k).map g) sp dp z = (List.range k).map (fun b => if dp ≤ b ∧ b < dp + z then f (sp + (b - dp)) else g b) := by
  unfold zx_cpy
  apply List.ext_getElem?
  intro j
  rw [List.getElem?_append, List.length_take, zf_lr, Nat.min_eq_left (by omega)]
  split
  · rename_i hj
    rw [List.getElem?_take_of_lt hj, List.getElem?_map, List.getElem?_map, List.getElem?_range (by omega)]
    show some (g j) = some (if _ then _ else _)
    rw [if_neg (by omega)]
  · rename_i hj
    rw [List.getElem?_append, List.length_take, List.length_drop, zf_lr, Nat.min_eq_left (by omega)]
    split
    · rename_i hz
      rw [List.getElem?_take_of_lt hz, List.getElem?_drop, List.getElem?_map, List.getElem?_map, List.getElem?_range (by omega), List.getElem?_range (by omega)]
      show some (f (sp + (j - dp))) = some (if _ then _ else _)
      rw [if_pos (by omega)]
    · rename_i hz
      rw [List.getElem?_drop, List.getElem?_map, List.getElem?_map, show dp + z + (j - dp - z) = j by omega]
      by_cases hk : j < k
      · rw [List.getElem?_range hk]
        show some (g j) = some (if _ then _ else _)
        rw [if_neg (by omega)]
      · rw [List.getElem?_eq_none (by rw [List.length_range]; omega)]
        rfl
theorem zf_cpi {m : zf_Me} {x y n k sp dp z : Nat} (hy : y < 86) (hs : zf_sh y = .inr (.inl (0, k))) (h1 : sp + z ≤ n) (h2 : dp + z ≤ k) : (zf_E m).set y (.inr (0, .inl (zx_cpy ((List.range n).map (m.1 x)) ((List.range k).map (m.1 y)) sp dp z))) = zf_E (zf_cp m x y sp dp z) := by
  refine zf_E_set hy ?_ (fun a ha => ⟨if_neg ha, rfl⟩)
  rw [hs, zf_cpr h1 h2]
  show _ = Sum.inr (0, Sum.inl ((List.range k).map (if y = y then (fun b => if dp ≤ b ∧ b < dp + z then m.1 x (sp + (b - dp)) else m.1 y b) else m.1 y)))
  rw [if_pos rfl]
theorem zf_cpj {m : zf_Me} {x y n k sp dp z : Nat} (hy : y < 86) (hs : zf_sh y = .inr (.inl (1, k))) (h1 : sp + z ≤ n) (h2 : dp + z ≤ k) : (zf_E m).set y (.inr (1, .inr (.inl (zx_cpy ((List.range n).map (m.2 x)) ((List.range k).map (m.2 y)) sp dp z)))) = zf_E (zf_cpl m x y sp dp z) := by
  refine zf_E_set hy ?_ (fun a ha => ⟨rfl, if_neg ha⟩)
  rw [hs, zf_cpr h1 h2]
  show _ = Sum.inr (1, Sum.inr (Sum.inl ((List.range k).map (if y = y then (fun b => if dp ≤ b ∧ b < dp + z then m.2 x (sp + (b - dp)) else m.2 y b) else m.2 y))))
  rw [if_pos rfl]
-- what of the variables is known
def zf_le (L L' : List (Option zx_V)) : Prop := L.length = L'.length ∧ (∀ (i : Nat) (v : zx_V), L[i]? = some (some v) → L'[i]? = some (some v)) ∧ (∀ (i : Nat) (x : Int64), L'[i]? = some (some (Sum.inr (Sum.inl x))) → L[i]? = some (some (Sum.inr (Sum.inl x))))
theorem zf_le_refl (L : List (Option zx_V)) : zf_le L L := ⟨rfl, fun _ _ h => h, fun _ _ h => h⟩
theorem zf_le_trans {A B D : List (Option zx_V)} (h : zf_le A B) (k : zf_le B D) : zf_le A D := ⟨h.1.trans k.1, fun i v q => k.2.1 i v (h.2.1 i v q), fun i x q => h.2.2 i x (k.2.2 i x q)⟩
theorem zf_le_set {A B : List (Option zx_V)} (h : zf_le A B) (i : Nat) (v : zx_V) : zf_le (A.set i (some v)) (B.set i (some v)) := by
  refine ⟨by rw [List.length_set, List.length_set]; exact h.1, fun j w q => ?_, fun j x q => ?_⟩
  · rw [List.getElem?_set] at q ⊢
    by_cases e : i = j
    · rw [if_pos e] at q ⊢
      split at q
      · rename_i g
        rw [if_pos (by rw [← h.1]; exact g)]
        exact q
      · cases q
    · rw [if_neg e] at q ⊢
      exact h.2.1 j w q
  · rw [List.getElem?_set] at q ⊢
    by_cases e : i = j
    · rw [if_pos e] at q ⊢
      split at q
      · rename_i g
        rw [if_pos (by rw [h.1]; exact g)]
        exact q
      · cases q
    · rw [if_neg e] at q ⊢
      exact h.2.2 j x q
def zf_nl (L : List (Option zx_V)) : Nat → Bool
  | 0 => true
  | i + 1 => match L[i]? with
    | some (some (.inr (.inl _))) => false
    | _ => true
theorem zf_cl1 {A B : List (Option zx_V)} (h : zf_le A B) : ∀ i, zf_nl A i = true → zx_cl1 B i = B
  | 0, _ => rfl
  | i + 1, hn => by
    show (match B[i]? with | some (some (.inr (.inl _))) => B.set i none | _ => B) = B
    split
    · rename_i x e
      replace hn : (match A[i]? with | some (some (.inr (.inl _))) => false | _ => true) = true := hn
      rw [h.2.2 i x e] at hn
      cases hn
    · rfl
/-- a less known list of variables -/
def zf_lb : List (Option zx_V) → List (Option zx_V) → Prop
  | [], [] => True
  | none :: a, some (.inr (.inl _)) :: b => False
  | none :: a, _ :: b => zf_lb a b
  | some v :: a, some w :: b => v = w ∧ zf_lb a b
  | _, _ => False
theorem zf_lb_le : ∀ {A B : List (Option zx_V)}, zf_lb A B → zf_le A B
  | [], [], _ => zf_le_refl []
  | none :: a, none :: b, h => by
    have k := zf_lb_le (A := a) (B := b) h
    exact ⟨congrArg (· + 1) k.1, fun i v q => by cases i with
      | zero => cases q
      | succ i => exact k.2.1 i v q, fun i x q => by cases i with
      | zero => cases q
      | succ i => exact k.2.2 i x q⟩
  | none :: a, some (.inl y) :: b, h => by
    have k := zf_lb_le (A := a) (B := b) h
    exact ⟨congrArg (· + 1) k.1, fun i v q => by cases i with
      | zero => cases q
      | succ i => exact k.2.1 i v q, fun i x q => by cases i with
      | zero => cases q
      | succ i => exact k.2.2 i x q⟩
  | none :: a, some (.inr (.inr y)) :: b, h => by
    have k := zf_lb_le (A := a) (B := b) h
    exact ⟨congrArg (· + 1) k.1, fun i v q => by cases i with
      | zero => cases q
      | succ i => exact k.2.1 i v q, fun i x q => by cases i with
      | zero => cases q
      | succ i => exact k.2.2 i x q⟩
  | some v :: a, some w :: b, h => by
    obtain ⟨rfl, h2⟩ : v = w ∧ zf_lb a b := h
    have k := zf_lb_le (A := a) (B := b) h2
    exact ⟨congrArg (· + 1) k.1, fun i v q => by cases i with
      | zero => exact q
      | succ i => exact k.2.1 i v q, fun i x q => by cases i with
      | zero => exact q
      | succ i => exact k.2.2 i x q⟩
  | none :: a, some (.inr (.inl y)) :: b, h => h.elim
  | [], _ :: _, h => h.elim
  | none :: a, [], h => h.elim
  | some v :: a, [], h => h.elim
  | some v :: a, none :: b, h => h.elim
/-- a state's run ends, in a flat memory again, with Q of its answer and its memory -/
def zf_W (sc : zx_Sc) (nc ns d : Nat) (t : zx_MT) (pc : Nat) (L : List (Option zx_V)) (S : List zx_V) (m : zf_Me) (Q : Option zx_V → zf_Me → Prop) : Prop := ∀ L', zf_le L L' → zx_W sc nc ns d t pc L' S (zf_E m) (fun v h' => ∃ m', h' = zf_E m' ∧ Q v m')
def zf_M (d k : Nat) (as : List zx_V) (m : zf_Me) (Q : Option zx_V → zf_Me → Prop) : Prop := zx_M d k as (zf_E m) (fun v h' => ∃ m', h' = zf_E m' ∧ Q v m')
theorem zf_M_of {d k : Nat} {as : List zx_V} {m : zf_Me} {Q : Option zx_V → zf_Me → Prop} (hc : zx_cs as ≤ zx_mn (zx_m k)) {t : zx_MT} (ht : zx_m k = t) {L : List (Option zx_V)} (hL : zx_L0 (zx_mn t) as = L) (h1 : zf_W none 0 0 d t 0 L [] m Q) : zf_M d k as m Q :=
  zx_M_of hc ht hL (h1 L (zf_le_refl L))
theorem zf_M_cons {d k : Nat} {as : List zx_V} {m : zf_Me} {Q Q' : Option zx_V → zf_Me → Prop} (h : zf_M d k as m Q) (hq : ∀ v m', Q v m' → Q' v m') : zf_M d k as m Q' :=
  zx_M_cons h (fun _ _ _ ⟨m', e, q⟩ => ⟨m', e, hq _ _ q⟩)
theorem zf_M_deep {d e k : Nat} {as : List zx_V} {m : zf_Me} {Q : Option zx_V → zf_Me → Prop} (hd : d ≤ e) (h : zf_M d k as m Q) : zf_M e k as m Q := zx_M_deep hd h
def zb : Bool → Int32
  | true => 1
  | false => 0
def zf_I (Q : Int32 → zf_Me → Prop) (v : Option zx_V) (m : zf_Me) : Prop := ∃ x, v = some (.inl x) ∧ Q x m
def zf_B (Q : Bool → zf_Me → Prop) (v : Option zx_V) (m : zf_Me) : Prop := ∃ b, v = some (.inl (zb b)) ∧ Q b m
def zf_O (Q : zf_Me → Prop) (v : Option zx_V) (m : zf_Me) : Prop := v = none ∧ Q m
def zf_J (Q : Int64 → zf_Me → Prop) (v : Option zx_V) (m : zf_Me) : Prop := ∃ x, v = some (.inr (.inl x)) ∧ Q x m
def zf_T (Q : Nat → zf_Me → Prop) (v : Option zx_V) (m : zf_Me) : Prop := ∃ a, v = some (.inr (.inr (2, a))) ∧ a < 12 ∧ Q a m
section
variable {sc : zx_Sc} {d nc ns : Nat} {t : zx_MT} {pc : Nat} {L L2 : List (Option zx_V)} {S S' r : List zx_V} {m : zf_Me} {Q : Option zx_V → zf_Me → Prop}
theorem zf_lo (h : zf_W sc nc ns d t pc L S m Q) (hl : zf_lb L L2) : zf_W sc nc ns d t pc L2 S m Q := fun L' hL => h L' (zf_le_trans (zf_lb_le hl) hL)
/-- a step that neither calls nor looks at variables or cells -/
theorem zf_in {ins : Instr} {len pc' : Nat} (hdg : decode (zx_mb t) pc = .ok (ins, len)) (hlen : zx_lok ins len = true) (h1 : ∀ run L' h, zx_ins sc run t ins pc L' S h nc ns = zx_N pc' L' S' h nc ns) (k : zf_W sc nc ns d t pc' L S' m Q) : zf_W sc nc ns d t pc L S m Q :=
  fun L' hL => zx_W_ins hdg hlen (fun run => h1 run L' _) rfl (k L' hL)
theorem zf_ld {ins : Instr} {len pc' ty i n : Nat} {v : zx_V} (hdg : decode (zx_mb t) pc = .ok (ins, len)) (hlen : zx_lok ins len = true) (h1 : ∀ run L' h, zx_ins sc run t ins pc L' S h nc ns = zx_ld ty i n pc L' S h nc ns) (hL : L[i]? = some (some v)) (hv : zx_kd v = ty) (hp : pc + n = pc') (k : zf_W sc nc ns d t pc' L (v :: S) m Q) : zf_W sc nc ns d t pc L S m Q := by
  subst hp
  intro L' hl
  refine zx_W_ins hdg hlen (fun run => (h1 run L' _).trans ?_) rfl (k L' hl)
  unfold zx_ld
  rw [hl.2.1 i v hL]
  simp only
  rw [if_pos hv]
  rfl
theorem zf_st {ins : Instr} {len pc' ty i n : Nat} {v : zx_V} (hdg : decode (zx_mb t) pc = .ok (ins, len)) (hlen : zx_lok ins len = true) (h1 : ∀ run L' h, zx_ins sc run t ins pc L' (v :: r) h nc ns = zx_sto ty i n pc L' (v :: r) h nc ns) (hv : zx_kd v = ty) (hc : zx_c1 v = true) (hi : Nat.blt i L.length = true) (hn : zf_nl L i = true) (hL : L.set i (some v) = L2) (hp : pc + n = pc') (k : zf_W sc nc ns d t pc' L2 r m Q) : zf_W sc nc ns d t pc L (v :: r) m Q := by
  subst hp hL
  intro L' hl
  refine zx_W_ins hdg hlen (fun run => (h1 run L' _).trans ?_) rfl (k (L'.set i (some v)) (zf_le_set hl i v))
  unfold zx_sto
  simp only
  rw [if_pos ⟨hv, hc, by rw [← hl.1]; exact Nat.blt_eq.mp hi⟩, zf_cl1 hl i hn]
  rfl
theorem zf_ii {i : Nat} {z : Int} {x : Int32} {pc' : Nat} {y : Int32} (hdg : decode (zx_mb t) pc = .ok (.iinc i z, 3)) (hL : L[i]? = some (some (.inl x))) (hn : zf_nl L i = true) (hy : x + Int32.ofInt z = y) (hL2 : L.set i (some (.inl y)) = L2) (hp : pc + 3 = pc') (k : zf_W sc nc ns d t pc' L2 S m Q) : zf_W sc nc ns d t pc L S m Q := by
  subst hp hL2 hy
  intro L' hl
  refine zx_W_ins hdg rfl (fun run => ?_) rfl (k (L'.set i (some (.inl (x + Int32.ofInt z)))) (zf_le_set hl i _))
  show zx_iinc i z pc L' S _ nc ns = _
  unfold zx_iinc
  rw [hl.2.1 i _ hL]
  simp only
  rw [zf_cl1 hl i hn]
  rfl
theorem zf_icmp_eq {x y : Int32} {off : Int} {tgt pc' : Nat} (hdg : decode (zx_mb t) pc = .ok (.if_icmp .eq off, 3)) (ht : (pc : Int) + off = (tgt : Int)) (hp : pc + 3 = pc') (kt : x.toInt = y.toInt → zf_W sc nc ns d t tgt L r m Q) (kf : ¬ x.toInt = y.toInt → zf_W sc nc ns d t pc' L r m Q) : zf_W sc nc ns d t pc L (.inl y :: .inl x :: r) m Q :=
  fun L' hL => zw_icmp_eq hdg ht hp (fun g => kt (congrArg Int32.toInt g) L' hL) (fun g => kf (fun z => g (Int32.toInt_inj.mp z)) L' hL)
theorem zf_if_eq {x : Int32} {off : Int} {tgt pc' : Nat} (hdg : decode (zx_mb t) pc = .ok (.ifCond .eq off, 3)) (ht : (pc : Int) + off = (tgt : Int)) (hp : pc + 3 = pc') (kt : x.toInt = 0 → zf_W sc nc ns d t tgt L r m Q) (kf : ¬ x.toInt = 0 → zf_W sc nc ns d t pc' L r m Q) : zf_W sc nc ns d t pc L (.inl x :: r) m Q :=
  fun L' hL => zw_if_eq hdg ht hp (fun g => kt (congrArg Int32.toInt g) L' hL) (fun g => kf (fun z => g (Int32.toInt_inj.mp z)) L' hL)
theorem zf_icmp_ne {x y : Int32} {off : Int} {tgt pc' : Nat} (hdg : decode (zx_mb t) pc = .ok (.if_icmp .ne off, 3)) (ht : (pc : Int) + off = (tgt : Int)) (hp : pc + 3 = pc') (kt : ¬ x.toInt = y.toInt → zf_W sc nc ns d t tgt L r m Q) (kf : x.toInt = y.toInt → zf_W sc nc ns d t pc' L r m Q) : zf_W sc nc ns d t pc L (.inl y :: .inl x :: r) m Q :=
  fun L' hL => zw_icmp_ne hdg ht hp (fun g => kt (fun z => g (Int32.toInt_inj.mp z)) L' hL) (fun g => kf (congrArg Int32.toInt g) L' hL)
theorem zf_if_ne {x : Int32} {off : Int} {tgt pc' : Nat} (hdg : decode (zx_mb t) pc = .ok (.ifCond .ne off, 3)) (ht : (pc : Int) + off = (tgt : Int)) (hp : pc + 3 = pc') (kt : ¬ x.toInt = 0 → zf_W sc nc ns d t tgt L r m Q) (kf : x.toInt = 0 → zf_W sc nc ns d t pc' L r m Q) : zf_W sc nc ns d t pc L (.inl x :: r) m Q :=
  fun L' hL => zw_if_ne hdg ht hp (fun g => kt (fun z => g (Int32.toInt_inj.mp z)) L' hL) (fun g => kf (congrArg Int32.toInt g) L' hL)
theorem zf_icmp_lt {x y : Int32} {off : Int} {tgt pc' : Nat} (hdg : decode (zx_mb t) pc = .ok (.if_icmp .lt off, 3)) (ht : (pc : Int) + off = (tgt : Int)) (hp : pc + 3 = pc') (kt : x.toInt < y.toInt → zf_W sc nc ns d t tgt L r m Q) (kf : y.toInt ≤ x.toInt → zf_W sc nc ns d t pc' L r m Q) : zf_W sc nc ns d t pc L (.inl y :: .inl x :: r) m Q :=
  fun L' hL => zw_icmp_lt hdg ht hp (fun g => kt g L' hL) (fun g => kf g L' hL)
theorem zf_if_lt {x : Int32} {off : Int} {tgt pc' : Nat} (hdg : decode (zx_mb t) pc = .ok (.ifCond .lt off, 3)) (ht : (pc : Int) + off = (tgt : Int)) (hp : pc + 3 = pc') (kt : x.toInt < 0 → zf_W sc nc ns d t tgt L r m Q) (kf : 0 ≤ x.toInt → zf_W sc nc ns d t pc' L r m Q) : zf_W sc nc ns d t pc L (.inl x :: r) m Q :=
  fun L' hL => zw_if_lt hdg ht hp (fun g => kt g L' hL) (fun g => kf g L' hL)
theorem zf_icmp_ge {x y : Int32} {off : Int} {tgt pc' : Nat} (hdg : decode (zx_mb t) pc = .ok (.if_icmp .ge off, 3)) (ht : (pc : Int) + off = (tgt : Int)) (hp : pc + 3 = pc') (kt : y.toInt ≤ x.toInt → zf_W sc nc ns d t tgt L r m Q) (kf : x.toInt < y.toInt → zf_W sc nc ns d t pc' L r m Q) : zf_W sc nc ns d t pc L (.inl y :: .inl x :: r) m Q :=
  fun L' hL => zw_icmp_ge hdg ht hp (fun g => kt g L' hL) (fun g => kf g L' hL)
theorem zf_if_ge {x : Int32} {off : Int} {tgt pc' : Nat} (hdg : decode (zx_mb t) pc = .ok (.ifCond .ge off, 3)) (ht : (pc : Int) + off = (tgt : Int)) (hp : pc + 3 = pc') (kt : 0 ≤ x.toInt → zf_W sc nc ns d t tgt L r m Q) (kf : x.toInt < 0 → zf_W sc nc ns d t pc' L r m Q) : zf_W sc nc ns d t pc L (.inl x :: r) m Q :=
  fun L' hL => zw_if_ge hdg ht hp (fun g => kt g L' hL) (fun g => kf g L' hL)
theorem zf_icmp_gt {x y : Int32} {off : Int} {tgt pc' : Nat} (hdg : decode (zx_mb t) pc = .ok (.if_icmp .gt off, 3)) (ht : (pc : Int) + off = (tgt : Int)) (hp : pc + 3 = pc') (kt : y.toInt < x.toInt → zf_W sc nc ns d t tgt L r m Q) (kf : x.toInt ≤ y.toInt → zf_W sc nc ns d t pc' L r m Q) : zf_W sc nc ns d t pc L (.inl y :: .inl x :: r) m Q :=
  fun L' hL => zw_icmp_gt hdg ht hp (fun g => kt g L' hL) (fun g => kf g L' hL)
theorem zf_if_gt {x : Int32} {off : Int} {tgt pc' : Nat} (hdg : decode (zx_mb t) pc = .ok (.ifCond .gt off, 3)) (ht : (pc : Int) + off = (tgt : Int)) (hp : pc + 3 = pc') (kt : 0 < x.toInt → zf_W sc nc ns d t tgt L r m Q) (kf : x.toInt ≤ 0 → zf_W sc nc ns d t pc' L r m Q) : zf_W sc nc ns d t pc L (.inl x :: r) m Q :=
  fun L' hL => zw_if_gt hdg ht hp (fun g => kt g L' hL) (fun g => kf g L' hL)
theorem zf_icmp_le {x y : Int32} {off : Int} {tgt pc' : Nat} (hdg : decode (zx_mb t) pc = .ok (.if_icmp .le off, 3)) (ht : (pc : Int) + off = (tgt : Int)) (hp : pc + 3 = pc') (kt : x.toInt ≤ y.toInt → zf_W sc nc ns d t tgt L r m Q) (kf : y.toInt < x.toInt → zf_W sc nc ns d t pc' L r m Q) : zf_W sc nc ns d t pc L (.inl y :: .inl x :: r) m Q :=
  fun L' hL => zw_icmp_le hdg ht hp (fun g => kt g L' hL) (fun g => kf g L' hL)
theorem zf_if_le {x : Int32} {off : Int} {tgt pc' : Nat} (hdg : decode (zx_mb t) pc = .ok (.ifCond .le off, 3)) (ht : (pc : Int) + off = (tgt : Int)) (hp : pc + 3 = pc') (kt : x.toInt ≤ 0 → zf_W sc nc ns d t tgt L r m Q) (kf : 0 < x.toInt → zf_W sc nc ns d t pc' L r m Q) : zf_W sc nc ns d t pc L (.inl x :: r) m Q :=
  fun L' hL => zw_if_le hdg ht hp (fun g => kt g L' hL) (fun g => kf g L' hL)
theorem zf_ib_eq {b : Bool} {off : Int} {tgt pc' : Nat} (hdg : decode (zx_mb t) pc = .ok (.ifCond .eq off, 3)) (ht : (pc : Int) + off = (tgt : Int)) (hp : pc + 3 = pc') (kt : b = false → zf_W sc nc ns d t tgt L r m Q) (kf : b = true → zf_W sc nc ns d t pc' L r m Q) : zf_W sc nc ns d t pc L (.inl (zb b) :: r) m Q :=
  zf_if_eq hdg ht hp (fun g => kt (by cases b with
    | true => exact absurd g (by decide)
    | false => rfl)) (fun g => kf (by cases b with
    | true => rfl
    | false => exact absurd (by decide) g))
theorem zf_ib_ne {b : Bool} {off : Int} {tgt pc' : Nat} (hdg : decode (zx_mb t) pc = .ok (.ifCond .ne off, 3)) (ht : (pc : Int) + off = (tgt : Int)) (hp : pc + 3 = pc') (kt : b = true → zf_W sc nc ns d t tgt L r m Q) (kf : b = false → zf_W sc nc ns d t pc' L r m Q) : zf_W sc nc ns d t pc L (.inl (zb b) :: r) m Q :=
  zf_if_ne hdg ht hp (fun g => kt (by cases b with
    | true => rfl
    | false => exact absurd (by decide) g)) (fun g => kf (by cases b with
    | true => exact absurd g (by decide)
    | false => rfl))
theorem zf_goto {off : Int} {tgt : Nat} (hdg : decode (zx_mb t) pc = .ok (.goto off, 3)) (ht : (pc : Int) + off = (tgt : Int)) (k : zf_W sc nc ns d t tgt L S m Q) : zf_W sc nc ns d t pc L S m Q :=
  fun L' hL => zw_goto hdg ht (k L' hL)
theorem zf_bi {n : Int} {v : Int32} {pc' : Nat} (hdg : decode (zx_mb t) pc = .ok (.bipush n, 2)) (hp : pc + 2 = pc') (hv : (Int8.ofInt n).toInt32 = v) (k : zf_W sc nc ns d t pc' L (.inl v :: S) m Q) : zf_W sc nc ns d t pc L S m Q :=
  fun L' hL => zw_bi hdg hp hv (k L' hL)
theorem zf_si {n : Int} {v : Int32} {pc' : Nat} (hdg : decode (zx_mb t) pc = .ok (.sipush n, 3)) (hp : pc + 3 = pc') (hv : (Int16.ofInt n).toInt32 = v) (k : zf_W sc nc ns d t pc' L (.inl v :: S) m Q) : zf_W sc nc ns d t pc L S m Q :=
  fun L' hL => zw_si hdg hp hv (k L' hL)
theorem zf_ic {n : Int} {v : Int32} {pc' : Nat} (hdg : decode (zx_mb t) pc = .ok (.iconst n, 1)) (hp : pc + 1 = pc') (hv : Int32.ofInt n = v) (k : zf_W sc nc ns d t pc' L (.inl v :: S) m Q) : zf_W sc nc ns d t pc L S m Q :=
  fun L' hL => zw_ic hdg hp hv (k L' hL)
theorem zf_gfi {a ix ci k pc' : Nat} {np : Nat × Nat} {fs : List (Option Nat)} (hdg : decode (zx_mb t) pc = .ok (.getfield ix, 3)) (hp : pc + 3 = pc') (hk : zx_lk zx_lF (zx_mo t) ix = some (ci, k, np)) (ha : a < 86) (hs : zf_sh a = .inl (ci, fs)) (hf : fs[k]? = some none) (kk : zf_W sc nc ns d t pc' L (.inl (m.1 a k) :: r) m Q) : zf_W sc nc ns d t pc L (.inr (.inr (1, a)) :: r) m Q :=
  fun L' hL => zw_gf (fs := zf_fs (m.1 a) 0 fs) (v := .inl (m.1 a k)) hdg hp hk ((zf_get ha).trans (by rw [hs]; rfl)) ((zf_fs_int _ _ _ _ hf).trans (by rw [Nat.zero_add])) (kk L' hL)
theorem zf_gfr {a ix ci k pc' b : Nat} {np : Nat × Nat} {fs : List (Option Nat)} (hdg : decode (zx_mb t) pc = .ok (.getfield ix, 3)) (hp : pc + 3 = pc') (hk : zx_lk zx_lF (zx_mo t) ix = some (ci, k, np)) (ha : a < 86) (hs : zf_sh a = .inl (ci, fs)) (hf : fs[k]? = some (some b)) (kk : zf_W sc nc ns d t pc' L (.inr (.inr (1, b)) :: r) m Q) : zf_W sc nc ns d t pc L (.inr (.inr (1, a)) :: r) m Q :=
  fun L' hL => zw_gf (fs := zf_fs (m.1 a) 0 fs) (v := .inr (.inr (1, b))) hdg hp hk ((zf_get ha).trans (by rw [hs]; rfl)) (zf_fs_ref _ _ _ _ _ hf) (kk L' hL)
theorem zf_pf {a ix ci k np pp pc' : Nat} {fs : List (Option Nat)} {x : Int32} (hdg : decode (zx_mb t) pc = .ok (.putfield ix, 3)) (hp : pc + 3 = pc') (hk : zx_lk zx_lF (zx_mo t) ix = some (ci, k, np, pp)) (ha : a < 86) (hs : zf_sh a = .inl (ci, fs)) (hf : fs[k]? = some none) (h2 : (Nat.blt k fs.length && (zx_fit (zx_ft ci k) (.inl x) && decide ((zx_T8 ci k).2.2.2 = false))) = true) (kk : ∀ m', m' = zf_u m a k x → zf_W sc nc ns d t pc' L r m' Q) : zf_W sc nc ns d t pc L (.inl x :: .inr (.inr (1, a)) :: r) m Q := by
  intro L' hL
  simp only [Bool.and_eq_true, Nat.blt_eq] at h2
  refine zw_pf hdg hp hk ((zf_get ha).trans (by rw [hs]; rfl)) (fs := zf_fs (m.1 a) 0 fs) ?_ rfl ?_
  · simp only [Bool.and_eq_true, decide_eq_true_eq, zf_fs_len]
    exact ⟨h2.1, h2.2.1, by simpa using h2.2.2⟩
  · rw [zf_put ha hs hf]
    exact kk _ rfl L' hL
theorem zf_ial {a n pc' : Nat} {i : Int32} {j : Nat} (hdg : decode (zx_mb t) pc = .ok (.iaload, 1)) (hp : pc + 1 = pc') (ha : a < 86) (hs : zf_sh a = .inr (.inl (0, n))) (hi : 0 ≤ i.toInt ∧ i.toInt < n) (hj : i.toInt.toNat = j) (kk : zf_W sc nc ns d t pc' L (.inl (m.1 a j) :: r) m Q) : zf_W sc nc ns d t pc L (.inl i :: .inr (.inr (1, a)) :: r) m Q := by
  subst hj
  intro L' hL
  have e := zi_in hi
  refine zw_ial (f := (List.range n).map (m.1 a)) hdg hp ((zf_get ha).trans (by rw [hs]; rfl)) (by rw [zf_lr]; exact e) ?_
  rw [zf_gr e.2]
  exact kk L' hL
theorem zf_ials {a pc' : Nat} {i : Int32} (hdg : decode (zx_mb t) pc = .ok (.iaload, 1)) (hp : pc + 1 = pc') (ha : a < 5) {n : Nat} (hn : (zx_sa.getD a []).length = n) (hi : 0 ≤ i.toInt ∧ i.toInt < n) (kk : zf_W sc nc ns d t pc' L (.inl ((zx_sa.getD a []).getD i.toInt.toNat 0) :: r) m Q) : zf_W sc nc ns d t pc L (.inl i :: .inr (.inr (4, a)) :: r) m Q :=
  fun L' hL => zw_ials hdg hp ⟨ha, by rw [hn]; exact zi_in hi⟩ (kk L' hL)
theorem zf_ias {a n pc' : Nat} {i x : Int32} {j : Nat} (hdg : decode (zx_mb t) pc = .ok (.iastore, 1)) (hp : pc + 1 = pc') (ha : a < 86) (hs : zf_sh a = .inr (.inl (0, n))) (hi : 0 ≤ i.toInt ∧ i.toInt < n) (hj : i.toInt.toNat = j) (kk : ∀ m', m' = zf_u m a j x → zf_W sc nc ns d t pc' L r m' Q) : zf_W sc nc ns d t pc L (.inl x :: .inl i :: .inr (.inr (1, a)) :: r) m Q := by
  subst hj
  intro L' hL
  have e := zi_in hi
  refine zw_ias (f := (List.range n).map (m.1 a)) hdg hp ((zf_get ha).trans (by rw [hs]; rfl)) (by rw [zf_lr]; exact e) ?_
  rw [zf_set ha hs]
  exact kk _ rfl L' hL
theorem zf_lal {a n pc' : Nat} {i : Int32} {j : Nat} (hdg : decode (zx_mb t) pc = .ok (.laload, 1)) (hp : pc + 1 = pc') (ha : a < 86) (hs : zf_sh a = .inr (.inl (1, n))) (hi : 0 ≤ i.toInt ∧ i.toInt < n) (hj : i.toInt.toNat = j) (kk : zf_W sc nc ns d t pc' L (.inr (.inl (m.2 a j)) :: r) m Q) : zf_W sc nc ns d t pc L (.inl i :: .inr (.inr (1, a)) :: r) m Q := by
  subst hj
  intro L' hL
  have e := zi_in hi
  refine zw_lal (f := (List.range n).map (m.2 a)) hdg hp ((zf_get ha).trans (by rw [hs]; rfl)) (by rw [zf_lr]; exact e) ?_
  rw [zf_gr e.2]
  exact kk L' hL
theorem zf_las {a n pc' : Nat} {i : Int32} {x : Int64} {j : Nat} (hdg : decode (zx_mb t) pc = .ok (.lastore, 1)) (hp : pc + 1 = pc') (ha : a < 86) (hs : zf_sh a = .inr (.inl (1, n))) (hi : 0 ≤ i.toInt ∧ i.toInt < n) (hj : i.toInt.toNat = j) (kk : ∀ m', m' = zf_ul m a j x → zf_W sc nc ns d t pc' L r m' Q) : zf_W sc nc ns d t pc L (.inr (.inl x) :: .inl i :: .inr (.inr (1, a)) :: r) m Q := by
  subst hj
  intro L' hL
  have e := zi_in hi
  refine zw_las (f := (List.range n).map (m.2 a)) hdg hp ((zf_get ha).trans (by rw [hs]; rfl)) (by rw [zf_lr]; exact e) ?_
  rw [zf_setl ha hs]
  exact kk _ rfl L' hL
theorem zf_aal {a t0 n pc' : Nat} {l : List Nat} {i : Int32} {b : Nat} (hdg : decode (zx_mb t) pc = .ok (.aaload, 1)) (hp : pc + 1 = pc') (ha : a < 86) (hs : zf_sh a = .inr (.inr (t0, l))) (ht : t0 = 2 ∨ t0 = 3) (hn : l.length = n) (hi : 0 ≤ i.toInt ∧ i.toInt < n) (hb : ∀ j, j < n → l[j]? = some (b + 2 * j)) (kk : zf_W sc nc ns d t pc' L (.inr (.inr (1, b + 2 * i.toInt.toNat)) :: r) m Q) : zf_W sc nc ns d t pc L (.inl i :: .inr (.inr (1, a)) :: r) m Q := by
  intro L' hL
  have e := zi_in hi
  refine zw_aal (f := l.map some) (b := b + 2 * i.toInt.toNat) hdg hp ((zf_get ha).trans (by rw [hs]; rfl)) ht (by rw [List.length_map, hn]; exact e) ?_ (kk L' hL)
  rw [List.getElem?_map, hb _ e.2]
  rfl
theorem zf_div {x y : Int32} {pc' : Nat} (hdg : decode (zx_mb t) pc = .ok (.idiv, 1)) (hp : pc + 1 = pc') (hy : ¬ y = 0) (kk : zf_W sc nc ns d t pc' L (.inl (x / y) :: r) m Q) : zf_W sc nc ns d t pc L (.inl y :: .inl x :: r) m Q :=
  fun L' hL => zw_div hdg hp hy (kk L' hL)
theorem zf_rem {x y : Int32} {pc' : Nat} (hdg : decode (zx_mb t) pc = .ok (.irem, 1)) (hp : pc + 1 = pc') (hy : ¬ y = 0) (kk : zf_W sc nc ns d t pc' L (.inl (x - x / y * y) :: r) m Q) : zf_W sc nc ns d t pc L (.inl y :: .inl x :: r) m Q :=
  fun L' hL => zw_rem hdg hp hy (kk L' hL)
theorem zf_gs {ix g pc' : Nat} {np : Nat × Nat} (hdg : decode (zx_mb t) pc = .ok (.getstatic ix, 3)) (hp : pc + 3 = pc') (hk : zx_lk zx_lG (zx_mo t) ix = some (g, np)) (hg : Nat.blt g 5 = true) (kk : zf_W sc nc ns d t pc' L (.inr (.inr (4, g)) :: S) m Q) : zf_W sc nc ns d t pc L S m Q :=
  fun L' hL => zw_gs hdg hp hk (Nat.blt_eq.mp hg) (kk L' hL)
theorem zf_max {ix k pc' : Nat} {np : Nat × Nat} {x y : Int32} (hdg : decode (zx_mb t) pc = .ok (.invokestatic ix, 3)) (hp : pc + 3 = pc') (hk : zx_lk zx_lM (zx_mo t) ix = some (k, np)) (hkk : (decide (zx_mk (zx_m k) = 3) && (decide (k < 221) && decide (zx_cs r ≤ 8))) = true) (kk : zf_W sc nc ns d t pc' L (.inl (if x < y then y else x) :: r) m Q) : zf_W sc nc ns d t pc L (.inl y :: .inl x :: r) m Q :=
  fun L' hL => zw_max hdg hp hk hkk (kk L' hL)
theorem zf_min {ix k pc' : Nat} {np : Nat × Nat} {x y : Int32} (hdg : decode (zx_mb t) pc = .ok (.invokestatic ix, 3)) (hp : pc + 3 = pc') (hk : zx_lk zx_lM (zx_mo t) ix = some (k, np)) (hkk : (decide (zx_mk (zx_m k) = 4) && (decide (k < 221) && decide (zx_cs r ≤ 8))) = true) (kk : zf_W sc nc ns d t pc' L (.inl (if y < x then y else x) :: r) m Q) : zf_W sc nc ns d t pc L (.inl y :: .inl x :: r) m Q :=
  fun L' hL => zw_min hdg hp hk hkk (kk L' hL)
theorem zf_tsc {dflt lo hi : Int} {offs : Array Int} {len : Nat} {x : Int32} {tgd : Nat} (hdg : decode (zx_mb t) pc = .ok (.tableswitch dflt lo hi offs, len)) (hd : (pc : Int) + dflt = (tgd : Int)) (tgts : List Nat) (ht : offs.toList.map (fun o => (pc : Int) + o) = tgts.map (fun n : Nat => (n : Int))) (hsz : hi - lo + 1 = (offs.size : Int))
    (kd : (x.toInt < lo ∨ hi < x.toInt) → zf_W sc nc ns d t tgd L r m Q) (kin : zl_all (fun i tg => x.toInt = lo + (i : Int) → zf_W sc nc ns d t tg L r m Q) 0 tgts) : zf_W sc nc ns d t pc L (.inl x :: r) m Q :=
  fun L' hL => zw_tsc hdg hd tgts ht hsz (fun g => kd g L' hL) (fun j tg hj g => kin j tg hj g L' hL)
theorem zf_ri {v : Int32} {Q : Int32 → zf_Me → Prop} (hdg : decode (zx_mb t) pc = .ok (.ireturn, 1)) (hr : zx_mr t = some .int) (q : Q v m) : zf_W sc nc ns d t pc L [.inl v] m (zf_I Q) :=
  fun _ _ => zw_iret hdg hr rfl ⟨m, rfl, v, rfl, q⟩
theorem zf_rb {b : Bool} {Q : Bool → zf_Me → Prop} (hdg : decode (zx_mb t) pc = .ok (.ireturn, 1)) (hr : zx_mr t = some .boolean) (q : Q b m) : zf_W sc nc ns d t pc L [.inl (zb b)] m (zf_B Q) :=
  fun _ _ => zw_iret hdg hr (by cases b <;> decide) ⟨m, rfl, b, rfl, q⟩
theorem zf_rv {Q : zf_Me → Prop} (hdg : decode (zx_mb t) pc = .ok (.return_, 1)) (hr : zx_mr t = none) (q : Q m) : zf_W sc nc ns d t pc L [] m (zf_O Q) :=
  fun _ _ => zw_vret hdg hr ⟨m, rfl, rfl, q⟩
theorem zf_rl {v : Int64} {Q : Int64 → zf_Me → Prop} (hdg : decode (zx_mb t) pc = .ok (.lreturn, 1)) (hr : zx_mr t = some .long) (q : Q v m) : zf_W sc nc ns d t pc L [.inr (.inl v)] m (zf_J Q) :=
  fun _ _ => zw_lret hdg hr ⟨m, rfl, v, rfl, q⟩
theorem zf_iv {a ix k ci pc' : Nat} {np : Nat × Nat} {fs : List (Option Nat)} {as : List zx_V} {Q' : Option zx_V → zf_Me → Prop} (hdg : decode (zx_mb t) pc = .ok (.invokevirtual ix, 3)) (hp : pc + 3 = pc') (hk : zx_lk zx_lM (zx_mo t) ix = some (k, np)) (hkk : (decide (zx_mk (zx_m k) = 0) && decide (k < 221)) = true) (hd : S.drop (zx_mp (zx_m k)) = .inr (.inr (1, a)) :: r) (ha : a < 86) (hs : zf_sh a = .inl (ci, fs)) (hc : (decide (ci = zx_mo (zx_m k)) && (decide (ci < 9) && (decide (zx_cs r ≤ 8) && decide (zx_mp (zx_m k) ≤ S.length)))) = true) (has : (S.take (zx_mp (zx_m k))).reverse = as)
    (hM : zf_M d k (.inr (.inr (1, a)) :: as) m Q') (kk : ∀ v m', Q' v m' → zf_W sc nc ns (d + 1) t pc' L (v.toList ++ r) m' Q) : zf_W sc nc ns (d + 1) t pc L S m Q := by
  intro L' hL
  refine zw_iv (fs := zf_fs (m.1 a) 0 fs) hdg hp hk hkk hd ((zf_get ha).trans (by rw [hs]; rfl)) hc has ?_
  exact zx_M_cons hM (fun v h' _ ⟨m', e, q⟩ _ => by subst e; exact kk v m' q L' hL)
theorem zf_is {ix k pc' : Nat} {np : Nat × Nat} {as : List zx_V} {Q' : Option zx_V → zf_Me → Prop} (hdg : decode (zx_mb t) pc = .ok (.invokestatic ix, 3)) (hp : pc + 3 = pc') (hk : zx_lk zx_lM (zx_mo t) ix = some (k, np)) (hkk : (decide (zx_mk (zx_m k) = 1) && (decide (k < 221) && (decide (zx_cs (S.drop (zx_mp (zx_m k))) ≤ 8) && decide (zx_mp (zx_m k) ≤ S.length)))) = true) (has : (S.take (zx_mp (zx_m k))).reverse = as) (hd : S.drop (zx_mp (zx_m k)) = r)
    (hM : zf_M d k as m Q') (kk : ∀ v m', Q' v m' → zf_W sc nc ns (d + 1) t pc' L (v.toList ++ r) m' Q) : zf_W sc nc ns (d + 1) t pc L S m Q := by
  intro L' hL
  refine zw_is hdg hp hk hkk has hd ?_
  exact zx_M_cons hM (fun v h' _ ⟨m', e, q⟩ _ => by subst e; exact kk v m' q L' hL)
theorem zf_kI {pc' : Nat} {Q' : Int32 → zf_Me → Prop} (kk : ∀ x m', Q' x m' → zf_W sc nc ns d t pc' L (.inl x :: r) m' Q) : ∀ v m', zf_I Q' v m' → zf_W sc nc ns d t pc' L (v.toList ++ r) m' Q := by
  rintro v m' ⟨x, rfl, q⟩
  exact kk x m' q
theorem zf_kB {pc' : Nat} {Q' : Bool → zf_Me → Prop} (kk : ∀ b m', Q' b m' → zf_W sc nc ns d t pc' L (.inl (zb b) :: r) m' Q) : ∀ v m', zf_B Q' v m' → zf_W sc nc ns d t pc' L (v.toList ++ r) m' Q := by
  rintro v m' ⟨x, rfl, q⟩
  exact kk x m' q
theorem zf_kO {pc' : Nat} {Q' : zf_Me → Prop} (kk : ∀ m', Q' m' → zf_W sc nc ns d t pc' L r m' Q) : ∀ v m', zf_O Q' v m' → zf_W sc nc ns d t pc' L (v.toList ++ r) m' Q := by
  rintro v m' ⟨rfl, q⟩
  exact kk m' q
theorem zf_kJ {pc' : Nat} {Q' : Int64 → zf_Me → Prop} (kk : ∀ x m', Q' x m' → zf_W sc nc ns d t pc' L (.inr (.inl x) :: r) m' Q) : ∀ v m', zf_J Q' v m' → zf_W sc nc ns d t pc' L (v.toList ++ r) m' Q := by
  rintro v m' ⟨x, rfl, q⟩
  exact kk x m' q
theorem zf_kT {pc' : Nat} {Q' : Nat → zf_Me → Prop} (kk : ∀ a m', a < 12 → Q' a m' → zf_W sc nc ns d t pc' L (.inr (.inr (2, a)) :: r) m' Q) : ∀ v m', zf_T Q' v m' → zf_W sc nc ns d t pc' L (v.toList ++ r) m' Q := by
  rintro v m' ⟨x, rfl, h, q⟩
  exact kk x m' h q
theorem zf_iv2 {a ix k pc' : Nat} {np : Nat × Nat} {as : List zx_V} {Q' : Option zx_V → zf_Me → Prop} (hdg : decode (zx_mb t) pc = .ok (.invokevirtual ix, 3)) (hp : pc + 3 = pc') (hk : zx_lk zx_lM (zx_mo t) ix = some (k, np)) (hkk : (decide (zx_mk (zx_m k) = 0) && decide (k < 221)) = true) (hd : S.drop (zx_mp (zx_m k)) = .inr (.inr (2, a)) :: r) (ha : a < 12) (hc : (decide (zx_mo (zx_m k) = 11) && (decide (zx_cs r ≤ 8) && decide (zx_mp (zx_m k) ≤ S.length))) = true) (has : (S.take (zx_mp (zx_m k))).reverse = as)
    (hM : zf_M d k (.inr (.inr (2, a)) :: as) m Q') (kk : ∀ v m', Q' v m' → zf_W sc nc ns (d + 1) t pc' L (v.toList ++ r) m' Q) : zf_W sc nc ns (d + 1) t pc L S m Q := by
  intro L' hL
  subst hp has
  simp only [Bool.and_eq_true, decide_eq_true_eq] at hkk hc
  refine zx_W_call (k := k) (as := .inr (.inr (2, a)) :: (S.take (zx_mp (zx_m k))).reverse) (r := r) hdg rfl (fun run => ?_) (zx_M_cons hM (fun v h' _ ⟨m', e, q⟩ _ => by subst e; exact kk v m' q L' hL))
  show zx_iv run (zx_mo t) ix pc L' S _ nc ns = _
  unfold zx_iv
  simp only [hk]
  rw [if_pos hkk]
  simp only [hd]
  rw [if_pos ⟨ha, hc⟩]
theorem zf_rt {a : Nat} {Q : Nat → zf_Me → Prop} (hdg : decode (zx_mb t) pc = .ok (.areturn, 1)) {cn : String} (hr : zx_mr t = some (.object cn)) (ha : a < 12) (q : Q a m) : zf_W sc nc ns d t pc L [.inr (.inr (2, a))] m (zf_T Q) := by
  intro L' hL
  refine zx_W_end (v := some (.inr (.inr (2, a)))) hdg rfl (fun run => ?_) ⟨m, rfl, a, rfl, ha, q⟩
  show zx_ar (zx_mr t) _ _ nc ns = _
  unfold zx_ar
  rw [hr]
  rfl
theorem zf_ac {ix pc' : Nat} {a b z k : Nat} {n dp sp : Int32} (hdg : decode (zx_mb t) pc = .ok (.invokestatic ix, 3)) (hp : pc + 3 = pc') (hk : zx_lk zx_lM (zx_mo t) ix = none) {q0 : Nat} (hk2 : zx_lk zx_lA (zx_mo t) ix = some q0) (ha : a < 86) (hb : b < 86) (hsa : zf_sh a = .inr (.inl (0, z))) (hsb : zf_sh b = .inr (.inl (0, k))) (hr : Nat.ble (zx_cs r) 8 = true) (hi : 0 ≤ sp.toInt ∧ 0 ≤ dp.toInt ∧ 0 ≤ n.toInt ∧ sp.toInt + n.toInt ≤ z ∧ dp.toInt + n.toInt ≤ k) (kk : ∀ m', m' = zf_cp m a b sp.toInt.toNat dp.toInt.toNat n.toInt.toNat → zf_W sc nc ns d t pc' L r m' Q) : zf_W sc nc ns d t pc L (.inl n :: .inl dp :: .inr (.inr (1, b)) :: .inl sp :: .inr (.inr (1, a)) :: r) m Q := by
  subst hp
  intro L' hL
  have e0 : (0 : Int32).toInt = 0 := rfl
  have h1 : ¬ sp < 0 := fun q => by have := zi_lt.mp q; omega
  have h2 : ¬ dp < 0 := fun q => by have := zi_lt.mp q; omega
  have h3 : ¬ n < 0 := fun q => by have := zi_lt.mp q; omega
  have ga := (zf_get (m := m) ha).trans (by rw [hsa]; rfl : _ = some (Sum.inr (0, Sum.inl ((List.range z).map (m.1 a)))))
  have gb := (zf_get (m := m) hb).trans (by rw [hsb]; rfl : _ = some (Sum.inr (0, Sum.inl ((List.range k).map (m.1 b)))))
  have l1 : sp.toInt.toNat + n.toInt.toNat ≤ z := by omega
  have l2 : dp.toInt.toNat + n.toInt.toNat ≤ k := by omega
  refine zx_W_ins (pc' := pc + 3) (L' := L') (S' := r) (h' := zf_E (zf_cp m a b sp.toInt.toNat dp.toInt.toNat n.toInt.toNat)) hdg rfl (fun run => ?_) (by rw [zf_len, zf_len]) (kk _ rfl L' hL)
  show zx_is run (zx_mo t) ix pc L' _ _ nc ns = _
  unfold zx_is
  simp only [hk, hk2]
  unfold zx_ac
  simp only
  rw [if_pos ⟨Nat.ble_eq.mp hr, h1, h2, h3⟩, ga, gb]
  simp only
  rw [if_pos (by rw [zf_lr, zf_lr]; exact ⟨l1, l2⟩)]
  show zx_N _ _ _ ((zf_E m).set b (.inr (0, .inl (zx_cpy _ _ sp.toInt.toNat dp.toInt.toNat n.toInt.toNat)))) _ _ = _
  rw [zf_cpi hb hsb l1 l2]
  rfl
theorem zf_acl {ix pc' : Nat} {a b z k : Nat} {n dp sp : Int32} (hdg : decode (zx_mb t) pc = .ok (.invokestatic ix, 3)) (hp : pc + 3 = pc') (hk : zx_lk zx_lM (zx_mo t) ix = none) {q0 : Nat} (hk2 : zx_lk zx_lA (zx_mo t) ix = some q0) (ha : a < 86) (hb : b < 86) (hsa : zf_sh a = .inr (.inl (1, z))) (hsb : zf_sh b = .inr (.inl (1, k))) (hr : Nat.ble (zx_cs r) 8 = true) (hi : 0 ≤ sp.toInt ∧ 0 ≤ dp.toInt ∧ 0 ≤ n.toInt ∧ sp.toInt + n.toInt ≤ z ∧ dp.toInt + n.toInt ≤ k) (kk : ∀ m', m' = zf_cpl m a b sp.toInt.toNat dp.toInt.toNat n.toInt.toNat → zf_W sc nc ns d t pc' L r m' Q) : zf_W sc nc ns d t pc L (.inl n :: .inl dp :: .inr (.inr (1, b)) :: .inl sp :: .inr (.inr (1, a)) :: r) m Q := by
  subst hp
  intro L' hL
  have e0 : (0 : Int32).toInt = 0 := rfl
  have h1 : ¬ sp < 0 := fun q => by have := zi_lt.mp q; omega
  have h2 : ¬ dp < 0 := fun q => by have := zi_lt.mp q; omega
  have h3 : ¬ n < 0 := fun q => by have := zi_lt.mp q; omega
  have ga := (zf_get (m := m) ha).trans (by rw [hsa]; rfl : _ = some (Sum.inr (1, Sum.inr (Sum.inl ((List.range z).map (m.2 a))))))
  have gb := (zf_get (m := m) hb).trans (by rw [hsb]; rfl : _ = some (Sum.inr (1, Sum.inr (Sum.inl ((List.range k).map (m.2 b))))))
  have l1 : sp.toInt.toNat + n.toInt.toNat ≤ z := by omega
  have l2 : dp.toInt.toNat + n.toInt.toNat ≤ k := by omega
  refine zx_W_ins (pc' := pc + 3) (L' := L') (S' := r) (h' := zf_E (zf_cpl m a b sp.toInt.toNat dp.toInt.toNat n.toInt.toNat)) hdg rfl (fun run => ?_) (by rw [zf_len, zf_len]) (kk _ rfl L' hL)
  show zx_is run (zx_mo t) ix pc L' _ _ nc ns = _
  unfold zx_is
  simp only [hk, hk2]
  unfold zx_ac
  simp only
  rw [if_pos ⟨Nat.ble_eq.mp hr, h1, h2, h3⟩, ga, gb]
  simp only
  rw [if_pos (by rw [zf_lr, zf_lr]; exact ⟨l1, l2⟩)]
  show zx_N _ _ _ ((zf_E m).set b (.inr (1, .inr (.inl (zx_cpy _ _ sp.toInt.toNat dp.toInt.toNat n.toInt.toNat))))) _ _ = _
  rw [zf_cpj hb hsb l1 l2]
  rfl
theorem zf_ar {a t0 n pc' : Nat} {l : List Nat} {v : Int32} (hdg : decode (zx_mb t) pc = .ok (.arraylength, 1)) (hp : pc + 1 = pc') (ha : a < 86) (hs : zf_sh a = .inr (.inr (t0, l))) (ht : t0 < 4) (hv : Int32.ofNat l.length = v) (kk : zf_W sc nc ns d t pc' L (.inl v :: r) m Q) : zf_W sc nc ns d t pc L (.inr (.inr (1, a)) :: r) m Q := by
  subst hp hv
  intro L' hL
  refine zx_W_ins hdg rfl (fun run => ?_) rfl (kk L' hL)
  show zx_al sc pc L' (.inr (.inr (1, a)) :: r) (zf_E m) nc ns = _
  unfold zx_al
  simp only [(zf_get (m := m) ha).trans (by rw [hs]; rfl : _ = some (Sum.inr (t0, Sum.inr (Sum.inr (l.map some)))))]
  rw [if_pos ht]
  show zx_N _ _ (.inl (Int32.ofNat (l.map some).length) :: r) _ _ _ = _
  rw [List.length_map]
  rfl
theorem zf_lsw {dflt : Int} {ps : Array (Int × Int)} {len : Nat} {x : Int32} {tg : Nat} (hdg : decode (zx_mb t) pc = .ok (.lookupswitch dflt ps, len)) (hs : (ps.toList.zip (ps.toList.drop 1)).all (fun (a, next) => a.1 < next.1) = true) {o : Int} (ho : Op.lookupswitch.offset ps.toList dflt x.toInt = o) (ht : (pc : Int) + o = (tg : Int)) (kk : zf_W sc nc ns d t tg L r m Q) : zf_W sc nc ns d t pc L (.inl x :: r) m Q := by
  subst ho
  intro L' hL
  refine zx_W_ins hdg rfl (fun run => ?_) rfl (kk L' hL)
  show zx_lsw dflt ps pc L' (.inl x :: r) (zf_E m) nc ns = _
  unfold zx_lsw
  simp only
  rw [if_pos hs]
  unfold zx_J
  rw [if_pos (by omega), show ((pc : Int) + Op.lookupswitch.offset ps.toList dflt x.toInt).toNat = tg by omega]
  rfl
theorem zf_ldc {ix n pc' : Nat} {v : Int32} {np : Nat} {ins : Instr} (hdg : decode (zx_mb t) pc = .ok (ins, n)) (hlen : zx_lok ins n = true) (h1 : ∀ run L' h, zx_ins sc run t ins pc L' S h nc ns = zx_lc (zx_mo t) ix n pc L' S h nc ns) (hp : pc + n = pc') (hk : zx_lk zx_lI (zx_mo t) ix = some (v, np)) (kk : zf_W sc nc ns d t pc' L (.inl v :: S) m Q) : zf_W sc nc ns d t pc L S m Q := by
  subst hp
  intro L' hL
  refine zx_W_ins hdg hlen (fun run => (h1 run L' _).trans ?_) rfl (kk L' hL)
  unfold zx_lc
  simp only [hk]
  rfl
theorem zf_lds {ix i pc' : Nat} (hdg : decode (zx_mb t) pc = .ok (.ldc ix, 2)) (hp : pc + 2 = pc') (hk : zx_lk zx_lI (zx_mo t) ix = none) (hk2 : zx_lk zx_lS (zx_mo t) ix = some i) (ho : zx_mo t = 4) (hi : i < 12) (kk : zf_W sc nc ns d t pc' L (.inr (.inr (2, i)) :: S) m Q) : zf_W sc nc ns d t pc L S m Q := by
  subst hp
  intro L' hL
  refine zx_W_ins hdg rfl (fun run => ?_) rfl (kk L' hL)
  show zx_lc (zx_mo t) ix 2 pc L' S _ nc ns = _
  unfold zx_lc
  simp only [hk, hk2]
  rw [if_pos trivial, if_pos ⟨ho, hi⟩]
  rfl
end
def zf_arr (a n : Nat) : Prop := a < 86 ∧ zf_sh a = .inr (.inl (0, n))
def zf_larr (a n : Nat) : Prop := a < 86 ∧ zf_sh a = .inr (.inl (1, n))
def zf_way (y : Nat) : Prop := y < 86 ∧ zf_sh y = .inl (6, [some (y + 1), some (y + 2), some (y + 3), some (y + 4), none, none]) ∧ zf_arr (y + 1) 24 ∧ zf_arr (y + 2) 24 ∧ zf_arr (y + 3) 6 ∧ zf_arr (y + 4) 6
def zf_walk (w y r : Nat) : Prop := w < 86 ∧ zf_sh w = .inl (5, [some y, some r, none, none, none, none, none, none, none, none, none, none, none]) ∧ zf_way y ∧ zf_arr r 6
def zf_shelf (c r : Nat) : Prop := c < 86 ∧ zf_sh c = .inl (3, [some r, none, none]) ∧ zf_larr r 160
theorem zf_way3 : zf_way 3 := ⟨by decide, rfl, ⟨by decide, rfl⟩, ⟨by decide, rfl⟩, ⟨by decide, rfl⟩, ⟨by decide, rfl⟩⟩
theorem zf_way10 : zf_way 10 := ⟨by decide, rfl, ⟨by decide, rfl⟩, ⟨by decide, rfl⟩, ⟨by decide, rfl⟩, ⟨by decide, rfl⟩⟩
theorem zf_way37 : zf_way 37 := ⟨by decide, rfl, ⟨by decide, rfl⟩, ⟨by decide, rfl⟩, ⟨by decide, rfl⟩, ⟨by decide, rfl⟩⟩
theorem zf_walk2 : zf_walk 2 3 8 := ⟨by decide, rfl, zf_way3, by decide, rfl⟩
theorem zf_walk9 : zf_walk 9 10 15 := ⟨by decide, rfl, zf_way10, by decide, rfl⟩
theorem zf_walk16 : zf_walk 16 3 17 := ⟨by decide, rfl, zf_way3, by decide, rfl⟩
theorem zf_walk19 : zf_walk 19 3 20 := ⟨by decide, rfl, zf_way3, by decide, rfl⟩
theorem zf_walk36 : zf_walk 36 37 42 := ⟨by decide, rfl, zf_way37, by decide, rfl⟩
theorem zf_walks {j : Nat} (h : j < 5) : zf_walk (25 + 2 * j) 3 (26 + 2 * j) := by
  match j, h with
  | 0, _ => exact ⟨by decide, rfl, zf_way3, by decide, rfl⟩
  | 1, _ => exact ⟨by decide, rfl, zf_way3, by decide, rfl⟩
  | 2, _ => exact ⟨by decide, rfl, zf_way3, by decide, rfl⟩
  | 3, _ => exact ⟨by decide, rfl, zf_way3, by decide, rfl⟩
  | 4, _ => exact ⟨by decide, rfl, zf_way3, by decide, rfl⟩
theorem zf_shelves {j : Nat} (h : j < 8) : zf_shelf (47 + 2 * j) (48 + 2 * j) := by
  match j, h with
  | 0, _ => exact ⟨by decide, rfl, by decide, rfl⟩
  | 1, _ => exact ⟨by decide, rfl, by decide, rfl⟩
  | 2, _ => exact ⟨by decide, rfl, by decide, rfl⟩
  | 3, _ => exact ⟨by decide, rfl, by decide, rfl⟩
  | 4, _ => exact ⟨by decide, rfl, by decide, rfl⟩
  | 5, _ => exact ⟨by decide, rfl, by decide, rfl⟩
  | 6, _ => exact ⟨by decide, rfl, by decide, rfl⟩
  | 7, _ => exact ⟨by decide, rfl, by decide, rfl⟩
theorem zf_row1 : ∀ j, j < 8 → [47, 49, 51, 53, 55, 57, 59, 61][j]? = some (47 + 2 * j) := by decide
theorem zf_row22 : ∀ j, j < 5 → [25, 27, 29, 31, 33][j]? = some (25 + 2 * j) := by decide
end
section
/-! part 23: strings: their length, their letters: laid by wip/flat/strs.py -/
section
variable {sc : zx_Sc} {d nc ns : Nat} {t : zx_MT} {pc : Nat} {L L2 : List (Option zx_V)} {S S' r : List zx_V} {m : zf_Me} {Q : Option zx_V → zf_Me → Prop}
theorem zf_gfv {a ix pc' : Nat} {np : Nat} (hdg : decode (zx_mb t) pc = .ok (.getfield ix, 3)) (hp : pc + 3 = pc') (hk : zx_lk zx_lK (zx_mo t) ix = some (0, np)) (ha : a < 12) (kk : zf_W sc nc ns d t pc' L (.inr (.inr (3, a)) :: r) m Q) : zf_W sc nc ns d t pc L (.inr (.inr (2, a)) :: r) m Q := by
  subst hp
  intro L' hL
  refine zx_W_ins hdg rfl (fun run => ?_) rfl (kk L' hL)
  show zx_gf (zx_mo t) ix pc L' (.inr (.inr (2, a)) :: r) (zf_E m) nc ns = _
  unfold zx_gf
  simp only [hk]
  rw [if_pos ha]
  rfl
theorem zf_gfc {a ix pc' : Nat} {np : Nat} (hdg : decode (zx_mb t) pc = .ok (.getfield ix, 3)) (hp : pc + 3 = pc') (hk : zx_lk zx_lK (zx_mo t) ix = some (1, np)) (ha : a < 12) (kk : zf_W sc nc ns d t pc' L (.inl 0 :: r) m Q) : zf_W sc nc ns d t pc L (.inr (.inr (2, a)) :: r) m Q := by
  subst hp
  intro L' hL
  refine zx_W_ins hdg rfl (fun run => ?_) rfl (kk L' hL)
  show zx_gf (zx_mo t) ix pc L' (.inr (.inr (2, a)) :: r) (zf_E m) nc ns = _
  unfold zx_gf
  simp only [hk]
  rw [if_pos ha]
  rfl
theorem zf_als {a pc' : Nat} (hdg : decode (zx_mb t) pc = .ok (.arraylength, 1)) (hp : pc + 1 = pc') (ha : a < 12) (kk : zf_W sc nc ns d t pc' L (.inl (Int32.ofNat (zx_sl.getD a 0)) :: r) m Q) : zf_W sc nc ns d t pc L (.inr (.inr (3, a)) :: r) m Q := by
  subst hp
  intro L' hL
  refine zx_W_ins hdg rfl (fun run => ?_) rfl (kk L' hL)
  show zx_al sc pc L' (.inr (.inr (3, a)) :: r) (zf_E m) nc ns = _
  unfold zx_al
  simp only
  rw [if_pos ha]
  rfl
theorem zf_bal {a pc' : Nat} {i : Int32} (hdg : decode (zx_mb t) pc = .ok (.baload, 1)) (hp : pc + 1 = pc') (ha : a < 12) (hi : 0 ≤ i.toInt ∧ i.toInt < (zx_sl.getD a 0 : Nat)) (kk : zf_W sc nc ns d t pc' L (.inl ((zx_sb.getD a []).getD i.toInt.toNat 0) :: r) m Q) : zf_W sc nc ns d t pc L (.inl i :: .inr (.inr (3, a)) :: r) m Q := by
  subst hp
  intro L' hL
  refine zx_W_ins hdg rfl (fun run => ?_) rfl (kk L' hL)
  show zx_bal pc L' (.inl i :: .inr (.inr (3, a)) :: r) (zf_E m) nc ns = _
  unfold zx_bal
  simp only
  rw [if_pos ⟨ha, zi_in hi⟩]
  rfl
theorem zf_gsb {ix pc' : Nat} {np : Nat × Nat} (hdg : decode (zx_mb t) pc = .ok (.getstatic ix, 3)) (hp : pc + 3 = pc') (hk : zx_lk zx_lG (zx_mo t) ix = some (5, np)) (kk : zf_W sc nc ns d t pc' L (.inl 1 :: S) m Q) : zf_W sc nc ns d t pc L S m Q := by
  subst hp
  intro L' hL
  refine zx_W_ins hdg rfl (fun run => ?_) rfl (kk L' hL)
  show zx_gs (zx_mo t) ix pc L' S (zf_E m) nc ns = _
  unfold zx_gs
  simp only [hk]
  rfl
theorem zf_gsf {ix pc' : Nat} {np : Nat × Nat} (hdg : decode (zx_mb t) pc = .ok (.getstatic ix, 3)) (hp : pc + 3 = pc') (hk : zx_lk zx_lG (zx_mo t) ix = some (6, np)) (kk : zf_W sc nc ns d t pc' L (.inr (.inr (6, 0)) :: S) m Q) : zf_W sc nc ns d t pc L S m Q := by
  subst hp
  intro L' hL
  refine zx_W_ins hdg rfl (fun run => ?_) rfl (kk L' hL)
  show zx_gs (zx_mo t) ix pc L' S (zf_E m) nc ns = _
  unfold zx_gs
  simp only [hk]
  rfl
theorem zf_rx {v : Int32} {ty : FieldType} {Q : Int32 → zf_Me → Prop} (hdg : decode (zx_mb t) pc = .ok (.ireturn, 1)) (hr : zx_mr t = some ty) (hn : zx_nr ty v = true) (q : Q v m) : zf_W sc nc ns d t pc L [.inl v] m (zf_I Q) :=
  fun _ _ => zw_iret hdg hr hn ⟨m, rfl, v, rfl, q⟩
end
def zt_216 : zx_MT := (11, yJ0_coder_7d493, cJ0_coder_7d493, 1, (some FieldType.byte), 0, 0)
theorem zm_216 : zx_m 216 = zt_216 := rfl
theorem dJ0_coder_7d493_0 : decode cJ0_coder_7d493 0 = .ok (.getstatic 38, 3) := by decide +kernel
theorem dJ0_coder_7d493_3 : decode cJ0_coder_7d493 3 = .ok (.ifCond .eq 10, 3) := by decide +kernel
theorem dJ0_coder_7d493_6 : decode cJ0_coder_7d493 6 = .ok (.aload_n 0, 1) := by decide +kernel
theorem dJ0_coder_7d493_7 : decode cJ0_coder_7d493 7 = .ok (.getfield 15, 3) := by decide +kernel
theorem dJ0_coder_7d493_10 : decode cJ0_coder_7d493 10 = .ok (.goto 4, 3) := by decide +kernel
theorem dJ0_coder_7d493_13 : decode cJ0_coder_7d493 13 = .ok (.iconst 1, 1) := by decide +kernel
theorem dJ0_coder_7d493_14 : decode cJ0_coder_7d493 14 = .ok (.ireturn, 1) := by decide +kernel
def zt_217 : zx_MT := (11, yJ0_isLatin1_aae02, cJ0_isLatin1_aae02, 1, (some FieldType.boolean), 0, 0)
theorem zm_217 : zx_m 217 = zt_217 := rfl
theorem dJ0_isLatin1_aae02_0 : decode cJ0_isLatin1_aae02 0 = .ok (.getstatic 38, 3) := by decide +kernel
theorem dJ0_isLatin1_aae02_3 : decode cJ0_isLatin1_aae02 3 = .ok (.ifCond .eq 14, 3) := by decide +kernel
theorem dJ0_isLatin1_aae02_6 : decode cJ0_isLatin1_aae02 6 = .ok (.aload_n 0, 1) := by decide +kernel
theorem dJ0_isLatin1_aae02_7 : decode cJ0_isLatin1_aae02 7 = .ok (.getfield 15, 3) := by decide +kernel
theorem dJ0_isLatin1_aae02_10 : decode cJ0_isLatin1_aae02 10 = .ok (.ifCond .ne 7, 3) := by decide +kernel
theorem dJ0_isLatin1_aae02_13 : decode cJ0_isLatin1_aae02 13 = .ok (.iconst 1, 1) := by decide +kernel
theorem dJ0_isLatin1_aae02_14 : decode cJ0_isLatin1_aae02 14 = .ok (.goto 4, 3) := by decide +kernel
theorem dJ0_isLatin1_aae02_17 : decode cJ0_isLatin1_aae02 17 = .ok (.iconst 0, 1) := by decide +kernel
theorem dJ0_isLatin1_aae02_18 : decode cJ0_isLatin1_aae02 18 = .ok (.ireturn, 1) := by decide +kernel
def zt_220 : zx_MT := (13, yJ3_checkIndex_8e157, cJ3_checkIndex_8e157, 3, (some FieldType.int), 3, 1)
theorem zm_220 : zx_m 220 = zt_220 := rfl
theorem dJ3_checkIndex_8e157_0 : decode cJ3_checkIndex_8e157 0 = .ok (.iload_n 0, 1) := by decide +kernel
theorem dJ3_checkIndex_8e157_1 : decode cJ3_checkIndex_8e157 1 = .ok (.ifCond .lt 8, 3) := by decide +kernel
theorem dJ3_checkIndex_8e157_4 : decode cJ3_checkIndex_8e157 4 = .ok (.iload_n 0, 1) := by decide +kernel
theorem dJ3_checkIndex_8e157_5 : decode cJ3_checkIndex_8e157 5 = .ok (.iload_n 1, 1) := by decide +kernel
theorem dJ3_checkIndex_8e157_6 : decode cJ3_checkIndex_8e157 6 = .ok (.if_icmp .lt 10, 3) := by decide +kernel
theorem dJ3_checkIndex_8e157_9 : decode cJ3_checkIndex_8e157 9 = .ok (.aload_n 2, 1) := by decide +kernel
theorem dJ3_checkIndex_8e157_10 : decode cJ3_checkIndex_8e157 10 = .ok (.iload_n 0, 1) := by decide +kernel
theorem dJ3_checkIndex_8e157_11 : decode cJ3_checkIndex_8e157 11 = .ok (.iload_n 1, 1) := by decide +kernel
theorem dJ3_checkIndex_8e157_12 : decode cJ3_checkIndex_8e157 12 = .ok (.invokestatic 95, 3) := by decide +kernel
theorem dJ3_checkIndex_8e157_15 : decode cJ3_checkIndex_8e157 15 = .ok (.athrow, 1) := by decide +kernel
theorem dJ3_checkIndex_8e157_16 : decode cJ3_checkIndex_8e157 16 = .ok (.iload_n 0, 1) := by decide +kernel
theorem dJ3_checkIndex_8e157_17 : decode cJ3_checkIndex_8e157 17 = .ok (.ireturn, 1) := by decide +kernel
def zt_218 : zx_MT := (11, yJ0_checkIndex_df160, cJ0_checkIndex_df160, 2, none, 2, 1)
theorem zm_218 : zx_m 218 = zt_218 := rfl
theorem dJ0_checkIndex_df160_0 : decode cJ0_checkIndex_df160 0 = .ok (.iload_n 0, 1) := by decide +kernel
theorem dJ0_checkIndex_df160_1 : decode cJ0_checkIndex_df160 1 = .ok (.iload_n 1, 1) := by decide +kernel
theorem dJ0_checkIndex_df160_2 : decode cJ0_checkIndex_df160 2 = .ok (.getstatic 1053, 3) := by decide +kernel
theorem dJ0_checkIndex_df160_5 : decode cJ0_checkIndex_df160 5 = .ok (.invokestatic 1059, 3) := by decide +kernel
theorem dJ0_checkIndex_df160_8 : decode cJ0_checkIndex_df160 8 = .ok (.pop, 1) := by decide +kernel
theorem dJ0_checkIndex_df160_9 : decode cJ0_checkIndex_df160 9 = .ok (.return_, 1) := by decide +kernel
def zt_219 : zx_MT := (12, yJ1_charAt_3b067, cJ1_charAt_3b067, 2, (some FieldType.char), 2, 1)
theorem zm_219 : zx_m 219 = zt_219 := rfl
theorem dJ1_charAt_3b067_0 : decode cJ1_charAt_3b067 0 = .ok (.iload_n 1, 1) := by decide +kernel
theorem dJ1_charAt_3b067_1 : decode cJ1_charAt_3b067 1 = .ok (.aload_n 0, 1) := by decide +kernel
theorem dJ1_charAt_3b067_2 : decode cJ1_charAt_3b067 2 = .ok (.arraylength, 1) := by decide +kernel
theorem dJ1_charAt_3b067_3 : decode cJ1_charAt_3b067 3 = .ok (.invokestatic 9, 3) := by decide +kernel
theorem dJ1_charAt_3b067_6 : decode cJ1_charAt_3b067 6 = .ok (.aload_n 0, 1) := by decide +kernel
theorem dJ1_charAt_3b067_7 : decode cJ1_charAt_3b067 7 = .ok (.iload_n 1, 1) := by decide +kernel
theorem dJ1_charAt_3b067_8 : decode cJ1_charAt_3b067 8 = .ok (.baload, 1) := by decide +kernel
theorem dJ1_charAt_3b067_9 : decode cJ1_charAt_3b067 9 = .ok (.sipush 255, 3) := by decide +kernel
theorem dJ1_charAt_3b067_12 : decode cJ1_charAt_3b067 12 = .ok (.iand, 1) := by decide +kernel
theorem dJ1_charAt_3b067_13 : decode cJ1_charAt_3b067 13 = .ok (.i2c, 1) := by decide +kernel
theorem dJ1_charAt_3b067_14 : decode cJ1_charAt_3b067 14 = .ok (.ireturn, 1) := by decide +kernel
def zt_214 : zx_MT := (11, yJ0_length_8abf5, cJ0_length_8abf5, 1, (some FieldType.int), 0, 0)
theorem zm_214 : zx_m 214 = zt_214 := rfl
theorem dJ0_length_8abf5_0 : decode cJ0_length_8abf5 0 = .ok (.aload_n 0, 1) := by decide +kernel
theorem dJ0_length_8abf5_1 : decode cJ0_length_8abf5 1 = .ok (.getfield 9, 3) := by decide +kernel
theorem dJ0_length_8abf5_4 : decode cJ0_length_8abf5 4 = .ok (.arraylength, 1) := by decide +kernel
theorem dJ0_length_8abf5_5 : decode cJ0_length_8abf5 5 = .ok (.aload_n 0, 1) := by decide +kernel
theorem dJ0_length_8abf5_6 : decode cJ0_length_8abf5 6 = .ok (.invokevirtual 335, 3) := by decide +kernel
theorem dJ0_length_8abf5_9 : decode cJ0_length_8abf5 9 = .ok (.ishr, 1) := by decide +kernel
theorem dJ0_length_8abf5_10 : decode cJ0_length_8abf5 10 = .ok (.ireturn, 1) := by decide +kernel
def zt_215 : zx_MT := (11, yJ0_charAt_5068e, cJ0_charAt_5068e, 2, (some FieldType.char), 1, 0)
theorem zm_215 : zx_m 215 = zt_215 := rfl
theorem dJ0_charAt_5068e_0 : decode cJ0_charAt_5068e 0 = .ok (.aload_n 0, 1) := by decide +kernel
theorem dJ0_charAt_5068e_1 : decode cJ0_charAt_5068e 1 = .ok (.invokevirtual 492, 3) := by decide +kernel
theorem dJ0_charAt_5068e_4 : decode cJ0_charAt_5068e 4 = .ok (.ifCond .eq 12, 3) := by decide +kernel
theorem dJ0_charAt_5068e_7 : decode cJ0_charAt_5068e 7 = .ok (.aload_n 0, 1) := by decide +kernel
theorem dJ0_charAt_5068e_8 : decode cJ0_charAt_5068e 8 = .ok (.getfield 9, 3) := by decide +kernel
theorem dJ0_charAt_5068e_11 : decode cJ0_charAt_5068e 11 = .ok (.iload_n 1, 1) := by decide +kernel
theorem dJ0_charAt_5068e_12 : decode cJ0_charAt_5068e 12 = .ok (.invokestatic 495, 3) := by decide +kernel
theorem dJ0_charAt_5068e_15 : decode cJ0_charAt_5068e 15 = .ok (.ireturn, 1) := by decide +kernel
theorem dJ0_charAt_5068e_16 : decode cJ0_charAt_5068e 16 = .ok (.aload_n 0, 1) := by decide +kernel
theorem dJ0_charAt_5068e_17 : decode cJ0_charAt_5068e 17 = .ok (.getfield 9, 3) := by decide +kernel
theorem dJ0_charAt_5068e_20 : decode cJ0_charAt_5068e 20 = .ok (.iload_n 1, 1) := by decide +kernel
theorem dJ0_charAt_5068e_21 : decode cJ0_charAt_5068e 21 = .ok (.invokestatic 498, 3) := by decide +kernel
theorem dJ0_charAt_5068e_24 : decode cJ0_charAt_5068e 24 = .ok (.ireturn, 1) := by decide +kernel
theorem zr_216 {d t0 : Nat} (hp0 : t0 < 12) {m : zf_Me} {Q : Int32 → zf_Me → Prop} (h : Q 0 m) : zf_M d 216 [.inr (.inr (2, t0))] m (zf_I Q) := by
  refine zf_M_of (Nat.le_of_ble_eq_true rfl) zm_216 (L := [some (.inr (.inr (2, t0)))]) rfl ?_
  refine zf_gsb (pc' := 3) dJ0_coder_7d493_0 rfl rfl ?_
  refine zf_if_eq (tgt := 13) (pc' := 6) dJ0_coder_7d493_3 rfl rfl (fun g => absurd g (by decide)) (fun _ => ?_)
  refine zf_ld (pc' := 7) (v := .inr (.inr (2, t0))) dJ0_coder_7d493_6 rfl (fun _ _ _ => rfl) rfl rfl rfl ?_
  refine zf_gfc (pc' := 10) dJ0_coder_7d493_7 rfl rfl hp0 ?_
  refine zf_goto (tgt := 14) dJ0_coder_7d493_10 rfl ?_
  exact zf_rx dJ0_coder_7d493_14 rfl rfl h
theorem zr_217 {d t0 : Nat} (hp0 : t0 < 12) {m : zf_Me} {Q : Bool → zf_Me → Prop} (h : Q true m) : zf_M d 217 [.inr (.inr (2, t0))] m (zf_B Q) := by
  refine zf_M_of (Nat.le_of_ble_eq_true rfl) zm_217 (L := [some (.inr (.inr (2, t0)))]) rfl ?_
  refine zf_gsb (pc' := 3) dJ0_isLatin1_aae02_0 rfl rfl ?_
  refine zf_if_eq (tgt := 17) (pc' := 6) dJ0_isLatin1_aae02_3 rfl rfl (fun g => absurd g (by decide)) (fun _ => ?_)
  refine zf_ld (pc' := 7) (v := .inr (.inr (2, t0))) dJ0_isLatin1_aae02_6 rfl (fun _ _ _ => rfl) rfl rfl rfl ?_
  refine zf_gfc (pc' := 10) dJ0_isLatin1_aae02_7 rfl rfl hp0 ?_
  refine zf_if_ne (tgt := 17) (pc' := 13) dJ0_isLatin1_aae02_10 rfl rfl (fun g => absurd g (by decide)) (fun _ => ?_)
  refine zf_ic (v := 1) (pc' := 14) dJ0_isLatin1_aae02_13 rfl rfl ?_
  refine zf_goto (tgt := 18) dJ0_isLatin1_aae02_14 rfl ?_
  exact zf_rb (b := true) dJ0_isLatin1_aae02_18 rfl h
theorem zr_220 {d : Nat} {i n : Int32} {m : zf_Me} {Q : Int32 → zf_Me → Prop} (hi : 0 ≤ i.toInt ∧ i.toInt < n.toInt) (h : Q i m) : zf_M d 220 [.inl i, .inl n, .inr (.inr (6, 0))] m (zf_I Q) := by
  refine zf_M_of (Nat.le_of_ble_eq_true rfl) zm_220 (L := [some (.inl i), some (.inl n), some (.inr (.inr (6, 0)))]) rfl ?_
  refine zf_ld (pc' := 1) (v := .inl i) dJ3_checkIndex_8e157_0 rfl (fun _ _ _ => rfl) rfl rfl rfl ?_
  refine zf_if_lt (tgt := 9) (pc' := 4) dJ3_checkIndex_8e157_1 rfl rfl (fun g => absurd g (by omega)) (fun _ => ?_)
  refine zf_ld (pc' := 5) (v := .inl i) dJ3_checkIndex_8e157_4 rfl (fun _ _ _ => rfl) rfl rfl rfl ?_
  refine zf_ld (pc' := 6) (v := .inl n) dJ3_checkIndex_8e157_5 rfl (fun _ _ _ => rfl) rfl rfl rfl ?_
  refine zf_icmp_lt (tgt := 16) (pc' := 9) dJ3_checkIndex_8e157_6 rfl rfl (fun _ => ?_) (fun g => absurd g (by omega))
  refine zf_ld (pc' := 17) (v := .inl i) dJ3_checkIndex_8e157_16 rfl (fun _ _ _ => rfl) rfl rfl rfl ?_
  exact zf_ri dJ3_checkIndex_8e157_17 rfl h
theorem zr_218 {d : Nat} (hd : 1 ≤ d) {i n : Int32} {m : zf_Me} {Q : zf_Me → Prop} (hi : 0 ≤ i.toInt ∧ i.toInt < n.toInt) (h : Q m) : zf_M d 218 [.inl i, .inl n] m (zf_O Q) := by
  obtain ⟨e, rfl⟩ : ∃ z, d = z + 1 := ⟨d - 1, by omega⟩
  refine zf_M_of (Nat.le_of_ble_eq_true rfl) zm_218 (L := [some (.inl i), some (.inl n)]) rfl ?_
  refine zf_ld (pc' := 1) (v := .inl i) dJ0_checkIndex_df160_0 rfl (fun _ _ _ => rfl) rfl rfl rfl ?_
  refine zf_ld (pc' := 2) (v := .inl n) dJ0_checkIndex_df160_1 rfl (fun _ _ _ => rfl) rfl rfl rfl ?_
  refine zf_gsf (pc' := 5) dJ0_checkIndex_df160_2 rfl rfl ?_
  refine zf_is (k := 220) (pc' := 8) (r := []) dJ0_checkIndex_df160_5 rfl rfl rfl rfl rfl (zr_220 (Q := fun _ m' => Q m') hi h) (zf_kI (fun x m2 h => ?_))
  refine zf_in (pc' := 9) (S' := []) dJ0_checkIndex_df160_8 rfl (fun _ _ _ => rfl) ?_
  exact zf_rv dJ0_checkIndex_df160_9 rfl h
def zk_let (a j : Nat) : Int32 := (UInt32.toInt32 (Int32.toUInt32 ((zx_sb.getD a []).getD j 0 &&& 255) % 65536))
theorem zk_let_ok : ∀ a, a < 12 → ∀ j, j < zx_sl.getD a 0 → zk_let a j = (zx_sb.getD a []).getD j 0 ∧ zx_nr .char (zk_let a j) = true := by decide +kernel
theorem zk_len : ∀ a, a < 12 → (Int32.ofNat (zx_sl.getD a 0)).toInt = zx_sl.getD a 0 ∧ Int32.ofNat (zx_sl.getD a 0) >>> ((0 : Int32) &&& 31) = Int32.ofNat (zx_sl.getD a 0) := by decide +kernel
theorem zr_219 {d t0 : Nat} (hd : 2 ≤ d) (hp0 : t0 < 12) {i : Int32} {m : zf_Me} {Q : Int32 → zf_Me → Prop} (hi : 0 ≤ i.toInt ∧ i.toInt < (zx_sl.getD t0 0 : Nat)) (h : Q ((zx_sb.getD t0 []).getD i.toInt.toNat 0) m) : zf_M d 219 [.inr (.inr (3, t0)), .inl i] m (zf_I Q) := by
  obtain ⟨e, rfl⟩ : ∃ z, d = z + 1 := ⟨d - 1, by omega⟩
  have hl := zk_let_ok t0 hp0 i.toInt.toNat (by omega)
  refine zf_M_of (Nat.le_of_ble_eq_true rfl) zm_219 (L := [some (.inr (.inr (3, t0))), some (.inl i)]) rfl ?_
  refine zf_ld (pc' := 1) (v := .inl i) dJ1_charAt_3b067_0 rfl (fun _ _ _ => rfl) rfl rfl rfl ?_
  refine zf_ld (pc' := 2) (v := .inr (.inr (3, t0))) dJ1_charAt_3b067_1 rfl (fun _ _ _ => rfl) rfl rfl rfl ?_
  refine zf_als (pc' := 3) dJ1_charAt_3b067_2 rfl hp0 ?_
  refine zf_is (k := 218) (pc' := 6) (r := []) dJ1_charAt_3b067_3 rfl rfl rfl rfl rfl (zr_218 (Q := fun m' => m' = m) (by omega) (by rw [(zk_len t0 hp0).1]; exact hi) rfl) (zf_kO (fun m2 h2 => ?_))
  subst h2
  refine zf_ld (pc' := 7) (v := .inr (.inr (3, t0))) dJ1_charAt_3b067_6 rfl (fun _ _ _ => rfl) rfl rfl rfl ?_
  refine zf_ld (pc' := 8) (v := .inl i) dJ1_charAt_3b067_7 rfl (fun _ _ _ => rfl) rfl rfl rfl ?_
  refine zf_bal (pc' := 9) dJ1_charAt_3b067_8 rfl hp0 hi ?_
  refine zf_si (v := 255) (pc' := 12) dJ1_charAt_3b067_9 rfl rfl ?_
  refine zf_in (pc' := 13) (S' := [.inl ((zx_sb.getD t0 []).getD i.toInt.toNat 0 &&& 255)]) dJ1_charAt_3b067_12 rfl (fun _ _ _ => rfl) ?_
  refine zf_in (pc' := 14) (S' := [.inl (zk_let t0 i.toInt.toNat)]) dJ1_charAt_3b067_13 rfl (fun _ _ _ => rfl) ?_
  exact zf_rx dJ1_charAt_3b067_14 rfl hl.2 (by rw [hl.1]; exact h)
def wp_214 (t0 : Nat) (m : zf_Me) (Q : Int32 → zf_Me → Prop) : Prop := Q (Int32.ofNat (zx_sl.getD t0 0)) m
theorem zr_214 {d : Nat} (hd : 1 ≤ d) {t0 : Nat} (hp0 : t0 < 12) {m : zf_Me} {Q : Int32 → zf_Me → Prop} (h : wp_214 t0 m Q) : zf_M d 214 [.inr (.inr (2, t0))] m (zf_I Q) := by
  obtain ⟨e, rfl⟩ : ∃ z, d = z + 1 := ⟨d - 1, by omega⟩
  refine zf_M_of (Nat.le_of_ble_eq_true rfl) zm_214 (L := [some (.inr (.inr (2, t0)))]) rfl ?_
  refine zf_ld (pc' := 1) (v := .inr (.inr (2, t0))) dJ0_length_8abf5_0 rfl (fun _ _ _ => rfl) rfl rfl rfl ?_
  refine zf_gfv (pc' := 4) dJ0_length_8abf5_1 rfl rfl hp0 ?_
  refine zf_als (pc' := 5) dJ0_length_8abf5_4 rfl hp0 ?_
  refine zf_ld (pc' := 6) (v := .inr (.inr (2, t0))) dJ0_length_8abf5_5 rfl (fun _ _ _ => rfl) rfl rfl rfl ?_
  refine zf_iv2 (k := 216) (pc' := 9) (r := [.inl (Int32.ofNat (zx_sl.getD t0 0))]) dJ0_length_8abf5_6 rfl rfl rfl rfl hp0 rfl rfl (zr_216 (Q := fun x m' => x = 0 ∧ m' = m) hp0 ⟨rfl, rfl⟩) (zf_kI (fun x m2 h2 => ?_))
  obtain ⟨rfl, rfl⟩ := h2
  refine zf_in (pc' := 10) (S' := [.inl (Int32.ofNat (zx_sl.getD t0 0) >>> ((0 : Int32) &&& 31))]) dJ0_length_8abf5_9 rfl (fun _ _ _ => rfl) ?_
  exact zf_ri dJ0_length_8abf5_10 rfl (by rw [(zk_len t0 hp0).2]; exact h)
def wp_215 (t0 : Nat) (v1 : Int32) (m : zf_Me) (Q : Int32 → zf_Me → Prop) : Prop := (0 ≤ v1.toInt ∧ v1.toInt < (zx_sl.getD t0 0 : Nat)) ∧ Q ((zx_sb.getD t0 []).getD v1.toInt.toNat 0) m
theorem zr_215 {d : Nat} (hd : 3 ≤ d) {t0 : Nat} (hp0 : t0 < 12) {v1 : Int32} {m : zf_Me} {Q : Int32 → zf_Me → Prop} (h : wp_215 t0 v1 m Q) : zf_M d 215 [.inr (.inr (2, t0)), .inl v1] m (zf_I Q) := by
  obtain ⟨e, rfl⟩ : ∃ z, d = z + 1 := ⟨d - 1, by omega⟩
  have hl := zk_let_ok t0 hp0 v1.toInt.toNat (by have := h.1; omega)
  refine zf_M_of (Nat.le_of_ble_eq_true rfl) zm_215 (L := [some (.inr (.inr (2, t0))), some (.inl v1)]) rfl ?_
  refine zf_ld (pc' := 1) (v := .inr (.inr (2, t0))) dJ0_charAt_5068e_0 rfl (fun _ _ _ => rfl) rfl rfl rfl ?_
  refine zf_iv2 (k := 217) (pc' := 4) (r := []) dJ0_charAt_5068e_1 rfl rfl rfl rfl hp0 rfl rfl (zr_217 (Q := fun x m' => x = true ∧ m' = m) hp0 ⟨rfl, rfl⟩) (zf_kB (fun b m2 h2 => ?_))
  obtain ⟨rfl, rfl⟩ := h2
  refine zf_ib_eq (tgt := 16) (pc' := 7) dJ0_charAt_5068e_4 rfl rfl (fun g => nomatch g) (fun _ => ?_)
  refine zf_ld (pc' := 8) (v := .inr (.inr (2, t0))) dJ0_charAt_5068e_7 rfl (fun _ _ _ => rfl) rfl rfl rfl ?_
  refine zf_gfv (pc' := 11) dJ0_charAt_5068e_8 rfl rfl hp0 ?_
  refine zf_ld (pc' := 12) (v := .inl v1) dJ0_charAt_5068e_11 rfl (fun _ _ _ => rfl) rfl rfl rfl ?_
  refine zf_is (k := 219) (pc' := 15) (r := []) dJ0_charAt_5068e_12 rfl rfl rfl rfl rfl (zr_219 (Q := fun x m' => x = (zx_sb.getD t0 []).getD v1.toInt.toNat 0 ∧ m' = m2) (by omega) hp0 h.1 ⟨rfl, rfl⟩) (zf_kI (fun x m3 h2 => ?_))
  obtain ⟨rfl, rfl⟩ := h2
  exact zf_rx dJ0_charAt_5068e_15 rfl (by rw [← hl.1]; exact hl.2) h.2
end
