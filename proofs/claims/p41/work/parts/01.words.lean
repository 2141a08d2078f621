section
/-! part 01: the tables' words (kit's PART A), the printed names of classes, fields, methods; the link tables -/
-- ===== PART A: goes FIRST, ahead of the names: the tables' words, and 'selects' of the private methods out of them =====
/-- a private method of a class that the tables say can be made, by its rows of tables_1 -/
def lw_okq (q : MethodName × Nat) : Prop := (q.1.cls ≠ "java/lang/invoke/MethodHandle" ∧ q.1.cls ≠ "java/lang/invoke/VarHandle") ∧ Cond.instantiable q.1.cls q.2 ∈ tables_1 ∧ Cond.privateMethod q.1 ∈ tables_1 ∧ Cond.instanceMethod q.1 ∈ tables_1
theorem lw_p0 : lw_okq (⟨"CarriedAsFarAsTheStile", "refuse", "(I)I"⟩, 11) := ⟨⟨by decide +kernel, by decide +kernel⟩, List.mem_of_getElem? (i := 18) (by decide +kernel), List.mem_of_getElem? (i := 318) (by decide +kernel), List.mem_of_getElem? (i := 319) (by decide +kernel)⟩
theorem lw_p1 : lw_okq (⟨"CarriedAsFarAsTheStile", "whyNoRow", "(I)I"⟩, 11) := ⟨⟨by decide +kernel, by decide +kernel⟩, List.mem_of_getElem? (i := 18) (by decide +kernel), List.mem_of_getElem? (i := 330) (by decide +kernel), List.mem_of_getElem? (i := 331) (by decide +kernel)⟩
theorem lw_p2 : lw_okq (⟨"CarriedAsFarAsTheStile", "whyNoCopy", "(II)I"⟩, 11) := ⟨⟨by decide +kernel, by decide +kernel⟩, List.mem_of_getElem? (i := 18) (by decide +kernel), List.mem_of_getElem? (i := 350) (by decide +kernel), List.mem_of_getElem? (i := 351) (by decide +kernel)⟩
theorem lw_p3 : lw_okq (⟨"CarriedAsFarAsTheStile", "refuseFar", "(I)I"⟩, 11) := ⟨⟨by decide +kernel, by decide +kernel⟩, List.mem_of_getElem? (i := 18) (by decide +kernel), List.mem_of_getElem? (i := 426) (by decide +kernel), List.mem_of_getElem? (i := 427) (by decide +kernel)⟩
theorem lw_p4 : lw_okq (⟨"CarriedAsFarAsTheStile$Telling", "readItem", "()V"⟩, 7) := ⟨⟨by decide +kernel, by decide +kernel⟩, List.mem_of_getElem? (i := 199) (by decide +kernel), List.mem_of_getElem? (i := 483) (by decide +kernel), List.mem_of_getElem? (i := 484) (by decide +kernel)⟩
theorem lw_p5 : lw_okq (⟨"CarriedAsFarAsTheStile$Telling", "readWord", "()I"⟩, 7) := ⟨⟨by decide +kernel, by decide +kernel⟩, List.mem_of_getElem? (i := 199) (by decide +kernel), List.mem_of_getElem? (i := 487) (by decide +kernel), List.mem_of_getElem? (i := 488) (by decide +kernel)⟩
theorem lw_p6 : lw_okq (⟨"CarriedAsFarAsTheStile$Telling", "wordBeginning", "(II)I"⟩, 7) := ⟨⟨by decide +kernel, by decide +kernel⟩, List.mem_of_getElem? (i := 199) (by decide +kernel), List.mem_of_getElem? (i := 491) (by decide +kernel), List.mem_of_getElem? (i := 492) (by decide +kernel)⟩
theorem lw_p7 : lw_okq (⟨"CarriedAsFarAsTheStile$Telling", "beginsThere", "(Ljava/lang/String;II)Z"⟩, 7) := ⟨⟨by decide +kernel, by decide +kernel⟩, List.mem_of_getElem? (i := 199) (by decide +kernel), List.mem_of_getElem? (i := 510) (by decide +kernel), List.mem_of_getElem? (i := 511) (by decide +kernel)⟩
theorem lw_p8 : lw_okq (⟨"CarriedAsFarAsTheStile$Telling", "hasRoomFor", "(I)Z"⟩, 7) := ⟨⟨by decide +kernel, by decide +kernel⟩, List.mem_of_getElem? (i := 199) (by decide +kernel), List.mem_of_getElem? (i := 562) (by decide +kernel), List.mem_of_getElem? (i := 563) (by decide +kernel)⟩
theorem lw_p9 : lw_okq (⟨"CarriedAsFarAsTheStile$Telling", "tellFurlong", "(I)V"⟩, 7) := ⟨⟨by decide +kernel, by decide +kernel⟩, List.mem_of_getElem? (i := 199) (by decide +kernel), List.mem_of_getElem? (i := 566) (by decide +kernel), List.mem_of_getElem? (i := 567) (by decide +kernel)⟩
theorem lw_p10 : lw_okq (⟨"CarriedAsFarAsTheStile$Telling", "readNumber", "(II)I"⟩, 7) := ⟨⟨by decide +kernel, by decide +kernel⟩, List.mem_of_getElem? (i := 199) (by decide +kernel), List.mem_of_getElem? (i := 570) (by decide +kernel), List.mem_of_getElem? (i := 571) (by decide +kernel)⟩
theorem lw_p11 : lw_okq (⟨"CarriedAsFarAsTheStile$Telling", "readSign", "(C)Z"⟩, 7) := ⟨⟨by decide +kernel, by decide +kernel⟩, List.mem_of_getElem? (i := 199) (by decide +kernel), List.mem_of_getElem? (i := 574) (by decide +kernel), List.mem_of_getElem? (i := 575) (by decide +kernel)⟩
theorem lw_p12 : lw_okq (⟨"CarriedAsFarAsTheStile$Telling", "isDigitNext", "()Z"⟩, 7) := ⟨⟨by decide +kernel, by decide +kernel⟩, List.mem_of_getElem? (i := 199) (by decide +kernel), List.mem_of_getElem? (i := 578) (by decide +kernel), List.mem_of_getElem? (i := 579) (by decide +kernel)⟩
theorem lw_p13 : lw_okq (⟨"CarriedAsFarAsTheStile$Telling", "tellPerson", "()V"⟩, 7) := ⟨⟨by decide +kernel, by decide +kernel⟩, List.mem_of_getElem? (i := 199) (by decide +kernel), List.mem_of_getElem? (i := 583) (by decide +kernel), List.mem_of_getElem? (i := 584) (by decide +kernel)⟩
theorem lw_p14 : lw_okq (⟨"CarriedAsFarAsTheStile$Telling", "tellTired", "()V"⟩, 7) := ⟨⟨by decide +kernel, by decide +kernel⟩, List.mem_of_getElem? (i := 199) (by decide +kernel), List.mem_of_getElem? (i := 588) (by decide +kernel), List.mem_of_getElem? (i := 589) (by decide +kernel)⟩
theorem lw_p15 : lw_okq (⟨"CarriedAsFarAsTheStile$Telling", "tellBag", "()V"⟩, 7) := ⟨⟨by decide +kernel, by decide +kernel⟩, List.mem_of_getElem? (i := 199) (by decide +kernel), List.mem_of_getElem? (i := 592) (by decide +kernel), List.mem_of_getElem? (i := 593) (by decide +kernel)⟩
def lw_privs_1 : List (MethodName × Nat) := [(⟨"CarriedAsFarAsTheStile", "refuse", "(I)I"⟩, 11), (⟨"CarriedAsFarAsTheStile", "whyNoRow", "(I)I"⟩, 11), (⟨"CarriedAsFarAsTheStile", "whyNoCopy", "(II)I"⟩, 11), (⟨"CarriedAsFarAsTheStile", "refuseFar", "(I)I"⟩, 11), (⟨"CarriedAsFarAsTheStile$Telling", "readItem", "()V"⟩, 7), (⟨"CarriedAsFarAsTheStile$Telling", "readWord", "()I"⟩, 7), (⟨"CarriedAsFarAsTheStile$Telling", "wordBeginning", "(II)I"⟩, 7), (⟨"CarriedAsFarAsTheStile$Telling", "beginsThere", "(Ljava/lang/String;II)Z"⟩, 7), (⟨"CarriedAsFarAsTheStile$Telling", "hasRoomFor", "(I)Z"⟩, 7), (⟨"CarriedAsFarAsTheStile$Telling", "tellFurlong", "(I)V"⟩, 7), (⟨"CarriedAsFarAsTheStile$Telling", "readNumber", "(II)I"⟩, 7), (⟨"CarriedAsFarAsTheStile$Telling", "readSign", "(C)Z"⟩, 7), (⟨"CarriedAsFarAsTheStile$Telling", "isDigitNext", "()Z"⟩, 7), (⟨"CarriedAsFarAsTheStile$Telling", "tellPerson", "()V"⟩, 7), (⟨"CarriedAsFarAsTheStile$Telling", "tellTired", "()V"⟩, 7), (⟨"CarriedAsFarAsTheStile$Telling", "tellBag", "()V"⟩, 7)]
theorem lw_r1 : ∀ q ∈ lw_privs_1, lw_okq q := List.forall_mem_cons.mpr ⟨lw_p0, List.forall_mem_cons.mpr ⟨lw_p1, List.forall_mem_cons.mpr ⟨lw_p2, List.forall_mem_cons.mpr ⟨lw_p3, List.forall_mem_cons.mpr ⟨lw_p4, List.forall_mem_cons.mpr ⟨lw_p5, List.forall_mem_cons.mpr ⟨lw_p6, List.forall_mem_cons.mpr ⟨lw_p7, List.forall_mem_cons.mpr ⟨lw_p8, List.forall_mem_cons.mpr ⟨lw_p9, List.forall_mem_cons.mpr ⟨lw_p10, List.forall_mem_cons.mpr ⟨lw_p11, List.forall_mem_cons.mpr ⟨lw_p12, List.forall_mem_cons.mpr ⟨lw_p13, List.forall_mem_cons.mpr ⟨lw_p14, List.forall_mem_cons.mpr ⟨lw_p15, fun _ h => absurd h List.not_mem_nil⟩⟩⟩⟩⟩⟩⟩⟩⟩⟩⟩⟩⟩⟩⟩⟩
theorem lw_p16 : lw_okq (⟨"CarriedAsFarAsTheStile$Telling", "tellAct", "()V"⟩, 7) := ⟨⟨by decide +kernel, by decide +kernel⟩, List.mem_of_getElem? (i := 199) (by decide +kernel), List.mem_of_getElem? (i := 596) (by decide +kernel), List.mem_of_getElem? (i := 597) (by decide +kernel)⟩
theorem lw_p17 : lw_okq (⟨"CarriedAsFarAsTheStile$Walk", "mayWalk", "()Z"⟩, 13) := ⟨⟨by decide +kernel, by decide +kernel⟩, List.mem_of_getElem? (i := 28) (by decide +kernel), List.mem_of_getElem? (i := 604) (by decide +kernel), List.mem_of_getElem? (i := 605) (by decide +kernel)⟩
theorem lw_p18 : lw_okq (⟨"CarriedAsFarAsTheStile$Walk", "mayRest", "()Z"⟩, 13) := ⟨⟨by decide +kernel, by decide +kernel⟩, List.mem_of_getElem? (i := 28) (by decide +kernel), List.mem_of_getElem? (i := 613) (by decide +kernel), List.mem_of_getElem? (i := 614) (by decide +kernel)⟩
theorem lw_p19 : lw_okq (⟨"CarriedAsFarAsTheStile$Walk", "walk", "()V"⟩, 13) := ⟨⟨by decide +kernel, by decide +kernel⟩, List.mem_of_getElem? (i := 28) (by decide +kernel), List.mem_of_getElem? (i := 627) (by decide +kernel), List.mem_of_getElem? (i := 628) (by decide +kernel)⟩
theorem lw_p20 : lw_okq (⟨"CarriedAsFarAsTheStile$Walk", "restOthers", "(I)V"⟩, 13) := ⟨⟨by decide +kernel, by decide +kernel⟩, List.mem_of_getElem? (i := 28) (by decide +kernel), List.mem_of_getElem? (i := 631) (by decide +kernel), List.mem_of_getElem? (i := 632) (by decide +kernel)⟩
theorem lw_p21 : lw_okq (⟨"CarriedAsFarAsTheStile$Walk", "restAll", "()V"⟩, 13) := ⟨⟨by decide +kernel, by decide +kernel⟩, List.mem_of_getElem? (i := 28) (by decide +kernel), List.mem_of_getElem? (i := 639) (by decide +kernel), List.mem_of_getElem? (i := 640) (by decide +kernel)⟩
theorem lw_p22 : lw_okq (⟨"CarriedAsFarAsTheStile$Walk", "carry", "(I)V"⟩, 13) := ⟨⟨by decide +kernel, by decide +kernel⟩, List.mem_of_getElem? (i := 28) (by decide +kernel), List.mem_of_getElem? (i := 643) (by decide +kernel), List.mem_of_getElem? (i := 644) (by decide +kernel)⟩
theorem lw_p23 : lw_okq (⟨"CarriedAsFarAsTheStile$Telling", "tellAsked", "(I)V"⟩, 7) := ⟨⟨by decide +kernel, by decide +kernel⟩, List.mem_of_getElem? (i := 199) (by decide +kernel), List.mem_of_getElem? (i := 647) (by decide +kernel), List.mem_of_getElem? (i := 648) (by decide +kernel)⟩
theorem lw_p24 : lw_okq (⟨"CarriedAsFarAsTheStile$Search", "deeper", "(II)V"⟩, 8) := ⟨⟨by decide +kernel, by decide +kernel⟩, List.mem_of_getElem? (i := 160) (by decide +kernel), List.mem_of_getElem? (i := 688) (by decide +kernel), List.mem_of_getElem? (i := 689) (by decide +kernel)⟩
theorem lw_p25 : lw_okq (⟨"CarriedAsFarAsTheStile$Search", "isHopeless", "(II)Z"⟩, 8) := ⟨⟨by decide +kernel, by decide +kernel⟩, List.mem_of_getElem? (i := 160) (by decide +kernel), List.mem_of_getElem? (i := 692) (by decide +kernel), List.mem_of_getElem? (i := 693) (by decide +kernel)⟩
theorem lw_p26 : lw_okq (⟨"CarriedAsFarAsTheStile$Search", "offer", "(II)V"⟩, 8) := ⟨⟨by decide +kernel, by decide +kernel⟩, List.mem_of_getElem? (i := 160) (by decide +kernel), List.mem_of_getElem? (i := 700) (by decide +kernel), List.mem_of_getElem? (i := 701) (by decide +kernel)⟩
theorem lw_p27 : lw_okq (⟨"CarriedAsFarAsTheStile$Rules", "choose", "(I)I"⟩, 4) := ⟨⟨by decide +kernel, by decide +kernel⟩, List.mem_of_getElem? (i := 136) (by decide +kernel), List.mem_of_getElem? (i := 730) (by decide +kernel), List.mem_of_getElem? (i := 731) (by decide +kernel)⟩
theorem lw_p28 : lw_okq (⟨"CarriedAsFarAsTheStile$Rules", "whoseTurn", "()I"⟩, 4) := ⟨⟨by decide +kernel, by decide +kernel⟩, List.mem_of_getElem? (i := 136) (by decide +kernel), List.mem_of_getElem? (i := 735) (by decide +kernel), List.mem_of_getElem? (i := 736) (by decide +kernel)⟩
theorem lw_p29 : lw_okq (⟨"CarriedAsFarAsTheStile$Rules", "freshest", "()I"⟩, 4) := ⟨⟨by decide +kernel, by decide +kernel⟩, List.mem_of_getElem? (i := 136) (by decide +kernel), List.mem_of_getElem? (i := 740) (by decide +kernel), List.mem_of_getElem? (i := 741) (by decide +kernel)⟩
theorem lw_p30 : lw_okq (⟨"CarriedAsFarAsTheStile", "whyNoWalk", "(II)I"⟩, 11) := ⟨⟨by decide +kernel, by decide +kernel⟩, List.mem_of_getElem? (i := 18) (by decide +kernel), List.mem_of_getElem? (i := 777) (by decide +kernel), List.mem_of_getElem? (i := 778) (by decide +kernel)⟩
theorem lw_p31 : lw_okq (⟨"CarriedAsFarAsTheStile", "tryWalk", "(LCarriedAsFarAsTheStile$Shelf;I)I"⟩, 11) := ⟨⟨by decide +kernel, by decide +kernel⟩, List.mem_of_getElem? (i := 18) (by decide +kernel), List.mem_of_getElem? (i := 781) (by decide +kernel), List.mem_of_getElem? (i := 782) (by decide +kernel)⟩
def lw_privs_2 : List (MethodName × Nat) := [(⟨"CarriedAsFarAsTheStile$Telling", "tellAct", "()V"⟩, 7), (⟨"CarriedAsFarAsTheStile$Walk", "mayWalk", "()Z"⟩, 13), (⟨"CarriedAsFarAsTheStile$Walk", "mayRest", "()Z"⟩, 13), (⟨"CarriedAsFarAsTheStile$Walk", "walk", "()V"⟩, 13), (⟨"CarriedAsFarAsTheStile$Walk", "restOthers", "(I)V"⟩, 13), (⟨"CarriedAsFarAsTheStile$Walk", "restAll", "()V"⟩, 13), (⟨"CarriedAsFarAsTheStile$Walk", "carry", "(I)V"⟩, 13), (⟨"CarriedAsFarAsTheStile$Telling", "tellAsked", "(I)V"⟩, 7), (⟨"CarriedAsFarAsTheStile$Search", "deeper", "(II)V"⟩, 8), (⟨"CarriedAsFarAsTheStile$Search", "isHopeless", "(II)Z"⟩, 8), (⟨"CarriedAsFarAsTheStile$Search", "offer", "(II)V"⟩, 8), (⟨"CarriedAsFarAsTheStile$Rules", "choose", "(I)I"⟩, 4), (⟨"CarriedAsFarAsTheStile$Rules", "whoseTurn", "()I"⟩, 4), (⟨"CarriedAsFarAsTheStile$Rules", "freshest", "()I"⟩, 4), (⟨"CarriedAsFarAsTheStile", "whyNoWalk", "(II)I"⟩, 11), (⟨"CarriedAsFarAsTheStile", "tryWalk", "(LCarriedAsFarAsTheStile$Shelf;I)I"⟩, 11)]
theorem lw_r2 : ∀ q ∈ lw_privs_2, lw_okq q := List.forall_mem_cons.mpr ⟨lw_p16, List.forall_mem_cons.mpr ⟨lw_p17, List.forall_mem_cons.mpr ⟨lw_p18, List.forall_mem_cons.mpr ⟨lw_p19, List.forall_mem_cons.mpr ⟨lw_p20, List.forall_mem_cons.mpr ⟨lw_p21, List.forall_mem_cons.mpr ⟨lw_p22, List.forall_mem_cons.mpr ⟨lw_p23, List.forall_mem_cons.mpr ⟨lw_p24, List.forall_mem_cons.mpr ⟨lw_p25, List.forall_mem_cons.mpr ⟨lw_p26, List.forall_mem_cons.mpr ⟨lw_p27, List.forall_mem_cons.mpr ⟨lw_p28, List.forall_mem_cons.mpr ⟨lw_p29, List.forall_mem_cons.mpr ⟨lw_p30, List.forall_mem_cons.mpr ⟨lw_p31, fun _ h => absurd h List.not_mem_nil⟩⟩⟩⟩⟩⟩⟩⟩⟩⟩⟩⟩⟩⟩⟩⟩
theorem lw_p32 : lw_okq (⟨"CarriedAsFarAsTheStile", "leastToTheEnd", "(II)I"⟩, 11) := ⟨⟨by decide +kernel, by decide +kernel⟩, List.mem_of_getElem? (i := 18) (by decide +kernel), List.mem_of_getElem? (i := 806) (by decide +kernel), List.mem_of_getElem? (i := 807) (by decide +kernel)⟩
theorem lw_p33 : lw_okq (⟨"CarriedAsFarAsTheStile$Moves", "from", "(IIII)I"⟩, 5) := ⟨⟨by decide +kernel, by decide +kernel⟩, List.mem_of_getElem? (i := 234) (by decide +kernel), List.mem_of_getElem? (i := 859) (by decide +kernel), List.mem_of_getElem? (i := 860) (by decide +kernel)⟩
theorem lw_p34 : lw_okq (⟨"CarriedAsFarAsTheStile$Moves", "runBody", "(IIII)I"⟩, 5) := ⟨⟨by decide +kernel, by decide +kernel⟩, List.mem_of_getElem? (i := 234) (by decide +kernel), List.mem_of_getElem? (i := 867) (by decide +kernel), List.mem_of_getElem? (i := 868) (by decide +kernel)⟩
theorem lw_p35 : lw_okq (⟨"CarriedAsFarAsTheStileModel", "isShelf", "(I)Z"⟩, 53) := ⟨⟨by decide +kernel, by decide +kernel⟩, List.mem_of_getElem? (i := 891) (by decide +kernel), List.mem_of_getElem? (i := 1061) (by decide +kernel), List.mem_of_getElem? (i := 1062) (by decide +kernel)⟩
theorem lw_p36 : lw_okq (⟨"CarriedAsFarAsTheStileModel", "no", "(I)I"⟩, 53) := ⟨⟨by decide +kernel, by decide +kernel⟩, List.mem_of_getElem? (i := 891) (by decide +kernel), List.mem_of_getElem? (i := 1065) (by decide +kernel), List.mem_of_getElem? (i := 1066) (by decide +kernel)⟩
theorem lw_p37 : lw_okq (⟨"CarriedAsFarAsTheStileModel", "isPerson", "(I)Z"⟩, 53) := ⟨⟨by decide +kernel, by decide +kernel⟩, List.mem_of_getElem? (i := 891) (by decide +kernel), List.mem_of_getElem? (i := 1085) (by decide +kernel), List.mem_of_getElem? (i := 1086) (by decide +kernel)⟩
theorem lw_p38 : lw_okq (⟨"CarriedAsFarAsTheStileModel", "isAsleep", "()Z"⟩, 53) := ⟨⟨by decide +kernel, by decide +kernel⟩, List.mem_of_getElem? (i := 891) (by decide +kernel), List.mem_of_getElem? (i := 1097) (by decide +kernel), List.mem_of_getElem? (i := 1098) (by decide +kernel)⟩
theorem lw_p39 : lw_okq (⟨"CarriedAsFarAsTheStileModel", "loadOf", "(II)I"⟩, 53) := ⟨⟨by decide +kernel, by decide +kernel⟩, List.mem_of_getElem? (i := 891) (by decide +kernel), List.mem_of_getElem? (i := 1101) (by decide +kernel), List.mem_of_getElem? (i := 1102) (by decide +kernel)⟩
theorem lw_p40 : lw_okq (⟨"CarriedAsFarAsTheStileModel", "addsFurlong", "(II)I"⟩, 53) := ⟨⟨by decide +kernel, by decide +kernel⟩, List.mem_of_getElem? (i := 891) (by decide +kernel), List.mem_of_getElem? (i := 1109) (by decide +kernel), List.mem_of_getElem? (i := 1110) (by decide +kernel)⟩
theorem lw_p41 : lw_okq (⟨"CarriedAsFarAsTheStileModel", "addsPerson", "(II)I"⟩, 53) := ⟨⟨by decide +kernel, by decide +kernel⟩, List.mem_of_getElem? (i := 891) (by decide +kernel), List.mem_of_getElem? (i := 1117) (by decide +kernel), List.mem_of_getElem? (i := 1118) (by decide +kernel)⟩
theorem lw_p42 : lw_okq (⟨"CarriedAsFarAsTheStileModel", "isFurlong", "(I)Z"⟩, 53) := ⟨⟨by decide +kernel, by decide +kernel⟩, List.mem_of_getElem? (i := 891) (by decide +kernel), List.mem_of_getElem? (i := 1125) (by decide +kernel), List.mem_of_getElem? (i := 1126) (by decide +kernel)⟩
theorem lw_p43 : lw_okq (⟨"CarriedAsFarAsTheStileModel", "noTen", "(I)I"⟩, 53) := ⟨⟨by decide +kernel, by decide +kernel⟩, List.mem_of_getElem? (i := 891) (by decide +kernel), List.mem_of_getElem? (i := 1129) (by decide +kernel), List.mem_of_getElem? (i := 1130) (by decide +kernel)⟩
theorem lw_p44 : lw_okq (⟨"CarriedAsFarAsTheStileModel", "isAsked", "(II)Z"⟩, 53) := ⟨⟨by decide +kernel, by decide +kernel⟩, List.mem_of_getElem? (i := 891) (by decide +kernel), List.mem_of_getElem? (i := 1141) (by decide +kernel), List.mem_of_getElem? (i := 1142) (by decide +kernel)⟩
theorem lw_p45 : lw_okq (⟨"CarriedAsFarAsTheStileModel", "asks", "(II)I"⟩, 53) := ⟨⟨by decide +kernel, by decide +kernel⟩, List.mem_of_getElem? (i := 891) (by decide +kernel), List.mem_of_getElem? (i := 1145) (by decide +kernel), List.mem_of_getElem? (i := 1146) (by decide +kernel)⟩
theorem lw_p46 : lw_okq (⟨"CarriedAsFarAsTheStileModel", "told", "(I)I"⟩, 53) := ⟨⟨by decide +kernel, by decide +kernel⟩, List.mem_of_getElem? (i := 891) (by decide +kernel), List.mem_of_getElem? (i := 1149) (by decide +kernel), List.mem_of_getElem? (i := 1150) (by decide +kernel)⟩
theorem lw_p47 : lw_okq (⟨"CarriedAsFarAsTheStileModel", "tells", "(II)V"⟩, 53) := ⟨⟨by decide +kernel, by decide +kernel⟩, List.mem_of_getElem? (i := 891) (by decide +kernel), List.mem_of_getElem? (i := 1153) (by decide +kernel), List.mem_of_getElem? (i := 1154) (by decide +kernel)⟩
def lw_privs_3 : List (MethodName × Nat) := [(⟨"CarriedAsFarAsTheStile", "leastToTheEnd", "(II)I"⟩, 11), (⟨"CarriedAsFarAsTheStile$Moves", "from", "(IIII)I"⟩, 5), (⟨"CarriedAsFarAsTheStile$Moves", "runBody", "(IIII)I"⟩, 5), (⟨"CarriedAsFarAsTheStileModel", "isShelf", "(I)Z"⟩, 53), (⟨"CarriedAsFarAsTheStileModel", "no", "(I)I"⟩, 53), (⟨"CarriedAsFarAsTheStileModel", "isPerson", "(I)Z"⟩, 53), (⟨"CarriedAsFarAsTheStileModel", "isAsleep", "()Z"⟩, 53), (⟨"CarriedAsFarAsTheStileModel", "loadOf", "(II)I"⟩, 53), (⟨"CarriedAsFarAsTheStileModel", "addsFurlong", "(II)I"⟩, 53), (⟨"CarriedAsFarAsTheStileModel", "addsPerson", "(II)I"⟩, 53), (⟨"CarriedAsFarAsTheStileModel", "isFurlong", "(I)Z"⟩, 53), (⟨"CarriedAsFarAsTheStileModel", "noTen", "(I)I"⟩, 53), (⟨"CarriedAsFarAsTheStileModel", "isAsked", "(II)Z"⟩, 53), (⟨"CarriedAsFarAsTheStileModel", "asks", "(II)I"⟩, 53), (⟨"CarriedAsFarAsTheStileModel", "told", "(I)I"⟩, 53), (⟨"CarriedAsFarAsTheStileModel", "tells", "(II)V"⟩, 53)]
theorem lw_r3 : ∀ q ∈ lw_privs_3, lw_okq q := List.forall_mem_cons.mpr ⟨lw_p32, List.forall_mem_cons.mpr ⟨lw_p33, List.forall_mem_cons.mpr ⟨lw_p34, List.forall_mem_cons.mpr ⟨lw_p35, List.forall_mem_cons.mpr ⟨lw_p36, List.forall_mem_cons.mpr ⟨lw_p37, List.forall_mem_cons.mpr ⟨lw_p38, List.forall_mem_cons.mpr ⟨lw_p39, List.forall_mem_cons.mpr ⟨lw_p40, List.forall_mem_cons.mpr ⟨lw_p41, List.forall_mem_cons.mpr ⟨lw_p42, List.forall_mem_cons.mpr ⟨lw_p43, List.forall_mem_cons.mpr ⟨lw_p44, List.forall_mem_cons.mpr ⟨lw_p45, List.forall_mem_cons.mpr ⟨lw_p46, List.forall_mem_cons.mpr ⟨lw_p47, fun _ h => absurd h List.not_mem_nil⟩⟩⟩⟩⟩⟩⟩⟩⟩⟩⟩⟩⟩⟩⟩⟩
theorem lw_p48 : lw_okq (⟨"CarriedAsFarAsTheStileModel", "wanted", "(I)I"⟩, 53) := ⟨⟨by decide +kernel, by decide +kernel⟩, List.mem_of_getElem? (i := 891) (by decide +kernel), List.mem_of_getElem? (i := 1169) (by decide +kernel), List.mem_of_getElem? (i := 1170) (by decide +kernel)⟩
theorem lw_p49 : lw_okq (⟨"CarriedAsFarAsTheStileModel", "all", "([IIZ)V"⟩, 53) := ⟨⟨by decide +kernel, by decide +kernel⟩, List.mem_of_getElem? (i := 891) (by decide +kernel), List.mem_of_getElem? (i := 1173) (by decide +kernel), List.mem_of_getElem? (i := 1174) (by decide +kernel)⟩
theorem lw_p50 : lw_okq (⟨"CarriedAsFarAsTheStileModel", "carries", "([II[IIZ)I"⟩, 53) := ⟨⟨by decide +kernel, by decide +kernel⟩, List.mem_of_getElem? (i := 891) (by decide +kernel), List.mem_of_getElem? (i := 1177) (by decide +kernel), List.mem_of_getElem? (i := 1178) (by decide +kernel)⟩
theorem lw_p51 : lw_okq (⟨"CarriedAsFarAsTheStileModel", "item", "()Z"⟩, 53) := ⟨⟨by decide +kernel, by decide +kernel⟩, List.mem_of_getElem? (i := 891) (by decide +kernel), List.mem_of_getElem? (i := 1181) (by decide +kernel), List.mem_of_getElem? (i := 1182) (by decide +kernel)⟩
theorem lw_p52 : lw_okq (⟨"CarriedAsFarAsTheStileModel", "stands", "(I)Z"⟩, 53) := ⟨⟨by decide +kernel, by decide +kernel⟩, List.mem_of_getElem? (i := 891) (by decide +kernel), List.mem_of_getElem? (i := 1185) (by decide +kernel), List.mem_of_getElem? (i := 1186) (by decide +kernel)⟩
theorem lw_p53 : lw_okq (⟨"CarriedAsFarAsTheStileModel", "wrong", "(I)Z"⟩, 53) := ⟨⟨by decide +kernel, by decide +kernel⟩, List.mem_of_getElem? (i := 891) (by decide +kernel), List.mem_of_getElem? (i := 1189) (by decide +kernel), List.mem_of_getElem? (i := 1190) (by decide +kernel)⟩
theorem lw_p54 : lw_okq (⟨"CarriedAsFarAsTheStileModel", "word", "()I"⟩, 53) := ⟨⟨by decide +kernel, by decide +kernel⟩, List.mem_of_getElem? (i := 891) (by decide +kernel), List.mem_of_getElem? (i := 1193) (by decide +kernel), List.mem_of_getElem? (i := 1194) (by decide +kernel)⟩
theorem lw_p55 : lw_okq (⟨"CarriedAsFarAsTheStileModel", "reads", "()Z"⟩, 53) := ⟨⟨by decide +kernel, by decide +kernel⟩, List.mem_of_getElem? (i := 891) (by decide +kernel), List.mem_of_getElem? (i := 1197) (by decide +kernel), List.mem_of_getElem? (i := 1198) (by decide +kernel)⟩
theorem lw_p56 : lw_okq (⟨"CarriedAsFarAsTheStileModel", "isDigit", "()Z"⟩, 53) := ⟨⟨by decide +kernel, by decide +kernel⟩, List.mem_of_getElem? (i := 891) (by decide +kernel), List.mem_of_getElem? (i := 1201) (by decide +kernel), List.mem_of_getElem? (i := 1202) (by decide +kernel)⟩
theorem lw_p57 : lw_okq (⟨"CarriedAsFarAsTheStileModel", "isSo", "(II)Z"⟩, 53) := ⟨⟨by decide +kernel, by decide +kernel⟩, List.mem_of_getElem? (i := 891) (by decide +kernel), List.mem_of_getElem? (i := 1205) (by decide +kernel), List.mem_of_getElem? (i := 1206) (by decide +kernel)⟩
theorem lw_p58 : lw_okq (⟨"CarriedAsFarAsTheStileModel", "mayBe", "(I)Z"⟩, 53) := ⟨⟨by decide +kernel, by decide +kernel⟩, List.mem_of_getElem? (i := 891) (by decide +kernel), List.mem_of_getElem? (i := 1209) (by decide +kernel), List.mem_of_getElem? (i := 1210) (by decide +kernel)⟩
theorem lw_p59 : lw_okq (⟨"CarriedAsFarAsTheStileModel", "mayCarry", "(I)Z"⟩, 53) := ⟨⟨by decide +kernel, by decide +kernel⟩, List.mem_of_getElem? (i := 891) (by decide +kernel), List.mem_of_getElem? (i := 1213) (by decide +kernel), List.mem_of_getElem? (i := 1214) (by decide +kernel)⟩
theorem lw_p60 : lw_okq (⟨"CarriedAsFarAsTheStileModel", "acts", "(I)V"⟩, 53) := ⟨⟨by decide +kernel, by decide +kernel⟩, List.mem_of_getElem? (i := 891) (by decide +kernel), List.mem_of_getElem? (i := 1217) (by decide +kernel), List.mem_of_getElem? (i := 1218) (by decide +kernel)⟩
theorem lw_p61 : lw_okq (⟨"CarriedAsFarAsTheStileModel", "rests", "(II)V"⟩, 53) := ⟨⟨by decide +kernel, by decide +kernel⟩, List.mem_of_getElem? (i := 891) (by decide +kernel), List.mem_of_getElem? (i := 1221) (by decide +kernel), List.mem_of_getElem? (i := 1222) (by decide +kernel)⟩
theorem lw_p62 : lw_okq (⟨"CarriedAsFarAsTheStileModel", "greatest", "()I"⟩, 53) := ⟨⟨by decide +kernel, by decide +kernel⟩, List.mem_of_getElem? (i := 891) (by decide +kernel), List.mem_of_getElem? (i := 1245) (by decide +kernel), List.mem_of_getElem? (i := 1246) (by decide +kernel)⟩
theorem lw_p63 : lw_okq (⟨"CarriedAsFarAsTheStileModel", "looks", "(III)V"⟩, 53) := ⟨⟨by decide +kernel, by decide +kernel⟩, List.mem_of_getElem? (i := 891) (by decide +kernel), List.mem_of_getElem? (i := 1249) (by decide +kernel), List.mem_of_getElem? (i := 1250) (by decide +kernel)⟩
def lw_privs_4 : List (MethodName × Nat) := [(⟨"CarriedAsFarAsTheStileModel", "wanted", "(I)I"⟩, 53), (⟨"CarriedAsFarAsTheStileModel", "all", "([IIZ)V"⟩, 53), (⟨"CarriedAsFarAsTheStileModel", "carries", "([II[IIZ)I"⟩, 53), (⟨"CarriedAsFarAsTheStileModel", "item", "()Z"⟩, 53), (⟨"CarriedAsFarAsTheStileModel", "stands", "(I)Z"⟩, 53), (⟨"CarriedAsFarAsTheStileModel", "wrong", "(I)Z"⟩, 53), (⟨"CarriedAsFarAsTheStileModel", "word", "()I"⟩, 53), (⟨"CarriedAsFarAsTheStileModel", "reads", "()Z"⟩, 53), (⟨"CarriedAsFarAsTheStileModel", "isDigit", "()Z"⟩, 53), (⟨"CarriedAsFarAsTheStileModel", "isSo", "(II)Z"⟩, 53), (⟨"CarriedAsFarAsTheStileModel", "mayBe", "(I)Z"⟩, 53), (⟨"CarriedAsFarAsTheStileModel", "mayCarry", "(I)Z"⟩, 53), (⟨"CarriedAsFarAsTheStileModel", "acts", "(I)V"⟩, 53), (⟨"CarriedAsFarAsTheStileModel", "rests", "(II)V"⟩, 53), (⟨"CarriedAsFarAsTheStileModel", "greatest", "()I"⟩, 53), (⟨"CarriedAsFarAsTheStileModel", "looks", "(III)V"⟩, 53)]
theorem lw_r4 : ∀ q ∈ lw_privs_4, lw_okq q := List.forall_mem_cons.mpr ⟨lw_p48, List.forall_mem_cons.mpr ⟨lw_p49, List.forall_mem_cons.mpr ⟨lw_p50, List.forall_mem_cons.mpr ⟨lw_p51, List.forall_mem_cons.mpr ⟨lw_p52, List.forall_mem_cons.mpr ⟨lw_p53, List.forall_mem_cons.mpr ⟨lw_p54, List.forall_mem_cons.mpr ⟨lw_p55, List.forall_mem_cons.mpr ⟨lw_p56, List.forall_mem_cons.mpr ⟨lw_p57, List.forall_mem_cons.mpr ⟨lw_p58, List.forall_mem_cons.mpr ⟨lw_p59, List.forall_mem_cons.mpr ⟨lw_p60, List.forall_mem_cons.mpr ⟨lw_p61, List.forall_mem_cons.mpr ⟨lw_p62, List.forall_mem_cons.mpr ⟨lw_p63, fun _ h => absurd h List.not_mem_nil⟩⟩⟩⟩⟩⟩⟩⟩⟩⟩⟩⟩⟩⟩⟩⟩
theorem lw_p64 : lw_okq (⟨"CarriedAsFarAsTheStileModel", "isRule", "(I)Z"⟩, 53) := ⟨⟨by decide +kernel, by decide +kernel⟩, List.mem_of_getElem? (i := 891) (by decide +kernel), List.mem_of_getElem? (i := 1258) (by decide +kernel), List.mem_of_getElem? (i := 1259) (by decide +kernel)⟩
theorem lw_p65 : lw_okq (⟨"CarriedAsFarAsTheStileModel", "leads", "(I)V"⟩, 53) := ⟨⟨by decide +kernel, by decide +kernel⟩, List.mem_of_getElem? (i := 891) (by decide +kernel), List.mem_of_getElem? (i := 1262) (by decide +kernel), List.mem_of_getElem? (i := 1263) (by decide +kernel)⟩
theorem lw_p66 : lw_okq (⟨"CarriedAsFarAsTheStileModel", "begins", "()V"⟩, 53) := ⟨⟨by decide +kernel, by decide +kernel⟩, List.mem_of_getElem? (i := 891) (by decide +kernel), List.mem_of_getElem? (i := 1266) (by decide +kernel), List.mem_of_getElem? (i := 1267) (by decide +kernel)⟩
theorem lw_p67 : lw_okq (⟨"CarriedAsFarAsTheStileModel", "goes", "(I)Z"⟩, 53) := ⟨⟨by decide +kernel, by decide +kernel⟩, List.mem_of_getElem? (i := 891) (by decide +kernel), List.mem_of_getElem? (i := 1270) (by decide +kernel), List.mem_of_getElem? (i := 1271) (by decide +kernel)⟩
theorem lw_p68 : lw_okq (⟨"CarriedAsFarAsTheStileModel", "ruled", "(I)I"⟩, 53) := ⟨⟨by decide +kernel, by decide +kernel⟩, List.mem_of_getElem? (i := 891) (by decide +kernel), List.mem_of_getElem? (i := 1274) (by decide +kernel), List.mem_of_getElem? (i := 1275) (by decide +kernel)⟩
theorem lw_p69 : lw_okq (⟨"CarriedAsFarAsTheStileModel", "freshest", "()I"⟩, 53) := ⟨⟨by decide +kernel, by decide +kernel⟩, List.mem_of_getElem? (i := 891) (by decide +kernel), List.mem_of_getElem? (i := 1278) (by decide +kernel), List.mem_of_getElem? (i := 1279) (by decide +kernel)⟩
theorem lw_p70 : lw_okq (⟨"CarriedAsFarAsTheStileModel", "takesBack", "()V"⟩, 53) := ⟨⟨by decide +kernel, by decide +kernel⟩, List.mem_of_getElem? (i := 891) (by decide +kernel), List.mem_of_getElem? (i := 1282) (by decide +kernel), List.mem_of_getElem? (i := 1283) (by decide +kernel)⟩
theorem lw_p71 : lw_okq (⟨"CarriedAsFarAsTheStileModel", "barsOf", "(II)I"⟩, 53) := ⟨⟨by decide +kernel, by decide +kernel⟩, List.mem_of_getElem? (i := 891) (by decide +kernel), List.mem_of_getElem? (i := 1310) (by decide +kernel), List.mem_of_getElem? (i := 1311) (by decide +kernel)⟩
theorem lw_p72 : lw_okq (⟨"CarriedAsFarAsTheStileModel", "bars", "(II)I"⟩, 53) := ⟨⟨by decide +kernel, by decide +kernel⟩, List.mem_of_getElem? (i := 891) (by decide +kernel), List.mem_of_getElem? (i := 1314) (by decide +kernel), List.mem_of_getElem? (i := 1315) (by decide +kernel)⟩
theorem lw_p73 : lw_okq (⟨"CarriedAsFarAsTheStileModel", "wrongIn", "(II)I"⟩, 53) := ⟨⟨by decide +kernel, by decide +kernel⟩, List.mem_of_getElem? (i := 891) (by decide +kernel), List.mem_of_getElem? (i := 1318) (by decide +kernel), List.mem_of_getElem? (i := 1319) (by decide +kernel)⟩
theorem lw_p74 : lw_okq (⟨"CarriedAsFarAsTheStileModel", "intAt", "(II)I"⟩, 53) := ⟨⟨by decide +kernel, by decide +kernel⟩, List.mem_of_getElem? (i := 891) (by decide +kernel), List.mem_of_getElem? (i := 1322) (by decide +kernel), List.mem_of_getElem? (i := 1323) (by decide +kernel)⟩
theorem lw_p75 : lw_okq (⟨"CarriedAsFarAsTheStileModel", "draw", "(I)I"⟩, 53) := ⟨⟨by decide +kernel, by decide +kernel⟩, List.mem_of_getElem? (i := 891) (by decide +kernel), List.mem_of_getElem? (i := 1354) (by decide +kernel), List.mem_of_getElem? (i := 1355) (by decide +kernel)⟩
theorem lw_p76 : lw_okq (⟨"CarriedAsFarAsTheStileModel", "lifting", "(II)I"⟩, 53) := ⟨⟨by decide +kernel, by decide +kernel⟩, List.mem_of_getElem? (i := 891) (by decide +kernel), List.mem_of_getElem? (i := 1371) (by decide +kernel), List.mem_of_getElem? (i := 1372) (by decide +kernel)⟩
theorem lw_p77 : lw_okq (⟨"CarriedAsFarAsTheStileModel", "body", "(I)V"⟩, 53) := ⟨⟨by decide +kernel, by decide +kernel⟩, List.mem_of_getElem? (i := 891) (by decide +kernel), List.mem_of_getElem? (i := 1375) (by decide +kernel), List.mem_of_getElem? (i := 1376) (by decide +kernel)⟩
theorem lw_p78 : lw_okq (⟨"CarriedAsFarAsTheStileModel", "stepping", "(II)I"⟩, 53) := ⟨⟨by decide +kernel, by decide +kernel⟩, List.mem_of_getElem? (i := 891) (by decide +kernel), List.mem_of_getElem? (i := 1379) (by decide +kernel), List.mem_of_getElem? (i := 1380) (by decide +kernel)⟩
theorem lw_p79 : lw_okq (⟨"CarriedAsFarAsTheStileModel", "resting", "(II)I"⟩, 53) := ⟨⟨by decide +kernel, by decide +kernel⟩, List.mem_of_getElem? (i := 891) (by decide +kernel), List.mem_of_getElem? (i := 1383) (by decide +kernel), List.mem_of_getElem? (i := 1384) (by decide +kernel)⟩
def lw_privs_5 : List (MethodName × Nat) := [(⟨"CarriedAsFarAsTheStileModel", "isRule", "(I)Z"⟩, 53), (⟨"CarriedAsFarAsTheStileModel", "leads", "(I)V"⟩, 53), (⟨"CarriedAsFarAsTheStileModel", "begins", "()V"⟩, 53), (⟨"CarriedAsFarAsTheStileModel", "goes", "(I)Z"⟩, 53), (⟨"CarriedAsFarAsTheStileModel", "ruled", "(I)I"⟩, 53), (⟨"CarriedAsFarAsTheStileModel", "freshest", "()I"⟩, 53), (⟨"CarriedAsFarAsTheStileModel", "takesBack", "()V"⟩, 53), (⟨"CarriedAsFarAsTheStileModel", "barsOf", "(II)I"⟩, 53), (⟨"CarriedAsFarAsTheStileModel", "bars", "(II)I"⟩, 53), (⟨"CarriedAsFarAsTheStileModel", "wrongIn", "(II)I"⟩, 53), (⟨"CarriedAsFarAsTheStileModel", "intAt", "(II)I"⟩, 53), (⟨"CarriedAsFarAsTheStileModel", "draw", "(I)I"⟩, 53), (⟨"CarriedAsFarAsTheStileModel", "lifting", "(II)I"⟩, 53), (⟨"CarriedAsFarAsTheStileModel", "body", "(I)V"⟩, 53), (⟨"CarriedAsFarAsTheStileModel", "stepping", "(II)I"⟩, 53), (⟨"CarriedAsFarAsTheStileModel", "resting", "(II)I"⟩, 53)]
theorem lw_r5 : ∀ q ∈ lw_privs_5, lw_okq q := List.forall_mem_cons.mpr ⟨lw_p64, List.forall_mem_cons.mpr ⟨lw_p65, List.forall_mem_cons.mpr ⟨lw_p66, List.forall_mem_cons.mpr ⟨lw_p67, List.forall_mem_cons.mpr ⟨lw_p68, List.forall_mem_cons.mpr ⟨lw_p69, List.forall_mem_cons.mpr ⟨lw_p70, List.forall_mem_cons.mpr ⟨lw_p71, List.forall_mem_cons.mpr ⟨lw_p72, List.forall_mem_cons.mpr ⟨lw_p73, List.forall_mem_cons.mpr ⟨lw_p74, List.forall_mem_cons.mpr ⟨lw_p75, List.forall_mem_cons.mpr ⟨lw_p76, List.forall_mem_cons.mpr ⟨lw_p77, List.forall_mem_cons.mpr ⟨lw_p78, List.forall_mem_cons.mpr ⟨lw_p79, fun _ h => absurd h List.not_mem_nil⟩⟩⟩⟩⟩⟩⟩⟩⟩⟩⟩⟩⟩⟩⟩⟩
def lw_privs : List (MethodName × Nat) := lw_privs_1 ++ (lw_privs_2 ++ (lw_privs_3 ++ (lw_privs_4 ++ (lw_privs_5))))
def lw_tbl : List Cond := k2_sels lw_privs ++ tables_1
theorem lw_privs_ok : ∀ q ∈ lw_privs, lw_okq q := by
  show ∀ q ∈ lw_privs_1 ++ (lw_privs_2 ++ (lw_privs_3 ++ (lw_privs_4 ++ (lw_privs_5)))), lw_okq q
  exact List.forall_mem_append.mpr ⟨lw_r1, List.forall_mem_append.mpr ⟨lw_r2, List.forall_mem_append.mpr ⟨lw_r3, List.forall_mem_append.mpr ⟨lw_r4, lw_r5⟩⟩⟩⟩
-- ===== end of PART A; then your names; then what follows =====
end
section
/-! part 02: printed names (claim/NAMES.whole.lean.txt, cut); the table of methods and of links, laid by wip/p2/tables.py -/
def RX0 : String := "CarriedAsFarAsTheStile$Moves"
def TX0 : u_T := fun k => match k with
  | 0 => ("CarriedAsFarAsTheStile$Moves", "begun", "[I", true)
  | 1 => ("CarriedAsFarAsTheStile$Moves", "ran", "I", false)
  | 2 => ("CarriedAsFarAsTheStile$Moves", "own", "I", false)
  | 3 => ("CarriedAsFarAsTheStile$Moves", "number", "I", false)
  | _ => ("CarriedAsFarAsTheStile$Moves", "trait", "I", false)
def tyX0 : Nat → FieldType := fun k => match k with
  | 0 => .array .int
  | 1 => .int
  | 2 => .int
  | 3 => .int
  | _ => .int
theorem nmX0 : ∀ a, a < 5 → ∀ b, b < 5 → a ≠ b → (TX0 a).2.1 ≠ (TX0 b).2.1 := by decide +kernel
theorem tyX0_ok : ∀ k, k < 5 → parseFieldDescriptor (TX0 k).2.2.1 = some (tyX0 k) := by decide +kernel
abbrev cX0_init : ByteArray := prog_2_method_1_code
def yX0_init : MethodName := ⟨RX0, "<init>", "()V"⟩
abbrev cX0_forget : ByteArray := prog_2_method_2_code
def yX0_forget : MethodName := ⟨RX0, "forget", "()V"⟩
abbrev cX0_run : ByteArray := prog_2_method_3_code
def yX0_run : MethodName := ⟨RX0, "run", "(LCarriedAsFarAsTheStile$Way;III)I"⟩
abbrev cX0_kept : ByteArray := prog_2_method_4_code
def yX0_kept : MethodName := ⟨RX0, "kept", "(I)I"⟩
abbrev cX0_from : ByteArray := prog_2_method_5_code
def yX0_from : MethodName := ⟨RX0, "from", "(IIII)I"⟩
abbrev cX0_runBody : ByteArray := prog_2_method_6_code
def yX0_runBody : MethodName := ⟨RX0, "runBody", "(IIII)I"⟩
def RX1 : String := "CarriedAsFarAsTheStile$Rules"
def TX1 : u_T := fun k => match k with
  | 0 => ("CarriedAsFarAsTheStile$Rules", "walk", "LCarriedAsFarAsTheStile$Walk;", true)
  | 1 => ("CarriedAsFarAsTheStile$Rules", "turn", "I", false)
  | 2 => ("CarriedAsFarAsTheStile$Rules", "acts", "I", false)
  | _ => ("CarriedAsFarAsTheStile$Rules", "worst", "I", false)
def tyX1 : Nat → FieldType := fun k => match k with
  | 0 => .object "CarriedAsFarAsTheStile$Walk"
  | 1 => .int
  | 2 => .int
  | _ => .int
theorem nmX1 : ∀ a, a < 4 → ∀ b, b < 4 → a ≠ b → (TX1 a).2.1 ≠ (TX1 b).2.1 := by decide +kernel
theorem tyX1_ok : ∀ k, k < 4 → parseFieldDescriptor (TX1 k).2.2.1 = some (tyX1 k) := by decide +kernel
abbrev cX1_init : ByteArray := prog_3_method_1_code
def yX1_init : MethodName := ⟨RX1, "<init>", "(LCarriedAsFarAsTheStile$Way;)V"⟩
abbrev cX1_begin : ByteArray := prog_3_method_2_code
def yX1_begin : MethodName := ⟨RX1, "begin", "(LCarriedAsFarAsTheStile$Walk;)V"⟩
abbrev cX1_goOn : ByteArray := prog_3_method_3_code
def yX1_goOn : MethodName := ⟨RX1, "goOn", "(I)V"⟩
abbrev cX1_step : ByteArray := prog_3_method_4_code
def yX1_step : MethodName := ⟨RX1, "step", "(I)Z"⟩
abbrev cX1_choose : ByteArray := prog_3_method_5_code
def yX1_choose : MethodName := ⟨RX1, "choose", "(I)I"⟩
abbrev cX1_whoseTurn : ByteArray := prog_3_method_6_code
def yX1_whoseTurn : MethodName := ⟨RX1, "whoseTurn", "()I"⟩
abbrev cX1_freshest : ByteArray := prog_3_method_7_code
def yX1_freshest : MethodName := ⟨RX1, "freshest", "()I"⟩
def RX2 : String := "CarriedAsFarAsTheStile$Search"
def TX2 : u_T := fun k => match k with
  | 0 => ("CarriedAsFarAsTheStile$Search", "walks", "[LCarriedAsFarAsTheStile$Walk;", true)
  | 1 => ("CarriedAsFarAsTheStile$Search", "row", "[I", true)
  | 2 => ("CarriedAsFarAsTheStile$Search", "best", "[I", true)
  | 3 => ("CarriedAsFarAsTheStile$Search", "depthWanted", "I", false)
  | 4 => ("CarriedAsFarAsTheStile$Search", "bestActs", "I", false)
  | 5 => ("CarriedAsFarAsTheStile$Search", "bestHere", "I", false)
  | 6 => ("CarriedAsFarAsTheStile$Search", "bestWorst", "I", false)
  | _ => ("CarriedAsFarAsTheStile$Search", "bestMinutes", "I", false)
def tyX2 : Nat → FieldType := fun k => match k with
  | 0 => .array (.object "CarriedAsFarAsTheStile$Walk")
  | 1 => .array .int
  | 2 => .array .int
  | 3 => .int
  | 4 => .int
  | 5 => .int
  | 6 => .int
  | _ => .int
theorem nmX2 : ∀ a, a < 8 → ∀ b, b < 8 → a ≠ b → (TX2 a).2.1 ≠ (TX2 b).2.1 := by decide +kernel
theorem tyX2_ok : ∀ k, k < 8 → parseFieldDescriptor (TX2 k).2.2.1 = some (tyX2 k) := by decide +kernel
abbrev cX2_init : ByteArray := prog_4_method_1_code
def yX2_init : MethodName := ⟨RX2, "<init>", "(LCarriedAsFarAsTheStile$Way;)V"⟩
abbrev cX2_look : ByteArray := prog_4_method_2_code
def yX2_look : MethodName := ⟨RX2, "look", "(LCarriedAsFarAsTheStile$Walk;I)V"⟩
abbrev cX2_deeper : ByteArray := prog_4_method_3_code
def yX2_deeper : MethodName := ⟨RX2, "deeper", "(II)V"⟩
abbrev cX2_isHopeless : ByteArray := prog_4_method_4_code
def yX2_isHopeless : MethodName := ⟨RX2, "isHopeless", "(II)Z"⟩
abbrev cX2_offer : ByteArray := prog_4_method_5_code
def yX2_offer : MethodName := ⟨RX2, "offer", "(II)V"⟩
def RX3 : String := "CarriedAsFarAsTheStile$Shelf"
def TX3 : u_T := fun k => match k with
  | 0 => ("CarriedAsFarAsTheStile$Shelf", "cells", "[J", true)
  | 1 => ("CarriedAsFarAsTheStile$Shelf", "holding", "I", false)
  | _ => ("CarriedAsFarAsTheStile$Shelf", "size", "I", false)
def tyX3 : Nat → FieldType := fun k => match k with
  | 0 => .array .long
  | 1 => .int
  | _ => .int
theorem nmX3 : ∀ a, a < 3 → ∀ b, b < 3 → a ≠ b → (TX3 a).2.1 ≠ (TX3 b).2.1 := by decide +kernel
theorem tyX3_ok : ∀ k, k < 3 → parseFieldDescriptor (TX3 k).2.2.1 = some (tyX3 k) := by decide +kernel
abbrev cX3_init : ByteArray := prog_5_method_1_code
def yX3_init : MethodName := ⟨RX3, "<init>", "()V"⟩
abbrev cX3_holdsRow : ByteArray := prog_5_method_2_code
def yX3_holdsRow : MethodName := ⟨RX3, "holdsRow", "()Z"⟩
abbrev cX3_hasElement : ByteArray := prog_5_method_3_code
def yX3_hasElement : MethodName := ⟨RX3, "hasElement", "(I)Z"⟩
abbrev cX3_hasElements : ByteArray := prog_5_method_4_code
def yX3_hasElements : MethodName := ⟨RX3, "hasElements", "(II)Z"⟩
abbrev cX3_makeRow : ByteArray := prog_5_method_5_code
def yX3_makeRow : MethodName := ⟨RX3, "makeRow", "(II)V"⟩
abbrev cX3_put : ByteArray := prog_5_method_6_code
def yX3_put : MethodName := ⟨RX3, "put", "(IJ)V"⟩
abbrev cX3_number : ByteArray := prog_5_method_7_code
def yX3_number : MethodName := ⟨RX3, "number", "(I)I"⟩
def RX4 : String := "CarriedAsFarAsTheStile$Telling"
def TX4 : u_T := fun k => match k with
  | 0 => ("CarriedAsFarAsTheStile$Telling", "walk", "LCarriedAsFarAsTheStile$Walk;", true)
  | 1 => ("CarriedAsFarAsTheStile$Telling", "letters", "[I", true)
  | 2 => ("CarriedAsFarAsTheStile$Telling", "size", "I", false)
  | 3 => ("CarriedAsFarAsTheStile$Telling", "place", "I", false)
  | 4 => ("CarriedAsFarAsTheStile$Telling", "numberPlace", "I", false)
  | 5 => ("CarriedAsFarAsTheStile$Telling", "items", "I", false)
  | _ => ("CarriedAsFarAsTheStile$Telling", "fault", "I", false)
def tyX4 : Nat → FieldType := fun k => match k with
  | 0 => .object "CarriedAsFarAsTheStile$Walk"
  | 1 => .array .int
  | 2 => .int
  | 3 => .int
  | 4 => .int
  | 5 => .int
  | _ => .int
theorem nmX4 : ∀ a, a < 7 → ∀ b, b < 7 → a ≠ b → (TX4 a).2.1 ≠ (TX4 b).2.1 := by decide +kernel
theorem tyX4_ok : ∀ k, k < 7 → parseFieldDescriptor (TX4 k).2.2.1 = some (tyX4 k) := by decide +kernel
abbrev cX4_init : ByteArray := prog_6_method_1_code
def yX4_init : MethodName := ⟨RX4, "<init>", "()V"⟩
abbrev cX4_read : ByteArray := prog_6_method_2_code
def yX4_read : MethodName := ⟨RX4, "read", "(LCarriedAsFarAsTheStile$Shelf;LCarriedAsFarAsTheStile$Walk;)V"⟩
abbrev cX4_readItem : ByteArray := prog_6_method_3_code
def yX4_readItem : MethodName := ⟨RX4, "readItem", "()V"⟩
abbrev cX4_hasRoomFor : ByteArray := prog_6_method_4_code
def yX4_hasRoomFor : MethodName := ⟨RX4, "hasRoomFor", "(I)Z"⟩
abbrev cX4_tellFurlong : ByteArray := prog_6_method_5_code
def yX4_tellFurlong : MethodName := ⟨RX4, "tellFurlong", "(I)V"⟩
abbrev cX4_tellPerson : ByteArray := prog_6_method_6_code
def yX4_tellPerson : MethodName := ⟨RX4, "tellPerson", "()V"⟩
abbrev cX4_tellTired : ByteArray := prog_6_method_7_code
def yX4_tellTired : MethodName := ⟨RX4, "tellTired", "()V"⟩
abbrev cX4_tellBag : ByteArray := prog_6_method_8_code
def yX4_tellBag : MethodName := ⟨RX4, "tellBag", "()V"⟩
abbrev cX4_tellAct : ByteArray := prog_6_method_9_code
def yX4_tellAct : MethodName := ⟨RX4, "tellAct", "()V"⟩
abbrev cX4_tellAsked : ByteArray := prog_6_method_10_code
def yX4_tellAsked : MethodName := ⟨RX4, "tellAsked", "(I)V"⟩
abbrev cX4_readWord : ByteArray := prog_6_method_11_code
def yX4_readWord : MethodName := ⟨RX4, "readWord", "()I"⟩
abbrev cX4_wordBeginning : ByteArray := prog_6_method_12_code
def yX4_wordBeginning : MethodName := ⟨RX4, "wordBeginning", "(II)I"⟩
abbrev cX4_beginsThere : ByteArray := prog_6_method_13_code
def yX4_beginsThere : MethodName := ⟨RX4, "beginsThere", "(Ljava/lang/String;II)Z"⟩
abbrev cX4_spelling : ByteArray := prog_6_method_14_code
def yX4_spelling : MethodName := ⟨RX4, "spelling", "(I)Ljava/lang/String;"⟩
abbrev cX4_readSign : ByteArray := prog_6_method_15_code
def yX4_readSign : MethodName := ⟨RX4, "readSign", "(C)Z"⟩
abbrev cX4_readNumber : ByteArray := prog_6_method_16_code
def yX4_readNumber : MethodName := ⟨RX4, "readNumber", "(II)I"⟩
abbrev cX4_isDigitNext : ByteArray := prog_6_method_17_code
def yX4_isDigitNext : MethodName := ⟨RX4, "isDigitNext", "()Z"⟩
def RX5 : String := "CarriedAsFarAsTheStile$Walk"
def TX5 : u_T := fun k => match k with
  | 0 => ("CarriedAsFarAsTheStile$Walk", "way", "LCarriedAsFarAsTheStile$Way;", true)
  | 1 => ("CarriedAsFarAsTheStile$Walk", "tired", "[I", true)
  | 2 => ("CarriedAsFarAsTheStile$Walk", "bag", "I", false)
  | 3 => ("CarriedAsFarAsTheStile$Walk", "most", "I", false)
  | 4 => ("CarriedAsFarAsTheStile$Walk", "legs", "I", false)
  | 5 => ("CarriedAsFarAsTheStile$Walk", "nap", "I", false)
  | 6 => ("CarriedAsFarAsTheStile$Walk", "on", "I", false)
  | 7 => ("CarriedAsFarAsTheStile$Walk", "biscuits", "I", false)
  | 8 => ("CarriedAsFarAsTheStile$Walk", "races", "I", false)
  | 9 => ("CarriedAsFarAsTheStile$Walk", "worn", "I", false)
  | 10 => ("CarriedAsFarAsTheStile$Walk", "here", "I", false)
  | 11 => ("CarriedAsFarAsTheStile$Walk", "minutes", "I", false)
  | _ => ("CarriedAsFarAsTheStile$Walk", "seed", "I", false)
def tyX5 : Nat → FieldType := fun k => match k with
  | 0 => .object "CarriedAsFarAsTheStile$Way"
  | 1 => .array .int
  | 2 => .int
  | 3 => .int
  | 4 => .int
  | 5 => .int
  | 6 => .int
  | 7 => .int
  | 8 => .int
  | 9 => .int
  | 10 => .int
  | 11 => .int
  | _ => .int
theorem nmX5 : ∀ a, a < 13 → ∀ b, b < 13 → a ≠ b → (TX5 a).2.1 ≠ (TX5 b).2.1 := by decide +kernel
theorem tyX5_ok : ∀ k, k < 13 → parseFieldDescriptor (TX5 k).2.2.1 = some (tyX5 k) := by decide +kernel
abbrev cX5_init : ByteArray := prog_7_method_1_code
def yX5_init : MethodName := ⟨RX5, "<init>", "(LCarriedAsFarAsTheStile$Way;)V"⟩
abbrev cX5_copyFrom : ByteArray := prog_7_method_2_code
def yX5_copyFrom : MethodName := ⟨RX5, "copyFrom", "(LCarriedAsFarAsTheStile$Walk;)V"⟩
abbrev cX5_addPerson : ByteArray := prog_7_method_3_code
def yX5_addPerson : MethodName := ⟨RX5, "addPerson", "(II)I"⟩
abbrev cX5_asked : ByteArray := prog_7_method_4_code
def yX5_asked : MethodName := ⟨RX5, "asked", "(I)I"⟩
abbrev cX5_become : ByteArray := prog_7_method_5_code
def yX5_become : MethodName := ⟨RX5, "become", "(II)V"⟩
abbrev cX5_atEnd : ByteArray := prog_7_method_6_code
def yX5_atEnd : MethodName := ⟨RX5, "atEnd", "()Z"⟩
abbrev cX5_asleep : ByteArray := prog_7_method_7_code
def yX5_asleep : MethodName := ⟨RX5, "asleep", "()Z"⟩
abbrev cX5_greatestTired : ByteArray := prog_7_method_8_code
def yX5_greatestTired : MethodName := ⟨RX5, "greatestTired", "()I"⟩
abbrev cX5_minutesThereAndBack : ByteArray := prog_7_method_9_code
def yX5_minutesThereAndBack : MethodName := ⟨RX5, "minutesThereAndBack", "()I"⟩
abbrev cX5_loadOnSlope : ByteArray := prog_7_method_10_code
def yX5_loadOnSlope : MethodName := ⟨RX5, "loadOnSlope", "(II)I"⟩
abbrev cX5_mayBe : ByteArray := prog_7_method_11_code
def yX5_mayBe : MethodName := ⟨RX5, "mayBe", "(I)Z"⟩
abbrev cX5_mayCarry : ByteArray := prog_7_method_12_code
def yX5_mayCarry : MethodName := ⟨RX5, "mayCarry", "(I)Z"⟩
abbrev cX5_mayWalk : ByteArray := prog_7_method_13_code
def yX5_mayWalk : MethodName := ⟨RX5, "mayWalk", "()Z"⟩
abbrev cX5_mayRest : ByteArray := prog_7_method_14_code
def yX5_mayRest : MethodName := ⟨RX5, "mayRest", "()Z"⟩
abbrev cX5_come : ByteArray := prog_7_method_15_code
def yX5_come : MethodName := ⟨RX5, "come", "(I)V"⟩
abbrev cX5_walk : ByteArray := prog_7_method_16_code
def yX5_walk : MethodName := ⟨RX5, "walk", "()V"⟩
abbrev cX5_carry : ByteArray := prog_7_method_17_code
def yX5_carry : MethodName := ⟨RX5, "carry", "(I)V"⟩
abbrev cX5_restOthers : ByteArray := prog_7_method_18_code
def yX5_restOthers : MethodName := ⟨RX5, "restOthers", "(I)V"⟩
abbrev cX5_restAll : ByteArray := prog_7_method_19_code
def yX5_restAll : MethodName := ⟨RX5, "restAll", "()V"⟩
abbrev cX5_draw : ByteArray := prog_7_method_20_code
def yX5_draw : MethodName := ⟨RX5, "draw", "(I)I"⟩
def RX6 : String := "CarriedAsFarAsTheStile$Way"
def TX6 : u_T := fun k => match k with
  | 0 => ("CarriedAsFarAsTheStile$Way", "slopes", "[I", true)
  | 1 => ("CarriedAsFarAsTheStile$Way", "stiles", "[I", true)
  | 2 => ("CarriedAsFarAsTheStile$Way", "kinds", "[I", true)
  | 3 => ("CarriedAsFarAsTheStile$Way", "traits", "[I", true)
  | 4 => ("CarriedAsFarAsTheStile$Way", "furlongs", "I", false)
  | _ => ("CarriedAsFarAsTheStile$Way", "people", "I", false)
def tyX6 : Nat → FieldType := fun k => match k with
  | 0 => .array .int
  | 1 => .array .int
  | 2 => .array .int
  | 3 => .array .int
  | 4 => .int
  | _ => .int
theorem nmX6 : ∀ a, a < 6 → ∀ b, b < 6 → a ≠ b → (TX6 a).2.1 ≠ (TX6 b).2.1 := by decide +kernel
theorem tyX6_ok : ∀ k, k < 6 → parseFieldDescriptor (TX6 k).2.2.1 = some (tyX6 k) := by decide +kernel
abbrev cX6_init : ByteArray := prog_8_method_1_code
def yX6_init : MethodName := ⟨RX6, "<init>", "()V"⟩
abbrev cX6_copyFrom : ByteArray := prog_8_method_2_code
def yX6_copyFrom : MethodName := ⟨RX6, "copyFrom", "(LCarriedAsFarAsTheStile$Way;)V"⟩
abbrev cX6_hasFurlong : ByteArray := prog_8_method_3_code
def yX6_hasFurlong : MethodName := ⟨RX6, "hasFurlong", "(I)Z"⟩
abbrev cX6_hasPerson : ByteArray := prog_8_method_4_code
def yX6_hasPerson : MethodName := ⟨RX6, "hasPerson", "(I)Z"⟩
abbrev cX6_addFurlong : ByteArray := prog_8_method_5_code
def yX6_addFurlong : MethodName := ⟨RX6, "addFurlong", "(IZ)I"⟩
def RX7 : String := "CarriedAsFarAsTheStile"
def TX7 : u_T := fun k => match k with
  | 0 => ("CarriedAsFarAsTheStile", "shelves", "[LCarriedAsFarAsTheStile$Shelf;", true)
  | 1 => ("CarriedAsFarAsTheStile", "now", "LCarriedAsFarAsTheStile$Walk;", true)
  | 2 => ("CarriedAsFarAsTheStile", "image", "LCarriedAsFarAsTheStile$Walk;", true)
  | 3 => ("CarriedAsFarAsTheStile", "trial", "LCarriedAsFarAsTheStile$Walk;", true)
  | 4 => ("CarriedAsFarAsTheStile", "rules", "LCarriedAsFarAsTheStile$Rules;", true)
  | 5 => ("CarriedAsFarAsTheStile", "search", "LCarriedAsFarAsTheStile$Search;", true)
  | 6 => ("CarriedAsFarAsTheStile", "telling", "LCarriedAsFarAsTheStile$Telling;", true)
  | 7 => ("CarriedAsFarAsTheStile", "moves", "LCarriedAsFarAsTheStile$Moves;", true)
  | 8 => ("CarriedAsFarAsTheStile", "refusals", "[I", true)
  | 9 => ("CarriedAsFarAsTheStile", "imageTaken", "Z", false)
  | _ => ("CarriedAsFarAsTheStile", "latestFault", "I", false)
def tyX7 : Nat → FieldType := fun k => match k with
  | 0 => .array (.object "CarriedAsFarAsTheStile$Shelf")
  | 1 => .object "CarriedAsFarAsTheStile$Walk"
  | 2 => .object "CarriedAsFarAsTheStile$Walk"
  | 3 => .object "CarriedAsFarAsTheStile$Walk"
  | 4 => .object "CarriedAsFarAsTheStile$Rules"
  | 5 => .object "CarriedAsFarAsTheStile$Search"
  | 6 => .object "CarriedAsFarAsTheStile$Telling"
  | 7 => .object "CarriedAsFarAsTheStile$Moves"
  | 8 => .array .int
  | 9 => .boolean
  | _ => .int
theorem nmX7 : ∀ a, a < 11 → ∀ b, b < 11 → a ≠ b → (TX7 a).2.1 ≠ (TX7 b).2.1 := by decide +kernel
theorem tyX7_ok : ∀ k, k < 11 → parseFieldDescriptor (TX7 k).2.2.1 = some (tyX7 k) := by decide +kernel
abbrev cX7_init : ByteArray := prog_1_method_1_code
def yX7_init : MethodName := ⟨RX7, "<init>", "()V"⟩
abbrev cX7_row : ByteArray := prog_1_method_2_code
def yX7_row : MethodName := ⟨RX7, "row", "(III)I"⟩
abbrev cX7_set : ByteArray := prog_1_method_3_code
def yX7_set : MethodName := ⟨RX7, "set", "(IIJ)I"⟩
abbrev cX7_copy : ByteArray := prog_1_method_4_code
def yX7_copy : MethodName := ⟨RX7, "copy", "(IIIII)I"⟩
abbrev cX7_element : ByteArray := prog_1_method_5_code
def yX7_element : MethodName := ⟨RX7, "element", "(II)J"⟩
abbrev cX7_show : ByteArray := prog_1_method_6_code
def yX7_show : MethodName := ⟨RX7, "show", "(II)I"⟩
abbrev cX7_holds : ByteArray := prog_1_method_7_code
def yX7_holds : MethodName := ⟨RX7, "holds", "(I)I"⟩
abbrev cX7_says : ByteArray := prog_1_method_8_code
def yX7_says : MethodName := ⟨RX7, "says", "(II)I"⟩
abbrev cX7_furlong : ByteArray := prog_1_method_9_code
def yX7_furlong : MethodName := ⟨RX7, "furlong", "(IZ)I"⟩
abbrev cX7_person : ByteArray := prog_1_method_10_code
def yX7_person : MethodName := ⟨RX7, "person", "(II)I"⟩
abbrev cX7_furlongOf : ByteArray := prog_1_method_11_code
def yX7_furlongOf : MethodName := ⟨RX7, "furlongOf", "(II)I"⟩
abbrev cX7_personOf : ByteArray := prog_1_method_12_code
def yX7_personOf : MethodName := ⟨RX7, "personOf", "(II)I"⟩
abbrev cX7_ask : ByteArray := prog_1_method_13_code
def yX7_ask : MethodName := ⟨RX7, "ask", "(II)I"⟩
abbrev cX7_tire : ByteArray := prog_1_method_14_code
def yX7_tire : MethodName := ⟨RX7, "tire", "(II)I"⟩
abbrev cX7_bag : ByteArray := prog_1_method_15_code
def yX7_bag : MethodName := ⟨RX7, "bag", "(I)I"⟩
abbrev cX7_way : ByteArray := prog_1_method_16_code
def yX7_way : MethodName := ⟨RX7, "way", "(I)I"⟩
abbrev cX7_fault : ByteArray := prog_1_method_17_code
def yX7_fault : MethodName := ⟨RX7, "fault", "()I"⟩
abbrev cX7_load : ByteArray := prog_1_method_18_code
def yX7_load : MethodName := ⟨RX7, "load", "(II)I"⟩
abbrev cX7_may : ByteArray := prog_1_method_19_code
def yX7_may : MethodName := ⟨RX7, "may", "(I)I"⟩
abbrev cX7_next : ByteArray := prog_1_method_20_code
def yX7_next : MethodName := ⟨RX7, "next", "()I"⟩
abbrev cX7_ahead : ByteArray := prog_1_method_21_code
def yX7_ahead : MethodName := ⟨RX7, "ahead", "(II)I"⟩
abbrev cX7_by : ByteArray := prog_1_method_22_code
def yX7_by : MethodName := ⟨RX7, "by", "(II)I"⟩
abbrev cX7_best : ByteArray := prog_1_method_23_code
def yX7_best : MethodName := ⟨RX7, "best", "(I)I"⟩
abbrev cX7_whose : ByteArray := prog_1_method_24_code
def yX7_whose : MethodName := ⟨RX7, "whose", "(I)I"⟩
abbrev cX7_turn : ByteArray := prog_1_method_25_code
def yX7_turn : MethodName := ⟨RX7, "turn", "(II)I"⟩
abbrev cX7_pays : ByteArray := prog_1_method_26_code
def yX7_pays : MethodName := ⟨RX7, "pays", "(I)I"⟩
abbrev cX7_bagged : ByteArray := prog_1_method_27_code
def yX7_bagged : MethodName := ⟨RX7, "bagged", "(I)I"⟩
abbrev cX7_judge : ByteArray := prog_1_method_28_code
def yX7_judge : MethodName := ⟨RX7, "judge", "(II)I"⟩
abbrev cX7_behind : ByteArray := prog_1_method_29_code
def yX7_behind : MethodName := ⟨RX7, "behind", "(III)I"⟩
abbrev cX7_done : ByteArray := prog_1_method_30_code
def yX7_done : MethodName := ⟨RX7, "done", "(II)I"⟩
abbrev cX7_fits : ByteArray := prog_1_method_31_code
def yX7_fits : MethodName := ⟨RX7, "fits", "(I)I"⟩
abbrev cX7_enough : ByteArray := prog_1_method_32_code
def yX7_enough : MethodName := ⟨RX7, "enough", "()I"⟩
abbrev cX7_leastWorn : ByteArray := prog_1_method_33_code
def yX7_leastWorn : MethodName := ⟨RX7, "leastWorn", "(I)I"⟩
abbrev cX7_does : ByteArray := prog_1_method_34_code
def yX7_does : MethodName := ⟨RX7, "does", "(I)I"⟩
abbrev cX7_summer : ByteArray := prog_1_method_35_code
def yX7_summer : MethodName := ⟨RX7, "summer", "(I)I"⟩
abbrev cX7_day : ByteArray := prog_1_method_36_code
def yX7_day : MethodName := ⟨RX7, "day", "()I"⟩
abbrev cX7_seed : ByteArray := prog_1_method_37_code
def yX7_seed : MethodName := ⟨RX7, "seed", "(I)I"⟩
abbrev cX7_act : ByteArray := prog_1_method_38_code
def yX7_act : MethodName := ⟨RX7, "act", "(III)I"⟩
abbrev cX7_trace : ByteArray := prog_1_method_39_code
def yX7_trace : MethodName := ⟨RX7, "trace", "(I)I"⟩
abbrev cX7_image : ByteArray := prog_1_method_40_code
def yX7_image : MethodName := ⟨RX7, "image", "()I"⟩
abbrev cX7_restore : ByteArray := prog_1_method_41_code
def yX7_restore : MethodName := ⟨RX7, "restore", "()I"⟩
abbrev cX7_status : ByteArray := prog_1_method_42_code
def yX7_status : MethodName := ⟨RX7, "status", "(I)I"⟩
abbrev cX7_refuse : ByteArray := prog_1_method_43_code
def yX7_refuse : MethodName := ⟨RX7, "refuse", "(I)I"⟩
abbrev cX7_refuseFar : ByteArray := prog_1_method_44_code
def yX7_refuseFar : MethodName := ⟨RX7, "refuseFar", "(I)I"⟩
abbrev cX7_whyNoRow : ByteArray := prog_1_method_45_code
def yX7_whyNoRow : MethodName := ⟨RX7, "whyNoRow", "(I)I"⟩
abbrev cX7_whyNoCopy : ByteArray := prog_1_method_46_code
def yX7_whyNoCopy : MethodName := ⟨RX7, "whyNoCopy", "(II)I"⟩
abbrev cX7_whyNoWalk : ByteArray := prog_1_method_47_code
def yX7_whyNoWalk : MethodName := ⟨RX7, "whyNoWalk", "(II)I"⟩
abbrev cX7_isShelf : ByteArray := prog_1_method_48_code
def yX7_isShelf : MethodName := ⟨RX7, "isShelf", "(I)Z"⟩
abbrev cX7_isKind : ByteArray := prog_1_method_49_code
def yX7_isKind : MethodName := ⟨RX7, "isKind", "(I)Z"⟩
abbrev cX7_isRule : ByteArray := prog_1_method_50_code
def yX7_isRule : MethodName := ⟨RX7, "isRule", "(I)Z"⟩
abbrev cX7_isUnder : ByteArray := prog_1_method_51_code
def yX7_isUnder : MethodName := ⟨RX7, "isUnder", "(II)Z"⟩
abbrev cX7_restOfKind : ByteArray := prog_1_method_52_code
def yX7_restOfKind : MethodName := ⟨RX7, "restOfKind", "(I)I"⟩
abbrev cX7_isBetter : ByteArray := prog_1_method_53_code
def yX7_isBetter : MethodName := ⟨RX7, "isBetter", "(IIII)Z"⟩
abbrev cX7_nthBit : ByteArray := prog_1_method_54_code
def yX7_nthBit : MethodName := ⟨RX7, "nthBit", "(II)I"⟩
abbrev cX7_tryWalk : ByteArray := prog_1_method_55_code
def yX7_tryWalk : MethodName := ⟨RX7, "tryWalk", "(LCarriedAsFarAsTheStile$Shelf;I)I"⟩
abbrev cX7_areSoTired : ByteArray := prog_1_method_56_code
def yX7_areSoTired : MethodName := ⟨RX7, "areSoTired", "(LCarriedAsFarAsTheStile$Walk;LCarriedAsFarAsTheStile$Shelf;)Z"⟩
abbrev cX7_leastToTheEnd : ByteArray := prog_1_method_57_code
def yX7_leastToTheEnd : MethodName := ⟨RX7, "leastToTheEnd", "(II)I"⟩
def RX8 : String := "CarriedAsFarAsTheStileModel"
def TX8 : u_T := fun k => match k with
  | 0 => ("CarriedAsFarAsTheStileModel", "furlongs", "I", false)
  | 1 => ("CarriedAsFarAsTheStileModel", "many", "I", false)
  | 2 => ("CarriedAsFarAsTheStileModel", "bagged", "I", false)
  | 3 => ("CarriedAsFarAsTheStileModel", "legs", "I", false)
  | 4 => ("CarriedAsFarAsTheStileModel", "most", "I", false)
  | 5 => ("CarriedAsFarAsTheStileModel", "nap", "I", false)
  | 6 => ("CarriedAsFarAsTheStileModel", "on", "I", false)
  | 7 => ("CarriedAsFarAsTheStileModel", "biscuits", "I", false)
  | 8 => ("CarriedAsFarAsTheStileModel", "races", "I", false)
  | 9 => ("CarriedAsFarAsTheStileModel", "worn", "I", false)
  | 10 => ("CarriedAsFarAsTheStileModel", "here", "I", false)
  | 11 => ("CarriedAsFarAsTheStileModel", "minutes", "I", false)
  | 12 => ("CarriedAsFarAsTheStileModel", "seed", "I", false)
  | 13 => ("CarriedAsFarAsTheStileModel", "fault", "I", false)
  | 14 => ("CarriedAsFarAsTheStileModel", "refused", "[I", true)
  | 15 => ("CarriedAsFarAsTheStileModel", "slope", "[I", true)
  | 16 => ("CarriedAsFarAsTheStileModel", "stile", "[I", true)
  | 17 => ("CarriedAsFarAsTheStileModel", "kind", "[I", true)
  | 18 => ("CarriedAsFarAsTheStileModel", "part", "[I", true)
  | 19 => ("CarriedAsFarAsTheStileModel", "tired", "[I", true)
  | 20 => ("CarriedAsFarAsTheStileModel", "held", "[I", true)
  | 21 => ("CarriedAsFarAsTheStileModel", "sort", "[I", true)
  | 22 => ("CarriedAsFarAsTheStileModel", "size", "[I", true)
  | 23 => ("CarriedAsFarAsTheStileModel", "shown", "[I", true)
  | 24 => ("CarriedAsFarAsTheStileModel", "cells", "[J", true)
  | 25 => ("CarriedAsFarAsTheStileModel", "carried", "[J", true)
  | 26 => ("CarriedAsFarAsTheStileModel", "words", "[I", true)
  | 27 => ("CarriedAsFarAsTheStileModel", "numbers", "[I", true)
  | 28 => ("CarriedAsFarAsTheStileModel", "tell", "[I", true)
  | 29 => ("CarriedAsFarAsTheStileModel", "base", "I", false)
  | 30 => ("CarriedAsFarAsTheStileModel", "at", "I", false)
  | 31 => ("CarriedAsFarAsTheStileModel", "end", "I", false)
  | 32 => ("CarriedAsFarAsTheStileModel", "number", "I", false)
  | 33 => ("CarriedAsFarAsTheStileModel", "wrongAt", "I", false)
  | 34 => ("CarriedAsFarAsTheStileModel", "was", "[I", true)
  | 35 => ("CarriedAsFarAsTheStileModel", "kept", "[I", true)
  | 36 => ("CarriedAsFarAsTheStileModel", "tried", "[I", true)
  | 37 => ("CarriedAsFarAsTheStileModel", "ahead", "[I", true)
  | 38 => ("CarriedAsFarAsTheStileModel", "chosen", "[I", true)
  | 39 => ("CarriedAsFarAsTheStileModel", "best", "[I", true)
  | 40 => ("CarriedAsFarAsTheStileModel", "bestMany", "I", false)
  | 41 => ("CarriedAsFarAsTheStileModel", "bestHere", "I", false)
  | 42 => ("CarriedAsFarAsTheStileModel", "bestWorn", "I", false)
  | 43 => ("CarriedAsFarAsTheStileModel", "bestMinutes", "I", false)
  | 44 => ("CarriedAsFarAsTheStileModel", "turn", "I", false)
  | 45 => ("CarriedAsFarAsTheStileModel", "ever", "I", false)
  | 46 => ("CarriedAsFarAsTheStileModel", "made", "I", false)
  | 47 => ("CarriedAsFarAsTheStileModel", "ruleHere", "I", false)
  | 48 => ("CarriedAsFarAsTheStileModel", "ruleMinutes", "I", false)
  | 49 => ("CarriedAsFarAsTheStileModel", "ruleEver", "I", false)
  | 50 => ("CarriedAsFarAsTheStileModel", "trace", "[I", true)
  | 51 => ("CarriedAsFarAsTheStileModel", "ran", "I", false)
  | _ => ("CarriedAsFarAsTheStileModel", "isKept", "Z", false)
def tyX8 : Nat → FieldType := fun k => match k with
  | 0 => .int
  | 1 => .int
  | 2 => .int
  | 3 => .int
  | 4 => .int
  | 5 => .int
  | 6 => .int
  | 7 => .int
  | 8 => .int
  | 9 => .int
  | 10 => .int
  | 11 => .int
  | 12 => .int
  | 13 => .int
  | 14 => .array .int
  | 15 => .array .int
  | 16 => .array .int
  | 17 => .array .int
  | 18 => .array .int
  | 19 => .array .int
  | 20 => .array .int
  | 21 => .array .int
  | 22 => .array .int
  | 23 => .array .int
  | 24 => .array .long
  | 25 => .array .long
  | 26 => .array .int
  | 27 => .array .int
  | 28 => .array .int
  | 29 => .int
  | 30 => .int
  | 31 => .int
  | 32 => .int
  | 33 => .int
  | 34 => .array .int
  | 35 => .array .int
  | 36 => .array .int
  | 37 => .array .int
  | 38 => .array .int
  | 39 => .array .int
  | 40 => .int
  | 41 => .int
  | 42 => .int
  | 43 => .int
  | 44 => .int
  | 45 => .int
  | 46 => .int
  | 47 => .int
  | 48 => .int
  | 49 => .int
  | 50 => .array .int
  | 51 => .int
  | _ => .boolean
theorem nmX8 : ∀ a, a < 53 → ∀ b, b < 53 → a ≠ b → (TX8 a).2.1 ≠ (TX8 b).2.1 := by decide +kernel
theorem tyX8_ok : ∀ k, k < 53 → parseFieldDescriptor (TX8 k).2.2.1 = some (tyX8 k) := by decide +kernel
abbrev cX8_init : ByteArray := prog_10_method_1_code
def yX8_init : MethodName := ⟨RX8, "<init>", "()V"⟩
abbrev cX8_no : ByteArray := prog_10_method_2_code
def yX8_no : MethodName := ⟨RX8, "no", "(I)I"⟩
abbrev cX8_noTen : ByteArray := prog_10_method_3_code
def yX8_noTen : MethodName := ⟨RX8, "noTen", "(I)I"⟩
abbrev cX8_isShelf : ByteArray := prog_10_method_4_code
def yX8_isShelf : MethodName := ⟨RX8, "isShelf", "(I)Z"⟩
abbrev cX8_isPerson : ByteArray := prog_10_method_5_code
def yX8_isPerson : MethodName := ⟨RX8, "isPerson", "(I)Z"⟩
abbrev cX8_isFurlong : ByteArray := prog_10_method_6_code
def yX8_isFurlong : MethodName := ⟨RX8, "isFurlong", "(I)Z"⟩
abbrev cX8_row : ByteArray := prog_10_method_7_code
def yX8_row : MethodName := ⟨RX8, "row", "(III)I"⟩
abbrev cX8_set : ByteArray := prog_10_method_8_code
def yX8_set : MethodName := ⟨RX8, "set", "(IIJ)I"⟩
abbrev cX8_copy : ByteArray := prog_10_method_9_code
def yX8_copy : MethodName := ⟨RX8, "copy", "(IIIII)I"⟩
abbrev cX8_element : ByteArray := prog_10_method_10_code
def yX8_element : MethodName := ⟨RX8, "element", "(II)J"⟩
abbrev cX8_show : ByteArray := prog_10_method_11_code
def yX8_show : MethodName := ⟨RX8, "show", "(II)I"⟩
abbrev cX8_holds : ByteArray := prog_10_method_12_code
def yX8_holds : MethodName := ⟨RX8, "holds", "(I)I"⟩
abbrev cX8_says : ByteArray := prog_10_method_13_code
def yX8_says : MethodName := ⟨RX8, "says", "(II)I"⟩
abbrev cX8_wanted : ByteArray := prog_10_method_14_code
def yX8_wanted : MethodName := ⟨RX8, "wanted", "(I)I"⟩
abbrev cX8_intAt : ByteArray := prog_10_method_15_code
def yX8_intAt : MethodName := ⟨RX8, "intAt", "(II)I"⟩
abbrev cX8_bars : ByteArray := prog_10_method_16_code
def yX8_bars : MethodName := ⟨RX8, "bars", "(II)I"⟩
abbrev cX8_addsFurlong : ByteArray := prog_10_method_17_code
def yX8_addsFurlong : MethodName := ⟨RX8, "addsFurlong", "(II)I"⟩
abbrev cX8_addsPerson : ByteArray := prog_10_method_18_code
def yX8_addsPerson : MethodName := ⟨RX8, "addsPerson", "(II)I"⟩
abbrev cX8_furlong : ByteArray := prog_10_method_19_code
def yX8_furlong : MethodName := ⟨RX8, "furlong", "(IZ)I"⟩
abbrev cX8_person : ByteArray := prog_10_method_20_code
def yX8_person : MethodName := ⟨RX8, "person", "(II)I"⟩
abbrev cX8_furlongOf : ByteArray := prog_10_method_21_code
def yX8_furlongOf : MethodName := ⟨RX8, "furlongOf", "(II)I"⟩
abbrev cX8_personOf : ByteArray := prog_10_method_22_code
def yX8_personOf : MethodName := ⟨RX8, "personOf", "(II)I"⟩
abbrev cX8_isAsked : ByteArray := prog_10_method_23_code
def yX8_isAsked : MethodName := ⟨RX8, "isAsked", "(II)Z"⟩
abbrev cX8_told : ByteArray := prog_10_method_24_code
def yX8_told : MethodName := ⟨RX8, "told", "(I)I"⟩
abbrev cX8_tells : ByteArray := prog_10_method_25_code
def yX8_tells : MethodName := ⟨RX8, "tells", "(II)V"⟩
abbrev cX8_asks : ByteArray := prog_10_method_26_code
def yX8_asks : MethodName := ⟨RX8, "asks", "(II)I"⟩
abbrev cX8_ask : ByteArray := prog_10_method_27_code
def yX8_ask : MethodName := ⟨RX8, "ask", "(II)I"⟩
abbrev cX8_tire : ByteArray := prog_10_method_28_code
def yX8_tire : MethodName := ⟨RX8, "tire", "(II)I"⟩
abbrev cX8_bag : ByteArray := prog_10_method_29_code
def yX8_bag : MethodName := ⟨RX8, "bag", "(I)I"⟩
abbrev cX8_wrong : ByteArray := prog_10_method_30_code
def yX8_wrong : MethodName := ⟨RX8, "wrong", "(I)Z"⟩
abbrev cX8_stands : ByteArray := prog_10_method_31_code
def yX8_stands : MethodName := ⟨RX8, "stands", "(I)Z"⟩
abbrev cX8_word : ByteArray := prog_10_method_32_code
def yX8_word : MethodName := ⟨RX8, "word", "()I"⟩
abbrev cX8_isDigit : ByteArray := prog_10_method_33_code
def yX8_isDigit : MethodName := ⟨RX8, "isDigit", "()Z"⟩
abbrev cX8_reads : ByteArray := prog_10_method_34_code
def yX8_reads : MethodName := ⟨RX8, "reads", "()Z"⟩
abbrev cX8_isSo : ByteArray := prog_10_method_35_code
def yX8_isSo : MethodName := ⟨RX8, "isSo", "(II)Z"⟩
abbrev cX8_item : ByteArray := prog_10_method_36_code
def yX8_item : MethodName := ⟨RX8, "item", "()Z"⟩
abbrev cX8_carries : ByteArray := prog_10_method_37_code
def yX8_carries : MethodName := ⟨RX8, "carries", "([II[IIZ)I"⟩
abbrev cX8_all : ByteArray := prog_10_method_38_code
def yX8_all : MethodName := ⟨RX8, "all", "([IIZ)V"⟩
abbrev cX8_way : ByteArray := prog_10_method_39_code
def yX8_way : MethodName := ⟨RX8, "way", "(I)I"⟩
abbrev cX8_fault : ByteArray := prog_10_method_40_code
def yX8_fault : MethodName := ⟨RX8, "fault", "()I"⟩
abbrev cX8_isAsleep : ByteArray := prog_10_method_41_code
def yX8_isAsleep : MethodName := ⟨RX8, "isAsleep", "()Z"⟩
abbrev cX8_loadOf : ByteArray := prog_10_method_42_code
def yX8_loadOf : MethodName := ⟨RX8, "loadOf", "(II)I"⟩
abbrev cX8_mayCarry : ByteArray := prog_10_method_43_code
def yX8_mayCarry : MethodName := ⟨RX8, "mayCarry", "(I)Z"⟩
abbrev cX8_mayBe : ByteArray := prog_10_method_44_code
def yX8_mayBe : MethodName := ⟨RX8, "mayBe", "(I)Z"⟩
abbrev cX8_rests : ByteArray := prog_10_method_45_code
def yX8_rests : MethodName := ⟨RX8, "rests", "(II)V"⟩
abbrev cX8_acts : ByteArray := prog_10_method_46_code
def yX8_acts : MethodName := ⟨RX8, "acts", "(I)V"⟩
abbrev cX8_greatest : ByteArray := prog_10_method_47_code
def yX8_greatest : MethodName := ⟨RX8, "greatest", "()I"⟩
abbrev cX8_load : ByteArray := prog_10_method_48_code
def yX8_load : MethodName := ⟨RX8, "load", "(II)I"⟩
abbrev cX8_may : ByteArray := prog_10_method_49_code
def yX8_may : MethodName := ⟨RX8, "may", "(I)I"⟩
abbrev cX8_next : ByteArray := prog_10_method_50_code
def yX8_next : MethodName := ⟨RX8, "next", "()I"⟩
abbrev cX8_looks : ByteArray := prog_10_method_51_code
def yX8_looks : MethodName := ⟨RX8, "looks", "(III)V"⟩
abbrev cX8_ahead : ByteArray := prog_10_method_52_code
def yX8_ahead : MethodName := ⟨RX8, "ahead", "(II)I"⟩
abbrev cX8_freshest : ByteArray := prog_10_method_53_code
def yX8_freshest : MethodName := ⟨RX8, "freshest", "()I"⟩
abbrev cX8_ruled : ByteArray := prog_10_method_54_code
def yX8_ruled : MethodName := ⟨RX8, "ruled", "(I)I"⟩
abbrev cX8_begins : ByteArray := prog_10_method_55_code
def yX8_begins : MethodName := ⟨RX8, "begins", "()V"⟩
abbrev cX8_goes : ByteArray := prog_10_method_56_code
def yX8_goes : MethodName := ⟨RX8, "goes", "(I)Z"⟩
abbrev cX8_isRule : ByteArray := prog_10_method_57_code
def yX8_isRule : MethodName := ⟨RX8, "isRule", "(I)Z"⟩
abbrev cX8_leads : ByteArray := prog_10_method_58_code
def yX8_leads : MethodName := ⟨RX8, "leads", "(I)V"⟩
abbrev cX8_takesBack : ByteArray := prog_10_method_59_code
def yX8_takesBack : MethodName := ⟨RX8, "takesBack", "()V"⟩
abbrev cX8_by : ByteArray := prog_10_method_60_code
def yX8_by : MethodName := ⟨RX8, "by", "(II)I"⟩
abbrev cX8_best : ByteArray := prog_10_method_61_code
def yX8_best : MethodName := ⟨RX8, "best", "(I)I"⟩
abbrev cX8_whose : ByteArray := prog_10_method_62_code
def yX8_whose : MethodName := ⟨RX8, "whose", "(I)I"⟩
abbrev cX8_turn : ByteArray := prog_10_method_63_code
def yX8_turn : MethodName := ⟨RX8, "turn", "(II)I"⟩
abbrev cX8_pays : ByteArray := prog_10_method_64_code
def yX8_pays : MethodName := ⟨RX8, "pays", "(I)I"⟩
abbrev cX8_bagged : ByteArray := prog_10_method_65_code
def yX8_bagged : MethodName := ⟨RX8, "bagged", "(I)I"⟩
abbrev cX8_wrongIn : ByteArray := prog_10_method_66_code
def yX8_wrongIn : MethodName := ⟨RX8, "wrongIn", "(II)I"⟩
abbrev cX8_barsOf : ByteArray := prog_10_method_67_code
def yX8_barsOf : MethodName := ⟨RX8, "barsOf", "(II)I"⟩
abbrev cX8_judge : ByteArray := prog_10_method_68_code
def yX8_judge : MethodName := ⟨RX8, "judge", "(II)I"⟩
abbrev cX8_behind : ByteArray := prog_10_method_69_code
def yX8_behind : MethodName := ⟨RX8, "behind", "(III)I"⟩
abbrev cX8_done : ByteArray := prog_10_method_70_code
def yX8_done : MethodName := ⟨RX8, "done", "(II)I"⟩
abbrev cX8_fits : ByteArray := prog_10_method_71_code
def yX8_fits : MethodName := ⟨RX8, "fits", "(I)I"⟩
abbrev cX8_enough : ByteArray := prog_10_method_72_code
def yX8_enough : MethodName := ⟨RX8, "enough", "()I"⟩
abbrev cX8_leastWorn : ByteArray := prog_10_method_73_code
def yX8_leastWorn : MethodName := ⟨RX8, "leastWorn", "(I)I"⟩
abbrev cX8_does : ByteArray := prog_10_method_74_code
def yX8_does : MethodName := ⟨RX8, "does", "(I)I"⟩
abbrev cX8_draw : ByteArray := prog_10_method_75_code
def yX8_draw : MethodName := ⟨RX8, "draw", "(I)I"⟩
abbrev cX8_summer : ByteArray := prog_10_method_76_code
def yX8_summer : MethodName := ⟨RX8, "summer", "(I)I"⟩
abbrev cX8_day : ByteArray := prog_10_method_77_code
def yX8_day : MethodName := ⟨RX8, "day", "()I"⟩
abbrev cX8_seed : ByteArray := prog_10_method_78_code
def yX8_seed : MethodName := ⟨RX8, "seed", "(I)I"⟩
abbrev cX8_body : ByteArray := prog_10_method_79_code
def yX8_body : MethodName := ⟨RX8, "body", "(I)V"⟩
abbrev cX8_lifting : ByteArray := prog_10_method_80_code
def yX8_lifting : MethodName := ⟨RX8, "lifting", "(II)I"⟩
abbrev cX8_stepping : ByteArray := prog_10_method_81_code
def yX8_stepping : MethodName := ⟨RX8, "stepping", "(II)I"⟩
abbrev cX8_resting : ByteArray := prog_10_method_82_code
def yX8_resting : MethodName := ⟨RX8, "resting", "(II)I"⟩
abbrev cX8_act : ByteArray := prog_10_method_83_code
def yX8_act : MethodName := ⟨RX8, "act", "(III)I"⟩
abbrev cX8_trace : ByteArray := prog_10_method_84_code
def yX8_trace : MethodName := ⟨RX8, "trace", "(I)I"⟩
abbrev cX8_image : ByteArray := prog_10_method_85_code
def yX8_image : MethodName := ⟨RX8, "image", "()I"⟩
abbrev cX8_restore : ByteArray := prog_10_method_86_code
def yX8_restore : MethodName := ⟨RX8, "restore", "()I"⟩
abbrev cX8_status : ByteArray := prog_10_method_87_code
def yX8_status : MethodName := ⟨RX8, "status", "(I)I"⟩
def RJ6 : String := "java/lang/Integer"
abbrev cJ6_bitCount_0f7a4 : ByteArray := prog_11_method_49_code
def yJ6_bitCount_0f7a4 : MethodName := ⟨RJ6, "bitCount", "(I)I"⟩
def RJ9 : String := "java/lang/Math"
abbrev cJ9_max_7cf53 : ByteArray := prog_12_method_65_code
def yJ9_max_7cf53 : MethodName := ⟨RJ9, "max", "(II)I"⟩
abbrev cJ9_min_7cf53 : ByteArray := prog_12_method_69_code
def yJ9_min_7cf53 : MethodName := ⟨RJ9, "min", "(II)I"⟩
def RJ0 : String := "java/lang/String"
abbrev cJ0_length_8abf5 : ByteArray := prog_13_method_54_code
def yJ0_length_8abf5 : MethodName := ⟨RJ0, "length", "()I"⟩
abbrev cJ0_charAt_5068e : ByteArray := prog_13_method_56_code
def yJ0_charAt_5068e : MethodName := ⟨RJ0, "charAt", "(I)C"⟩
abbrev cJ0_coder_7d493 : ByteArray := prog_13_method_152_code
def yJ0_coder_7d493 : MethodName := ⟨RJ0, "coder", "()B"⟩
abbrev cJ0_isLatin1_aae02 : ByteArray := prog_13_method_154_code
def yJ0_isLatin1_aae02 : MethodName := ⟨RJ0, "isLatin1", "()Z"⟩
abbrev cJ0_checkIndex_df160 : ByteArray := prog_13_method_155_code
def yJ0_checkIndex_df160 : MethodName := ⟨RJ0, "checkIndex", "(II)V"⟩
def RJ1 : String := "java/lang/StringLatin1"
abbrev cJ1_charAt_3b067 : ByteArray := prog_14_method_2_code
def yJ1_charAt_3b067 : MethodName := ⟨RJ1, "charAt", "([BI)C"⟩
def RJ3 : String := "jdk/internal/util/Preconditions"
abbrev cJ3_checkIndex_8e157 : ByteArray := prog_17_method_11_code
def yJ3_checkIndex_8e157 : MethodName := ⟨RJ3, "checkIndex", "(IILjava/util/function/BiFunction;)I"⟩
abbrev cL_law : ByteArray := code
abbrev zx_cl : List vw_C := [(RX0, TX0, 5), (RX1, TX1, 4), (RX2, TX2, 8), (RX3, TX3, 3), (RX4, TX4, 7), (RX5, TX5, 13), (RX6, TX6, 6), (RX7, TX7, 11), (RX8, TX8, 53)]
def zx_on : List String := [RX0, RX1, RX2, RX3, RX4, RX5, RX6, RX7, RX8, RJ6, RJ9, RJ0, RJ1, RJ3, "CarriedAsFarAsTheStileLaw"]
abbrev zx_MT : Type := Nat × MethodName × ByteArray × Nat × Option FieldType × Nat × Nat
def zx_ml_0 : List zx_MT := [(0, yX0_init, cX0_init, 1, none, 0, 2),
  (0, yX0_forget, cX0_forget, 1, none, 0, 0),
  (0, yX0_run, cX0_run, 5, (some FieldType.int), 4, 0),
  (0, yX0_kept, cX0_kept, 2, (some FieldType.int), 1, 0),
  (0, yX0_from, cX0_from, 7, (some FieldType.int), 4, 0),
  (0, yX0_runBody, cX0_runBody, 5, (some FieldType.int), 4, 0),
  (1, yX1_init, cX1_init, 2, none, 1, 2),
  (1, yX1_begin, cX1_begin, 2, none, 1, 0),
  (1, yX1_goOn, cX1_goOn, 3, none, 1, 0),
  (1, yX1_step, cX1_step, 3, (some FieldType.boolean), 1, 0),
  (1, yX1_choose, cX1_choose, 3, (some FieldType.int), 1, 0),
  (1, yX1_whoseTurn, cX1_whoseTurn, 4, (some FieldType.int), 0, 0),
  (1, yX1_freshest, cX1_freshest, 3, (some FieldType.int), 0, 0),
  (2, yX2_init, cX2_init, 3, none, 1, 2),
  (2, yX2_look, cX2_look, 3, none, 2, 0),
  (2, yX2_deeper, cX2_deeper, 7, none, 2, 0),
  (2, yX2_isHopeless, cX2_isHopeless, 4, (some FieldType.boolean), 2, 0),
  (2, yX2_offer, cX2_offer, 6, none, 2, 0),
  (3, yX3_init, cX3_init, 1, none, 0, 2),
  (3, yX3_holdsRow, cX3_holdsRow, 1, (some FieldType.boolean), 0, 0),
  (3, yX3_hasElement, cX3_hasElement, 2, (some FieldType.boolean), 1, 0),
  (3, yX3_hasElements, cX3_hasElements, 3, (some FieldType.boolean), 2, 0),
  (3, yX3_makeRow, cX3_makeRow, 4, none, 2, 0),
  (3, yX3_put, cX3_put, 4, none, 2, 0),
  (3, yX3_number, cX3_number, 2, (some FieldType.int), 1, 0),
  (4, yX4_init, cX4_init, 1, none, 0, 2),
  (4, yX4_read, cX4_read, 5, none, 2, 0),
  (4, yX4_readItem, cX4_readItem, 3, none, 0, 0),
  (4, yX4_hasRoomFor, cX4_hasRoomFor, 2, (some FieldType.boolean), 1, 0),
  (4, yX4_tellFurlong, cX4_tellFurlong, 3, none, 1, 0),
  (4, yX4_tellPerson, cX4_tellPerson, 3, none, 0, 0),
  (4, yX4_tellTired, cX4_tellTired, 3, none, 0, 0),
  (4, yX4_tellBag, cX4_tellBag, 2, none, 0, 0),
  (4, yX4_tellAct, cX4_tellAct, 2, none, 0, 0),
  (4, yX4_tellAsked, cX4_tellAsked, 3, none, 1, 0),
  (4, yX4_readWord, cX4_readWord, 4, (some FieldType.int), 0, 0),
  (4, yX4_wordBeginning, cX4_wordBeginning, 4, (some FieldType.int), 2, 0),
  (4, yX4_beginsThere, cX4_beginsThere, 5, (some FieldType.boolean), 3, 0),
  (4, yX4_spelling, cX4_spelling, 1, (some (FieldType.object "java/lang/String")), 1, 1),
  (4, yX4_readSign, cX4_readSign, 2, (some FieldType.boolean), 1, 0)]
def zx_ml_1 : List zx_MT := [(4, yX4_readNumber, cX4_readNumber, 5, (some FieldType.int), 2, 0),
  (4, yX4_isDigitNext, cX4_isDigitNext, 1, (some FieldType.boolean), 0, 0),
  (5, yX5_init, cX5_init, 2, none, 1, 2),
  (5, yX5_copyFrom, cX5_copyFrom, 2, none, 1, 0),
  (5, yX5_addPerson, cX5_addPerson, 3, (some FieldType.int), 2, 0),
  (5, yX5_asked, cX5_asked, 2, (some FieldType.int), 1, 0),
  (5, yX5_become, cX5_become, 3, none, 2, 0),
  (5, yX5_atEnd, cX5_atEnd, 1, (some FieldType.boolean), 0, 0),
  (5, yX5_asleep, cX5_asleep, 1, (some FieldType.boolean), 0, 0),
  (5, yX5_greatestTired, cX5_greatestTired, 3, (some FieldType.int), 0, 0),
  (5, yX5_minutesThereAndBack, cX5_minutesThereAndBack, 1, (some FieldType.int), 0, 0),
  (5, yX5_loadOnSlope, cX5_loadOnSlope, 5, (some FieldType.int), 2, 0),
  (5, yX5_mayBe, cX5_mayBe, 2, (some FieldType.boolean), 1, 0),
  (5, yX5_mayCarry, cX5_mayCarry, 4, (some FieldType.boolean), 1, 0),
  (5, yX5_mayWalk, cX5_mayWalk, 1, (some FieldType.boolean), 0, 0),
  (5, yX5_mayRest, cX5_mayRest, 1, (some FieldType.boolean), 0, 0),
  (5, yX5_come, cX5_come, 2, none, 1, 0),
  (5, yX5_walk, cX5_walk, 1, none, 0, 0),
  (5, yX5_carry, cX5_carry, 3, none, 1, 0),
  (5, yX5_restOthers, cX5_restOthers, 4, none, 1, 0),
  (5, yX5_restAll, cX5_restAll, 2, none, 0, 0),
  (5, yX5_draw, cX5_draw, 2, (some FieldType.int), 1, 0),
  (6, yX6_init, cX6_init, 1, none, 0, 2),
  (6, yX6_copyFrom, cX6_copyFrom, 2, none, 1, 0),
  (6, yX6_hasFurlong, cX6_hasFurlong, 2, (some FieldType.boolean), 1, 0),
  (6, yX6_hasPerson, cX6_hasPerson, 2, (some FieldType.boolean), 1, 0),
  (6, yX6_addFurlong, cX6_addFurlong, 3, (some FieldType.int), 2, 0),
  (7, yX7_init, cX7_init, 2, none, 0, 2),
  (7, yX7_row, cX7_row, 4, (some FieldType.int), 3, 0),
  (7, yX7_set, cX7_set, 6, (some FieldType.int), 3, 0),
  (7, yX7_copy, cX7_copy, 9, (some FieldType.int), 5, 0),
  (7, yX7_element, cX7_element, 3, (some FieldType.long), 2, 0),
  (7, yX7_show, cX7_show, 3, (some FieldType.int), 2, 0),
  (7, yX7_holds, cX7_holds, 2, (some FieldType.int), 1, 0),
  (7, yX7_says, cX7_says, 4, (some FieldType.int), 2, 0),
  (7, yX7_furlong, cX7_furlong, 3, (some FieldType.int), 2, 0),
  (7, yX7_person, cX7_person, 3, (some FieldType.int), 2, 0),
  (7, yX7_furlongOf, cX7_furlongOf, 3, (some FieldType.int), 2, 0),
  (7, yX7_personOf, cX7_personOf, 3, (some FieldType.int), 2, 0),
  (7, yX7_ask, cX7_ask, 4, (some FieldType.int), 2, 0)]
def zx_ml_2 : List zx_MT := [(7, yX7_tire, cX7_tire, 4, (some FieldType.int), 2, 0),
  (7, yX7_bag, cX7_bag, 3, (some FieldType.int), 1, 0),
  (7, yX7_way, cX7_way, 3, (some FieldType.int), 1, 0),
  (7, yX7_fault, cX7_fault, 1, (some FieldType.int), 0, 0),
  (7, yX7_load, cX7_load, 3, (some FieldType.int), 2, 0),
  (7, yX7_may, cX7_may, 2, (some FieldType.int), 1, 0),
  (7, yX7_next, cX7_next, 3, (some FieldType.int), 0, 0),
  (7, yX7_ahead, cX7_ahead, 3, (some FieldType.int), 2, 0),
  (7, yX7_by, cX7_by, 4, (some FieldType.int), 2, 0),
  (7, yX7_best, cX7_best, 7, (some FieldType.int), 1, 0),
  (7, yX7_whose, cX7_whose, 5, (some FieldType.int), 1, 0),
  (7, yX7_turn, cX7_turn, 5, (some FieldType.int), 2, 0),
  (7, yX7_pays, cX7_pays, 4, (some FieldType.int), 1, 0),
  (7, yX7_bagged, cX7_bagged, 6, (some FieldType.int), 1, 0),
  (7, yX7_judge, cX7_judge, 4, (some FieldType.int), 2, 0),
  (7, yX7_behind, cX7_behind, 5, (some FieldType.int), 3, 0),
  (7, yX7_done, cX7_done, 4, (some FieldType.int), 2, 0),
  (7, yX7_fits, cX7_fits, 5, (some FieldType.int), 1, 0),
  (7, yX7_enough, cX7_enough, 1, (some FieldType.int), 0, 0),
  (7, yX7_leastWorn, cX7_leastWorn, 2, (some FieldType.int), 1, 0),
  (7, yX7_does, cX7_does, 2, (some FieldType.int), 1, 0),
  (7, yX7_summer, cX7_summer, 5, (some FieldType.int), 1, 0),
  (7, yX7_day, cX7_day, 3, (some FieldType.int), 0, 0),
  (7, yX7_seed, cX7_seed, 3, (some FieldType.int), 1, 0),
  (7, yX7_act, cX7_act, 4, (some FieldType.int), 3, 0),
  (7, yX7_trace, cX7_trace, 2, (some FieldType.int), 1, 0),
  (7, yX7_image, cX7_image, 1, (some FieldType.int), 0, 0),
  (7, yX7_restore, cX7_restore, 5, (some FieldType.int), 0, 0),
  (7, yX7_status, cX7_status, 2, (some FieldType.int), 1, 0),
  (7, yX7_refuse, cX7_refuse, 2, (some FieldType.int), 1, 0),
  (7, yX7_refuseFar, cX7_refuseFar, 2, (some FieldType.int), 1, 0),
  (7, yX7_whyNoRow, cX7_whyNoRow, 2, (some FieldType.int), 1, 0),
  (7, yX7_whyNoCopy, cX7_whyNoCopy, 5, (some FieldType.int), 2, 0),
  (7, yX7_whyNoWalk, cX7_whyNoWalk, 4, (some FieldType.int), 2, 0),
  (7, yX7_isShelf, cX7_isShelf, 1, (some FieldType.boolean), 1, 1),
  (7, yX7_isKind, cX7_isKind, 1, (some FieldType.boolean), 1, 1),
  (7, yX7_isRule, cX7_isRule, 1, (some FieldType.boolean), 1, 1),
  (7, yX7_isUnder, cX7_isUnder, 4, (some FieldType.boolean), 2, 1),
  (7, yX7_restOfKind, cX7_restOfKind, 1, (some FieldType.int), 1, 1),
  (7, yX7_isBetter, cX7_isBetter, 4, (some FieldType.boolean), 4, 1)]
def zx_ml_3 : List zx_MT := [(7, yX7_nthBit, cX7_nthBit, 4, (some FieldType.int), 2, 1),
  (7, yX7_tryWalk, cX7_tryWalk, 5, (some FieldType.int), 2, 0),
  (7, yX7_areSoTired, cX7_areSoTired, 3, (some FieldType.boolean), 2, 1),
  (7, yX7_leastToTheEnd, cX7_leastToTheEnd, 4, (some FieldType.int), 2, 0),
  (8, yX8_init, cX8_init, 1, none, 0, 2),
  (8, yX8_no, cX8_no, 2, (some FieldType.int), 1, 0),
  (8, yX8_noTen, cX8_noTen, 2, (some FieldType.int), 1, 0),
  (8, yX8_isShelf, cX8_isShelf, 2, (some FieldType.boolean), 1, 0),
  (8, yX8_isPerson, cX8_isPerson, 2, (some FieldType.boolean), 1, 0),
  (8, yX8_isFurlong, cX8_isFurlong, 2, (some FieldType.boolean), 1, 0),
  (8, yX8_row, cX8_row, 5, (some FieldType.int), 3, 0),
  (8, yX8_set, cX8_set, 5, (some FieldType.int), 3, 0),
  (8, yX8_copy, cX8_copy, 7, (some FieldType.int), 5, 0),
  (8, yX8_element, cX8_element, 3, (some FieldType.long), 2, 0),
  (8, yX8_show, cX8_show, 3, (some FieldType.int), 2, 0),
  (8, yX8_holds, cX8_holds, 2, (some FieldType.int), 1, 0),
  (8, yX8_says, cX8_says, 6, (some FieldType.int), 2, 0),
  (8, yX8_wanted, cX8_wanted, 2, (some FieldType.int), 1, 0),
  (8, yX8_intAt, cX8_intAt, 3, (some FieldType.int), 2, 0),
  (8, yX8_bars, cX8_bars, 4, (some FieldType.int), 2, 0),
  (8, yX8_addsFurlong, cX8_addsFurlong, 3, (some FieldType.int), 2, 0),
  (8, yX8_addsPerson, cX8_addsPerson, 3, (some FieldType.int), 2, 0),
  (8, yX8_furlong, cX8_furlong, 3, (some FieldType.int), 2, 0),
  (8, yX8_person, cX8_person, 3, (some FieldType.int), 2, 0),
  (8, yX8_furlongOf, cX8_furlongOf, 3, (some FieldType.int), 2, 0),
  (8, yX8_personOf, cX8_personOf, 3, (some FieldType.int), 2, 0),
  (8, yX8_isAsked, cX8_isAsked, 3, (some FieldType.boolean), 2, 0),
  (8, yX8_told, cX8_told, 2, (some FieldType.int), 1, 0),
  (8, yX8_tells, cX8_tells, 3, none, 2, 0),
  (8, yX8_asks, cX8_asks, 4, (some FieldType.int), 2, 0),
  (8, yX8_ask, cX8_ask, 3, (some FieldType.int), 2, 0),
  (8, yX8_tire, cX8_tire, 4, (some FieldType.int), 2, 0),
  (8, yX8_bag, cX8_bag, 3, (some FieldType.int), 1, 0),
  (8, yX8_wrong, cX8_wrong, 2, (some FieldType.boolean), 1, 0),
  (8, yX8_stands, cX8_stands, 4, (some FieldType.boolean), 1, 0),
  (8, yX8_word, cX8_word, 6, (some FieldType.int), 0, 0),
  (8, yX8_isDigit, cX8_isDigit, 1, (some FieldType.boolean), 0, 0),
  (8, yX8_reads, cX8_reads, 2, (some FieldType.boolean), 0, 0),
  (8, yX8_isSo, cX8_isSo, 3, (some FieldType.boolean), 2, 0),
  (8, yX8_item, cX8_item, 4, (some FieldType.boolean), 0, 0)]
def zx_ml_4 : List zx_MT := [(8, yX8_carries, cX8_carries, 7, (some FieldType.int), 5, 0),
  (8, yX8_all, cX8_all, 6, none, 3, 0),
  (8, yX8_way, cX8_way, 5, (some FieldType.int), 1, 0),
  (8, yX8_fault, cX8_fault, 1, (some FieldType.int), 0, 0),
  (8, yX8_isAsleep, cX8_isAsleep, 1, (some FieldType.boolean), 0, 0),
  (8, yX8_loadOf, cX8_loadOf, 4, (some FieldType.int), 2, 0),
  (8, yX8_mayCarry, cX8_mayCarry, 3, (some FieldType.boolean), 1, 0),
  (8, yX8_mayBe, cX8_mayBe, 2, (some FieldType.boolean), 1, 0),
  (8, yX8_rests, cX8_rests, 3, none, 2, 0),
  (8, yX8_acts, cX8_acts, 5, none, 1, 0),
  (8, yX8_greatest, cX8_greatest, 3, (some FieldType.int), 0, 0),
  (8, yX8_load, cX8_load, 3, (some FieldType.int), 2, 0),
  (8, yX8_may, cX8_may, 2, (some FieldType.int), 1, 0),
  (8, yX8_next, cX8_next, 3, (some FieldType.int), 0, 0),
  (8, yX8_looks, cX8_looks, 7, none, 3, 0),
  (8, yX8_ahead, cX8_ahead, 5, (some FieldType.int), 2, 0),
  (8, yX8_freshest, cX8_freshest, 3, (some FieldType.int), 0, 0),
  (8, yX8_ruled, cX8_ruled, 4, (some FieldType.int), 1, 0),
  (8, yX8_begins, cX8_begins, 1, none, 0, 0),
  (8, yX8_goes, cX8_goes, 4, (some FieldType.boolean), 1, 0),
  (8, yX8_isRule, cX8_isRule, 2, (some FieldType.boolean), 1, 0),
  (8, yX8_leads, cX8_leads, 3, none, 1, 0),
  (8, yX8_takesBack, cX8_takesBack, 1, none, 0, 0),
  (8, yX8_by, cX8_by, 4, (some FieldType.int), 2, 0),
  (8, yX8_best, cX8_best, 7, (some FieldType.int), 1, 0),
  (8, yX8_whose, cX8_whose, 4, (some FieldType.int), 1, 0),
  (8, yX8_turn, cX8_turn, 6, (some FieldType.int), 2, 0),
  (8, yX8_pays, cX8_pays, 6, (some FieldType.int), 1, 0),
  (8, yX8_bagged, cX8_bagged, 7, (some FieldType.int), 1, 0),
  (8, yX8_wrongIn, cX8_wrongIn, 5, (some FieldType.int), 2, 0),
  (8, yX8_barsOf, cX8_barsOf, 4, (some FieldType.int), 2, 0),
  (8, yX8_judge, cX8_judge, 5, (some FieldType.int), 2, 0),
  (8, yX8_behind, cX8_behind, 7, (some FieldType.int), 3, 0),
  (8, yX8_done, cX8_done, 4, (some FieldType.int), 2, 0),
  (8, yX8_fits, cX8_fits, 7, (some FieldType.int), 1, 0),
  (8, yX8_enough, cX8_enough, 4, (some FieldType.int), 0, 0),
  (8, yX8_leastWorn, cX8_leastWorn, 5, (some FieldType.int), 1, 0),
  (8, yX8_does, cX8_does, 2, (some FieldType.int), 1, 0),
  (8, yX8_draw, cX8_draw, 2, (some FieldType.int), 1, 0),
  (8, yX8_summer, cX8_summer, 8, (some FieldType.int), 1, 0)]
def zx_ml_5 : List zx_MT := [(8, yX8_day, cX8_day, 3, (some FieldType.int), 0, 0),
  (8, yX8_seed, cX8_seed, 3, (some FieldType.int), 1, 0),
  (8, yX8_body, cX8_body, 2, none, 1, 0),
  (8, yX8_lifting, cX8_lifting, 5, (some FieldType.int), 2, 0),
  (8, yX8_stepping, cX8_stepping, 7, (some FieldType.int), 2, 0),
  (8, yX8_resting, cX8_resting, 5, (some FieldType.int), 2, 0),
  (8, yX8_act, cX8_act, 4, (some FieldType.int), 3, 0),
  (8, yX8_trace, cX8_trace, 2, (some FieldType.int), 1, 0),
  (8, yX8_image, cX8_image, 1, (some FieldType.int), 0, 0),
  (8, yX8_restore, cX8_restore, 2, (some FieldType.int), 0, 0),
  (8, yX8_status, cX8_status, 2, (some FieldType.int), 1, 0),
  (9, yJ6_bitCount_0f7a4, cJ6_bitCount_0f7a4, 1, (some FieldType.int), 1, 1),
  (10, yJ9_max_7cf53, cJ9_max_7cf53, 2, (some FieldType.int), 2, 3),
  (10, yJ9_min_7cf53, cJ9_min_7cf53, 2, (some FieldType.int), 2, 4),
  (11, yJ0_length_8abf5, cJ0_length_8abf5, 1, (some FieldType.int), 0, 0),
  (11, yJ0_charAt_5068e, cJ0_charAt_5068e, 2, (some FieldType.char), 1, 0),
  (11, yJ0_coder_7d493, cJ0_coder_7d493, 1, (some FieldType.byte), 0, 0),
  (11, yJ0_isLatin1_aae02, cJ0_isLatin1_aae02, 1, (some FieldType.boolean), 0, 0),
  (11, yJ0_checkIndex_df160, cJ0_checkIndex_df160, 2, none, 2, 1),
  (12, yJ1_charAt_3b067, cJ1_charAt_3b067, 2, (some FieldType.char), 2, 1),
  (13, yJ3_checkIndex_8e157, cJ3_checkIndex_8e157, 3, (some FieldType.int), 3, 1)]
def zx_ml : List zx_MT := zx_ml_0 ++ zx_ml_1 ++ zx_ml_2 ++ zx_ml_3 ++ zx_ml_4 ++ zx_ml_5
def zx_mc : List (Nat × Nat × Nat × Nat) := [(317, 87, 316, 0), (932, 87, 930, 931), (936, 87, 934, 935), (957, 87, 955, 956), (941, 87, 940, 33), (949, 87, 948, 34), (219, 84, 218, 0), (797, 84, 795, 796), (803, 84, 801, 802), (807, 84, 805, 806), (812, 84, 811, 27), (817, 84, 816, 28), (822, 84, 821, 29), (243, 85, 242, 0), (760, 85, 758, 759), (770, 85, 769, 24), (774, 85, 773, 25), (782, 85, 781, 26), (339, 88, 338, 0), (416, 88, 414, 415), (420, 88, 418, 419), (436, 88, 434, 435), (404, 88, 402, 403), (424, 88, 422, 423), (561, 88, 559, 560), (282, 86, 281, 0), (547, 86, 545, 546), (565, 86, 564, 4), (644, 86, 643, 8), (648, 86, 647, 9), (665, 86, 664, 13), (670, 86, 669, 14), (674, 86, 673, 15), (678, 86, 677, 16), (729, 86, 728, 23), (569, 86, 568, 5), (573, 86, 572, 6), (592, 86, 591, 7), (576, 86, 575, 0), (656, 86, 655, 11), (652, 86, 651, 10), (660, 86, 659, 12), (156, 82, 155, 0), (556, 82, 554, 555), (496, 82, 494, 495), (524, 82, 522, 523), (528, 82, 526, 527), (690, 82, 688, 689), (474, 82, 472, 473), (766, 82, 764, 765), (841, 82, 839, 840), (478, 82, 476, 477), (682, 82, 680, 681), (699, 82, 697, 698), (686, 82, 685, 17), (695, 82, 694, 18), (705, 82, 703, 704), (709, 82, 708, 19), (725, 82, 724, 22), (713, 82, 712, 20), (721, 82, 720, 21), (912, 82, 910, 911), (113, 83, 112, 0), (551, 83, 549, 550), (504, 83, 502, 503), (451, 83, 449, 450), (488, 83, 486, 487), (101, 81, 100, 0), (393, 81, 391, 392), (408, 81, 406, 407), (428, 81, 426, 427), (443, 81, 441, 442), (447, 81, 445, 446), (455, 81, 453, 454), (459, 81, 457, 458), (484, 81, 482, 483), (492, 81, 490, 491), (500, 81, 498, 499), (512, 81, 510, 511), (516, 81, 514, 515), (535, 81, 533, 534), (539, 81, 537, 538), (543, 81, 541, 542), (739, 81, 737, 738), (743, 81, 741, 742), (747, 81, 745, 746), (752, 81, 750, 751), (756, 81, 754, 755), (790, 81, 788, 789), (828, 81, 826, 827), (833, 81, 831, 832), (837, 81, 835, 836), (846, 81, 844, 845), (851, 81, 849, 850), (855, 81, 853, 854), (868, 81, 866, 867), (873, 81, 871, 872), (877, 81, 875, 876), (884, 81, 882, 883), (893, 81, 891, 892), (897, 81, 895, 896), (901, 81, 899, 900), (920, 81, 918, 919), (924, 81, 922, 923), (928, 81, 926, 927), (953, 81, 951, 952), (961, 81, 959, 960), (965, 81, 963, 964), (969, 81, 967, 968), (400, 81, 399, 0), (508, 81, 507, 3), (412, 81, 411, 1), (432, 81, 431, 2), (859, 81, 858, 30), (396, 81, 395, 0), (462, 81, 461, 0), (793, 81, 792, 0), (465, 81, 464, 0), (470, 81, 469, 0), (785, 81, 784, 0), (916, 81, 915, 0), (863, 81, 862, 31), (880, 81, 879, 0), (888, 81, 887, 32), (974, 89, 973, 0), (1147, 89, 1146, 36), (1211, 89, 1210, 43), (1143, 89, 1142, 35), (1167, 89, 1166, 37), (1207, 89, 1206, 42), (1139, 89, 1137, 1138), (1151, 89, 1149, 1150), (1155, 89, 1153, 1154), (1159, 89, 1157, 1158), (1163, 89, 1161, 1162), (1171, 89, 1169, 1170), (1175, 89, 1173, 1174), (1251, 89, 1250, 48), (1404, 89, 1403, 74), (1396, 89, 1395, 72), (1191, 89, 1190, 40), (1199, 89, 1198, 41), (1187, 89, 1185, 1186), (1195, 89, 1193, 1194), (1203, 89, 1201, 1202), (1215, 89, 1213, 1214), (1223, 89, 1222, 44), (1231, 89, 1230, 46), (1235, 89, 1234, 47), (1227, 89, 1226, 45), (1219, 89, 1217, 1218), (1239, 89, 1237, 1238), (1243, 89, 1241, 1242), (1271, 89, 1270, 53), (1267, 89, 1266, 52), (1275, 89, 1274, 54), (1283, 89, 1282, 56), (1279, 89, 1278, 55), (1287, 89, 1286, 57), (1263, 89, 1262, 51), (1259, 89, 1258, 50), (1255, 89, 1254, 49), (1247, 89, 1245, 1246), (1307, 89, 1305, 1306), (1179, 89, 1178, 38), (1183, 89, 1182, 39), (1295, 89, 1294, 59), (1291, 89, 1290, 58), (1303, 89, 1302, 61), (1299, 89, 1298, 60), (1327, 89, 1326, 62), (1311, 89, 1309, 1310), (1315, 89, 1313, 1314), (1319, 89, 1317, 1318), (1331, 89, 1330, 63), (1323, 89, 1321, 1322), (1360, 89, 1359, 69), (1356, 89, 1355, 68), (1348, 89, 1347, 66), (1352, 89, 1351, 67), (1340, 89, 1339, 64), (1344, 89, 1343, 65), (1364, 89, 1363, 70), (1336, 89, 1334, 1335), (1368, 89, 1366, 1367), (1372, 89, 1370, 1371), (1376, 89, 1374, 1375), (1380, 89, 1378, 1379), (1384, 89, 1382, 1383), (1400, 89, 1399, 73), (1392, 89, 1391, 71), (1388, 89, 1386, 1387), (1408, 89, 1406, 1407), (1412, 89, 1410, 1411), (1416, 89, 1414, 1415), (1420, 89, 1418, 1419), (1424, 89, 1422, 1423), (1428, 89, 1426, 1427), (1436, 89, 1435, 75), (1432, 89, 1430, 1431), (1441, 89, 1439, 1440), (1445, 89, 1443, 1444), (1457, 89, 1456, 77), (1453, 89, 1452, 76), (1461, 89, 1460, 78), (1465, 89, 1464, 79), (1449, 89, 1447, 1448), (1469, 89, 1467, 1468), (1473, 89, 1471, 1472), (1477, 89, 1475, 1476), (1481, 89, 1479, 1480), (905, 96, 904, 0), (717, 91, 716, 0), (531, 91, 530, 0), (596, 92, 594, 595), (606, 92, 604, 605), (600, 92, 598, 599), (610, 92, 608, 609), (616, 92, 615, 0), (613, 93, 612, 0), (621, 94, 620, 0)]
def zx_lF : List (List (Nat × Nat × Nat × Nat × Nat)) := [[(31, 6, 2, 1, 125), (36, 6, 3, 1, 129), (11, 0, 0, 0, 319), (15, 0, 1, 0, 320), (19, 0, 2, 0, 322), (22, 0, 3, 0, 323), (25, 0, 4, 0, 324)],
  [(69, 6, 1, 1, 120), (64, 6, 5, 1, 138), (60, 5, 0, 1, 161), (88, 5, 1, 1, 163), (73, 5, 10, 1, 181), (26, 1, 0, 0, 223), (9, 1, 1, 0, 225), (15, 1, 2, 0, 226), (18, 1, 3, 0, 228)],
  [(83, 5, 10, 1, 180), (90, 5, 11, 1, 184), (13, 2, 0, 0, 248), (17, 2, 1, 0, 249), (21, 2, 2, 0, 250), (24, 2, 3, 0, 252), (28, 2, 4, 0, 253), (31, 2, 5, 0, 255), (34, 2, 6, 0, 257), (37, 2, 7, 0, 259)],
  [(9, 3, 0, 0, 341), (15, 3, 1, 0, 343), (19, 3, 2, 0, 345)],
  [(79, 6, 1, 1, 119), (82, 6, 4, 1, 132), (100, 6, 5, 1, 137), (43, 5, 0, 1, 160), (114, 5, 1, 1, 164), (117, 5, 2, 1, 167), (17, 4, 0, 0, 288), (23, 4, 1, 0, 290), (27, 4, 2, 0, 291), (31, 4, 3, 0, 292), (34, 4, 4, 0, 293), (37, 4, 5, 0, 294), (40, 4, 6, 0, 296), (53, 3, 2, 1, 346)],
  [(102, 6, 0, 1, 117), (111, 6, 1, 1, 122), (59, 6, 2, 1, 124), (67, 6, 3, 1, 128), (76, 6, 4, 1, 133), (64, 6, 5, 1, 136), (49, 5, 0, 0, 159), (9, 5, 1, 0, 162), (15, 5, 2, 0, 166), (19, 5, 3, 0, 169), (22, 5, 4, 0, 171), (25, 5, 5, 0, 173), (28, 5, 6, 0, 174), (31, 5, 7, 0, 176), (34, 5, 8, 0, 177), (37, 5, 9, 0, 178), (40, 5, 10, 0, 179), (43, 5, 11, 0, 183), (46, 5, 12, 0, 186)],
  [(9, 6, 0, 0, 115), (15, 6, 1, 0, 118), (18, 6, 2, 0, 123), (21, 6, 3, 0, 127), (24, 6, 4, 0, 131), (28, 6, 5, 0, 135)],
  [(165, 6, 0, 1, 116), (168, 6, 1, 1, 121), (127, 6, 2, 1, 126), (171, 6, 3, 1, 130), (146, 6, 4, 1, 134), (153, 6, 5, 1, 139), (30, 5, 0, 1, 158), (143, 5, 1, 1, 165), (174, 5, 2, 1, 168), (307, 5, 3, 1, 170), (277, 5, 4, 1, 172), (304, 5, 6, 1, 175), (221, 5, 10, 1, 182), (230, 5, 11, 1, 185), (310, 5, 12, 1, 187), (246, 1, 0, 1, 224), (250, 1, 2, 1, 227), (247, 1, 3, 1, 229), (233, 2, 2, 1, 251), (215, 2, 4, 1, 254), (218, 2, 5, 1, 256), (224, 2, 6, 1, 258), (227, 2, 7, 1, 260), (196, 4, 0, 1, 289), (205, 4, 5, 1, 295), (193, 4, 6, 1, 297), (326, 0, 1, 1, 321), (108, 3, 0, 1, 342), (121, 3, 1, 1, 344), (280, 3, 2, 1, 347), (11, 7, 0, 0, 356), (23, 7, 1, 0, 357), (27, 7, 2, 0, 358), (34, 7, 3, 0, 359), (40, 7, 4, 0, 360), (47, 7, 5, 0, 361), (54, 7, 6, 0, 362), (61, 7, 7, 0, 363), (65, 7, 8, 0, 364), (69, 7, 9, 0, 365), (73, 7, 10, 0, 366)],
  [(108, 8, 0, 0, 976), (105, 8, 1, 0, 977), (9, 8, 2, 0, 978), (13, 8, 3, 0, 979), (16, 8, 4, 0, 980), (19, 8, 5, 0, 981), (204, 8, 6, 0, 982), (22, 8, 7, 0, 983), (25, 8, 8, 0, 984), (28, 8, 9, 0, 985), (207, 8, 10, 0, 986), (210, 8, 11, 0, 987), (31, 8, 12, 0, 988), (34, 8, 13, 0, 989), (37, 8, 14, 0, 990), (41, 8, 15, 0, 991), (44, 8, 16, 0, 992), (47, 8, 17, 0, 993), (50, 8, 18, 0, 994), (53, 8, 19, 0, 995), (56, 8, 20, 0, 996), (59, 8, 21, 0, 997), (62, 8, 22, 0, 998), (65, 8, 23, 0, 999), (68, 8, 24, 0, 1000), (72, 8, 25, 0, 1001), (75, 8, 26, 0, 1002), (78, 8, 27, 0, 1003), (81, 8, 28, 0, 1004), (168, 8, 29, 0, 1005), (162, 8, 30, 0, 1006), (165, 8, 31, 0, 1007), (171, 8, 32, 0, 1008), (159, 8, 33, 0, 1009), (84, 8, 34, 0, 1010), (87, 8, 35, 0, 1011), (90, 8, 36, 0, 1012), (93, 8, 37, 0, 1013), (96, 8, 38, 0, 1014), (99, 8, 39, 0, 1015), (229, 8, 40, 0, 1016), (232, 8, 41, 0, 1017), (235, 8, 42, 0, 1018), (238, 8, 43, 0, 1019), (248, 8, 44, 0, 1020), (257, 8, 45, 0, 1021), (254, 8, 46, 0, 1022), (269, 8, 47, 0, 1023), (272, 8, 48, 0, 1024), (275, 8, 49, 0, 1025), (102, 8, 50, 0, 1026), (303, 8, 51, 0, 1027), (318, 8, 52, 0, 1028)],
  [],
  [],
  [],
  [],
  [],
  []]
def zx_lM : List (List (Nat × Nat × Nat × Nat)) := [[(28, 1, 0, 937), (39, 4, 0, 938), (43, 115, 1, 942), (53, 5, 0, 946)],
  [(23, 42, 0, 222), (30, 43, 0, 798), (34, 49, 0, 799), (38, 9, 0, 804), (42, 47, 0, 808), (46, 10, 0, 809), (76, 52, 0, 813), (79, 11, 0, 814), (85, 53, 0, 818), (82, 12, 0, 819), (50, 56, 0, 823), (54, 212, 0, 824)],
  [(40, 42, 0, 247), (43, 213, 0, 761), (49, 43, 0, 762), (53, 49, 0, 763), (57, 15, 0, 767), (61, 16, 0, 771), (65, 47, 0, 775), (69, 52, 0, 776), (73, 56, 0, 777), (77, 212, 0, 778), (80, 17, 0, 779), (86, 119, 1, 783)],
  [],
  [(13, 62, 1, 286), (14, 42, 0, 287), (47, 63, 0, 548), (50, 43, 0, 553), (56, 24, 0, 558), (60, 27, 0, 562), (67, 35, 0, 566), (136, 36, 0, 570), (139, 38, 0, 574), (148, 37, 0, 589), (143, 214, 0, 593), (152, 215, 0, 603), (71, 28, 0, 641), (75, 29, 0, 645), (103, 40, 0, 649), (63, 39, 0, 653), (178, 41, 0, 657), (107, 66, 0, 661), (85, 30, 0, 662), (111, 44, 0, 666), (88, 31, 0, 667), (91, 32, 0, 671), (94, 33, 0, 675), (120, 52, 0, 679), (123, 56, 0, 702), (97, 34, 0, 726), (132, 46, 0, 732)],
  [(70, 213, 0, 529), (85, 54, 0, 683), (99, 47, 0, 687), (105, 48, 0, 691), (89, 55, 0, 692), (92, 53, 0, 696), (96, 65, 0, 700), (108, 51, 0, 701), (114, 57, 0, 706), (124, 59, 0, 710), (127, 118, 1, 714), (79, 212, 0, 715), (117, 60, 0, 718), (120, 58, 0, 722)],
  [],
  [(19, 62, 1, 111), (20, 42, 0, 154), (39, 6, 0, 217), (46, 13, 0, 241), (53, 25, 1, 280), (60, 0, 1, 315), (77, 18, 1, 337), (78, 114, 0, 394), (82, 109, 0, 397), (86, 22, 0, 401), (90, 111, 0, 409), (323, 19, 0, 413), (93, 20, 0, 417), (96, 23, 0, 421), (100, 112, 0, 429), (104, 21, 0, 433), (118, 65, 0, 448), (124, 115, 0, 460), (130, 117, 0, 463), (133, 118, 0, 468), (136, 48, 0, 471), (140, 51, 0, 475), (149, 66, 0, 485), (156, 44, 0, 493), (159, 64, 0, 501), (162, 110, 0, 505), (183, 45, 0, 521), (186, 46, 0, 525), (189, 26, 0, 544), (199, 63, 0, 733), (202, 43, 0, 734), (208, 52, 0, 748), (211, 14, 0, 757), (236, 116, 0, 791), (239, 7, 0, 794), (242, 8, 0, 800), (253, 119, 0, 829), (257, 50, 0, 838), (261, 9, 0, 842), (264, 56, 0, 847), (267, 113, 0, 856), (270, 121, 0, 860), (332, 24, 0, 864), (274, 49, 0, 869), (283, 122, 0, 878), (287, 123, 0, 885), (335, 47, 0, 889), (290, 86, 0, 902), (293, 211, 0, 903), (298, 61, 0, 909), (301, 120, 0, 914), (313, 1, 0, 929), (316, 2, 0, 933), (320, 3, 0, 954)],
  [(111, 127, 0, 1140), (115, 125, 0, 1144), (119, 128, 0, 1164), (122, 164, 0, 1176), (126, 165, 0, 1180), (133, 140, 0, 1188), (136, 141, 0, 1196), (139, 129, 0, 1204), (142, 126, 0, 1208), (152, 146, 0, 1220), (156, 149, 0, 1224), (145, 147, 0, 1228), (148, 148, 0, 1232), (130, 137, 0, 1248), (213, 161, 0, 1252), (200, 160, 0, 1256), (217, 159, 0, 1260), (183, 154, 0, 1264), (177, 153, 0, 1268), (186, 155, 0, 1272), (190, 157, 0, 1276), (174, 156, 0, 1280), (193, 158, 0, 1284), (180, 167, 0, 1288), (220, 166, 0, 1292), (196, 169, 0, 1296), (223, 168, 0, 1300), (241, 170, 0, 1324), (244, 174, 0, 1328), (226, 173, 0, 1332), (278, 180, 0, 1337), (281, 181, 0, 1341), (263, 178, 0, 1345), (266, 179, 0, 1349), (260, 177, 0, 1353), (251, 176, 0, 1357), (284, 182, 0, 1361), (293, 190, 0, 1389), (290, 139, 0, 1393), (296, 189, 0, 1397), (287, 138, 0, 1401), (300, 198, 0, 1433), (309, 203, 0, 1450), (306, 202, 0, 1454), (312, 204, 0, 1458), (315, 205, 0, 1462)],
  [],
  [],
  [(335, 216, 0, 597), (492, 217, 0, 607), (495, 219, 0, 611), (1059, 220, 0, 619)],
  [(9, 218, 0, 614)],
  [],
  [(9, 67, 0, 99), (13, 68, 0, 390), (20, 69, 0, 405), (25, 70, 0, 425), (30, 71, 0, 440), (35, 72, 0, 444), (40, 73, 0, 452), (45, 74, 0, 456), (49, 75, 0, 481), (54, 76, 0, 489), (58, 77, 0, 497), (62, 78, 0, 509), (66, 79, 0, 513), (70, 80, 0, 532), (74, 81, 0, 536), (78, 82, 0, 540), (82, 83, 0, 736), (87, 84, 0, 740), (91, 85, 0, 744), (95, 86, 0, 749), (99, 87, 0, 753), (103, 88, 0, 787), (107, 89, 0, 825), (111, 90, 0, 830), (115, 91, 0, 834), (119, 92, 0, 843), (123, 93, 0, 848), (127, 94, 0, 852), (131, 95, 0, 865), (135, 96, 0, 870), (139, 97, 0, 874), (143, 98, 0, 881), (147, 99, 0, 890), (151, 100, 0, 894), (155, 101, 0, 898), (159, 102, 0, 917), (163, 103, 0, 921), (167, 104, 0, 925), (171, 105, 0, 950), (175, 106, 0, 958), (179, 107, 0, 962), (183, 108, 0, 966), (12, 124, 0, 972), (17, 130, 0, 1136), (24, 131, 0, 1148), (29, 132, 0, 1152), (34, 133, 0, 1156), (39, 134, 0, 1160), (44, 135, 0, 1168), (48, 136, 0, 1172), (53, 142, 0, 1184), (57, 143, 0, 1192), (61, 144, 0, 1200), (65, 145, 0, 1212), (69, 150, 0, 1216), (73, 151, 0, 1236), (77, 152, 0, 1240), (81, 162, 0, 1244), (86, 163, 0, 1304), (90, 171, 0, 1308), (94, 172, 0, 1312), (98, 173, 0, 1316), (102, 175, 0, 1320), (106, 183, 0, 1333), (110, 184, 0, 1365), (114, 185, 0, 1369), (118, 186, 0, 1373), (122, 187, 0, 1377), (126, 188, 0, 1381), (130, 191, 0, 1385), (134, 192, 0, 1405), (138, 193, 0, 1409), (142, 194, 0, 1413), (146, 195, 0, 1417), (150, 196, 0, 1421), (154, 197, 0, 1425), (158, 199, 0, 1429), (162, 200, 0, 1438), (166, 201, 0, 1442), (170, 206, 0, 1446), (174, 207, 0, 1466), (178, 208, 0, 1470), (182, 209, 0, 1474), (186, 210, 0, 1478)]]
def zx_lC : List (List (Nat × Nat × Nat)) := [[],
  [(21, 5, 221)],
  [(11, 5, 245)],
  [],
  [(9, 5, 284), (11, 6, 285)],
  [],
  [],
  [(9, 3, 105), (15, 5, 107), (17, 6, 109), (37, 1, 215), (44, 2, 239), (51, 4, 278), (58, 0, 313)],
  [],
  [],
  [],
  [],
  [],
  [],
  [(7, 7, 97), (10, 8, 970)]]
def zx_lI : List (List (Nat × Int32 × Nat)) := [[],
  [],
  [],
  [],
  [],
  [(131, (1103515245 : Int32), 913)],
  [],
  [],
  [(299, (1103515245 : Int32), 1437)],
  [(265, (1431655765 : Int32), 906), (266, (858993459 : Int32), 907), (267, (252645135 : Int32), 908)],
  [],
  [],
  [],
  [],
  []]
def zx_lL : List (List (Nat × Int64 × Nat)) := [[],
  [],
  [],
  [],
  [],
  [],
  [],
  [],
  [],
  [],
  [],
  [],
  [],
  [],
  [(18, (4294967295 : Int64), 1482)]]
def zx_lS : List (List (Nat × Nat)) := [[],
  [],
  [],
  [],
  [(156, 0), (158, 1), (160, 2), (162, 3), (164, 4), (165, 5), (166, 6), (168, 7), (170, 8), (172, 9), (174, 10), (176, 11)],
  [],
  [],
  [],
  [],
  [],
  [],
  [],
  [],
  [],
  []]
def zx_lG : List (List (Nat × Nat × Nat × Nat)) := [[(47, 4, 0, 943), (50, 0, 1, 945)],
  [],
  [],
  [],
  [(126, 2, 1, 730), (129, 3, 1, 731)],
  [(82, 1, 1, 479)],
  [],
  [(329, 0, 0, 466), (177, 2, 0, 517), (180, 3, 0, 519)],
  [],
  [],
  [],
  [(38, 5, 0, 601), (1053, 6, 0, 617)],
  [],
  [],
  []]
def zx_lA : List (List (Nat × Nat)) := [[],
  [],
  [(93, 786)],
  [],
  [],
  [(53, 557)],
  [(31, 552)],
  [(112, 437)],
  [],
  [],
  [],
  [],
  [],
  [],
  []]
def zx_lO : List (List (Nat × Nat)) := [[(3, 318)],
  [(3, 220)],
  [(3, 244)],
  [(3, 340)],
  [(3, 283)],
  [(3, 157)],
  [(3, 114)],
  [(1, 102)],
  [(1, 975)],
  [],
  [],
  [],
  [],
  [],
  []]
def zx_lK : List (List (Nat × Nat × Nat)) := [[],
  [],
  [],
  [],
  [],
  [],
  [],
  [],
  [],
  [],
  [],
  [(9, 0, 1483), (15, 1, 1484)],
  [],
  [],
  []]
def zx_st : List (String × Nat × Nat) := [("up", 156, 577), ("down", 158, 578), ("stile", 160, 579), ("person", 162, 580), ("tired", 164, 581), ("bag", 165, 582), ("act", 166, 583), ("legs", 168, 584), ("nap", 170, 585), ("worn", 172, 586), ("biscuits", 174, 587), ("races", 176, 588)]
def zx_sa : List (List Int32) := [[-1, 0, 0, 1, 0, 2, 4], [0, -1, 1, -2, 2, 0, 2], [1, 1, 1, 0, 0], [9, 9, 99, 9, 9], [10, 11, 12, 20, 0, 0, 0, 30, 0, 0, 40, 0, 51, 0, 50, 0, 0, 60, 70, 71, 0]]
def zx_sl : List Nat := [2, 4, 5, 6, 5, 3, 3, 4, 3, 4, 8, 5]
def zx_sb : List (List Int32) := [[117, 112], [100, 111, 119, 110], [115, 116, 105, 108, 101], [112, 101, 114, 115, 111, 110], [116, 105, 114, 101, 100], [98, 97, 103], [97, 99, 116], [108, 101, 103, 115], [110, 97, 112], [119, 111, 114, 110], [98, 105, 115, 99, 117, 105, 116, 115], [114, 97, 99, 101, 115]]
def zx_sn : List (String × String × String) := [("CarriedAsFarAsTheStile", "KIND_ABOVE", "[I"), ("CarriedAsFarAsTheStile", "LOAD_MORE", "[I"), ("CarriedAsFarAsTheStile", "ASKED_LOWEST", "[I"), ("CarriedAsFarAsTheStile", "ASKED_HIGHEST", "[I"), ("CarriedAsFarAsTheStile$Moves", "BODIES", "[I"), ("java/lang/String", "COMPACT_STRINGS", "Z"), ("jdk/internal/util/Preconditions", "SIOOBE_FORMATTER", "Ljava/util/function/BiFunction;")]
def zx_pI : List (Nat × Nat) := [(314, 87), (216, 84), (240, 85), (336, 88), (279, 86), (108, 82), (110, 83), (98, 81), (971, 89)]
end
section
/-! part 03: a small machine over numbers of cells: values, cells, states, one step (zx_stp), runs (zx_ex) -/
abbrev zx_V : Type := Int32 ⊕ Int64 ⊕ (Nat × Nat)
abbrev zx_A : Type := List Int32 ⊕ List Int64 ⊕ List (Option Nat)
abbrev zx_C : Type := (Nat × List zx_V) ⊕ (Nat × zx_A)
def zx_an1 : zx_A → Nat
  | .inl f => f.length
  | .inr (.inl f) => f.length
  | .inr (.inr f) => f.length
abbrev zx_S : Type := Nat × List (Option zx_V) × List zx_V × List zx_C × Nat × Nat
abbrev zx_R : Type := Option zx_V × List zx_C × Nat × Nat
abbrev zx_Sc : Type := Option (Nat × (Nat → Int32))
abbrev zx_T : Type := Option (zx_S ⊕ zx_R)
def zx_m0 : zx_MT := (0, yX0_init, cX0_init, 1, none, 0, 2)
def zx_m (k : Nat) : zx_MT := (zx_ml[k]?).getD zx_m0
abbrev zx_mo (t : zx_MT) : Nat := t.1
abbrev zx_my (t : zx_MT) : MethodName := t.2.1
abbrev zx_mb (t : zx_MT) : ByteArray := t.2.2.1
abbrev zx_mn (t : zx_MT) : Nat := t.2.2.2.1
abbrev zx_mr (t : zx_MT) : Option FieldType := t.2.2.2.2.1
abbrev zx_mp (t : zx_MT) : Nat := t.2.2.2.2.2.1
abbrev zx_mk (t : zx_MT) : Nat := t.2.2.2.2.2.2
def zx_lk {α : Type} (l : List (List (Nat × α))) (o i : Nat) : Option α := match l[o]? with
  | some r => r.lookup i
  | none => none
-- what a value is: 0 int, 1 long, 2 a reference
def zx_kd : zx_V → Nat
  | .inl _ => 0
  | .inr (.inl _) => 1
  | .inr (.inr _) => 2
def zx_c1 : zx_V → Bool
  | .inr (.inl _) => false
  | _ => true
def zx_cs : List zx_V → Nat
  | [] => 0
  | v :: r => (if zx_c1 v then 1 else 2) + zx_cs r
def zx_vl (n : Nat) : zx_V → Bool
  | .inr (.inr (1, i)) => decide (i < n)
  | _ => true
def zx_vo (n : Nat) : Option zx_V → Bool
  | some v => zx_vl n v
  | none => true
def zx_vc (n : Nat) : zx_C → Bool
  | .inl (_, fs) => fs.all (zx_vl n)
  | .inr (_, .inr (.inr f)) => f.all (fun j => match j with | some i => decide (i < n) | none => true)
  | _ => true
def zx_rf : Option Nat → zx_V
  | none => .inr (.inr (0, 0))
  | some i => .inr (.inr (1, i))
def zx_N (pc : Nat) (L : List (Option zx_V)) (S : List zx_V) (h : List zx_C) (nc ns : Nat) : zx_T := some (.inl (pc, L, S, h, nc, ns))
def zx_J (pc : Nat) (off : Int) (L : List (Option zx_V)) (S : List zx_V) (h : List zx_C) (nc ns : Nat) : zx_T := if 0 ≤ (pc : Int) + off then zx_N ((pc : Int) + off).toNat L S h nc ns else none
def zx_cl1 (L : List (Option zx_V)) : Nat → List (Option zx_V)
  | 0 => L
  | i + 1 => match L[i]? with
    | some (some (.inr (.inl _))) => L.set i none
    | _ => L
def zx_ld (ty i n pc : Nat) (L : List (Option zx_V)) (S : List zx_V) (h : List zx_C) (nc ns : Nat) : zx_T := match L[i]? with
  | some (some v) => if zx_kd v = ty then zx_N (pc + n) L (v :: S) h nc ns else none
  | _ => none
def zx_sto (ty i n pc : Nat) (L : List (Option zx_V)) (S : List zx_V) (h : List zx_C) (nc ns : Nat) : zx_T := match S with
  | v :: r => if zx_kd v = ty ∧ zx_c1 v = true ∧ i < L.length then zx_N (pc + n) ((zx_cl1 L i).set i (some v)) r h nc ns else none
  | _ => none
def zx_stl (i n pc : Nat) (L : List (Option zx_V)) (S : List zx_V) (h : List zx_C) (nc ns : Nat) : zx_T := match S with
  | .inr (.inl x) :: r => if i + 1 < L.length then zx_N (pc + n) (((zx_cl1 L i).set i (some (.inr (.inl x)))).set (i + 1) none) r h nc ns else none
  | _ => none
def zx_iinc (i : Nat) (z : Int) (pc : Nat) (L : List (Option zx_V)) (S : List zx_V) (h : List zx_C) (nc ns : Nat) : zx_T := match L[i]? with
  | some (some (.inl x)) => zx_N (pc + 3) ((zx_cl1 L i).set i (some (.inl (x + Int32.ofInt z)))) S h nc ns
  | _ => none
def zx_b2 : Instr → Int32 → Int32 → Option Int32
  | .iadd, x, y => some (x + y)
  | .isub, x, y => some (x - y)
  | .imul, x, y => some (x * y)
  | .iand, x, y => some (x &&& y)
  | .ior, x, y => some (x ||| y)
  | .ixor, x, y => some (x ^^^ y)
  | .ishl, x, y => some (x <<< (y &&& 31))
  | .ishr, x, y => some (x >>> (y &&& 31))
  | .iushr, x, y => some (x.toUInt32 >>> (y.toUInt32 &&& Int32.toUInt32 31)).toInt32
  | .idiv, x, y => if y = 0 then none else some (x / y)
  | .irem, x, y => if y = 0 then none else some (x - x / y * y)
  | _, _, _ => none
def zx_bin (ins : Instr) (pc : Nat) (L : List (Option zx_V)) (S : List zx_V) (h : List zx_C) (nc ns : Nat) : zx_T := match S with
  | .inl y :: .inl x :: r => match zx_b2 ins x y with
    | some z => zx_N (pc + 1) L (.inl z :: r) h nc ns
    | none => none
  | _ => none
def zx_b1 : Instr → Int32 → Option Int32
  | .ineg, x => some (-x)
  | .i2b, x => some x.toInt8.toInt32
  | .i2s, x => some x.toInt16.toInt32
  | .i2c, x => some (x.toUInt32 % 65536).toInt32
  | _, _ => none
def zx_un (ins : Instr) (pc : Nat) (L : List (Option zx_V)) (S : List zx_V) (h : List zx_C) (nc ns : Nat) : zx_T := match S with
  | .inl x :: r => match zx_b1 ins x with
    | some z => zx_N (pc + 1) L (.inl z :: r) h nc ns
    | none => none
  | _ => none
def zx_lng (ins : Instr) (pc : Nat) (L : List (Option zx_V)) (S : List zx_V) (h : List zx_C) (nc ns : Nat) : zx_T := match ins, S with
  | .i2l, .inl x :: r => zx_N (pc + 1) L (.inr (.inl x.toInt64) :: r) h nc ns
  | .l2i, .inr (.inl x) :: r => zx_N (pc + 1) L (.inl x.toInt32 :: r) h nc ns
  | .land, .inr (.inl y) :: .inr (.inl x) :: r => zx_N (pc + 1) L (.inr (.inl (x &&& y)) :: r) h nc ns
  | .lor, .inr (.inl y) :: .inr (.inl x) :: r => zx_N (pc + 1) L (.inr (.inl (x ||| y)) :: r) h nc ns
  | .lshl, .inl y :: .inr (.inl x) :: r => zx_N (pc + 1) L (.inr (.inl (x <<< (y.toInt64 &&& 63))) :: r) h nc ns
  | _, _ => none
def zx_stk (ins : Instr) (pc : Nat) (L : List (Option zx_V)) (S : List zx_V) (h : List zx_C) (nc ns : Nat) : zx_T := match ins, S with
  | .dup, a :: r => if zx_c1 a = true then zx_N (pc + 1) L (a :: a :: r) h nc ns else none
  | .pop, a :: r => if zx_c1 a = true then zx_N (pc + 1) L r h nc ns else none
  | .dup_x1, a :: b :: r => if zx_c1 a = true ∧ zx_c1 b = true then zx_N (pc + 1) L (a :: b :: a :: r) h nc ns else none
  | .dup2, a :: b :: r => if zx_c1 a = true ∧ zx_c1 b = true then zx_N (pc + 1) L (a :: b :: a :: b :: r) h nc ns else none
  | .pop2, a :: r => if zx_c1 a = true then none else zx_N (pc + 1) L r h nc ns
  | _, _ => none
def zx_cb : ClassFile.Cond → Int32 → Int32 → Bool
  | .eq, x, y => decide (x = y)
  | .ne, x, y => decide (¬ x = y)
  | .lt, x, y => decide (x < y)
  | .ge, x, y => decide (y ≤ x)
  | .gt, x, y => decide (y < x)
  | .le, x, y => decide (x ≤ y)
def zx_br (t : Bool) (off : Int) (pc : Nat) (L : List (Option zx_V)) (S : List zx_V) (h : List zx_C) (nc ns : Nat) : zx_T := if 0 ≤ (pc : Int) + off then (if t = true then zx_N ((pc : Int) + off).toNat L S h nc ns else zx_N (pc + 3) L S h nc ns) else none
def zx_if1 (c : ClassFile.Cond) (off : Int) (pc : Nat) (L : List (Option zx_V)) (S : List zx_V) (h : List zx_C) (nc ns : Nat) : zx_T := match S with
  | .inl x :: r => zx_br (zx_cb c x 0) off pc L r h nc ns
  | _ => none
def zx_if2 (c : ClassFile.Cond) (off : Int) (pc : Nat) (L : List (Option zx_V)) (S : List zx_V) (h : List zx_C) (nc ns : Nat) : zx_T := match S with
  | .inl y :: .inl x :: r => zx_br (zx_cb c x y) off pc L r h nc ns
  | _ => none
def zx_tsw (dflt lo hi : Int) (offs : Array Int) (pc : Nat) (L : List (Option zx_V)) (S : List zx_V) (h : List zx_C) (nc ns : Nat) : zx_T := match S with
  | .inl x :: r => if x.toInt < lo ∨ hi < x.toInt then zx_J pc dflt L r h nc ns else match offs[(x.toInt - lo).toNat]? with
    | some off => zx_J pc off L r h nc ns
    | none => none
  | _ => none
def zx_lsw (dflt : Int) (ps : Array (Int × Int)) (pc : Nat) (L : List (Option zx_V)) (S : List zx_V) (h : List zx_C) (nc ns : Nat) : zx_T := match S with
  | .inl x :: r => if (ps.toList.zip (ps.toList.drop 1)).all (fun (a, next) => a.1 < next.1) = true then zx_J pc (Op.lookupswitch.offset ps.toList dflt x.toInt) L r h nc ns else none
  | _ => none
-- fields
def zx_T8 : Nat → u_T
  | 0 => TX0 | 1 => TX1 | 2 => TX2 | 3 => TX3 | 4 => TX4 | 5 => TX5 | 6 => TX6 | 7 => TX7 | _ => TX8
def zx_ft : Nat → Nat → FieldType
  | 0 => tyX0 | 1 => tyX1 | 2 => tyX2 | 3 => tyX3 | 4 => tyX4 | 5 => tyX5 | 6 => tyX6 | 7 => tyX7 | _ => tyX8
def zx_fn : Nat → Nat
  | 0 => 5 | 1 => 4 | 2 => 8 | 3 => 3 | 4 => 7 | 5 => 13 | 6 => 6 | 7 => 11 | _ => 53
def zx_R9 : Nat → String
  | 0 => RX0 | 1 => RX1 | 2 => RX2 | 3 => RX3 | 4 => RX4 | 5 => RX5 | 6 => RX6 | 7 => RX7 | _ => RX8
def zx_fit : FieldType → zx_V → Bool
  | .int, .inl _ => true
  | .boolean, .inl x => decide (x = 0 ∨ x = 1)
  | .array _, .inr (.inr (1, _)) => true
  | .object _, .inr (.inr (1, _)) => true
  | _, _ => false
def zx_df : FieldType → zx_V
  | .int => .inl 0
  | .boolean => .inl 0
  | .long => .inr (.inl 0)
  | _ => .inr (.inr (0, 0))
def zx_gf (o ix pc : Nat) (L : List (Option zx_V)) (S : List zx_V) (h : List zx_C) (nc ns : Nat) : zx_T := match S with
  | .inr (.inr (1, a)) :: r => match zx_lk zx_lF o ix, h[a]? with
    | some (ci, k, _), some (.inl (ci', fs)) => if ci' = ci then (match fs[k]? with
      | some v => zx_N (pc + 3) L (v :: r) h nc ns
      | none => none) else none
    | _, _ => none
  | .inr (.inr (2, a)) :: r => if a < 12 then (match zx_lk zx_lK o ix with
    | some (0, _) => zx_N (pc + 3) L (.inr (.inr (3, a)) :: r) h nc ns
    | some (1, _) => zx_N (pc + 3) L (.inl 0 :: r) h nc ns
    | _ => none) else none
  | _ => none
def zx_pf (o kd ix pc : Nat) (L : List (Option zx_V)) (S : List zx_V) (h : List zx_C) (nc ns : Nat) : zx_T := match S with
  | v :: .inr (.inr (1, a)) :: r => match zx_lk zx_lF o ix, h[a]? with
    | some (ci, k, nest, _), some (.inl (ci', fs)) => if ci' = ci ∧ k < fs.length ∧ zx_fit (zx_ft ci k) v = true ∧ ((zx_T8 ci k).2.2.2 = false ∨ (nest = 0 ∧ kd = 2 ∧ ci = o)) then zx_N (pc + 3) L r (h.set a (.inl (ci, fs.set k v))) nc ns else none
    | _, _ => none
  | _ => none
-- statics
def zx_gs (o ix pc : Nat) (L : List (Option zx_V)) (S : List zx_V) (h : List zx_C) (nc ns : Nat) : zx_T := match zx_lk zx_lG o ix with
  | some (g, _) => if g < 5 then zx_N (pc + 3) L (.inr (.inr (4, g)) :: S) h nc ns else if g = 5 then zx_N (pc + 3) L (.inl 1 :: S) h nc ns else if g = 6 then zx_N (pc + 3) L (.inr (.inr (6, 0)) :: S) h nc ns else none
  | none => none
-- rows
def zx_al (sc : zx_Sc) (pc : Nat) (L : List (Option zx_V)) (S : List zx_V) (h : List zx_C) (nc ns : Nat) : zx_T := match S with
  | .inr (.inr (1, a)) :: r => match h[a]? with
    | some (.inr (t0, z)) => if t0 < 4 then zx_N (pc + 1) L (.inl (Int32.ofNat (zx_an1 z)) :: r) h nc ns else none
    | _ => none
  | .inr (.inr (3, a)) :: r => if a < 12 then zx_N (pc + 1) L (.inl (Int32.ofNat (zx_sl.getD a 0)) :: r) h nc ns else none
  | .inr (.inr (5, 0)) :: r => match sc with
    | some q => zx_N (pc + 1) L (.inl (Int32.ofNat q.1) :: r) h nc ns
    | none => none
  | _ => none
def zx_ial (sc : zx_Sc) (pc : Nat) (L : List (Option zx_V)) (S : List zx_V) (h : List zx_C) (nc ns : Nat) : zx_T := match S with
  | .inl i :: .inr (.inr (1, a)) :: r => match h[a]? with
    | some (.inr (0, .inl f)) => if ¬ i < 0 ∧ i.toNatClampNeg < f.length then zx_N (pc + 1) L (.inl (f.getD i.toNatClampNeg 0) :: r) h nc ns else none
    | _ => none
  | .inl i :: .inr (.inr (4, a)) :: r => if a < 5 ∧ ¬ i < 0 ∧ i.toNatClampNeg < (zx_sa.getD a []).length then zx_N (pc + 1) L (.inl ((zx_sa.getD a []).getD i.toNatClampNeg 0) :: r) h nc ns else none
  | .inl i :: .inr (.inr (5, 0)) :: r => match sc with
    | some q => if ¬ i < 0 ∧ i.toNatClampNeg < q.1 then zx_N (pc + 1) L (.inl (q.2 i.toNatClampNeg) :: r) h nc ns else none
    | none => none
  | _ => none
def zx_ias (pc : Nat) (L : List (Option zx_V)) (S : List zx_V) (h : List zx_C) (nc ns : Nat) : zx_T := match S with
  | .inl x :: .inl i :: .inr (.inr (1, a)) :: r => match h[a]? with
    | some (.inr (0, .inl f)) => if ¬ i < 0 ∧ i.toNatClampNeg < f.length then zx_N (pc + 1) L r (h.set a (.inr (0, .inl (f.set i.toNatClampNeg x)))) nc ns else none
    | _ => none
  | _ => none
def zx_lal (pc : Nat) (L : List (Option zx_V)) (S : List zx_V) (h : List zx_C) (nc ns : Nat) : zx_T := match S with
  | .inl i :: .inr (.inr (1, a)) :: r => match h[a]? with
    | some (.inr (1, .inr (.inl f))) => if ¬ i < 0 ∧ i.toNatClampNeg < f.length then zx_N (pc + 1) L (.inr (.inl (f.getD i.toNatClampNeg 0)) :: r) h nc ns else none
    | _ => none
  | _ => none
def zx_las (pc : Nat) (L : List (Option zx_V)) (S : List zx_V) (h : List zx_C) (nc ns : Nat) : zx_T := match S with
  | .inr (.inl x) :: .inl i :: .inr (.inr (1, a)) :: r => match h[a]? with
    | some (.inr (1, .inr (.inl f))) => if ¬ i < 0 ∧ i.toNatClampNeg < f.length then zx_N (pc + 1) L r (h.set a (.inr (1, .inr (.inl (f.set i.toNatClampNeg x))))) nc ns else none
    | _ => none
  | _ => none
def zx_bal (pc : Nat) (L : List (Option zx_V)) (S : List zx_V) (h : List zx_C) (nc ns : Nat) : zx_T := match S with
  | .inl i :: .inr (.inr (3, a)) :: r => if a < 12 ∧ ¬ i < 0 ∧ i.toNatClampNeg < zx_sl.getD a 0 then zx_N (pc + 1) L (.inl ((zx_sb.getD a []).getD i.toNatClampNeg 0) :: r) h nc ns else none
  | _ => none
def zx_aal (pc : Nat) (L : List (Option zx_V)) (S : List zx_V) (h : List zx_C) (nc ns : Nat) : zx_T := match S with
  | .inl i :: .inr (.inr (1, a)) :: r => match h[a]? with
    | some (.inr (t0, .inr (.inr f))) => if (t0 = 2 ∨ t0 = 3) ∧ ¬ i < 0 ∧ i.toNatClampNeg < f.length then zx_N (pc + 1) L (zx_rf ((f[i.toNatClampNeg]?).getD none) :: r) h nc ns else none
    | _ => none
  | _ => none
def zx_aas (pc : Nat) (L : List (Option zx_V)) (S : List zx_V) (h : List zx_C) (nc ns : Nat) : zx_T := match S with
  | .inr (.inr (1, v)) :: .inl i :: .inr (.inr (1, a)) :: r => match h[a]?, h[v]? with
    | some (.inr (t0, .inr (.inr f))), some (.inl (ci, _)) => if ((t0 = 2 ∧ ci = 3) ∨ (t0 = 3 ∧ ci = 5)) ∧ ¬ i < 0 ∧ i.toNatClampNeg < f.length then zx_N (pc + 1) L r (h.set a (.inr (t0, .inr (.inr (f.set i.toNatClampNeg (some v)))))) nc ns else none
    | _, _ => none
  | _ => none
-- makings
def zx_ok (L : List (Option zx_V)) (S : List zx_V) (h : List zx_C) : Bool := L.all (zx_vo h.length) && (S.all (zx_vl h.length) && h.all (zx_vc h.length))
def zx_new (o ix pc : Nat) (L : List (Option zx_V)) (S : List zx_V) (h : List zx_C) (nc ns : Nat) : zx_T := match zx_lk zx_lC o ix with
  | some (ci, _) => if ci < 9 ∧ zx_ok L S h = true then zx_N (pc + 3) L (.inr (.inr (1, h.length)) :: S) (h ++ [.inl (ci, (List.range (zx_fn ci)).map (fun k => zx_df (zx_ft ci k)))]) (nc + 1) (ns + zx_fn ci) else none
  | none => none
def zx_na (ty : ArrayType) (pc : Nat) (L : List (Option zx_V)) (S : List zx_V) (h : List zx_C) (nc ns : Nat) : zx_T := match S with
  | .inl x :: r => if ¬ x < 0 ∧ x.toNatClampNeg ≤ 100000 ∧ zx_ok L r h = true then (match ty with
    | .int => zx_N (pc + 2) L (.inr (.inr (1, h.length)) :: r) (h ++ [.inr (0, .inl (List.replicate x.toNatClampNeg 0))]) (nc + 1) (ns + x.toNatClampNeg)
    | .long => zx_N (pc + 2) L (.inr (.inr (1, h.length)) :: r) (h ++ [.inr (1, .inr (.inl (List.replicate x.toNatClampNeg 0)))]) (nc + 1) (ns + x.toNatClampNeg)
    | _ => none) else none
  | _ => none
def zx_an (o ix pc : Nat) (L : List (Option zx_V)) (S : List zx_V) (h : List zx_C) (nc ns : Nat) : zx_T := match S with
  | .inl x :: r => if ¬ x < 0 ∧ x.toNatClampNeg ≤ 100000 ∧ zx_ok L r h = true then (match zx_lk zx_lC o ix with
    | some (3, _) => zx_N (pc + 3) L (.inr (.inr (1, h.length)) :: r) (h ++ [.inr (2, .inr (.inr (List.replicate x.toNatClampNeg none)))]) (nc + 1) (ns + x.toNatClampNeg)
    | some (5, _) => zx_N (pc + 3) L (.inr (.inr (1, h.length)) :: r) (h ++ [.inr (3, .inr (.inr (List.replicate x.toNatClampNeg none)))]) (nc + 1) (ns + x.toNatClampNeg)
    | _ => none) else none
  | _ => none
-- constants
def zx_lc (o ix n pc : Nat) (L : List (Option zx_V)) (S : List zx_V) (h : List zx_C) (nc ns : Nat) : zx_T := match zx_lk zx_lI o ix with
  | some (v, _) => zx_N (pc + n) L (.inl v :: S) h nc ns
  | none => if n = 2 then (match zx_lk zx_lS o ix with
    | some i => if o = 4 ∧ i < 12 then zx_N (pc + 2) L (.inr (.inr (2, i)) :: S) h nc ns else none
    | none => none) else none
def zx_lc2 (o ix pc : Nat) (L : List (Option zx_V)) (S : List zx_V) (h : List zx_C) (nc ns : Nat) : zx_T := match zx_lk zx_lL o ix with
  | some (v, _) => zx_N (pc + 3) L (.inr (.inl v) :: S) h nc ns
  | none => none
-- calls
def zx_ret (pc : Nat) (L : List (Option zx_V)) (r : List zx_V) (h : List zx_C) (nc ns : Nat) : Option zx_R → zx_T
  | some (v, h', mc, ms) => if h'.length = h.length ∨ zx_ok L r h = true then zx_N (pc + 3) L (v.toList ++ r) h' (nc + mc) (ns + ms) else none
  | none => none
def zx_iv (run : Nat → List zx_V → List zx_C → Option zx_R) (o ix pc : Nat) (L : List (Option zx_V)) (S : List zx_V) (h : List zx_C) (nc ns : Nat) : zx_T := match zx_lk zx_lM o ix with
  | some (k, _) => if zx_mk (zx_m k) = 0 ∧ k < 221 then (match S.drop (zx_mp (zx_m k)) with
    | .inr (.inr (1, a)) :: r => match h[a]? with
      | some (.inl (ci, _)) => if ci = zx_mo (zx_m k) ∧ ci < 9 ∧ zx_cs r ≤ 8 ∧ zx_mp (zx_m k) ≤ S.length then zx_ret pc L r h nc ns (run k (.inr (.inr (1, a)) :: (S.take (zx_mp (zx_m k))).reverse) h) else none
      | _ => none
    | .inr (.inr (2, a)) :: r => if a < 12 ∧ zx_mo (zx_m k) = 11 ∧ zx_cs r ≤ 8 ∧ zx_mp (zx_m k) ≤ S.length then zx_ret pc L r h nc ns (run k (.inr (.inr (2, a)) :: (S.take (zx_mp (zx_m k))).reverse) h) else none
    | _ => none) else none
  | none => none
/-- n of f from sp on, laid over g from dp on -/
def zx_cpy {α : Type} (f g : List α) (sp dp n : Nat) : List α := g.take dp ++ ((f.drop sp).take n ++ g.drop (dp + n))
def zx_ac (pc : Nat) (L : List (Option zx_V)) (S : List zx_V) (h : List zx_C) (nc ns : Nat) : zx_T := match S with
  | .inl n :: .inl dp :: .inr (.inr (1, b)) :: .inl sp :: .inr (.inr (1, a)) :: r => if zx_cs r ≤ 8 ∧ ¬ sp < 0 ∧ ¬ dp < 0 ∧ ¬ n < 0 then (match h[a]?, h[b]? with
    | some (.inr (0, .inl f)), some (.inr (0, .inl g)) => if sp.toNatClampNeg + n.toNatClampNeg ≤ f.length ∧ dp.toNatClampNeg + n.toNatClampNeg ≤ g.length then zx_N (pc + 3) L r (h.set b (.inr (0, .inl (zx_cpy f g sp.toNatClampNeg dp.toNatClampNeg n.toNatClampNeg)))) nc ns else none
    | some (.inr (1, .inr (.inl f))), some (.inr (1, .inr (.inl g))) => if sp.toNatClampNeg + n.toNatClampNeg ≤ f.length ∧ dp.toNatClampNeg + n.toNatClampNeg ≤ g.length then zx_N (pc + 3) L r (h.set b (.inr (1, .inr (.inl (zx_cpy f g sp.toNatClampNeg dp.toNatClampNeg n.toNatClampNeg))))) nc ns else none
    | _, _ => none) else none
  | _ => none
def zx_is (run : Nat → List zx_V → List zx_C → Option zx_R) (o ix pc : Nat) (L : List (Option zx_V)) (S : List zx_V) (h : List zx_C) (nc ns : Nat) : zx_T := match zx_lk zx_lM o ix with
  | some (k, _) => if zx_mk (zx_m k) = 1 ∧ k < 221 ∧ zx_cs (S.drop (zx_mp (zx_m k))) ≤ 8 ∧ zx_mp (zx_m k) ≤ S.length then zx_ret pc L (S.drop (zx_mp (zx_m k))) h nc ns (run k (S.take (zx_mp (zx_m k))).reverse h) else
    (match S with
    | .inl y :: .inl x :: r => if zx_cs r ≤ 8 ∧ k < 221 then (if zx_mk (zx_m k) = 3 then zx_N (pc + 3) L (.inl (if x < y then y else x) :: r) h nc ns else if zx_mk (zx_m k) = 4 then zx_N (pc + 3) L (.inl (if y < x then y else x) :: r) h nc ns else none) else none
    | _ => none)
  | none => match zx_lk zx_lA o ix with
    | some _ => zx_ac pc L S h nc ns
    | none => none
def zx_ii (run : Nat → List zx_V → List zx_C → Option zx_R) (o ix pc : Nat) (L : List (Option zx_V)) (S : List zx_V) (h : List zx_C) (nc ns : Nat) : zx_T := match zx_lk zx_lM o ix with
  | some (k, _) => if zx_mk (zx_m k) = 2 ∧ k < 221 then (match S.drop (zx_mp (zx_m k)) with
    | .inr (.inr (1, a)) :: r => if zx_cs r ≤ 8 ∧ zx_mp (zx_m k) ≤ S.length then zx_ret pc L r h nc ns (run k (.inr (.inr (1, a)) :: (S.take (zx_mp (zx_m k))).reverse) h) else none
    | _ => none) else none
  | none => match zx_lk zx_lO o ix, S with
    | some _, .inr (.inr (1, _)) :: r => if zx_cs r ≤ 8 then zx_N (pc + 3) L r h nc ns else none
    | _, _ => none
def zx_nr : FieldType → Int32 → Bool
  | .int, _ => true
  | .boolean, x => decide (x = 0 ∨ x = 1)
  | .byte, x => decide (x.toInt8.toInt32 = x)
  | .char, x => decide ((x.toUInt32 % 65536).toInt32 = x)
  | _, _ => false
def zx_ir (mr : Option FieldType) (S : List zx_V) (h : List zx_C) (nc ns : Nat) : zx_T := match mr, S with
  | some ty, [.inl v] => if zx_nr ty v = true then some (.inr (some (.inl v), h, nc, ns)) else none
  | _, _ => none
def zx_lr (mr : Option FieldType) (S : List zx_V) (h : List zx_C) (nc ns : Nat) : zx_T := match mr, S with
  | some .long, [.inr (.inl v)] => some (.inr (some (.inr (.inl v)), h, nc, ns))
  | _, _ => none
def zx_ar (mr : Option FieldType) (S : List zx_V) (h : List zx_C) (nc ns : Nat) : zx_T := match mr, S with
  | some (.object _), [.inr (.inr (2, a))] => some (.inr (some (.inr (.inr (2, a))), h, nc, ns))
  | _, _ => none
def zx_vr (mr : Option FieldType) (S : List zx_V) (h : List zx_C) (nc ns : Nat) : zx_T := match mr, S with
  | none, [] => some (.inr (none, h, nc, ns))
  | _, _ => none
def zx_len : Instr → Nat
  | .bipush _ => 2 | .sipush _ => 3 | .ldc _ => 2 | .ldc_w _ => 3 | .ldc2_w _ => 3
  | .iload _ => 2 | .lload _ => 2 | .aload _ => 2 | .istore _ => 2 | .lstore _ => 2 | .astore _ => 2 | .iinc _ _ => 3
  | .ifCond _ _ => 3 | .if_icmp _ _ => 3 | .goto _ => 3 | .getfield _ => 3 | .putfield _ => 3 | .getstatic _ => 3
  | .new _ => 3 | .newarray _ => 2 | .anewarray _ => 3 | .invokevirtual _ => 3 | .invokestatic _ => 3 | .invokespecial _ => 3
  | _ => 1
def zx_lok : Instr → Nat → Bool
  | .tableswitch .., _ => true
  | .lookupswitch .., _ => true
  | i, n => n == zx_len i
def zx_ins (sc : zx_Sc) (run : Nat → List zx_V → List zx_C → Option zx_R) (t : zx_MT) (ins : Instr) (pc : Nat) (L : List (Option zx_V)) (S : List zx_V) (h : List zx_C) (nc ns : Nat) : zx_T := match ins with
  | .iconst n => zx_N (pc + 1) L (.inl (Int32.ofInt n) :: S) h nc ns
  | .bipush n => zx_N (pc + 2) L (.inl (Int8.ofInt n).toInt32 :: S) h nc ns
  | .sipush n => zx_N (pc + 3) L (.inl (Int16.ofInt n).toInt32 :: S) h nc ns
  | .lconst n => zx_N (pc + 1) L (.inr (.inl (Int64.ofNat (n : Nat))) :: S) h nc ns
  | .ldc ix => zx_lc (zx_mo t) ix 2 pc L S h nc ns
  | .ldc_w ix => zx_lc (zx_mo t) ix 3 pc L S h nc ns
  | .ldc2_w ix => zx_lc2 (zx_mo t) ix pc L S h nc ns
  | .iload i => zx_ld 0 i 2 pc L S h nc ns
  | .iload_n i => zx_ld 0 (i : Nat) 1 pc L S h nc ns
  | .lload i => zx_ld 1 i 2 pc L S h nc ns
  | .lload_n i => zx_ld 1 (i : Nat) 1 pc L S h nc ns
  | .aload i => zx_ld 2 i 2 pc L S h nc ns
  | .aload_n i => zx_ld 2 (i : Nat) 1 pc L S h nc ns
  | .istore i => zx_sto 0 i 2 pc L S h nc ns
  | .istore_n i => zx_sto 0 (i : Nat) 1 pc L S h nc ns
  | .astore i => zx_sto 2 i 2 pc L S h nc ns
  | .astore_n i => zx_sto 2 (i : Nat) 1 pc L S h nc ns
  | .lstore i => zx_stl i 2 pc L S h nc ns
  | .lstore_n i => zx_stl (i : Nat) 1 pc L S h nc ns
  | .iinc i z => zx_iinc i z pc L S h nc ns
  | .iadd => zx_bin .iadd pc L S h nc ns
  | .isub => zx_bin .isub pc L S h nc ns
  | .imul => zx_bin .imul pc L S h nc ns
  | .iand => zx_bin .iand pc L S h nc ns
  | .ior => zx_bin .ior pc L S h nc ns
  | .ixor => zx_bin .ixor pc L S h nc ns
  | .ishl => zx_bin .ishl pc L S h nc ns
  | .ishr => zx_bin .ishr pc L S h nc ns
  | .iushr => zx_bin .iushr pc L S h nc ns
  | .idiv => zx_bin .idiv pc L S h nc ns
  | .irem => zx_bin .irem pc L S h nc ns
  | .ineg => zx_un .ineg pc L S h nc ns
  | .i2b => zx_un .i2b pc L S h nc ns
  | .i2s => zx_un .i2s pc L S h nc ns
  | .i2c => zx_un .i2c pc L S h nc ns
  | .i2l => zx_lng .i2l pc L S h nc ns
  | .l2i => zx_lng .l2i pc L S h nc ns
  | .land => zx_lng .land pc L S h nc ns
  | .lor => zx_lng .lor pc L S h nc ns
  | .lshl => zx_lng .lshl pc L S h nc ns
  | .dup => zx_stk .dup pc L S h nc ns
  | .pop => zx_stk .pop pc L S h nc ns
  | .dup_x1 => zx_stk .dup_x1 pc L S h nc ns
  | .dup2 => zx_stk .dup2 pc L S h nc ns
  | .pop2 => zx_stk .pop2 pc L S h nc ns
  | .ifCond c off => zx_if1 c off pc L S h nc ns
  | .if_icmp c off => zx_if2 c off pc L S h nc ns
  | .goto off => zx_J pc off L S h nc ns
  | .tableswitch dflt lo hi offs => zx_tsw dflt lo hi offs pc L S h nc ns
  | .lookupswitch dflt ps => zx_lsw dflt ps pc L S h nc ns
  | .getfield ix => zx_gf (zx_mo t) ix pc L S h nc ns
  | .putfield ix => zx_pf (zx_mo t) (zx_mk t) ix pc L S h nc ns
  | .getstatic ix => zx_gs (zx_mo t) ix pc L S h nc ns
  | .arraylength => zx_al sc pc L S h nc ns
  | .iaload => zx_ial sc pc L S h nc ns
  | .iastore => zx_ias pc L S h nc ns
  | .laload => zx_lal pc L S h nc ns
  | .lastore => zx_las pc L S h nc ns
  | .baload => zx_bal pc L S h nc ns
  | .aaload => zx_aal pc L S h nc ns
  | .aastore => zx_aas pc L S h nc ns
  | .new ix => zx_new (zx_mo t) ix pc L S h nc ns
  | .newarray ty => zx_na ty pc L S h nc ns
  | .anewarray ix => zx_an (zx_mo t) ix pc L S h nc ns
  | .invokevirtual ix => zx_iv run (zx_mo t) ix pc L S h nc ns
  | .invokestatic ix => zx_is run (zx_mo t) ix pc L S h nc ns
  | .invokespecial ix => zx_ii run (zx_mo t) ix pc L S h nc ns
  | .ireturn => zx_ir (zx_mr t) S h nc ns
  | .lreturn => zx_lr (zx_mr t) S h nc ns
  | .areturn => zx_ar (zx_mr t) S h nc ns
  | .return_ => zx_vr (zx_mr t) S h nc ns
  | _ => none
def zx_stp (sc : zx_Sc) (run : Nat → List zx_V → List zx_C → Option zx_R) (t : zx_MT) (st : zx_S) : zx_T := match decode (zx_mb t) st.1 with
  | .ok (ins, len) => if zx_lok ins len = true then zx_ins sc run t ins st.1 st.2.1 st.2.2.1 st.2.2.2.1 st.2.2.2.2.1 st.2.2.2.2.2 else none
  | .error _ => none
def zx_L0 (n : Nat) : List zx_V → List (Option zx_V)
  | [] => List.replicate n none
  | v :: r => if zx_c1 v then some v :: zx_L0 (n - 1) r else some v :: none :: zx_L0 (n - 2) r
/-- n instructions at most, d calls deep at most -/
def zx_ex : Nat → Nat → zx_Sc → zx_MT → zx_S → Option zx_R
  | 0, _, _, _, _ => none
  | n + 1, d, sc, t, st => match zx_stp sc (fun k as h => match d with
      | 0 => none
      | d + 1 => if zx_cs as ≤ zx_mn (zx_m k) then zx_ex n d none (zx_m k) (0, zx_L0 (zx_mn (zx_m k)) as, [], h, 0, 0) else none) t st with
    | some (.inl st') => zx_ex n d sc t st'
    | some (.inr r) => some r
    | none => none
def zx_run (n d k : Nat) (as : List zx_V) (h : List zx_C) : Option zx_R := if zx_cs as ≤ zx_mn (zx_m k) then zx_ex n d none (zx_m k) (0, zx_L0 (zx_mn (zx_m k)) as, [], h, 0, 0) else none
end
section
/-! part 04: what a program decides of the tables: each link's word stands among the statement's words -/
def zx_G : List Cond := lw_tbl.filter goodWord
def zx_isN : Cond → Bool
  | .fieldLinkNest .. => true
  | .methodLinkNest .. => true
  | _ => false
def zx_nw : List Cond := lw_tbl.filter zx_isN
/-- the words' table from every 64th word on: what is looked up is near -/
def zx_d0 : List Cond := lw_tbl
def zx_d1 : List Cond := zx_d0.drop 64
def zx_d2 : List Cond := zx_d1.drop 64
def zx_d3 : List Cond := zx_d2.drop 64
def zx_d4 : List Cond := zx_d3.drop 64
def zx_d5 : List Cond := zx_d4.drop 64
def zx_d6 : List Cond := zx_d5.drop 64
def zx_d7 : List Cond := zx_d6.drop 64
def zx_d8 : List Cond := zx_d7.drop 64
def zx_d9 : List Cond := zx_d8.drop 64
def zx_d10 : List Cond := zx_d9.drop 64
def zx_d11 : List Cond := zx_d10.drop 64
def zx_d12 : List Cond := zx_d11.drop 64
def zx_d13 : List Cond := zx_d12.drop 64
def zx_d14 : List Cond := zx_d13.drop 64
def zx_d15 : List Cond := zx_d14.drop 64
def zx_d16 : List Cond := zx_d15.drop 64
def zx_d17 : List Cond := zx_d16.drop 64
def zx_d18 : List Cond := zx_d17.drop 64
def zx_d19 : List Cond := zx_d18.drop 64
def zx_d20 : List Cond := zx_d19.drop 64
def zx_d21 : List Cond := zx_d20.drop 64
def zx_d22 : List Cond := zx_d21.drop 64
def zx_d23 : List Cond := zx_d22.drop 64
theorem zx_dm0 : ∀ w ∈ zx_d0, w ∈ lw_tbl := fun _ h => h
theorem zx_dm1 : ∀ w ∈ zx_d1, w ∈ lw_tbl := fun _ h => zx_dm0 _ (List.mem_of_mem_drop h)
theorem zx_dm2 : ∀ w ∈ zx_d2, w ∈ lw_tbl := fun _ h => zx_dm1 _ (List.mem_of_mem_drop h)
theorem zx_dm3 : ∀ w ∈ zx_d3, w ∈ lw_tbl := fun _ h => zx_dm2 _ (List.mem_of_mem_drop h)
theorem zx_dm4 : ∀ w ∈ zx_d4, w ∈ lw_tbl := fun _ h => zx_dm3 _ (List.mem_of_mem_drop h)
theorem zx_dm5 : ∀ w ∈ zx_d5, w ∈ lw_tbl := fun _ h => zx_dm4 _ (List.mem_of_mem_drop h)
theorem zx_dm6 : ∀ w ∈ zx_d6, w ∈ lw_tbl := fun _ h => zx_dm5 _ (List.mem_of_mem_drop h)
theorem zx_dm7 : ∀ w ∈ zx_d7, w ∈ lw_tbl := fun _ h => zx_dm6 _ (List.mem_of_mem_drop h)
theorem zx_dm8 : ∀ w ∈ zx_d8, w ∈ lw_tbl := fun _ h => zx_dm7 _ (List.mem_of_mem_drop h)
theorem zx_dm9 : ∀ w ∈ zx_d9, w ∈ lw_tbl := fun _ h => zx_dm8 _ (List.mem_of_mem_drop h)
theorem zx_dm10 : ∀ w ∈ zx_d10, w ∈ lw_tbl := fun _ h => zx_dm9 _ (List.mem_of_mem_drop h)
theorem zx_dm11 : ∀ w ∈ zx_d11, w ∈ lw_tbl := fun _ h => zx_dm10 _ (List.mem_of_mem_drop h)
theorem zx_dm12 : ∀ w ∈ zx_d12, w ∈ lw_tbl := fun _ h => zx_dm11 _ (List.mem_of_mem_drop h)
theorem zx_dm13 : ∀ w ∈ zx_d13, w ∈ lw_tbl := fun _ h => zx_dm12 _ (List.mem_of_mem_drop h)
theorem zx_dm14 : ∀ w ∈ zx_d14, w ∈ lw_tbl := fun _ h => zx_dm13 _ (List.mem_of_mem_drop h)
theorem zx_dm15 : ∀ w ∈ zx_d15, w ∈ lw_tbl := fun _ h => zx_dm14 _ (List.mem_of_mem_drop h)
theorem zx_dm16 : ∀ w ∈ zx_d16, w ∈ lw_tbl := fun _ h => zx_dm15 _ (List.mem_of_mem_drop h)
theorem zx_dm17 : ∀ w ∈ zx_d17, w ∈ lw_tbl := fun _ h => zx_dm16 _ (List.mem_of_mem_drop h)
theorem zx_dm18 : ∀ w ∈ zx_d18, w ∈ lw_tbl := fun _ h => zx_dm17 _ (List.mem_of_mem_drop h)
theorem zx_dm19 : ∀ w ∈ zx_d19, w ∈ lw_tbl := fun _ h => zx_dm18 _ (List.mem_of_mem_drop h)
theorem zx_dm20 : ∀ w ∈ zx_d20, w ∈ lw_tbl := fun _ h => zx_dm19 _ (List.mem_of_mem_drop h)
theorem zx_dm21 : ∀ w ∈ zx_d21, w ∈ lw_tbl := fun _ h => zx_dm20 _ (List.mem_of_mem_drop h)
theorem zx_dm22 : ∀ w ∈ zx_d22, w ∈ lw_tbl := fun _ h => zx_dm21 _ (List.mem_of_mem_drop h)
theorem zx_dm23 : ∀ w ∈ zx_d23, w ∈ lw_tbl := fun _ h => zx_dm22 _ (List.mem_of_mem_drop h)
def zx_dl : List (List Cond) := [zx_d0, zx_d1, zx_d2, zx_d3, zx_d4, zx_d5, zx_d6, zx_d7, zx_d8, zx_d9, zx_d10, zx_d11, zx_d12, zx_d13, zx_d14, zx_d15, zx_d16, zx_d17, zx_d18, zx_d19, zx_d20, zx_d21, zx_d22, zx_d23]
theorem zx_dl_mem : ∀ l ∈ zx_dl, ∀ w ∈ l, w ∈ lw_tbl := List.forall_mem_cons.mpr ⟨zx_dm0, List.forall_mem_cons.mpr ⟨zx_dm1, List.forall_mem_cons.mpr ⟨zx_dm2, List.forall_mem_cons.mpr ⟨zx_dm3, List.forall_mem_cons.mpr ⟨zx_dm4, List.forall_mem_cons.mpr ⟨zx_dm5, List.forall_mem_cons.mpr ⟨zx_dm6, List.forall_mem_cons.mpr ⟨zx_dm7, List.forall_mem_cons.mpr ⟨zx_dm8, List.forall_mem_cons.mpr ⟨zx_dm9, List.forall_mem_cons.mpr ⟨zx_dm10, List.forall_mem_cons.mpr ⟨zx_dm11, List.forall_mem_cons.mpr ⟨zx_dm12, List.forall_mem_cons.mpr ⟨zx_dm13, List.forall_mem_cons.mpr ⟨zx_dm14, List.forall_mem_cons.mpr ⟨zx_dm15, List.forall_mem_cons.mpr ⟨zx_dm16, List.forall_mem_cons.mpr ⟨zx_dm17, List.forall_mem_cons.mpr ⟨zx_dm18, List.forall_mem_cons.mpr ⟨zx_dm19, List.forall_mem_cons.mpr ⟨zx_dm20, List.forall_mem_cons.mpr ⟨zx_dm21, List.forall_mem_cons.mpr ⟨zx_dm22, List.forall_mem_cons.mpr ⟨zx_dm23, fun _ h => (nomatch h)⟩⟩⟩⟩⟩⟩⟩⟩⟩⟩⟩⟩⟩⟩⟩⟩⟩⟩⟩⟩⟩⟩⟩⟩
def zx_at (p : Nat) (w : Cond) : Bool := match zx_dl[p / 64]? with
  | some l => (match l[p % 64]? with
    | some w' => decide (w' = w)
    | none => false)
  | none => false
def zx_inG (p : Nat) (w : Cond) : Bool := zx_at p w && goodWord w
def zx_inN (p : Nat) (w : Cond) : Bool := zx_at p w && zx_isN w
theorem zx_at_mem {p : Nat} {w : Cond} (h : zx_at p w = true) : w ∈ lw_tbl := by
  unfold zx_at at h
  split at h
  · rename_i l hl
    split at h
    · rename_i w' e
      have e2 : w' = w := by simpa using h
      subst e2
      exact zx_dl_mem l (List.mem_of_getElem? hl) _ (List.mem_of_getElem? e)
    · cases h
  · cases h
theorem zx_inG_mem {p : Nat} {w : Cond} (h : zx_inG p w = true) : w ∈ zx_G := by
  unfold zx_inG at h
  rw [Bool.and_eq_true] at h
  exact List.mem_filter.mpr ⟨zx_at_mem h.1, h.2⟩
theorem zx_inN_mem {p : Nat} {w : Cond} (h : zx_inN p w = true) : w ∈ zx_nw := by
  unfold zx_inN at h
  rw [Bool.and_eq_true] at h
  exact List.mem_filter.mpr ⟨zx_at_mem h.1, h.2⟩
def zx_o (o : Nat) : String := (zx_on[o]?).getD ""
def zx_host : String := "CarriedAsFarAsTheStile"
def zx_ckm (t : zx_MT) (q : Nat × Nat × Nat × Nat) : Bool :=
  (zx_inG q.2.1 (.initialized (zx_my t).cls) && (decide (zx_o (zx_mo t) = (zx_my t).cls) && (decide (zx_mo t < 14) && (decide (zx_mn t ≤ 20) && (decide ((zx_my t).cls ≠ "java/lang/invoke/MethodHandle") && (decide ((zx_my t).cls ≠ "java/lang/invoke/VarHandle") && (decide ((parseMethodDescriptor (zx_my t).desc).map (fun d => d.parameters.length) = some (zx_mp t)) &&
  (match zx_mk t with
    | 0 => zx_inG q.2.2.1 (.instanceMethod (zx_my t)) && (zx_inG q.2.2.2 (.selects (zx_my t).cls (zx_my t) (zx_my t)) && plainName (zx_my t).cls)
    | 1 => zx_inG q.2.2.1 (.static (zx_my t)) && plainName (zx_my t).cls
    | 2 => zx_inG q.2.2.1 (.instanceMethod (zx_my t)) && (decide ((zx_my t).name = "<init>") && (decide (zx_mr t = none) && plainName (zx_my t).cls))
    | 3 => zx_inG q.2.2.1 (.static Lib.Math.max.name) && (decide (zx_my t = Lib.Math.max.name) && zx_inG q.2.1 (.initialized "java/lang/Math"))
    | 4 => zx_inG q.2.2.1 (.static Lib.Math.min.name) && (decide (zx_my t = Lib.Math.min.name) && zx_inG q.2.1 (.initialized "java/lang/Math"))
    | _ => false))))))))
theorem zx_cdm {l : List Cond} (hl : ∀ w ∈ l, w ∈ lw_tbl) {p : Nat} {y : MethodName} {b : ByteArray} {n : Nat} {r : Option FieldType} (h : l[p]? = some (Cond.code y b n r)) : Cond.code y b n r ∈ zx_G := List.mem_filter.mpr ⟨hl _ (List.mem_of_getElem? h), rfl⟩
set_option maxRecDepth 20000 in
theorem zx_kw_0 : zx_d4[61]? = some (Cond.code yX0_init cX0_init 1 none) ∧ zx_d14[36]? = some (Cond.code yX0_forget cX0_forget 1 none) ∧ zx_d14[40]? = some (Cond.code yX0_run cX0_run 5 (some FieldType.int)) ∧ zx_d14[61]? = some (Cond.code yX0_kept cX0_kept 2 (some FieldType.int)) ∧ zx_d14[45]? = some (Cond.code yX0_from cX0_from 7 (some FieldType.int)) ∧ zx_d14[53]? = some (Cond.code yX0_runBody cX0_runBody 5 (some FieldType.int)) ∧ zx_d3[27]? = some (Cond.code yX1_init cX1_init 2 none) ∧ zx_d12[29]? = some (Cond.code yX1_begin cX1_begin 2 none) ∧ zx_d12[35]? = some (Cond.code yX1_goOn cX1_goOn 3 none) ∧ zx_d12[39]? = some (Cond.code yX1_step cX1_step 3 (some FieldType.boolean)) ∧ zx_d12[44]? = some (Cond.code yX1_choose cX1_choose 3 (some FieldType.int)) ∧ zx_d12[49]? = some (Cond.code yX1_whoseTurn cX1_whoseTurn 4 (some FieldType.int)) ∧ zx_d12[54]? = some (Cond.code yX1_freshest cX1_freshest 3 (some FieldType.int)) ∧ zx_d3[51]? = some (Cond.code yX2_init cX2_init 3 none) ∧ zx_d11[56]? = some (Cond.code yX2_look cX2_look 3 none) ∧ zx_d12[2]? = some (Cond.code yX2_deeper cX2_deeper 7 none) ∧ zx_d12[6]? = some (Cond.code yX2_isHopeless cX2_isHopeless 4 (some FieldType.boolean)) ∧ zx_d12[14]? = some (Cond.code yX2_offer cX2_offer 6 none) ∧ zx_d5[19]? = some (Cond.code yX3_init cX3_init 1 none) ∧ zx_d6[32]? = some (Cond.code yX3_holdsRow cX3_holdsRow 1 (some FieldType.boolean)) ∧ zx_d6[36]? = some (Cond.code yX3_hasElement cX3_hasElement 2 (some FieldType.boolean)) ∧ zx_d6[52]? = some (Cond.code yX3_hasElements cX3_hasElements 3 (some FieldType.boolean)) ∧ zx_d6[20]? = some (Cond.code yX3_makeRow cX3_makeRow 4 none) ∧ zx_d6[40]? = some (Cond.code yX3_put cX3_put 4 none) ∧ zx_d8[49]? = some (Cond.code yX3_number cX3_number 2 (some FieldType.int)) ∧ zx_d4[26]? = some (Cond.code yX4_init cX4_init 1 none) ∧ zx_d8[35]? = some (Cond.code yX4_read cX4_read 5 none) ∧ zx_d8[53]? = some (Cond.code yX4_readItem cX4_readItem 3 none) ∧ zx_d10[4]? = some (Cond.code yX4_hasRoomFor cX4_hasRoomFor 2 (some FieldType.boolean)) ∧ zx_d10[8]? = some (Cond.code yX4_tellFurlong cX4_tellFurlong 3 none) ∧ zx_d10[25]? = some (Cond.code yX4_tellPerson cX4_tellPerson 3 none) ∧ zx_d10[30]? = some (Cond.code yX4_tellTired cX4_tellTired 3 none) ∧ zx_d10[34]? = some (Cond.code yX4_tellBag cX4_tellBag 2 none) ∧ zx_d10[38]? = some (Cond.code yX4_tellAct cX4_tellAct 2 none) ∧ zx_d11[25]? = some (Cond.code yX4_tellAsked cX4_tellAsked 3 none) ∧ zx_d8[57]? = some (Cond.code yX4_readWord cX4_readWord 4 (some FieldType.int)) ∧ zx_d8[61]? = some (Cond.code yX4_wordBeginning cX4_wordBeginning 4 (some FieldType.int)) ∧ zx_d9[16]? = some (Cond.code yX4_beginsThere cX4_beginsThere 5 (some FieldType.boolean)) ∧ zx_d9[0]? = some (Cond.code yX4_spelling cX4_spelling 1 (some (FieldType.object "java/lang/String"))) ∧ zx_d10[16]? = some (Cond.code yX4_readSign cX4_readSign 2 (some FieldType.boolean)) := ⟨rfl, rfl, rfl, rfl, rfl, rfl, rfl, rfl, rfl, rfl, rfl, rfl, rfl, rfl, rfl, rfl, rfl, rfl, rfl, rfl, rfl, rfl, rfl, rfl, rfl, rfl, rfl, rfl, rfl, rfl, rfl, rfl, rfl, rfl, rfl, rfl, rfl, rfl, rfl, rfl⟩
set_option maxRecDepth 20000 in
theorem zx_kc_0 : ∀ t ∈ zx_ml_0, (Cond.code (zx_my t) (zx_mb t) (zx_mn t) (zx_mr t)) ∈ zx_G := by
  obtain ⟨h0, h1, h2, h3, h4, h5, h6, h7, h8, h9, h10, h11, h12, h13, h14, h15, h16, h17, h18, h19, h20, h21, h22, h23, h24, h25, h26, h27, h28, h29, h30, h31, h32, h33, h34, h35, h36, h37, h38, h39⟩ := zx_kw_0
  exact List.forall_mem_cons.mpr ⟨zx_cdm zx_dm4 h0, List.forall_mem_cons.mpr ⟨zx_cdm zx_dm14 h1, List.forall_mem_cons.mpr ⟨zx_cdm zx_dm14 h2, List.forall_mem_cons.mpr ⟨zx_cdm zx_dm14 h3, List.forall_mem_cons.mpr ⟨zx_cdm zx_dm14 h4, List.forall_mem_cons.mpr ⟨zx_cdm zx_dm14 h5, List.forall_mem_cons.mpr ⟨zx_cdm zx_dm3 h6, List.forall_mem_cons.mpr ⟨zx_cdm zx_dm12 h7, List.forall_mem_cons.mpr ⟨zx_cdm zx_dm12 h8, List.forall_mem_cons.mpr ⟨zx_cdm zx_dm12 h9, List.forall_mem_cons.mpr ⟨zx_cdm zx_dm12 h10, List.forall_mem_cons.mpr ⟨zx_cdm zx_dm12 h11, List.forall_mem_cons.mpr ⟨zx_cdm zx_dm12 h12, List.forall_mem_cons.mpr ⟨zx_cdm zx_dm3 h13, List.forall_mem_cons.mpr ⟨zx_cdm zx_dm11 h14, List.forall_mem_cons.mpr ⟨zx_cdm zx_dm12 h15, List.forall_mem_cons.mpr ⟨zx_cdm zx_dm12 h16, List.forall_mem_cons.mpr ⟨zx_cdm zx_dm12 h17, List.forall_mem_cons.mpr ⟨zx_cdm zx_dm5 h18, List.forall_mem_cons.mpr ⟨zx_cdm zx_dm6 h19, List.forall_mem_cons.mpr ⟨zx_cdm zx_dm6 h20, List.forall_mem_cons.mpr ⟨zx_cdm zx_dm6 h21, List.forall_mem_cons.mpr ⟨zx_cdm zx_dm6 h22, List.forall_mem_cons.mpr ⟨zx_cdm zx_dm6 h23, List.forall_mem_cons.mpr ⟨zx_cdm zx_dm8 h24, List.forall_mem_cons.mpr ⟨zx_cdm zx_dm4 h25, List.forall_mem_cons.mpr ⟨zx_cdm zx_dm8 h26, List.forall_mem_cons.mpr ⟨zx_cdm zx_dm8 h27, List.forall_mem_cons.mpr ⟨zx_cdm zx_dm10 h28, List.forall_mem_cons.mpr ⟨zx_cdm zx_dm10 h29, List.forall_mem_cons.mpr ⟨zx_cdm zx_dm10 h30, List.forall_mem_cons.mpr ⟨zx_cdm zx_dm10 h31, List.forall_mem_cons.mpr ⟨zx_cdm zx_dm10 h32, List.forall_mem_cons.mpr ⟨zx_cdm zx_dm10 h33, List.forall_mem_cons.mpr ⟨zx_cdm zx_dm11 h34, List.forall_mem_cons.mpr ⟨zx_cdm zx_dm8 h35, List.forall_mem_cons.mpr ⟨zx_cdm zx_dm8 h36, List.forall_mem_cons.mpr ⟨zx_cdm zx_dm9 h37, List.forall_mem_cons.mpr ⟨zx_cdm zx_dm9 h38, List.forall_mem_cons.mpr ⟨zx_cdm zx_dm10 h39, fun _ h => (nomatch h)⟩⟩⟩⟩⟩⟩⟩⟩⟩⟩⟩⟩⟩⟩⟩⟩⟩⟩⟩⟩⟩⟩⟩⟩⟩⟩⟩⟩⟩⟩⟩⟩⟩⟩⟩⟩⟩⟩⟩⟩
set_option maxRecDepth 20000 in
theorem zx_kw_1 : zx_d10[12]? = some (Cond.code yX4_readNumber cX4_readNumber 5 (some FieldType.int)) ∧ zx_d10[20]? = some (Cond.code yX4_isDigitNext cX4_isDigitNext 1 (some FieldType.boolean)) ∧ zx_d2[28]? = some (Cond.code yX5_init cX5_init 2 none) ∧ zx_d8[44]? = some (Cond.code yX5_copyFrom cX5_copyFrom 2 none) ∧ zx_d7[48]? = some (Cond.code yX5_addPerson cX5_addPerson 3 (some FieldType.int)) ∧ zx_d8[12]? = some (Cond.code yX5_asked cX5_asked 2 (some FieldType.int)) ∧ zx_d8[16]? = some (Cond.code yX5_become cX5_become 3 none) ∧ zx_d10[50]? = some (Cond.code yX5_atEnd cX5_atEnd 1 (some FieldType.boolean)) ∧ zx_d7[26]? = some (Cond.code yX5_asleep cX5_asleep 1 (some FieldType.boolean)) ∧ zx_d11[62]? = some (Cond.code yX5_greatestTired cX5_greatestTired 3 (some FieldType.int)) ∧ zx_d13[9]? = some (Cond.code yX5_minutesThereAndBack cX5_minutesThereAndBack 1 (some FieldType.int)) ∧ zx_d7[30]? = some (Cond.code yX5_loadOnSlope cX5_loadOnSlope 5 (some FieldType.int)) ∧ zx_d10[42]? = some (Cond.code yX5_mayBe cX5_mayBe 2 (some FieldType.boolean)) ∧ zx_d10[59]? = some (Cond.code yX5_mayCarry cX5_mayCarry 4 (some FieldType.boolean)) ∧ zx_d10[46]? = some (Cond.code yX5_mayWalk cX5_mayWalk 1 (some FieldType.boolean)) ∧ zx_d10[55]? = some (Cond.code yX5_mayRest cX5_mayRest 1 (some FieldType.boolean)) ∧ zx_d11[1]? = some (Cond.code yX5_come cX5_come 2 none) ∧ zx_d11[5]? = some (Cond.code yX5_walk cX5_walk 1 none) ∧ zx_d11[21]? = some (Cond.code yX5_carry cX5_carry 3 none) ∧ zx_d11[9]? = some (Cond.code yX5_restOthers cX5_restOthers 4 none) ∧ zx_d11[17]? = some (Cond.code yX5_restAll cX5_restAll 2 none) ∧ zx_d14[16]? = some (Cond.code yX5_draw cX5_draw 2 (some FieldType.int)) ∧ zx_d1[49]? = some (Cond.code yX6_init cX6_init 1 none) ∧ zx_d8[39]? = some (Cond.code yX6_copyFrom cX6_copyFrom 2 none) ∧ zx_d7[56]? = some (Cond.code yX6_hasFurlong cX6_hasFurlong 2 (some FieldType.boolean)) ∧ zx_d7[3]? = some (Cond.code yX6_hasPerson cX6_hasPerson 2 (some FieldType.boolean)) ∧ zx_d7[40]? = some (Cond.code yX6_addFurlong cX6_addFurlong 3 (some FieldType.int)) ∧ zx_d1[37]? = some (Cond.code yX7_init cX7_init 2 none) ∧ zx_d6[9]? = some (Cond.code yX7_row cX7_row 4 (some FieldType.int)) ∧ zx_d6[24]? = some (Cond.code yX7_set cX7_set 6 (some FieldType.int)) ∧ zx_d6[44]? = some (Cond.code yX7_copy cX7_copy 9 (some FieldType.int)) ∧ zx_d6[59]? = some (Cond.code yX7_element cX7_element 3 (some FieldType.long)) ∧ zx_d6[63]? = some (Cond.code yX7_show cX7_show 3 (some FieldType.int)) ∧ zx_d7[7]? = some (Cond.code yX7_holds cX7_holds 2 (some FieldType.int)) ∧ zx_d7[11]? = some (Cond.code yX7_says cX7_says 4 (some FieldType.int)) ∧ zx_d7[36]? = some (Cond.code yX7_furlong cX7_furlong 3 (some FieldType.int)) ∧ zx_d7[44]? = some (Cond.code yX7_person cX7_person 3 (some FieldType.int)) ∧ zx_d7[52]? = some (Cond.code yX7_furlongOf cX7_furlongOf 3 (some FieldType.int)) ∧ zx_d8[0]? = some (Cond.code yX7_personOf cX7_personOf 3 (some FieldType.int)) ∧ zx_d8[4]? = some (Cond.code yX7_ask cX7_ask 4 (some FieldType.int)) := ⟨rfl, rfl, rfl, rfl, rfl, rfl, rfl, rfl, rfl, rfl, rfl, rfl, rfl, rfl, rfl, rfl, rfl, rfl, rfl, rfl, rfl, rfl, rfl, rfl, rfl, rfl, rfl, rfl, rfl, rfl, rfl, rfl, rfl, rfl, rfl, rfl, rfl, rfl, rfl, rfl⟩
set_option maxRecDepth 20000 in
theorem zx_kc_1 : ∀ t ∈ zx_ml_1, (Cond.code (zx_my t) (zx_mb t) (zx_mn t) (zx_mr t)) ∈ zx_G := by
  obtain ⟨h40, h41, h42, h43, h44, h45, h46, h47, h48, h49, h50, h51, h52, h53, h54, h55, h56, h57, h58, h59, h60, h61, h62, h63, h64, h65, h66, h67, h68, h69, h70, h71, h72, h73, h74, h75, h76, h77, h78, h79⟩ := zx_kw_1
  exact List.forall_mem_cons.mpr ⟨zx_cdm zx_dm10 h40, List.forall_mem_cons.mpr ⟨zx_cdm zx_dm10 h41, List.forall_mem_cons.mpr ⟨zx_cdm zx_dm2 h42, List.forall_mem_cons.mpr ⟨zx_cdm zx_dm8 h43, List.forall_mem_cons.mpr ⟨zx_cdm zx_dm7 h44, List.forall_mem_cons.mpr ⟨zx_cdm zx_dm8 h45, List.forall_mem_cons.mpr ⟨zx_cdm zx_dm8 h46, List.forall_mem_cons.mpr ⟨zx_cdm zx_dm10 h47, List.forall_mem_cons.mpr ⟨zx_cdm zx_dm7 h48, List.forall_mem_cons.mpr ⟨zx_cdm zx_dm11 h49, List.forall_mem_cons.mpr ⟨zx_cdm zx_dm13 h50, List.forall_mem_cons.mpr ⟨zx_cdm zx_dm7 h51, List.forall_mem_cons.mpr ⟨zx_cdm zx_dm10 h52, List.forall_mem_cons.mpr ⟨zx_cdm zx_dm10 h53, List.forall_mem_cons.mpr ⟨zx_cdm zx_dm10 h54, List.forall_mem_cons.mpr ⟨zx_cdm zx_dm10 h55, List.forall_mem_cons.mpr ⟨zx_cdm zx_dm11 h56, List.forall_mem_cons.mpr ⟨zx_cdm zx_dm11 h57, List.forall_mem_cons.mpr ⟨zx_cdm zx_dm11 h58, List.forall_mem_cons.mpr ⟨zx_cdm zx_dm11 h59, List.forall_mem_cons.mpr ⟨zx_cdm zx_dm11 h60, List.forall_mem_cons.mpr ⟨zx_cdm zx_dm14 h61, List.forall_mem_cons.mpr ⟨zx_cdm zx_dm1 h62, List.forall_mem_cons.mpr ⟨zx_cdm zx_dm8 h63, List.forall_mem_cons.mpr ⟨zx_cdm zx_dm7 h64, List.forall_mem_cons.mpr ⟨zx_cdm zx_dm7 h65, List.forall_mem_cons.mpr ⟨zx_cdm zx_dm7 h66, List.forall_mem_cons.mpr ⟨zx_cdm zx_dm1 h67, List.forall_mem_cons.mpr ⟨zx_cdm zx_dm6 h68, List.forall_mem_cons.mpr ⟨zx_cdm zx_dm6 h69, List.forall_mem_cons.mpr ⟨zx_cdm zx_dm6 h70, List.forall_mem_cons.mpr ⟨zx_cdm zx_dm6 h71, List.forall_mem_cons.mpr ⟨zx_cdm zx_dm6 h72, List.forall_mem_cons.mpr ⟨zx_cdm zx_dm7 h73, List.forall_mem_cons.mpr ⟨zx_cdm zx_dm7 h74, List.forall_mem_cons.mpr ⟨zx_cdm zx_dm7 h75, List.forall_mem_cons.mpr ⟨zx_cdm zx_dm7 h76, List.forall_mem_cons.mpr ⟨zx_cdm zx_dm7 h77, List.forall_mem_cons.mpr ⟨zx_cdm zx_dm8 h78, List.forall_mem_cons.mpr ⟨zx_cdm zx_dm8 h79, fun _ h => (nomatch h)⟩⟩⟩⟩⟩⟩⟩⟩⟩⟩⟩⟩⟩⟩⟩⟩⟩⟩⟩⟩⟩⟩⟩⟩⟩⟩⟩⟩⟩⟩⟩⟩⟩⟩⟩⟩⟩⟩⟩⟩
set_option maxRecDepth 20000 in
theorem zx_kw_2 : zx_d8[23]? = some (Cond.code yX7_tire cX7_tire 4 (some FieldType.int)) ∧ zx_d8[27]? = some (Cond.code yX7_bag cX7_bag 3 (some FieldType.int)) ∧ zx_d8[31]? = some (Cond.code yX7_way cX7_way 3 (some FieldType.int)) ∧ zx_d11[35]? = some (Cond.code yX7_fault cX7_fault 1 (some FieldType.int)) ∧ zx_d11[39]? = some (Cond.code yX7_load cX7_load 3 (some FieldType.int)) ∧ zx_d11[43]? = some (Cond.code yX7_may cX7_may 2 (some FieldType.int)) ∧ zx_d11[48]? = some (Cond.code yX7_next cX7_next 3 (some FieldType.int)) ∧ zx_d11[52]? = some (Cond.code yX7_ahead cX7_ahead 3 (some FieldType.int)) ∧ zx_d12[22]? = some (Cond.code yX7_by cX7_by 4 (some FieldType.int)) ∧ zx_d12[60]? = some (Cond.code yX7_best cX7_best 7 (some FieldType.int)) ∧ zx_d13[1]? = some (Cond.code yX7_whose cX7_whose 5 (some FieldType.int)) ∧ zx_d13[5]? = some (Cond.code yX7_turn cX7_turn 5 (some FieldType.int)) ∧ zx_d13[14]? = some (Cond.code yX7_pays cX7_pays 4 (some FieldType.int)) ∧ zx_d13[19]? = some (Cond.code yX7_bagged cX7_bagged 6 (some FieldType.int)) ∧ zx_d13[23]? = some (Cond.code yX7_judge cX7_judge 4 (some FieldType.int)) ∧ zx_d13[36]? = some (Cond.code yX7_behind cX7_behind 5 (some FieldType.int)) ∧ zx_d13[41]? = some (Cond.code yX7_done cX7_done 4 (some FieldType.int)) ∧ zx_d13[45]? = some (Cond.code yX7_fits cX7_fits 5 (some FieldType.int)) ∧ zx_d13[52]? = some (Cond.code yX7_enough cX7_enough 1 (some FieldType.int)) ∧ zx_d13[61]? = some (Cond.code yX7_leastWorn cX7_leastWorn 2 (some FieldType.int)) ∧ zx_d14[1]? = some (Cond.code yX7_does cX7_does 2 (some FieldType.int)) ∧ zx_d14[5]? = some (Cond.code yX7_summer cX7_summer 5 (some FieldType.int)) ∧ zx_d14[24]? = some (Cond.code yX7_day cX7_day 3 (some FieldType.int)) ∧ zx_d14[28]? = some (Cond.code yX7_seed cX7_seed 3 (some FieldType.int)) ∧ zx_d14[32]? = some (Cond.code yX7_act cX7_act 4 (some FieldType.int)) ∧ zx_d14[57]? = some (Cond.code yX7_trace cX7_trace 2 (some FieldType.int)) ∧ zx_d15[1]? = some (Cond.code yX7_image cX7_image 1 (some FieldType.int)) ∧ zx_d15[5]? = some (Cond.code yX7_restore cX7_restore 5 (some FieldType.int)) ∧ zx_d15[9]? = some (Cond.code yX7_status cX7_status 2 (some FieldType.int)) ∧ zx_d6[16]? = some (Cond.code yX7_refuse cX7_refuse 2 (some FieldType.int)) ∧ zx_d7[60]? = some (Cond.code yX7_refuseFar cX7_refuseFar 2 (some FieldType.int)) ∧ zx_d6[28]? = some (Cond.code yX7_whyNoRow cX7_whyNoRow 2 (some FieldType.int)) ∧ zx_d6[48]? = some (Cond.code yX7_whyNoCopy cX7_whyNoCopy 5 (some FieldType.int)) ∧ zx_d13[27]? = some (Cond.code yX7_whyNoWalk cX7_whyNoWalk 4 (some FieldType.int)) ∧ zx_d6[12]? = some (Cond.code yX7_isShelf cX7_isShelf 1 (some FieldType.boolean)) ∧ zx_d7[14]? = some (Cond.code yX7_isKind cX7_isKind 1 (some FieldType.boolean)) ∧ zx_d12[25]? = some (Cond.code yX7_isRule cX7_isRule 1 (some FieldType.boolean)) ∧ zx_d7[17]? = some (Cond.code yX7_isUnder cX7_isUnder 4 (some FieldType.boolean)) ∧ zx_d7[22]? = some (Cond.code yX7_restOfKind cX7_restOfKind 1 (some FieldType.int)) ∧ zx_d12[17]? = some (Cond.code yX7_isBetter cX7_isBetter 4 (some FieldType.boolean)) := ⟨rfl, rfl, rfl, rfl, rfl, rfl, rfl, rfl, rfl, rfl, rfl, rfl, rfl, rfl, rfl, rfl, rfl, rfl, rfl, rfl, rfl, rfl, rfl, rfl, rfl, rfl, rfl, rfl, rfl, rfl, rfl, rfl, rfl, rfl, rfl, rfl, rfl, rfl, rfl, rfl⟩
set_option maxRecDepth 20000 in
theorem zx_kc_2 : ∀ t ∈ zx_ml_2, (Cond.code (zx_my t) (zx_mb t) (zx_mn t) (zx_mr t)) ∈ zx_G := by
  obtain ⟨h80, h81, h82, h83, h84, h85, h86, h87, h88, h89, h90, h91, h92, h93, h94, h95, h96, h97, h98, h99, h100, h101, h102, h103, h104, h105, h106, h107, h108, h109, h110, h111, h112, h113, h114, h115, h116, h117, h118, h119⟩ := zx_kw_2
  exact List.forall_mem_cons.mpr ⟨zx_cdm zx_dm8 h80, List.forall_mem_cons.mpr ⟨zx_cdm zx_dm8 h81, List.forall_mem_cons.mpr ⟨zx_cdm zx_dm8 h82, List.forall_mem_cons.mpr ⟨zx_cdm zx_dm11 h83, List.forall_mem_cons.mpr ⟨zx_cdm zx_dm11 h84, List.forall_mem_cons.mpr ⟨zx_cdm zx_dm11 h85, List.forall_mem_cons.mpr ⟨zx_cdm zx_dm11 h86, List.forall_mem_cons.mpr ⟨zx_cdm zx_dm11 h87, List.forall_mem_cons.mpr ⟨zx_cdm zx_dm12 h88, List.forall_mem_cons.mpr ⟨zx_cdm zx_dm12 h89, List.forall_mem_cons.mpr ⟨zx_cdm zx_dm13 h90, List.forall_mem_cons.mpr ⟨zx_cdm zx_dm13 h91, List.forall_mem_cons.mpr ⟨zx_cdm zx_dm13 h92, List.forall_mem_cons.mpr ⟨zx_cdm zx_dm13 h93, List.forall_mem_cons.mpr ⟨zx_cdm zx_dm13 h94, List.forall_mem_cons.mpr ⟨zx_cdm zx_dm13 h95, List.forall_mem_cons.mpr ⟨zx_cdm zx_dm13 h96, List.forall_mem_cons.mpr ⟨zx_cdm zx_dm13 h97, List.forall_mem_cons.mpr ⟨zx_cdm zx_dm13 h98, List.forall_mem_cons.mpr ⟨zx_cdm zx_dm13 h99, List.forall_mem_cons.mpr ⟨zx_cdm zx_dm14 h100, List.forall_mem_cons.mpr ⟨zx_cdm zx_dm14 h101, List.forall_mem_cons.mpr ⟨zx_cdm zx_dm14 h102, List.forall_mem_cons.mpr ⟨zx_cdm zx_dm14 h103, List.forall_mem_cons.mpr ⟨zx_cdm zx_dm14 h104, List.forall_mem_cons.mpr ⟨zx_cdm zx_dm14 h105, List.forall_mem_cons.mpr ⟨zx_cdm zx_dm15 h106, List.forall_mem_cons.mpr ⟨zx_cdm zx_dm15 h107, List.forall_mem_cons.mpr ⟨zx_cdm zx_dm15 h108, List.forall_mem_cons.mpr ⟨zx_cdm zx_dm6 h109, List.forall_mem_cons.mpr ⟨zx_cdm zx_dm7 h110, List.forall_mem_cons.mpr ⟨zx_cdm zx_dm6 h111, List.forall_mem_cons.mpr ⟨zx_cdm zx_dm6 h112, List.forall_mem_cons.mpr ⟨zx_cdm zx_dm13 h113, List.forall_mem_cons.mpr ⟨zx_cdm zx_dm6 h114, List.forall_mem_cons.mpr ⟨zx_cdm zx_dm7 h115, List.forall_mem_cons.mpr ⟨zx_cdm zx_dm12 h116, List.forall_mem_cons.mpr ⟨zx_cdm zx_dm7 h117, List.forall_mem_cons.mpr ⟨zx_cdm zx_dm7 h118, List.forall_mem_cons.mpr ⟨zx_cdm zx_dm12 h119, fun _ h => (nomatch h)⟩⟩⟩⟩⟩⟩⟩⟩⟩⟩⟩⟩⟩⟩⟩⟩⟩⟩⟩⟩⟩⟩⟩⟩⟩⟩⟩⟩⟩⟩⟩⟩⟩⟩⟩⟩⟩⟩⟩⟩
set_option maxRecDepth 20000 in
theorem zx_kw_3 : zx_d14[20]? = some (Cond.code yX7_nthBit cX7_nthBit 4 (some FieldType.int)) ∧ zx_d13[31]? = some (Cond.code yX7_tryWalk cX7_tryWalk 5 (some FieldType.int)) ∧ zx_d13[48]? = some (Cond.code yX7_areSoTired cX7_areSoTired 3 (some FieldType.boolean)) ∧ zx_d13[56]? = some (Cond.code yX7_leastToTheEnd cX7_leastToTheEnd 4 (some FieldType.int)) ∧ zx_d15[14]? = some (Cond.code yX8_init cX8_init 1 none) ∧ zx_d17[59]? = some (Cond.code yX8_no cX8_no 2 (some FieldType.int)) ∧ zx_d18[59]? = some (Cond.code yX8_noTen cX8_noTen 2 (some FieldType.int)) ∧ zx_d17[55]? = some (Cond.code yX8_isShelf cX8_isShelf 2 (some FieldType.boolean)) ∧ zx_d18[15]? = some (Cond.code yX8_isPerson cX8_isPerson 2 (some FieldType.boolean)) ∧ zx_d18[55]? = some (Cond.code yX8_isFurlong cX8_isFurlong 2 (some FieldType.boolean)) ∧ zx_d17[51]? = some (Cond.code yX8_row cX8_row 5 (some FieldType.int)) ∧ zx_d17[63]? = some (Cond.code yX8_set cX8_set 5 (some FieldType.int)) ∧ zx_d18[3]? = some (Cond.code yX8_copy cX8_copy 7 (some FieldType.int)) ∧ zx_d18[7]? = some (Cond.code yX8_element cX8_element 3 (some FieldType.long)) ∧ zx_d18[11]? = some (Cond.code yX8_show cX8_show 3 (some FieldType.int)) ∧ zx_d18[19]? = some (Cond.code yX8_holds cX8_holds 2 (some FieldType.int)) ∧ zx_d18[23]? = some (Cond.code yX8_says cX8_says 6 (some FieldType.int)) ∧ zx_d19[35]? = some (Cond.code yX8_wanted cX8_wanted 2 (some FieldType.int)) ∧ zx_d21[60]? = some (Cond.code yX8_intAt cX8_intAt 3 (some FieldType.int)) ∧ zx_d21[52]? = some (Cond.code yX8_bars cX8_bars 4 (some FieldType.int)) ∧ zx_d18[39]? = some (Cond.code yX8_addsFurlong cX8_addsFurlong 3 (some FieldType.int)) ∧ zx_d18[47]? = some (Cond.code yX8_addsPerson cX8_addsPerson 3 (some FieldType.int)) ∧ zx_d18[35]? = some (Cond.code yX8_furlong cX8_furlong 3 (some FieldType.int)) ∧ zx_d18[43]? = some (Cond.code yX8_person cX8_person 3 (some FieldType.int)) ∧ zx_d18[51]? = some (Cond.code yX8_furlongOf cX8_furlongOf 3 (some FieldType.int)) ∧ zx_d18[63]? = some (Cond.code yX8_personOf cX8_personOf 3 (some FieldType.int)) ∧ zx_d19[7]? = some (Cond.code yX8_isAsked cX8_isAsked 3 (some FieldType.boolean)) ∧ zx_d19[15]? = some (Cond.code yX8_told cX8_told 2 (some FieldType.int)) ∧ zx_d19[19]? = some (Cond.code yX8_tells cX8_tells 3 none) ∧ zx_d19[11]? = some (Cond.code yX8_asks cX8_asks 4 (some FieldType.int)) ∧ zx_d19[3]? = some (Cond.code yX8_ask cX8_ask 3 (some FieldType.int)) ∧ zx_d19[23]? = some (Cond.code yX8_tire cX8_tire 4 (some FieldType.int)) ∧ zx_d19[27]? = some (Cond.code yX8_bag cX8_bag 3 (some FieldType.int)) ∧ zx_d19[55]? = some (Cond.code yX8_wrong cX8_wrong 2 (some FieldType.boolean)) ∧ zx_d19[51]? = some (Cond.code yX8_stands cX8_stands 4 (some FieldType.boolean)) ∧ zx_d19[59]? = some (Cond.code yX8_word cX8_word 6 (some FieldType.int)) ∧ zx_d20[3]? = some (Cond.code yX8_isDigit cX8_isDigit 1 (some FieldType.boolean)) ∧ zx_d19[63]? = some (Cond.code yX8_reads cX8_reads 2 (some FieldType.boolean)) ∧ zx_d20[7]? = some (Cond.code yX8_isSo cX8_isSo 3 (some FieldType.boolean)) ∧ zx_d19[47]? = some (Cond.code yX8_item cX8_item 4 (some FieldType.boolean)) := ⟨rfl, rfl, rfl, rfl, rfl, rfl, rfl, rfl, rfl, rfl, rfl, rfl, rfl, rfl, rfl, rfl, rfl, rfl, rfl, rfl, rfl, rfl, rfl, rfl, rfl, rfl, rfl, rfl, rfl, rfl, rfl, rfl, rfl, rfl, rfl, rfl, rfl, rfl, rfl, rfl⟩
set_option maxRecDepth 20000 in
theorem zx_kc_3 : ∀ t ∈ zx_ml_3, (Cond.code (zx_my t) (zx_mb t) (zx_mn t) (zx_mr t)) ∈ zx_G := by
  obtain ⟨h120, h121, h122, h123, h124, h125, h126, h127, h128, h129, h130, h131, h132, h133, h134, h135, h136, h137, h138, h139, h140, h141, h142, h143, h144, h145, h146, h147, h148, h149, h150, h151, h152, h153, h154, h155, h156, h157, h158, h159⟩ := zx_kw_3
  exact List.forall_mem_cons.mpr ⟨zx_cdm zx_dm14 h120, List.forall_mem_cons.mpr ⟨zx_cdm zx_dm13 h121, List.forall_mem_cons.mpr ⟨zx_cdm zx_dm13 h122, List.forall_mem_cons.mpr ⟨zx_cdm zx_dm13 h123, List.forall_mem_cons.mpr ⟨zx_cdm zx_dm15 h124, List.forall_mem_cons.mpr ⟨zx_cdm zx_dm17 h125, List.forall_mem_cons.mpr ⟨zx_cdm zx_dm18 h126, List.forall_mem_cons.mpr ⟨zx_cdm zx_dm17 h127, List.forall_mem_cons.mpr ⟨zx_cdm zx_dm18 h128, List.forall_mem_cons.mpr ⟨zx_cdm zx_dm18 h129, List.forall_mem_cons.mpr ⟨zx_cdm zx_dm17 h130, List.forall_mem_cons.mpr ⟨zx_cdm zx_dm17 h131, List.forall_mem_cons.mpr ⟨zx_cdm zx_dm18 h132, List.forall_mem_cons.mpr ⟨zx_cdm zx_dm18 h133, List.forall_mem_cons.mpr ⟨zx_cdm zx_dm18 h134, List.forall_mem_cons.mpr ⟨zx_cdm zx_dm18 h135, List.forall_mem_cons.mpr ⟨zx_cdm zx_dm18 h136, List.forall_mem_cons.mpr ⟨zx_cdm zx_dm19 h137, List.forall_mem_cons.mpr ⟨zx_cdm zx_dm21 h138, List.forall_mem_cons.mpr ⟨zx_cdm zx_dm21 h139, List.forall_mem_cons.mpr ⟨zx_cdm zx_dm18 h140, List.forall_mem_cons.mpr ⟨zx_cdm zx_dm18 h141, List.forall_mem_cons.mpr ⟨zx_cdm zx_dm18 h142, List.forall_mem_cons.mpr ⟨zx_cdm zx_dm18 h143, List.forall_mem_cons.mpr ⟨zx_cdm zx_dm18 h144, List.forall_mem_cons.mpr ⟨zx_cdm zx_dm18 h145, List.forall_mem_cons.mpr ⟨zx_cdm zx_dm19 h146, List.forall_mem_cons.mpr ⟨zx_cdm zx_dm19 h147, List.forall_mem_cons.mpr ⟨zx_cdm zx_dm19 h148, List.forall_mem_cons.mpr ⟨zx_cdm zx_dm19 h149, List.forall_mem_cons.mpr ⟨zx_cdm zx_dm19 h150, List.forall_mem_cons.mpr ⟨zx_cdm zx_dm19 h151, List.forall_mem_cons.mpr ⟨zx_cdm zx_dm19 h152, List.forall_mem_cons.mpr ⟨zx_cdm zx_dm19 h153, List.forall_mem_cons.mpr ⟨zx_cdm zx_dm19 h154, List.forall_mem_cons.mpr ⟨zx_cdm zx_dm19 h155, List.forall_mem_cons.mpr ⟨zx_cdm zx_dm20 h156, List.forall_mem_cons.mpr ⟨zx_cdm zx_dm19 h157, List.forall_mem_cons.mpr ⟨zx_cdm zx_dm20 h158, List.forall_mem_cons.mpr ⟨zx_cdm zx_dm19 h159, fun _ h => (nomatch h)⟩⟩⟩⟩⟩⟩⟩⟩⟩⟩⟩⟩⟩⟩⟩⟩⟩⟩⟩⟩⟩⟩⟩⟩⟩⟩⟩⟩⟩⟩⟩⟩⟩⟩⟩⟩⟩⟩⟩⟩
set_option maxRecDepth 20000 in
theorem zx_kw_4 : zx_d19[43]? = some (Cond.code yX8_carries cX8_carries 7 (some FieldType.int)) ∧ zx_d19[39]? = some (Cond.code yX8_all cX8_all 6 none) ∧ zx_d19[31]? = some (Cond.code yX8_way cX8_way 5 (some FieldType.int)) ∧ zx_d20[27]? = some (Cond.code yX8_fault cX8_fault 1 (some FieldType.int)) ∧ zx_d18[27]? = some (Cond.code yX8_isAsleep cX8_isAsleep 1 (some FieldType.boolean)) ∧ zx_d18[31]? = some (Cond.code yX8_loadOf cX8_loadOf 4 (some FieldType.int)) ∧ zx_d20[15]? = some (Cond.code yX8_mayCarry cX8_mayCarry 3 (some FieldType.boolean)) ∧ zx_d20[11]? = some (Cond.code yX8_mayBe cX8_mayBe 2 (some FieldType.boolean)) ∧ zx_d20[23]? = some (Cond.code yX8_rests cX8_rests 3 none) ∧ zx_d20[19]? = some (Cond.code yX8_acts cX8_acts 5 none) ∧ zx_d20[47]? = some (Cond.code yX8_greatest cX8_greatest 3 (some FieldType.int)) ∧ zx_d20[31]? = some (Cond.code yX8_load cX8_load 3 (some FieldType.int)) ∧ zx_d20[35]? = some (Cond.code yX8_may cX8_may 2 (some FieldType.int)) ∧ zx_d20[39]? = some (Cond.code yX8_next cX8_next 3 (some FieldType.int)) ∧ zx_d20[51]? = some (Cond.code yX8_looks cX8_looks 7 none) ∧ zx_d20[43]? = some (Cond.code yX8_ahead cX8_ahead 5 (some FieldType.int)) ∧ zx_d21[16]? = some (Cond.code yX8_freshest cX8_freshest 3 (some FieldType.int)) ∧ zx_d21[12]? = some (Cond.code yX8_ruled cX8_ruled 4 (some FieldType.int)) ∧ zx_d21[4]? = some (Cond.code yX8_begins cX8_begins 1 none) ∧ zx_d21[8]? = some (Cond.code yX8_goes cX8_goes 4 (some FieldType.boolean)) ∧ zx_d20[60]? = some (Cond.code yX8_isRule cX8_isRule 2 (some FieldType.boolean)) ∧ zx_d21[0]? = some (Cond.code yX8_leads cX8_leads 3 none) ∧ zx_d21[20]? = some (Cond.code yX8_takesBack cX8_takesBack 1 none) ∧ zx_d20[56]? = some (Cond.code yX8_by cX8_by 4 (some FieldType.int)) ∧ zx_d21[24]? = some (Cond.code yX8_best cX8_best 7 (some FieldType.int)) ∧ zx_d21[28]? = some (Cond.code yX8_whose cX8_whose 4 (some FieldType.int)) ∧ zx_d21[32]? = some (Cond.code yX8_turn cX8_turn 6 (some FieldType.int)) ∧ zx_d21[36]? = some (Cond.code yX8_pays cX8_pays 6 (some FieldType.int)) ∧ zx_d21[40]? = some (Cond.code yX8_bagged cX8_bagged 7 (some FieldType.int)) ∧ zx_d21[56]? = some (Cond.code yX8_wrongIn cX8_wrongIn 5 (some FieldType.int)) ∧ zx_d21[48]? = some (Cond.code yX8_barsOf cX8_barsOf 4 (some FieldType.int)) ∧ zx_d21[44]? = some (Cond.code yX8_judge cX8_judge 5 (some FieldType.int)) ∧ zx_d22[0]? = some (Cond.code yX8_behind cX8_behind 7 (some FieldType.int)) ∧ zx_d22[4]? = some (Cond.code yX8_done cX8_done 4 (some FieldType.int)) ∧ zx_d22[8]? = some (Cond.code yX8_fits cX8_fits 7 (some FieldType.int)) ∧ zx_d22[12]? = some (Cond.code yX8_enough cX8_enough 4 (some FieldType.int)) ∧ zx_d22[16]? = some (Cond.code yX8_leastWorn cX8_leastWorn 5 (some FieldType.int)) ∧ zx_d22[20]? = some (Cond.code yX8_does cX8_does 2 (some FieldType.int)) ∧ zx_d22[28]? = some (Cond.code yX8_draw cX8_draw 2 (some FieldType.int)) ∧ zx_d22[24]? = some (Cond.code yX8_summer cX8_summer 8 (some FieldType.int)) := ⟨rfl, rfl, rfl, rfl, rfl, rfl, rfl, rfl, rfl, rfl, rfl, rfl, rfl, rfl, rfl, rfl, rfl, rfl, rfl, rfl, rfl, rfl, rfl, rfl, rfl, rfl, rfl, rfl, rfl, rfl, rfl, rfl, rfl, rfl, rfl, rfl, rfl, rfl, rfl, rfl⟩
set_option maxRecDepth 20000 in
theorem zx_kc_4 : ∀ t ∈ zx_ml_4, (Cond.code (zx_my t) (zx_mb t) (zx_mn t) (zx_mr t)) ∈ zx_G := by
  obtain ⟨h160, h161, h162, h163, h164, h165, h166, h167, h168, h169, h170, h171, h172, h173, h174, h175, h176, h177, h178, h179, h180, h181, h182, h183, h184, h185, h186, h187, h188, h189, h190, h191, h192, h193, h194, h195, h196, h197, h198, h199⟩ := zx_kw_4
  exact List.forall_mem_cons.mpr ⟨zx_cdm zx_dm19 h160, List.forall_mem_cons.mpr ⟨zx_cdm zx_dm19 h161, List.forall_mem_cons.mpr ⟨zx_cdm zx_dm19 h162, List.forall_mem_cons.mpr ⟨zx_cdm zx_dm20 h163, List.forall_mem_cons.mpr ⟨zx_cdm zx_dm18 h164, List.forall_mem_cons.mpr ⟨zx_cdm zx_dm18 h165, List.forall_mem_cons.mpr ⟨zx_cdm zx_dm20 h166, List.forall_mem_cons.mpr ⟨zx_cdm zx_dm20 h167, List.forall_mem_cons.mpr ⟨zx_cdm zx_dm20 h168, List.forall_mem_cons.mpr ⟨zx_cdm zx_dm20 h169, List.forall_mem_cons.mpr ⟨zx_cdm zx_dm20 h170, List.forall_mem_cons.mpr ⟨zx_cdm zx_dm20 h171, List.forall_mem_cons.mpr ⟨zx_cdm zx_dm20 h172, List.forall_mem_cons.mpr ⟨zx_cdm zx_dm20 h173, List.forall_mem_cons.mpr ⟨zx_cdm zx_dm20 h174, List.forall_mem_cons.mpr ⟨zx_cdm zx_dm20 h175, List.forall_mem_cons.mpr ⟨zx_cdm zx_dm21 h176, List.forall_mem_cons.mpr ⟨zx_cdm zx_dm21 h177, List.forall_mem_cons.mpr ⟨zx_cdm zx_dm21 h178, List.forall_mem_cons.mpr ⟨zx_cdm zx_dm21 h179, List.forall_mem_cons.mpr ⟨zx_cdm zx_dm20 h180, List.forall_mem_cons.mpr ⟨zx_cdm zx_dm21 h181, List.forall_mem_cons.mpr ⟨zx_cdm zx_dm21 h182, List.forall_mem_cons.mpr ⟨zx_cdm zx_dm20 h183, List.forall_mem_cons.mpr ⟨zx_cdm zx_dm21 h184, List.forall_mem_cons.mpr ⟨zx_cdm zx_dm21 h185, List.forall_mem_cons.mpr ⟨zx_cdm zx_dm21 h186, List.forall_mem_cons.mpr ⟨zx_cdm zx_dm21 h187, List.forall_mem_cons.mpr ⟨zx_cdm zx_dm21 h188, List.forall_mem_cons.mpr ⟨zx_cdm zx_dm21 h189, List.forall_mem_cons.mpr ⟨zx_cdm zx_dm21 h190, List.forall_mem_cons.mpr ⟨zx_cdm zx_dm21 h191, List.forall_mem_cons.mpr ⟨zx_cdm zx_dm22 h192, List.forall_mem_cons.mpr ⟨zx_cdm zx_dm22 h193, List.forall_mem_cons.mpr ⟨zx_cdm zx_dm22 h194, List.forall_mem_cons.mpr ⟨zx_cdm zx_dm22 h195, List.forall_mem_cons.mpr ⟨zx_cdm zx_dm22 h196, List.forall_mem_cons.mpr ⟨zx_cdm zx_dm22 h197, List.forall_mem_cons.mpr ⟨zx_cdm zx_dm22 h198, List.forall_mem_cons.mpr ⟨zx_cdm zx_dm22 h199, fun _ h => (nomatch h)⟩⟩⟩⟩⟩⟩⟩⟩⟩⟩⟩⟩⟩⟩⟩⟩⟩⟩⟩⟩⟩⟩⟩⟩⟩⟩⟩⟩⟩⟩⟩⟩⟩⟩⟩⟩⟩⟩⟩⟩
set_option maxRecDepth 20000 in
theorem zx_kw_5 : zx_d22[33]? = some (Cond.code yX8_day cX8_day 3 (some FieldType.int)) ∧ zx_d22[37]? = some (Cond.code yX8_seed cX8_seed 3 (some FieldType.int)) ∧ zx_d22[49]? = some (Cond.code yX8_body cX8_body 2 none) ∧ zx_d22[45]? = some (Cond.code yX8_lifting cX8_lifting 5 (some FieldType.int)) ∧ zx_d22[53]? = some (Cond.code yX8_stepping cX8_stepping 7 (some FieldType.int)) ∧ zx_d22[57]? = some (Cond.code yX8_resting cX8_resting 5 (some FieldType.int)) ∧ zx_d22[41]? = some (Cond.code yX8_act cX8_act 4 (some FieldType.int)) ∧ zx_d22[61]? = some (Cond.code yX8_trace cX8_trace 2 (some FieldType.int)) ∧ zx_d23[1]? = some (Cond.code yX8_image cX8_image 1 (some FieldType.int)) ∧ zx_d23[5]? = some (Cond.code yX8_restore cX8_restore 2 (some FieldType.int)) ∧ zx_d23[9]? = some (Cond.code yX8_status cX8_status 2 (some FieldType.int)) ∧ zx_d14[9]? = some (Cond.code yJ6_bitCount_0f7a4 cJ6_bitCount_0f7a4 1 (some FieldType.int)) ∧ zx_d11[13]? = some (Cond.code yJ9_max_7cf53 cJ9_max_7cf53 2 (some FieldType.int)) ∧ zx_d8[19]? = some (Cond.code yJ9_min_7cf53 cJ9_min_7cf53 2 (some FieldType.int)) ∧ zx_d9[20]? = some (Cond.code yJ0_length_8abf5 cJ0_length_8abf5 1 (some FieldType.int)) ∧ zx_d9[30]? = some (Cond.code yJ0_charAt_5068e cJ0_charAt_5068e 2 (some FieldType.char)) ∧ zx_d9[24]? = some (Cond.code yJ0_coder_7d493 cJ0_coder_7d493 1 (some FieldType.byte)) ∧ zx_d9[34]? = some (Cond.code yJ0_isLatin1_aae02 cJ0_isLatin1_aae02 1 (some FieldType.boolean)) ∧ zx_d9[40]? = some (Cond.code yJ0_checkIndex_df160 cJ0_checkIndex_df160 2 none) ∧ zx_d9[37]? = some (Cond.code yJ1_charAt_3b067 cJ1_charAt_3b067 2 (some FieldType.char)) ∧ zx_d9[45]? = some (Cond.code yJ3_checkIndex_8e157 cJ3_checkIndex_8e157 3 (some FieldType.int)) := ⟨rfl, rfl, rfl, rfl, rfl, rfl, rfl, rfl, rfl, rfl, rfl, rfl, rfl, rfl, rfl, rfl, rfl, rfl, rfl, rfl, rfl⟩
set_option maxRecDepth 20000 in
theorem zx_kc_5 : ∀ t ∈ zx_ml_5, (Cond.code (zx_my t) (zx_mb t) (zx_mn t) (zx_mr t)) ∈ zx_G := by
  obtain ⟨h200, h201, h202, h203, h204, h205, h206, h207, h208, h209, h210, h211, h212, h213, h214, h215, h216, h217, h218, h219, h220⟩ := zx_kw_5
  exact List.forall_mem_cons.mpr ⟨zx_cdm zx_dm22 h200, List.forall_mem_cons.mpr ⟨zx_cdm zx_dm22 h201, List.forall_mem_cons.mpr ⟨zx_cdm zx_dm22 h202, List.forall_mem_cons.mpr ⟨zx_cdm zx_dm22 h203, List.forall_mem_cons.mpr ⟨zx_cdm zx_dm22 h204, List.forall_mem_cons.mpr ⟨zx_cdm zx_dm22 h205, List.forall_mem_cons.mpr ⟨zx_cdm zx_dm22 h206, List.forall_mem_cons.mpr ⟨zx_cdm zx_dm22 h207, List.forall_mem_cons.mpr ⟨zx_cdm zx_dm23 h208, List.forall_mem_cons.mpr ⟨zx_cdm zx_dm23 h209, List.forall_mem_cons.mpr ⟨zx_cdm zx_dm23 h210, List.forall_mem_cons.mpr ⟨zx_cdm zx_dm14 h211, List.forall_mem_cons.mpr ⟨zx_cdm zx_dm11 h212, List.forall_mem_cons.mpr ⟨zx_cdm zx_dm8 h213, List.forall_mem_cons.mpr ⟨zx_cdm zx_dm9 h214, List.forall_mem_cons.mpr ⟨zx_cdm zx_dm9 h215, List.forall_mem_cons.mpr ⟨zx_cdm zx_dm9 h216, List.forall_mem_cons.mpr ⟨zx_cdm zx_dm9 h217, List.forall_mem_cons.mpr ⟨zx_cdm zx_dm9 h218, List.forall_mem_cons.mpr ⟨zx_cdm zx_dm9 h219, List.forall_mem_cons.mpr ⟨zx_cdm zx_dm9 h220, fun _ h => (nomatch h)⟩⟩⟩⟩⟩⟩⟩⟩⟩⟩⟩⟩⟩⟩⟩⟩⟩⟩⟩⟩⟩
set_option maxRecDepth 20000 in
theorem zx_kc : ∀ t ∈ zx_ml, (Cond.code (zx_my t) (zx_mb t) (zx_mn t) (zx_mr t)) ∈ zx_G := by
  show ∀ t ∈ zx_ml_0 ++ zx_ml_1 ++ zx_ml_2 ++ zx_ml_3 ++ zx_ml_4 ++ zx_ml_5, _
  exact List.forall_mem_append.mpr ⟨List.forall_mem_append.mpr ⟨List.forall_mem_append.mpr ⟨List.forall_mem_append.mpr ⟨List.forall_mem_append.mpr ⟨zx_kc_0, zx_kc_1⟩, zx_kc_2⟩, zx_kc_3⟩, zx_kc_4⟩, zx_kc_5⟩
end
section
/-! part 05: the other checks -/
set_option maxRecDepth 100000 in
theorem zx_ckM_0 : (zx_ml_0.zip (zx_mc.drop 0)).all (fun q => zx_ckm q.1 q.2) = true := by decide +kernel
set_option maxRecDepth 100000 in
theorem zx_ckM_1 : (zx_ml_1.zip (zx_mc.drop 40)).all (fun q => zx_ckm q.1 q.2) = true := by decide +kernel
set_option maxRecDepth 100000 in
theorem zx_ckM_2 : (zx_ml_2.zip (zx_mc.drop 80)).all (fun q => zx_ckm q.1 q.2) = true := by decide +kernel
set_option maxRecDepth 100000 in
theorem zx_ckM_3 : (zx_ml_3.zip (zx_mc.drop 120)).all (fun q => zx_ckm q.1 q.2) = true := by decide +kernel
set_option maxRecDepth 100000 in
theorem zx_ckM_4 : (zx_ml_4.zip (zx_mc.drop 160)).all (fun q => zx_ckm q.1 q.2) = true := by decide +kernel
set_option maxRecDepth 100000 in
theorem zx_ckM_5 : (zx_ml_5.zip (zx_mc.drop 200)).all (fun q => zx_ckm q.1 q.2) = true := by decide +kernel
set_option maxRecDepth 100000 in
theorem zx_ml_len : zx_ml.length = 221 ∧ zx_mc.length = 221 := by decide +kernel
def zx_cka {α : Type} (l : List (List α)) (f : Nat → α → Bool) : Bool := l.zipIdx.all (fun q => q.1.all (f q.2))
def zx_ckF (o : Nat) (e : Nat × Nat × Nat × Nat × Nat) : Bool := decide (e.2.1 < 9) && (decide (e.2.2.1 < zx_fn e.2.1) && (match e.2.2.2.1 with
  | 0 => zx_inG e.2.2.2.2 (.fieldLink (zx_o o) e.1 (zx_T8 e.2.1 e.2.2.1).1 (zx_T8 e.2.1 e.2.2.1).2.1 (zx_T8 e.2.1 e.2.2.1).2.2.1)
  | 1 => zx_inN e.2.2.2.2 (.fieldLinkNest (zx_o o) e.1 (zx_T8 e.2.1 e.2.2.1).1 (zx_T8 e.2.1 e.2.2.1).2.1 (zx_T8 e.2.1 e.2.2.1).2.2.1 zx_host)
  | _ => false))
set_option maxRecDepth 100000 in
theorem zx_ckF_all : zx_cka zx_lF zx_ckF = true := by decide +kernel
def zx_ckL (o : Nat) (e : Nat × Nat × Nat × Nat) : Bool := match e.2.2.1 with
  | 0 => zx_inG e.2.2.2 (.methodLink (zx_o o) e.1 (zx_my (zx_m e.2.1)))
  | 1 => zx_inN e.2.2.2 (.methodLinkNest (zx_o o) e.1 (zx_my (zx_m e.2.1)) zx_host)
  | _ => false
set_option maxRecDepth 100000 in
theorem zx_ckL_all : zx_cka zx_lM zx_ckL = true := by decide +kernel
set_option maxRecDepth 100000 in
theorem zx_ckC_all : zx_cka zx_lC (fun o e => zx_inG e.2.2 (.classLink (zx_o o) e.1 (zx_R9 e.2.1)) && decide (e.2.1 < 9)) = true := by decide +kernel
set_option maxRecDepth 100000 in
theorem zx_ckI_all : zx_cka zx_lI (fun o e => zx_inG e.2.2 (.constant (zx_o o) e.1 e.2.1)) = true := by decide +kernel
set_option maxRecDepth 100000 in
theorem zx_ckJ_all : zx_cka zx_lL (fun o e => zx_inG e.2.2 (.constantLong (zx_o o) e.1 e.2.1)) = true := by decide +kernel
def zx_sx (g : Nat) : String × String × String := (zx_sn[g]?).getD ("", "", "")
set_option maxRecDepth 100000 in
theorem zx_ckG_all : zx_cka zx_lG (fun o e => match e.2.2.1 with
  | 0 => zx_inG e.2.2.2 (.fieldLink (zx_o o) e.1 (zx_sx e.2.1).1 (zx_sx e.2.1).2.1 (zx_sx e.2.1).2.2)
  | 1 => zx_inN e.2.2.2 (.fieldLinkNest (zx_o o) e.1 (zx_sx e.2.1).1 (zx_sx e.2.1).2.1 (zx_sx e.2.1).2.2 zx_host)
  | _ => false) = true := by decide +kernel
set_option maxRecDepth 100000 in
theorem zx_ckA_all : zx_cka zx_lA (fun o e => zx_inG e.2 (.methodLink (zx_o o) e.1 arraycopyName)) = true := by decide +kernel
set_option maxRecDepth 100000 in
theorem zx_ckO_all : zx_cka zx_lO (fun o e => zx_inG e.2 (.methodLink (zx_o o) e.1 Lib.objectInit)) = true := by decide +kernel
set_option maxRecDepth 100000 in
theorem zx_ckK_all : zx_cka zx_lK (fun o e => match e.2.1 with
  | 0 => zx_inG e.2.2 (.fieldLink (zx_o o) e.1 "java/lang/String" "value" "[B")
  | 1 => zx_inG e.2.2 (.fieldLink (zx_o o) e.1 "java/lang/String" "coder" "B")
  | _ => false) = true := by decide +kernel
set_option maxRecDepth 100000 in
theorem zx_ckP : (List.range 9).all (fun i => match zx_pI[i]? with
  | some q => zx_inG q.1 (.instantiable (zx_R9 i) (zx_fn i)) && zx_inG q.2 (.initialized (zx_R9 i))
  | none => false) = true := by decide +kernel
set_option maxRecDepth 100000 in
theorem zx_ckX : (zx_inG 153 (.arrayClass .int) && (zx_inG 355 (.arrayClass .long) && (zx_inG 90 (.initialized "java/lang/System") && (zx_inG 439 (.native arraycopyName) && (zx_inG 438 (.static arraycopyName) && (zx_inG 103 (.instanceMethod Lib.objectInit) && zx_inG 104 (.code Lib.objectInit ⟨#[0xb1]⟩ 1 none))))))) = true := by decide +kernel
def zx_inL : List Nat → List Cond → Bool
  | p :: r, w :: q => zx_inG p w && zx_inL r q
  | [], [] => true
  | _, _ => false
theorem zx_inL_ok : ∀ {r : List Nat} {q : List Cond}, zx_inL r q = true → q.all (fun w => decide (w ∈ zx_G)) = true
  | p :: r, w :: q, h => by
    unfold zx_inL at h
    rw [Bool.and_eq_true] at h
    rw [List.all_cons, Bool.and_eq_true]
    exact ⟨decide_eq_true (zx_inG_mem h.1), zx_inL_ok h.2⟩
  | [], [], _ => rfl
  | [], _ :: _, h => by cases h
  | _ :: _, [], h => by cases h
/-- where each class's words stand -/
def zx_pU : List (List Nat) := [[325, 327, 329, 331, 333], [230, 232, 234, 236], [261, 263, 265, 267, 269, 271, 273, 275], [348, 350, 352], [298, 300, 302, 304, 306, 308, 310], [188, 190, 192, 194, 196, 198, 200, 202, 204, 206, 208, 210, 212], [140, 142, 144, 146, 148, 150], [367, 369, 371, 373, 375, 377, 379, 381, 383, 385, 387], [1029, 1031, 1033, 1035, 1037, 1039, 1041, 1043, 1045, 1047, 1049, 1051, 1053, 1055, 1057, 1059, 1061, 1063, 1065, 1067, 1069, 1071, 1073, 1075, 1077, 1079, 1081, 1083, 1085, 1087, 1089, 1091, 1093, 1095, 1097, 1099, 1101, 1103, 1105, 1107, 1109, 1111, 1113, 1115, 1117, 1119, 1121, 1123, 1125, 1127, 1129, 1131, 1133]]
set_option maxRecDepth 100000 in
theorem zx_ckV : (List.range 9).all (fun i => zx_inL ((zx_pU[i]?).getD []) (u_ws (zx_R9 i) (zx_T8 i) (zx_fn i))) = true := by decide +kernel
theorem zx_ckU : (List.range 9).all (fun i => (u_ws (zx_R9 i) (zx_T8 i) (zx_fn i)).all (fun w => decide (w ∈ zx_G))) = true := by
  rw [List.all_eq_true]
  intro i hi
  exact zx_inL_ok (List.all_eq_true.mp zx_ckV i hi)
set_option maxRecDepth 100000 in
theorem zx_ckS : zx_st.all (fun q => zx_at q.2.2 (.stringRef RX4 q.2.1 q.1)) = true := by decide +kernel
set_option maxRecDepth 100000 in
theorem zx_ckY : zx_at 106 (.arrayOver (.object RX3)) = true ∧ zx_at 246 (.arrayOver (.object RX5)) = true := by decide +kernel
end
