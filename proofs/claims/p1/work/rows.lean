section
-- ===== PART A: goes FIRST, ahead of the names: the tables' words, and 'selects' of the private methods out of them =====
/-- a private method of a class that the tables say can be made, by its rows of tables_1 -/
def lw_okq (q : MethodName × Nat) : Prop := (q.1.cls ≠ "java/lang/invoke/MethodHandle" ∧ q.1.cls ≠ "java/lang/invoke/VarHandle") ∧ Cond.instantiable q.1.cls q.2 ∈ tables_1 ∧ Cond.privateMethod q.1 ∈ tables_1 ∧ Cond.instanceMethod q.1 ∈ tables_1
theorem lw_p0 : lw_okq (⟨"MirrorLies$Tape", "byteAt", "(I)I"⟩, 7) := ⟨⟨by decide +kernel, by decide +kernel⟩, List.mem_of_getElem? (i := 31) (by decide +kernel), List.mem_of_getElem? (i := 508) (by decide +kernel), List.mem_of_getElem? (i := 509) (by decide +kernel)⟩
theorem lw_p1 : lw_okq (⟨"MirrorLies$Tape", "takeWord", "()V"⟩, 7) := ⟨⟨by decide +kernel, by decide +kernel⟩, List.mem_of_getElem? (i := 31) (by decide +kernel), List.mem_of_getElem? (i := 518) (by decide +kernel), List.mem_of_getElem? (i := 519) (by decide +kernel)⟩
theorem lw_p2 : lw_okq (⟨"MirrorLies$Tape", "kindOfWord", "()I"⟩, 7) := ⟨⟨by decide +kernel, by decide +kernel⟩, List.mem_of_getElem? (i := 31) (by decide +kernel), List.mem_of_getElem? (i := 523) (by decide +kernel), List.mem_of_getElem? (i := 524) (by decide +kernel)⟩
theorem lw_p3 : lw_okq (⟨"MirrorLies$Tape", "takeNumber", "()V"⟩, 7) := ⟨⟨by decide +kernel, by decide +kernel⟩, List.mem_of_getElem? (i := 31) (by decide +kernel), List.mem_of_getElem? (i := 579) (by decide +kernel), List.mem_of_getElem? (i := 580) (by decide +kernel)⟩
theorem lw_p4 : lw_okq (⟨"MirrorLies$Reader", "readsMarks", "()Z"⟩, 8) := ⟨⟨by decide +kernel, by decide +kernel⟩, List.mem_of_getElem? (i := 136) (by decide +kernel), List.mem_of_getElem? (i := 586) (by decide +kernel), List.mem_of_getElem? (i := 587) (by decide +kernel)⟩
theorem lw_p5 : lw_okq (⟨"MirrorLies$Reader", "takeNumber", "(II)I"⟩, 8) := ⟨⟨by decide +kernel, by decide +kernel⟩, List.mem_of_getElem? (i := 136) (by decide +kernel), List.mem_of_getElem? (i := 591) (by decide +kernel), List.mem_of_getElem? (i := 592) (by decide +kernel)⟩
theorem lw_p6 : lw_okq (⟨"MirrorLies$Reader", "refuseToken", "()Z"⟩, 8) := ⟨⟨by decide +kernel, by decide +kernel⟩, List.mem_of_getElem? (i := 136) (by decide +kernel), List.mem_of_getElem? (i := 595) (by decide +kernel), List.mem_of_getElem? (i := 596) (by decide +kernel)⟩
theorem lw_p7 : lw_okq (⟨"MirrorLies$Reader", "refuse", "(I)Z"⟩, 8) := ⟨⟨by decide +kernel, by decide +kernel⟩, List.mem_of_getElem? (i := 136) (by decide +kernel), List.mem_of_getElem? (i := 599) (by decide +kernel), List.mem_of_getElem? (i := 600) (by decide +kernel)⟩
theorem lw_p8 : lw_okq (⟨"MirrorLies$Reader", "takes", "(I)Z"⟩, 8) := ⟨⟨by decide +kernel, by decide +kernel⟩, List.mem_of_getElem? (i := 136) (by decide +kernel), List.mem_of_getElem? (i := 603) (by decide +kernel), List.mem_of_getElem? (i := 604) (by decide +kernel)⟩
theorem lw_p9 : lw_okq (⟨"MirrorLies$Reader", "readsBoy", "()Z"⟩, 8) := ⟨⟨by decide +kernel, by decide +kernel⟩, List.mem_of_getElem? (i := 136) (by decide +kernel), List.mem_of_getElem? (i := 607) (by decide +kernel), List.mem_of_getElem? (i := 608) (by decide +kernel)⟩
theorem lw_p10 : lw_okq (⟨"MirrorLies$Reader", "takesName", "([JI)Z"⟩, 8) := ⟨⟨by decide +kernel, by decide +kernel⟩, List.mem_of_getElem? (i := 136) (by decide +kernel), List.mem_of_getElem? (i := 611) (by decide +kernel), List.mem_of_getElem? (i := 612) (by decide +kernel)⟩
theorem lw_p11 : lw_okq (⟨"MirrorLies$Reader", "takeMarks", "()I"⟩, 8) := ⟨⟨by decide +kernel, by decide +kernel⟩, List.mem_of_getElem? (i := 136) (by decide +kernel), List.mem_of_getElem? (i := 615) (by decide +kernel), List.mem_of_getElem? (i := 616) (by decide +kernel)⟩
theorem lw_p12 : lw_okq (⟨"MirrorLies$Reader", "readsMirror", "()Z"⟩, 8) := ⟨⟨by decide +kernel, by decide +kernel⟩, List.mem_of_getElem? (i := 136) (by decide +kernel), List.mem_of_getElem? (i := 619) (by decide +kernel), List.mem_of_getElem? (i := 620) (by decide +kernel)⟩
theorem lw_p13 : lw_okq (⟨"MirrorLies$Reader", "readsLevel", "(II)Z"⟩, 8) := ⟨⟨by decide +kernel, by decide +kernel⟩, List.mem_of_getElem? (i := 136) (by decide +kernel), List.mem_of_getElem? (i := 623) (by decide +kernel), List.mem_of_getElem? (i := 624) (by decide +kernel)⟩
theorem lw_p14 : lw_okq (⟨"MirrorLies$Reader", "readsUnit", "(I)Z"⟩, 8) := ⟨⟨by decide +kernel, by decide +kernel⟩, List.mem_of_getElem? (i := 136) (by decide +kernel), List.mem_of_getElem? (i := 627) (by decide +kernel), List.mem_of_getElem? (i := 628) (by decide +kernel)⟩
theorem lw_p15 : lw_okq (⟨"MirrorLies$Reader", "adds", "(I)Z"⟩, 8) := ⟨⟨by decide +kernel, by decide +kernel⟩, List.mem_of_getElem? (i := 136) (by decide +kernel), List.mem_of_getElem? (i := 631) (by decide +kernel), List.mem_of_getElem? (i := 632) (by decide +kernel)⟩
def lw_privs_1 : List (MethodName × Nat) := [(⟨"MirrorLies$Tape", "byteAt", "(I)I"⟩, 7), (⟨"MirrorLies$Tape", "takeWord", "()V"⟩, 7), (⟨"MirrorLies$Tape", "kindOfWord", "()I"⟩, 7), (⟨"MirrorLies$Tape", "takeNumber", "()V"⟩, 7), (⟨"MirrorLies$Reader", "readsMarks", "()Z"⟩, 8), (⟨"MirrorLies$Reader", "takeNumber", "(II)I"⟩, 8), (⟨"MirrorLies$Reader", "refuseToken", "()Z"⟩, 8), (⟨"MirrorLies$Reader", "refuse", "(I)Z"⟩, 8), (⟨"MirrorLies$Reader", "takes", "(I)Z"⟩, 8), (⟨"MirrorLies$Reader", "readsBoy", "()Z"⟩, 8), (⟨"MirrorLies$Reader", "takesName", "([JI)Z"⟩, 8), (⟨"MirrorLies$Reader", "takeMarks", "()I"⟩, 8), (⟨"MirrorLies$Reader", "readsMirror", "()Z"⟩, 8), (⟨"MirrorLies$Reader", "readsLevel", "(II)Z"⟩, 8), (⟨"MirrorLies$Reader", "readsUnit", "(I)Z"⟩, 8), (⟨"MirrorLies$Reader", "adds", "(I)Z"⟩, 8)]
theorem lw_r1 : ∀ q ∈ lw_privs_1, lw_okq q := List.forall_mem_cons.mpr ⟨lw_p0, List.forall_mem_cons.mpr ⟨lw_p1, List.forall_mem_cons.mpr ⟨lw_p2, List.forall_mem_cons.mpr ⟨lw_p3, List.forall_mem_cons.mpr ⟨lw_p4, List.forall_mem_cons.mpr ⟨lw_p5, List.forall_mem_cons.mpr ⟨lw_p6, List.forall_mem_cons.mpr ⟨lw_p7, List.forall_mem_cons.mpr ⟨lw_p8, List.forall_mem_cons.mpr ⟨lw_p9, List.forall_mem_cons.mpr ⟨lw_p10, List.forall_mem_cons.mpr ⟨lw_p11, List.forall_mem_cons.mpr ⟨lw_p12, List.forall_mem_cons.mpr ⟨lw_p13, List.forall_mem_cons.mpr ⟨lw_p14, List.forall_mem_cons.mpr ⟨lw_p15, fun _ h => absurd h List.not_mem_nil⟩⟩⟩⟩⟩⟩⟩⟩⟩⟩⟩⟩⟩⟩⟩⟩
theorem lw_p16 : lw_okq (⟨"MirrorLies$Reader", "readsSight", "(I)Z"⟩, 8) := ⟨⟨by decide +kernel, by decide +kernel⟩, List.mem_of_getElem? (i := 136) (by decide +kernel), List.mem_of_getElem? (i := 642) (by decide +kernel), List.mem_of_getElem? (i := 643) (by decide +kernel)⟩
theorem lw_p17 : lw_okq (⟨"MirrorLies$Reader", "readsPrice", "(I)Z"⟩, 8) := ⟨⟨by decide +kernel, by decide +kernel⟩, List.mem_of_getElem? (i := 136) (by decide +kernel), List.mem_of_getElem? (i := 646) (by decide +kernel), List.mem_of_getElem? (i := 647) (by decide +kernel)⟩
theorem lw_p18 : lw_okq (⟨"MirrorLies$Reader", "readsDust", "(I)Z"⟩, 8) := ⟨⟨by decide +kernel, by decide +kernel⟩, List.mem_of_getElem? (i := 136) (by decide +kernel), List.mem_of_getElem? (i := 650) (by decide +kernel), List.mem_of_getElem? (i := 651) (by decide +kernel)⟩
theorem lw_p19 : lw_okq (⟨"MirrorLies$Reader", "readsDraw", "()Z"⟩, 8) := ⟨⟨by decide +kernel, by decide +kernel⟩, List.mem_of_getElem? (i := 136) (by decide +kernel), List.mem_of_getElem? (i := 654) (by decide +kernel), List.mem_of_getElem? (i := 655) (by decide +kernel)⟩
theorem lw_p20 : lw_okq (⟨"MirrorLies", "hasBoy", "(I)Z"⟩, 15) := ⟨⟨by decide +kernel, by decide +kernel⟩, List.mem_of_getElem? (i := 23) (by decide +kernel), List.mem_of_getElem? (i := 683) (by decide +kernel), List.mem_of_getElem? (i := 684) (by decide +kernel)⟩
theorem lw_p21 : lw_okq (⟨"MirrorLies", "hasMirror", "(I)Z"⟩, 15) := ⟨⟨by decide +kernel, by decide +kernel⟩, List.mem_of_getElem? (i := 23) (by decide +kernel), List.mem_of_getElem? (i := 691) (by decide +kernel), List.mem_of_getElem? (i := 692) (by decide +kernel)⟩
theorem lw_p22 : lw_okq (⟨"MirrorLies", "hasFace", "(I)Z"⟩, 15) := ⟨⟨by decide +kernel, by decide +kernel⟩, List.mem_of_getElem? (i := 23) (by decide +kernel), List.mem_of_getElem? (i := 699) (by decide +kernel), List.mem_of_getElem? (i := 700) (by decide +kernel)⟩
theorem lw_p23 : lw_okq (⟨"MirrorLies", "lieNow", "(II)I"⟩, 15) := ⟨⟨by decide +kernel, by decide +kernel⟩, List.mem_of_getElem? (i := 23) (by decide +kernel), List.mem_of_getElem? (i := 707) (by decide +kernel), List.mem_of_getElem? (i := 708) (by decide +kernel)⟩
theorem lw_p24 : lw_okq (⟨"MirrorLies$School", "worth", "(IIIII)I"⟩, 13) := ⟨⟨by decide +kernel, by decide +kernel⟩, List.mem_of_getElem? (i := 65) (by decide +kernel), List.mem_of_getElem? (i := 725) (by decide +kernel), List.mem_of_getElem? (i := 726) (by decide +kernel)⟩
theorem lw_p25 : lw_okq (⟨"MirrorLies", "hasMark", "(I)Z"⟩, 15) := ⟨⟨by decide +kernel, by decide +kernel⟩, List.mem_of_getElem? (i := 23) (by decide +kernel), List.mem_of_getElem? (i := 751) (by decide +kernel), List.mem_of_getElem? (i := 752) (by decide +kernel)⟩
theorem lw_p26 : lw_okq (⟨"MirrorLies$Acts", "stands", "(II)I"⟩, 5) := ⟨⟨by decide +kernel, by decide +kernel⟩, List.mem_of_getElem? (i := 208) (by decide +kernel), List.mem_of_getElem? (i := 760) (by decide +kernel), List.mem_of_getElem? (i := 761) (by decide +kernel)⟩
theorem lw_p27 : lw_okq (⟨"MirrorLies$Acts", "perform", "(III)V"⟩, 5) := ⟨⟨by decide +kernel, by decide +kernel⟩, List.mem_of_getElem? (i := 208) (by decide +kernel), List.mem_of_getElem? (i := 764) (by decide +kernel), List.mem_of_getElem? (i := 765) (by decide +kernel)⟩
theorem lw_p28 : lw_okq (⟨"MirrorLies$Hour", "nextSeed", "()I"⟩, 5) := ⟨⟨by decide +kernel, by decide +kernel⟩, List.mem_of_getElem? (i := 170) (by decide +kernel), List.mem_of_getElem? (i := 776) (by decide +kernel), List.mem_of_getElem? (i := 777) (by decide +kernel)⟩
theorem lw_p29 : lw_okq (⟨"MirrorLies$Acts", "restore", "(III)V"⟩, 5) := ⟨⟨by decide +kernel, by decide +kernel⟩, List.mem_of_getElem? (i := 208) (by decide +kernel), List.mem_of_getElem? (i := 809) (by decide +kernel), List.mem_of_getElem? (i := 810) (by decide +kernel)⟩
theorem lw_p30 : lw_okq (⟨"MirrorLies$Panes", "fill", "([IILMirrorLies$Hour;)V"⟩, 9) := ⟨⟨by decide +kernel, by decide +kernel⟩, List.mem_of_getElem? (i := 233) (by decide +kernel), List.mem_of_getElem? (i := 829) (by decide +kernel), List.mem_of_getElem? (i := 830) (by decide +kernel)⟩
theorem lw_p31 : lw_okq (⟨"MirrorLies$Search", "meet", "(III)V"⟩, 6) := ⟨⟨by decide +kernel, by decide +kernel⟩, List.mem_of_getElem? (i := 272) (by decide +kernel), List.mem_of_getElem? (i := 863) (by decide +kernel), List.mem_of_getElem? (i := 864) (by decide +kernel)⟩
def lw_privs_2 : List (MethodName × Nat) := [(⟨"MirrorLies$Reader", "readsSight", "(I)Z"⟩, 8), (⟨"MirrorLies$Reader", "readsPrice", "(I)Z"⟩, 8), (⟨"MirrorLies$Reader", "readsDust", "(I)Z"⟩, 8), (⟨"MirrorLies$Reader", "readsDraw", "()Z"⟩, 8), (⟨"MirrorLies", "hasBoy", "(I)Z"⟩, 15), (⟨"MirrorLies", "hasMirror", "(I)Z"⟩, 15), (⟨"MirrorLies", "hasFace", "(I)Z"⟩, 15), (⟨"MirrorLies", "lieNow", "(II)I"⟩, 15), (⟨"MirrorLies$School", "worth", "(IIIII)I"⟩, 13), (⟨"MirrorLies", "hasMark", "(I)Z"⟩, 15), (⟨"MirrorLies$Acts", "stands", "(II)I"⟩, 5), (⟨"MirrorLies$Acts", "perform", "(III)V"⟩, 5), (⟨"MirrorLies$Hour", "nextSeed", "()I"⟩, 5), (⟨"MirrorLies$Acts", "restore", "(III)V"⟩, 5), (⟨"MirrorLies$Panes", "fill", "([IILMirrorLies$Hour;)V"⟩, 9), (⟨"MirrorLies$Search", "meet", "(III)V"⟩, 6)]
theorem lw_r2 : ∀ q ∈ lw_privs_2, lw_okq q := List.forall_mem_cons.mpr ⟨lw_p16, List.forall_mem_cons.mpr ⟨lw_p17, List.forall_mem_cons.mpr ⟨lw_p18, List.forall_mem_cons.mpr ⟨lw_p19, List.forall_mem_cons.mpr ⟨lw_p20, List.forall_mem_cons.mpr ⟨lw_p21, List.forall_mem_cons.mpr ⟨lw_p22, List.forall_mem_cons.mpr ⟨lw_p23, List.forall_mem_cons.mpr ⟨lw_p24, List.forall_mem_cons.mpr ⟨lw_p25, List.forall_mem_cons.mpr ⟨lw_p26, List.forall_mem_cons.mpr ⟨lw_p27, List.forall_mem_cons.mpr ⟨lw_p28, List.forall_mem_cons.mpr ⟨lw_p29, List.forall_mem_cons.mpr ⟨lw_p30, List.forall_mem_cons.mpr ⟨lw_p31, fun _ h => absurd h List.not_mem_nil⟩⟩⟩⟩⟩⟩⟩⟩⟩⟩⟩⟩⟩⟩⟩⟩
theorem lw_p32 : lw_okq (⟨"MirrorLies", "liarsAbout", "(II)I"⟩, 15) := ⟨⟨by decide +kernel, by decide +kernel⟩, List.mem_of_getElem? (i := 23) (by decide +kernel), List.mem_of_getElem? (i := 885) (by decide +kernel), List.mem_of_getElem? (i := 886) (by decide +kernel)⟩
theorem lw_p33 : lw_okq (⟨"MirrorLies$Search", "mends", "(IIIII)Z"⟩, 6) := ⟨⟨by decide +kernel, by decide +kernel⟩, List.mem_of_getElem? (i := 272) (by decide +kernel), List.mem_of_getElem? (i := 897) (by decide +kernel), List.mem_of_getElem? (i := 898) (by decide +kernel)⟩
theorem lw_p34 : lw_okq (⟨"MirrorLies$Search", "drop", "()V"⟩, 6) := ⟨⟨by decide +kernel, by decide +kernel⟩, List.mem_of_getElem? (i := 272) (by decide +kernel), List.mem_of_getElem? (i := 915) (by decide +kernel), List.mem_of_getElem? (i := 916) (by decide +kernel)⟩
theorem lw_p35 : lw_okq (⟨"MirrorLies$Search", "finds", "(IIII)Z"⟩, 6) := ⟨⟨by decide +kernel, by decide +kernel⟩, List.mem_of_getElem? (i := 272) (by decide +kernel), List.mem_of_getElem? (i := 927) (by decide +kernel), List.mem_of_getElem? (i := 928) (by decide +kernel)⟩
theorem lw_p36 : lw_okq (⟨"MirrorLies$Search", "endingAt", "(IIII)I"⟩, 6) := ⟨⟨by decide +kernel, by decide +kernel⟩, List.mem_of_getElem? (i := 272) (by decide +kernel), List.mem_of_getElem? (i := 943) (by decide +kernel), List.mem_of_getElem? (i := 944) (by decide +kernel)⟩
theorem lw_p37 : lw_okq (⟨"MirrorLies", "fixedFaces", "(I)I"⟩, 15) := ⟨⟨by decide +kernel, by decide +kernel⟩, List.mem_of_getElem? (i := 23) (by decide +kernel), List.mem_of_getElem? (i := 951) (by decide +kernel), List.mem_of_getElem? (i := 952) (by decide +kernel)⟩
theorem lw_p38 : lw_okq (⟨"MirrorLies", "isKept", "(I)Z"⟩, 15) := ⟨⟨by decide +kernel, by decide +kernel⟩, List.mem_of_getElem? (i := 23) (by decide +kernel), List.mem_of_getElem? (i := 1013) (by decide +kernel), List.mem_of_getElem? (i := 1014) (by decide +kernel)⟩
theorem lw_p39 : lw_okq (⟨"MirrorLies$Likes", "keepShown", "([II)V"⟩, 6) := ⟨⟨by decide +kernel, by decide +kernel⟩, List.mem_of_getElem? (i := 329) (by decide +kernel), List.mem_of_getElem? (i := 1064) (by decide +kernel), List.mem_of_getElem? (i := 1065) (by decide +kernel)⟩
theorem lw_p40 : lw_okq (⟨"MirrorLies$Likes", "sortBy", "(I)V"⟩, 6) := ⟨⟨by decide +kernel, by decide +kernel⟩, List.mem_of_getElem? (i := 329) (by decide +kernel), List.mem_of_getElem? (i := 1114) (by decide +kernel), List.mem_of_getElem? (i := 1115) (by decide +kernel)⟩
theorem lw_p41 : lw_okq (⟨"MirrorLies$Course", "noteSame", "(I[II)V"⟩, 7) := ⟨⟨by decide +kernel, by decide +kernel⟩, List.mem_of_getElem? (i := 360) (by decide +kernel), List.mem_of_getElem? (i := 1138) (by decide +kernel), List.mem_of_getElem? (i := 1139) (by decide +kernel)⟩
theorem lw_p42 : lw_okq (⟨"MirrorLies$Course", "choose", "(II)V"⟩, 7) := ⟨⟨by decide +kernel, by decide +kernel⟩, List.mem_of_getElem? (i := 360) (by decide +kernel), List.mem_of_getElem? (i := 1142) (by decide +kernel), List.mem_of_getElem? (i := 1143) (by decide +kernel)⟩
theorem lw_p43 : lw_okq (⟨"MirrorLies$Course", "mostBehind", "(III)I"⟩, 7) := ⟨⟨by decide +kernel, by decide +kernel⟩, List.mem_of_getElem? (i := 360) (by decide +kernel), List.mem_of_getElem? (i := 1147) (by decide +kernel), List.mem_of_getElem? (i := 1148) (by decide +kernel)⟩
theorem lw_p44 : lw_okq (⟨"MirrorLies$Telling", "meet", "(I[II)V"⟩, 7) := ⟨⟨by decide +kernel, by decide +kernel⟩, List.mem_of_getElem? (i := 391) (by decide +kernel), List.mem_of_getElem? (i := 1162) (by decide +kernel), List.mem_of_getElem? (i := 1163) (by decide +kernel)⟩
theorem lw_p45 : lw_okq (⟨"MirrorLies$Telling", "spreadToParts", "()V"⟩, 7) := ⟨⟨by decide +kernel, by decide +kernel⟩, List.mem_of_getElem? (i := 391) (by decide +kernel), List.mem_of_getElem? (i := 1166) (by decide +kernel), List.mem_of_getElem? (i := 1167) (by decide +kernel)⟩
theorem lw_p46 : lw_okq (⟨"MirrorLiesModel", "clearBank", "()V"⟩, 65) := ⟨⟨by decide +kernel, by decide +kernel⟩, List.mem_of_getElem? (i := 1200) (by decide +kernel), List.mem_of_getElem? (i := 1206) (by decide +kernel), List.mem_of_getElem? (i := 1207) (by decide +kernel)⟩
theorem lw_p47 : lw_okq (⟨"MirrorLiesModel", "startAnew", "()V"⟩, 65) := ⟨⟨by decide +kernel, by decide +kernel⟩, List.mem_of_getElem? (i := 1200) (by decide +kernel), List.mem_of_getElem? (i := 1210) (by decide +kernel), List.mem_of_getElem? (i := 1211) (by decide +kernel)⟩
def lw_privs_3 : List (MethodName × Nat) := [(⟨"MirrorLies", "liarsAbout", "(II)I"⟩, 15), (⟨"MirrorLies$Search", "mends", "(IIIII)Z"⟩, 6), (⟨"MirrorLies$Search", "drop", "()V"⟩, 6), (⟨"MirrorLies$Search", "finds", "(IIII)Z"⟩, 6), (⟨"MirrorLies$Search", "endingAt", "(IIII)I"⟩, 6), (⟨"MirrorLies", "fixedFaces", "(I)I"⟩, 15), (⟨"MirrorLies", "isKept", "(I)Z"⟩, 15), (⟨"MirrorLies$Likes", "keepShown", "([II)V"⟩, 6), (⟨"MirrorLies$Likes", "sortBy", "(I)V"⟩, 6), (⟨"MirrorLies$Course", "noteSame", "(I[II)V"⟩, 7), (⟨"MirrorLies$Course", "choose", "(II)V"⟩, 7), (⟨"MirrorLies$Course", "mostBehind", "(III)I"⟩, 7), (⟨"MirrorLies$Telling", "meet", "(I[II)V"⟩, 7), (⟨"MirrorLies$Telling", "spreadToParts", "()V"⟩, 7), (⟨"MirrorLiesModel", "clearBank", "()V"⟩, 65), (⟨"MirrorLiesModel", "startAnew", "()V"⟩, 65)]
theorem lw_r3 : ∀ q ∈ lw_privs_3, lw_okq q := List.forall_mem_cons.mpr ⟨lw_p32, List.forall_mem_cons.mpr ⟨lw_p33, List.forall_mem_cons.mpr ⟨lw_p34, List.forall_mem_cons.mpr ⟨lw_p35, List.forall_mem_cons.mpr ⟨lw_p36, List.forall_mem_cons.mpr ⟨lw_p37, List.forall_mem_cons.mpr ⟨lw_p38, List.forall_mem_cons.mpr ⟨lw_p39, List.forall_mem_cons.mpr ⟨lw_p40, List.forall_mem_cons.mpr ⟨lw_p41, List.forall_mem_cons.mpr ⟨lw_p42, List.forall_mem_cons.mpr ⟨lw_p43, List.forall_mem_cons.mpr ⟨lw_p44, List.forall_mem_cons.mpr ⟨lw_p45, List.forall_mem_cons.mpr ⟨lw_p46, List.forall_mem_cons.mpr ⟨lw_p47, fun _ h => absurd h List.not_mem_nil⟩⟩⟩⟩⟩⟩⟩⟩⟩⟩⟩⟩⟩⟩⟩⟩
theorem lw_p48 : lw_okq (⟨"MirrorLiesModel", "many", "()I"⟩, 65) := ⟨⟨by decide +kernel, by decide +kernel⟩, List.mem_of_getElem? (i := 1200) (by decide +kernel), List.mem_of_getElem? (i := 1214) (by decide +kernel), List.mem_of_getElem? (i := 1215) (by decide +kernel)⟩
theorem lw_p49 : lw_okq (⟨"MirrorLiesModel", "goOn", "()V"⟩, 65) := ⟨⟨by decide +kernel, by decide +kernel⟩, List.mem_of_getElem? (i := 1200) (by decide +kernel), List.mem_of_getElem? (i := 1418) (by decide +kernel), List.mem_of_getElem? (i := 1419) (by decide +kernel)⟩
theorem lw_p50 : lw_okq (⟨"MirrorLiesModel", "sign", "(I)I"⟩, 65) := ⟨⟨by decide +kernel, by decide +kernel⟩, List.mem_of_getElem? (i := 1200) (by decide +kernel), List.mem_of_getElem? (i := 1422) (by decide +kernel), List.mem_of_getElem? (i := 1423) (by decide +kernel)⟩
theorem lw_p51 : lw_okq (⟨"MirrorLiesModel", "isGood", "()Z"⟩, 65) := ⟨⟨by decide +kernel, by decide +kernel⟩, List.mem_of_getElem? (i := 1200) (by decide +kernel), List.mem_of_getElem? (i := 1455) (by decide +kernel), List.mem_of_getElem? (i := 1456) (by decide +kernel)⟩
theorem lw_p52 : lw_okq (⟨"MirrorLiesModel", "readLine", "()V"⟩, 65) := ⟨⟨by decide +kernel, by decide +kernel⟩, List.mem_of_getElem? (i := 1200) (by decide +kernel), List.mem_of_getElem? (i := 1459) (by decide +kernel), List.mem_of_getElem? (i := 1460) (by decide +kernel)⟩
theorem lw_p53 : lw_okq (⟨"MirrorLiesModel", "isFull", "()Z"⟩, 65) := ⟨⟨by decide +kernel, by decide +kernel⟩, List.mem_of_getElem? (i := 1200) (by decide +kernel), List.mem_of_getElem? (i := 1463) (by decide +kernel), List.mem_of_getElem? (i := 1464) (by decide +kernel)⟩
theorem lw_p54 : lw_okq (⟨"MirrorLiesModel", "isWord", "(J)Z"⟩, 65) := ⟨⟨by decide +kernel, by decide +kernel⟩, List.mem_of_getElem? (i := 1200) (by decide +kernel), List.mem_of_getElem? (i := 1467) (by decide +kernel), List.mem_of_getElem? (i := 1468) (by decide +kernel)⟩
theorem lw_p55 : lw_okq (⟨"MirrorLiesModel", "misplaced", "()V"⟩, 65) := ⟨⟨by decide +kernel, by decide +kernel⟩, List.mem_of_getElem? (i := 1200) (by decide +kernel), List.mem_of_getElem? (i := 1471) (by decide +kernel), List.mem_of_getElem? (i := 1472) (by decide +kernel)⟩
theorem lw_p56 : lw_okq (⟨"MirrorLiesModel", "fails", "(II)V"⟩, 65) := ⟨⟨by decide +kernel, by decide +kernel⟩, List.mem_of_getElem? (i := 1200) (by decide +kernel), List.mem_of_getElem? (i := 1475) (by decide +kernel), List.mem_of_getElem? (i := 1476) (by decide +kernel)⟩
theorem lw_p57 : lw_okq (⟨"MirrorLiesModel", "numeral", "(II)I"⟩, 65) := ⟨⟨by decide +kernel, by decide +kernel⟩, List.mem_of_getElem? (i := 1200) (by decide +kernel), List.mem_of_getElem? (i := 1479) (by decide +kernel), List.mem_of_getElem? (i := 1480) (by decide +kernel)⟩
theorem lw_p58 : lw_okq (⟨"MirrorLiesModel", "readBoy", "()V"⟩, 65) := ⟨⟨by decide +kernel, by decide +kernel⟩, List.mem_of_getElem? (i := 1200) (by decide +kernel), List.mem_of_getElem? (i := 1483) (by decide +kernel), List.mem_of_getElem? (i := 1484) (by decide +kernel)⟩
theorem lw_p59 : lw_okq (⟨"MirrorLiesModel", "here", "([JII)I"⟩, 65) := ⟨⟨by decide +kernel, by decide +kernel⟩, List.mem_of_getElem? (i := 1200) (by decide +kernel), List.mem_of_getElem? (i := 1487) (by decide +kernel), List.mem_of_getElem? (i := 1488) (by decide +kernel)⟩
theorem lw_p60 : lw_okq (⟨"MirrorLiesModel", "fresh", "(I)J"⟩, 65) := ⟨⟨by decide +kernel, by decide +kernel⟩, List.mem_of_getElem? (i := 1200) (by decide +kernel), List.mem_of_getElem? (i := 1491) (by decide +kernel), List.mem_of_getElem? (i := 1492) (by decide +kernel)⟩
theorem lw_p61 : lw_okq (⟨"MirrorLiesModel", "readMirror", "()V"⟩, 65) := ⟨⟨by decide +kernel, by decide +kernel⟩, List.mem_of_getElem? (i := 1200) (by decide +kernel), List.mem_of_getElem? (i := 1495) (by decide +kernel), List.mem_of_getElem? (i := 1496) (by decide +kernel)⟩
theorem lw_p62 : lw_okq (⟨"MirrorLiesModel", "must", "(Z)V"⟩, 65) := ⟨⟨by decide +kernel, by decide +kernel⟩, List.mem_of_getElem? (i := 1200) (by decide +kernel), List.mem_of_getElem? (i := 1499) (by decide +kernel), List.mem_of_getElem? (i := 1500) (by decide +kernel)⟩
theorem lw_p63 : lw_okq (⟨"MirrorLiesModel", "readRule", "(I)V"⟩, 65) := ⟨⟨by decide +kernel, by decide +kernel⟩, List.mem_of_getElem? (i := 1200) (by decide +kernel), List.mem_of_getElem? (i := 1503) (by decide +kernel), List.mem_of_getElem? (i := 1504) (by decide +kernel)⟩
def lw_privs_4 : List (MethodName × Nat) := [(⟨"MirrorLiesModel", "many", "()I"⟩, 65), (⟨"MirrorLiesModel", "goOn", "()V"⟩, 65), (⟨"MirrorLiesModel", "sign", "(I)I"⟩, 65), (⟨"MirrorLiesModel", "isGood", "()Z"⟩, 65), (⟨"MirrorLiesModel", "readLine", "()V"⟩, 65), (⟨"MirrorLiesModel", "isFull", "()Z"⟩, 65), (⟨"MirrorLiesModel", "isWord", "(J)Z"⟩, 65), (⟨"MirrorLiesModel", "misplaced", "()V"⟩, 65), (⟨"MirrorLiesModel", "fails", "(II)V"⟩, 65), (⟨"MirrorLiesModel", "numeral", "(II)I"⟩, 65), (⟨"MirrorLiesModel", "readBoy", "()V"⟩, 65), (⟨"MirrorLiesModel", "here", "([JII)I"⟩, 65), (⟨"MirrorLiesModel", "fresh", "(I)J"⟩, 65), (⟨"MirrorLiesModel", "readMirror", "()V"⟩, 65), (⟨"MirrorLiesModel", "must", "(Z)V"⟩, 65), (⟨"MirrorLiesModel", "readRule", "(I)V"⟩, 65)]
theorem lw_r4 : ∀ q ∈ lw_privs_4, lw_okq q := List.forall_mem_cons.mpr ⟨lw_p48, List.forall_mem_cons.mpr ⟨lw_p49, List.forall_mem_cons.mpr ⟨lw_p50, List.forall_mem_cons.mpr ⟨lw_p51, List.forall_mem_cons.mpr ⟨lw_p52, List.forall_mem_cons.mpr ⟨lw_p53, List.forall_mem_cons.mpr ⟨lw_p54, List.forall_mem_cons.mpr ⟨lw_p55, List.forall_mem_cons.mpr ⟨lw_p56, List.forall_mem_cons.mpr ⟨lw_p57, List.forall_mem_cons.mpr ⟨lw_p58, List.forall_mem_cons.mpr ⟨lw_p59, List.forall_mem_cons.mpr ⟨lw_p60, List.forall_mem_cons.mpr ⟨lw_p61, List.forall_mem_cons.mpr ⟨lw_p62, List.forall_mem_cons.mpr ⟨lw_p63, fun _ h => absurd h List.not_mem_nil⟩⟩⟩⟩⟩⟩⟩⟩⟩⟩⟩⟩⟩⟩⟩⟩
theorem lw_p64 : lw_okq (⟨"MirrorLiesModel", "e", "()V"⟩, 65) := ⟨⟨by decide +kernel, by decide +kernel⟩, List.mem_of_getElem? (i := 1200) (by decide +kernel), List.mem_of_getElem? (i := 1507) (by decide +kernel), List.mem_of_getElem? (i := 1508) (by decide +kernel)⟩
theorem lw_p65 : lw_okq (⟨"MirrorLiesModel", "pushE", "(II)V"⟩, 65) := ⟨⟨by decide +kernel, by decide +kernel⟩, List.mem_of_getElem? (i := 1200) (by decide +kernel), List.mem_of_getElem? (i := 1511) (by decide +kernel), List.mem_of_getElem? (i := 1512) (by decide +kernel)⟩
theorem lw_p66 : lw_okq (⟨"MirrorLiesModel", "unit", "()Z"⟩, 65) := ⟨⟨by decide +kernel, by decide +kernel⟩, List.mem_of_getElem? (i := 1200) (by decide +kernel), List.mem_of_getElem? (i := 1515) (by decide +kernel), List.mem_of_getElem? (i := 1516) (by decide +kernel)⟩
theorem lw_p67 : lw_okq (⟨"MirrorLiesModel", "isSignHere", "(I)Z"⟩, 65) := ⟨⟨by decide +kernel, by decide +kernel⟩, List.mem_of_getElem? (i := 1200) (by decide +kernel), List.mem_of_getElem? (i := 1519) (by decide +kernel), List.mem_of_getElem? (i := 1520) (by decide +kernel)⟩
theorem lw_p68 : lw_okq (⟨"MirrorLiesModel", "wordHere", "()I"⟩, 65) := ⟨⟨by decide +kernel, by decide +kernel⟩, List.mem_of_getElem? (i := 1200) (by decide +kernel), List.mem_of_getElem? (i := 1523) (by decide +kernel), List.mem_of_getElem? (i := 1524) (by decide +kernel)⟩
theorem lw_p69 : lw_okq (⟨"MirrorLiesModel", "emit", "(II)V"⟩, 65) := ⟨⟨by decide +kernel, by decide +kernel⟩, List.mem_of_getElem? (i := 1200) (by decide +kernel), List.mem_of_getElem? (i := 1527) (by decide +kernel), List.mem_of_getElem? (i := 1528) (by decide +kernel)⟩
theorem lw_p70 : lw_okq (⟨"MirrorLiesModel", "behindUnit", "()Z"⟩, 65) := ⟨⟨by decide +kernel, by decide +kernel⟩, List.mem_of_getElem? (i := 1200) (by decide +kernel), List.mem_of_getElem? (i := 1531) (by decide +kernel), List.mem_of_getElem? (i := 1532) (by decide +kernel)⟩
theorem lw_p71 : lw_okq (⟨"MirrorLiesModel", "rankHere", "()I"⟩, 65) := ⟨⟨by decide +kernel, by decide +kernel⟩, List.mem_of_getElem? (i := 1200) (by decide +kernel), List.mem_of_getElem? (i := 1535) (by decide +kernel), List.mem_of_getElem? (i := 1536) (by decide +kernel)⟩
theorem lw_p72 : lw_okq (⟨"MirrorLiesModel", "isCompared", "()Z"⟩, 65) := ⟨⟨by decide +kernel, by decide +kernel⟩, List.mem_of_getElem? (i := 1200) (by decide +kernel), List.mem_of_getElem? (i := 1539) (by decide +kernel), List.mem_of_getElem? (i := 1540) (by decide +kernel)⟩
theorem lw_p73 : lw_okq (⟨"MirrorLiesModel", "after", "(JII)I"⟩, 65) := ⟨⟨by decide +kernel, by decide +kernel⟩, List.mem_of_getElem? (i := 1200) (by decide +kernel), List.mem_of_getElem? (i := 1543) (by decide +kernel), List.mem_of_getElem? (i := 1544) (by decide +kernel)⟩
theorem lw_p74 : lw_okq (⟨"MirrorLiesModel", "isBoy", "(I)Z"⟩, 65) := ⟨⟨by decide +kernel, by decide +kernel⟩, List.mem_of_getElem? (i := 1200) (by decide +kernel), List.mem_of_getElem? (i := 1555) (by decide +kernel), List.mem_of_getElem? (i := 1556) (by decide +kernel)⟩
theorem lw_p75 : lw_okq (⟨"MirrorLiesModel", "isMirror", "(I)Z"⟩, 65) := ⟨⟨by decide +kernel, by decide +kernel⟩, List.mem_of_getElem? (i := 1200) (by decide +kernel), List.mem_of_getElem? (i := 1566) (by decide +kernel), List.mem_of_getElem? (i := 1567) (by decide +kernel)⟩
theorem lw_p76 : lw_okq (⟨"MirrorLiesModel", "isFace", "(I)Z"⟩, 65) := ⟨⟨by decide +kernel, by decide +kernel⟩, List.mem_of_getElem? (i := 1200) (by decide +kernel), List.mem_of_getElem? (i := 1574) (by decide +kernel), List.mem_of_getElem? (i := 1575) (by decide +kernel)⟩
theorem lw_p77 : lw_okq (⟨"MirrorLiesModel", "faces", "()I"⟩, 65) := ⟨⟨by decide +kernel, by decide +kernel⟩, List.mem_of_getElem? (i := 1200) (by decide +kernel), List.mem_of_getElem? (i := 1578) (by decide +kernel), List.mem_of_getElem? (i := 1579) (by decide +kernel)⟩
theorem lw_p78 : lw_okq (⟨"MirrorLiesModel", "width", "()I"⟩, 65) := ⟨⟨by decide +kernel, by decide +kernel⟩, List.mem_of_getElem? (i := 1200) (by decide +kernel), List.mem_of_getElem? (i := 1582) (by decide +kernel), List.mem_of_getElem? (i := 1583) (by decide +kernel)⟩
theorem lw_p79 : lw_okq (⟨"MirrorLiesModel", "lieOf", "(IIIII)I"⟩, 65) := ⟨⟨by decide +kernel, by decide +kernel⟩, List.mem_of_getElem? (i := 1200) (by decide +kernel), List.mem_of_getElem? (i := 1586) (by decide +kernel), List.mem_of_getElem? (i := 1587) (by decide +kernel)⟩
def lw_privs_5 : List (MethodName × Nat) := [(⟨"MirrorLiesModel", "e", "()V"⟩, 65), (⟨"MirrorLiesModel", "pushE", "(II)V"⟩, 65), (⟨"MirrorLiesModel", "unit", "()Z"⟩, 65), (⟨"MirrorLiesModel", "isSignHere", "(I)Z"⟩, 65), (⟨"MirrorLiesModel", "wordHere", "()I"⟩, 65), (⟨"MirrorLiesModel", "emit", "(II)V"⟩, 65), (⟨"MirrorLiesModel", "behindUnit", "()Z"⟩, 65), (⟨"MirrorLiesModel", "rankHere", "()I"⟩, 65), (⟨"MirrorLiesModel", "isCompared", "()Z"⟩, 65), (⟨"MirrorLiesModel", "after", "(JII)I"⟩, 65), (⟨"MirrorLiesModel", "isBoy", "(I)Z"⟩, 65), (⟨"MirrorLiesModel", "isMirror", "(I)Z"⟩, 65), (⟨"MirrorLiesModel", "isFace", "(I)Z"⟩, 65), (⟨"MirrorLiesModel", "faces", "()I"⟩, 65), (⟨"MirrorLiesModel", "width", "()I"⟩, 65), (⟨"MirrorLiesModel", "lieOf", "(IIIII)I"⟩, 65)]
theorem lw_r5 : ∀ q ∈ lw_privs_5, lw_okq q := List.forall_mem_cons.mpr ⟨lw_p64, List.forall_mem_cons.mpr ⟨lw_p65, List.forall_mem_cons.mpr ⟨lw_p66, List.forall_mem_cons.mpr ⟨lw_p67, List.forall_mem_cons.mpr ⟨lw_p68, List.forall_mem_cons.mpr ⟨lw_p69, List.forall_mem_cons.mpr ⟨lw_p70, List.forall_mem_cons.mpr ⟨lw_p71, List.forall_mem_cons.mpr ⟨lw_p72, List.forall_mem_cons.mpr ⟨lw_p73, List.forall_mem_cons.mpr ⟨lw_p74, List.forall_mem_cons.mpr ⟨lw_p75, List.forall_mem_cons.mpr ⟨lw_p76, List.forall_mem_cons.mpr ⟨lw_p77, List.forall_mem_cons.mpr ⟨lw_p78, List.forall_mem_cons.mpr ⟨lw_p79, fun _ h => absurd h List.not_mem_nil⟩⟩⟩⟩⟩⟩⟩⟩⟩⟩⟩⟩⟩⟩⟩⟩
theorem lw_p80 : lw_okq (⟨"MirrorLiesModel", "comes", "(I)I"⟩, 65) := ⟨⟨by decide +kernel, by decide +kernel⟩, List.mem_of_getElem? (i := 1200) (by decide +kernel), List.mem_of_getElem? (i := 1596) (by decide +kernel), List.mem_of_getElem? (i := 1597) (by decide +kernel)⟩
theorem lw_p81 : lw_okq (⟨"MirrorLiesModel", "asked", "(II)I"⟩, 65) := ⟨⟨by decide +kernel, by decide +kernel⟩, List.mem_of_getElem? (i := 1200) (by decide +kernel), List.mem_of_getElem? (i := 1600) (by decide +kernel), List.mem_of_getElem? (i := 1601) (by decide +kernel)⟩
theorem lw_p82 : lw_okq (⟨"MirrorLiesModel", "shown", "(II)I"⟩, 65) := ⟨⟨by decide +kernel, by decide +kernel⟩, List.mem_of_getElem? (i := 1200) (by decide +kernel), List.mem_of_getElem? (i := 1611) (by decide +kernel), List.mem_of_getElem? (i := 1612) (by decide +kernel)⟩
theorem lw_p83 : lw_okq (⟨"MirrorLiesModel", "imageOf", "(IIIII)I"⟩, 65) := ⟨⟨by decide +kernel, by decide +kernel⟩, List.mem_of_getElem? (i := 1200) (by decide +kernel), List.mem_of_getElem? (i := 1615) (by decide +kernel), List.mem_of_getElem? (i := 1616) (by decide +kernel)⟩
theorem lw_p84 : lw_okq (⟨"MirrorLiesModel", "keepAct", "()V"⟩, 65) := ⟨⟨by decide +kernel, by decide +kernel⟩, List.mem_of_getElem? (i := 1200) (by decide +kernel), List.mem_of_getElem? (i := 1623) (by decide +kernel), List.mem_of_getElem? (i := 1624) (by decide +kernel)⟩
theorem lw_p85 : lw_okq (⟨"MirrorLiesModel", "exchange", "()V"⟩, 65) := ⟨⟨by decide +kernel, by decide +kernel⟩, List.mem_of_getElem? (i := 1200) (by decide +kernel), List.mem_of_getElem? (i := 1653) (by decide +kernel), List.mem_of_getElem? (i := 1654) (by decide +kernel)⟩
theorem lw_p86 : lw_okq (⟨"MirrorLiesModel", "goesRound", "(IIII)I"⟩, 65) := ⟨⟨by decide +kernel, by decide +kernel⟩, List.mem_of_getElem? (i := 1200) (by decide +kernel), List.mem_of_getElem? (i := 1673) (by decide +kernel), List.mem_of_getElem? (i := 1674) (by decide +kernel)⟩
theorem lw_p87 : lw_okq (⟨"MirrorLiesModel", "layImages", "()V"⟩, 65) := ⟨⟨by decide +kernel, by decide +kernel⟩, List.mem_of_getElem? (i := 1200) (by decide +kernel), List.mem_of_getElem? (i := 1694) (by decide +kernel), List.mem_of_getElem? (i := 1695) (by decide +kernel)⟩
theorem lw_p88 : lw_okq (⟨"MirrorLiesModel", "doesUndo", "(II)Z"⟩, 65) := ⟨⟨by decide +kernel, by decide +kernel⟩, List.mem_of_getElem? (i := 1200) (by decide +kernel), List.mem_of_getElem? (i := 1702) (by decide +kernel), List.mem_of_getElem? (i := 1703) (by decide +kernel)⟩
theorem lw_p89 : lw_okq (⟨"MirrorLiesModel", "fewest", "(III)I"⟩, 65) := ⟨⟨by decide +kernel, by decide +kernel⟩, List.mem_of_getElem? (i := 1200) (by decide +kernel), List.mem_of_getElem? (i := 1719) (by decide +kernel), List.mem_of_getElem? (i := 1720) (by decide +kernel)⟩
theorem lw_p90 : lw_okq (⟨"MirrorLiesModel", "rowsTo", "(IIIZ)I"⟩, 65) := ⟨⟨by decide +kernel, by decide +kernel⟩, List.mem_of_getElem? (i := 1200) (by decide +kernel), List.mem_of_getElem? (i := 1723) (by decide +kernel), List.mem_of_getElem? (i := 1724) (by decide +kernel)⟩
theorem lw_p91 : lw_okq (⟨"MirrorLiesModel", "rowsOf", "(I)I"⟩, 65) := ⟨⟨by decide +kernel, by decide +kernel⟩, List.mem_of_getElem? (i := 1200) (by decide +kernel), List.mem_of_getElem? (i := 1727) (by decide +kernel), List.mem_of_getElem? (i := 1728) (by decide +kernel)⟩
theorem lw_p92 : lw_okq (⟨"MirrorLiesModel", "isRow", "(II)Z"⟩, 65) := ⟨⟨by decide +kernel, by decide +kernel⟩, List.mem_of_getElem? (i := 1200) (by decide +kernel), List.mem_of_getElem? (i := 1731) (by decide +kernel), List.mem_of_getElem? (i := 1732) (by decide +kernel)⟩
theorem lw_p93 : lw_okq (⟨"MirrorLiesModel", "seen", "(II)I"⟩, 65) := ⟨⟨by decide +kernel, by decide +kernel⟩, List.mem_of_getElem? (i := 1200) (by decide +kernel), List.mem_of_getElem? (i := 1735) (by decide +kernel), List.mem_of_getElem? (i := 1736) (by decide +kernel)⟩
theorem lw_p94 : lw_okq (⟨"MirrorLiesModel", "fixedBy", "(I)I"⟩, 65) := ⟨⟨by decide +kernel, by decide +kernel⟩, List.mem_of_getElem? (i := 1200) (by decide +kernel), List.mem_of_getElem? (i := 1755) (by decide +kernel), List.mem_of_getElem? (i := 1756) (by decide +kernel)⟩
theorem lw_p95 : lw_okq (⟨"MirrorLiesModel", "apartBy", "(II)I"⟩, 65) := ⟨⟨by decide +kernel, by decide +kernel⟩, List.mem_of_getElem? (i := 1200) (by decide +kernel), List.mem_of_getElem? (i := 1767) (by decide +kernel), List.mem_of_getElem? (i := 1768) (by decide +kernel)⟩
def lw_privs_6 : List (MethodName × Nat) := [(⟨"MirrorLiesModel", "comes", "(I)I"⟩, 65), (⟨"MirrorLiesModel", "asked", "(II)I"⟩, 65), (⟨"MirrorLiesModel", "shown", "(II)I"⟩, 65), (⟨"MirrorLiesModel", "imageOf", "(IIIII)I"⟩, 65), (⟨"MirrorLiesModel", "keepAct", "()V"⟩, 65), (⟨"MirrorLiesModel", "exchange", "()V"⟩, 65), (⟨"MirrorLiesModel", "goesRound", "(IIII)I"⟩, 65), (⟨"MirrorLiesModel", "layImages", "()V"⟩, 65), (⟨"MirrorLiesModel", "doesUndo", "(II)Z"⟩, 65), (⟨"MirrorLiesModel", "fewest", "(III)I"⟩, 65), (⟨"MirrorLiesModel", "rowsTo", "(IIIZ)I"⟩, 65), (⟨"MirrorLiesModel", "rowsOf", "(I)I"⟩, 65), (⟨"MirrorLiesModel", "isRow", "(II)Z"⟩, 65), (⟨"MirrorLiesModel", "seen", "(II)I"⟩, 65), (⟨"MirrorLiesModel", "fixedBy", "(I)I"⟩, 65), (⟨"MirrorLiesModel", "apartBy", "(II)I"⟩, 65)]
theorem lw_r6 : ∀ q ∈ lw_privs_6, lw_okq q := List.forall_mem_cons.mpr ⟨lw_p80, List.forall_mem_cons.mpr ⟨lw_p81, List.forall_mem_cons.mpr ⟨lw_p82, List.forall_mem_cons.mpr ⟨lw_p83, List.forall_mem_cons.mpr ⟨lw_p84, List.forall_mem_cons.mpr ⟨lw_p85, List.forall_mem_cons.mpr ⟨lw_p86, List.forall_mem_cons.mpr ⟨lw_p87, List.forall_mem_cons.mpr ⟨lw_p88, List.forall_mem_cons.mpr ⟨lw_p89, List.forall_mem_cons.mpr ⟨lw_p90, List.forall_mem_cons.mpr ⟨lw_p91, List.forall_mem_cons.mpr ⟨lw_p92, List.forall_mem_cons.mpr ⟨lw_p93, List.forall_mem_cons.mpr ⟨lw_p94, List.forall_mem_cons.mpr ⟨lw_p95, fun _ h => absurd h List.not_mem_nil⟩⟩⟩⟩⟩⟩⟩⟩⟩⟩⟩⟩⟩⟩⟩⟩
theorem lw_p96 : lw_okq (⟨"MirrorLiesModel", "isChanged", "(II)Z"⟩, 65) := ⟨⟨by decide +kernel, by decide +kernel⟩, List.mem_of_getElem? (i := 1200) (by decide +kernel), List.mem_of_getElem? (i := 1799) (by decide +kernel), List.mem_of_getElem? (i := 1800) (by decide +kernel)⟩
theorem lw_p97 : lw_okq (⟨"MirrorLiesModel", "isMended", "(IIII)Z"⟩, 65) := ⟨⟨by decide +kernel, by decide +kernel⟩, List.mem_of_getElem? (i := 1200) (by decide +kernel), List.mem_of_getElem? (i := 1807) (by decide +kernel), List.mem_of_getElem? (i := 1808) (by decide +kernel)⟩
theorem lw_p98 : lw_okq (⟨"MirrorLiesModel", "dustBy", "(II)I"⟩, 65) := ⟨⟨by decide +kernel, by decide +kernel⟩, List.mem_of_getElem? (i := 1200) (by decide +kernel), List.mem_of_getElem? (i := 1811) (by decide +kernel), List.mem_of_getElem? (i := 1812) (by decide +kernel)⟩
theorem lw_p99 : lw_okq (⟨"MirrorLiesModel", "crackBy", "(II)I"⟩, 65) := ⟨⟨by decide +kernel, by decide +kernel⟩, List.mem_of_getElem? (i := 1200) (by decide +kernel), List.mem_of_getElem? (i := 1815) (by decide +kernel), List.mem_of_getElem? (i := 1816) (by decide +kernel)⟩
theorem lw_p100 : lw_okq (⟨"MirrorLiesModel", "layLike", "(I)V"⟩, 65) := ⟨⟨by decide +kernel, by decide +kernel⟩, List.mem_of_getElem? (i := 1200) (by decide +kernel), List.mem_of_getElem? (i := 1839) (by decide +kernel), List.mem_of_getElem? (i := 1840) (by decide +kernel)⟩
theorem lw_p101 : lw_okq (⟨"MirrorLiesModel", "isLike", "(II)Z"⟩, 65) := ⟨⟨by decide +kernel, by decide +kernel⟩, List.mem_of_getElem? (i := 1200) (by decide +kernel), List.mem_of_getElem? (i := 1843) (by decide +kernel), List.mem_of_getElem? (i := 1844) (by decide +kernel)⟩
theorem lw_p102 : lw_okq (⟨"MirrorLiesModel", "withMark", "(I)I"⟩, 65) := ⟨⟨by decide +kernel, by decide +kernel⟩, List.mem_of_getElem? (i := 1200) (by decide +kernel), List.mem_of_getElem? (i := 1859) (by decide +kernel), List.mem_of_getElem? (i := 1860) (by decide +kernel)⟩
theorem lw_p103 : lw_okq (⟨"MirrorLiesModel", "layGroups", "(I)V"⟩, 65) := ⟨⟨by decide +kernel, by decide +kernel⟩, List.mem_of_getElem? (i := 1200) (by decide +kernel), List.mem_of_getElem? (i := 1874) (by decide +kernel), List.mem_of_getElem? (i := 1875) (by decide +kernel)⟩
theorem lw_p104 : lw_okq (⟨"MirrorLiesModel", "looksBy", "(II)I"⟩, 65) := ⟨⟨by decide +kernel, by decide +kernel⟩, List.mem_of_getElem? (i := 1200) (by decide +kernel), List.mem_of_getElem? (i := 1886) (by decide +kernel), List.mem_of_getElem? (i := 1887) (by decide +kernel)⟩
theorem lw_p105 : lw_okq (⟨"MirrorLiesModel", "doTell", "(I)Z"⟩, 65) := ⟨⟨by decide +kernel, by decide +kernel⟩, List.mem_of_getElem? (i := 1200) (by decide +kernel), List.mem_of_getElem? (i := 1894) (by decide +kernel), List.mem_of_getElem? (i := 1895) (by decide +kernel)⟩
theorem lw_p106 : lw_okq (⟨"MirrorLiesModel", "prices", "(I)I"⟩, 65) := ⟨⟨by decide +kernel, by decide +kernel⟩, List.mem_of_getElem? (i := 1200) (by decide +kernel), List.mem_of_getElem? (i := 1902) (by decide +kernel), List.mem_of_getElem? (i := 1903) (by decide +kernel)⟩
def lw_privs_7 : List (MethodName × Nat) := [(⟨"MirrorLiesModel", "isChanged", "(II)Z"⟩, 65), (⟨"MirrorLiesModel", "isMended", "(IIII)Z"⟩, 65), (⟨"MirrorLiesModel", "dustBy", "(II)I"⟩, 65), (⟨"MirrorLiesModel", "crackBy", "(II)I"⟩, 65), (⟨"MirrorLiesModel", "layLike", "(I)V"⟩, 65), (⟨"MirrorLiesModel", "isLike", "(II)Z"⟩, 65), (⟨"MirrorLiesModel", "withMark", "(I)I"⟩, 65), (⟨"MirrorLiesModel", "layGroups", "(I)V"⟩, 65), (⟨"MirrorLiesModel", "looksBy", "(II)I"⟩, 65), (⟨"MirrorLiesModel", "doTell", "(I)Z"⟩, 65), (⟨"MirrorLiesModel", "prices", "(I)I"⟩, 65)]
theorem lw_r7 : ∀ q ∈ lw_privs_7, lw_okq q := List.forall_mem_cons.mpr ⟨lw_p96, List.forall_mem_cons.mpr ⟨lw_p97, List.forall_mem_cons.mpr ⟨lw_p98, List.forall_mem_cons.mpr ⟨lw_p99, List.forall_mem_cons.mpr ⟨lw_p100, List.forall_mem_cons.mpr ⟨lw_p101, List.forall_mem_cons.mpr ⟨lw_p102, List.forall_mem_cons.mpr ⟨lw_p103, List.forall_mem_cons.mpr ⟨lw_p104, List.forall_mem_cons.mpr ⟨lw_p105, List.forall_mem_cons.mpr ⟨lw_p106, fun _ h => absurd h List.not_mem_nil⟩⟩⟩⟩⟩⟩⟩⟩⟩⟩⟩
def lw_privs : List (MethodName × Nat) := lw_privs_1 ++ (lw_privs_2 ++ (lw_privs_3 ++ (lw_privs_4 ++ (lw_privs_5 ++ (lw_privs_6 ++ (lw_privs_7))))))
def lw_tbl : List Cond := k2_sels lw_privs ++ tables_1
theorem lw_privs_ok : ∀ q ∈ lw_privs, lw_okq q := by
  show ∀ q ∈ lw_privs_1 ++ (lw_privs_2 ++ (lw_privs_3 ++ (lw_privs_4 ++ (lw_privs_5 ++ (lw_privs_6 ++ (lw_privs_7)))))), lw_okq q
  exact List.forall_mem_append.mpr ⟨lw_r1, List.forall_mem_append.mpr ⟨lw_r2, List.forall_mem_append.mpr ⟨lw_r3, List.forall_mem_append.mpr ⟨lw_r4, List.forall_mem_append.mpr ⟨lw_r5, List.forall_mem_append.mpr ⟨lw_r6, lw_r7⟩⟩⟩⟩⟩⟩
end
section
/-! printed by wip/refl/gen.py out of the claim: the classes, the methods that p1 reaches, their instructions with what they link -/
abbrev rx_E : Type := Nat × Nat × Nat × Nat × Nat × Int × Nat × Nat × Nat × List Int
abbrev rx_R : Type := MethodName × ByteArray × Nat × Option FieldType × Nat × Nat × Nat × List (List rx_E)
def rx_T0 : u_T := fun k => match k with
  | 0 => ("MirrorLies$Acts", "school", "LMirrorLies$School;", true)
  | 1 => ("MirrorLies$Acts", "now", "LMirrorLies$Hour;", true)
  | 2 => ("MirrorLies$Acts", "log", "[I", true)
  | 3 => ("MirrorLies$Acts", "done", "I", false)
  | _ => ("MirrorLies$Acts", "undone", "I", false)
def rx_T1 : u_T := fun k => match k with
  | 0 => ("MirrorLies$Course", "school", "LMirrorLies$School;", true)
  | 1 => ("MirrorLies$Course", "panes", "LMirrorLies$Panes;", true)
  | 2 => ("MirrorLies$Course", "likes", "LMirrorLies$Likes;", true)
  | 3 => ("MirrorLies$Course", "sameAs", "[[I", true)
  | 4 => ("MirrorLies$Course", "looksFor", "[I", true)
  | 5 => ("MirrorLies$Course", "fewest", "I", false)
  | _ => ("MirrorLies$Course", "firstMirror", "I", false)
def rx_T2 : u_T := fun k => match k with
  | 0 => ("MirrorLies$Hour", "faces", "[I", true)
  | 1 => ("MirrorLies$Hour", "dust", "[I", true)
  | 2 => ("MirrorLies$Hour", "cracks", "[I", true)
  | 3 => ("MirrorLies$Hour", "day", "I", false)
  | _ => ("MirrorLies$Hour", "seed", "I", false)
def rx_T3 : u_T := fun k => match k with
  | 0 => ("MirrorLies$Likes", "school", "LMirrorLies$School;", true)
  | 1 => ("MirrorLies$Likes", "panes", "LMirrorLies$Panes;", true)
  | 2 => ("MirrorLies$Likes", "looks", "LMirrorLies$Looks;", true)
  | 3 => ("MirrorLies$Likes", "sizes", "[I", true)
  | 4 => ("MirrorLies$Likes", "faces", "[I", true)
  | _ => ("MirrorLies$Likes", "count", "I", false)
def rx_T4 : u_T := fun k => match k with
  | 0 => ("MirrorLies$Looks", "mirrors", "[I", true)
  | 1 => ("MirrorLies$Looks", "images", "[I", true)
  | 2 => ("MirrorLies$Looks", "toldAt", "[I", true)
  | 3 => ("MirrorLies$Looks", "untoldAt", "[I", true)
  | 4 => ("MirrorLies$Looks", "count", "I", false)
  | _ => ("MirrorLies$Looks", "time", "I", false)
def rx_T5 : u_T := fun k => match k with
  | 0 => ("MirrorLies$Panes", "school", "LMirrorLies$School;", true)
  | 1 => ("MirrorLies$Panes", "now", "LMirrorLies$Hour;", true)
  | 2 => ("MirrorLies$Panes", "images", "[[I", true)
  | 3 => ("MirrorLies$Panes", "fresh", "[Z", true)
  | 4 => ("MirrorLies$Panes", "past", "[I", true)
  | 5 => ("MirrorLies$Panes", "metAt", "[I", true)
  | 6 => ("MirrorLies$Panes", "firstTurn", "I", false)
  | 7 => ("MirrorLies$Panes", "fewerTurns", "I", false)
  | _ => ("MirrorLies$Panes", "lieOfSort", "[I", true)
def rx_T6 : u_T := fun k => match k with
  | 0 => ("MirrorLies$Reader", "tokens", "LMirrorLies$Tape;", true)
  | 1 => ("MirrorLies$Reader", "boyNames", "[J", true)
  | 2 => ("MirrorLies$Reader", "mirrorNames", "[J", true)
  | 3 => ("MirrorLies$Reader", "school", "LMirrorLies$School;", true)
  | 4 => ("MirrorLies$Reader", "drawTold", "Z", false)
  | 5 => ("MirrorLies$Reader", "unitsInOne", "I", false)
  | 6 => ("MirrorLies$Reader", "fault", "I", false)
  | _ => ("MirrorLies$Reader", "place", "I", false)
def rx_T7 : u_T := fun k => match k with
  | 0 => ("MirrorLies$School", "width", "I", false)
  | 1 => ("MirrorLies$School", "boys", "I", false)
  | 2 => ("MirrorLies$School", "mirrors", "I", false)
  | 3 => ("MirrorLies$School", "units", "I", false)
  | 4 => ("MirrorLies$School", "draw", "I", false)
  | 5 => ("MirrorLies$School", "faces", "[I", true)
  | 6 => ("MirrorLies$School", "sees", "[I", true)
  | 7 => ("MirrorLies$School", "price", "[I", true)
  | 8 => ("MirrorLies$School", "dust", "[I", true)
  | 9 => ("MirrorLies$School", "code", "[I", true)
  | 10 => ("MirrorLies$School", "begin", "[I", true)
  | 11 => ("MirrorLies$School", "steps", "I", false)
  | _ => ("MirrorLies$School", "stack", "[I", true)
def rx_T8 : u_T := fun k => match k with
  | 0 => ("MirrorLies$Search", "school", "LMirrorLies$School;", true)
  | 1 => ("MirrorLies$Search", "now", "LMirrorLies$Hour;", true)
  | 2 => ("MirrorLies$Search", "panes", "LMirrorLies$Panes;", true)
  | 3 => ("MirrorLies$Search", "met", "[I", true)
  | 4 => ("MirrorLies$Search", "found", "[I", true)
  | _ => ("MirrorLies$Search", "count", "I", false)
def rx_T9 : u_T := fun k => match k with
  | 0 => ("MirrorLies$Tape", "bytes", "[B", true)
  | 1 => ("MirrorLies$Tape", "length", "I", false)
  | 2 => ("MirrorLies$Tape", "next", "I", false)
  | 3 => ("MirrorLies$Tape", "kind", "I", false)
  | 4 => ("MirrorLies$Tape", "place", "I", false)
  | 5 => ("MirrorLies$Tape", "number", "I", false)
  | _ => ("MirrorLies$Tape", "word", "J", false)
def rx_T10 : u_T := fun k => match k with
  | 0 => ("MirrorLies$Telling", "school", "LMirrorLies$School;", true)
  | 1 => ("MirrorLies$Telling", "panes", "LMirrorLies$Panes;", true)
  | 2 => ("MirrorLies$Telling", "likes", "LMirrorLies$Likes;", true)
  | 3 => ("MirrorLies$Telling", "confuses", "[Z", true)
  | 4 => ("MirrorLies$Telling", "latest", "[[I", true)
  | 5 => ("MirrorLies$Telling", "before", "[[I", true)
  | _ => ("MirrorLies$Telling", "sameIn", "[I", true)
def rx_T11 : u_T := fun k => match k with
  | 0 => ("MirrorLies", "tape", "LMirrorLies$Tape;", true)
  | 1 => ("MirrorLies", "school", "LMirrorLies$School;", true)
  | 2 => ("MirrorLies", "draft", "LMirrorLies$School;", true)
  | 3 => ("MirrorLies", "reader", "LMirrorLies$Reader;", true)
  | 4 => ("MirrorLies", "now", "LMirrorLies$Hour;", true)
  | 5 => ("MirrorLies", "ahead", "LMirrorLies$Hour;", true)
  | 6 => ("MirrorLies", "acts", "LMirrorLies$Acts;", true)
  | 7 => ("MirrorLies", "boxes", "[LMirrorLies$Hour;", true)
  | 8 => ("MirrorLies", "kept", "[Z", true)
  | 9 => ("MirrorLies", "panes", "LMirrorLies$Panes;", true)
  | 10 => ("MirrorLies", "search", "LMirrorLies$Search;", true)
  | 11 => ("MirrorLies", "looks", "LMirrorLies$Looks;", true)
  | 12 => ("MirrorLies", "likes", "LMirrorLies$Likes;", true)
  | 13 => ("MirrorLies", "plan", "LMirrorLies$Course;", true)
  | _ => ("MirrorLies", "telling", "LMirrorLies$Telling;", true)
def rx_T12 : u_T := fun k => match k with
  | 0 => ("MirrorLiesModel", "tape", "[B", true)
  | 1 => ("MirrorLiesModel", "text", "[B", true)
  | 2 => ("MirrorLiesModel", "taped", "I", false)
  | 3 => ("MirrorLiesModel", "size", "I", false)
  | 4 => ("MirrorLiesModel", "faultKind", "I", false)
  | 5 => ("MirrorLiesModel", "faultPlace", "I", false)
  | 6 => ("MirrorLiesModel", "at", "I", false)
  | 7 => ("MirrorLiesModel", "end", "I", false)
  | 8 => ("MirrorLiesModel", "token", "I", false)
  | 9 => ("MirrorLiesModel", "number", "I", false)
  | 10 => ("MirrorLiesModel", "name", "J", false)
  | 11 => ("MirrorLiesModel", "wide", "[I", true)
  | 12 => ("MirrorLiesModel", "boys", "[I", true)
  | 13 => ("MirrorLiesModel", "mirrors", "[I", true)
  | 14 => ("MirrorLiesModel", "units", "[I", true)
  | 15 => ("MirrorLiesModel", "draw", "[I", true)
  | 16 => ("MirrorLiesModel", "lines", "[I", true)
  | 17 => ("MirrorLiesModel", "faceTold", "[I", true)
  | 18 => ("MirrorLiesModel", "sees", "[I", true)
  | 19 => ("MirrorLiesModel", "price", "[I", true)
  | 20 => ("MirrorLiesModel", "dustTold", "[I", true)
  | 21 => ("MirrorLiesModel", "ruleFrom", "[I", true)
  | 22 => ("MirrorLiesModel", "ruleTo", "[I", true)
  | 23 => ("MirrorLiesModel", "isDraw", "[Z", true)
  | 24 => ("MirrorLiesModel", "bName", "[J", true)
  | 25 => ("MirrorLiesModel", "mName", "[J", true)
  | 26 => ("MirrorLiesModel", "code", "[I", true)
  | 27 => ("MirrorLiesModel", "codeNumber", "[I", true)
  | 28 => ("MirrorLiesModel", "eWhat", "[I", true)
  | 29 => ("MirrorLiesModel", "eSign", "[I", true)
  | 30 => ("MirrorLiesModel", "pile", "[I", true)
  | 31 => ("MirrorLiesModel", "bank", "I", false)
  | 32 => ("MirrorLiesModel", "rb", "I", false)
  | 33 => ("MirrorLiesModel", "codes", "I", false)
  | 34 => ("MirrorLiesModel", "within", "I", false)
  | 35 => ("MirrorLiesModel", "piled", "I", false)
  | 36 => ("MirrorLiesModel", "unitsInRule", "I", false)
  | 37 => ("MirrorLiesModel", "askDay", "I", false)
  | 38 => ("MirrorLiesModel", "askMany", "I", false)
  | 39 => ("MirrorLiesModel", "askFirst", "I", false)
  | 40 => ("MirrorLiesModel", "askDusty", "I", false)
  | 41 => ("MirrorLiesModel", "all", "[I", true)
  | 42 => ("MirrorLiesModel", "images", "[I", true)
  | 43 => ("MirrorLiesModel", "was", "[I", true)
  | 44 => ("MirrorLiesModel", "acts", "I", false)
  | 45 => ("MirrorLiesModel", "undone", "I", false)
  | 46 => ("MirrorLiesModel", "hallRow", "[I", true)
  | 47 => ("MirrorLiesModel", "laidRow", "[I", true)
  | 48 => ("MirrorLiesModel", "metAt", "[I", true)
  | 49 => ("MirrorLiesModel", "laid", "I", false)
  | 50 => ("MirrorLiesModel", "dusts", "[I", true)
  | 51 => ("MirrorLiesModel", "lying", "[I", true)
  | 52 => ("MirrorLiesModel", "lMirror", "[I", true)
  | 53 => ("MirrorLiesModel", "lImage", "[I", true)
  | 54 => ("MirrorLiesModel", "lTold", "[I", true)
  | 55 => ("MirrorLiesModel", "lUntold", "[I", true)
  | 56 => ("MirrorLiesModel", "like", "[I", true)
  | 57 => ("MirrorLiesModel", "groupOf", "[I", true)
  | 58 => ("MirrorLiesModel", "looks", "I", false)
  | 59 => ("MirrorLiesModel", "time", "I", false)
  | 60 => ("MirrorLiesModel", "likeMany", "I", false)
  | 61 => ("MirrorLiesModel", "fewestOf", "[I", true)
  | 62 => ("MirrorLiesModel", "mirrorOf", "[I", true)
  | 63 => ("MirrorLiesModel", "boxAll", "[I", true)
  | _ => ("MirrorLiesModel", "isBoxed", "[Z", true)
def rx_Y0 : Nat → FieldType := fun k => match k with
  | 0 => .object "MirrorLies$School"
  | 1 => .object "MirrorLies$Hour"
  | 2 => .array .int
  | 3 => .int
  | _ => .int
def rx_Y1 : Nat → FieldType := fun k => match k with
  | 0 => .object "MirrorLies$School"
  | 1 => .object "MirrorLies$Panes"
  | 2 => .object "MirrorLies$Likes"
  | 3 => .array (.array .int)
  | 4 => .array .int
  | 5 => .int
  | _ => .int
def rx_Y2 : Nat → FieldType := fun k => match k with
  | 0 => .array .int
  | 1 => .array .int
  | 2 => .array .int
  | 3 => .int
  | _ => .int
def rx_Y3 : Nat → FieldType := fun k => match k with
  | 0 => .object "MirrorLies$School"
  | 1 => .object "MirrorLies$Panes"
  | 2 => .object "MirrorLies$Looks"
  | 3 => .array .int
  | 4 => .array .int
  | _ => .int
def rx_Y4 : Nat → FieldType := fun k => match k with
  | 0 => .array .int
  | 1 => .array .int
  | 2 => .array .int
  | 3 => .array .int
  | 4 => .int
  | _ => .int
def rx_Y5 : Nat → FieldType := fun k => match k with
  | 0 => .object "MirrorLies$School"
  | 1 => .object "MirrorLies$Hour"
  | 2 => .array (.array .int)
  | 3 => .array .boolean
  | 4 => .array .int
  | 5 => .array .int
  | 6 => .int
  | 7 => .int
  | _ => .array .int
def rx_Y6 : Nat → FieldType := fun k => match k with
  | 0 => .object "MirrorLies$Tape"
  | 1 => .array .long
  | 2 => .array .long
  | 3 => .object "MirrorLies$School"
  | 4 => .boolean
  | 5 => .int
  | 6 => .int
  | _ => .int
def rx_Y7 : Nat → FieldType := fun k => match k with
  | 0 => .int
  | 1 => .int
  | 2 => .int
  | 3 => .int
  | 4 => .int
  | 5 => .array .int
  | 6 => .array .int
  | 7 => .array .int
  | 8 => .array .int
  | 9 => .array .int
  | 10 => .array .int
  | 11 => .int
  | _ => .array .int
def rx_Y8 : Nat → FieldType := fun k => match k with
  | 0 => .object "MirrorLies$School"
  | 1 => .object "MirrorLies$Hour"
  | 2 => .object "MirrorLies$Panes"
  | 3 => .array .int
  | 4 => .array .int
  | _ => .int
def rx_Y9 : Nat → FieldType := fun k => match k with
  | 0 => .array .byte
  | 1 => .int
  | 2 => .int
  | 3 => .int
  | 4 => .int
  | 5 => .int
  | _ => .long
def rx_Y10 : Nat → FieldType := fun k => match k with
  | 0 => .object "MirrorLies$School"
  | 1 => .object "MirrorLies$Panes"
  | 2 => .object "MirrorLies$Likes"
  | 3 => .array .boolean
  | 4 => .array (.array .int)
  | 5 => .array (.array .int)
  | _ => .array .int
def rx_Y11 : Nat → FieldType := fun k => match k with
  | 0 => .object "MirrorLies$Tape"
  | 1 => .object "MirrorLies$School"
  | 2 => .object "MirrorLies$School"
  | 3 => .object "MirrorLies$Reader"
  | 4 => .object "MirrorLies$Hour"
  | 5 => .object "MirrorLies$Hour"
  | 6 => .object "MirrorLies$Acts"
  | 7 => .array (.object "MirrorLies$Hour")
  | 8 => .array .boolean
  | 9 => .object "MirrorLies$Panes"
  | 10 => .object "MirrorLies$Search"
  | 11 => .object "MirrorLies$Looks"
  | 12 => .object "MirrorLies$Likes"
  | 13 => .object "MirrorLies$Course"
  | _ => .object "MirrorLies$Telling"
def rx_Y12 : Nat → FieldType := fun k => match k with
  | 0 => .array .byte
  | 1 => .array .byte
  | 2 => .int
  | 3 => .int
  | 4 => .int
  | 5 => .int
  | 6 => .int
  | 7 => .int
  | 8 => .int
  | 9 => .int
  | 10 => .long
  | 11 => .array .int
  | 12 => .array .int
  | 13 => .array .int
  | 14 => .array .int
  | 15 => .array .int
  | 16 => .array .int
  | 17 => .array .int
  | 18 => .array .int
  | 19 => .array .int
  | 20 => .array .int
  | 21 => .array .int
  | 22 => .array .int
  | 23 => .array .boolean
  | 24 => .array .long
  | 25 => .array .long
  | 26 => .array .int
  | 27 => .array .int
  | 28 => .array .int
  | 29 => .array .int
  | 30 => .array .int
  | 31 => .int
  | 32 => .int
  | 33 => .int
  | 34 => .int
  | 35 => .int
  | 36 => .int
  | 37 => .int
  | 38 => .int
  | 39 => .int
  | 40 => .int
  | 41 => .array .int
  | 42 => .array .int
  | 43 => .array .int
  | 44 => .int
  | 45 => .int
  | 46 => .array .int
  | 47 => .array .int
  | 48 => .array .int
  | 49 => .int
  | 50 => .array .int
  | 51 => .array .int
  | 52 => .array .int
  | 53 => .array .int
  | 54 => .array .int
  | 55 => .array .int
  | 56 => .array .int
  | 57 => .array .int
  | 58 => .int
  | 59 => .int
  | 60 => .int
  | 61 => .array .int
  | 62 => .array .int
  | 63 => .array .int
  | _ => .array .boolean
def rx_cls : List vw_C := [("MirrorLies$Acts", rx_T0, 5), ("MirrorLies$Course", rx_T1, 7), ("MirrorLies$Hour", rx_T2, 5), ("MirrorLies$Likes", rx_T3, 6), ("MirrorLies$Looks", rx_T4, 6), ("MirrorLies$Panes", rx_T5, 9), ("MirrorLies$Reader", rx_T6, 8), ("MirrorLies$School", rx_T7, 13), ("MirrorLies$Search", rx_T8, 6), ("MirrorLies$Tape", rx_T9, 7), ("MirrorLies$Telling", rx_T10, 7), ("MirrorLies", rx_T11, 15), ("MirrorLiesModel", rx_T12, 65)]
def rx_Ys : List (Nat → FieldType) := [rx_Y0, rx_Y1, rx_Y2, rx_Y3, rx_Y4, rx_Y5, rx_Y6, rx_Y7, rx_Y8, rx_Y9, rx_Y10, rx_Y11, rx_Y12]
def rx_P0 : List Nat := [327, 329, 331, 333, 335]
def rx_P1 : List Nat := [482, 484, 486, 488, 490, 492, 494]
def rx_P2 : List Nat := [303, 305, 307, 309, 311]
def rx_P3 : List Nat := [453, 455, 457, 459, 461, 463]
def rx_P4 : List Nat := [422, 424, 426, 428, 430, 432]
def rx_P5 : List Nat := [358, 360, 362, 364, 366, 368, 370, 372, 374]
def rx_P6 : List Nat := [258, 260, 262, 264, 266, 268, 270, 272]
def rx_P7 : List Nat := [214, 216, 218, 220, 222, 224, 226, 228, 230, 232, 234, 236, 238]
def rx_P8 : List Nat := [392, 394, 396, 398, 400, 402]
def rx_P9 : List Nat := [155, 157, 159, 161, 163, 165, 167]
def rx_P10 : List Nat := [511, 513, 515, 517, 519, 521, 523]
def rx_P11 : List Nat := [551, 553, 555, 557, 559, 561, 563, 565, 567, 569, 571, 573, 575, 577, 579]
def rx_P12 : List Nat := [1389, 1391, 1393, 1395, 1397, 1399, 1401, 1403, 1405, 1407, 1409, 1411, 1413, 1415, 1417, 1419, 1421, 1423, 1425, 1427, 1429, 1431, 1433, 1435, 1437, 1439, 1441, 1443, 1445, 1447, 1449, 1451, 1453, 1455, 1457, 1459, 1461, 1463, 1465, 1467, 1469, 1471, 1473, 1475, 1477, 1479, 1481, 1483, 1485, 1487, 1489, 1491, 1493, 1495, 1497, 1499, 1501, 1503, 1505, 1507, 1509, 1511, 1513, 1515, 1517]
def rx_c0_0 : List rx_E := [(nat_lit 0, nat_lit 40, nat_lit 3, nat_lit 11, nat_lit 0, .ofNat (nat_lit 0), nat_lit 0, nat_lit 129, nat_lit 7, []), (nat_lit 3, nat_lit 16, nat_lit 1, nat_lit 0, nat_lit 0, .ofNat (nat_lit 0), nat_lit 0, nat_lit 0, nat_lit 0, []), (nat_lit 4, nat_lit 33, nat_lit 3, nat_lit 1, nat_lit 112, .ofNat (nat_lit 0), nat_lit 0, nat_lit 131, nat_lit 9, []), (nat_lit 7, nat_lit 46, nat_lit 1, nat_lit 1, nat_lit 0, .ofNat (nat_lit 0), nat_lit 0, nat_lit 0, nat_lit 0, []), (nat_lit 8, nat_lit 40, nat_lit 3, nat_lit 12, nat_lit 0, .ofNat (nat_lit 0), nat_lit 0, nat_lit 1306, nat_lit 10, []), (nat_lit 11, nat_lit 16, nat_lit 1, nat_lit 0, nat_lit 0, .ofNat (nat_lit 0), nat_lit 0, nat_lit 0, nat_lit 0, []), (nat_lit 12, nat_lit 33, nat_lit 3, nat_lit 106, nat_lit 122, .ofNat (nat_lit 0), nat_lit 0, nat_lit 1308, nat_lit 12, []), (nat_lit 15, nat_lit 46, nat_lit 1, nat_lit 2, nat_lit 0, .ofNat (nat_lit 0), nat_lit 0, nat_lit 0, nat_lit 0, [])]
def rx_c0_1 : List rx_E := [(nat_lit 16, nat_lit 3, nat_lit 1, nat_lit 0, nat_lit 0, .ofNat (nat_lit 0), nat_lit 0, nat_lit 0, nat_lit 0, []), (nat_lit 17, nat_lit 11, nat_lit 1, nat_lit 3, nat_lit 0, .ofNat (nat_lit 0), nat_lit 0, nat_lit 0, nat_lit 0, []), (nat_lit 18, nat_lit 1, nat_lit 1, nat_lit 3, nat_lit 0, .ofNat (nat_lit 0), nat_lit 0, nat_lit 0, nat_lit 0, []), (nat_lit 19, nat_lit 0, nat_lit 1, nat_lit 0, nat_lit 0, .ofNat (nat_lit 0), nat_lit 0, nat_lit 0, nat_lit 0, []), (nat_lit 20, nat_lit 27, nat_lit 1, nat_lit 0, nat_lit 0, .ofNat (nat_lit 0), nat_lit 0, nat_lit 0, nat_lit 0, []), (nat_lit 21, nat_lit 21, nat_lit 2, nat_lit 0, nat_lit 0, .ofNat (nat_lit 6), nat_lit 0, nat_lit 0, nat_lit 0, []), (nat_lit 23, nat_lit 23, nat_lit 1, nat_lit 0, nat_lit 0, .ofNat (nat_lit 0), nat_lit 0, nat_lit 0, nat_lit 0, []), (nat_lit 24, nat_lit 4, nat_lit 3, nat_lit 0, nat_lit 4, .ofNat (nat_lit 1902), nat_lit 0, nat_lit 0, nat_lit 0, []), (nat_lit 27, nat_lit 0, nat_lit 1, nat_lit 0, nat_lit 0, .ofNat (nat_lit 0), nat_lit 0, nat_lit 0, nat_lit 0, []), (nat_lit 28, nat_lit 1, nat_lit 1, nat_lit 3, nat_lit 0, .ofNat (nat_lit 0), nat_lit 0, nat_lit 0, nat_lit 0, []), (nat_lit 29, nat_lit 9, nat_lit 1, nat_lit 0, nat_lit 0, .ofNat (nat_lit 0), nat_lit 0, nat_lit 0, nat_lit 0, []), (nat_lit 30, nat_lit 21, nat_lit 2, nat_lit 0, nat_lit 0, .ofNat (nat_lit 63), nat_lit 0, nat_lit 0, nat_lit 0, [])]
def rx_c0_2 : List rx_E := [(nat_lit 32, nat_lit 18, nat_lit 1, nat_lit 0, nat_lit 0, .ofNat (nat_lit 0), nat_lit 0, nat_lit 0, nat_lit 0, []), (nat_lit 33, nat_lit 38, nat_lit 239, nat_lit 0, nat_lit 0, .ofNat (nat_lit 1887), nat_lit 55, nat_lit 0, nat_lit 0, [.ofNat (nat_lit 239), .ofNat (nat_lit 302), .ofNat (nat_lit 325), .ofNat (nat_lit 338), .ofNat (nat_lit 361), .ofNat (nat_lit 384), .ofNat (nat_lit 417), .ofNat (nat_lit 450), .ofNat (nat_lit 483), .ofNat (nat_lit 516), .ofNat (nat_lit 539), .ofNat (nat_lit 562), .ofNat (nat_lit 595), .ofNat (nat_lit 608), .ofNat (nat_lit 621), .ofNat (nat_lit 634), .ofNat (nat_lit 697), .ofNat (nat_lit 740), .ofNat (nat_lit 793), .ofNat (nat_lit 816), .ofNat (nat_lit 839), .ofNat (nat_lit 872), .ofNat (nat_lit 905), .ofNat (nat_lit 928), .ofNat (nat_lit 961), .ofNat (nat_lit 994), .ofNat (nat_lit 1007), .ofNat (nat_lit 1030), .ofNat (nat_lit 1043), .ofNat (nat_lit 1076), .ofNat (nat_lit 1109), .ofNat (nat_lit 1142), .ofNat (nat_lit 1185), .ofNat (nat_lit 1218), .ofNat (nat_lit 1251), .ofNat (nat_lit 1274), .ofNat (nat_lit 1307), .ofNat (nat_lit 1320), .ofNat (nat_lit 1343), .ofNat (nat_lit 1376), .ofNat (nat_lit 1399), .ofNat (nat_lit 1432), .ofNat (nat_lit 1455), .ofNat (nat_lit 1478), .ofNat (nat_lit 1511), .ofNat (nat_lit 1534), .ofNat (nat_lit 1567), .ofNat (nat_lit 1600), .ofNat (nat_lit 1643), .ofNat (nat_lit 1676), .ofNat (nat_lit 1719), .ofNat (nat_lit 1752), .ofNat (nat_lit 1785), .ofNat (nat_lit 1818), .ofNat (nat_lit 1841), .ofNat (nat_lit 1864)])]
def rx_c0_3 : List rx_E := []
def rx_c0_4 : List rx_E := []
def rx_c0_5 : List rx_E := []
def rx_c0_6 : List rx_E := []
def rx_c0_7 : List rx_E := []
def rx_c0_8 : List rx_E := []
def rx_c0_9 : List rx_E := []
def rx_c0_10 : List rx_E := []
def rx_c0_11 : List rx_E := []
def rx_c0_12 : List rx_E := []
def rx_c0_13 : List rx_E := []
def rx_c0_14 : List rx_E := []
def rx_c0_15 : List rx_E := []
def rx_c0_16 : List rx_E := []
def rx_c0_17 : List rx_E := [(nat_lit 272, nat_lit 0, nat_lit 1, nat_lit 1, nat_lit 0, .ofNat (nat_lit 0), nat_lit 0, nat_lit 0, nat_lit 0, []), (nat_lit 273, nat_lit 0, nat_lit 1, nat_lit 0, nat_lit 0, .ofNat (nat_lit 0), nat_lit 0, nat_lit 0, nat_lit 0, []), (nat_lit 274, nat_lit 1, nat_lit 1, nat_lit 3, nat_lit 0, .ofNat (nat_lit 0), nat_lit 0, nat_lit 0, nat_lit 0, []), (nat_lit 275, nat_lit 3, nat_lit 1, nat_lit 0, nat_lit 0, .ofNat (nat_lit 1), nat_lit 0, nat_lit 0, nat_lit 0, []), (nat_lit 276, nat_lit 12, nat_lit 1, nat_lit 0, nat_lit 0, .ofNat (nat_lit 0), nat_lit 0, nat_lit 0, nat_lit 0, []), (nat_lit 277, nat_lit 9, nat_lit 1, nat_lit 0, nat_lit 0, .ofNat (nat_lit 0), nat_lit 0, nat_lit 0, nat_lit 0, []), (nat_lit 278, nat_lit 0, nat_lit 1, nat_lit 0, nat_lit 0, .ofNat (nat_lit 0), nat_lit 0, nat_lit 0, nat_lit 0, []), (nat_lit 279, nat_lit 1, nat_lit 1, nat_lit 3, nat_lit 0, .ofNat (nat_lit 0), nat_lit 0, nat_lit 0, nat_lit 0, []), (nat_lit 280, nat_lit 3, nat_lit 1, nat_lit 0, nat_lit 0, .ofNat (nat_lit 2), nat_lit 0, nat_lit 0, nat_lit 0, []), (nat_lit 281, nat_lit 12, nat_lit 1, nat_lit 0, nat_lit 0, .ofNat (nat_lit 0), nat_lit 0, nat_lit 0, nat_lit 0, []), (nat_lit 282, nat_lit 9, nat_lit 1, nat_lit 0, nat_lit 0, .ofNat (nat_lit 0), nat_lit 0, nat_lit 0, nat_lit 0, []), (nat_lit 283, nat_lit 0, nat_lit 1, nat_lit 0, nat_lit 0, .ofNat (nat_lit 0), nat_lit 0, nat_lit 0, nat_lit 0, []), (nat_lit 284, nat_lit 1, nat_lit 1, nat_lit 3, nat_lit 0, .ofNat (nat_lit 0), nat_lit 0, nat_lit 0, nat_lit 0, []), (nat_lit 285, nat_lit 3, nat_lit 1, nat_lit 0, nat_lit 0, .ofNat (nat_lit 3), nat_lit 0, nat_lit 0, nat_lit 0, []), (nat_lit 286, nat_lit 12, nat_lit 1, nat_lit 0, nat_lit 0, .ofNat (nat_lit 0), nat_lit 0, nat_lit 0, nat_lit 0, []), (nat_lit 287, nat_lit 9, nat_lit 1, nat_lit 0, nat_lit 0, .ofNat (nat_lit 0), nat_lit 0, nat_lit 0, nat_lit 0, [])]
def rx_c0_18 : List rx_E := [(nat_lit 288, nat_lit 0, nat_lit 1, nat_lit 0, nat_lit 0, .ofNat (nat_lit 0), nat_lit 0, nat_lit 0, nat_lit 0, []), (nat_lit 289, nat_lit 1, nat_lit 1, nat_lit 3, nat_lit 0, .ofNat (nat_lit 0), nat_lit 0, nat_lit 0, nat_lit 0, []), (nat_lit 290, nat_lit 3, nat_lit 1, nat_lit 0, nat_lit 0, .ofNat (nat_lit 4), nat_lit 0, nat_lit 0, nat_lit 0, []), (nat_lit 291, nat_lit 12, nat_lit 1, nat_lit 0, nat_lit 0, .ofNat (nat_lit 0), nat_lit 0, nat_lit 0, nat_lit 0, []), (nat_lit 292, nat_lit 9, nat_lit 1, nat_lit 0, nat_lit 0, .ofNat (nat_lit 0), nat_lit 0, nat_lit 0, nat_lit 0, []), (nat_lit 293, nat_lit 0, nat_lit 1, nat_lit 0, nat_lit 0, .ofNat (nat_lit 0), nat_lit 0, nat_lit 0, nat_lit 0, []), (nat_lit 294, nat_lit 1, nat_lit 1, nat_lit 3, nat_lit 0, .ofNat (nat_lit 0), nat_lit 0, nat_lit 0, nat_lit 0, []), (nat_lit 295, nat_lit 3, nat_lit 1, nat_lit 0, nat_lit 0, .ofNat (nat_lit 5), nat_lit 0, nat_lit 0, nat_lit 0, []), (nat_lit 296, nat_lit 12, nat_lit 1, nat_lit 0, nat_lit 0, .ofNat (nat_lit 0), nat_lit 0, nat_lit 0, nat_lit 0, []), (nat_lit 297, nat_lit 9, nat_lit 1, nat_lit 0, nat_lit 0, .ofNat (nat_lit 0), nat_lit 0, nat_lit 0, nat_lit 0, []), (nat_lit 298, nat_lit 8, nat_lit 3, nat_lit 20, nat_lit 110, .ofNat (nat_lit 0), nat_lit 5, nat_lit 582, nat_lit 13, []), (nat_lit 301, nat_lit 0, nat_lit 1, nat_lit 2, nat_lit 0, .ofNat (nat_lit 0), nat_lit 0, nat_lit 0, nat_lit 0, []), (nat_lit 302, nat_lit 0, nat_lit 1, nat_lit 0, nat_lit 0, .ofNat (nat_lit 0), nat_lit 0, nat_lit 0, nat_lit 0, []), (nat_lit 303, nat_lit 1, nat_lit 1, nat_lit 3, nat_lit 0, .ofNat (nat_lit 0), nat_lit 0, nat_lit 0, nat_lit 0, [])]
def rx_c0_19 : List rx_E := [(nat_lit 304, nat_lit 3, nat_lit 1, nat_lit 0, nat_lit 0, .ofNat (nat_lit 1), nat_lit 0, nat_lit 0, nat_lit 0, []), (nat_lit 305, nat_lit 12, nat_lit 1, nat_lit 0, nat_lit 0, .ofNat (nat_lit 0), nat_lit 0, nat_lit 0, nat_lit 0, []), (nat_lit 306, nat_lit 9, nat_lit 1, nat_lit 0, nat_lit 0, .ofNat (nat_lit 0), nat_lit 0, nat_lit 0, nat_lit 0, []), (nat_lit 307, nat_lit 0, nat_lit 1, nat_lit 0, nat_lit 0, .ofNat (nat_lit 0), nat_lit 0, nat_lit 0, nat_lit 0, []), (nat_lit 308, nat_lit 1, nat_lit 1, nat_lit 3, nat_lit 0, .ofNat (nat_lit 0), nat_lit 0, nat_lit 0, nat_lit 0, []), (nat_lit 309, nat_lit 3, nat_lit 1, nat_lit 0, nat_lit 0, .ofNat (nat_lit 2), nat_lit 0, nat_lit 0, nat_lit 0, []), (nat_lit 310, nat_lit 12, nat_lit 1, nat_lit 0, nat_lit 0, .ofNat (nat_lit 0), nat_lit 0, nat_lit 0, nat_lit 0, []), (nat_lit 311, nat_lit 9, nat_lit 1, nat_lit 0, nat_lit 0, .ofNat (nat_lit 0), nat_lit 0, nat_lit 0, nat_lit 0, []), (nat_lit 312, nat_lit 0, nat_lit 1, nat_lit 0, nat_lit 0, .ofNat (nat_lit 0), nat_lit 0, nat_lit 0, nat_lit 0, []), (nat_lit 313, nat_lit 1, nat_lit 1, nat_lit 3, nat_lit 0, .ofNat (nat_lit 0), nat_lit 0, nat_lit 0, nat_lit 0, []), (nat_lit 314, nat_lit 3, nat_lit 1, nat_lit 0, nat_lit 0, .ofNat (nat_lit 3), nat_lit 0, nat_lit 0, nat_lit 0, []), (nat_lit 315, nat_lit 12, nat_lit 1, nat_lit 0, nat_lit 0, .ofNat (nat_lit 0), nat_lit 0, nat_lit 0, nat_lit 0, []), (nat_lit 316, nat_lit 9, nat_lit 1, nat_lit 0, nat_lit 0, .ofNat (nat_lit 0), nat_lit 0, nat_lit 0, nat_lit 0, []), (nat_lit 317, nat_lit 0, nat_lit 1, nat_lit 0, nat_lit 0, .ofNat (nat_lit 0), nat_lit 0, nat_lit 0, nat_lit 0, []), (nat_lit 318, nat_lit 1, nat_lit 1, nat_lit 3, nat_lit 0, .ofNat (nat_lit 0), nat_lit 0, nat_lit 0, nat_lit 0, []), (nat_lit 319, nat_lit 3, nat_lit 1, nat_lit 0, nat_lit 0, .ofNat (nat_lit 4), nat_lit 0, nat_lit 0, nat_lit 0, [])]
def rx_c0_20 : List rx_E := [(nat_lit 320, nat_lit 12, nat_lit 1, nat_lit 0, nat_lit 0, .ofNat (nat_lit 0), nat_lit 0, nat_lit 0, nat_lit 0, []), (nat_lit 321, nat_lit 9, nat_lit 1, nat_lit 0, nat_lit 0, .ofNat (nat_lit 0), nat_lit 0, nat_lit 0, nat_lit 0, []), (nat_lit 322, nat_lit 0, nat_lit 1, nat_lit 0, nat_lit 0, .ofNat (nat_lit 0), nat_lit 0, nat_lit 0, nat_lit 0, []), (nat_lit 323, nat_lit 1, nat_lit 1, nat_lit 3, nat_lit 0, .ofNat (nat_lit 0), nat_lit 0, nat_lit 0, nat_lit 0, []), (nat_lit 324, nat_lit 3, nat_lit 1, nat_lit 0, nat_lit 0, .ofNat (nat_lit 5), nat_lit 0, nat_lit 0, nat_lit 0, []), (nat_lit 325, nat_lit 12, nat_lit 1, nat_lit 0, nat_lit 0, .ofNat (nat_lit 0), nat_lit 0, nat_lit 0, nat_lit 0, []), (nat_lit 326, nat_lit 9, nat_lit 1, nat_lit 0, nat_lit 0, .ofNat (nat_lit 0), nat_lit 0, nat_lit 0, nat_lit 0, []), (nat_lit 327, nat_lit 8, nat_lit 3, nat_lit 130, nat_lit 120, .ofNat (nat_lit 0), nat_lit 5, nat_lit 2024, nat_lit 17, []), (nat_lit 330, nat_lit 4, nat_lit 3, nat_lit 0, nat_lit 0, .ofNat (nat_lit 1590), nat_lit 0, nat_lit 0, nat_lit 0, []), (nat_lit 333, nat_lit 3, nat_lit 1, nat_lit 0, nat_lit 0, .ofNat (nat_lit 0), nat_lit 0, nat_lit 0, nat_lit 0, []), (nat_lit 334, nat_lit 6, nat_lit 1, nat_lit 0, nat_lit 0, .ofNat (nat_lit 0), nat_lit 0, nat_lit 0, nat_lit 0, []), (nat_lit 335, nat_lit 0, nat_lit 1, nat_lit 1, nat_lit 0, .ofNat (nat_lit 0), nat_lit 0, nat_lit 0, nat_lit 0, [])]
def rx_c0_21 : List rx_E := [(nat_lit 336, nat_lit 0, nat_lit 1, nat_lit 0, nat_lit 0, .ofNat (nat_lit 0), nat_lit 0, nat_lit 0, nat_lit 0, []), (nat_lit 337, nat_lit 1, nat_lit 1, nat_lit 3, nat_lit 0, .ofNat (nat_lit 0), nat_lit 0, nat_lit 0, nat_lit 0, []), (nat_lit 338, nat_lit 3, nat_lit 1, nat_lit 0, nat_lit 0, .ofNat (nat_lit 1), nat_lit 0, nat_lit 0, nat_lit 0, []), (nat_lit 339, nat_lit 12, nat_lit 1, nat_lit 0, nat_lit 0, .ofNat (nat_lit 0), nat_lit 0, nat_lit 0, nat_lit 0, []), (nat_lit 340, nat_lit 9, nat_lit 1, nat_lit 0, nat_lit 0, .ofNat (nat_lit 0), nat_lit 0, nat_lit 0, nat_lit 0, []), (nat_lit 341, nat_lit 8, nat_lit 3, nat_lit 16, nat_lit 110, .ofNat (nat_lit 0), nat_lit 1, nat_lit 590, nat_lit 18, []), (nat_lit 344, nat_lit 0, nat_lit 1, nat_lit 2, nat_lit 0, .ofNat (nat_lit 0), nat_lit 0, nat_lit 0, nat_lit 0, []), (nat_lit 345, nat_lit 0, nat_lit 1, nat_lit 0, nat_lit 0, .ofNat (nat_lit 0), nat_lit 0, nat_lit 0, nat_lit 0, []), (nat_lit 346, nat_lit 1, nat_lit 1, nat_lit 3, nat_lit 0, .ofNat (nat_lit 0), nat_lit 0, nat_lit 0, nat_lit 0, []), (nat_lit 347, nat_lit 3, nat_lit 1, nat_lit 0, nat_lit 0, .ofNat (nat_lit 1), nat_lit 0, nat_lit 0, nat_lit 0, []), (nat_lit 348, nat_lit 12, nat_lit 1, nat_lit 0, nat_lit 0, .ofNat (nat_lit 0), nat_lit 0, nat_lit 0, nat_lit 0, []), (nat_lit 349, nat_lit 9, nat_lit 1, nat_lit 0, nat_lit 0, .ofNat (nat_lit 0), nat_lit 0, nat_lit 0, nat_lit 0, []), (nat_lit 350, nat_lit 8, nat_lit 3, nat_lit 125, nat_lit 120, .ofNat (nat_lit 0), nat_lit 1, nat_lit 2028, nat_lit 22, [])]
def rx_c0_22 : List rx_E := [(nat_lit 353, nat_lit 4, nat_lit 3, nat_lit 0, nat_lit 0, .ofNat (nat_lit 1567), nat_lit 0, nat_lit 0, nat_lit 0, []), (nat_lit 356, nat_lit 3, nat_lit 1, nat_lit 0, nat_lit 0, .ofNat (nat_lit 0), nat_lit 0, nat_lit 0, nat_lit 0, []), (nat_lit 357, nat_lit 6, nat_lit 1, nat_lit 0, nat_lit 0, .ofNat (nat_lit 0), nat_lit 0, nat_lit 0, nat_lit 0, []), (nat_lit 358, nat_lit 0, nat_lit 1, nat_lit 1, nat_lit 0, .ofNat (nat_lit 0), nat_lit 0, nat_lit 0, nat_lit 0, []), (nat_lit 359, nat_lit 8, nat_lit 3, nat_lit 51, nat_lit 110, .ofNat (nat_lit 0), nat_lit 0, nat_lit 594, nat_lit 23, []), (nat_lit 362, nat_lit 0, nat_lit 1, nat_lit 2, nat_lit 0, .ofNat (nat_lit 0), nat_lit 0, nat_lit 0, nat_lit 0, []), (nat_lit 363, nat_lit 8, nat_lit 3, nat_lit 165, nat_lit 120, .ofNat (nat_lit 0), nat_lit 0, nat_lit 1520, nat_lit 27, []), (nat_lit 366, nat_lit 4, nat_lit 3, nat_lit 0, nat_lit 0, .ofNat (nat_lit 1554), nat_lit 0, nat_lit 0, nat_lit 0, [])]
def rx_c0_23 : List rx_E := [(nat_lit 369, nat_lit 3, nat_lit 1, nat_lit 0, nat_lit 0, .ofNat (nat_lit 0), nat_lit 0, nat_lit 0, nat_lit 0, []), (nat_lit 370, nat_lit 6, nat_lit 1, nat_lit 0, nat_lit 0, .ofNat (nat_lit 0), nat_lit 0, nat_lit 0, nat_lit 0, []), (nat_lit 371, nat_lit 0, nat_lit 1, nat_lit 1, nat_lit 0, .ofNat (nat_lit 0), nat_lit 0, nat_lit 0, nat_lit 0, []), (nat_lit 372, nat_lit 0, nat_lit 1, nat_lit 0, nat_lit 0, .ofNat (nat_lit 0), nat_lit 0, nat_lit 0, nat_lit 0, []), (nat_lit 373, nat_lit 1, nat_lit 1, nat_lit 3, nat_lit 0, .ofNat (nat_lit 0), nat_lit 0, nat_lit 0, nat_lit 0, []), (nat_lit 374, nat_lit 3, nat_lit 1, nat_lit 0, nat_lit 0, .ofNat (nat_lit 1), nat_lit 0, nat_lit 0, nat_lit 0, []), (nat_lit 375, nat_lit 12, nat_lit 1, nat_lit 0, nat_lit 0, .ofNat (nat_lit 0), nat_lit 0, nat_lit 0, nat_lit 0, []), (nat_lit 376, nat_lit 9, nat_lit 1, nat_lit 0, nat_lit 0, .ofNat (nat_lit 0), nat_lit 0, nat_lit 0, nat_lit 0, []), (nat_lit 377, nat_lit 8, nat_lit 3, nat_lit 19, nat_lit 110, .ofNat (nat_lit 0), nat_lit 1, nat_lit 781, nat_lit 28, []), (nat_lit 380, nat_lit 0, nat_lit 1, nat_lit 2, nat_lit 0, .ofNat (nat_lit 0), nat_lit 0, nat_lit 0, nat_lit 0, []), (nat_lit 381, nat_lit 0, nat_lit 1, nat_lit 0, nat_lit 0, .ofNat (nat_lit 0), nat_lit 0, nat_lit 0, nat_lit 0, []), (nat_lit 382, nat_lit 1, nat_lit 1, nat_lit 3, nat_lit 0, .ofNat (nat_lit 0), nat_lit 0, nat_lit 0, nat_lit 0, []), (nat_lit 383, nat_lit 3, nat_lit 1, nat_lit 0, nat_lit 0, .ofNat (nat_lit 1), nat_lit 0, nat_lit 0, nat_lit 0, [])]
def rx_c0_24 : List rx_E := [(nat_lit 384, nat_lit 12, nat_lit 1, nat_lit 0, nat_lit 0, .ofNat (nat_lit 0), nat_lit 0, nat_lit 0, nat_lit 0, []), (nat_lit 385, nat_lit 9, nat_lit 1, nat_lit 0, nat_lit 0, .ofNat (nat_lit 0), nat_lit 0, nat_lit 0, nat_lit 0, []), (nat_lit 386, nat_lit 8, nat_lit 3, nat_lit 129, nat_lit 120, .ofNat (nat_lit 0), nat_lit 1, nat_lit 1653, nat_lit 31, []), (nat_lit 389, nat_lit 4, nat_lit 3, nat_lit 0, nat_lit 0, .ofNat (nat_lit 1531), nat_lit 0, nat_lit 0, nat_lit 0, []), (nat_lit 392, nat_lit 3, nat_lit 1, nat_lit 0, nat_lit 0, .ofNat (nat_lit 0), nat_lit 0, nat_lit 0, nat_lit 0, []), (nat_lit 393, nat_lit 6, nat_lit 1, nat_lit 0, nat_lit 0, .ofNat (nat_lit 0), nat_lit 0, nat_lit 0, nat_lit 0, []), (nat_lit 394, nat_lit 0, nat_lit 1, nat_lit 1, nat_lit 0, .ofNat (nat_lit 0), nat_lit 0, nat_lit 0, nat_lit 0, []), (nat_lit 395, nat_lit 0, nat_lit 1, nat_lit 0, nat_lit 0, .ofNat (nat_lit 0), nat_lit 0, nat_lit 0, nat_lit 0, []), (nat_lit 396, nat_lit 1, nat_lit 1, nat_lit 3, nat_lit 0, .ofNat (nat_lit 0), nat_lit 0, nat_lit 0, nat_lit 0, []), (nat_lit 397, nat_lit 3, nat_lit 1, nat_lit 0, nat_lit 0, .ofNat (nat_lit 1), nat_lit 0, nat_lit 0, nat_lit 0, []), (nat_lit 398, nat_lit 12, nat_lit 1, nat_lit 0, nat_lit 0, .ofNat (nat_lit 0), nat_lit 0, nat_lit 0, nat_lit 0, []), (nat_lit 399, nat_lit 9, nat_lit 1, nat_lit 0, nat_lit 0, .ofNat (nat_lit 0), nat_lit 0, nat_lit 0, nat_lit 0, [])]
def rx_c0_25 : List rx_E := [(nat_lit 400, nat_lit 8, nat_lit 3, nat_lit 17, nat_lit 110, .ofNat (nat_lit 0), nat_lit 1, nat_lit 785, nat_lit 32, []), (nat_lit 403, nat_lit 0, nat_lit 1, nat_lit 2, nat_lit 0, .ofNat (nat_lit 0), nat_lit 0, nat_lit 0, nat_lit 0, []), (nat_lit 404, nat_lit 0, nat_lit 1, nat_lit 0, nat_lit 0, .ofNat (nat_lit 0), nat_lit 0, nat_lit 0, nat_lit 0, []), (nat_lit 405, nat_lit 1, nat_lit 1, nat_lit 3, nat_lit 0, .ofNat (nat_lit 0), nat_lit 0, nat_lit 0, nat_lit 0, []), (nat_lit 406, nat_lit 3, nat_lit 1, nat_lit 0, nat_lit 0, .ofNat (nat_lit 1), nat_lit 0, nat_lit 0, nat_lit 0, []), (nat_lit 407, nat_lit 12, nat_lit 1, nat_lit 0, nat_lit 0, .ofNat (nat_lit 0), nat_lit 0, nat_lit 0, nat_lit 0, []), (nat_lit 408, nat_lit 9, nat_lit 1, nat_lit 0, nat_lit 0, .ofNat (nat_lit 0), nat_lit 0, nat_lit 0, nat_lit 0, []), (nat_lit 409, nat_lit 8, nat_lit 3, nat_lit 126, nat_lit 120, .ofNat (nat_lit 0), nat_lit 1, nat_lit 1657, nat_lit 35, []), (nat_lit 412, nat_lit 4, nat_lit 3, nat_lit 0, nat_lit 0, .ofNat (nat_lit 1508), nat_lit 0, nat_lit 0, nat_lit 0, []), (nat_lit 415, nat_lit 3, nat_lit 1, nat_lit 0, nat_lit 0, .ofNat (nat_lit 0), nat_lit 0, nat_lit 0, nat_lit 0, [])]
def rx_c0_26 : List rx_E := [(nat_lit 416, nat_lit 6, nat_lit 1, nat_lit 0, nat_lit 0, .ofNat (nat_lit 0), nat_lit 0, nat_lit 0, nat_lit 0, []), (nat_lit 417, nat_lit 0, nat_lit 1, nat_lit 1, nat_lit 0, .ofNat (nat_lit 0), nat_lit 0, nat_lit 0, nat_lit 0, []), (nat_lit 418, nat_lit 0, nat_lit 1, nat_lit 0, nat_lit 0, .ofNat (nat_lit 0), nat_lit 0, nat_lit 0, nat_lit 0, []), (nat_lit 419, nat_lit 1, nat_lit 1, nat_lit 3, nat_lit 0, .ofNat (nat_lit 0), nat_lit 0, nat_lit 0, nat_lit 0, []), (nat_lit 420, nat_lit 3, nat_lit 1, nat_lit 0, nat_lit 0, .ofNat (nat_lit 1), nat_lit 0, nat_lit 0, nat_lit 0, []), (nat_lit 421, nat_lit 12, nat_lit 1, nat_lit 0, nat_lit 0, .ofNat (nat_lit 0), nat_lit 0, nat_lit 0, nat_lit 0, []), (nat_lit 422, nat_lit 9, nat_lit 1, nat_lit 0, nat_lit 0, .ofNat (nat_lit 0), nat_lit 0, nat_lit 0, nat_lit 0, []), (nat_lit 423, nat_lit 0, nat_lit 1, nat_lit 0, nat_lit 0, .ofNat (nat_lit 0), nat_lit 0, nat_lit 0, nat_lit 0, []), (nat_lit 424, nat_lit 1, nat_lit 1, nat_lit 3, nat_lit 0, .ofNat (nat_lit 0), nat_lit 0, nat_lit 0, nat_lit 0, []), (nat_lit 425, nat_lit 3, nat_lit 1, nat_lit 0, nat_lit 0, .ofNat (nat_lit 2), nat_lit 0, nat_lit 0, nat_lit 0, []), (nat_lit 426, nat_lit 12, nat_lit 1, nat_lit 0, nat_lit 0, .ofNat (nat_lit 0), nat_lit 0, nat_lit 0, nat_lit 0, []), (nat_lit 427, nat_lit 9, nat_lit 1, nat_lit 0, nat_lit 0, .ofNat (nat_lit 0), nat_lit 0, nat_lit 0, nat_lit 0, []), (nat_lit 428, nat_lit 8, nat_lit 3, nat_lit 44, nat_lit 110, .ofNat (nat_lit 0), nat_lit 2, nat_lit 793, nat_lit 36, []), (nat_lit 431, nat_lit 0, nat_lit 1, nat_lit 2, nat_lit 0, .ofNat (nat_lit 0), nat_lit 0, nat_lit 0, nat_lit 0, [])]
def rx_c0_27 : List rx_E := [(nat_lit 432, nat_lit 0, nat_lit 1, nat_lit 0, nat_lit 0, .ofNat (nat_lit 0), nat_lit 0, nat_lit 0, nat_lit 0, []), (nat_lit 433, nat_lit 1, nat_lit 1, nat_lit 3, nat_lit 0, .ofNat (nat_lit 0), nat_lit 0, nat_lit 0, nat_lit 0, []), (nat_lit 434, nat_lit 3, nat_lit 1, nat_lit 0, nat_lit 0, .ofNat (nat_lit 1), nat_lit 0, nat_lit 0, nat_lit 0, []), (nat_lit 435, nat_lit 12, nat_lit 1, nat_lit 0, nat_lit 0, .ofNat (nat_lit 0), nat_lit 0, nat_lit 0, nat_lit 0, []), (nat_lit 436, nat_lit 9, nat_lit 1, nat_lit 0, nat_lit 0, .ofNat (nat_lit 0), nat_lit 0, nat_lit 0, nat_lit 0, []), (nat_lit 437, nat_lit 0, nat_lit 1, nat_lit 0, nat_lit 0, .ofNat (nat_lit 0), nat_lit 0, nat_lit 0, nat_lit 0, []), (nat_lit 438, nat_lit 1, nat_lit 1, nat_lit 3, nat_lit 0, .ofNat (nat_lit 0), nat_lit 0, nat_lit 0, nat_lit 0, []), (nat_lit 439, nat_lit 3, nat_lit 1, nat_lit 0, nat_lit 0, .ofNat (nat_lit 2), nat_lit 0, nat_lit 0, nat_lit 0, []), (nat_lit 440, nat_lit 12, nat_lit 1, nat_lit 0, nat_lit 0, .ofNat (nat_lit 0), nat_lit 0, nat_lit 0, nat_lit 0, []), (nat_lit 441, nat_lit 9, nat_lit 1, nat_lit 0, nat_lit 0, .ofNat (nat_lit 0), nat_lit 0, nat_lit 0, nat_lit 0, []), (nat_lit 442, nat_lit 8, nat_lit 3, nat_lit 159, nat_lit 120, .ofNat (nat_lit 0), nat_lit 2, nat_lit 1668, nat_lit 40, []), (nat_lit 445, nat_lit 4, nat_lit 3, nat_lit 0, nat_lit 0, .ofNat (nat_lit 1475), nat_lit 0, nat_lit 0, nat_lit 0, [])]
def rx_c0_28 : List rx_E := [(nat_lit 448, nat_lit 3, nat_lit 1, nat_lit 0, nat_lit 0, .ofNat (nat_lit 0), nat_lit 0, nat_lit 0, nat_lit 0, []), (nat_lit 449, nat_lit 6, nat_lit 1, nat_lit 0, nat_lit 0, .ofNat (nat_lit 0), nat_lit 0, nat_lit 0, nat_lit 0, []), (nat_lit 450, nat_lit 0, nat_lit 1, nat_lit 1, nat_lit 0, .ofNat (nat_lit 0), nat_lit 0, nat_lit 0, nat_lit 0, []), (nat_lit 451, nat_lit 0, nat_lit 1, nat_lit 0, nat_lit 0, .ofNat (nat_lit 0), nat_lit 0, nat_lit 0, nat_lit 0, []), (nat_lit 452, nat_lit 1, nat_lit 1, nat_lit 3, nat_lit 0, .ofNat (nat_lit 0), nat_lit 0, nat_lit 0, nat_lit 0, []), (nat_lit 453, nat_lit 3, nat_lit 1, nat_lit 0, nat_lit 0, .ofNat (nat_lit 1), nat_lit 0, nat_lit 0, nat_lit 0, []), (nat_lit 454, nat_lit 12, nat_lit 1, nat_lit 0, nat_lit 0, .ofNat (nat_lit 0), nat_lit 0, nat_lit 0, nat_lit 0, []), (nat_lit 455, nat_lit 9, nat_lit 1, nat_lit 0, nat_lit 0, .ofNat (nat_lit 0), nat_lit 0, nat_lit 0, nat_lit 0, []), (nat_lit 456, nat_lit 0, nat_lit 1, nat_lit 0, nat_lit 0, .ofNat (nat_lit 0), nat_lit 0, nat_lit 0, nat_lit 0, []), (nat_lit 457, nat_lit 1, nat_lit 1, nat_lit 3, nat_lit 0, .ofNat (nat_lit 0), nat_lit 0, nat_lit 0, nat_lit 0, []), (nat_lit 458, nat_lit 3, nat_lit 1, nat_lit 0, nat_lit 0, .ofNat (nat_lit 2), nat_lit 0, nat_lit 0, nat_lit 0, []), (nat_lit 459, nat_lit 12, nat_lit 1, nat_lit 0, nat_lit 0, .ofNat (nat_lit 0), nat_lit 0, nat_lit 0, nat_lit 0, []), (nat_lit 460, nat_lit 9, nat_lit 1, nat_lit 0, nat_lit 0, .ofNat (nat_lit 0), nat_lit 0, nat_lit 0, nat_lit 0, []), (nat_lit 461, nat_lit 8, nat_lit 3, nat_lit 35, nat_lit 110, .ofNat (nat_lit 0), nat_lit 2, nat_lit 801, nat_lit 41, [])]
def rx_c0_29 : List rx_E := [(nat_lit 464, nat_lit 0, nat_lit 1, nat_lit 2, nat_lit 0, .ofNat (nat_lit 0), nat_lit 0, nat_lit 0, nat_lit 0, []), (nat_lit 465, nat_lit 0, nat_lit 1, nat_lit 0, nat_lit 0, .ofNat (nat_lit 0), nat_lit 0, nat_lit 0, nat_lit 0, []), (nat_lit 466, nat_lit 1, nat_lit 1, nat_lit 3, nat_lit 0, .ofNat (nat_lit 0), nat_lit 0, nat_lit 0, nat_lit 0, []), (nat_lit 467, nat_lit 3, nat_lit 1, nat_lit 0, nat_lit 0, .ofNat (nat_lit 1), nat_lit 0, nat_lit 0, nat_lit 0, []), (nat_lit 468, nat_lit 12, nat_lit 1, nat_lit 0, nat_lit 0, .ofNat (nat_lit 0), nat_lit 0, nat_lit 0, nat_lit 0, []), (nat_lit 469, nat_lit 9, nat_lit 1, nat_lit 0, nat_lit 0, .ofNat (nat_lit 0), nat_lit 0, nat_lit 0, nat_lit 0, []), (nat_lit 470, nat_lit 0, nat_lit 1, nat_lit 0, nat_lit 0, .ofNat (nat_lit 0), nat_lit 0, nat_lit 0, nat_lit 0, []), (nat_lit 471, nat_lit 1, nat_lit 1, nat_lit 3, nat_lit 0, .ofNat (nat_lit 0), nat_lit 0, nat_lit 0, nat_lit 0, []), (nat_lit 472, nat_lit 3, nat_lit 1, nat_lit 0, nat_lit 0, .ofNat (nat_lit 2), nat_lit 0, nat_lit 0, nat_lit 0, []), (nat_lit 473, nat_lit 12, nat_lit 1, nat_lit 0, nat_lit 0, .ofNat (nat_lit 0), nat_lit 0, nat_lit 0, nat_lit 0, []), (nat_lit 474, nat_lit 9, nat_lit 1, nat_lit 0, nat_lit 0, .ofNat (nat_lit 0), nat_lit 0, nat_lit 0, nat_lit 0, []), (nat_lit 475, nat_lit 8, nat_lit 3, nat_lit 149, nat_lit 120, .ofNat (nat_lit 0), nat_lit 2, nat_lit 1676, nat_lit 44, []), (nat_lit 478, nat_lit 4, nat_lit 3, nat_lit 0, nat_lit 0, .ofNat (nat_lit 1442), nat_lit 0, nat_lit 0, nat_lit 0, [])]
def rx_c0_30 : List rx_E := [(nat_lit 481, nat_lit 3, nat_lit 1, nat_lit 0, nat_lit 0, .ofNat (nat_lit 0), nat_lit 0, nat_lit 0, nat_lit 0, []), (nat_lit 482, nat_lit 6, nat_lit 1, nat_lit 0, nat_lit 0, .ofNat (nat_lit 0), nat_lit 0, nat_lit 0, nat_lit 0, []), (nat_lit 483, nat_lit 0, nat_lit 1, nat_lit 1, nat_lit 0, .ofNat (nat_lit 0), nat_lit 0, nat_lit 0, nat_lit 0, []), (nat_lit 484, nat_lit 0, nat_lit 1, nat_lit 0, nat_lit 0, .ofNat (nat_lit 0), nat_lit 0, nat_lit 0, nat_lit 0, []), (nat_lit 485, nat_lit 1, nat_lit 1, nat_lit 3, nat_lit 0, .ofNat (nat_lit 0), nat_lit 0, nat_lit 0, nat_lit 0, []), (nat_lit 486, nat_lit 3, nat_lit 1, nat_lit 0, nat_lit 0, .ofNat (nat_lit 1), nat_lit 0, nat_lit 0, nat_lit 0, []), (nat_lit 487, nat_lit 12, nat_lit 1, nat_lit 0, nat_lit 0, .ofNat (nat_lit 0), nat_lit 0, nat_lit 0, nat_lit 0, []), (nat_lit 488, nat_lit 9, nat_lit 1, nat_lit 0, nat_lit 0, .ofNat (nat_lit 0), nat_lit 0, nat_lit 0, nat_lit 0, []), (nat_lit 489, nat_lit 0, nat_lit 1, nat_lit 0, nat_lit 0, .ofNat (nat_lit 0), nat_lit 0, nat_lit 0, nat_lit 0, []), (nat_lit 490, nat_lit 1, nat_lit 1, nat_lit 3, nat_lit 0, .ofNat (nat_lit 0), nat_lit 0, nat_lit 0, nat_lit 0, []), (nat_lit 491, nat_lit 3, nat_lit 1, nat_lit 0, nat_lit 0, .ofNat (nat_lit 2), nat_lit 0, nat_lit 0, nat_lit 0, []), (nat_lit 492, nat_lit 12, nat_lit 1, nat_lit 0, nat_lit 0, .ofNat (nat_lit 0), nat_lit 0, nat_lit 0, nat_lit 0, []), (nat_lit 493, nat_lit 9, nat_lit 1, nat_lit 0, nat_lit 0, .ofNat (nat_lit 0), nat_lit 0, nat_lit 0, nat_lit 0, []), (nat_lit 494, nat_lit 8, nat_lit 3, nat_lit 52, nat_lit 110, .ofNat (nat_lit 0), nat_lit 2, nat_lit 845, nat_lit 45, [])]
def rx_c0_31 : List rx_E := [(nat_lit 497, nat_lit 0, nat_lit 1, nat_lit 2, nat_lit 0, .ofNat (nat_lit 0), nat_lit 0, nat_lit 0, nat_lit 0, []), (nat_lit 498, nat_lit 0, nat_lit 1, nat_lit 0, nat_lit 0, .ofNat (nat_lit 0), nat_lit 0, nat_lit 0, nat_lit 0, []), (nat_lit 499, nat_lit 1, nat_lit 1, nat_lit 3, nat_lit 0, .ofNat (nat_lit 0), nat_lit 0, nat_lit 0, nat_lit 0, []), (nat_lit 500, nat_lit 3, nat_lit 1, nat_lit 0, nat_lit 0, .ofNat (nat_lit 1), nat_lit 0, nat_lit 0, nat_lit 0, []), (nat_lit 501, nat_lit 12, nat_lit 1, nat_lit 0, nat_lit 0, .ofNat (nat_lit 0), nat_lit 0, nat_lit 0, nat_lit 0, []), (nat_lit 502, nat_lit 9, nat_lit 1, nat_lit 0, nat_lit 0, .ofNat (nat_lit 0), nat_lit 0, nat_lit 0, nat_lit 0, []), (nat_lit 503, nat_lit 0, nat_lit 1, nat_lit 0, nat_lit 0, .ofNat (nat_lit 0), nat_lit 0, nat_lit 0, nat_lit 0, []), (nat_lit 504, nat_lit 1, nat_lit 1, nat_lit 3, nat_lit 0, .ofNat (nat_lit 0), nat_lit 0, nat_lit 0, nat_lit 0, []), (nat_lit 505, nat_lit 3, nat_lit 1, nat_lit 0, nat_lit 0, .ofNat (nat_lit 2), nat_lit 0, nat_lit 0, nat_lit 0, []), (nat_lit 506, nat_lit 12, nat_lit 1, nat_lit 0, nat_lit 0, .ofNat (nat_lit 0), nat_lit 0, nat_lit 0, nat_lit 0, []), (nat_lit 507, nat_lit 9, nat_lit 1, nat_lit 0, nat_lit 0, .ofNat (nat_lit 0), nat_lit 0, nat_lit 0, nat_lit 0, []), (nat_lit 508, nat_lit 8, nat_lit 3, nat_lit 166, nat_lit 120, .ofNat (nat_lit 0), nat_lit 2, nat_lit 1713, nat_lit 48, []), (nat_lit 511, nat_lit 4, nat_lit 3, nat_lit 0, nat_lit 0, .ofNat (nat_lit 1409), nat_lit 0, nat_lit 0, nat_lit 0, [])]
def rx_c0_32 : List rx_E := [(nat_lit 514, nat_lit 3, nat_lit 1, nat_lit 0, nat_lit 0, .ofNat (nat_lit 0), nat_lit 0, nat_lit 0, nat_lit 0, []), (nat_lit 515, nat_lit 6, nat_lit 1, nat_lit 0, nat_lit 0, .ofNat (nat_lit 0), nat_lit 0, nat_lit 0, nat_lit 0, []), (nat_lit 516, nat_lit 0, nat_lit 1, nat_lit 1, nat_lit 0, .ofNat (nat_lit 0), nat_lit 0, nat_lit 0, nat_lit 0, []), (nat_lit 517, nat_lit 0, nat_lit 1, nat_lit 0, nat_lit 0, .ofNat (nat_lit 0), nat_lit 0, nat_lit 0, nat_lit 0, []), (nat_lit 518, nat_lit 1, nat_lit 1, nat_lit 3, nat_lit 0, .ofNat (nat_lit 0), nat_lit 0, nat_lit 0, nat_lit 0, []), (nat_lit 519, nat_lit 3, nat_lit 1, nat_lit 0, nat_lit 0, .ofNat (nat_lit 1), nat_lit 0, nat_lit 0, nat_lit 0, []), (nat_lit 520, nat_lit 12, nat_lit 1, nat_lit 0, nat_lit 0, .ofNat (nat_lit 0), nat_lit 0, nat_lit 0, nat_lit 0, []), (nat_lit 521, nat_lit 9, nat_lit 1, nat_lit 0, nat_lit 0, .ofNat (nat_lit 0), nat_lit 0, nat_lit 0, nat_lit 0, []), (nat_lit 522, nat_lit 0, nat_lit 1, nat_lit 0, nat_lit 0, .ofNat (nat_lit 0), nat_lit 0, nat_lit 0, nat_lit 0, []), (nat_lit 523, nat_lit 1, nat_lit 1, nat_lit 3, nat_lit 0, .ofNat (nat_lit 0), nat_lit 0, nat_lit 0, nat_lit 0, []), (nat_lit 524, nat_lit 3, nat_lit 1, nat_lit 0, nat_lit 0, .ofNat (nat_lit 2), nat_lit 0, nat_lit 0, nat_lit 0, []), (nat_lit 525, nat_lit 12, nat_lit 1, nat_lit 0, nat_lit 0, .ofNat (nat_lit 0), nat_lit 0, nat_lit 0, nat_lit 0, []), (nat_lit 526, nat_lit 9, nat_lit 1, nat_lit 0, nat_lit 0, .ofNat (nat_lit 0), nat_lit 0, nat_lit 0, nat_lit 0, []), (nat_lit 527, nat_lit 8, nat_lit 3, nat_lit 41, nat_lit 110, .ofNat (nat_lit 0), nat_lit 2, nat_lit 853, nat_lit 49, [])]
def rx_c0_33 : List rx_E := [(nat_lit 530, nat_lit 0, nat_lit 1, nat_lit 2, nat_lit 0, .ofNat (nat_lit 0), nat_lit 0, nat_lit 0, nat_lit 0, []), (nat_lit 531, nat_lit 0, nat_lit 1, nat_lit 0, nat_lit 0, .ofNat (nat_lit 0), nat_lit 0, nat_lit 0, nat_lit 0, []), (nat_lit 532, nat_lit 1, nat_lit 1, nat_lit 3, nat_lit 0, .ofNat (nat_lit 0), nat_lit 0, nat_lit 0, nat_lit 0, []), (nat_lit 533, nat_lit 3, nat_lit 1, nat_lit 0, nat_lit 0, .ofNat (nat_lit 1), nat_lit 0, nat_lit 0, nat_lit 0, []), (nat_lit 534, nat_lit 12, nat_lit 1, nat_lit 0, nat_lit 0, .ofNat (nat_lit 0), nat_lit 0, nat_lit 0, nat_lit 0, []), (nat_lit 535, nat_lit 9, nat_lit 1, nat_lit 0, nat_lit 0, .ofNat (nat_lit 0), nat_lit 0, nat_lit 0, nat_lit 0, []), (nat_lit 536, nat_lit 0, nat_lit 1, nat_lit 0, nat_lit 0, .ofNat (nat_lit 0), nat_lit 0, nat_lit 0, nat_lit 0, []), (nat_lit 537, nat_lit 1, nat_lit 1, nat_lit 3, nat_lit 0, .ofNat (nat_lit 0), nat_lit 0, nat_lit 0, nat_lit 0, []), (nat_lit 538, nat_lit 3, nat_lit 1, nat_lit 0, nat_lit 0, .ofNat (nat_lit 2), nat_lit 0, nat_lit 0, nat_lit 0, []), (nat_lit 539, nat_lit 12, nat_lit 1, nat_lit 0, nat_lit 0, .ofNat (nat_lit 0), nat_lit 0, nat_lit 0, nat_lit 0, []), (nat_lit 540, nat_lit 9, nat_lit 1, nat_lit 0, nat_lit 0, .ofNat (nat_lit 0), nat_lit 0, nat_lit 0, nat_lit 0, []), (nat_lit 541, nat_lit 8, nat_lit 3, nat_lit 156, nat_lit 120, .ofNat (nat_lit 0), nat_lit 2, nat_lit 1725, nat_lit 52, [])]
def rx_c0_34 : List rx_E := [(nat_lit 544, nat_lit 4, nat_lit 3, nat_lit 0, nat_lit 0, .ofNat (nat_lit 1376), nat_lit 0, nat_lit 0, nat_lit 0, []), (nat_lit 547, nat_lit 3, nat_lit 1, nat_lit 0, nat_lit 0, .ofNat (nat_lit 0), nat_lit 0, nat_lit 0, nat_lit 0, []), (nat_lit 548, nat_lit 6, nat_lit 1, nat_lit 0, nat_lit 0, .ofNat (nat_lit 0), nat_lit 0, nat_lit 0, nat_lit 0, []), (nat_lit 549, nat_lit 0, nat_lit 1, nat_lit 1, nat_lit 0, .ofNat (nat_lit 0), nat_lit 0, nat_lit 0, nat_lit 0, []), (nat_lit 550, nat_lit 0, nat_lit 1, nat_lit 0, nat_lit 0, .ofNat (nat_lit 0), nat_lit 0, nat_lit 0, nat_lit 0, []), (nat_lit 551, nat_lit 1, nat_lit 1, nat_lit 3, nat_lit 0, .ofNat (nat_lit 0), nat_lit 0, nat_lit 0, nat_lit 0, []), (nat_lit 552, nat_lit 3, nat_lit 1, nat_lit 0, nat_lit 0, .ofNat (nat_lit 1), nat_lit 0, nat_lit 0, nat_lit 0, []), (nat_lit 553, nat_lit 12, nat_lit 1, nat_lit 0, nat_lit 0, .ofNat (nat_lit 0), nat_lit 0, nat_lit 0, nat_lit 0, []), (nat_lit 554, nat_lit 9, nat_lit 1, nat_lit 0, nat_lit 0, .ofNat (nat_lit 0), nat_lit 0, nat_lit 0, nat_lit 0, []), (nat_lit 555, nat_lit 8, nat_lit 3, nat_lit 8, nat_lit 110, .ofNat (nat_lit 0), nat_lit 1, nat_lit 887, nat_lit 53, []), (nat_lit 558, nat_lit 0, nat_lit 1, nat_lit 2, nat_lit 0, .ofNat (nat_lit 0), nat_lit 0, nat_lit 0, nat_lit 0, []), (nat_lit 559, nat_lit 0, nat_lit 1, nat_lit 0, nat_lit 0, .ofNat (nat_lit 0), nat_lit 0, nat_lit 0, nat_lit 0, [])]
def rx_c0_35 : List rx_E := [(nat_lit 560, nat_lit 1, nat_lit 1, nat_lit 3, nat_lit 0, .ofNat (nat_lit 0), nat_lit 0, nat_lit 0, nat_lit 0, []), (nat_lit 561, nat_lit 3, nat_lit 1, nat_lit 0, nat_lit 0, .ofNat (nat_lit 1), nat_lit 0, nat_lit 0, nat_lit 0, []), (nat_lit 562, nat_lit 12, nat_lit 1, nat_lit 0, nat_lit 0, .ofNat (nat_lit 0), nat_lit 0, nat_lit 0, nat_lit 0, []), (nat_lit 563, nat_lit 9, nat_lit 1, nat_lit 0, nat_lit 0, .ofNat (nat_lit 0), nat_lit 0, nat_lit 0, nat_lit 0, []), (nat_lit 564, nat_lit 8, nat_lit 3, nat_lit 115, nat_lit 120, .ofNat (nat_lit 0), nat_lit 1, nat_lit 1733, nat_lit 56, []), (nat_lit 567, nat_lit 4, nat_lit 3, nat_lit 0, nat_lit 0, .ofNat (nat_lit 1353), nat_lit 0, nat_lit 0, nat_lit 0, []), (nat_lit 570, nat_lit 3, nat_lit 1, nat_lit 0, nat_lit 0, .ofNat (nat_lit 0), nat_lit 0, nat_lit 0, nat_lit 0, []), (nat_lit 571, nat_lit 6, nat_lit 1, nat_lit 0, nat_lit 0, .ofNat (nat_lit 0), nat_lit 0, nat_lit 0, nat_lit 0, []), (nat_lit 572, nat_lit 0, nat_lit 1, nat_lit 1, nat_lit 0, .ofNat (nat_lit 0), nat_lit 0, nat_lit 0, nat_lit 0, []), (nat_lit 573, nat_lit 0, nat_lit 1, nat_lit 0, nat_lit 0, .ofNat (nat_lit 0), nat_lit 0, nat_lit 0, nat_lit 0, []), (nat_lit 574, nat_lit 1, nat_lit 1, nat_lit 3, nat_lit 0, .ofNat (nat_lit 0), nat_lit 0, nat_lit 0, nat_lit 0, []), (nat_lit 575, nat_lit 3, nat_lit 1, nat_lit 0, nat_lit 0, .ofNat (nat_lit 1), nat_lit 0, nat_lit 0, nat_lit 0, [])]
def rx_c0_36 : List rx_E := [(nat_lit 576, nat_lit 12, nat_lit 1, nat_lit 0, nat_lit 0, .ofNat (nat_lit 0), nat_lit 0, nat_lit 0, nat_lit 0, []), (nat_lit 577, nat_lit 9, nat_lit 1, nat_lit 0, nat_lit 0, .ofNat (nat_lit 0), nat_lit 0, nat_lit 0, nat_lit 0, []), (nat_lit 578, nat_lit 8, nat_lit 3, nat_lit 64, nat_lit 110, .ofNat (nat_lit 0), nat_lit 1, nat_lit 891, nat_lit 57, []), (nat_lit 581, nat_lit 0, nat_lit 1, nat_lit 2, nat_lit 0, .ofNat (nat_lit 0), nat_lit 0, nat_lit 0, nat_lit 0, []), (nat_lit 582, nat_lit 0, nat_lit 1, nat_lit 0, nat_lit 0, .ofNat (nat_lit 0), nat_lit 0, nat_lit 0, nat_lit 0, []), (nat_lit 583, nat_lit 1, nat_lit 1, nat_lit 3, nat_lit 0, .ofNat (nat_lit 0), nat_lit 0, nat_lit 0, nat_lit 0, []), (nat_lit 584, nat_lit 3, nat_lit 1, nat_lit 0, nat_lit 0, .ofNat (nat_lit 1), nat_lit 0, nat_lit 0, nat_lit 0, []), (nat_lit 585, nat_lit 12, nat_lit 1, nat_lit 0, nat_lit 0, .ofNat (nat_lit 0), nat_lit 0, nat_lit 0, nat_lit 0, []), (nat_lit 586, nat_lit 9, nat_lit 1, nat_lit 0, nat_lit 0, .ofNat (nat_lit 0), nat_lit 0, nat_lit 0, nat_lit 0, []), (nat_lit 587, nat_lit 8, nat_lit 3, nat_lit 181, nat_lit 120, .ofNat (nat_lit 0), nat_lit 1, nat_lit 1740, nat_lit 60, []), (nat_lit 590, nat_lit 4, nat_lit 3, nat_lit 0, nat_lit 0, .ofNat (nat_lit 1330), nat_lit 0, nat_lit 0, nat_lit 0, [])]
def rx_c0_37 : List rx_E := [(nat_lit 593, nat_lit 3, nat_lit 1, nat_lit 0, nat_lit 0, .ofNat (nat_lit 0), nat_lit 0, nat_lit 0, nat_lit 0, []), (nat_lit 594, nat_lit 6, nat_lit 1, nat_lit 0, nat_lit 0, .ofNat (nat_lit 0), nat_lit 0, nat_lit 0, nat_lit 0, []), (nat_lit 595, nat_lit 0, nat_lit 1, nat_lit 1, nat_lit 0, .ofNat (nat_lit 0), nat_lit 0, nat_lit 0, nat_lit 0, []), (nat_lit 596, nat_lit 0, nat_lit 1, nat_lit 0, nat_lit 0, .ofNat (nat_lit 0), nat_lit 0, nat_lit 0, nat_lit 0, []), (nat_lit 597, nat_lit 1, nat_lit 1, nat_lit 3, nat_lit 0, .ofNat (nat_lit 0), nat_lit 0, nat_lit 0, nat_lit 0, []), (nat_lit 598, nat_lit 3, nat_lit 1, nat_lit 0, nat_lit 0, .ofNat (nat_lit 1), nat_lit 0, nat_lit 0, nat_lit 0, []), (nat_lit 599, nat_lit 12, nat_lit 1, nat_lit 0, nat_lit 0, .ofNat (nat_lit 0), nat_lit 0, nat_lit 0, nat_lit 0, []), (nat_lit 600, nat_lit 9, nat_lit 1, nat_lit 0, nat_lit 0, .ofNat (nat_lit 0), nat_lit 0, nat_lit 0, nat_lit 0, []), (nat_lit 601, nat_lit 0, nat_lit 1, nat_lit 0, nat_lit 0, .ofNat (nat_lit 0), nat_lit 0, nat_lit 0, nat_lit 0, []), (nat_lit 602, nat_lit 1, nat_lit 1, nat_lit 3, nat_lit 0, .ofNat (nat_lit 0), nat_lit 0, nat_lit 0, nat_lit 0, []), (nat_lit 603, nat_lit 3, nat_lit 1, nat_lit 0, nat_lit 0, .ofNat (nat_lit 2), nat_lit 0, nat_lit 0, nat_lit 0, []), (nat_lit 604, nat_lit 12, nat_lit 1, nat_lit 0, nat_lit 0, .ofNat (nat_lit 0), nat_lit 0, nat_lit 0, nat_lit 0, []), (nat_lit 605, nat_lit 9, nat_lit 1, nat_lit 0, nat_lit 0, .ofNat (nat_lit 0), nat_lit 0, nat_lit 0, nat_lit 0, []), (nat_lit 606, nat_lit 8, nat_lit 3, nat_lit 12, nat_lit 110, .ofNat (nat_lit 0), nat_lit 2, nat_lit 895, nat_lit 61, [])]
def rx_c0_38 : List rx_E := [(nat_lit 609, nat_lit 0, nat_lit 1, nat_lit 2, nat_lit 0, .ofNat (nat_lit 0), nat_lit 0, nat_lit 0, nat_lit 0, []), (nat_lit 610, nat_lit 0, nat_lit 1, nat_lit 0, nat_lit 0, .ofNat (nat_lit 0), nat_lit 0, nat_lit 0, nat_lit 0, []), (nat_lit 611, nat_lit 1, nat_lit 1, nat_lit 3, nat_lit 0, .ofNat (nat_lit 0), nat_lit 0, nat_lit 0, nat_lit 0, []), (nat_lit 612, nat_lit 3, nat_lit 1, nat_lit 0, nat_lit 0, .ofNat (nat_lit 1), nat_lit 0, nat_lit 0, nat_lit 0, []), (nat_lit 613, nat_lit 12, nat_lit 1, nat_lit 0, nat_lit 0, .ofNat (nat_lit 0), nat_lit 0, nat_lit 0, nat_lit 0, []), (nat_lit 614, nat_lit 9, nat_lit 1, nat_lit 0, nat_lit 0, .ofNat (nat_lit 0), nat_lit 0, nat_lit 0, nat_lit 0, []), (nat_lit 615, nat_lit 0, nat_lit 1, nat_lit 0, nat_lit 0, .ofNat (nat_lit 0), nat_lit 0, nat_lit 0, nat_lit 0, []), (nat_lit 616, nat_lit 1, nat_lit 1, nat_lit 3, nat_lit 0, .ofNat (nat_lit 0), nat_lit 0, nat_lit 0, nat_lit 0, []), (nat_lit 617, nat_lit 3, nat_lit 1, nat_lit 0, nat_lit 0, .ofNat (nat_lit 2), nat_lit 0, nat_lit 0, nat_lit 0, []), (nat_lit 618, nat_lit 12, nat_lit 1, nat_lit 0, nat_lit 0, .ofNat (nat_lit 0), nat_lit 0, nat_lit 0, nat_lit 0, []), (nat_lit 619, nat_lit 9, nat_lit 1, nat_lit 0, nat_lit 0, .ofNat (nat_lit 0), nat_lit 0, nat_lit 0, nat_lit 0, []), (nat_lit 620, nat_lit 8, nat_lit 3, nat_lit 119, nat_lit 120, .ofNat (nat_lit 0), nat_lit 2, nat_lit 1744, nat_lit 64, []), (nat_lit 623, nat_lit 4, nat_lit 3, nat_lit 0, nat_lit 0, .ofNat (nat_lit 1297), nat_lit 0, nat_lit 0, nat_lit 0, [])]
def rx_c0_39 : List rx_E := [(nat_lit 626, nat_lit 3, nat_lit 1, nat_lit 0, nat_lit 0, .ofNat (nat_lit 0), nat_lit 0, nat_lit 0, nat_lit 0, []), (nat_lit 627, nat_lit 6, nat_lit 1, nat_lit 0, nat_lit 0, .ofNat (nat_lit 0), nat_lit 0, nat_lit 0, nat_lit 0, []), (nat_lit 628, nat_lit 0, nat_lit 1, nat_lit 1, nat_lit 0, .ofNat (nat_lit 0), nat_lit 0, nat_lit 0, nat_lit 0, []), (nat_lit 629, nat_lit 8, nat_lit 3, nat_lit 46, nat_lit 110, .ofNat (nat_lit 0), nat_lit 0, nat_lit 899, nat_lit 65, []), (nat_lit 632, nat_lit 0, nat_lit 1, nat_lit 2, nat_lit 0, .ofNat (nat_lit 0), nat_lit 0, nat_lit 0, nat_lit 0, []), (nat_lit 633, nat_lit 8, nat_lit 3, nat_lit 161, nat_lit 120, .ofNat (nat_lit 0), nat_lit 0, nat_lit 1748, nat_lit 68, []), (nat_lit 636, nat_lit 4, nat_lit 3, nat_lit 0, nat_lit 0, .ofNat (nat_lit 1284), nat_lit 0, nat_lit 0, nat_lit 0, []), (nat_lit 639, nat_lit 3, nat_lit 1, nat_lit 0, nat_lit 0, .ofNat (nat_lit 0), nat_lit 0, nat_lit 0, nat_lit 0, [])]
def rx_c0_40 : List rx_E := [(nat_lit 640, nat_lit 6, nat_lit 1, nat_lit 0, nat_lit 0, .ofNat (nat_lit 0), nat_lit 0, nat_lit 0, nat_lit 0, []), (nat_lit 641, nat_lit 0, nat_lit 1, nat_lit 1, nat_lit 0, .ofNat (nat_lit 0), nat_lit 0, nat_lit 0, nat_lit 0, []), (nat_lit 642, nat_lit 8, nat_lit 3, nat_lit 59, nat_lit 110, .ofNat (nat_lit 0), nat_lit 0, nat_lit 907, nat_lit 69, []), (nat_lit 645, nat_lit 0, nat_lit 1, nat_lit 2, nat_lit 0, .ofNat (nat_lit 0), nat_lit 0, nat_lit 0, nat_lit 0, []), (nat_lit 646, nat_lit 8, nat_lit 3, nat_lit 175, nat_lit 120, .ofNat (nat_lit 0), nat_lit 0, nat_lit 1755, nat_lit 73, []), (nat_lit 649, nat_lit 4, nat_lit 3, nat_lit 0, nat_lit 0, .ofNat (nat_lit 1271), nat_lit 0, nat_lit 0, nat_lit 0, []), (nat_lit 652, nat_lit 3, nat_lit 1, nat_lit 0, nat_lit 0, .ofNat (nat_lit 0), nat_lit 0, nat_lit 0, nat_lit 0, []), (nat_lit 653, nat_lit 6, nat_lit 1, nat_lit 0, nat_lit 0, .ofNat (nat_lit 0), nat_lit 0, nat_lit 0, nat_lit 0, []), (nat_lit 654, nat_lit 0, nat_lit 1, nat_lit 1, nat_lit 0, .ofNat (nat_lit 0), nat_lit 0, nat_lit 0, nat_lit 0, []), (nat_lit 655, nat_lit 8, nat_lit 3, nat_lit 49, nat_lit 110, .ofNat (nat_lit 0), nat_lit 0, nat_lit 919, nat_lit 74, [])]
def rx_c0_41 : List rx_E := [(nat_lit 658, nat_lit 0, nat_lit 1, nat_lit 2, nat_lit 0, .ofNat (nat_lit 0), nat_lit 0, nat_lit 0, nat_lit 0, []), (nat_lit 659, nat_lit 8, nat_lit 3, nat_lit 163, nat_lit 120, .ofNat (nat_lit 0), nat_lit 0, nat_lit 1763, nat_lit 77, []), (nat_lit 662, nat_lit 4, nat_lit 3, nat_lit 0, nat_lit 0, .ofNat (nat_lit 1258), nat_lit 0, nat_lit 0, nat_lit 0, []), (nat_lit 665, nat_lit 3, nat_lit 1, nat_lit 0, nat_lit 0, .ofNat (nat_lit 0), nat_lit 0, nat_lit 0, nat_lit 0, []), (nat_lit 666, nat_lit 6, nat_lit 1, nat_lit 0, nat_lit 0, .ofNat (nat_lit 0), nat_lit 0, nat_lit 0, nat_lit 0, []), (nat_lit 667, nat_lit 0, nat_lit 1, nat_lit 1, nat_lit 0, .ofNat (nat_lit 0), nat_lit 0, nat_lit 0, nat_lit 0, []), (nat_lit 668, nat_lit 0, nat_lit 1, nat_lit 0, nat_lit 0, .ofNat (nat_lit 0), nat_lit 0, nat_lit 0, nat_lit 0, []), (nat_lit 669, nat_lit 1, nat_lit 1, nat_lit 3, nat_lit 0, .ofNat (nat_lit 0), nat_lit 0, nat_lit 0, nat_lit 0, []), (nat_lit 670, nat_lit 3, nat_lit 1, nat_lit 0, nat_lit 0, .ofNat (nat_lit 1), nat_lit 0, nat_lit 0, nat_lit 0, []), (nat_lit 671, nat_lit 12, nat_lit 1, nat_lit 0, nat_lit 0, .ofNat (nat_lit 0), nat_lit 0, nat_lit 0, nat_lit 0, [])]
def rx_c0_42 : List rx_E := [(nat_lit 672, nat_lit 9, nat_lit 1, nat_lit 0, nat_lit 0, .ofNat (nat_lit 0), nat_lit 0, nat_lit 0, nat_lit 0, []), (nat_lit 673, nat_lit 0, nat_lit 1, nat_lit 0, nat_lit 0, .ofNat (nat_lit 0), nat_lit 0, nat_lit 0, nat_lit 0, []), (nat_lit 674, nat_lit 1, nat_lit 1, nat_lit 3, nat_lit 0, .ofNat (nat_lit 0), nat_lit 0, nat_lit 0, nat_lit 0, []), (nat_lit 675, nat_lit 3, nat_lit 1, nat_lit 0, nat_lit 0, .ofNat (nat_lit 2), nat_lit 0, nat_lit 0, nat_lit 0, []), (nat_lit 676, nat_lit 12, nat_lit 1, nat_lit 0, nat_lit 0, .ofNat (nat_lit 0), nat_lit 0, nat_lit 0, nat_lit 0, []), (nat_lit 677, nat_lit 9, nat_lit 1, nat_lit 0, nat_lit 0, .ofNat (nat_lit 0), nat_lit 0, nat_lit 0, nat_lit 0, []), (nat_lit 678, nat_lit 0, nat_lit 1, nat_lit 0, nat_lit 0, .ofNat (nat_lit 0), nat_lit 0, nat_lit 0, nat_lit 0, []), (nat_lit 679, nat_lit 1, nat_lit 1, nat_lit 3, nat_lit 0, .ofNat (nat_lit 0), nat_lit 0, nat_lit 0, nat_lit 0, []), (nat_lit 680, nat_lit 3, nat_lit 1, nat_lit 0, nat_lit 0, .ofNat (nat_lit 3), nat_lit 0, nat_lit 0, nat_lit 0, []), (nat_lit 681, nat_lit 12, nat_lit 1, nat_lit 0, nat_lit 0, .ofNat (nat_lit 0), nat_lit 0, nat_lit 0, nat_lit 0, []), (nat_lit 682, nat_lit 9, nat_lit 1, nat_lit 0, nat_lit 0, .ofNat (nat_lit 0), nat_lit 0, nat_lit 0, nat_lit 0, []), (nat_lit 683, nat_lit 0, nat_lit 1, nat_lit 0, nat_lit 0, .ofNat (nat_lit 0), nat_lit 0, nat_lit 0, nat_lit 0, []), (nat_lit 684, nat_lit 1, nat_lit 1, nat_lit 3, nat_lit 0, .ofNat (nat_lit 0), nat_lit 0, nat_lit 0, nat_lit 0, []), (nat_lit 685, nat_lit 3, nat_lit 1, nat_lit 0, nat_lit 0, .ofNat (nat_lit 4), nat_lit 0, nat_lit 0, nat_lit 0, []), (nat_lit 686, nat_lit 12, nat_lit 1, nat_lit 0, nat_lit 0, .ofNat (nat_lit 0), nat_lit 0, nat_lit 0, nat_lit 0, []), (nat_lit 687, nat_lit 9, nat_lit 1, nat_lit 0, nat_lit 0, .ofNat (nat_lit 0), nat_lit 0, nat_lit 0, nat_lit 0, [])]
def rx_c0_43 : List rx_E := [(nat_lit 688, nat_lit 0, nat_lit 1, nat_lit 0, nat_lit 0, .ofNat (nat_lit 0), nat_lit 0, nat_lit 0, nat_lit 0, []), (nat_lit 689, nat_lit 1, nat_lit 1, nat_lit 3, nat_lit 0, .ofNat (nat_lit 0), nat_lit 0, nat_lit 0, nat_lit 0, []), (nat_lit 690, nat_lit 3, nat_lit 1, nat_lit 0, nat_lit 0, .ofNat (nat_lit 5), nat_lit 0, nat_lit 0, nat_lit 0, []), (nat_lit 691, nat_lit 12, nat_lit 1, nat_lit 0, nat_lit 0, .ofNat (nat_lit 0), nat_lit 0, nat_lit 0, nat_lit 0, []), (nat_lit 692, nat_lit 9, nat_lit 1, nat_lit 0, nat_lit 0, .ofNat (nat_lit 0), nat_lit 0, nat_lit 0, nat_lit 0, []), (nat_lit 693, nat_lit 8, nat_lit 3, nat_lit 24, nat_lit 110, .ofNat (nat_lit 0), nat_lit 5, nat_lit 927, nat_lit 78, []), (nat_lit 696, nat_lit 0, nat_lit 1, nat_lit 2, nat_lit 0, .ofNat (nat_lit 0), nat_lit 0, nat_lit 0, nat_lit 0, []), (nat_lit 697, nat_lit 0, nat_lit 1, nat_lit 0, nat_lit 0, .ofNat (nat_lit 0), nat_lit 0, nat_lit 0, nat_lit 0, []), (nat_lit 698, nat_lit 1, nat_lit 1, nat_lit 3, nat_lit 0, .ofNat (nat_lit 0), nat_lit 0, nat_lit 0, nat_lit 0, []), (nat_lit 699, nat_lit 3, nat_lit 1, nat_lit 0, nat_lit 0, .ofNat (nat_lit 1), nat_lit 0, nat_lit 0, nat_lit 0, []), (nat_lit 700, nat_lit 12, nat_lit 1, nat_lit 0, nat_lit 0, .ofNat (nat_lit 0), nat_lit 0, nat_lit 0, nat_lit 0, []), (nat_lit 701, nat_lit 9, nat_lit 1, nat_lit 0, nat_lit 0, .ofNat (nat_lit 0), nat_lit 0, nat_lit 0, nat_lit 0, []), (nat_lit 702, nat_lit 0, nat_lit 1, nat_lit 0, nat_lit 0, .ofNat (nat_lit 0), nat_lit 0, nat_lit 0, nat_lit 0, []), (nat_lit 703, nat_lit 1, nat_lit 1, nat_lit 3, nat_lit 0, .ofNat (nat_lit 0), nat_lit 0, nat_lit 0, nat_lit 0, [])]
def rx_c0_44 : List rx_E := [(nat_lit 704, nat_lit 3, nat_lit 1, nat_lit 0, nat_lit 0, .ofNat (nat_lit 2), nat_lit 0, nat_lit 0, nat_lit 0, []), (nat_lit 705, nat_lit 12, nat_lit 1, nat_lit 0, nat_lit 0, .ofNat (nat_lit 0), nat_lit 0, nat_lit 0, nat_lit 0, []), (nat_lit 706, nat_lit 9, nat_lit 1, nat_lit 0, nat_lit 0, .ofNat (nat_lit 0), nat_lit 0, nat_lit 0, nat_lit 0, []), (nat_lit 707, nat_lit 0, nat_lit 1, nat_lit 0, nat_lit 0, .ofNat (nat_lit 0), nat_lit 0, nat_lit 0, nat_lit 0, []), (nat_lit 708, nat_lit 1, nat_lit 1, nat_lit 3, nat_lit 0, .ofNat (nat_lit 0), nat_lit 0, nat_lit 0, nat_lit 0, []), (nat_lit 709, nat_lit 3, nat_lit 1, nat_lit 0, nat_lit 0, .ofNat (nat_lit 3), nat_lit 0, nat_lit 0, nat_lit 0, []), (nat_lit 710, nat_lit 12, nat_lit 1, nat_lit 0, nat_lit 0, .ofNat (nat_lit 0), nat_lit 0, nat_lit 0, nat_lit 0, []), (nat_lit 711, nat_lit 9, nat_lit 1, nat_lit 0, nat_lit 0, .ofNat (nat_lit 0), nat_lit 0, nat_lit 0, nat_lit 0, []), (nat_lit 712, nat_lit 0, nat_lit 1, nat_lit 0, nat_lit 0, .ofNat (nat_lit 0), nat_lit 0, nat_lit 0, nat_lit 0, []), (nat_lit 713, nat_lit 1, nat_lit 1, nat_lit 3, nat_lit 0, .ofNat (nat_lit 0), nat_lit 0, nat_lit 0, nat_lit 0, []), (nat_lit 714, nat_lit 3, nat_lit 1, nat_lit 0, nat_lit 0, .ofNat (nat_lit 4), nat_lit 0, nat_lit 0, nat_lit 0, []), (nat_lit 715, nat_lit 12, nat_lit 1, nat_lit 0, nat_lit 0, .ofNat (nat_lit 0), nat_lit 0, nat_lit 0, nat_lit 0, []), (nat_lit 716, nat_lit 9, nat_lit 1, nat_lit 0, nat_lit 0, .ofNat (nat_lit 0), nat_lit 0, nat_lit 0, nat_lit 0, []), (nat_lit 717, nat_lit 0, nat_lit 1, nat_lit 0, nat_lit 0, .ofNat (nat_lit 0), nat_lit 0, nat_lit 0, nat_lit 0, []), (nat_lit 718, nat_lit 1, nat_lit 1, nat_lit 3, nat_lit 0, .ofNat (nat_lit 0), nat_lit 0, nat_lit 0, nat_lit 0, []), (nat_lit 719, nat_lit 3, nat_lit 1, nat_lit 0, nat_lit 0, .ofNat (nat_lit 5), nat_lit 0, nat_lit 0, nat_lit 0, [])]
def rx_c0_45 : List rx_E := [(nat_lit 720, nat_lit 12, nat_lit 1, nat_lit 0, nat_lit 0, .ofNat (nat_lit 0), nat_lit 0, nat_lit 0, nat_lit 0, []), (nat_lit 721, nat_lit 9, nat_lit 1, nat_lit 0, nat_lit 0, .ofNat (nat_lit 0), nat_lit 0, nat_lit 0, nat_lit 0, []), (nat_lit 722, nat_lit 8, nat_lit 3, nat_lit 135, nat_lit 120, .ofNat (nat_lit 0), nat_lit 5, nat_lit 1771, nat_lit 81, []), (nat_lit 725, nat_lit 4, nat_lit 3, nat_lit 0, nat_lit 0, .ofNat (nat_lit 1195), nat_lit 0, nat_lit 0, nat_lit 0, []), (nat_lit 728, nat_lit 3, nat_lit 1, nat_lit 0, nat_lit 0, .ofNat (nat_lit 0), nat_lit 0, nat_lit 0, nat_lit 0, []), (nat_lit 729, nat_lit 6, nat_lit 1, nat_lit 0, nat_lit 0, .ofNat (nat_lit 0), nat_lit 0, nat_lit 0, nat_lit 0, []), (nat_lit 730, nat_lit 0, nat_lit 1, nat_lit 1, nat_lit 0, .ofNat (nat_lit 0), nat_lit 0, nat_lit 0, nat_lit 0, []), (nat_lit 731, nat_lit 0, nat_lit 1, nat_lit 0, nat_lit 0, .ofNat (nat_lit 0), nat_lit 0, nat_lit 0, nat_lit 0, []), (nat_lit 732, nat_lit 1, nat_lit 1, nat_lit 3, nat_lit 0, .ofNat (nat_lit 0), nat_lit 0, nat_lit 0, nat_lit 0, []), (nat_lit 733, nat_lit 3, nat_lit 1, nat_lit 0, nat_lit 0, .ofNat (nat_lit 1), nat_lit 0, nat_lit 0, nat_lit 0, []), (nat_lit 734, nat_lit 12, nat_lit 1, nat_lit 0, nat_lit 0, .ofNat (nat_lit 0), nat_lit 0, nat_lit 0, nat_lit 0, []), (nat_lit 735, nat_lit 9, nat_lit 1, nat_lit 0, nat_lit 0, .ofNat (nat_lit 0), nat_lit 0, nat_lit 0, nat_lit 0, [])]
def rx_c0_46 : List rx_E := [(nat_lit 736, nat_lit 0, nat_lit 1, nat_lit 0, nat_lit 0, .ofNat (nat_lit 0), nat_lit 0, nat_lit 0, nat_lit 0, []), (nat_lit 737, nat_lit 1, nat_lit 1, nat_lit 3, nat_lit 0, .ofNat (nat_lit 0), nat_lit 0, nat_lit 0, nat_lit 0, []), (nat_lit 738, nat_lit 3, nat_lit 1, nat_lit 0, nat_lit 0, .ofNat (nat_lit 2), nat_lit 0, nat_lit 0, nat_lit 0, []), (nat_lit 739, nat_lit 12, nat_lit 1, nat_lit 0, nat_lit 0, .ofNat (nat_lit 0), nat_lit 0, nat_lit 0, nat_lit 0, []), (nat_lit 740, nat_lit 9, nat_lit 1, nat_lit 0, nat_lit 0, .ofNat (nat_lit 0), nat_lit 0, nat_lit 0, nat_lit 0, []), (nat_lit 741, nat_lit 0, nat_lit 1, nat_lit 0, nat_lit 0, .ofNat (nat_lit 0), nat_lit 0, nat_lit 0, nat_lit 0, []), (nat_lit 742, nat_lit 1, nat_lit 1, nat_lit 3, nat_lit 0, .ofNat (nat_lit 0), nat_lit 0, nat_lit 0, nat_lit 0, []), (nat_lit 743, nat_lit 3, nat_lit 1, nat_lit 0, nat_lit 0, .ofNat (nat_lit 3), nat_lit 0, nat_lit 0, nat_lit 0, []), (nat_lit 744, nat_lit 12, nat_lit 1, nat_lit 0, nat_lit 0, .ofNat (nat_lit 0), nat_lit 0, nat_lit 0, nat_lit 0, []), (nat_lit 745, nat_lit 9, nat_lit 1, nat_lit 0, nat_lit 0, .ofNat (nat_lit 0), nat_lit 0, nat_lit 0, nat_lit 0, []), (nat_lit 746, nat_lit 8, nat_lit 3, nat_lit 50, nat_lit 110, .ofNat (nat_lit 0), nat_lit 3, nat_lit 945, nat_lit 82, []), (nat_lit 749, nat_lit 0, nat_lit 1, nat_lit 2, nat_lit 0, .ofNat (nat_lit 0), nat_lit 0, nat_lit 0, nat_lit 0, []), (nat_lit 750, nat_lit 0, nat_lit 1, nat_lit 0, nat_lit 0, .ofNat (nat_lit 0), nat_lit 0, nat_lit 0, nat_lit 0, []), (nat_lit 751, nat_lit 1, nat_lit 1, nat_lit 3, nat_lit 0, .ofNat (nat_lit 0), nat_lit 0, nat_lit 0, nat_lit 0, [])]
def rx_c0_47 : List rx_E := [(nat_lit 752, nat_lit 3, nat_lit 1, nat_lit 0, nat_lit 0, .ofNat (nat_lit 1), nat_lit 0, nat_lit 0, nat_lit 0, []), (nat_lit 753, nat_lit 12, nat_lit 1, nat_lit 0, nat_lit 0, .ofNat (nat_lit 0), nat_lit 0, nat_lit 0, nat_lit 0, []), (nat_lit 754, nat_lit 9, nat_lit 1, nat_lit 0, nat_lit 0, .ofNat (nat_lit 0), nat_lit 0, nat_lit 0, nat_lit 0, []), (nat_lit 755, nat_lit 0, nat_lit 1, nat_lit 0, nat_lit 0, .ofNat (nat_lit 0), nat_lit 0, nat_lit 0, nat_lit 0, []), (nat_lit 756, nat_lit 1, nat_lit 1, nat_lit 3, nat_lit 0, .ofNat (nat_lit 0), nat_lit 0, nat_lit 0, nat_lit 0, []), (nat_lit 757, nat_lit 3, nat_lit 1, nat_lit 0, nat_lit 0, .ofNat (nat_lit 2), nat_lit 0, nat_lit 0, nat_lit 0, []), (nat_lit 758, nat_lit 12, nat_lit 1, nat_lit 0, nat_lit 0, .ofNat (nat_lit 0), nat_lit 0, nat_lit 0, nat_lit 0, []), (nat_lit 759, nat_lit 9, nat_lit 1, nat_lit 0, nat_lit 0, .ofNat (nat_lit 0), nat_lit 0, nat_lit 0, nat_lit 0, []), (nat_lit 760, nat_lit 0, nat_lit 1, nat_lit 0, nat_lit 0, .ofNat (nat_lit 0), nat_lit 0, nat_lit 0, nat_lit 0, []), (nat_lit 761, nat_lit 1, nat_lit 1, nat_lit 3, nat_lit 0, .ofNat (nat_lit 0), nat_lit 0, nat_lit 0, nat_lit 0, []), (nat_lit 762, nat_lit 3, nat_lit 1, nat_lit 0, nat_lit 0, .ofNat (nat_lit 3), nat_lit 0, nat_lit 0, nat_lit 0, []), (nat_lit 763, nat_lit 12, nat_lit 1, nat_lit 0, nat_lit 0, .ofNat (nat_lit 0), nat_lit 0, nat_lit 0, nat_lit 0, []), (nat_lit 764, nat_lit 9, nat_lit 1, nat_lit 0, nat_lit 0, .ofNat (nat_lit 0), nat_lit 0, nat_lit 0, nat_lit 0, []), (nat_lit 765, nat_lit 8, nat_lit 3, nat_lit 164, nat_lit 120, .ofNat (nat_lit 0), nat_lit 3, nat_lit 1775, nat_lit 86, [])]
def rx_c0_48 : List rx_E := [(nat_lit 768, nat_lit 4, nat_lit 3, nat_lit 0, nat_lit 0, .ofNat (nat_lit 1152), nat_lit 0, nat_lit 0, nat_lit 0, []), (nat_lit 771, nat_lit 3, nat_lit 1, nat_lit 0, nat_lit 0, .ofNat (nat_lit 0), nat_lit 0, nat_lit 0, nat_lit 0, []), (nat_lit 772, nat_lit 6, nat_lit 1, nat_lit 0, nat_lit 0, .ofNat (nat_lit 0), nat_lit 0, nat_lit 0, nat_lit 0, []), (nat_lit 773, nat_lit 0, nat_lit 1, nat_lit 1, nat_lit 0, .ofNat (nat_lit 0), nat_lit 0, nat_lit 0, nat_lit 0, []), (nat_lit 774, nat_lit 0, nat_lit 1, nat_lit 0, nat_lit 0, .ofNat (nat_lit 0), nat_lit 0, nat_lit 0, nat_lit 0, []), (nat_lit 775, nat_lit 1, nat_lit 1, nat_lit 3, nat_lit 0, .ofNat (nat_lit 0), nat_lit 0, nat_lit 0, nat_lit 0, []), (nat_lit 776, nat_lit 3, nat_lit 1, nat_lit 0, nat_lit 0, .ofNat (nat_lit 1), nat_lit 0, nat_lit 0, nat_lit 0, []), (nat_lit 777, nat_lit 12, nat_lit 1, nat_lit 0, nat_lit 0, .ofNat (nat_lit 0), nat_lit 0, nat_lit 0, nat_lit 0, []), (nat_lit 778, nat_lit 9, nat_lit 1, nat_lit 0, nat_lit 0, .ofNat (nat_lit 0), nat_lit 0, nat_lit 0, nat_lit 0, []), (nat_lit 779, nat_lit 0, nat_lit 1, nat_lit 0, nat_lit 0, .ofNat (nat_lit 0), nat_lit 0, nat_lit 0, nat_lit 0, []), (nat_lit 780, nat_lit 1, nat_lit 1, nat_lit 3, nat_lit 0, .ofNat (nat_lit 0), nat_lit 0, nat_lit 0, nat_lit 0, []), (nat_lit 781, nat_lit 3, nat_lit 1, nat_lit 0, nat_lit 0, .ofNat (nat_lit 2), nat_lit 0, nat_lit 0, nat_lit 0, []), (nat_lit 782, nat_lit 12, nat_lit 1, nat_lit 0, nat_lit 0, .ofNat (nat_lit 0), nat_lit 0, nat_lit 0, nat_lit 0, []), (nat_lit 783, nat_lit 9, nat_lit 1, nat_lit 0, nat_lit 0, .ofNat (nat_lit 0), nat_lit 0, nat_lit 0, nat_lit 0, [])]
def rx_c0_49 : List rx_E := [(nat_lit 784, nat_lit 0, nat_lit 1, nat_lit 0, nat_lit 0, .ofNat (nat_lit 0), nat_lit 0, nat_lit 0, nat_lit 0, []), (nat_lit 785, nat_lit 1, nat_lit 1, nat_lit 3, nat_lit 0, .ofNat (nat_lit 0), nat_lit 0, nat_lit 0, nat_lit 0, []), (nat_lit 786, nat_lit 3, nat_lit 1, nat_lit 0, nat_lit 0, .ofNat (nat_lit 3), nat_lit 0, nat_lit 0, nat_lit 0, []), (nat_lit 787, nat_lit 12, nat_lit 1, nat_lit 0, nat_lit 0, .ofNat (nat_lit 0), nat_lit 0, nat_lit 0, nat_lit 0, []), (nat_lit 788, nat_lit 9, nat_lit 1, nat_lit 0, nat_lit 0, .ofNat (nat_lit 0), nat_lit 0, nat_lit 0, nat_lit 0, []), (nat_lit 789, nat_lit 0, nat_lit 1, nat_lit 0, nat_lit 0, .ofNat (nat_lit 0), nat_lit 0, nat_lit 0, nat_lit 0, []), (nat_lit 790, nat_lit 1, nat_lit 1, nat_lit 3, nat_lit 0, .ofNat (nat_lit 0), nat_lit 0, nat_lit 0, nat_lit 0, []), (nat_lit 791, nat_lit 3, nat_lit 1, nat_lit 0, nat_lit 0, .ofNat (nat_lit 4), nat_lit 0, nat_lit 0, nat_lit 0, []), (nat_lit 792, nat_lit 12, nat_lit 1, nat_lit 0, nat_lit 0, .ofNat (nat_lit 0), nat_lit 0, nat_lit 0, nat_lit 0, []), (nat_lit 793, nat_lit 9, nat_lit 1, nat_lit 0, nat_lit 0, .ofNat (nat_lit 0), nat_lit 0, nat_lit 0, nat_lit 0, []), (nat_lit 794, nat_lit 8, nat_lit 3, nat_lit 18, nat_lit 110, .ofNat (nat_lit 0), nat_lit 4, nat_lit 956, nat_lit 87, []), (nat_lit 797, nat_lit 0, nat_lit 1, nat_lit 2, nat_lit 0, .ofNat (nat_lit 0), nat_lit 0, nat_lit 0, nat_lit 0, []), (nat_lit 798, nat_lit 0, nat_lit 1, nat_lit 0, nat_lit 0, .ofNat (nat_lit 0), nat_lit 0, nat_lit 0, nat_lit 0, []), (nat_lit 799, nat_lit 1, nat_lit 1, nat_lit 3, nat_lit 0, .ofNat (nat_lit 0), nat_lit 0, nat_lit 0, nat_lit 0, [])]
def rx_c0_50 : List rx_E := [(nat_lit 800, nat_lit 3, nat_lit 1, nat_lit 0, nat_lit 0, .ofNat (nat_lit 1), nat_lit 0, nat_lit 0, nat_lit 0, []), (nat_lit 801, nat_lit 12, nat_lit 1, nat_lit 0, nat_lit 0, .ofNat (nat_lit 0), nat_lit 0, nat_lit 0, nat_lit 0, []), (nat_lit 802, nat_lit 9, nat_lit 1, nat_lit 0, nat_lit 0, .ofNat (nat_lit 0), nat_lit 0, nat_lit 0, nat_lit 0, []), (nat_lit 803, nat_lit 0, nat_lit 1, nat_lit 0, nat_lit 0, .ofNat (nat_lit 0), nat_lit 0, nat_lit 0, nat_lit 0, []), (nat_lit 804, nat_lit 1, nat_lit 1, nat_lit 3, nat_lit 0, .ofNat (nat_lit 0), nat_lit 0, nat_lit 0, nat_lit 0, []), (nat_lit 805, nat_lit 3, nat_lit 1, nat_lit 0, nat_lit 0, .ofNat (nat_lit 2), nat_lit 0, nat_lit 0, nat_lit 0, []), (nat_lit 806, nat_lit 12, nat_lit 1, nat_lit 0, nat_lit 0, .ofNat (nat_lit 0), nat_lit 0, nat_lit 0, nat_lit 0, []), (nat_lit 807, nat_lit 9, nat_lit 1, nat_lit 0, nat_lit 0, .ofNat (nat_lit 0), nat_lit 0, nat_lit 0, nat_lit 0, []), (nat_lit 808, nat_lit 0, nat_lit 1, nat_lit 0, nat_lit 0, .ofNat (nat_lit 0), nat_lit 0, nat_lit 0, nat_lit 0, []), (nat_lit 809, nat_lit 1, nat_lit 1, nat_lit 3, nat_lit 0, .ofNat (nat_lit 0), nat_lit 0, nat_lit 0, nat_lit 0, []), (nat_lit 810, nat_lit 3, nat_lit 1, nat_lit 0, nat_lit 0, .ofNat (nat_lit 3), nat_lit 0, nat_lit 0, nat_lit 0, []), (nat_lit 811, nat_lit 12, nat_lit 1, nat_lit 0, nat_lit 0, .ofNat (nat_lit 0), nat_lit 0, nat_lit 0, nat_lit 0, []), (nat_lit 812, nat_lit 9, nat_lit 1, nat_lit 0, nat_lit 0, .ofNat (nat_lit 0), nat_lit 0, nat_lit 0, nat_lit 0, []), (nat_lit 813, nat_lit 0, nat_lit 1, nat_lit 0, nat_lit 0, .ofNat (nat_lit 0), nat_lit 0, nat_lit 0, nat_lit 0, []), (nat_lit 814, nat_lit 1, nat_lit 1, nat_lit 3, nat_lit 0, .ofNat (nat_lit 0), nat_lit 0, nat_lit 0, nat_lit 0, []), (nat_lit 815, nat_lit 3, nat_lit 1, nat_lit 0, nat_lit 0, .ofNat (nat_lit 4), nat_lit 0, nat_lit 0, nat_lit 0, [])]
def rx_c0_51 : List rx_E := [(nat_lit 816, nat_lit 12, nat_lit 1, nat_lit 0, nat_lit 0, .ofNat (nat_lit 0), nat_lit 0, nat_lit 0, nat_lit 0, []), (nat_lit 817, nat_lit 9, nat_lit 1, nat_lit 0, nat_lit 0, .ofNat (nat_lit 0), nat_lit 0, nat_lit 0, nat_lit 0, []), (nat_lit 818, nat_lit 8, nat_lit 3, nat_lit 128, nat_lit 120, .ofNat (nat_lit 0), nat_lit 4, nat_lit 1783, nat_lit 91, []), (nat_lit 821, nat_lit 4, nat_lit 3, nat_lit 0, nat_lit 0, .ofNat (nat_lit 1099), nat_lit 0, nat_lit 0, nat_lit 0, []), (nat_lit 824, nat_lit 3, nat_lit 1, nat_lit 0, nat_lit 0, .ofNat (nat_lit 0), nat_lit 0, nat_lit 0, nat_lit 0, []), (nat_lit 825, nat_lit 6, nat_lit 1, nat_lit 0, nat_lit 0, .ofNat (nat_lit 0), nat_lit 0, nat_lit 0, nat_lit 0, []), (nat_lit 826, nat_lit 0, nat_lit 1, nat_lit 1, nat_lit 0, .ofNat (nat_lit 0), nat_lit 0, nat_lit 0, nat_lit 0, []), (nat_lit 827, nat_lit 0, nat_lit 1, nat_lit 0, nat_lit 0, .ofNat (nat_lit 0), nat_lit 0, nat_lit 0, nat_lit 0, []), (nat_lit 828, nat_lit 1, nat_lit 1, nat_lit 3, nat_lit 0, .ofNat (nat_lit 0), nat_lit 0, nat_lit 0, nat_lit 0, []), (nat_lit 829, nat_lit 3, nat_lit 1, nat_lit 0, nat_lit 0, .ofNat (nat_lit 1), nat_lit 0, nat_lit 0, nat_lit 0, []), (nat_lit 830, nat_lit 12, nat_lit 1, nat_lit 0, nat_lit 0, .ofNat (nat_lit 0), nat_lit 0, nat_lit 0, nat_lit 0, []), (nat_lit 831, nat_lit 9, nat_lit 1, nat_lit 0, nat_lit 0, .ofNat (nat_lit 0), nat_lit 0, nat_lit 0, nat_lit 0, [])]
def rx_c0_52 : List rx_E := [(nat_lit 832, nat_lit 8, nat_lit 3, nat_lit 53, nat_lit 110, .ofNat (nat_lit 0), nat_lit 1, nat_lit 960, nat_lit 92, []), (nat_lit 835, nat_lit 0, nat_lit 1, nat_lit 2, nat_lit 0, .ofNat (nat_lit 0), nat_lit 0, nat_lit 0, nat_lit 0, []), (nat_lit 836, nat_lit 0, nat_lit 1, nat_lit 0, nat_lit 0, .ofNat (nat_lit 0), nat_lit 0, nat_lit 0, nat_lit 0, []), (nat_lit 837, nat_lit 1, nat_lit 1, nat_lit 3, nat_lit 0, .ofNat (nat_lit 0), nat_lit 0, nat_lit 0, nat_lit 0, []), (nat_lit 838, nat_lit 3, nat_lit 1, nat_lit 0, nat_lit 0, .ofNat (nat_lit 1), nat_lit 0, nat_lit 0, nat_lit 0, []), (nat_lit 839, nat_lit 12, nat_lit 1, nat_lit 0, nat_lit 0, .ofNat (nat_lit 0), nat_lit 0, nat_lit 0, nat_lit 0, []), (nat_lit 840, nat_lit 9, nat_lit 1, nat_lit 0, nat_lit 0, .ofNat (nat_lit 0), nat_lit 0, nat_lit 0, nat_lit 0, []), (nat_lit 841, nat_lit 8, nat_lit 3, nat_lit 167, nat_lit 120, .ofNat (nat_lit 0), nat_lit 1, nat_lit 1853, nat_lit 95, []), (nat_lit 844, nat_lit 4, nat_lit 3, nat_lit 0, nat_lit 0, .ofNat (nat_lit 1076), nat_lit 0, nat_lit 0, nat_lit 0, []), (nat_lit 847, nat_lit 3, nat_lit 1, nat_lit 0, nat_lit 0, .ofNat (nat_lit 0), nat_lit 0, nat_lit 0, nat_lit 0, [])]
def rx_c0_53 : List rx_E := [(nat_lit 848, nat_lit 6, nat_lit 1, nat_lit 0, nat_lit 0, .ofNat (nat_lit 0), nat_lit 0, nat_lit 0, nat_lit 0, []), (nat_lit 849, nat_lit 0, nat_lit 1, nat_lit 1, nat_lit 0, .ofNat (nat_lit 0), nat_lit 0, nat_lit 0, nat_lit 0, []), (nat_lit 850, nat_lit 0, nat_lit 1, nat_lit 0, nat_lit 0, .ofNat (nat_lit 0), nat_lit 0, nat_lit 0, nat_lit 0, []), (nat_lit 851, nat_lit 1, nat_lit 1, nat_lit 3, nat_lit 0, .ofNat (nat_lit 0), nat_lit 0, nat_lit 0, nat_lit 0, []), (nat_lit 852, nat_lit 3, nat_lit 1, nat_lit 0, nat_lit 0, .ofNat (nat_lit 1), nat_lit 0, nat_lit 0, nat_lit 0, []), (nat_lit 853, nat_lit 12, nat_lit 1, nat_lit 0, nat_lit 0, .ofNat (nat_lit 0), nat_lit 0, nat_lit 0, nat_lit 0, []), (nat_lit 854, nat_lit 9, nat_lit 1, nat_lit 0, nat_lit 0, .ofNat (nat_lit 0), nat_lit 0, nat_lit 0, nat_lit 0, []), (nat_lit 855, nat_lit 8, nat_lit 3, nat_lit 7, nat_lit 110, .ofNat (nat_lit 0), nat_lit 1, nat_lit 974, nat_lit 96, []), (nat_lit 858, nat_lit 0, nat_lit 1, nat_lit 2, nat_lit 0, .ofNat (nat_lit 0), nat_lit 0, nat_lit 0, nat_lit 0, []), (nat_lit 859, nat_lit 0, nat_lit 1, nat_lit 0, nat_lit 0, .ofNat (nat_lit 0), nat_lit 0, nat_lit 0, nat_lit 0, []), (nat_lit 860, nat_lit 1, nat_lit 1, nat_lit 3, nat_lit 0, .ofNat (nat_lit 0), nat_lit 0, nat_lit 0, nat_lit 0, []), (nat_lit 861, nat_lit 3, nat_lit 1, nat_lit 0, nat_lit 0, .ofNat (nat_lit 1), nat_lit 0, nat_lit 0, nat_lit 0, []), (nat_lit 862, nat_lit 12, nat_lit 1, nat_lit 0, nat_lit 0, .ofNat (nat_lit 0), nat_lit 0, nat_lit 0, nat_lit 0, []), (nat_lit 863, nat_lit 9, nat_lit 1, nat_lit 0, nat_lit 0, .ofNat (nat_lit 0), nat_lit 0, nat_lit 0, nat_lit 0, [])]
def rx_c0_54 : List rx_E := [(nat_lit 864, nat_lit 8, nat_lit 3, nat_lit 113, nat_lit 120, .ofNat (nat_lit 0), nat_lit 1, nat_lit 1787, nat_lit 99, []), (nat_lit 867, nat_lit 4, nat_lit 3, nat_lit 0, nat_lit 0, .ofNat (nat_lit 1053), nat_lit 0, nat_lit 0, nat_lit 0, []), (nat_lit 870, nat_lit 3, nat_lit 1, nat_lit 0, nat_lit 0, .ofNat (nat_lit 0), nat_lit 0, nat_lit 0, nat_lit 0, []), (nat_lit 871, nat_lit 6, nat_lit 1, nat_lit 0, nat_lit 0, .ofNat (nat_lit 0), nat_lit 0, nat_lit 0, nat_lit 0, []), (nat_lit 872, nat_lit 0, nat_lit 1, nat_lit 1, nat_lit 0, .ofNat (nat_lit 0), nat_lit 0, nat_lit 0, nat_lit 0, []), (nat_lit 873, nat_lit 0, nat_lit 1, nat_lit 0, nat_lit 0, .ofNat (nat_lit 0), nat_lit 0, nat_lit 0, nat_lit 0, []), (nat_lit 874, nat_lit 1, nat_lit 1, nat_lit 3, nat_lit 0, .ofNat (nat_lit 0), nat_lit 0, nat_lit 0, nat_lit 0, []), (nat_lit 875, nat_lit 3, nat_lit 1, nat_lit 0, nat_lit 0, .ofNat (nat_lit 1), nat_lit 0, nat_lit 0, nat_lit 0, []), (nat_lit 876, nat_lit 12, nat_lit 1, nat_lit 0, nat_lit 0, .ofNat (nat_lit 0), nat_lit 0, nat_lit 0, nat_lit 0, []), (nat_lit 877, nat_lit 9, nat_lit 1, nat_lit 0, nat_lit 0, .ofNat (nat_lit 0), nat_lit 0, nat_lit 0, nat_lit 0, []), (nat_lit 878, nat_lit 0, nat_lit 1, nat_lit 0, nat_lit 0, .ofNat (nat_lit 0), nat_lit 0, nat_lit 0, nat_lit 0, []), (nat_lit 879, nat_lit 1, nat_lit 1, nat_lit 3, nat_lit 0, .ofNat (nat_lit 0), nat_lit 0, nat_lit 0, nat_lit 0, [])]
def rx_c0_55 : List rx_E := [(nat_lit 880, nat_lit 3, nat_lit 1, nat_lit 0, nat_lit 0, .ofNat (nat_lit 2), nat_lit 0, nat_lit 0, nat_lit 0, []), (nat_lit 881, nat_lit 12, nat_lit 1, nat_lit 0, nat_lit 0, .ofNat (nat_lit 0), nat_lit 0, nat_lit 0, nat_lit 0, []), (nat_lit 882, nat_lit 9, nat_lit 1, nat_lit 0, nat_lit 0, .ofNat (nat_lit 0), nat_lit 0, nat_lit 0, nat_lit 0, []), (nat_lit 883, nat_lit 8, nat_lit 3, nat_lit 45, nat_lit 110, .ofNat (nat_lit 0), nat_lit 2, nat_lit 987, nat_lit 100, []), (nat_lit 886, nat_lit 0, nat_lit 1, nat_lit 2, nat_lit 0, .ofNat (nat_lit 0), nat_lit 0, nat_lit 0, nat_lit 0, []), (nat_lit 887, nat_lit 0, nat_lit 1, nat_lit 0, nat_lit 0, .ofNat (nat_lit 0), nat_lit 0, nat_lit 0, nat_lit 0, []), (nat_lit 888, nat_lit 1, nat_lit 1, nat_lit 3, nat_lit 0, .ofNat (nat_lit 0), nat_lit 0, nat_lit 0, nat_lit 0, []), (nat_lit 889, nat_lit 3, nat_lit 1, nat_lit 0, nat_lit 0, .ofNat (nat_lit 1), nat_lit 0, nat_lit 0, nat_lit 0, []), (nat_lit 890, nat_lit 12, nat_lit 1, nat_lit 0, nat_lit 0, .ofNat (nat_lit 0), nat_lit 0, nat_lit 0, nat_lit 0, []), (nat_lit 891, nat_lit 9, nat_lit 1, nat_lit 0, nat_lit 0, .ofNat (nat_lit 0), nat_lit 0, nat_lit 0, nat_lit 0, []), (nat_lit 892, nat_lit 0, nat_lit 1, nat_lit 0, nat_lit 0, .ofNat (nat_lit 0), nat_lit 0, nat_lit 0, nat_lit 0, []), (nat_lit 893, nat_lit 1, nat_lit 1, nat_lit 3, nat_lit 0, .ofNat (nat_lit 0), nat_lit 0, nat_lit 0, nat_lit 0, []), (nat_lit 894, nat_lit 3, nat_lit 1, nat_lit 0, nat_lit 0, .ofNat (nat_lit 2), nat_lit 0, nat_lit 0, nat_lit 0, []), (nat_lit 895, nat_lit 12, nat_lit 1, nat_lit 0, nat_lit 0, .ofNat (nat_lit 0), nat_lit 0, nat_lit 0, nat_lit 0, [])]
def rx_c0_56 : List rx_E := [(nat_lit 896, nat_lit 9, nat_lit 1, nat_lit 0, nat_lit 0, .ofNat (nat_lit 0), nat_lit 0, nat_lit 0, nat_lit 0, []), (nat_lit 897, nat_lit 8, nat_lit 3, nat_lit 160, nat_lit 120, .ofNat (nat_lit 0), nat_lit 2, nat_lit 1816, nat_lit 103, []), (nat_lit 900, nat_lit 4, nat_lit 3, nat_lit 0, nat_lit 0, .ofNat (nat_lit 1020), nat_lit 0, nat_lit 0, nat_lit 0, []), (nat_lit 903, nat_lit 3, nat_lit 1, nat_lit 0, nat_lit 0, .ofNat (nat_lit 0), nat_lit 0, nat_lit 0, nat_lit 0, []), (nat_lit 904, nat_lit 6, nat_lit 1, nat_lit 0, nat_lit 0, .ofNat (nat_lit 0), nat_lit 0, nat_lit 0, nat_lit 0, []), (nat_lit 905, nat_lit 0, nat_lit 1, nat_lit 1, nat_lit 0, .ofNat (nat_lit 0), nat_lit 0, nat_lit 0, nat_lit 0, []), (nat_lit 906, nat_lit 0, nat_lit 1, nat_lit 0, nat_lit 0, .ofNat (nat_lit 0), nat_lit 0, nat_lit 0, nat_lit 0, []), (nat_lit 907, nat_lit 1, nat_lit 1, nat_lit 3, nat_lit 0, .ofNat (nat_lit 0), nat_lit 0, nat_lit 0, nat_lit 0, []), (nat_lit 908, nat_lit 3, nat_lit 1, nat_lit 0, nat_lit 0, .ofNat (nat_lit 1), nat_lit 0, nat_lit 0, nat_lit 0, []), (nat_lit 909, nat_lit 12, nat_lit 1, nat_lit 0, nat_lit 0, .ofNat (nat_lit 0), nat_lit 0, nat_lit 0, nat_lit 0, []), (nat_lit 910, nat_lit 9, nat_lit 1, nat_lit 0, nat_lit 0, .ofNat (nat_lit 0), nat_lit 0, nat_lit 0, nat_lit 0, []), (nat_lit 911, nat_lit 0, nat_lit 1, nat_lit 0, nat_lit 0, .ofNat (nat_lit 0), nat_lit 0, nat_lit 0, nat_lit 0, [])]
def rx_c0_57 : List rx_E := [(nat_lit 912, nat_lit 1, nat_lit 1, nat_lit 3, nat_lit 0, .ofNat (nat_lit 0), nat_lit 0, nat_lit 0, nat_lit 0, []), (nat_lit 913, nat_lit 3, nat_lit 1, nat_lit 0, nat_lit 0, .ofNat (nat_lit 2), nat_lit 0, nat_lit 0, nat_lit 0, []), (nat_lit 914, nat_lit 12, nat_lit 1, nat_lit 0, nat_lit 0, .ofNat (nat_lit 0), nat_lit 0, nat_lit 0, nat_lit 0, []), (nat_lit 915, nat_lit 9, nat_lit 1, nat_lit 0, nat_lit 0, .ofNat (nat_lit 0), nat_lit 0, nat_lit 0, nat_lit 0, []), (nat_lit 916, nat_lit 8, nat_lit 3, nat_lit 43, nat_lit 110, .ofNat (nat_lit 0), nat_lit 2, nat_lit 995, nat_lit 104, []), (nat_lit 919, nat_lit 0, nat_lit 1, nat_lit 2, nat_lit 0, .ofNat (nat_lit 0), nat_lit 0, nat_lit 0, nat_lit 0, []), (nat_lit 920, nat_lit 0, nat_lit 1, nat_lit 0, nat_lit 0, .ofNat (nat_lit 0), nat_lit 0, nat_lit 0, nat_lit 0, []), (nat_lit 921, nat_lit 1, nat_lit 1, nat_lit 3, nat_lit 0, .ofNat (nat_lit 0), nat_lit 0, nat_lit 0, nat_lit 0, []), (nat_lit 922, nat_lit 3, nat_lit 1, nat_lit 0, nat_lit 0, .ofNat (nat_lit 1), nat_lit 0, nat_lit 0, nat_lit 0, []), (nat_lit 923, nat_lit 12, nat_lit 1, nat_lit 0, nat_lit 0, .ofNat (nat_lit 0), nat_lit 0, nat_lit 0, nat_lit 0, []), (nat_lit 924, nat_lit 9, nat_lit 1, nat_lit 0, nat_lit 0, .ofNat (nat_lit 0), nat_lit 0, nat_lit 0, nat_lit 0, []), (nat_lit 925, nat_lit 0, nat_lit 1, nat_lit 0, nat_lit 0, .ofNat (nat_lit 0), nat_lit 0, nat_lit 0, nat_lit 0, []), (nat_lit 926, nat_lit 1, nat_lit 1, nat_lit 3, nat_lit 0, .ofNat (nat_lit 0), nat_lit 0, nat_lit 0, nat_lit 0, []), (nat_lit 927, nat_lit 3, nat_lit 1, nat_lit 0, nat_lit 0, .ofNat (nat_lit 2), nat_lit 0, nat_lit 0, nat_lit 0, [])]
def rx_c0_58 : List rx_E := [(nat_lit 928, nat_lit 12, nat_lit 1, nat_lit 0, nat_lit 0, .ofNat (nat_lit 0), nat_lit 0, nat_lit 0, nat_lit 0, []), (nat_lit 929, nat_lit 9, nat_lit 1, nat_lit 0, nat_lit 0, .ofNat (nat_lit 0), nat_lit 0, nat_lit 0, nat_lit 0, []), (nat_lit 930, nat_lit 8, nat_lit 3, nat_lit 158, nat_lit 120, .ofNat (nat_lit 0), nat_lit 2, nat_lit 1909, nat_lit 107, []), (nat_lit 933, nat_lit 4, nat_lit 3, nat_lit 0, nat_lit 0, .ofNat (nat_lit 987), nat_lit 0, nat_lit 0, nat_lit 0, []), (nat_lit 936, nat_lit 3, nat_lit 1, nat_lit 0, nat_lit 0, .ofNat (nat_lit 0), nat_lit 0, nat_lit 0, nat_lit 0, []), (nat_lit 937, nat_lit 6, nat_lit 1, nat_lit 0, nat_lit 0, .ofNat (nat_lit 0), nat_lit 0, nat_lit 0, nat_lit 0, []), (nat_lit 938, nat_lit 0, nat_lit 1, nat_lit 1, nat_lit 0, .ofNat (nat_lit 0), nat_lit 0, nat_lit 0, nat_lit 0, []), (nat_lit 939, nat_lit 0, nat_lit 1, nat_lit 0, nat_lit 0, .ofNat (nat_lit 0), nat_lit 0, nat_lit 0, nat_lit 0, []), (nat_lit 940, nat_lit 1, nat_lit 1, nat_lit 3, nat_lit 0, .ofNat (nat_lit 0), nat_lit 0, nat_lit 0, nat_lit 0, []), (nat_lit 941, nat_lit 3, nat_lit 1, nat_lit 0, nat_lit 0, .ofNat (nat_lit 1), nat_lit 0, nat_lit 0, nat_lit 0, []), (nat_lit 942, nat_lit 12, nat_lit 1, nat_lit 0, nat_lit 0, .ofNat (nat_lit 0), nat_lit 0, nat_lit 0, nat_lit 0, []), (nat_lit 943, nat_lit 9, nat_lit 1, nat_lit 0, nat_lit 0, .ofNat (nat_lit 0), nat_lit 0, nat_lit 0, nat_lit 0, [])]
def rx_c0_59 : List rx_E := [(nat_lit 944, nat_lit 8, nat_lit 3, nat_lit 25, nat_lit 110, .ofNat (nat_lit 0), nat_lit 1, nat_lit 1025, nat_lit 108, []), (nat_lit 947, nat_lit 0, nat_lit 1, nat_lit 2, nat_lit 0, .ofNat (nat_lit 0), nat_lit 0, nat_lit 0, nat_lit 0, []), (nat_lit 948, nat_lit 0, nat_lit 1, nat_lit 0, nat_lit 0, .ofNat (nat_lit 0), nat_lit 0, nat_lit 0, nat_lit 0, []), (nat_lit 949, nat_lit 1, nat_lit 1, nat_lit 3, nat_lit 0, .ofNat (nat_lit 0), nat_lit 0, nat_lit 0, nat_lit 0, []), (nat_lit 950, nat_lit 3, nat_lit 1, nat_lit 0, nat_lit 0, .ofNat (nat_lit 1), nat_lit 0, nat_lit 0, nat_lit 0, []), (nat_lit 951, nat_lit 12, nat_lit 1, nat_lit 0, nat_lit 0, .ofNat (nat_lit 0), nat_lit 0, nat_lit 0, nat_lit 0, []), (nat_lit 952, nat_lit 9, nat_lit 1, nat_lit 0, nat_lit 0, .ofNat (nat_lit 0), nat_lit 0, nat_lit 0, nat_lit 0, []), (nat_lit 953, nat_lit 8, nat_lit 3, nat_lit 136, nat_lit 120, .ofNat (nat_lit 0), nat_lit 1, nat_lit 1821, nat_lit 111, []), (nat_lit 956, nat_lit 4, nat_lit 3, nat_lit 0, nat_lit 0, .ofNat (nat_lit 964), nat_lit 0, nat_lit 0, nat_lit 0, []), (nat_lit 959, nat_lit 3, nat_lit 1, nat_lit 0, nat_lit 0, .ofNat (nat_lit 0), nat_lit 0, nat_lit 0, nat_lit 0, [])]
def rx_c0_60 : List rx_E := [(nat_lit 960, nat_lit 6, nat_lit 1, nat_lit 0, nat_lit 0, .ofNat (nat_lit 0), nat_lit 0, nat_lit 0, nat_lit 0, []), (nat_lit 961, nat_lit 0, nat_lit 1, nat_lit 1, nat_lit 0, .ofNat (nat_lit 0), nat_lit 0, nat_lit 0, nat_lit 0, []), (nat_lit 962, nat_lit 0, nat_lit 1, nat_lit 0, nat_lit 0, .ofNat (nat_lit 0), nat_lit 0, nat_lit 0, nat_lit 0, []), (nat_lit 963, nat_lit 1, nat_lit 1, nat_lit 3, nat_lit 0, .ofNat (nat_lit 0), nat_lit 0, nat_lit 0, nat_lit 0, []), (nat_lit 964, nat_lit 3, nat_lit 1, nat_lit 0, nat_lit 0, .ofNat (nat_lit 1), nat_lit 0, nat_lit 0, nat_lit 0, []), (nat_lit 965, nat_lit 12, nat_lit 1, nat_lit 0, nat_lit 0, .ofNat (nat_lit 0), nat_lit 0, nat_lit 0, nat_lit 0, []), (nat_lit 966, nat_lit 9, nat_lit 1, nat_lit 0, nat_lit 0, .ofNat (nat_lit 0), nat_lit 0, nat_lit 0, nat_lit 0, []), (nat_lit 967, nat_lit 0, nat_lit 1, nat_lit 0, nat_lit 0, .ofNat (nat_lit 0), nat_lit 0, nat_lit 0, nat_lit 0, []), (nat_lit 968, nat_lit 1, nat_lit 1, nat_lit 3, nat_lit 0, .ofNat (nat_lit 0), nat_lit 0, nat_lit 0, nat_lit 0, []), (nat_lit 969, nat_lit 3, nat_lit 1, nat_lit 0, nat_lit 0, .ofNat (nat_lit 2), nat_lit 0, nat_lit 0, nat_lit 0, []), (nat_lit 970, nat_lit 12, nat_lit 1, nat_lit 0, nat_lit 0, .ofNat (nat_lit 0), nat_lit 0, nat_lit 0, nat_lit 0, []), (nat_lit 971, nat_lit 9, nat_lit 1, nat_lit 0, nat_lit 0, .ofNat (nat_lit 0), nat_lit 0, nat_lit 0, nat_lit 0, []), (nat_lit 972, nat_lit 8, nat_lit 3, nat_lit 14, nat_lit 110, .ofNat (nat_lit 0), nat_lit 2, nat_lit 1037, nat_lit 112, []), (nat_lit 975, nat_lit 0, nat_lit 1, nat_lit 2, nat_lit 0, .ofNat (nat_lit 0), nat_lit 0, nat_lit 0, nat_lit 0, [])]
def rx_c0_61 : List rx_E := [(nat_lit 976, nat_lit 0, nat_lit 1, nat_lit 0, nat_lit 0, .ofNat (nat_lit 0), nat_lit 0, nat_lit 0, nat_lit 0, []), (nat_lit 977, nat_lit 1, nat_lit 1, nat_lit 3, nat_lit 0, .ofNat (nat_lit 0), nat_lit 0, nat_lit 0, nat_lit 0, []), (nat_lit 978, nat_lit 3, nat_lit 1, nat_lit 0, nat_lit 0, .ofNat (nat_lit 1), nat_lit 0, nat_lit 0, nat_lit 0, []), (nat_lit 979, nat_lit 12, nat_lit 1, nat_lit 0, nat_lit 0, .ofNat (nat_lit 0), nat_lit 0, nat_lit 0, nat_lit 0, []), (nat_lit 980, nat_lit 9, nat_lit 1, nat_lit 0, nat_lit 0, .ofNat (nat_lit 0), nat_lit 0, nat_lit 0, nat_lit 0, []), (nat_lit 981, nat_lit 0, nat_lit 1, nat_lit 0, nat_lit 0, .ofNat (nat_lit 0), nat_lit 0, nat_lit 0, nat_lit 0, []), (nat_lit 982, nat_lit 1, nat_lit 1, nat_lit 3, nat_lit 0, .ofNat (nat_lit 0), nat_lit 0, nat_lit 0, nat_lit 0, []), (nat_lit 983, nat_lit 3, nat_lit 1, nat_lit 0, nat_lit 0, .ofNat (nat_lit 2), nat_lit 0, nat_lit 0, nat_lit 0, []), (nat_lit 984, nat_lit 12, nat_lit 1, nat_lit 0, nat_lit 0, .ofNat (nat_lit 0), nat_lit 0, nat_lit 0, nat_lit 0, []), (nat_lit 985, nat_lit 9, nat_lit 1, nat_lit 0, nat_lit 0, .ofNat (nat_lit 0), nat_lit 0, nat_lit 0, nat_lit 0, []), (nat_lit 986, nat_lit 8, nat_lit 3, nat_lit 123, nat_lit 120, .ofNat (nat_lit 0), nat_lit 2, nat_lit 1845, nat_lit 115, []), (nat_lit 989, nat_lit 4, nat_lit 3, nat_lit 0, nat_lit 0, .ofNat (nat_lit 931), nat_lit 0, nat_lit 0, nat_lit 0, [])]
def rx_c0_62 : List rx_E := [(nat_lit 992, nat_lit 3, nat_lit 1, nat_lit 0, nat_lit 0, .ofNat (nat_lit 0), nat_lit 0, nat_lit 0, nat_lit 0, []), (nat_lit 993, nat_lit 6, nat_lit 1, nat_lit 0, nat_lit 0, .ofNat (nat_lit 0), nat_lit 0, nat_lit 0, nat_lit 0, []), (nat_lit 994, nat_lit 0, nat_lit 1, nat_lit 1, nat_lit 0, .ofNat (nat_lit 0), nat_lit 0, nat_lit 0, nat_lit 0, []), (nat_lit 995, nat_lit 0, nat_lit 1, nat_lit 0, nat_lit 0, .ofNat (nat_lit 0), nat_lit 0, nat_lit 0, nat_lit 0, []), (nat_lit 996, nat_lit 1, nat_lit 1, nat_lit 3, nat_lit 0, .ofNat (nat_lit 0), nat_lit 0, nat_lit 0, nat_lit 0, []), (nat_lit 997, nat_lit 3, nat_lit 1, nat_lit 0, nat_lit 0, .ofNat (nat_lit 1), nat_lit 0, nat_lit 0, nat_lit 0, []), (nat_lit 998, nat_lit 12, nat_lit 1, nat_lit 0, nat_lit 0, .ofNat (nat_lit 0), nat_lit 0, nat_lit 0, nat_lit 0, []), (nat_lit 999, nat_lit 9, nat_lit 1, nat_lit 0, nat_lit 0, .ofNat (nat_lit 0), nat_lit 0, nat_lit 0, nat_lit 0, []), (nat_lit 1000, nat_lit 0, nat_lit 1, nat_lit 0, nat_lit 0, .ofNat (nat_lit 0), nat_lit 0, nat_lit 0, nat_lit 0, []), (nat_lit 1001, nat_lit 1, nat_lit 1, nat_lit 3, nat_lit 0, .ofNat (nat_lit 0), nat_lit 0, nat_lit 0, nat_lit 0, []), (nat_lit 1002, nat_lit 3, nat_lit 1, nat_lit 0, nat_lit 0, .ofNat (nat_lit 2), nat_lit 0, nat_lit 0, nat_lit 0, []), (nat_lit 1003, nat_lit 12, nat_lit 1, nat_lit 0, nat_lit 0, .ofNat (nat_lit 0), nat_lit 0, nat_lit 0, nat_lit 0, []), (nat_lit 1004, nat_lit 9, nat_lit 1, nat_lit 0, nat_lit 0, .ofNat (nat_lit 0), nat_lit 0, nat_lit 0, nat_lit 0, []), (nat_lit 1005, nat_lit 8, nat_lit 3, nat_lit 26, nat_lit 110, .ofNat (nat_lit 0), nat_lit 2, nat_lit 1041, nat_lit 116, [])]
def rx_c0_63 : List rx_E := [(nat_lit 1008, nat_lit 0, nat_lit 1, nat_lit 2, nat_lit 0, .ofNat (nat_lit 0), nat_lit 0, nat_lit 0, nat_lit 0, []), (nat_lit 1009, nat_lit 0, nat_lit 1, nat_lit 0, nat_lit 0, .ofNat (nat_lit 0), nat_lit 0, nat_lit 0, nat_lit 0, []), (nat_lit 1010, nat_lit 1, nat_lit 1, nat_lit 3, nat_lit 0, .ofNat (nat_lit 0), nat_lit 0, nat_lit 0, nat_lit 0, []), (nat_lit 1011, nat_lit 3, nat_lit 1, nat_lit 0, nat_lit 0, .ofNat (nat_lit 1), nat_lit 0, nat_lit 0, nat_lit 0, []), (nat_lit 1012, nat_lit 12, nat_lit 1, nat_lit 0, nat_lit 0, .ofNat (nat_lit 0), nat_lit 0, nat_lit 0, nat_lit 0, []), (nat_lit 1013, nat_lit 9, nat_lit 1, nat_lit 0, nat_lit 0, .ofNat (nat_lit 0), nat_lit 0, nat_lit 0, nat_lit 0, []), (nat_lit 1014, nat_lit 0, nat_lit 1, nat_lit 0, nat_lit 0, .ofNat (nat_lit 0), nat_lit 0, nat_lit 0, nat_lit 0, []), (nat_lit 1015, nat_lit 1, nat_lit 1, nat_lit 3, nat_lit 0, .ofNat (nat_lit 0), nat_lit 0, nat_lit 0, nat_lit 0, []), (nat_lit 1016, nat_lit 3, nat_lit 1, nat_lit 0, nat_lit 0, .ofNat (nat_lit 2), nat_lit 0, nat_lit 0, nat_lit 0, []), (nat_lit 1017, nat_lit 12, nat_lit 1, nat_lit 0, nat_lit 0, .ofNat (nat_lit 0), nat_lit 0, nat_lit 0, nat_lit 0, []), (nat_lit 1018, nat_lit 9, nat_lit 1, nat_lit 0, nat_lit 0, .ofNat (nat_lit 0), nat_lit 0, nat_lit 0, nat_lit 0, []), (nat_lit 1019, nat_lit 8, nat_lit 3, nat_lit 137, nat_lit 120, .ofNat (nat_lit 0), nat_lit 2, nat_lit 1849, nat_lit 119, []), (nat_lit 1022, nat_lit 4, nat_lit 3, nat_lit 0, nat_lit 0, .ofNat (nat_lit 898), nat_lit 0, nat_lit 0, nat_lit 0, [])]
def rx_c0_64 : List rx_E := [(nat_lit 1025, nat_lit 3, nat_lit 1, nat_lit 0, nat_lit 0, .ofNat (nat_lit 0), nat_lit 0, nat_lit 0, nat_lit 0, []), (nat_lit 1026, nat_lit 6, nat_lit 1, nat_lit 0, nat_lit 0, .ofNat (nat_lit 0), nat_lit 0, nat_lit 0, nat_lit 0, []), (nat_lit 1027, nat_lit 0, nat_lit 1, nat_lit 1, nat_lit 0, .ofNat (nat_lit 0), nat_lit 0, nat_lit 0, nat_lit 0, []), (nat_lit 1028, nat_lit 8, nat_lit 3, nat_lit 57, nat_lit 110, .ofNat (nat_lit 0), nat_lit 0, nat_lit 1053, nat_lit 120, []), (nat_lit 1031, nat_lit 0, nat_lit 1, nat_lit 2, nat_lit 0, .ofNat (nat_lit 0), nat_lit 0, nat_lit 0, nat_lit 0, []), (nat_lit 1032, nat_lit 8, nat_lit 3, nat_lit 173, nat_lit 120, .ofNat (nat_lit 0), nat_lit 0, nat_lit 1857, nat_lit 123, []), (nat_lit 1035, nat_lit 4, nat_lit 3, nat_lit 0, nat_lit 0, .ofNat (nat_lit 885), nat_lit 0, nat_lit 0, nat_lit 0, []), (nat_lit 1038, nat_lit 3, nat_lit 1, nat_lit 0, nat_lit 0, .ofNat (nat_lit 0), nat_lit 0, nat_lit 0, nat_lit 0, []), (nat_lit 1039, nat_lit 6, nat_lit 1, nat_lit 0, nat_lit 0, .ofNat (nat_lit 0), nat_lit 0, nat_lit 0, nat_lit 0, [])]
def rx_c0_65 : List rx_E := [(nat_lit 1040, nat_lit 0, nat_lit 1, nat_lit 1, nat_lit 0, .ofNat (nat_lit 0), nat_lit 0, nat_lit 0, nat_lit 0, []), (nat_lit 1041, nat_lit 0, nat_lit 1, nat_lit 0, nat_lit 0, .ofNat (nat_lit 0), nat_lit 0, nat_lit 0, nat_lit 0, []), (nat_lit 1042, nat_lit 1, nat_lit 1, nat_lit 3, nat_lit 0, .ofNat (nat_lit 0), nat_lit 0, nat_lit 0, nat_lit 0, []), (nat_lit 1043, nat_lit 3, nat_lit 1, nat_lit 0, nat_lit 0, .ofNat (nat_lit 1), nat_lit 0, nat_lit 0, nat_lit 0, []), (nat_lit 1044, nat_lit 12, nat_lit 1, nat_lit 0, nat_lit 0, .ofNat (nat_lit 0), nat_lit 0, nat_lit 0, nat_lit 0, []), (nat_lit 1045, nat_lit 9, nat_lit 1, nat_lit 0, nat_lit 0, .ofNat (nat_lit 0), nat_lit 0, nat_lit 0, nat_lit 0, []), (nat_lit 1046, nat_lit 8, nat_lit 3, nat_lit 30, nat_lit 110, .ofNat (nat_lit 0), nat_lit 1, nat_lit 1061, nat_lit 124, []), (nat_lit 1049, nat_lit 0, nat_lit 1, nat_lit 2, nat_lit 0, .ofNat (nat_lit 0), nat_lit 0, nat_lit 0, nat_lit 0, []), (nat_lit 1050, nat_lit 0, nat_lit 1, nat_lit 0, nat_lit 0, .ofNat (nat_lit 0), nat_lit 0, nat_lit 0, nat_lit 0, []), (nat_lit 1051, nat_lit 1, nat_lit 1, nat_lit 3, nat_lit 0, .ofNat (nat_lit 0), nat_lit 0, nat_lit 0, nat_lit 0, []), (nat_lit 1052, nat_lit 3, nat_lit 1, nat_lit 0, nat_lit 0, .ofNat (nat_lit 1), nat_lit 0, nat_lit 0, nat_lit 0, []), (nat_lit 1053, nat_lit 12, nat_lit 1, nat_lit 0, nat_lit 0, .ofNat (nat_lit 0), nat_lit 0, nat_lit 0, nat_lit 0, []), (nat_lit 1054, nat_lit 9, nat_lit 1, nat_lit 0, nat_lit 0, .ofNat (nat_lit 0), nat_lit 0, nat_lit 0, nat_lit 0, []), (nat_lit 1055, nat_lit 8, nat_lit 3, nat_lit 138, nat_lit 120, .ofNat (nat_lit 0), nat_lit 1, nat_lit 1865, nat_lit 127, [])]
def rx_c0_66 : List rx_E := [(nat_lit 1058, nat_lit 4, nat_lit 3, nat_lit 0, nat_lit 0, .ofNat (nat_lit 862), nat_lit 0, nat_lit 0, nat_lit 0, []), (nat_lit 1061, nat_lit 3, nat_lit 1, nat_lit 0, nat_lit 0, .ofNat (nat_lit 0), nat_lit 0, nat_lit 0, nat_lit 0, []), (nat_lit 1062, nat_lit 6, nat_lit 1, nat_lit 0, nat_lit 0, .ofNat (nat_lit 0), nat_lit 0, nat_lit 0, nat_lit 0, []), (nat_lit 1063, nat_lit 0, nat_lit 1, nat_lit 1, nat_lit 0, .ofNat (nat_lit 0), nat_lit 0, nat_lit 0, nat_lit 0, []), (nat_lit 1064, nat_lit 8, nat_lit 3, nat_lit 3, nat_lit 110, .ofNat (nat_lit 0), nat_lit 0, nat_lit 1065, nat_lit 128, []), (nat_lit 1067, nat_lit 0, nat_lit 1, nat_lit 2, nat_lit 0, .ofNat (nat_lit 0), nat_lit 0, nat_lit 0, nat_lit 0, []), (nat_lit 1068, nat_lit 8, nat_lit 3, nat_lit 108, nat_lit 120, .ofNat (nat_lit 0), nat_lit 0, nat_lit 1869, nat_lit 131, []), (nat_lit 1071, nat_lit 4, nat_lit 3, nat_lit 0, nat_lit 0, .ofNat (nat_lit 849), nat_lit 0, nat_lit 0, nat_lit 0, [])]
def rx_c0_67 : List rx_E := [(nat_lit 1074, nat_lit 3, nat_lit 1, nat_lit 0, nat_lit 0, .ofNat (nat_lit 0), nat_lit 0, nat_lit 0, nat_lit 0, []), (nat_lit 1075, nat_lit 6, nat_lit 1, nat_lit 0, nat_lit 0, .ofNat (nat_lit 0), nat_lit 0, nat_lit 0, nat_lit 0, []), (nat_lit 1076, nat_lit 0, nat_lit 1, nat_lit 1, nat_lit 0, .ofNat (nat_lit 0), nat_lit 0, nat_lit 0, nat_lit 0, []), (nat_lit 1077, nat_lit 0, nat_lit 1, nat_lit 0, nat_lit 0, .ofNat (nat_lit 0), nat_lit 0, nat_lit 0, nat_lit 0, []), (nat_lit 1078, nat_lit 1, nat_lit 1, nat_lit 3, nat_lit 0, .ofNat (nat_lit 0), nat_lit 0, nat_lit 0, nat_lit 0, []), (nat_lit 1079, nat_lit 3, nat_lit 1, nat_lit 0, nat_lit 0, .ofNat (nat_lit 1), nat_lit 0, nat_lit 0, nat_lit 0, []), (nat_lit 1080, nat_lit 12, nat_lit 1, nat_lit 0, nat_lit 0, .ofNat (nat_lit 0), nat_lit 0, nat_lit 0, nat_lit 0, []), (nat_lit 1081, nat_lit 9, nat_lit 1, nat_lit 0, nat_lit 0, .ofNat (nat_lit 0), nat_lit 0, nat_lit 0, nat_lit 0, []), (nat_lit 1082, nat_lit 0, nat_lit 1, nat_lit 0, nat_lit 0, .ofNat (nat_lit 0), nat_lit 0, nat_lit 0, nat_lit 0, []), (nat_lit 1083, nat_lit 1, nat_lit 1, nat_lit 3, nat_lit 0, .ofNat (nat_lit 0), nat_lit 0, nat_lit 0, nat_lit 0, []), (nat_lit 1084, nat_lit 3, nat_lit 1, nat_lit 0, nat_lit 0, .ofNat (nat_lit 2), nat_lit 0, nat_lit 0, nat_lit 0, []), (nat_lit 1085, nat_lit 12, nat_lit 1, nat_lit 0, nat_lit 0, .ofNat (nat_lit 0), nat_lit 0, nat_lit 0, nat_lit 0, []), (nat_lit 1086, nat_lit 9, nat_lit 1, nat_lit 0, nat_lit 0, .ofNat (nat_lit 0), nat_lit 0, nat_lit 0, nat_lit 0, []), (nat_lit 1087, nat_lit 8, nat_lit 3, nat_lit 4, nat_lit 110, .ofNat (nat_lit 0), nat_lit 2, nat_lit 1074, nat_lit 132, [])]
def rx_c0_68 : List rx_E := [(nat_lit 1090, nat_lit 0, nat_lit 1, nat_lit 2, nat_lit 0, .ofNat (nat_lit 0), nat_lit 0, nat_lit 0, nat_lit 0, []), (nat_lit 1091, nat_lit 0, nat_lit 1, nat_lit 0, nat_lit 0, .ofNat (nat_lit 0), nat_lit 0, nat_lit 0, nat_lit 0, []), (nat_lit 1092, nat_lit 1, nat_lit 1, nat_lit 3, nat_lit 0, .ofNat (nat_lit 0), nat_lit 0, nat_lit 0, nat_lit 0, []), (nat_lit 1093, nat_lit 3, nat_lit 1, nat_lit 0, nat_lit 0, .ofNat (nat_lit 1), nat_lit 0, nat_lit 0, nat_lit 0, []), (nat_lit 1094, nat_lit 12, nat_lit 1, nat_lit 0, nat_lit 0, .ofNat (nat_lit 0), nat_lit 0, nat_lit 0, nat_lit 0, []), (nat_lit 1095, nat_lit 9, nat_lit 1, nat_lit 0, nat_lit 0, .ofNat (nat_lit 0), nat_lit 0, nat_lit 0, nat_lit 0, []), (nat_lit 1096, nat_lit 0, nat_lit 1, nat_lit 0, nat_lit 0, .ofNat (nat_lit 0), nat_lit 0, nat_lit 0, nat_lit 0, []), (nat_lit 1097, nat_lit 1, nat_lit 1, nat_lit 3, nat_lit 0, .ofNat (nat_lit 0), nat_lit 0, nat_lit 0, nat_lit 0, []), (nat_lit 1098, nat_lit 3, nat_lit 1, nat_lit 0, nat_lit 0, .ofNat (nat_lit 2), nat_lit 0, nat_lit 0, nat_lit 0, []), (nat_lit 1099, nat_lit 12, nat_lit 1, nat_lit 0, nat_lit 0, .ofNat (nat_lit 0), nat_lit 0, nat_lit 0, nat_lit 0, []), (nat_lit 1100, nat_lit 9, nat_lit 1, nat_lit 0, nat_lit 0, .ofNat (nat_lit 0), nat_lit 0, nat_lit 0, nat_lit 0, []), (nat_lit 1101, nat_lit 8, nat_lit 3, nat_lit 109, nat_lit 120, .ofNat (nat_lit 0), nat_lit 2, nat_lit 1877, nat_lit 135, [])]
def rx_c0_69 : List rx_E := [(nat_lit 1104, nat_lit 4, nat_lit 3, nat_lit 0, nat_lit 0, .ofNat (nat_lit 816), nat_lit 0, nat_lit 0, nat_lit 0, []), (nat_lit 1107, nat_lit 3, nat_lit 1, nat_lit 0, nat_lit 0, .ofNat (nat_lit 0), nat_lit 0, nat_lit 0, nat_lit 0, []), (nat_lit 1108, nat_lit 6, nat_lit 1, nat_lit 0, nat_lit 0, .ofNat (nat_lit 0), nat_lit 0, nat_lit 0, nat_lit 0, []), (nat_lit 1109, nat_lit 0, nat_lit 1, nat_lit 1, nat_lit 0, .ofNat (nat_lit 0), nat_lit 0, nat_lit 0, nat_lit 0, []), (nat_lit 1110, nat_lit 0, nat_lit 1, nat_lit 0, nat_lit 0, .ofNat (nat_lit 0), nat_lit 0, nat_lit 0, nat_lit 0, []), (nat_lit 1111, nat_lit 1, nat_lit 1, nat_lit 3, nat_lit 0, .ofNat (nat_lit 0), nat_lit 0, nat_lit 0, nat_lit 0, []), (nat_lit 1112, nat_lit 3, nat_lit 1, nat_lit 0, nat_lit 0, .ofNat (nat_lit 1), nat_lit 0, nat_lit 0, nat_lit 0, []), (nat_lit 1113, nat_lit 12, nat_lit 1, nat_lit 0, nat_lit 0, .ofNat (nat_lit 0), nat_lit 0, nat_lit 0, nat_lit 0, []), (nat_lit 1114, nat_lit 9, nat_lit 1, nat_lit 0, nat_lit 0, .ofNat (nat_lit 0), nat_lit 0, nat_lit 0, nat_lit 0, []), (nat_lit 1115, nat_lit 0, nat_lit 1, nat_lit 0, nat_lit 0, .ofNat (nat_lit 0), nat_lit 0, nat_lit 0, nat_lit 0, []), (nat_lit 1116, nat_lit 1, nat_lit 1, nat_lit 3, nat_lit 0, .ofNat (nat_lit 0), nat_lit 0, nat_lit 0, nat_lit 0, []), (nat_lit 1117, nat_lit 3, nat_lit 1, nat_lit 0, nat_lit 0, .ofNat (nat_lit 2), nat_lit 0, nat_lit 0, nat_lit 0, []), (nat_lit 1118, nat_lit 12, nat_lit 1, nat_lit 0, nat_lit 0, .ofNat (nat_lit 0), nat_lit 0, nat_lit 0, nat_lit 0, []), (nat_lit 1119, nat_lit 9, nat_lit 1, nat_lit 0, nat_lit 0, .ofNat (nat_lit 0), nat_lit 0, nat_lit 0, nat_lit 0, [])]
def rx_c0_70 : List rx_E := [(nat_lit 1120, nat_lit 8, nat_lit 3, nat_lit 21, nat_lit 110, .ofNat (nat_lit 0), nat_lit 2, nat_lit 1078, nat_lit 136, []), (nat_lit 1123, nat_lit 0, nat_lit 1, nat_lit 2, nat_lit 0, .ofNat (nat_lit 0), nat_lit 0, nat_lit 0, nat_lit 0, []), (nat_lit 1124, nat_lit 0, nat_lit 1, nat_lit 0, nat_lit 0, .ofNat (nat_lit 0), nat_lit 0, nat_lit 0, nat_lit 0, []), (nat_lit 1125, nat_lit 1, nat_lit 1, nat_lit 3, nat_lit 0, .ofNat (nat_lit 0), nat_lit 0, nat_lit 0, nat_lit 0, []), (nat_lit 1126, nat_lit 3, nat_lit 1, nat_lit 0, nat_lit 0, .ofNat (nat_lit 1), nat_lit 0, nat_lit 0, nat_lit 0, []), (nat_lit 1127, nat_lit 12, nat_lit 1, nat_lit 0, nat_lit 0, .ofNat (nat_lit 0), nat_lit 0, nat_lit 0, nat_lit 0, []), (nat_lit 1128, nat_lit 9, nat_lit 1, nat_lit 0, nat_lit 0, .ofNat (nat_lit 0), nat_lit 0, nat_lit 0, nat_lit 0, []), (nat_lit 1129, nat_lit 0, nat_lit 1, nat_lit 0, nat_lit 0, .ofNat (nat_lit 0), nat_lit 0, nat_lit 0, nat_lit 0, []), (nat_lit 1130, nat_lit 1, nat_lit 1, nat_lit 3, nat_lit 0, .ofNat (nat_lit 0), nat_lit 0, nat_lit 0, nat_lit 0, []), (nat_lit 1131, nat_lit 3, nat_lit 1, nat_lit 0, nat_lit 0, .ofNat (nat_lit 2), nat_lit 0, nat_lit 0, nat_lit 0, []), (nat_lit 1132, nat_lit 12, nat_lit 1, nat_lit 0, nat_lit 0, .ofNat (nat_lit 0), nat_lit 0, nat_lit 0, nat_lit 0, []), (nat_lit 1133, nat_lit 9, nat_lit 1, nat_lit 0, nat_lit 0, .ofNat (nat_lit 0), nat_lit 0, nat_lit 0, nat_lit 0, []), (nat_lit 1134, nat_lit 8, nat_lit 3, nat_lit 131, nat_lit 120, .ofNat (nat_lit 0), nat_lit 2, nat_lit 1881, nat_lit 139, [])]
def rx_c0_71 : List rx_E := [(nat_lit 1137, nat_lit 4, nat_lit 3, nat_lit 0, nat_lit 0, .ofNat (nat_lit 783), nat_lit 0, nat_lit 0, nat_lit 0, []), (nat_lit 1140, nat_lit 3, nat_lit 1, nat_lit 0, nat_lit 0, .ofNat (nat_lit 0), nat_lit 0, nat_lit 0, nat_lit 0, []), (nat_lit 1141, nat_lit 6, nat_lit 1, nat_lit 0, nat_lit 0, .ofNat (nat_lit 0), nat_lit 0, nat_lit 0, nat_lit 0, []), (nat_lit 1142, nat_lit 0, nat_lit 1, nat_lit 1, nat_lit 0, .ofNat (nat_lit 0), nat_lit 0, nat_lit 0, nat_lit 0, []), (nat_lit 1143, nat_lit 0, nat_lit 1, nat_lit 0, nat_lit 0, .ofNat (nat_lit 0), nat_lit 0, nat_lit 0, nat_lit 0, []), (nat_lit 1144, nat_lit 1, nat_lit 1, nat_lit 3, nat_lit 0, .ofNat (nat_lit 0), nat_lit 0, nat_lit 0, nat_lit 0, []), (nat_lit 1145, nat_lit 3, nat_lit 1, nat_lit 0, nat_lit 0, .ofNat (nat_lit 1), nat_lit 0, nat_lit 0, nat_lit 0, []), (nat_lit 1146, nat_lit 12, nat_lit 1, nat_lit 0, nat_lit 0, .ofNat (nat_lit 0), nat_lit 0, nat_lit 0, nat_lit 0, []), (nat_lit 1147, nat_lit 9, nat_lit 1, nat_lit 0, nat_lit 0, .ofNat (nat_lit 0), nat_lit 0, nat_lit 0, nat_lit 0, []), (nat_lit 1148, nat_lit 0, nat_lit 1, nat_lit 0, nat_lit 0, .ofNat (nat_lit 0), nat_lit 0, nat_lit 0, nat_lit 0, []), (nat_lit 1149, nat_lit 1, nat_lit 1, nat_lit 3, nat_lit 0, .ofNat (nat_lit 0), nat_lit 0, nat_lit 0, nat_lit 0, []), (nat_lit 1150, nat_lit 3, nat_lit 1, nat_lit 0, nat_lit 0, .ofNat (nat_lit 2), nat_lit 0, nat_lit 0, nat_lit 0, []), (nat_lit 1151, nat_lit 12, nat_lit 1, nat_lit 0, nat_lit 0, .ofNat (nat_lit 0), nat_lit 0, nat_lit 0, nat_lit 0, [])]
def rx_c0_72 : List rx_E := [(nat_lit 1152, nat_lit 9, nat_lit 1, nat_lit 0, nat_lit 0, .ofNat (nat_lit 0), nat_lit 0, nat_lit 0, nat_lit 0, []), (nat_lit 1153, nat_lit 8, nat_lit 3, nat_lit 36, nat_lit 110, .ofNat (nat_lit 0), nat_lit 2, nat_lit 1083, nat_lit 140, []), (nat_lit 1156, nat_lit 0, nat_lit 1, nat_lit 2, nat_lit 0, .ofNat (nat_lit 0), nat_lit 0, nat_lit 0, nat_lit 0, []), (nat_lit 1157, nat_lit 0, nat_lit 1, nat_lit 0, nat_lit 0, .ofNat (nat_lit 0), nat_lit 0, nat_lit 0, nat_lit 0, []), (nat_lit 1158, nat_lit 1, nat_lit 1, nat_lit 3, nat_lit 0, .ofNat (nat_lit 0), nat_lit 0, nat_lit 0, nat_lit 0, []), (nat_lit 1159, nat_lit 3, nat_lit 1, nat_lit 0, nat_lit 0, .ofNat (nat_lit 1), nat_lit 0, nat_lit 0, nat_lit 0, []), (nat_lit 1160, nat_lit 12, nat_lit 1, nat_lit 0, nat_lit 0, .ofNat (nat_lit 0), nat_lit 0, nat_lit 0, nat_lit 0, []), (nat_lit 1161, nat_lit 9, nat_lit 1, nat_lit 0, nat_lit 0, .ofNat (nat_lit 0), nat_lit 0, nat_lit 0, nat_lit 0, []), (nat_lit 1162, nat_lit 0, nat_lit 1, nat_lit 0, nat_lit 0, .ofNat (nat_lit 0), nat_lit 0, nat_lit 0, nat_lit 0, []), (nat_lit 1163, nat_lit 1, nat_lit 1, nat_lit 3, nat_lit 0, .ofNat (nat_lit 0), nat_lit 0, nat_lit 0, nat_lit 0, []), (nat_lit 1164, nat_lit 3, nat_lit 1, nat_lit 0, nat_lit 0, .ofNat (nat_lit 2), nat_lit 0, nat_lit 0, nat_lit 0, []), (nat_lit 1165, nat_lit 12, nat_lit 1, nat_lit 0, nat_lit 0, .ofNat (nat_lit 0), nat_lit 0, nat_lit 0, nat_lit 0, []), (nat_lit 1166, nat_lit 9, nat_lit 1, nat_lit 0, nat_lit 0, .ofNat (nat_lit 0), nat_lit 0, nat_lit 0, nat_lit 0, []), (nat_lit 1167, nat_lit 8, nat_lit 3, nat_lit 150, nat_lit 120, .ofNat (nat_lit 0), nat_lit 2, nat_lit 1885, nat_lit 143, [])]
def rx_c0_73 : List rx_E := [(nat_lit 1170, nat_lit 4, nat_lit 3, nat_lit 0, nat_lit 0, .ofNat (nat_lit 750), nat_lit 0, nat_lit 0, nat_lit 0, []), (nat_lit 1173, nat_lit 3, nat_lit 1, nat_lit 0, nat_lit 0, .ofNat (nat_lit 0), nat_lit 0, nat_lit 0, nat_lit 0, []), (nat_lit 1174, nat_lit 6, nat_lit 1, nat_lit 0, nat_lit 0, .ofNat (nat_lit 0), nat_lit 0, nat_lit 0, nat_lit 0, []), (nat_lit 1175, nat_lit 0, nat_lit 1, nat_lit 1, nat_lit 0, .ofNat (nat_lit 0), nat_lit 0, nat_lit 0, nat_lit 0, []), (nat_lit 1176, nat_lit 0, nat_lit 1, nat_lit 0, nat_lit 0, .ofNat (nat_lit 0), nat_lit 0, nat_lit 0, nat_lit 0, []), (nat_lit 1177, nat_lit 1, nat_lit 1, nat_lit 3, nat_lit 0, .ofNat (nat_lit 0), nat_lit 0, nat_lit 0, nat_lit 0, []), (nat_lit 1178, nat_lit 3, nat_lit 1, nat_lit 0, nat_lit 0, .ofNat (nat_lit 1), nat_lit 0, nat_lit 0, nat_lit 0, []), (nat_lit 1179, nat_lit 12, nat_lit 1, nat_lit 0, nat_lit 0, .ofNat (nat_lit 0), nat_lit 0, nat_lit 0, nat_lit 0, []), (nat_lit 1180, nat_lit 9, nat_lit 1, nat_lit 0, nat_lit 0, .ofNat (nat_lit 0), nat_lit 0, nat_lit 0, nat_lit 0, []), (nat_lit 1181, nat_lit 0, nat_lit 1, nat_lit 0, nat_lit 0, .ofNat (nat_lit 0), nat_lit 0, nat_lit 0, nat_lit 0, []), (nat_lit 1182, nat_lit 1, nat_lit 1, nat_lit 3, nat_lit 0, .ofNat (nat_lit 0), nat_lit 0, nat_lit 0, nat_lit 0, []), (nat_lit 1183, nat_lit 3, nat_lit 1, nat_lit 0, nat_lit 0, .ofNat (nat_lit 2), nat_lit 0, nat_lit 0, nat_lit 0, [])]
def rx_c0_74 : List rx_E := [(nat_lit 1184, nat_lit 12, nat_lit 1, nat_lit 0, nat_lit 0, .ofNat (nat_lit 0), nat_lit 0, nat_lit 0, nat_lit 0, []), (nat_lit 1185, nat_lit 9, nat_lit 1, nat_lit 0, nat_lit 0, .ofNat (nat_lit 0), nat_lit 0, nat_lit 0, nat_lit 0, []), (nat_lit 1186, nat_lit 0, nat_lit 1, nat_lit 0, nat_lit 0, .ofNat (nat_lit 0), nat_lit 0, nat_lit 0, nat_lit 0, []), (nat_lit 1187, nat_lit 1, nat_lit 1, nat_lit 3, nat_lit 0, .ofNat (nat_lit 0), nat_lit 0, nat_lit 0, nat_lit 0, []), (nat_lit 1188, nat_lit 3, nat_lit 1, nat_lit 0, nat_lit 0, .ofNat (nat_lit 3), nat_lit 0, nat_lit 0, nat_lit 0, []), (nat_lit 1189, nat_lit 12, nat_lit 1, nat_lit 0, nat_lit 0, .ofNat (nat_lit 0), nat_lit 0, nat_lit 0, nat_lit 0, []), (nat_lit 1190, nat_lit 9, nat_lit 1, nat_lit 0, nat_lit 0, .ofNat (nat_lit 0), nat_lit 0, nat_lit 0, nat_lit 0, []), (nat_lit 1191, nat_lit 8, nat_lit 3, nat_lit 22, nat_lit 110, .ofNat (nat_lit 0), nat_lit 3, nat_lit 1087, nat_lit 144, []), (nat_lit 1194, nat_lit 0, nat_lit 1, nat_lit 2, nat_lit 0, .ofNat (nat_lit 0), nat_lit 0, nat_lit 0, nat_lit 0, []), (nat_lit 1195, nat_lit 0, nat_lit 1, nat_lit 0, nat_lit 0, .ofNat (nat_lit 0), nat_lit 0, nat_lit 0, nat_lit 0, []), (nat_lit 1196, nat_lit 1, nat_lit 1, nat_lit 3, nat_lit 0, .ofNat (nat_lit 0), nat_lit 0, nat_lit 0, nat_lit 0, []), (nat_lit 1197, nat_lit 3, nat_lit 1, nat_lit 0, nat_lit 0, .ofNat (nat_lit 1), nat_lit 0, nat_lit 0, nat_lit 0, []), (nat_lit 1198, nat_lit 12, nat_lit 1, nat_lit 0, nat_lit 0, .ofNat (nat_lit 0), nat_lit 0, nat_lit 0, nat_lit 0, []), (nat_lit 1199, nat_lit 9, nat_lit 1, nat_lit 0, nat_lit 0, .ofNat (nat_lit 0), nat_lit 0, nat_lit 0, nat_lit 0, [])]
def rx_c0_75 : List rx_E := [(nat_lit 1200, nat_lit 0, nat_lit 1, nat_lit 0, nat_lit 0, .ofNat (nat_lit 0), nat_lit 0, nat_lit 0, nat_lit 0, []), (nat_lit 1201, nat_lit 1, nat_lit 1, nat_lit 3, nat_lit 0, .ofNat (nat_lit 0), nat_lit 0, nat_lit 0, nat_lit 0, []), (nat_lit 1202, nat_lit 3, nat_lit 1, nat_lit 0, nat_lit 0, .ofNat (nat_lit 2), nat_lit 0, nat_lit 0, nat_lit 0, []), (nat_lit 1203, nat_lit 12, nat_lit 1, nat_lit 0, nat_lit 0, .ofNat (nat_lit 0), nat_lit 0, nat_lit 0, nat_lit 0, []), (nat_lit 1204, nat_lit 9, nat_lit 1, nat_lit 0, nat_lit 0, .ofNat (nat_lit 0), nat_lit 0, nat_lit 0, nat_lit 0, []), (nat_lit 1205, nat_lit 0, nat_lit 1, nat_lit 0, nat_lit 0, .ofNat (nat_lit 0), nat_lit 0, nat_lit 0, nat_lit 0, []), (nat_lit 1206, nat_lit 1, nat_lit 1, nat_lit 3, nat_lit 0, .ofNat (nat_lit 0), nat_lit 0, nat_lit 0, nat_lit 0, []), (nat_lit 1207, nat_lit 3, nat_lit 1, nat_lit 0, nat_lit 0, .ofNat (nat_lit 3), nat_lit 0, nat_lit 0, nat_lit 0, []), (nat_lit 1208, nat_lit 12, nat_lit 1, nat_lit 0, nat_lit 0, .ofNat (nat_lit 0), nat_lit 0, nat_lit 0, nat_lit 0, []), (nat_lit 1209, nat_lit 9, nat_lit 1, nat_lit 0, nat_lit 0, .ofNat (nat_lit 0), nat_lit 0, nat_lit 0, nat_lit 0, []), (nat_lit 1210, nat_lit 8, nat_lit 3, nat_lit 132, nat_lit 120, .ofNat (nat_lit 0), nat_lit 3, nat_lit 1889, nat_lit 147, []), (nat_lit 1213, nat_lit 4, nat_lit 3, nat_lit 0, nat_lit 0, .ofNat (nat_lit 707), nat_lit 0, nat_lit 0, nat_lit 0, [])]
def rx_c0_76 : List rx_E := [(nat_lit 1216, nat_lit 3, nat_lit 1, nat_lit 0, nat_lit 0, .ofNat (nat_lit 0), nat_lit 0, nat_lit 0, nat_lit 0, []), (nat_lit 1217, nat_lit 6, nat_lit 1, nat_lit 0, nat_lit 0, .ofNat (nat_lit 0), nat_lit 0, nat_lit 0, nat_lit 0, []), (nat_lit 1218, nat_lit 0, nat_lit 1, nat_lit 1, nat_lit 0, .ofNat (nat_lit 0), nat_lit 0, nat_lit 0, nat_lit 0, []), (nat_lit 1219, nat_lit 0, nat_lit 1, nat_lit 0, nat_lit 0, .ofNat (nat_lit 0), nat_lit 0, nat_lit 0, nat_lit 0, []), (nat_lit 1220, nat_lit 1, nat_lit 1, nat_lit 3, nat_lit 0, .ofNat (nat_lit 0), nat_lit 0, nat_lit 0, nat_lit 0, []), (nat_lit 1221, nat_lit 3, nat_lit 1, nat_lit 0, nat_lit 0, .ofNat (nat_lit 1), nat_lit 0, nat_lit 0, nat_lit 0, []), (nat_lit 1222, nat_lit 12, nat_lit 1, nat_lit 0, nat_lit 0, .ofNat (nat_lit 0), nat_lit 0, nat_lit 0, nat_lit 0, []), (nat_lit 1223, nat_lit 9, nat_lit 1, nat_lit 0, nat_lit 0, .ofNat (nat_lit 0), nat_lit 0, nat_lit 0, nat_lit 0, []), (nat_lit 1224, nat_lit 0, nat_lit 1, nat_lit 0, nat_lit 0, .ofNat (nat_lit 0), nat_lit 0, nat_lit 0, nat_lit 0, []), (nat_lit 1225, nat_lit 1, nat_lit 1, nat_lit 3, nat_lit 0, .ofNat (nat_lit 0), nat_lit 0, nat_lit 0, nat_lit 0, []), (nat_lit 1226, nat_lit 3, nat_lit 1, nat_lit 0, nat_lit 0, .ofNat (nat_lit 2), nat_lit 0, nat_lit 0, nat_lit 0, []), (nat_lit 1227, nat_lit 12, nat_lit 1, nat_lit 0, nat_lit 0, .ofNat (nat_lit 0), nat_lit 0, nat_lit 0, nat_lit 0, []), (nat_lit 1228, nat_lit 9, nat_lit 1, nat_lit 0, nat_lit 0, .ofNat (nat_lit 0), nat_lit 0, nat_lit 0, nat_lit 0, []), (nat_lit 1229, nat_lit 8, nat_lit 3, nat_lit 58, nat_lit 110, .ofNat (nat_lit 0), nat_lit 2, nat_lit 1091, nat_lit 148, [])]
def rx_c0_77 : List rx_E := [(nat_lit 1232, nat_lit 0, nat_lit 1, nat_lit 2, nat_lit 0, .ofNat (nat_lit 0), nat_lit 0, nat_lit 0, nat_lit 0, []), (nat_lit 1233, nat_lit 0, nat_lit 1, nat_lit 0, nat_lit 0, .ofNat (nat_lit 0), nat_lit 0, nat_lit 0, nat_lit 0, []), (nat_lit 1234, nat_lit 1, nat_lit 1, nat_lit 3, nat_lit 0, .ofNat (nat_lit 0), nat_lit 0, nat_lit 0, nat_lit 0, []), (nat_lit 1235, nat_lit 3, nat_lit 1, nat_lit 0, nat_lit 0, .ofNat (nat_lit 1), nat_lit 0, nat_lit 0, nat_lit 0, []), (nat_lit 1236, nat_lit 12, nat_lit 1, nat_lit 0, nat_lit 0, .ofNat (nat_lit 0), nat_lit 0, nat_lit 0, nat_lit 0, []), (nat_lit 1237, nat_lit 9, nat_lit 1, nat_lit 0, nat_lit 0, .ofNat (nat_lit 0), nat_lit 0, nat_lit 0, nat_lit 0, []), (nat_lit 1238, nat_lit 0, nat_lit 1, nat_lit 0, nat_lit 0, .ofNat (nat_lit 0), nat_lit 0, nat_lit 0, nat_lit 0, []), (nat_lit 1239, nat_lit 1, nat_lit 1, nat_lit 3, nat_lit 0, .ofNat (nat_lit 0), nat_lit 0, nat_lit 0, nat_lit 0, []), (nat_lit 1240, nat_lit 3, nat_lit 1, nat_lit 0, nat_lit 0, .ofNat (nat_lit 2), nat_lit 0, nat_lit 0, nat_lit 0, []), (nat_lit 1241, nat_lit 12, nat_lit 1, nat_lit 0, nat_lit 0, .ofNat (nat_lit 0), nat_lit 0, nat_lit 0, nat_lit 0, []), (nat_lit 1242, nat_lit 9, nat_lit 1, nat_lit 0, nat_lit 0, .ofNat (nat_lit 0), nat_lit 0, nat_lit 0, nat_lit 0, []), (nat_lit 1243, nat_lit 8, nat_lit 3, nat_lit 174, nat_lit 120, .ofNat (nat_lit 0), nat_lit 2, nat_lit 1893, nat_lit 151, []), (nat_lit 1246, nat_lit 4, nat_lit 3, nat_lit 0, nat_lit 0, .ofNat (nat_lit 674), nat_lit 0, nat_lit 0, nat_lit 0, [])]
def rx_c0_78 : List rx_E := [(nat_lit 1249, nat_lit 3, nat_lit 1, nat_lit 0, nat_lit 0, .ofNat (nat_lit 0), nat_lit 0, nat_lit 0, nat_lit 0, []), (nat_lit 1250, nat_lit 6, nat_lit 1, nat_lit 0, nat_lit 0, .ofNat (nat_lit 0), nat_lit 0, nat_lit 0, nat_lit 0, []), (nat_lit 1251, nat_lit 0, nat_lit 1, nat_lit 1, nat_lit 0, .ofNat (nat_lit 0), nat_lit 0, nat_lit 0, nat_lit 0, []), (nat_lit 1252, nat_lit 0, nat_lit 1, nat_lit 0, nat_lit 0, .ofNat (nat_lit 0), nat_lit 0, nat_lit 0, nat_lit 0, []), (nat_lit 1253, nat_lit 1, nat_lit 1, nat_lit 3, nat_lit 0, .ofNat (nat_lit 0), nat_lit 0, nat_lit 0, nat_lit 0, []), (nat_lit 1254, nat_lit 3, nat_lit 1, nat_lit 0, nat_lit 0, .ofNat (nat_lit 1), nat_lit 0, nat_lit 0, nat_lit 0, []), (nat_lit 1255, nat_lit 12, nat_lit 1, nat_lit 0, nat_lit 0, .ofNat (nat_lit 0), nat_lit 0, nat_lit 0, nat_lit 0, []), (nat_lit 1256, nat_lit 9, nat_lit 1, nat_lit 0, nat_lit 0, .ofNat (nat_lit 0), nat_lit 0, nat_lit 0, nat_lit 0, []), (nat_lit 1257, nat_lit 0, nat_lit 1, nat_lit 0, nat_lit 0, .ofNat (nat_lit 0), nat_lit 0, nat_lit 0, nat_lit 0, []), (nat_lit 1258, nat_lit 1, nat_lit 1, nat_lit 3, nat_lit 0, .ofNat (nat_lit 0), nat_lit 0, nat_lit 0, nat_lit 0, []), (nat_lit 1259, nat_lit 3, nat_lit 1, nat_lit 0, nat_lit 0, .ofNat (nat_lit 2), nat_lit 0, nat_lit 0, nat_lit 0, []), (nat_lit 1260, nat_lit 12, nat_lit 1, nat_lit 0, nat_lit 0, .ofNat (nat_lit 0), nat_lit 0, nat_lit 0, nat_lit 0, []), (nat_lit 1261, nat_lit 9, nat_lit 1, nat_lit 0, nat_lit 0, .ofNat (nat_lit 0), nat_lit 0, nat_lit 0, nat_lit 0, []), (nat_lit 1262, nat_lit 8, nat_lit 3, nat_lit 13, nat_lit 110, .ofNat (nat_lit 0), nat_lit 2, nat_lit 1095, nat_lit 152, [])]
def rx_c0_79 : List rx_E := [(nat_lit 1265, nat_lit 0, nat_lit 1, nat_lit 2, nat_lit 0, .ofNat (nat_lit 0), nat_lit 0, nat_lit 0, nat_lit 0, []), (nat_lit 1266, nat_lit 0, nat_lit 1, nat_lit 0, nat_lit 0, .ofNat (nat_lit 0), nat_lit 0, nat_lit 0, nat_lit 0, []), (nat_lit 1267, nat_lit 1, nat_lit 1, nat_lit 3, nat_lit 0, .ofNat (nat_lit 0), nat_lit 0, nat_lit 0, nat_lit 0, []), (nat_lit 1268, nat_lit 3, nat_lit 1, nat_lit 0, nat_lit 0, .ofNat (nat_lit 1), nat_lit 0, nat_lit 0, nat_lit 0, []), (nat_lit 1269, nat_lit 12, nat_lit 1, nat_lit 0, nat_lit 0, .ofNat (nat_lit 0), nat_lit 0, nat_lit 0, nat_lit 0, []), (nat_lit 1270, nat_lit 9, nat_lit 1, nat_lit 0, nat_lit 0, .ofNat (nat_lit 0), nat_lit 0, nat_lit 0, nat_lit 0, []), (nat_lit 1271, nat_lit 0, nat_lit 1, nat_lit 0, nat_lit 0, .ofNat (nat_lit 0), nat_lit 0, nat_lit 0, nat_lit 0, []), (nat_lit 1272, nat_lit 1, nat_lit 1, nat_lit 3, nat_lit 0, .ofNat (nat_lit 0), nat_lit 0, nat_lit 0, nat_lit 0, []), (nat_lit 1273, nat_lit 3, nat_lit 1, nat_lit 0, nat_lit 0, .ofNat (nat_lit 2), nat_lit 0, nat_lit 0, nat_lit 0, []), (nat_lit 1274, nat_lit 12, nat_lit 1, nat_lit 0, nat_lit 0, .ofNat (nat_lit 0), nat_lit 0, nat_lit 0, nat_lit 0, []), (nat_lit 1275, nat_lit 9, nat_lit 1, nat_lit 0, nat_lit 0, .ofNat (nat_lit 0), nat_lit 0, nat_lit 0, nat_lit 0, []), (nat_lit 1276, nat_lit 8, nat_lit 3, nat_lit 120, nat_lit 120, .ofNat (nat_lit 0), nat_lit 2, nat_lit 1796, nat_lit 155, []), (nat_lit 1279, nat_lit 4, nat_lit 3, nat_lit 0, nat_lit 0, .ofNat (nat_lit 641), nat_lit 0, nat_lit 0, nat_lit 0, [])]
def rx_c0_80 : List rx_E := [(nat_lit 1282, nat_lit 3, nat_lit 1, nat_lit 0, nat_lit 0, .ofNat (nat_lit 0), nat_lit 0, nat_lit 0, nat_lit 0, []), (nat_lit 1283, nat_lit 6, nat_lit 1, nat_lit 0, nat_lit 0, .ofNat (nat_lit 0), nat_lit 0, nat_lit 0, nat_lit 0, []), (nat_lit 1284, nat_lit 0, nat_lit 1, nat_lit 1, nat_lit 0, .ofNat (nat_lit 0), nat_lit 0, nat_lit 0, nat_lit 0, []), (nat_lit 1285, nat_lit 0, nat_lit 1, nat_lit 0, nat_lit 0, .ofNat (nat_lit 0), nat_lit 0, nat_lit 0, nat_lit 0, []), (nat_lit 1286, nat_lit 1, nat_lit 1, nat_lit 3, nat_lit 0, .ofNat (nat_lit 0), nat_lit 0, nat_lit 0, nat_lit 0, []), (nat_lit 1287, nat_lit 3, nat_lit 1, nat_lit 0, nat_lit 0, .ofNat (nat_lit 1), nat_lit 0, nat_lit 0, nat_lit 0, []), (nat_lit 1288, nat_lit 12, nat_lit 1, nat_lit 0, nat_lit 0, .ofNat (nat_lit 0), nat_lit 0, nat_lit 0, nat_lit 0, []), (nat_lit 1289, nat_lit 9, nat_lit 1, nat_lit 0, nat_lit 0, .ofNat (nat_lit 0), nat_lit 0, nat_lit 0, nat_lit 0, []), (nat_lit 1290, nat_lit 8, nat_lit 3, nat_lit 60, nat_lit 110, .ofNat (nat_lit 0), nat_lit 1, nat_lit 1099, nat_lit 156, []), (nat_lit 1293, nat_lit 0, nat_lit 1, nat_lit 2, nat_lit 0, .ofNat (nat_lit 0), nat_lit 0, nat_lit 0, nat_lit 0, []), (nat_lit 1294, nat_lit 0, nat_lit 1, nat_lit 0, nat_lit 0, .ofNat (nat_lit 0), nat_lit 0, nat_lit 0, nat_lit 0, []), (nat_lit 1295, nat_lit 1, nat_lit 1, nat_lit 3, nat_lit 0, .ofNat (nat_lit 0), nat_lit 0, nat_lit 0, nat_lit 0, [])]
def rx_c0_81 : List rx_E := [(nat_lit 1296, nat_lit 3, nat_lit 1, nat_lit 0, nat_lit 0, .ofNat (nat_lit 1), nat_lit 0, nat_lit 0, nat_lit 0, []), (nat_lit 1297, nat_lit 12, nat_lit 1, nat_lit 0, nat_lit 0, .ofNat (nat_lit 0), nat_lit 0, nat_lit 0, nat_lit 0, []), (nat_lit 1298, nat_lit 9, nat_lit 1, nat_lit 0, nat_lit 0, .ofNat (nat_lit 0), nat_lit 0, nat_lit 0, nat_lit 0, []), (nat_lit 1299, nat_lit 8, nat_lit 3, nat_lit 176, nat_lit 120, .ofNat (nat_lit 0), nat_lit 1, nat_lit 1804, nat_lit 159, []), (nat_lit 1302, nat_lit 4, nat_lit 3, nat_lit 0, nat_lit 0, .ofNat (nat_lit 618), nat_lit 0, nat_lit 0, nat_lit 0, []), (nat_lit 1305, nat_lit 3, nat_lit 1, nat_lit 0, nat_lit 0, .ofNat (nat_lit 0), nat_lit 0, nat_lit 0, nat_lit 0, []), (nat_lit 1306, nat_lit 6, nat_lit 1, nat_lit 0, nat_lit 0, .ofNat (nat_lit 0), nat_lit 0, nat_lit 0, nat_lit 0, []), (nat_lit 1307, nat_lit 0, nat_lit 1, nat_lit 1, nat_lit 0, .ofNat (nat_lit 0), nat_lit 0, nat_lit 0, nat_lit 0, []), (nat_lit 1308, nat_lit 0, nat_lit 1, nat_lit 0, nat_lit 0, .ofNat (nat_lit 0), nat_lit 0, nat_lit 0, nat_lit 0, []), (nat_lit 1309, nat_lit 1, nat_lit 1, nat_lit 3, nat_lit 0, .ofNat (nat_lit 0), nat_lit 0, nat_lit 0, nat_lit 0, []), (nat_lit 1310, nat_lit 3, nat_lit 1, nat_lit 0, nat_lit 0, .ofNat (nat_lit 1), nat_lit 0, nat_lit 0, nat_lit 0, []), (nat_lit 1311, nat_lit 12, nat_lit 1, nat_lit 0, nat_lit 0, .ofNat (nat_lit 0), nat_lit 0, nat_lit 0, nat_lit 0, [])]
def rx_c0_82 : List rx_E := [(nat_lit 1312, nat_lit 9, nat_lit 1, nat_lit 0, nat_lit 0, .ofNat (nat_lit 0), nat_lit 0, nat_lit 0, nat_lit 0, []), (nat_lit 1313, nat_lit 0, nat_lit 1, nat_lit 0, nat_lit 0, .ofNat (nat_lit 0), nat_lit 0, nat_lit 0, nat_lit 0, []), (nat_lit 1314, nat_lit 1, nat_lit 1, nat_lit 3, nat_lit 0, .ofNat (nat_lit 0), nat_lit 0, nat_lit 0, nat_lit 0, []), (nat_lit 1315, nat_lit 3, nat_lit 1, nat_lit 0, nat_lit 0, .ofNat (nat_lit 2), nat_lit 0, nat_lit 0, nat_lit 0, []), (nat_lit 1316, nat_lit 12, nat_lit 1, nat_lit 0, nat_lit 0, .ofNat (nat_lit 0), nat_lit 0, nat_lit 0, nat_lit 0, []), (nat_lit 1317, nat_lit 9, nat_lit 1, nat_lit 0, nat_lit 0, .ofNat (nat_lit 0), nat_lit 0, nat_lit 0, nat_lit 0, []), (nat_lit 1318, nat_lit 8, nat_lit 3, nat_lit 39, nat_lit 110, .ofNat (nat_lit 0), nat_lit 2, nat_lit 1107, nat_lit 160, []), (nat_lit 1321, nat_lit 0, nat_lit 1, nat_lit 2, nat_lit 0, .ofNat (nat_lit 0), nat_lit 0, nat_lit 0, nat_lit 0, []), (nat_lit 1322, nat_lit 0, nat_lit 1, nat_lit 0, nat_lit 0, .ofNat (nat_lit 0), nat_lit 0, nat_lit 0, nat_lit 0, []), (nat_lit 1323, nat_lit 1, nat_lit 1, nat_lit 3, nat_lit 0, .ofNat (nat_lit 0), nat_lit 0, nat_lit 0, nat_lit 0, []), (nat_lit 1324, nat_lit 3, nat_lit 1, nat_lit 0, nat_lit 0, .ofNat (nat_lit 1), nat_lit 0, nat_lit 0, nat_lit 0, []), (nat_lit 1325, nat_lit 12, nat_lit 1, nat_lit 0, nat_lit 0, .ofNat (nat_lit 0), nat_lit 0, nat_lit 0, nat_lit 0, []), (nat_lit 1326, nat_lit 9, nat_lit 1, nat_lit 0, nat_lit 0, .ofNat (nat_lit 0), nat_lit 0, nat_lit 0, nat_lit 0, []), (nat_lit 1327, nat_lit 0, nat_lit 1, nat_lit 0, nat_lit 0, .ofNat (nat_lit 0), nat_lit 0, nat_lit 0, nat_lit 0, [])]
def rx_c0_83 : List rx_E := [(nat_lit 1328, nat_lit 1, nat_lit 1, nat_lit 3, nat_lit 0, .ofNat (nat_lit 0), nat_lit 0, nat_lit 0, nat_lit 0, []), (nat_lit 1329, nat_lit 3, nat_lit 1, nat_lit 0, nat_lit 0, .ofNat (nat_lit 2), nat_lit 0, nat_lit 0, nat_lit 0, []), (nat_lit 1330, nat_lit 12, nat_lit 1, nat_lit 0, nat_lit 0, .ofNat (nat_lit 0), nat_lit 0, nat_lit 0, nat_lit 0, []), (nat_lit 1331, nat_lit 9, nat_lit 1, nat_lit 0, nat_lit 0, .ofNat (nat_lit 0), nat_lit 0, nat_lit 0, nat_lit 0, []), (nat_lit 1332, nat_lit 8, nat_lit 3, nat_lit 153, nat_lit 120, .ofNat (nat_lit 0), nat_lit 2, nat_lit 1812, nat_lit 163, []), (nat_lit 1335, nat_lit 4, nat_lit 3, nat_lit 0, nat_lit 0, .ofNat (nat_lit 585), nat_lit 0, nat_lit 0, nat_lit 0, []), (nat_lit 1338, nat_lit 3, nat_lit 1, nat_lit 0, nat_lit 0, .ofNat (nat_lit 0), nat_lit 0, nat_lit 0, nat_lit 0, []), (nat_lit 1339, nat_lit 6, nat_lit 1, nat_lit 0, nat_lit 0, .ofNat (nat_lit 0), nat_lit 0, nat_lit 0, nat_lit 0, []), (nat_lit 1340, nat_lit 0, nat_lit 1, nat_lit 1, nat_lit 0, .ofNat (nat_lit 0), nat_lit 0, nat_lit 0, nat_lit 0, []), (nat_lit 1341, nat_lit 8, nat_lit 3, nat_lit 15, nat_lit 110, .ofNat (nat_lit 0), nat_lit 0, nat_lit 1111, nat_lit 164, [])]
def rx_c0_84 : List rx_E := [(nat_lit 1344, nat_lit 0, nat_lit 1, nat_lit 2, nat_lit 0, .ofNat (nat_lit 0), nat_lit 0, nat_lit 0, nat_lit 0, []), (nat_lit 1345, nat_lit 8, nat_lit 3, nat_lit 124, nat_lit 120, .ofNat (nat_lit 0), nat_lit 0, nat_lit 1791, nat_lit 167, []), (nat_lit 1348, nat_lit 4, nat_lit 3, nat_lit 0, nat_lit 0, .ofNat (nat_lit 572), nat_lit 0, nat_lit 0, nat_lit 0, []), (nat_lit 1351, nat_lit 3, nat_lit 1, nat_lit 0, nat_lit 0, .ofNat (nat_lit 0), nat_lit 0, nat_lit 0, nat_lit 0, []), (nat_lit 1352, nat_lit 6, nat_lit 1, nat_lit 0, nat_lit 0, .ofNat (nat_lit 0), nat_lit 0, nat_lit 0, nat_lit 0, []), (nat_lit 1353, nat_lit 0, nat_lit 1, nat_lit 1, nat_lit 0, .ofNat (nat_lit 0), nat_lit 0, nat_lit 0, nat_lit 0, []), (nat_lit 1354, nat_lit 0, nat_lit 1, nat_lit 0, nat_lit 0, .ofNat (nat_lit 0), nat_lit 0, nat_lit 0, nat_lit 0, []), (nat_lit 1355, nat_lit 1, nat_lit 1, nat_lit 3, nat_lit 0, .ofNat (nat_lit 0), nat_lit 0, nat_lit 0, nat_lit 0, []), (nat_lit 1356, nat_lit 3, nat_lit 1, nat_lit 0, nat_lit 0, .ofNat (nat_lit 1), nat_lit 0, nat_lit 0, nat_lit 0, []), (nat_lit 1357, nat_lit 12, nat_lit 1, nat_lit 0, nat_lit 0, .ofNat (nat_lit 0), nat_lit 0, nat_lit 0, nat_lit 0, []), (nat_lit 1358, nat_lit 9, nat_lit 1, nat_lit 0, nat_lit 0, .ofNat (nat_lit 0), nat_lit 0, nat_lit 0, nat_lit 0, []), (nat_lit 1359, nat_lit 8, nat_lit 3, nat_lit 9, nat_lit 110, .ofNat (nat_lit 0), nat_lit 1, nat_lit 1115, nat_lit 168, [])]
def rx_c0_85 : List rx_E := [(nat_lit 1362, nat_lit 0, nat_lit 1, nat_lit 2, nat_lit 0, .ofNat (nat_lit 0), nat_lit 0, nat_lit 0, nat_lit 0, []), (nat_lit 1363, nat_lit 0, nat_lit 1, nat_lit 0, nat_lit 0, .ofNat (nat_lit 0), nat_lit 0, nat_lit 0, nat_lit 0, []), (nat_lit 1364, nat_lit 1, nat_lit 1, nat_lit 3, nat_lit 0, .ofNat (nat_lit 0), nat_lit 0, nat_lit 0, nat_lit 0, []), (nat_lit 1365, nat_lit 3, nat_lit 1, nat_lit 0, nat_lit 0, .ofNat (nat_lit 1), nat_lit 0, nat_lit 0, nat_lit 0, []), (nat_lit 1366, nat_lit 12, nat_lit 1, nat_lit 0, nat_lit 0, .ofNat (nat_lit 0), nat_lit 0, nat_lit 0, nat_lit 0, []), (nat_lit 1367, nat_lit 9, nat_lit 1, nat_lit 0, nat_lit 0, .ofNat (nat_lit 0), nat_lit 0, nat_lit 0, nat_lit 0, []), (nat_lit 1368, nat_lit 8, nat_lit 3, nat_lit 116, nat_lit 120, .ofNat (nat_lit 0), nat_lit 1, nat_lit 1901, nat_lit 171, []), (nat_lit 1371, nat_lit 4, nat_lit 3, nat_lit 0, nat_lit 0, .ofNat (nat_lit 549), nat_lit 0, nat_lit 0, nat_lit 0, []), (nat_lit 1374, nat_lit 3, nat_lit 1, nat_lit 0, nat_lit 0, .ofNat (nat_lit 0), nat_lit 0, nat_lit 0, nat_lit 0, []), (nat_lit 1375, nat_lit 6, nat_lit 1, nat_lit 0, nat_lit 0, .ofNat (nat_lit 0), nat_lit 0, nat_lit 0, nat_lit 0, [])]
def rx_c0_86 : List rx_E := [(nat_lit 1376, nat_lit 0, nat_lit 1, nat_lit 1, nat_lit 0, .ofNat (nat_lit 0), nat_lit 0, nat_lit 0, nat_lit 0, []), (nat_lit 1377, nat_lit 0, nat_lit 1, nat_lit 0, nat_lit 0, .ofNat (nat_lit 0), nat_lit 0, nat_lit 0, nat_lit 0, []), (nat_lit 1378, nat_lit 1, nat_lit 1, nat_lit 3, nat_lit 0, .ofNat (nat_lit 0), nat_lit 0, nat_lit 0, nat_lit 0, []), (nat_lit 1379, nat_lit 3, nat_lit 1, nat_lit 0, nat_lit 0, .ofNat (nat_lit 1), nat_lit 0, nat_lit 0, nat_lit 0, []), (nat_lit 1380, nat_lit 12, nat_lit 1, nat_lit 0, nat_lit 0, .ofNat (nat_lit 0), nat_lit 0, nat_lit 0, nat_lit 0, []), (nat_lit 1381, nat_lit 9, nat_lit 1, nat_lit 0, nat_lit 0, .ofNat (nat_lit 0), nat_lit 0, nat_lit 0, nat_lit 0, []), (nat_lit 1382, nat_lit 0, nat_lit 1, nat_lit 0, nat_lit 0, .ofNat (nat_lit 0), nat_lit 0, nat_lit 0, nat_lit 0, []), (nat_lit 1383, nat_lit 1, nat_lit 1, nat_lit 3, nat_lit 0, .ofNat (nat_lit 0), nat_lit 0, nat_lit 0, nat_lit 0, []), (nat_lit 1384, nat_lit 3, nat_lit 1, nat_lit 0, nat_lit 0, .ofNat (nat_lit 2), nat_lit 0, nat_lit 0, nat_lit 0, []), (nat_lit 1385, nat_lit 12, nat_lit 1, nat_lit 0, nat_lit 0, .ofNat (nat_lit 0), nat_lit 0, nat_lit 0, nat_lit 0, []), (nat_lit 1386, nat_lit 9, nat_lit 1, nat_lit 0, nat_lit 0, .ofNat (nat_lit 0), nat_lit 0, nat_lit 0, nat_lit 0, []), (nat_lit 1387, nat_lit 8, nat_lit 3, nat_lit 63, nat_lit 110, .ofNat (nat_lit 0), nat_lit 2, nat_lit 1127, nat_lit 172, []), (nat_lit 1390, nat_lit 0, nat_lit 1, nat_lit 2, nat_lit 0, .ofNat (nat_lit 0), nat_lit 0, nat_lit 0, nat_lit 0, []), (nat_lit 1391, nat_lit 0, nat_lit 1, nat_lit 0, nat_lit 0, .ofNat (nat_lit 0), nat_lit 0, nat_lit 0, nat_lit 0, [])]
def rx_c0_87 : List rx_E := [(nat_lit 1392, nat_lit 1, nat_lit 1, nat_lit 3, nat_lit 0, .ofNat (nat_lit 0), nat_lit 0, nat_lit 0, nat_lit 0, []), (nat_lit 1393, nat_lit 3, nat_lit 1, nat_lit 0, nat_lit 0, .ofNat (nat_lit 1), nat_lit 0, nat_lit 0, nat_lit 0, []), (nat_lit 1394, nat_lit 12, nat_lit 1, nat_lit 0, nat_lit 0, .ofNat (nat_lit 0), nat_lit 0, nat_lit 0, nat_lit 0, []), (nat_lit 1395, nat_lit 9, nat_lit 1, nat_lit 0, nat_lit 0, .ofNat (nat_lit 0), nat_lit 0, nat_lit 0, nat_lit 0, []), (nat_lit 1396, nat_lit 0, nat_lit 1, nat_lit 0, nat_lit 0, .ofNat (nat_lit 0), nat_lit 0, nat_lit 0, nat_lit 0, []), (nat_lit 1397, nat_lit 1, nat_lit 1, nat_lit 3, nat_lit 0, .ofNat (nat_lit 0), nat_lit 0, nat_lit 0, nat_lit 0, []), (nat_lit 1398, nat_lit 3, nat_lit 1, nat_lit 0, nat_lit 0, .ofNat (nat_lit 2), nat_lit 0, nat_lit 0, nat_lit 0, []), (nat_lit 1399, nat_lit 12, nat_lit 1, nat_lit 0, nat_lit 0, .ofNat (nat_lit 0), nat_lit 0, nat_lit 0, nat_lit 0, []), (nat_lit 1400, nat_lit 9, nat_lit 1, nat_lit 0, nat_lit 0, .ofNat (nat_lit 0), nat_lit 0, nat_lit 0, nat_lit 0, []), (nat_lit 1401, nat_lit 8, nat_lit 3, nat_lit 179, nat_lit 120, .ofNat (nat_lit 0), nat_lit 2, nat_lit 1897, nat_lit 175, []), (nat_lit 1404, nat_lit 4, nat_lit 3, nat_lit 0, nat_lit 0, .ofNat (nat_lit 516), nat_lit 0, nat_lit 0, nat_lit 0, []), (nat_lit 1407, nat_lit 3, nat_lit 1, nat_lit 0, nat_lit 0, .ofNat (nat_lit 0), nat_lit 0, nat_lit 0, nat_lit 0, [])]
def rx_c0_88 : List rx_E := [(nat_lit 1408, nat_lit 6, nat_lit 1, nat_lit 0, nat_lit 0, .ofNat (nat_lit 0), nat_lit 0, nat_lit 0, nat_lit 0, []), (nat_lit 1409, nat_lit 0, nat_lit 1, nat_lit 1, nat_lit 0, .ofNat (nat_lit 0), nat_lit 0, nat_lit 0, nat_lit 0, []), (nat_lit 1410, nat_lit 0, nat_lit 1, nat_lit 0, nat_lit 0, .ofNat (nat_lit 0), nat_lit 0, nat_lit 0, nat_lit 0, []), (nat_lit 1411, nat_lit 1, nat_lit 1, nat_lit 3, nat_lit 0, .ofNat (nat_lit 0), nat_lit 0, nat_lit 0, nat_lit 0, []), (nat_lit 1412, nat_lit 3, nat_lit 1, nat_lit 0, nat_lit 0, .ofNat (nat_lit 1), nat_lit 0, nat_lit 0, nat_lit 0, []), (nat_lit 1413, nat_lit 12, nat_lit 1, nat_lit 0, nat_lit 0, .ofNat (nat_lit 0), nat_lit 0, nat_lit 0, nat_lit 0, []), (nat_lit 1414, nat_lit 9, nat_lit 1, nat_lit 0, nat_lit 0, .ofNat (nat_lit 0), nat_lit 0, nat_lit 0, nat_lit 0, []), (nat_lit 1415, nat_lit 8, nat_lit 3, nat_lit 37, nat_lit 110, .ofNat (nat_lit 0), nat_lit 1, nat_lit 1131, nat_lit 176, []), (nat_lit 1418, nat_lit 0, nat_lit 1, nat_lit 2, nat_lit 0, .ofNat (nat_lit 0), nat_lit 0, nat_lit 0, nat_lit 0, []), (nat_lit 1419, nat_lit 0, nat_lit 1, nat_lit 0, nat_lit 0, .ofNat (nat_lit 0), nat_lit 0, nat_lit 0, nat_lit 0, []), (nat_lit 1420, nat_lit 1, nat_lit 1, nat_lit 3, nat_lit 0, .ofNat (nat_lit 0), nat_lit 0, nat_lit 0, nat_lit 0, []), (nat_lit 1421, nat_lit 3, nat_lit 1, nat_lit 0, nat_lit 0, .ofNat (nat_lit 1), nat_lit 0, nat_lit 0, nat_lit 0, []), (nat_lit 1422, nat_lit 12, nat_lit 1, nat_lit 0, nat_lit 0, .ofNat (nat_lit 0), nat_lit 0, nat_lit 0, nat_lit 0, []), (nat_lit 1423, nat_lit 9, nat_lit 1, nat_lit 0, nat_lit 0, .ofNat (nat_lit 0), nat_lit 0, nat_lit 0, nat_lit 0, [])]
def rx_c0_89 : List rx_E := [(nat_lit 1424, nat_lit 8, nat_lit 3, nat_lit 151, nat_lit 120, .ofNat (nat_lit 0), nat_lit 1, nat_lit 1767, nat_lit 179, []), (nat_lit 1427, nat_lit 4, nat_lit 3, nat_lit 0, nat_lit 0, .ofNat (nat_lit 493), nat_lit 0, nat_lit 0, nat_lit 0, []), (nat_lit 1430, nat_lit 3, nat_lit 1, nat_lit 0, nat_lit 0, .ofNat (nat_lit 0), nat_lit 0, nat_lit 0, nat_lit 0, []), (nat_lit 1431, nat_lit 6, nat_lit 1, nat_lit 0, nat_lit 0, .ofNat (nat_lit 0), nat_lit 0, nat_lit 0, nat_lit 0, []), (nat_lit 1432, nat_lit 0, nat_lit 1, nat_lit 1, nat_lit 0, .ofNat (nat_lit 0), nat_lit 0, nat_lit 0, nat_lit 0, []), (nat_lit 1433, nat_lit 0, nat_lit 1, nat_lit 0, nat_lit 0, .ofNat (nat_lit 0), nat_lit 0, nat_lit 0, nat_lit 0, []), (nat_lit 1434, nat_lit 1, nat_lit 1, nat_lit 3, nat_lit 0, .ofNat (nat_lit 0), nat_lit 0, nat_lit 0, nat_lit 0, []), (nat_lit 1435, nat_lit 3, nat_lit 1, nat_lit 0, nat_lit 0, .ofNat (nat_lit 1), nat_lit 0, nat_lit 0, nat_lit 0, []), (nat_lit 1436, nat_lit 12, nat_lit 1, nat_lit 0, nat_lit 0, .ofNat (nat_lit 0), nat_lit 0, nat_lit 0, nat_lit 0, []), (nat_lit 1437, nat_lit 9, nat_lit 1, nat_lit 0, nat_lit 0, .ofNat (nat_lit 0), nat_lit 0, nat_lit 0, nat_lit 0, []), (nat_lit 1438, nat_lit 0, nat_lit 1, nat_lit 0, nat_lit 0, .ofNat (nat_lit 0), nat_lit 0, nat_lit 0, nat_lit 0, []), (nat_lit 1439, nat_lit 1, nat_lit 1, nat_lit 3, nat_lit 0, .ofNat (nat_lit 0), nat_lit 0, nat_lit 0, nat_lit 0, [])]
def rx_c0_90 : List rx_E := [(nat_lit 1440, nat_lit 3, nat_lit 1, nat_lit 0, nat_lit 0, .ofNat (nat_lit 2), nat_lit 0, nat_lit 0, nat_lit 0, []), (nat_lit 1441, nat_lit 12, nat_lit 1, nat_lit 0, nat_lit 0, .ofNat (nat_lit 0), nat_lit 0, nat_lit 0, nat_lit 0, []), (nat_lit 1442, nat_lit 9, nat_lit 1, nat_lit 0, nat_lit 0, .ofNat (nat_lit 0), nat_lit 0, nat_lit 0, nat_lit 0, []), (nat_lit 1443, nat_lit 8, nat_lit 3, nat_lit 40, nat_lit 110, .ofNat (nat_lit 0), nat_lit 2, nat_lit 1135, nat_lit 180, []), (nat_lit 1446, nat_lit 0, nat_lit 1, nat_lit 2, nat_lit 0, .ofNat (nat_lit 0), nat_lit 0, nat_lit 0, nat_lit 0, []), (nat_lit 1447, nat_lit 0, nat_lit 1, nat_lit 0, nat_lit 0, .ofNat (nat_lit 0), nat_lit 0, nat_lit 0, nat_lit 0, []), (nat_lit 1448, nat_lit 1, nat_lit 1, nat_lit 3, nat_lit 0, .ofNat (nat_lit 0), nat_lit 0, nat_lit 0, nat_lit 0, []), (nat_lit 1449, nat_lit 3, nat_lit 1, nat_lit 0, nat_lit 0, .ofNat (nat_lit 1), nat_lit 0, nat_lit 0, nat_lit 0, []), (nat_lit 1450, nat_lit 12, nat_lit 1, nat_lit 0, nat_lit 0, .ofNat (nat_lit 0), nat_lit 0, nat_lit 0, nat_lit 0, []), (nat_lit 1451, nat_lit 9, nat_lit 1, nat_lit 0, nat_lit 0, .ofNat (nat_lit 0), nat_lit 0, nat_lit 0, nat_lit 0, []), (nat_lit 1452, nat_lit 0, nat_lit 1, nat_lit 0, nat_lit 0, .ofNat (nat_lit 0), nat_lit 0, nat_lit 0, nat_lit 0, []), (nat_lit 1453, nat_lit 1, nat_lit 1, nat_lit 3, nat_lit 0, .ofNat (nat_lit 0), nat_lit 0, nat_lit 0, nat_lit 0, []), (nat_lit 1454, nat_lit 3, nat_lit 1, nat_lit 0, nat_lit 0, .ofNat (nat_lit 2), nat_lit 0, nat_lit 0, nat_lit 0, []), (nat_lit 1455, nat_lit 12, nat_lit 1, nat_lit 0, nat_lit 0, .ofNat (nat_lit 0), nat_lit 0, nat_lit 0, nat_lit 0, [])]
def rx_c0_91 : List rx_E := [(nat_lit 1456, nat_lit 9, nat_lit 1, nat_lit 0, nat_lit 0, .ofNat (nat_lit 0), nat_lit 0, nat_lit 0, nat_lit 0, []), (nat_lit 1457, nat_lit 8, nat_lit 3, nat_lit 154, nat_lit 120, .ofNat (nat_lit 0), nat_lit 2, nat_lit 1928, nat_lit 183, []), (nat_lit 1460, nat_lit 4, nat_lit 3, nat_lit 0, nat_lit 0, .ofNat (nat_lit 460), nat_lit 0, nat_lit 0, nat_lit 0, []), (nat_lit 1463, nat_lit 3, nat_lit 1, nat_lit 0, nat_lit 0, .ofNat (nat_lit 0), nat_lit 0, nat_lit 0, nat_lit 0, []), (nat_lit 1464, nat_lit 6, nat_lit 1, nat_lit 0, nat_lit 0, .ofNat (nat_lit 0), nat_lit 0, nat_lit 0, nat_lit 0, []), (nat_lit 1465, nat_lit 0, nat_lit 1, nat_lit 1, nat_lit 0, .ofNat (nat_lit 0), nat_lit 0, nat_lit 0, nat_lit 0, []), (nat_lit 1466, nat_lit 0, nat_lit 1, nat_lit 0, nat_lit 0, .ofNat (nat_lit 0), nat_lit 0, nat_lit 0, nat_lit 0, []), (nat_lit 1467, nat_lit 1, nat_lit 1, nat_lit 3, nat_lit 0, .ofNat (nat_lit 0), nat_lit 0, nat_lit 0, nat_lit 0, []), (nat_lit 1468, nat_lit 3, nat_lit 1, nat_lit 0, nat_lit 0, .ofNat (nat_lit 1), nat_lit 0, nat_lit 0, nat_lit 0, []), (nat_lit 1469, nat_lit 12, nat_lit 1, nat_lit 0, nat_lit 0, .ofNat (nat_lit 0), nat_lit 0, nat_lit 0, nat_lit 0, []), (nat_lit 1470, nat_lit 9, nat_lit 1, nat_lit 0, nat_lit 0, .ofNat (nat_lit 0), nat_lit 0, nat_lit 0, nat_lit 0, []), (nat_lit 1471, nat_lit 8, nat_lit 3, nat_lit 61, nat_lit 110, .ofNat (nat_lit 0), nat_lit 1, nat_lit 1143, nat_lit 184, [])]
def rx_c0_92 : List rx_E := [(nat_lit 1474, nat_lit 0, nat_lit 1, nat_lit 2, nat_lit 0, .ofNat (nat_lit 0), nat_lit 0, nat_lit 0, nat_lit 0, []), (nat_lit 1475, nat_lit 0, nat_lit 1, nat_lit 0, nat_lit 0, .ofNat (nat_lit 0), nat_lit 0, nat_lit 0, nat_lit 0, []), (nat_lit 1476, nat_lit 1, nat_lit 1, nat_lit 3, nat_lit 0, .ofNat (nat_lit 0), nat_lit 0, nat_lit 0, nat_lit 0, []), (nat_lit 1477, nat_lit 3, nat_lit 1, nat_lit 0, nat_lit 0, .ofNat (nat_lit 1), nat_lit 0, nat_lit 0, nat_lit 0, []), (nat_lit 1478, nat_lit 12, nat_lit 1, nat_lit 0, nat_lit 0, .ofNat (nat_lit 0), nat_lit 0, nat_lit 0, nat_lit 0, []), (nat_lit 1479, nat_lit 9, nat_lit 1, nat_lit 0, nat_lit 0, .ofNat (nat_lit 0), nat_lit 0, nat_lit 0, nat_lit 0, []), (nat_lit 1480, nat_lit 8, nat_lit 3, nat_lit 177, nat_lit 120, .ofNat (nat_lit 0), nat_lit 1, nat_lit 1932, nat_lit 188, []), (nat_lit 1483, nat_lit 4, nat_lit 3, nat_lit 0, nat_lit 0, .ofNat (nat_lit 437), nat_lit 0, nat_lit 0, nat_lit 0, []), (nat_lit 1486, nat_lit 3, nat_lit 1, nat_lit 0, nat_lit 0, .ofNat (nat_lit 0), nat_lit 0, nat_lit 0, nat_lit 0, []), (nat_lit 1487, nat_lit 6, nat_lit 1, nat_lit 0, nat_lit 0, .ofNat (nat_lit 0), nat_lit 0, nat_lit 0, nat_lit 0, [])]
def rx_c0_93 : List rx_E := [(nat_lit 1488, nat_lit 0, nat_lit 1, nat_lit 1, nat_lit 0, .ofNat (nat_lit 0), nat_lit 0, nat_lit 0, nat_lit 0, []), (nat_lit 1489, nat_lit 0, nat_lit 1, nat_lit 0, nat_lit 0, .ofNat (nat_lit 0), nat_lit 0, nat_lit 0, nat_lit 0, []), (nat_lit 1490, nat_lit 1, nat_lit 1, nat_lit 3, nat_lit 0, .ofNat (nat_lit 0), nat_lit 0, nat_lit 0, nat_lit 0, []), (nat_lit 1491, nat_lit 3, nat_lit 1, nat_lit 0, nat_lit 0, .ofNat (nat_lit 1), nat_lit 0, nat_lit 0, nat_lit 0, []), (nat_lit 1492, nat_lit 12, nat_lit 1, nat_lit 0, nat_lit 0, .ofNat (nat_lit 0), nat_lit 0, nat_lit 0, nat_lit 0, []), (nat_lit 1493, nat_lit 9, nat_lit 1, nat_lit 0, nat_lit 0, .ofNat (nat_lit 0), nat_lit 0, nat_lit 0, nat_lit 0, []), (nat_lit 1494, nat_lit 8, nat_lit 3, nat_lit 34, nat_lit 110, .ofNat (nat_lit 0), nat_lit 1, nat_lit 1151, nat_lit 189, []), (nat_lit 1497, nat_lit 0, nat_lit 1, nat_lit 2, nat_lit 0, .ofNat (nat_lit 0), nat_lit 0, nat_lit 0, nat_lit 0, []), (nat_lit 1498, nat_lit 0, nat_lit 1, nat_lit 0, nat_lit 0, .ofNat (nat_lit 0), nat_lit 0, nat_lit 0, nat_lit 0, []), (nat_lit 1499, nat_lit 1, nat_lit 1, nat_lit 3, nat_lit 0, .ofNat (nat_lit 0), nat_lit 0, nat_lit 0, nat_lit 0, []), (nat_lit 1500, nat_lit 3, nat_lit 1, nat_lit 0, nat_lit 0, .ofNat (nat_lit 1), nat_lit 0, nat_lit 0, nat_lit 0, []), (nat_lit 1501, nat_lit 12, nat_lit 1, nat_lit 0, nat_lit 0, .ofNat (nat_lit 0), nat_lit 0, nat_lit 0, nat_lit 0, []), (nat_lit 1502, nat_lit 9, nat_lit 1, nat_lit 0, nat_lit 0, .ofNat (nat_lit 0), nat_lit 0, nat_lit 0, nat_lit 0, []), (nat_lit 1503, nat_lit 8, nat_lit 3, nat_lit 146, nat_lit 120, .ofNat (nat_lit 0), nat_lit 1, nat_lit 1936, nat_lit 192, [])]
def rx_c0_94 : List rx_E := [(nat_lit 1506, nat_lit 4, nat_lit 3, nat_lit 0, nat_lit 0, .ofNat (nat_lit 414), nat_lit 0, nat_lit 0, nat_lit 0, []), (nat_lit 1509, nat_lit 3, nat_lit 1, nat_lit 0, nat_lit 0, .ofNat (nat_lit 0), nat_lit 0, nat_lit 0, nat_lit 0, []), (nat_lit 1510, nat_lit 6, nat_lit 1, nat_lit 0, nat_lit 0, .ofNat (nat_lit 0), nat_lit 0, nat_lit 0, nat_lit 0, []), (nat_lit 1511, nat_lit 0, nat_lit 1, nat_lit 1, nat_lit 0, .ofNat (nat_lit 0), nat_lit 0, nat_lit 0, nat_lit 0, []), (nat_lit 1512, nat_lit 0, nat_lit 1, nat_lit 0, nat_lit 0, .ofNat (nat_lit 0), nat_lit 0, nat_lit 0, nat_lit 0, []), (nat_lit 1513, nat_lit 1, nat_lit 1, nat_lit 3, nat_lit 0, .ofNat (nat_lit 0), nat_lit 0, nat_lit 0, nat_lit 0, []), (nat_lit 1514, nat_lit 3, nat_lit 1, nat_lit 0, nat_lit 0, .ofNat (nat_lit 1), nat_lit 0, nat_lit 0, nat_lit 0, []), (nat_lit 1515, nat_lit 12, nat_lit 1, nat_lit 0, nat_lit 0, .ofNat (nat_lit 0), nat_lit 0, nat_lit 0, nat_lit 0, []), (nat_lit 1516, nat_lit 9, nat_lit 1, nat_lit 0, nat_lit 0, .ofNat (nat_lit 0), nat_lit 0, nat_lit 0, nat_lit 0, []), (nat_lit 1517, nat_lit 0, nat_lit 1, nat_lit 0, nat_lit 0, .ofNat (nat_lit 0), nat_lit 0, nat_lit 0, nat_lit 0, []), (nat_lit 1518, nat_lit 1, nat_lit 1, nat_lit 3, nat_lit 0, .ofNat (nat_lit 0), nat_lit 0, nat_lit 0, nat_lit 0, []), (nat_lit 1519, nat_lit 3, nat_lit 1, nat_lit 0, nat_lit 0, .ofNat (nat_lit 2), nat_lit 0, nat_lit 0, nat_lit 0, [])]
def rx_c0_95 : List rx_E := [(nat_lit 1520, nat_lit 12, nat_lit 1, nat_lit 0, nat_lit 0, .ofNat (nat_lit 0), nat_lit 0, nat_lit 0, nat_lit 0, []), (nat_lit 1521, nat_lit 9, nat_lit 1, nat_lit 0, nat_lit 0, .ofNat (nat_lit 0), nat_lit 0, nat_lit 0, nat_lit 0, []), (nat_lit 1522, nat_lit 8, nat_lit 3, nat_lit 38, nat_lit 110, .ofNat (nat_lit 0), nat_lit 2, nat_lit 1156, nat_lit 193, []), (nat_lit 1525, nat_lit 0, nat_lit 1, nat_lit 2, nat_lit 0, .ofNat (nat_lit 0), nat_lit 0, nat_lit 0, nat_lit 0, []), (nat_lit 1526, nat_lit 0, nat_lit 1, nat_lit 0, nat_lit 0, .ofNat (nat_lit 0), nat_lit 0, nat_lit 0, nat_lit 0, []), (nat_lit 1527, nat_lit 1, nat_lit 1, nat_lit 3, nat_lit 0, .ofNat (nat_lit 0), nat_lit 0, nat_lit 0, nat_lit 0, []), (nat_lit 1528, nat_lit 3, nat_lit 1, nat_lit 0, nat_lit 0, .ofNat (nat_lit 1), nat_lit 0, nat_lit 0, nat_lit 0, []), (nat_lit 1529, nat_lit 12, nat_lit 1, nat_lit 0, nat_lit 0, .ofNat (nat_lit 0), nat_lit 0, nat_lit 0, nat_lit 0, []), (nat_lit 1530, nat_lit 9, nat_lit 1, nat_lit 0, nat_lit 0, .ofNat (nat_lit 0), nat_lit 0, nat_lit 0, nat_lit 0, []), (nat_lit 1531, nat_lit 0, nat_lit 1, nat_lit 0, nat_lit 0, .ofNat (nat_lit 0), nat_lit 0, nat_lit 0, nat_lit 0, []), (nat_lit 1532, nat_lit 1, nat_lit 1, nat_lit 3, nat_lit 0, .ofNat (nat_lit 0), nat_lit 0, nat_lit 0, nat_lit 0, []), (nat_lit 1533, nat_lit 3, nat_lit 1, nat_lit 0, nat_lit 0, .ofNat (nat_lit 2), nat_lit 0, nat_lit 0, nat_lit 0, []), (nat_lit 1534, nat_lit 12, nat_lit 1, nat_lit 0, nat_lit 0, .ofNat (nat_lit 0), nat_lit 0, nat_lit 0, nat_lit 0, []), (nat_lit 1535, nat_lit 9, nat_lit 1, nat_lit 0, nat_lit 0, .ofNat (nat_lit 0), nat_lit 0, nat_lit 0, nat_lit 0, [])]
def rx_c0_96 : List rx_E := [(nat_lit 1536, nat_lit 8, nat_lit 3, nat_lit 152, nat_lit 120, .ofNat (nat_lit 0), nat_lit 2, nat_lit 1941, nat_lit 196, []), (nat_lit 1539, nat_lit 4, nat_lit 3, nat_lit 0, nat_lit 0, .ofNat (nat_lit 381), nat_lit 0, nat_lit 0, nat_lit 0, []), (nat_lit 1542, nat_lit 3, nat_lit 1, nat_lit 0, nat_lit 0, .ofNat (nat_lit 0), nat_lit 0, nat_lit 0, nat_lit 0, []), (nat_lit 1543, nat_lit 6, nat_lit 1, nat_lit 0, nat_lit 0, .ofNat (nat_lit 0), nat_lit 0, nat_lit 0, nat_lit 0, []), (nat_lit 1544, nat_lit 0, nat_lit 1, nat_lit 1, nat_lit 0, .ofNat (nat_lit 0), nat_lit 0, nat_lit 0, nat_lit 0, []), (nat_lit 1545, nat_lit 0, nat_lit 1, nat_lit 0, nat_lit 0, .ofNat (nat_lit 0), nat_lit 0, nat_lit 0, nat_lit 0, []), (nat_lit 1546, nat_lit 1, nat_lit 1, nat_lit 3, nat_lit 0, .ofNat (nat_lit 0), nat_lit 0, nat_lit 0, nat_lit 0, []), (nat_lit 1547, nat_lit 3, nat_lit 1, nat_lit 0, nat_lit 0, .ofNat (nat_lit 1), nat_lit 0, nat_lit 0, nat_lit 0, []), (nat_lit 1548, nat_lit 12, nat_lit 1, nat_lit 0, nat_lit 0, .ofNat (nat_lit 0), nat_lit 0, nat_lit 0, nat_lit 0, []), (nat_lit 1549, nat_lit 9, nat_lit 1, nat_lit 0, nat_lit 0, .ofNat (nat_lit 0), nat_lit 0, nat_lit 0, nat_lit 0, []), (nat_lit 1550, nat_lit 8, nat_lit 3, nat_lit 62, nat_lit 110, .ofNat (nat_lit 0), nat_lit 1, nat_lit 1178, nat_lit 197, [])]
def rx_c0_97 : List rx_E := [(nat_lit 1553, nat_lit 0, nat_lit 1, nat_lit 2, nat_lit 0, .ofNat (nat_lit 0), nat_lit 0, nat_lit 0, nat_lit 0, []), (nat_lit 1554, nat_lit 0, nat_lit 1, nat_lit 0, nat_lit 0, .ofNat (nat_lit 0), nat_lit 0, nat_lit 0, nat_lit 0, []), (nat_lit 1555, nat_lit 1, nat_lit 1, nat_lit 3, nat_lit 0, .ofNat (nat_lit 0), nat_lit 0, nat_lit 0, nat_lit 0, []), (nat_lit 1556, nat_lit 3, nat_lit 1, nat_lit 0, nat_lit 0, .ofNat (nat_lit 1), nat_lit 0, nat_lit 0, nat_lit 0, []), (nat_lit 1557, nat_lit 12, nat_lit 1, nat_lit 0, nat_lit 0, .ofNat (nat_lit 0), nat_lit 0, nat_lit 0, nat_lit 0, []), (nat_lit 1558, nat_lit 9, nat_lit 1, nat_lit 0, nat_lit 0, .ofNat (nat_lit 0), nat_lit 0, nat_lit 0, nat_lit 0, []), (nat_lit 1559, nat_lit 8, nat_lit 3, nat_lit 178, nat_lit 120, .ofNat (nat_lit 0), nat_lit 1, nat_lit 1953, nat_lit 200, []), (nat_lit 1562, nat_lit 4, nat_lit 3, nat_lit 0, nat_lit 0, .ofNat (nat_lit 358), nat_lit 0, nat_lit 0, nat_lit 0, []), (nat_lit 1565, nat_lit 3, nat_lit 1, nat_lit 0, nat_lit 0, .ofNat (nat_lit 0), nat_lit 0, nat_lit 0, nat_lit 0, []), (nat_lit 1566, nat_lit 6, nat_lit 1, nat_lit 0, nat_lit 0, .ofNat (nat_lit 0), nat_lit 0, nat_lit 0, nat_lit 0, []), (nat_lit 1567, nat_lit 0, nat_lit 1, nat_lit 1, nat_lit 0, .ofNat (nat_lit 0), nat_lit 0, nat_lit 0, nat_lit 0, [])]
def rx_c0_98 : List rx_E := [(nat_lit 1568, nat_lit 0, nat_lit 1, nat_lit 0, nat_lit 0, .ofNat (nat_lit 0), nat_lit 0, nat_lit 0, nat_lit 0, []), (nat_lit 1569, nat_lit 1, nat_lit 1, nat_lit 3, nat_lit 0, .ofNat (nat_lit 0), nat_lit 0, nat_lit 0, nat_lit 0, []), (nat_lit 1570, nat_lit 3, nat_lit 1, nat_lit 0, nat_lit 0, .ofNat (nat_lit 1), nat_lit 0, nat_lit 0, nat_lit 0, []), (nat_lit 1571, nat_lit 12, nat_lit 1, nat_lit 0, nat_lit 0, .ofNat (nat_lit 0), nat_lit 0, nat_lit 0, nat_lit 0, []), (nat_lit 1572, nat_lit 9, nat_lit 1, nat_lit 0, nat_lit 0, .ofNat (nat_lit 0), nat_lit 0, nat_lit 0, nat_lit 0, []), (nat_lit 1573, nat_lit 0, nat_lit 1, nat_lit 0, nat_lit 0, .ofNat (nat_lit 0), nat_lit 0, nat_lit 0, nat_lit 0, []), (nat_lit 1574, nat_lit 1, nat_lit 1, nat_lit 3, nat_lit 0, .ofNat (nat_lit 0), nat_lit 0, nat_lit 0, nat_lit 0, []), (nat_lit 1575, nat_lit 3, nat_lit 1, nat_lit 0, nat_lit 0, .ofNat (nat_lit 2), nat_lit 0, nat_lit 0, nat_lit 0, []), (nat_lit 1576, nat_lit 12, nat_lit 1, nat_lit 0, nat_lit 0, .ofNat (nat_lit 0), nat_lit 0, nat_lit 0, nat_lit 0, []), (nat_lit 1577, nat_lit 9, nat_lit 1, nat_lit 0, nat_lit 0, .ofNat (nat_lit 0), nat_lit 0, nat_lit 0, nat_lit 0, []), (nat_lit 1578, nat_lit 8, nat_lit 3, nat_lit 54, nat_lit 110, .ofNat (nat_lit 0), nat_lit 2, nat_lit 1186, nat_lit 201, []), (nat_lit 1581, nat_lit 0, nat_lit 1, nat_lit 2, nat_lit 0, .ofNat (nat_lit 0), nat_lit 0, nat_lit 0, nat_lit 0, []), (nat_lit 1582, nat_lit 0, nat_lit 1, nat_lit 0, nat_lit 0, .ofNat (nat_lit 0), nat_lit 0, nat_lit 0, nat_lit 0, []), (nat_lit 1583, nat_lit 1, nat_lit 1, nat_lit 3, nat_lit 0, .ofNat (nat_lit 0), nat_lit 0, nat_lit 0, nat_lit 0, [])]
def rx_c0_99 : List rx_E := [(nat_lit 1584, nat_lit 3, nat_lit 1, nat_lit 0, nat_lit 0, .ofNat (nat_lit 1), nat_lit 0, nat_lit 0, nat_lit 0, []), (nat_lit 1585, nat_lit 12, nat_lit 1, nat_lit 0, nat_lit 0, .ofNat (nat_lit 0), nat_lit 0, nat_lit 0, nat_lit 0, []), (nat_lit 1586, nat_lit 9, nat_lit 1, nat_lit 0, nat_lit 0, .ofNat (nat_lit 0), nat_lit 0, nat_lit 0, nat_lit 0, []), (nat_lit 1587, nat_lit 0, nat_lit 1, nat_lit 0, nat_lit 0, .ofNat (nat_lit 0), nat_lit 0, nat_lit 0, nat_lit 0, []), (nat_lit 1588, nat_lit 1, nat_lit 1, nat_lit 3, nat_lit 0, .ofNat (nat_lit 0), nat_lit 0, nat_lit 0, nat_lit 0, []), (nat_lit 1589, nat_lit 3, nat_lit 1, nat_lit 0, nat_lit 0, .ofNat (nat_lit 2), nat_lit 0, nat_lit 0, nat_lit 0, []), (nat_lit 1590, nat_lit 12, nat_lit 1, nat_lit 0, nat_lit 0, .ofNat (nat_lit 0), nat_lit 0, nat_lit 0, nat_lit 0, []), (nat_lit 1591, nat_lit 9, nat_lit 1, nat_lit 0, nat_lit 0, .ofNat (nat_lit 0), nat_lit 0, nat_lit 0, nat_lit 0, []), (nat_lit 1592, nat_lit 8, nat_lit 3, nat_lit 169, nat_lit 120, .ofNat (nat_lit 0), nat_lit 2, nat_lit 1957, nat_lit 204, []), (nat_lit 1595, nat_lit 4, nat_lit 3, nat_lit 0, nat_lit 0, .ofNat (nat_lit 325), nat_lit 0, nat_lit 0, nat_lit 0, []), (nat_lit 1598, nat_lit 3, nat_lit 1, nat_lit 0, nat_lit 0, .ofNat (nat_lit 0), nat_lit 0, nat_lit 0, nat_lit 0, []), (nat_lit 1599, nat_lit 6, nat_lit 1, nat_lit 0, nat_lit 0, .ofNat (nat_lit 0), nat_lit 0, nat_lit 0, nat_lit 0, [])]
def rx_c0_100 : List rx_E := [(nat_lit 1600, nat_lit 0, nat_lit 1, nat_lit 1, nat_lit 0, .ofNat (nat_lit 0), nat_lit 0, nat_lit 0, nat_lit 0, []), (nat_lit 1601, nat_lit 0, nat_lit 1, nat_lit 0, nat_lit 0, .ofNat (nat_lit 0), nat_lit 0, nat_lit 0, nat_lit 0, []), (nat_lit 1602, nat_lit 1, nat_lit 1, nat_lit 3, nat_lit 0, .ofNat (nat_lit 0), nat_lit 0, nat_lit 0, nat_lit 0, []), (nat_lit 1603, nat_lit 3, nat_lit 1, nat_lit 0, nat_lit 0, .ofNat (nat_lit 1), nat_lit 0, nat_lit 0, nat_lit 0, []), (nat_lit 1604, nat_lit 12, nat_lit 1, nat_lit 0, nat_lit 0, .ofNat (nat_lit 0), nat_lit 0, nat_lit 0, nat_lit 0, []), (nat_lit 1605, nat_lit 9, nat_lit 1, nat_lit 0, nat_lit 0, .ofNat (nat_lit 0), nat_lit 0, nat_lit 0, nat_lit 0, []), (nat_lit 1606, nat_lit 0, nat_lit 1, nat_lit 0, nat_lit 0, .ofNat (nat_lit 0), nat_lit 0, nat_lit 0, nat_lit 0, []), (nat_lit 1607, nat_lit 1, nat_lit 1, nat_lit 3, nat_lit 0, .ofNat (nat_lit 0), nat_lit 0, nat_lit 0, nat_lit 0, []), (nat_lit 1608, nat_lit 3, nat_lit 1, nat_lit 0, nat_lit 0, .ofNat (nat_lit 2), nat_lit 0, nat_lit 0, nat_lit 0, []), (nat_lit 1609, nat_lit 12, nat_lit 1, nat_lit 0, nat_lit 0, .ofNat (nat_lit 0), nat_lit 0, nat_lit 0, nat_lit 0, []), (nat_lit 1610, nat_lit 9, nat_lit 1, nat_lit 0, nat_lit 0, .ofNat (nat_lit 0), nat_lit 0, nat_lit 0, nat_lit 0, []), (nat_lit 1611, nat_lit 8, nat_lit 3, nat_lit 55, nat_lit 110, .ofNat (nat_lit 0), nat_lit 2, nat_lit 1194, nat_lit 205, []), (nat_lit 1614, nat_lit 0, nat_lit 1, nat_lit 2, nat_lit 0, .ofNat (nat_lit 0), nat_lit 0, nat_lit 0, nat_lit 0, []), (nat_lit 1615, nat_lit 0, nat_lit 1, nat_lit 0, nat_lit 0, .ofNat (nat_lit 0), nat_lit 0, nat_lit 0, nat_lit 0, [])]
def rx_c0_101 : List rx_E := [(nat_lit 1616, nat_lit 1, nat_lit 1, nat_lit 3, nat_lit 0, .ofNat (nat_lit 0), nat_lit 0, nat_lit 0, nat_lit 0, []), (nat_lit 1617, nat_lit 3, nat_lit 1, nat_lit 0, nat_lit 0, .ofNat (nat_lit 1), nat_lit 0, nat_lit 0, nat_lit 0, []), (nat_lit 1618, nat_lit 12, nat_lit 1, nat_lit 0, nat_lit 0, .ofNat (nat_lit 0), nat_lit 0, nat_lit 0, nat_lit 0, []), (nat_lit 1619, nat_lit 9, nat_lit 1, nat_lit 0, nat_lit 0, .ofNat (nat_lit 0), nat_lit 0, nat_lit 0, nat_lit 0, []), (nat_lit 1620, nat_lit 0, nat_lit 1, nat_lit 0, nat_lit 0, .ofNat (nat_lit 0), nat_lit 0, nat_lit 0, nat_lit 0, []), (nat_lit 1621, nat_lit 1, nat_lit 1, nat_lit 3, nat_lit 0, .ofNat (nat_lit 0), nat_lit 0, nat_lit 0, nat_lit 0, []), (nat_lit 1622, nat_lit 3, nat_lit 1, nat_lit 0, nat_lit 0, .ofNat (nat_lit 2), nat_lit 0, nat_lit 0, nat_lit 0, []), (nat_lit 1623, nat_lit 12, nat_lit 1, nat_lit 0, nat_lit 0, .ofNat (nat_lit 0), nat_lit 0, nat_lit 0, nat_lit 0, []), (nat_lit 1624, nat_lit 9, nat_lit 1, nat_lit 0, nat_lit 0, .ofNat (nat_lit 0), nat_lit 0, nat_lit 0, nat_lit 0, []), (nat_lit 1625, nat_lit 8, nat_lit 3, nat_lit 171, nat_lit 120, .ofNat (nat_lit 0), nat_lit 2, nat_lit 1961, nat_lit 208, []), (nat_lit 1628, nat_lit 4, nat_lit 3, nat_lit 0, nat_lit 0, .ofNat (nat_lit 292), nat_lit 0, nat_lit 0, nat_lit 0, []), (nat_lit 1631, nat_lit 3, nat_lit 1, nat_lit 0, nat_lit 0, .ofNat (nat_lit 0), nat_lit 0, nat_lit 0, nat_lit 0, [])]
def rx_c0_102 : List rx_E := [(nat_lit 1632, nat_lit 6, nat_lit 1, nat_lit 0, nat_lit 0, .ofNat (nat_lit 0), nat_lit 0, nat_lit 0, nat_lit 0, []), (nat_lit 1633, nat_lit 0, nat_lit 1, nat_lit 1, nat_lit 0, .ofNat (nat_lit 0), nat_lit 0, nat_lit 0, nat_lit 0, []), (nat_lit 1634, nat_lit 0, nat_lit 1, nat_lit 0, nat_lit 0, .ofNat (nat_lit 0), nat_lit 0, nat_lit 0, nat_lit 0, []), (nat_lit 1635, nat_lit 1, nat_lit 1, nat_lit 3, nat_lit 0, .ofNat (nat_lit 0), nat_lit 0, nat_lit 0, nat_lit 0, []), (nat_lit 1636, nat_lit 3, nat_lit 1, nat_lit 0, nat_lit 0, .ofNat (nat_lit 1), nat_lit 0, nat_lit 0, nat_lit 0, []), (nat_lit 1637, nat_lit 12, nat_lit 1, nat_lit 0, nat_lit 0, .ofNat (nat_lit 0), nat_lit 0, nat_lit 0, nat_lit 0, []), (nat_lit 1638, nat_lit 9, nat_lit 1, nat_lit 0, nat_lit 0, .ofNat (nat_lit 0), nat_lit 0, nat_lit 0, nat_lit 0, []), (nat_lit 1639, nat_lit 0, nat_lit 1, nat_lit 0, nat_lit 0, .ofNat (nat_lit 0), nat_lit 0, nat_lit 0, nat_lit 0, []), (nat_lit 1640, nat_lit 1, nat_lit 1, nat_lit 3, nat_lit 0, .ofNat (nat_lit 0), nat_lit 0, nat_lit 0, nat_lit 0, []), (nat_lit 1641, nat_lit 3, nat_lit 1, nat_lit 0, nat_lit 0, .ofNat (nat_lit 2), nat_lit 0, nat_lit 0, nat_lit 0, []), (nat_lit 1642, nat_lit 12, nat_lit 1, nat_lit 0, nat_lit 0, .ofNat (nat_lit 0), nat_lit 0, nat_lit 0, nat_lit 0, []), (nat_lit 1643, nat_lit 9, nat_lit 1, nat_lit 0, nat_lit 0, .ofNat (nat_lit 0), nat_lit 0, nat_lit 0, nat_lit 0, []), (nat_lit 1644, nat_lit 0, nat_lit 1, nat_lit 0, nat_lit 0, .ofNat (nat_lit 0), nat_lit 0, nat_lit 0, nat_lit 0, []), (nat_lit 1645, nat_lit 1, nat_lit 1, nat_lit 3, nat_lit 0, .ofNat (nat_lit 0), nat_lit 0, nat_lit 0, nat_lit 0, []), (nat_lit 1646, nat_lit 3, nat_lit 1, nat_lit 0, nat_lit 0, .ofNat (nat_lit 3), nat_lit 0, nat_lit 0, nat_lit 0, []), (nat_lit 1647, nat_lit 12, nat_lit 1, nat_lit 0, nat_lit 0, .ofNat (nat_lit 0), nat_lit 0, nat_lit 0, nat_lit 0, [])]
def rx_c0_103 : List rx_E := [(nat_lit 1648, nat_lit 9, nat_lit 1, nat_lit 0, nat_lit 0, .ofNat (nat_lit 0), nat_lit 0, nat_lit 0, nat_lit 0, []), (nat_lit 1649, nat_lit 8, nat_lit 3, nat_lit 47, nat_lit 110, .ofNat (nat_lit 0), nat_lit 3, nat_lit 1202, nat_lit 209, []), (nat_lit 1652, nat_lit 0, nat_lit 1, nat_lit 2, nat_lit 0, .ofNat (nat_lit 0), nat_lit 0, nat_lit 0, nat_lit 0, []), (nat_lit 1653, nat_lit 0, nat_lit 1, nat_lit 0, nat_lit 0, .ofNat (nat_lit 0), nat_lit 0, nat_lit 0, nat_lit 0, []), (nat_lit 1654, nat_lit 1, nat_lit 1, nat_lit 3, nat_lit 0, .ofNat (nat_lit 0), nat_lit 0, nat_lit 0, nat_lit 0, []), (nat_lit 1655, nat_lit 3, nat_lit 1, nat_lit 0, nat_lit 0, .ofNat (nat_lit 1), nat_lit 0, nat_lit 0, nat_lit 0, []), (nat_lit 1656, nat_lit 12, nat_lit 1, nat_lit 0, nat_lit 0, .ofNat (nat_lit 0), nat_lit 0, nat_lit 0, nat_lit 0, []), (nat_lit 1657, nat_lit 9, nat_lit 1, nat_lit 0, nat_lit 0, .ofNat (nat_lit 0), nat_lit 0, nat_lit 0, nat_lit 0, []), (nat_lit 1658, nat_lit 0, nat_lit 1, nat_lit 0, nat_lit 0, .ofNat (nat_lit 0), nat_lit 0, nat_lit 0, nat_lit 0, []), (nat_lit 1659, nat_lit 1, nat_lit 1, nat_lit 3, nat_lit 0, .ofNat (nat_lit 0), nat_lit 0, nat_lit 0, nat_lit 0, []), (nat_lit 1660, nat_lit 3, nat_lit 1, nat_lit 0, nat_lit 0, .ofNat (nat_lit 2), nat_lit 0, nat_lit 0, nat_lit 0, []), (nat_lit 1661, nat_lit 12, nat_lit 1, nat_lit 0, nat_lit 0, .ofNat (nat_lit 0), nat_lit 0, nat_lit 0, nat_lit 0, []), (nat_lit 1662, nat_lit 9, nat_lit 1, nat_lit 0, nat_lit 0, .ofNat (nat_lit 0), nat_lit 0, nat_lit 0, nat_lit 0, []), (nat_lit 1663, nat_lit 0, nat_lit 1, nat_lit 0, nat_lit 0, .ofNat (nat_lit 0), nat_lit 0, nat_lit 0, nat_lit 0, [])]
def rx_c0_104 : List rx_E := [(nat_lit 1664, nat_lit 1, nat_lit 1, nat_lit 3, nat_lit 0, .ofNat (nat_lit 0), nat_lit 0, nat_lit 0, nat_lit 0, []), (nat_lit 1665, nat_lit 3, nat_lit 1, nat_lit 0, nat_lit 0, .ofNat (nat_lit 3), nat_lit 0, nat_lit 0, nat_lit 0, []), (nat_lit 1666, nat_lit 12, nat_lit 1, nat_lit 0, nat_lit 0, .ofNat (nat_lit 0), nat_lit 0, nat_lit 0, nat_lit 0, []), (nat_lit 1667, nat_lit 9, nat_lit 1, nat_lit 0, nat_lit 0, .ofNat (nat_lit 0), nat_lit 0, nat_lit 0, nat_lit 0, []), (nat_lit 1668, nat_lit 8, nat_lit 3, nat_lit 162, nat_lit 120, .ofNat (nat_lit 0), nat_lit 3, nat_lit 1969, nat_lit 212, []), (nat_lit 1671, nat_lit 4, nat_lit 3, nat_lit 0, nat_lit 0, .ofNat (nat_lit 249), nat_lit 0, nat_lit 0, nat_lit 0, []), (nat_lit 1674, nat_lit 3, nat_lit 1, nat_lit 0, nat_lit 0, .ofNat (nat_lit 0), nat_lit 0, nat_lit 0, nat_lit 0, []), (nat_lit 1675, nat_lit 6, nat_lit 1, nat_lit 0, nat_lit 0, .ofNat (nat_lit 0), nat_lit 0, nat_lit 0, nat_lit 0, []), (nat_lit 1676, nat_lit 0, nat_lit 1, nat_lit 1, nat_lit 0, .ofNat (nat_lit 0), nat_lit 0, nat_lit 0, nat_lit 0, []), (nat_lit 1677, nat_lit 0, nat_lit 1, nat_lit 0, nat_lit 0, .ofNat (nat_lit 0), nat_lit 0, nat_lit 0, nat_lit 0, []), (nat_lit 1678, nat_lit 1, nat_lit 1, nat_lit 3, nat_lit 0, .ofNat (nat_lit 0), nat_lit 0, nat_lit 0, nat_lit 0, []), (nat_lit 1679, nat_lit 3, nat_lit 1, nat_lit 0, nat_lit 0, .ofNat (nat_lit 1), nat_lit 0, nat_lit 0, nat_lit 0, [])]
def rx_c0_105 : List rx_E := [(nat_lit 1680, nat_lit 12, nat_lit 1, nat_lit 0, nat_lit 0, .ofNat (nat_lit 0), nat_lit 0, nat_lit 0, nat_lit 0, []), (nat_lit 1681, nat_lit 9, nat_lit 1, nat_lit 0, nat_lit 0, .ofNat (nat_lit 0), nat_lit 0, nat_lit 0, nat_lit 0, []), (nat_lit 1682, nat_lit 0, nat_lit 1, nat_lit 0, nat_lit 0, .ofNat (nat_lit 0), nat_lit 0, nat_lit 0, nat_lit 0, []), (nat_lit 1683, nat_lit 1, nat_lit 1, nat_lit 3, nat_lit 0, .ofNat (nat_lit 0), nat_lit 0, nat_lit 0, nat_lit 0, []), (nat_lit 1684, nat_lit 3, nat_lit 1, nat_lit 0, nat_lit 0, .ofNat (nat_lit 2), nat_lit 0, nat_lit 0, nat_lit 0, []), (nat_lit 1685, nat_lit 12, nat_lit 1, nat_lit 0, nat_lit 0, .ofNat (nat_lit 0), nat_lit 0, nat_lit 0, nat_lit 0, []), (nat_lit 1686, nat_lit 9, nat_lit 1, nat_lit 0, nat_lit 0, .ofNat (nat_lit 0), nat_lit 0, nat_lit 0, nat_lit 0, []), (nat_lit 1687, nat_lit 8, nat_lit 3, nat_lit 5, nat_lit 110, .ofNat (nat_lit 0), nat_lit 2, nat_lit 1212, nat_lit 213, []), (nat_lit 1690, nat_lit 0, nat_lit 1, nat_lit 2, nat_lit 0, .ofNat (nat_lit 0), nat_lit 0, nat_lit 0, nat_lit 0, []), (nat_lit 1691, nat_lit 0, nat_lit 1, nat_lit 0, nat_lit 0, .ofNat (nat_lit 0), nat_lit 0, nat_lit 0, nat_lit 0, []), (nat_lit 1692, nat_lit 1, nat_lit 1, nat_lit 3, nat_lit 0, .ofNat (nat_lit 0), nat_lit 0, nat_lit 0, nat_lit 0, []), (nat_lit 1693, nat_lit 3, nat_lit 1, nat_lit 0, nat_lit 0, .ofNat (nat_lit 1), nat_lit 0, nat_lit 0, nat_lit 0, []), (nat_lit 1694, nat_lit 12, nat_lit 1, nat_lit 0, nat_lit 0, .ofNat (nat_lit 0), nat_lit 0, nat_lit 0, nat_lit 0, []), (nat_lit 1695, nat_lit 9, nat_lit 1, nat_lit 0, nat_lit 0, .ofNat (nat_lit 0), nat_lit 0, nat_lit 0, nat_lit 0, [])]
def rx_c0_106 : List rx_E := [(nat_lit 1696, nat_lit 0, nat_lit 1, nat_lit 0, nat_lit 0, .ofNat (nat_lit 0), nat_lit 0, nat_lit 0, nat_lit 0, []), (nat_lit 1697, nat_lit 1, nat_lit 1, nat_lit 3, nat_lit 0, .ofNat (nat_lit 0), nat_lit 0, nat_lit 0, nat_lit 0, []), (nat_lit 1698, nat_lit 3, nat_lit 1, nat_lit 0, nat_lit 0, .ofNat (nat_lit 2), nat_lit 0, nat_lit 0, nat_lit 0, []), (nat_lit 1699, nat_lit 12, nat_lit 1, nat_lit 0, nat_lit 0, .ofNat (nat_lit 0), nat_lit 0, nat_lit 0, nat_lit 0, []), (nat_lit 1700, nat_lit 9, nat_lit 1, nat_lit 0, nat_lit 0, .ofNat (nat_lit 0), nat_lit 0, nat_lit 0, nat_lit 0, []), (nat_lit 1701, nat_lit 8, nat_lit 3, nat_lit 110, nat_lit 120, .ofNat (nat_lit 0), nat_lit 2, nat_lit 1976, nat_lit 216, []), (nat_lit 1704, nat_lit 4, nat_lit 3, nat_lit 0, nat_lit 0, .ofNat (nat_lit 216), nat_lit 0, nat_lit 0, nat_lit 0, []), (nat_lit 1707, nat_lit 3, nat_lit 1, nat_lit 0, nat_lit 0, .ofNat (nat_lit 0), nat_lit 0, nat_lit 0, nat_lit 0, []), (nat_lit 1708, nat_lit 6, nat_lit 1, nat_lit 0, nat_lit 0, .ofNat (nat_lit 0), nat_lit 0, nat_lit 0, nat_lit 0, []), (nat_lit 1709, nat_lit 0, nat_lit 1, nat_lit 1, nat_lit 0, .ofNat (nat_lit 0), nat_lit 0, nat_lit 0, nat_lit 0, []), (nat_lit 1710, nat_lit 0, nat_lit 1, nat_lit 0, nat_lit 0, .ofNat (nat_lit 0), nat_lit 0, nat_lit 0, nat_lit 0, []), (nat_lit 1711, nat_lit 1, nat_lit 1, nat_lit 3, nat_lit 0, .ofNat (nat_lit 0), nat_lit 0, nat_lit 0, nat_lit 0, [])]
def rx_c0_107 : List rx_E := [(nat_lit 1712, nat_lit 3, nat_lit 1, nat_lit 0, nat_lit 0, .ofNat (nat_lit 1), nat_lit 0, nat_lit 0, nat_lit 0, []), (nat_lit 1713, nat_lit 12, nat_lit 1, nat_lit 0, nat_lit 0, .ofNat (nat_lit 0), nat_lit 0, nat_lit 0, nat_lit 0, []), (nat_lit 1714, nat_lit 9, nat_lit 1, nat_lit 0, nat_lit 0, .ofNat (nat_lit 0), nat_lit 0, nat_lit 0, nat_lit 0, []), (nat_lit 1715, nat_lit 0, nat_lit 1, nat_lit 0, nat_lit 0, .ofNat (nat_lit 0), nat_lit 0, nat_lit 0, nat_lit 0, []), (nat_lit 1716, nat_lit 1, nat_lit 1, nat_lit 3, nat_lit 0, .ofNat (nat_lit 0), nat_lit 0, nat_lit 0, nat_lit 0, []), (nat_lit 1717, nat_lit 3, nat_lit 1, nat_lit 0, nat_lit 0, .ofNat (nat_lit 2), nat_lit 0, nat_lit 0, nat_lit 0, []), (nat_lit 1718, nat_lit 12, nat_lit 1, nat_lit 0, nat_lit 0, .ofNat (nat_lit 0), nat_lit 0, nat_lit 0, nat_lit 0, []), (nat_lit 1719, nat_lit 9, nat_lit 1, nat_lit 0, nat_lit 0, .ofNat (nat_lit 0), nat_lit 0, nat_lit 0, nat_lit 0, []), (nat_lit 1720, nat_lit 0, nat_lit 1, nat_lit 0, nat_lit 0, .ofNat (nat_lit 0), nat_lit 0, nat_lit 0, nat_lit 0, []), (nat_lit 1721, nat_lit 1, nat_lit 1, nat_lit 3, nat_lit 0, .ofNat (nat_lit 0), nat_lit 0, nat_lit 0, nat_lit 0, []), (nat_lit 1722, nat_lit 3, nat_lit 1, nat_lit 0, nat_lit 0, .ofNat (nat_lit 3), nat_lit 0, nat_lit 0, nat_lit 0, []), (nat_lit 1723, nat_lit 12, nat_lit 1, nat_lit 0, nat_lit 0, .ofNat (nat_lit 0), nat_lit 0, nat_lit 0, nat_lit 0, []), (nat_lit 1724, nat_lit 9, nat_lit 1, nat_lit 0, nat_lit 0, .ofNat (nat_lit 0), nat_lit 0, nat_lit 0, nat_lit 0, []), (nat_lit 1725, nat_lit 8, nat_lit 3, nat_lit 42, nat_lit 110, .ofNat (nat_lit 0), nat_lit 3, nat_lit 1226, nat_lit 217, [])]
def rx_c0_108 : List rx_E := [(nat_lit 1728, nat_lit 0, nat_lit 1, nat_lit 2, nat_lit 0, .ofNat (nat_lit 0), nat_lit 0, nat_lit 0, nat_lit 0, []), (nat_lit 1729, nat_lit 0, nat_lit 1, nat_lit 0, nat_lit 0, .ofNat (nat_lit 0), nat_lit 0, nat_lit 0, nat_lit 0, []), (nat_lit 1730, nat_lit 1, nat_lit 1, nat_lit 3, nat_lit 0, .ofNat (nat_lit 0), nat_lit 0, nat_lit 0, nat_lit 0, []), (nat_lit 1731, nat_lit 3, nat_lit 1, nat_lit 0, nat_lit 0, .ofNat (nat_lit 1), nat_lit 0, nat_lit 0, nat_lit 0, []), (nat_lit 1732, nat_lit 12, nat_lit 1, nat_lit 0, nat_lit 0, .ofNat (nat_lit 0), nat_lit 0, nat_lit 0, nat_lit 0, []), (nat_lit 1733, nat_lit 9, nat_lit 1, nat_lit 0, nat_lit 0, .ofNat (nat_lit 0), nat_lit 0, nat_lit 0, nat_lit 0, []), (nat_lit 1734, nat_lit 0, nat_lit 1, nat_lit 0, nat_lit 0, .ofNat (nat_lit 0), nat_lit 0, nat_lit 0, nat_lit 0, []), (nat_lit 1735, nat_lit 1, nat_lit 1, nat_lit 3, nat_lit 0, .ofNat (nat_lit 0), nat_lit 0, nat_lit 0, nat_lit 0, []), (nat_lit 1736, nat_lit 3, nat_lit 1, nat_lit 0, nat_lit 0, .ofNat (nat_lit 2), nat_lit 0, nat_lit 0, nat_lit 0, []), (nat_lit 1737, nat_lit 12, nat_lit 1, nat_lit 0, nat_lit 0, .ofNat (nat_lit 0), nat_lit 0, nat_lit 0, nat_lit 0, []), (nat_lit 1738, nat_lit 9, nat_lit 1, nat_lit 0, nat_lit 0, .ofNat (nat_lit 0), nat_lit 0, nat_lit 0, nat_lit 0, []), (nat_lit 1739, nat_lit 0, nat_lit 1, nat_lit 0, nat_lit 0, .ofNat (nat_lit 0), nat_lit 0, nat_lit 0, nat_lit 0, []), (nat_lit 1740, nat_lit 1, nat_lit 1, nat_lit 3, nat_lit 0, .ofNat (nat_lit 0), nat_lit 0, nat_lit 0, nat_lit 0, []), (nat_lit 1741, nat_lit 3, nat_lit 1, nat_lit 0, nat_lit 0, .ofNat (nat_lit 3), nat_lit 0, nat_lit 0, nat_lit 0, []), (nat_lit 1742, nat_lit 12, nat_lit 1, nat_lit 0, nat_lit 0, .ofNat (nat_lit 0), nat_lit 0, nat_lit 0, nat_lit 0, []), (nat_lit 1743, nat_lit 9, nat_lit 1, nat_lit 0, nat_lit 0, .ofNat (nat_lit 0), nat_lit 0, nat_lit 0, nat_lit 0, [])]
def rx_c0_109 : List rx_E := [(nat_lit 1744, nat_lit 8, nat_lit 3, nat_lit 157, nat_lit 120, .ofNat (nat_lit 0), nat_lit 3, nat_lit 1984, nat_lit 220, []), (nat_lit 1747, nat_lit 4, nat_lit 3, nat_lit 0, nat_lit 0, .ofNat (nat_lit 173), nat_lit 0, nat_lit 0, nat_lit 0, []), (nat_lit 1750, nat_lit 3, nat_lit 1, nat_lit 0, nat_lit 0, .ofNat (nat_lit 0), nat_lit 0, nat_lit 0, nat_lit 0, []), (nat_lit 1751, nat_lit 6, nat_lit 1, nat_lit 0, nat_lit 0, .ofNat (nat_lit 0), nat_lit 0, nat_lit 0, nat_lit 0, []), (nat_lit 1752, nat_lit 0, nat_lit 1, nat_lit 1, nat_lit 0, .ofNat (nat_lit 0), nat_lit 0, nat_lit 0, nat_lit 0, []), (nat_lit 1753, nat_lit 0, nat_lit 1, nat_lit 0, nat_lit 0, .ofNat (nat_lit 0), nat_lit 0, nat_lit 0, nat_lit 0, []), (nat_lit 1754, nat_lit 1, nat_lit 1, nat_lit 3, nat_lit 0, .ofNat (nat_lit 0), nat_lit 0, nat_lit 0, nat_lit 0, []), (nat_lit 1755, nat_lit 3, nat_lit 1, nat_lit 0, nat_lit 0, .ofNat (nat_lit 1), nat_lit 0, nat_lit 0, nat_lit 0, []), (nat_lit 1756, nat_lit 12, nat_lit 1, nat_lit 0, nat_lit 0, .ofNat (nat_lit 0), nat_lit 0, nat_lit 0, nat_lit 0, []), (nat_lit 1757, nat_lit 9, nat_lit 1, nat_lit 0, nat_lit 0, .ofNat (nat_lit 0), nat_lit 0, nat_lit 0, nat_lit 0, []), (nat_lit 1758, nat_lit 0, nat_lit 1, nat_lit 0, nat_lit 0, .ofNat (nat_lit 0), nat_lit 0, nat_lit 0, nat_lit 0, []), (nat_lit 1759, nat_lit 1, nat_lit 1, nat_lit 3, nat_lit 0, .ofNat (nat_lit 0), nat_lit 0, nat_lit 0, nat_lit 0, [])]
def rx_c0_110 : List rx_E := [(nat_lit 1760, nat_lit 3, nat_lit 1, nat_lit 0, nat_lit 0, .ofNat (nat_lit 2), nat_lit 0, nat_lit 0, nat_lit 0, []), (nat_lit 1761, nat_lit 12, nat_lit 1, nat_lit 0, nat_lit 0, .ofNat (nat_lit 0), nat_lit 0, nat_lit 0, nat_lit 0, []), (nat_lit 1762, nat_lit 9, nat_lit 1, nat_lit 0, nat_lit 0, .ofNat (nat_lit 0), nat_lit 0, nat_lit 0, nat_lit 0, []), (nat_lit 1763, nat_lit 8, nat_lit 3, nat_lit 11, nat_lit 110, .ofNat (nat_lit 0), nat_lit 2, nat_lit 1234, nat_lit 221, []), (nat_lit 1766, nat_lit 0, nat_lit 1, nat_lit 2, nat_lit 0, .ofNat (nat_lit 0), nat_lit 0, nat_lit 0, nat_lit 0, []), (nat_lit 1767, nat_lit 0, nat_lit 1, nat_lit 0, nat_lit 0, .ofNat (nat_lit 0), nat_lit 0, nat_lit 0, nat_lit 0, []), (nat_lit 1768, nat_lit 1, nat_lit 1, nat_lit 3, nat_lit 0, .ofNat (nat_lit 0), nat_lit 0, nat_lit 0, nat_lit 0, []), (nat_lit 1769, nat_lit 3, nat_lit 1, nat_lit 0, nat_lit 0, .ofNat (nat_lit 1), nat_lit 0, nat_lit 0, nat_lit 0, []), (nat_lit 1770, nat_lit 12, nat_lit 1, nat_lit 0, nat_lit 0, .ofNat (nat_lit 0), nat_lit 0, nat_lit 0, nat_lit 0, []), (nat_lit 1771, nat_lit 9, nat_lit 1, nat_lit 0, nat_lit 0, .ofNat (nat_lit 0), nat_lit 0, nat_lit 0, nat_lit 0, []), (nat_lit 1772, nat_lit 0, nat_lit 1, nat_lit 0, nat_lit 0, .ofNat (nat_lit 0), nat_lit 0, nat_lit 0, nat_lit 0, []), (nat_lit 1773, nat_lit 1, nat_lit 1, nat_lit 3, nat_lit 0, .ofNat (nat_lit 0), nat_lit 0, nat_lit 0, nat_lit 0, []), (nat_lit 1774, nat_lit 3, nat_lit 1, nat_lit 0, nat_lit 0, .ofNat (nat_lit 2), nat_lit 0, nat_lit 0, nat_lit 0, []), (nat_lit 1775, nat_lit 12, nat_lit 1, nat_lit 0, nat_lit 0, .ofNat (nat_lit 0), nat_lit 0, nat_lit 0, nat_lit 0, [])]
def rx_c0_111 : List rx_E := [(nat_lit 1776, nat_lit 9, nat_lit 1, nat_lit 0, nat_lit 0, .ofNat (nat_lit 0), nat_lit 0, nat_lit 0, nat_lit 0, []), (nat_lit 1777, nat_lit 8, nat_lit 3, nat_lit 118, nat_lit 120, .ofNat (nat_lit 0), nat_lit 2, nat_lit 1988, nat_lit 224, []), (nat_lit 1780, nat_lit 4, nat_lit 3, nat_lit 0, nat_lit 0, .ofNat (nat_lit 140), nat_lit 0, nat_lit 0, nat_lit 0, []), (nat_lit 1783, nat_lit 3, nat_lit 1, nat_lit 0, nat_lit 0, .ofNat (nat_lit 0), nat_lit 0, nat_lit 0, nat_lit 0, []), (nat_lit 1784, nat_lit 6, nat_lit 1, nat_lit 0, nat_lit 0, .ofNat (nat_lit 0), nat_lit 0, nat_lit 0, nat_lit 0, []), (nat_lit 1785, nat_lit 0, nat_lit 1, nat_lit 1, nat_lit 0, .ofNat (nat_lit 0), nat_lit 0, nat_lit 0, nat_lit 0, []), (nat_lit 1786, nat_lit 0, nat_lit 1, nat_lit 0, nat_lit 0, .ofNat (nat_lit 0), nat_lit 0, nat_lit 0, nat_lit 0, []), (nat_lit 1787, nat_lit 1, nat_lit 1, nat_lit 3, nat_lit 0, .ofNat (nat_lit 0), nat_lit 0, nat_lit 0, nat_lit 0, []), (nat_lit 1788, nat_lit 3, nat_lit 1, nat_lit 0, nat_lit 0, .ofNat (nat_lit 1), nat_lit 0, nat_lit 0, nat_lit 0, []), (nat_lit 1789, nat_lit 12, nat_lit 1, nat_lit 0, nat_lit 0, .ofNat (nat_lit 0), nat_lit 0, nat_lit 0, nat_lit 0, []), (nat_lit 1790, nat_lit 9, nat_lit 1, nat_lit 0, nat_lit 0, .ofNat (nat_lit 0), nat_lit 0, nat_lit 0, nat_lit 0, []), (nat_lit 1791, nat_lit 0, nat_lit 1, nat_lit 0, nat_lit 0, .ofNat (nat_lit 0), nat_lit 0, nat_lit 0, nat_lit 0, [])]
def rx_c0_112 : List rx_E := [(nat_lit 1792, nat_lit 1, nat_lit 1, nat_lit 3, nat_lit 0, .ofNat (nat_lit 0), nat_lit 0, nat_lit 0, nat_lit 0, []), (nat_lit 1793, nat_lit 3, nat_lit 1, nat_lit 0, nat_lit 0, .ofNat (nat_lit 2), nat_lit 0, nat_lit 0, nat_lit 0, []), (nat_lit 1794, nat_lit 12, nat_lit 1, nat_lit 0, nat_lit 0, .ofNat (nat_lit 0), nat_lit 0, nat_lit 0, nat_lit 0, []), (nat_lit 1795, nat_lit 9, nat_lit 1, nat_lit 0, nat_lit 0, .ofNat (nat_lit 0), nat_lit 0, nat_lit 0, nat_lit 0, []), (nat_lit 1796, nat_lit 8, nat_lit 3, nat_lit 56, nat_lit 110, .ofNat (nat_lit 0), nat_lit 2, nat_lit 1258, nat_lit 225, []), (nat_lit 1799, nat_lit 0, nat_lit 1, nat_lit 2, nat_lit 0, .ofNat (nat_lit 0), nat_lit 0, nat_lit 0, nat_lit 0, []), (nat_lit 1800, nat_lit 0, nat_lit 1, nat_lit 0, nat_lit 0, .ofNat (nat_lit 0), nat_lit 0, nat_lit 0, nat_lit 0, []), (nat_lit 1801, nat_lit 1, nat_lit 1, nat_lit 3, nat_lit 0, .ofNat (nat_lit 0), nat_lit 0, nat_lit 0, nat_lit 0, []), (nat_lit 1802, nat_lit 3, nat_lit 1, nat_lit 0, nat_lit 0, .ofNat (nat_lit 1), nat_lit 0, nat_lit 0, nat_lit 0, []), (nat_lit 1803, nat_lit 12, nat_lit 1, nat_lit 0, nat_lit 0, .ofNat (nat_lit 0), nat_lit 0, nat_lit 0, nat_lit 0, []), (nat_lit 1804, nat_lit 9, nat_lit 1, nat_lit 0, nat_lit 0, .ofNat (nat_lit 0), nat_lit 0, nat_lit 0, nat_lit 0, []), (nat_lit 1805, nat_lit 0, nat_lit 1, nat_lit 0, nat_lit 0, .ofNat (nat_lit 0), nat_lit 0, nat_lit 0, nat_lit 0, []), (nat_lit 1806, nat_lit 1, nat_lit 1, nat_lit 3, nat_lit 0, .ofNat (nat_lit 0), nat_lit 0, nat_lit 0, nat_lit 0, []), (nat_lit 1807, nat_lit 3, nat_lit 1, nat_lit 0, nat_lit 0, .ofNat (nat_lit 2), nat_lit 0, nat_lit 0, nat_lit 0, [])]
def rx_c0_113 : List rx_E := [(nat_lit 1808, nat_lit 12, nat_lit 1, nat_lit 0, nat_lit 0, .ofNat (nat_lit 0), nat_lit 0, nat_lit 0, nat_lit 0, []), (nat_lit 1809, nat_lit 9, nat_lit 1, nat_lit 0, nat_lit 0, .ofNat (nat_lit 0), nat_lit 0, nat_lit 0, nat_lit 0, []), (nat_lit 1810, nat_lit 8, nat_lit 3, nat_lit 172, nat_lit 120, .ofNat (nat_lit 0), nat_lit 2, nat_lit 1996, nat_lit 228, []), (nat_lit 1813, nat_lit 4, nat_lit 3, nat_lit 0, nat_lit 0, .ofNat (nat_lit 107), nat_lit 0, nat_lit 0, nat_lit 0, []), (nat_lit 1816, nat_lit 3, nat_lit 1, nat_lit 0, nat_lit 0, .ofNat (nat_lit 0), nat_lit 0, nat_lit 0, nat_lit 0, []), (nat_lit 1817, nat_lit 6, nat_lit 1, nat_lit 0, nat_lit 0, .ofNat (nat_lit 0), nat_lit 0, nat_lit 0, nat_lit 0, []), (nat_lit 1818, nat_lit 0, nat_lit 1, nat_lit 1, nat_lit 0, .ofNat (nat_lit 0), nat_lit 0, nat_lit 0, nat_lit 0, []), (nat_lit 1819, nat_lit 0, nat_lit 1, nat_lit 0, nat_lit 0, .ofNat (nat_lit 0), nat_lit 0, nat_lit 0, nat_lit 0, []), (nat_lit 1820, nat_lit 1, nat_lit 1, nat_lit 3, nat_lit 0, .ofNat (nat_lit 0), nat_lit 0, nat_lit 0, nat_lit 0, []), (nat_lit 1821, nat_lit 3, nat_lit 1, nat_lit 0, nat_lit 0, .ofNat (nat_lit 1), nat_lit 0, nat_lit 0, nat_lit 0, []), (nat_lit 1822, nat_lit 12, nat_lit 1, nat_lit 0, nat_lit 0, .ofNat (nat_lit 0), nat_lit 0, nat_lit 0, nat_lit 0, []), (nat_lit 1823, nat_lit 9, nat_lit 1, nat_lit 0, nat_lit 0, .ofNat (nat_lit 0), nat_lit 0, nat_lit 0, nat_lit 0, [])]
def rx_c0_114 : List rx_E := [(nat_lit 1824, nat_lit 0, nat_lit 1, nat_lit 0, nat_lit 0, .ofNat (nat_lit 0), nat_lit 0, nat_lit 0, nat_lit 0, []), (nat_lit 1825, nat_lit 1, nat_lit 1, nat_lit 3, nat_lit 0, .ofNat (nat_lit 0), nat_lit 0, nat_lit 0, nat_lit 0, []), (nat_lit 1826, nat_lit 3, nat_lit 1, nat_lit 0, nat_lit 0, .ofNat (nat_lit 2), nat_lit 0, nat_lit 0, nat_lit 0, []), (nat_lit 1827, nat_lit 12, nat_lit 1, nat_lit 0, nat_lit 0, .ofNat (nat_lit 0), nat_lit 0, nat_lit 0, nat_lit 0, []), (nat_lit 1828, nat_lit 9, nat_lit 1, nat_lit 0, nat_lit 0, .ofNat (nat_lit 0), nat_lit 0, nat_lit 0, nat_lit 0, []), (nat_lit 1829, nat_lit 8, nat_lit 3, nat_lit 23, nat_lit 110, .ofNat (nat_lit 0), nat_lit 2, nat_lit 1281, nat_lit 229, []), (nat_lit 1832, nat_lit 0, nat_lit 1, nat_lit 2, nat_lit 0, .ofNat (nat_lit 0), nat_lit 0, nat_lit 0, nat_lit 0, []), (nat_lit 1833, nat_lit 0, nat_lit 1, nat_lit 0, nat_lit 0, .ofNat (nat_lit 0), nat_lit 0, nat_lit 0, nat_lit 0, []), (nat_lit 1834, nat_lit 1, nat_lit 1, nat_lit 3, nat_lit 0, .ofNat (nat_lit 0), nat_lit 0, nat_lit 0, nat_lit 0, []), (nat_lit 1835, nat_lit 3, nat_lit 1, nat_lit 0, nat_lit 0, .ofNat (nat_lit 1), nat_lit 0, nat_lit 0, nat_lit 0, []), (nat_lit 1836, nat_lit 12, nat_lit 1, nat_lit 0, nat_lit 0, .ofNat (nat_lit 0), nat_lit 0, nat_lit 0, nat_lit 0, []), (nat_lit 1837, nat_lit 9, nat_lit 1, nat_lit 0, nat_lit 0, .ofNat (nat_lit 0), nat_lit 0, nat_lit 0, nat_lit 0, []), (nat_lit 1838, nat_lit 0, nat_lit 1, nat_lit 0, nat_lit 0, .ofNat (nat_lit 0), nat_lit 0, nat_lit 0, nat_lit 0, []), (nat_lit 1839, nat_lit 1, nat_lit 1, nat_lit 3, nat_lit 0, .ofNat (nat_lit 0), nat_lit 0, nat_lit 0, nat_lit 0, [])]
def rx_c0_115 : List rx_E := [(nat_lit 1840, nat_lit 3, nat_lit 1, nat_lit 0, nat_lit 0, .ofNat (nat_lit 2), nat_lit 0, nat_lit 0, nat_lit 0, []), (nat_lit 1841, nat_lit 12, nat_lit 1, nat_lit 0, nat_lit 0, .ofNat (nat_lit 0), nat_lit 0, nat_lit 0, nat_lit 0, []), (nat_lit 1842, nat_lit 9, nat_lit 1, nat_lit 0, nat_lit 0, .ofNat (nat_lit 0), nat_lit 0, nat_lit 0, nat_lit 0, []), (nat_lit 1843, nat_lit 8, nat_lit 3, nat_lit 133, nat_lit 120, .ofNat (nat_lit 0), nat_lit 2, nat_lit 2004, nat_lit 232, []), (nat_lit 1846, nat_lit 4, nat_lit 3, nat_lit 0, nat_lit 0, .ofNat (nat_lit 74), nat_lit 0, nat_lit 0, nat_lit 0, []), (nat_lit 1849, nat_lit 3, nat_lit 1, nat_lit 0, nat_lit 0, .ofNat (nat_lit 0), nat_lit 0, nat_lit 0, nat_lit 0, []), (nat_lit 1850, nat_lit 6, nat_lit 1, nat_lit 0, nat_lit 0, .ofNat (nat_lit 0), nat_lit 0, nat_lit 0, nat_lit 0, []), (nat_lit 1851, nat_lit 0, nat_lit 1, nat_lit 1, nat_lit 0, .ofNat (nat_lit 0), nat_lit 0, nat_lit 0, nat_lit 0, []), (nat_lit 1852, nat_lit 0, nat_lit 1, nat_lit 0, nat_lit 0, .ofNat (nat_lit 0), nat_lit 0, nat_lit 0, nat_lit 0, []), (nat_lit 1853, nat_lit 1, nat_lit 1, nat_lit 3, nat_lit 0, .ofNat (nat_lit 0), nat_lit 0, nat_lit 0, nat_lit 0, []), (nat_lit 1854, nat_lit 3, nat_lit 1, nat_lit 0, nat_lit 0, .ofNat (nat_lit 1), nat_lit 0, nat_lit 0, nat_lit 0, []), (nat_lit 1855, nat_lit 12, nat_lit 1, nat_lit 0, nat_lit 0, .ofNat (nat_lit 0), nat_lit 0, nat_lit 0, nat_lit 0, [])]
def rx_c0_116 : List rx_E := [(nat_lit 1856, nat_lit 9, nat_lit 1, nat_lit 0, nat_lit 0, .ofNat (nat_lit 0), nat_lit 0, nat_lit 0, nat_lit 0, []), (nat_lit 1857, nat_lit 8, nat_lit 3, nat_lit 31, nat_lit 110, .ofNat (nat_lit 0), nat_lit 1, nat_lit 1294, nat_lit 233, []), (nat_lit 1860, nat_lit 0, nat_lit 1, nat_lit 2, nat_lit 0, .ofNat (nat_lit 0), nat_lit 0, nat_lit 0, nat_lit 0, []), (nat_lit 1861, nat_lit 0, nat_lit 1, nat_lit 0, nat_lit 0, .ofNat (nat_lit 0), nat_lit 0, nat_lit 0, nat_lit 0, []), (nat_lit 1862, nat_lit 1, nat_lit 1, nat_lit 3, nat_lit 0, .ofNat (nat_lit 0), nat_lit 0, nat_lit 0, nat_lit 0, []), (nat_lit 1863, nat_lit 3, nat_lit 1, nat_lit 0, nat_lit 0, .ofNat (nat_lit 1), nat_lit 0, nat_lit 0, nat_lit 0, []), (nat_lit 1864, nat_lit 12, nat_lit 1, nat_lit 0, nat_lit 0, .ofNat (nat_lit 0), nat_lit 0, nat_lit 0, nat_lit 0, []), (nat_lit 1865, nat_lit 9, nat_lit 1, nat_lit 0, nat_lit 0, .ofNat (nat_lit 0), nat_lit 0, nat_lit 0, nat_lit 0, []), (nat_lit 1866, nat_lit 8, nat_lit 3, nat_lit 139, nat_lit 120, .ofNat (nat_lit 0), nat_lit 1, nat_lit 2012, nat_lit 236, []), (nat_lit 1869, nat_lit 4, nat_lit 3, nat_lit 0, nat_lit 0, .ofNat (nat_lit 51), nat_lit 0, nat_lit 0, nat_lit 0, [])]
def rx_c0_117 : List rx_E := [(nat_lit 1872, nat_lit 3, nat_lit 1, nat_lit 0, nat_lit 0, .ofNat (nat_lit 0), nat_lit 0, nat_lit 0, nat_lit 0, []), (nat_lit 1873, nat_lit 6, nat_lit 1, nat_lit 0, nat_lit 0, .ofNat (nat_lit 0), nat_lit 0, nat_lit 0, nat_lit 0, []), (nat_lit 1874, nat_lit 0, nat_lit 1, nat_lit 1, nat_lit 0, .ofNat (nat_lit 0), nat_lit 0, nat_lit 0, nat_lit 0, []), (nat_lit 1875, nat_lit 0, nat_lit 1, nat_lit 0, nat_lit 0, .ofNat (nat_lit 0), nat_lit 0, nat_lit 0, nat_lit 0, []), (nat_lit 1876, nat_lit 1, nat_lit 1, nat_lit 3, nat_lit 0, .ofNat (nat_lit 0), nat_lit 0, nat_lit 0, nat_lit 0, []), (nat_lit 1877, nat_lit 3, nat_lit 1, nat_lit 0, nat_lit 0, .ofNat (nat_lit 1), nat_lit 0, nat_lit 0, nat_lit 0, []), (nat_lit 1878, nat_lit 12, nat_lit 1, nat_lit 0, nat_lit 0, .ofNat (nat_lit 0), nat_lit 0, nat_lit 0, nat_lit 0, []), (nat_lit 1879, nat_lit 9, nat_lit 1, nat_lit 0, nat_lit 0, .ofNat (nat_lit 0), nat_lit 0, nat_lit 0, nat_lit 0, []), (nat_lit 1880, nat_lit 8, nat_lit 3, nat_lit 6, nat_lit 110, .ofNat (nat_lit 0), nat_lit 1, nat_lit 1298, nat_lit 237, []), (nat_lit 1883, nat_lit 0, nat_lit 1, nat_lit 2, nat_lit 0, .ofNat (nat_lit 0), nat_lit 0, nat_lit 0, nat_lit 0, []), (nat_lit 1884, nat_lit 0, nat_lit 1, nat_lit 0, nat_lit 0, .ofNat (nat_lit 0), nat_lit 0, nat_lit 0, nat_lit 0, []), (nat_lit 1885, nat_lit 1, nat_lit 1, nat_lit 3, nat_lit 0, .ofNat (nat_lit 0), nat_lit 0, nat_lit 0, nat_lit 0, []), (nat_lit 1886, nat_lit 3, nat_lit 1, nat_lit 0, nat_lit 0, .ofNat (nat_lit 1), nat_lit 0, nat_lit 0, nat_lit 0, []), (nat_lit 1887, nat_lit 12, nat_lit 1, nat_lit 0, nat_lit 0, .ofNat (nat_lit 0), nat_lit 0, nat_lit 0, nat_lit 0, [])]
def rx_c0_118 : List rx_E := [(nat_lit 1888, nat_lit 9, nat_lit 1, nat_lit 0, nat_lit 0, .ofNat (nat_lit 0), nat_lit 0, nat_lit 0, nat_lit 0, []), (nat_lit 1889, nat_lit 8, nat_lit 3, nat_lit 111, nat_lit 120, .ofNat (nat_lit 0), nat_lit 1, nat_lit 2016, nat_lit 240, []), (nat_lit 1892, nat_lit 4, nat_lit 3, nat_lit 0, nat_lit 0, .ofNat (nat_lit 28), nat_lit 0, nat_lit 0, nat_lit 0, []), (nat_lit 1895, nat_lit 3, nat_lit 1, nat_lit 0, nat_lit 0, .ofNat (nat_lit 0), nat_lit 0, nat_lit 0, nat_lit 0, []), (nat_lit 1896, nat_lit 6, nat_lit 1, nat_lit 0, nat_lit 0, .ofNat (nat_lit 0), nat_lit 0, nat_lit 0, nat_lit 0, []), (nat_lit 1897, nat_lit 0, nat_lit 1, nat_lit 1, nat_lit 0, .ofNat (nat_lit 0), nat_lit 0, nat_lit 0, nat_lit 0, []), (nat_lit 1898, nat_lit 0, nat_lit 1, nat_lit 0, nat_lit 0, .ofNat (nat_lit 0), nat_lit 0, nat_lit 0, nat_lit 0, []), (nat_lit 1899, nat_lit 1, nat_lit 1, nat_lit 3, nat_lit 0, .ofNat (nat_lit 0), nat_lit 0, nat_lit 0, nat_lit 0, []), (nat_lit 1900, nat_lit 3, nat_lit 1, nat_lit 0, nat_lit 0, .ofNat (nat_lit 1), nat_lit 0, nat_lit 0, nat_lit 0, []), (nat_lit 1901, nat_lit 12, nat_lit 1, nat_lit 0, nat_lit 0, .ofNat (nat_lit 0), nat_lit 0, nat_lit 0, nat_lit 0, []), (nat_lit 1902, nat_lit 9, nat_lit 1, nat_lit 0, nat_lit 0, .ofNat (nat_lit 0), nat_lit 0, nat_lit 0, nat_lit 0, []), (nat_lit 1903, nat_lit 8, nat_lit 3, nat_lit 2, nat_lit 110, .ofNat (nat_lit 0), nat_lit 1, nat_lit 1302, nat_lit 241, [])]
def rx_c0_119 : List rx_E := [(nat_lit 1906, nat_lit 0, nat_lit 1, nat_lit 2, nat_lit 0, .ofNat (nat_lit 0), nat_lit 0, nat_lit 0, nat_lit 0, []), (nat_lit 1907, nat_lit 0, nat_lit 1, nat_lit 0, nat_lit 0, .ofNat (nat_lit 0), nat_lit 0, nat_lit 0, nat_lit 0, []), (nat_lit 1908, nat_lit 1, nat_lit 1, nat_lit 3, nat_lit 0, .ofNat (nat_lit 0), nat_lit 0, nat_lit 0, nat_lit 0, []), (nat_lit 1909, nat_lit 3, nat_lit 1, nat_lit 0, nat_lit 0, .ofNat (nat_lit 1), nat_lit 0, nat_lit 0, nat_lit 0, []), (nat_lit 1910, nat_lit 12, nat_lit 1, nat_lit 0, nat_lit 0, .ofNat (nat_lit 0), nat_lit 0, nat_lit 0, nat_lit 0, []), (nat_lit 1911, nat_lit 9, nat_lit 1, nat_lit 0, nat_lit 0, .ofNat (nat_lit 0), nat_lit 0, nat_lit 0, nat_lit 0, []), (nat_lit 1912, nat_lit 8, nat_lit 3, nat_lit 107, nat_lit 120, .ofNat (nat_lit 0), nat_lit 1, nat_lit 2020, nat_lit 244, []), (nat_lit 1915, nat_lit 4, nat_lit 3, nat_lit 0, nat_lit 0, .ofNat (nat_lit 5), nat_lit 0, nat_lit 0, nat_lit 0, []), (nat_lit 1918, nat_lit 3, nat_lit 1, nat_lit 0, nat_lit 0, .ofNat (nat_lit 0), nat_lit 0, nat_lit 0, nat_lit 0, []), (nat_lit 1919, nat_lit 6, nat_lit 1, nat_lit 0, nat_lit 0, .ofNat (nat_lit 0), nat_lit 0, nat_lit 0, nat_lit 0, [])]
def rx_c0_120 : List rx_E := [(nat_lit 1920, nat_lit 7, nat_lit 3, nat_lit 3, nat_lit 0, .ofNat (nat_lit 6), nat_lit 0, nat_lit 0, nat_lit 0, []), (nat_lit 1923, nat_lit 5, nat_lit 3, nat_lit 0, nat_lit 0, .negSucc (nat_lit 1904), nat_lit 0, nat_lit 0, nat_lit 0, []), (nat_lit 1926, nat_lit 3, nat_lit 1, nat_lit 0, nat_lit 0, .ofNat (nat_lit 1), nat_lit 0, nat_lit 0, nat_lit 0, []), (nat_lit 1927, nat_lit 6, nat_lit 1, nat_lit 0, nat_lit 0, .ofNat (nat_lit 0), nat_lit 0, nat_lit 0, nat_lit 0, [])]
def rx_c0 : List (List rx_E) := [rx_c0_0, rx_c0_1, rx_c0_2, rx_c0_3, rx_c0_4, rx_c0_5, rx_c0_6, rx_c0_7, rx_c0_8, rx_c0_9, rx_c0_10, rx_c0_11, rx_c0_12, rx_c0_13, rx_c0_14, rx_c0_15, rx_c0_16, rx_c0_17, rx_c0_18, rx_c0_19, rx_c0_20, rx_c0_21, rx_c0_22, rx_c0_23, rx_c0_24, rx_c0_25, rx_c0_26, rx_c0_27, rx_c0_28, rx_c0_29, rx_c0_30, rx_c0_31, rx_c0_32, rx_c0_33, rx_c0_34, rx_c0_35, rx_c0_36, rx_c0_37, rx_c0_38, rx_c0_39, rx_c0_40, rx_c0_41, rx_c0_42, rx_c0_43, rx_c0_44, rx_c0_45, rx_c0_46, rx_c0_47, rx_c0_48, rx_c0_49, rx_c0_50, rx_c0_51, rx_c0_52, rx_c0_53, rx_c0_54, rx_c0_55, rx_c0_56, rx_c0_57, rx_c0_58, rx_c0_59, rx_c0_60, rx_c0_61, rx_c0_62, rx_c0_63, rx_c0_64, rx_c0_65, rx_c0_66, rx_c0_67, rx_c0_68, rx_c0_69, rx_c0_70, rx_c0_71, rx_c0_72, rx_c0_73, rx_c0_74, rx_c0_75, rx_c0_76, rx_c0_77, rx_c0_78, rx_c0_79, rx_c0_80, rx_c0_81, rx_c0_82, rx_c0_83, rx_c0_84, rx_c0_85, rx_c0_86, rx_c0_87, rx_c0_88, rx_c0_89, rx_c0_90, rx_c0_91, rx_c0_92, rx_c0_93, rx_c0_94, rx_c0_95, rx_c0_96, rx_c0_97, rx_c0_98, rx_c0_99, rx_c0_100, rx_c0_101, rx_c0_102, rx_c0_103, rx_c0_104, rx_c0_105, rx_c0_106, rx_c0_107, rx_c0_108, rx_c0_109, rx_c0_110, rx_c0_111, rx_c0_112, rx_c0_113, rx_c0_114, rx_c0_115, rx_c0_116, rx_c0_117, rx_c0_118, rx_c0_119, rx_c0_120]
def rx_c1 : List (List rx_E) := [[(nat_lit 0, nat_lit 0, nat_lit 1, nat_lit 0, nat_lit 0, .ofNat (nat_lit 0), nat_lit 0, nat_lit 0, nat_lit 0, []), (nat_lit 1, nat_lit 34, nat_lit 3, nat_lit 0, nat_lit 0, .ofNat (nat_lit 0), nat_lit 0, nat_lit 134, nat_lit 1, []), (nat_lit 4, nat_lit 0, nat_lit 1, nat_lit 0, nat_lit 0, .ofNat (nat_lit 0), nat_lit 0, nat_lit 0, nat_lit 0, []), (nat_lit 5, nat_lit 40, nat_lit 3, nat_lit 9, nat_lit 0, .ofNat (nat_lit 0), nat_lit 0, nat_lit 137, nat_lit 7, []), (nat_lit 8, nat_lit 16, nat_lit 1, nat_lit 0, nat_lit 0, .ofNat (nat_lit 0), nat_lit 0, nat_lit 0, nat_lit 0, []), (nat_lit 9, nat_lit 33, nat_lit 3, nat_lit 96, nat_lit 93, .ofNat (nat_lit 0), nat_lit 0, nat_lit 139, nat_lit 9, []), (nat_lit 12, nat_lit 15, nat_lit 3, nat_lit 11, nat_lit 0, .ofNat (nat_lit 0), nat_lit 12, nat_lit 536, nat_lit 10, []), (nat_lit 15, nat_lit 0, nat_lit 1, nat_lit 0, nat_lit 0, .ofNat (nat_lit 0), nat_lit 0, nat_lit 0, nat_lit 0, [])], [(nat_lit 16, nat_lit 40, nat_lit 3, nat_lit 7, nat_lit 0, .ofNat (nat_lit 0), nat_lit 0, nat_lit 171, nat_lit 16, []), (nat_lit 19, nat_lit 16, nat_lit 1, nat_lit 0, nat_lit 0, .ofNat (nat_lit 0), nat_lit 0, nat_lit 0, nat_lit 0, []), (nat_lit 20, nat_lit 33, nat_lit 3, nat_lit 90, nat_lit 73, .ofNat (nat_lit 0), nat_lit 0, nat_lit 173, nat_lit 18, []), (nat_lit 23, nat_lit 15, nat_lit 3, nat_lit 11, nat_lit 1, .ofNat (nat_lit 0), nat_lit 12, nat_lit 537, nat_lit 19, []), (nat_lit 26, nat_lit 0, nat_lit 1, nat_lit 0, nat_lit 0, .ofNat (nat_lit 0), nat_lit 0, nat_lit 0, nat_lit 0, []), (nat_lit 27, nat_lit 40, nat_lit 3, nat_lit 7, nat_lit 0, .ofNat (nat_lit 0), nat_lit 0, nat_lit 171, nat_lit 16, []), (nat_lit 30, nat_lit 16, nat_lit 1, nat_lit 0, nat_lit 0, .ofNat (nat_lit 0), nat_lit 0, nat_lit 0, nat_lit 0, []), (nat_lit 31, nat_lit 33, nat_lit 3, nat_lit 90, nat_lit 73, .ofNat (nat_lit 0), nat_lit 0, nat_lit 173, nat_lit 18, [])], [(nat_lit 34, nat_lit 15, nat_lit 3, nat_lit 11, nat_lit 2, .ofNat (nat_lit 0), nat_lit 12, nat_lit 538, nat_lit 23, []), (nat_lit 37, nat_lit 0, nat_lit 1, nat_lit 0, nat_lit 0, .ofNat (nat_lit 0), nat_lit 0, nat_lit 0, nat_lit 0, []), (nat_lit 38, nat_lit 40, nat_lit 3, nat_lit 6, nat_lit 0, .ofNat (nat_lit 0), nat_lit 0, nat_lit 242, nat_lit 26, []), (nat_lit 41, nat_lit 16, nat_lit 1, nat_lit 0, nat_lit 0, .ofNat (nat_lit 0), nat_lit 0, nat_lit 0, nat_lit 0, []), (nat_lit 42, nat_lit 0, nat_lit 1, nat_lit 0, nat_lit 0, .ofNat (nat_lit 0), nat_lit 0, nat_lit 0, nat_lit 0, []), (nat_lit 43, nat_lit 2, nat_lit 3, nat_lit 11, nat_lit 0, .ofNat (nat_lit 0), nat_lit 12, nat_lit 536, nat_lit 10, []), (nat_lit 46, nat_lit 0, nat_lit 1, nat_lit 0, nat_lit 0, .ofNat (nat_lit 0), nat_lit 0, nat_lit 0, nat_lit 0, []), (nat_lit 47, nat_lit 2, nat_lit 3, nat_lit 11, nat_lit 2, .ofNat (nat_lit 0), nat_lit 12, nat_lit 538, nat_lit 23, [])], [(nat_lit 50, nat_lit 33, nat_lit 3, nat_lit 88, nat_lit 62, .ofNat (nat_lit 0), nat_lit 2, nat_lit 244, nat_lit 28, []), (nat_lit 53, nat_lit 15, nat_lit 3, nat_lit 11, nat_lit 3, .ofNat (nat_lit 0), nat_lit 12, nat_lit 539, nat_lit 31, []), (nat_lit 56, nat_lit 0, nat_lit 1, nat_lit 0, nat_lit 0, .ofNat (nat_lit 0), nat_lit 0, nat_lit 0, nat_lit 0, []), (nat_lit 57, nat_lit 40, nat_lit 3, nat_lit 2, nat_lit 0, .ofNat (nat_lit 0), nat_lit 0, nat_lit 276, nat_lit 35, []), (nat_lit 60, nat_lit 16, nat_lit 1, nat_lit 0, nat_lit 0, .ofNat (nat_lit 0), nat_lit 0, nat_lit 0, nat_lit 0, []), (nat_lit 61, nat_lit 33, nat_lit 3, nat_lit 73, nat_lit 23, .ofNat (nat_lit 0), nat_lit 0, nat_lit 278, nat_lit 37, [])], [(nat_lit 64, nat_lit 15, nat_lit 3, nat_lit 11, nat_lit 4, .ofNat (nat_lit 0), nat_lit 12, nat_lit 540, nat_lit 38, []), (nat_lit 67, nat_lit 0, nat_lit 1, nat_lit 0, nat_lit 0, .ofNat (nat_lit 0), nat_lit 0, nat_lit 0, nat_lit 0, []), (nat_lit 68, nat_lit 40, nat_lit 3, nat_lit 2, nat_lit 0, .ofNat (nat_lit 0), nat_lit 0, nat_lit 276, nat_lit 35, []), (nat_lit 71, nat_lit 16, nat_lit 1, nat_lit 0, nat_lit 0, .ofNat (nat_lit 0), nat_lit 0, nat_lit 0, nat_lit 0, []), (nat_lit 72, nat_lit 33, nat_lit 3, nat_lit 73, nat_lit 23, .ofNat (nat_lit 0), nat_lit 0, nat_lit 278, nat_lit 37, []), (nat_lit 75, nat_lit 15, nat_lit 3, nat_lit 11, nat_lit 5, .ofNat (nat_lit 0), nat_lit 12, nat_lit 541, nat_lit 42, []), (nat_lit 78, nat_lit 0, nat_lit 1, nat_lit 0, nat_lit 0, .ofNat (nat_lit 0), nat_lit 0, nat_lit 0, nat_lit 0, []), (nat_lit 79, nat_lit 40, nat_lit 3, nat_lit 0, nat_lit 0, .ofNat (nat_lit 0), nat_lit 0, nat_lit 314, nat_lit 45, [])], [(nat_lit 82, nat_lit 16, nat_lit 1, nat_lit 0, nat_lit 0, .ofNat (nat_lit 0), nat_lit 0, nat_lit 0, nat_lit 0, []), (nat_lit 83, nat_lit 0, nat_lit 1, nat_lit 0, nat_lit 0, .ofNat (nat_lit 0), nat_lit 0, nat_lit 0, nat_lit 0, []), (nat_lit 84, nat_lit 2, nat_lit 3, nat_lit 11, nat_lit 1, .ofNat (nat_lit 0), nat_lit 12, nat_lit 537, nat_lit 19, []), (nat_lit 87, nat_lit 0, nat_lit 1, nat_lit 0, nat_lit 0, .ofNat (nat_lit 0), nat_lit 0, nat_lit 0, nat_lit 0, []), (nat_lit 88, nat_lit 2, nat_lit 3, nat_lit 11, nat_lit 4, .ofNat (nat_lit 0), nat_lit 12, nat_lit 540, nat_lit 38, []), (nat_lit 91, nat_lit 33, nat_lit 3, nat_lit 65, nat_lit 2, .ofNat (nat_lit 0), nat_lit 2, nat_lit 316, nat_lit 47, []), (nat_lit 94, nat_lit 15, nat_lit 3, nat_lit 11, nat_lit 6, .ofNat (nat_lit 0), nat_lit 12, nat_lit 542, nat_lit 50, [])], [(nat_lit 97, nat_lit 0, nat_lit 1, nat_lit 0, nat_lit 0, .ofNat (nat_lit 0), nat_lit 0, nat_lit 0, nat_lit 0, []), (nat_lit 98, nat_lit 3, nat_lit 1, nat_lit 0, nat_lit 0, .ofNat (nat_lit 3), nat_lit 0, nat_lit 0, nat_lit 0, []), (nat_lit 99, nat_lit 41, nat_lit 3, nat_lit 4, nat_lit 0, .ofNat (nat_lit 0), nat_lit 0, nat_lit 276, nat_lit 35, []), (nat_lit 102, nat_lit 15, nat_lit 3, nat_lit 11, nat_lit 7, .ofNat (nat_lit 0), nat_lit 12, nat_lit 543, nat_lit 54, []), (nat_lit 105, nat_lit 0, nat_lit 1, nat_lit 0, nat_lit 0, .ofNat (nat_lit 0), nat_lit 0, nat_lit 0, nat_lit 0, []), (nat_lit 106, nat_lit 3, nat_lit 1, nat_lit 0, nat_lit 0, .ofNat (nat_lit 3), nat_lit 0, nat_lit 0, nat_lit 0, []), (nat_lit 107, nat_lit 32, nat_lit 2, nat_lit 2, nat_lit 0, .ofNat (nat_lit 0), nat_lit 0, nat_lit 0, nat_lit 0, []), (nat_lit 109, nat_lit 15, nat_lit 3, nat_lit 11, nat_lit 8, .ofNat (nat_lit 0), nat_lit 12, nat_lit 544, nat_lit 58, [])], [(nat_lit 112, nat_lit 0, nat_lit 1, nat_lit 0, nat_lit 0, .ofNat (nat_lit 0), nat_lit 0, nat_lit 0, nat_lit 0, []), (nat_lit 113, nat_lit 40, nat_lit 3, nat_lit 5, nat_lit 0, .ofNat (nat_lit 0), nat_lit 0, nat_lit 339, nat_lit 62, []), (nat_lit 116, nat_lit 16, nat_lit 1, nat_lit 0, nat_lit 0, .ofNat (nat_lit 0), nat_lit 0, nat_lit 0, nat_lit 0, []), (nat_lit 117, nat_lit 0, nat_lit 1, nat_lit 0, nat_lit 0, .ofNat (nat_lit 0), nat_lit 0, nat_lit 0, nat_lit 0, []), (nat_lit 118, nat_lit 2, nat_lit 3, nat_lit 11, nat_lit 1, .ofNat (nat_lit 0), nat_lit 12, nat_lit 537, nat_lit 19, []), (nat_lit 121, nat_lit 0, nat_lit 1, nat_lit 0, nat_lit 0, .ofNat (nat_lit 0), nat_lit 0, nat_lit 0, nat_lit 0, []), (nat_lit 122, nat_lit 2, nat_lit 3, nat_lit 11, nat_lit 4, .ofNat (nat_lit 0), nat_lit 12, nat_lit 540, nat_lit 38, []), (nat_lit 125, nat_lit 33, nat_lit 3, nat_lit 86, nat_lit 52, .ofNat (nat_lit 0), nat_lit 2, nat_lit 341, nat_lit 64, [])], [(nat_lit 128, nat_lit 15, nat_lit 3, nat_lit 11, nat_lit 9, .ofNat (nat_lit 0), nat_lit 12, nat_lit 545, nat_lit 65, []), (nat_lit 131, nat_lit 0, nat_lit 1, nat_lit 0, nat_lit 0, .ofNat (nat_lit 0), nat_lit 0, nat_lit 0, nat_lit 0, []), (nat_lit 132, nat_lit 40, nat_lit 3, nat_lit 8, nat_lit 0, .ofNat (nat_lit 0), nat_lit 0, nat_lit 378, nat_lit 69, []), (nat_lit 135, nat_lit 16, nat_lit 1, nat_lit 0, nat_lit 0, .ofNat (nat_lit 0), nat_lit 0, nat_lit 0, nat_lit 0, []), (nat_lit 136, nat_lit 0, nat_lit 1, nat_lit 0, nat_lit 0, .ofNat (nat_lit 0), nat_lit 0, nat_lit 0, nat_lit 0, []), (nat_lit 137, nat_lit 2, nat_lit 3, nat_lit 11, nat_lit 1, .ofNat (nat_lit 0), nat_lit 12, nat_lit 537, nat_lit 19, []), (nat_lit 140, nat_lit 0, nat_lit 1, nat_lit 0, nat_lit 0, .ofNat (nat_lit 0), nat_lit 0, nat_lit 0, nat_lit 0, []), (nat_lit 141, nat_lit 2, nat_lit 3, nat_lit 11, nat_lit 4, .ofNat (nat_lit 0), nat_lit 12, nat_lit 540, nat_lit 38, [])], [(nat_lit 144, nat_lit 0, nat_lit 1, nat_lit 0, nat_lit 0, .ofNat (nat_lit 0), nat_lit 0, nat_lit 0, nat_lit 0, []), (nat_lit 145, nat_lit 2, nat_lit 3, nat_lit 11, nat_lit 9, .ofNat (nat_lit 0), nat_lit 12, nat_lit 545, nat_lit 65, []), (nat_lit 148, nat_lit 33, nat_lit 3, nat_lit 94, nat_lit 82, .ofNat (nat_lit 0), nat_lit 3, nat_lit 380, nat_lit 71, []), (nat_lit 151, nat_lit 15, nat_lit 3, nat_lit 11, nat_lit 10, .ofNat (nat_lit 0), nat_lit 12, nat_lit 546, nat_lit 74, []), (nat_lit 154, nat_lit 0, nat_lit 1, nat_lit 0, nat_lit 0, .ofNat (nat_lit 0), nat_lit 0, nat_lit 0, nat_lit 0, []), (nat_lit 155, nat_lit 40, nat_lit 3, nat_lit 4, nat_lit 0, .ofNat (nat_lit 0), nat_lit 0, nat_lit 405, nat_lit 78, []), (nat_lit 158, nat_lit 16, nat_lit 1, nat_lit 0, nat_lit 0, .ofNat (nat_lit 0), nat_lit 0, nat_lit 0, nat_lit 0, []), (nat_lit 159, nat_lit 33, nat_lit 3, nat_lit 84, nat_lit 43, .ofNat (nat_lit 0), nat_lit 0, nat_lit 407, nat_lit 80, [])], [(nat_lit 162, nat_lit 15, nat_lit 3, nat_lit 11, nat_lit 11, .ofNat (nat_lit 0), nat_lit 12, nat_lit 547, nat_lit 81, []), (nat_lit 165, nat_lit 0, nat_lit 1, nat_lit 0, nat_lit 0, .ofNat (nat_lit 0), nat_lit 0, nat_lit 0, nat_lit 0, []), (nat_lit 166, nat_lit 40, nat_lit 3, nat_lit 3, nat_lit 0, .ofNat (nat_lit 0), nat_lit 0, nat_lit 435, nat_lit 85, []), (nat_lit 169, nat_lit 16, nat_lit 1, nat_lit 0, nat_lit 0, .ofNat (nat_lit 0), nat_lit 0, nat_lit 0, nat_lit 0, []), (nat_lit 170, nat_lit 0, nat_lit 1, nat_lit 0, nat_lit 0, .ofNat (nat_lit 0), nat_lit 0, nat_lit 0, nat_lit 0, []), (nat_lit 171, nat_lit 2, nat_lit 3, nat_lit 11, nat_lit 1, .ofNat (nat_lit 0), nat_lit 12, nat_lit 537, nat_lit 19, []), (nat_lit 174, nat_lit 0, nat_lit 1, nat_lit 0, nat_lit 0, .ofNat (nat_lit 0), nat_lit 0, nat_lit 0, nat_lit 0, []), (nat_lit 175, nat_lit 2, nat_lit 3, nat_lit 11, nat_lit 9, .ofNat (nat_lit 0), nat_lit 12, nat_lit 545, nat_lit 65, [])], [(nat_lit 178, nat_lit 0, nat_lit 1, nat_lit 0, nat_lit 0, .ofNat (nat_lit 0), nat_lit 0, nat_lit 0, nat_lit 0, []), (nat_lit 179, nat_lit 2, nat_lit 3, nat_lit 11, nat_lit 11, .ofNat (nat_lit 0), nat_lit 12, nat_lit 547, nat_lit 81, []), (nat_lit 182, nat_lit 33, nat_lit 3, nat_lit 80, nat_lit 32, .ofNat (nat_lit 0), nat_lit 3, nat_lit 437, nat_lit 87, []), (nat_lit 185, nat_lit 15, nat_lit 3, nat_lit 11, nat_lit 12, .ofNat (nat_lit 0), nat_lit 12, nat_lit 548, nat_lit 90, []), (nat_lit 188, nat_lit 0, nat_lit 1, nat_lit 0, nat_lit 0, .ofNat (nat_lit 0), nat_lit 0, nat_lit 0, nat_lit 0, []), (nat_lit 189, nat_lit 40, nat_lit 3, nat_lit 1, nat_lit 0, .ofNat (nat_lit 0), nat_lit 0, nat_lit 466, nat_lit 94, [])], [(nat_lit 192, nat_lit 16, nat_lit 1, nat_lit 0, nat_lit 0, .ofNat (nat_lit 0), nat_lit 0, nat_lit 0, nat_lit 0, []), (nat_lit 193, nat_lit 0, nat_lit 1, nat_lit 0, nat_lit 0, .ofNat (nat_lit 0), nat_lit 0, nat_lit 0, nat_lit 0, []), (nat_lit 194, nat_lit 2, nat_lit 3, nat_lit 11, nat_lit 1, .ofNat (nat_lit 0), nat_lit 12, nat_lit 537, nat_lit 19, []), (nat_lit 197, nat_lit 0, nat_lit 1, nat_lit 0, nat_lit 0, .ofNat (nat_lit 0), nat_lit 0, nat_lit 0, nat_lit 0, []), (nat_lit 198, nat_lit 2, nat_lit 3, nat_lit 11, nat_lit 9, .ofNat (nat_lit 0), nat_lit 12, nat_lit 545, nat_lit 65, []), (nat_lit 201, nat_lit 0, nat_lit 1, nat_lit 0, nat_lit 0, .ofNat (nat_lit 0), nat_lit 0, nat_lit 0, nat_lit 0, []), (nat_lit 202, nat_lit 2, nat_lit 3, nat_lit 11, nat_lit 12, .ofNat (nat_lit 0), nat_lit 12, nat_lit 548, nat_lit 90, []), (nat_lit 205, nat_lit 33, nat_lit 3, nat_lit 72, nat_lit 12, .ofNat (nat_lit 0), nat_lit 3, nat_lit 468, nat_lit 96, [])], [(nat_lit 208, nat_lit 15, nat_lit 3, nat_lit 11, nat_lit 13, .ofNat (nat_lit 0), nat_lit 12, nat_lit 549, nat_lit 99, []), (nat_lit 211, nat_lit 0, nat_lit 1, nat_lit 0, nat_lit 0, .ofNat (nat_lit 0), nat_lit 0, nat_lit 0, nat_lit 0, []), (nat_lit 212, nat_lit 40, nat_lit 3, nat_lit 10, nat_lit 0, .ofNat (nat_lit 0), nat_lit 0, nat_lit 497, nat_lit 103, []), (nat_lit 215, nat_lit 16, nat_lit 1, nat_lit 0, nat_lit 0, .ofNat (nat_lit 0), nat_lit 0, nat_lit 0, nat_lit 0, []), (nat_lit 216, nat_lit 0, nat_lit 1, nat_lit 0, nat_lit 0, .ofNat (nat_lit 0), nat_lit 0, nat_lit 0, nat_lit 0, []), (nat_lit 217, nat_lit 2, nat_lit 3, nat_lit 11, nat_lit 1, .ofNat (nat_lit 0), nat_lit 12, nat_lit 537, nat_lit 19, []), (nat_lit 220, nat_lit 0, nat_lit 1, nat_lit 0, nat_lit 0, .ofNat (nat_lit 0), nat_lit 0, nat_lit 0, nat_lit 0, []), (nat_lit 221, nat_lit 2, nat_lit 3, nat_lit 11, nat_lit 9, .ofNat (nat_lit 0), nat_lit 12, nat_lit 545, nat_lit 65, [])], [(nat_lit 224, nat_lit 0, nat_lit 1, nat_lit 0, nat_lit 0, .ofNat (nat_lit 0), nat_lit 0, nat_lit 0, nat_lit 0, []), (nat_lit 225, nat_lit 2, nat_lit 3, nat_lit 11, nat_lit 12, .ofNat (nat_lit 0), nat_lit 12, nat_lit 548, nat_lit 90, []), (nat_lit 228, nat_lit 33, nat_lit 3, nat_lit 101, nat_lit 102, .ofNat (nat_lit 0), nat_lit 3, nat_lit 499, nat_lit 105, []), (nat_lit 231, nat_lit 15, nat_lit 3, nat_lit 11, nat_lit 14, .ofNat (nat_lit 0), nat_lit 12, nat_lit 550, nat_lit 106, []), (nat_lit 234, nat_lit 3, nat_lit 1, nat_lit 0, nat_lit 0, .ofNat (nat_lit 0), nat_lit 0, nat_lit 0, nat_lit 0, []), (nat_lit 235, nat_lit 11, nat_lit 1, nat_lit 1, nat_lit 0, .ofNat (nat_lit 0), nat_lit 0, nat_lit 0, nat_lit 0, []), (nat_lit 236, nat_lit 1, nat_lit 1, nat_lit 1, nat_lit 0, .ofNat (nat_lit 0), nat_lit 0, nat_lit 0, nat_lit 0, []), (nat_lit 237, nat_lit 3, nat_lit 1, nat_lit 0, nat_lit 0, .ofNat (nat_lit 3), nat_lit 0, nat_lit 0, nat_lit 0, []), (nat_lit 238, nat_lit 4, nat_lit 3, nat_lit 0, nat_lit 3, .ofNat (nat_lit 22), nat_lit 0, nat_lit 0, nat_lit 0, [])], [(nat_lit 241, nat_lit 0, nat_lit 1, nat_lit 0, nat_lit 0, .ofNat (nat_lit 0), nat_lit 0, nat_lit 0, nat_lit 0, []), (nat_lit 242, nat_lit 2, nat_lit 3, nat_lit 11, nat_lit 7, .ofNat (nat_lit 0), nat_lit 12, nat_lit 543, nat_lit 54, []), (nat_lit 245, nat_lit 1, nat_lit 1, nat_lit 1, nat_lit 0, .ofNat (nat_lit 0), nat_lit 0, nat_lit 0, nat_lit 0, []), (nat_lit 246, nat_lit 40, nat_lit 3, nat_lit 2, nat_lit 0, .ofNat (nat_lit 0), nat_lit 0, nat_lit 276, nat_lit 35, []), (nat_lit 249, nat_lit 16, nat_lit 1, nat_lit 0, nat_lit 0, .ofNat (nat_lit 0), nat_lit 0, nat_lit 0, nat_lit 0, []), (nat_lit 250, nat_lit 33, nat_lit 3, nat_lit 73, nat_lit 23, .ofNat (nat_lit 0), nat_lit 0, nat_lit 278, nat_lit 37, []), (nat_lit 253, nat_lit 43, nat_lit 1, nat_lit 0, nat_lit 0, .ofNat (nat_lit 0), nat_lit 0, nat_lit 0, nat_lit 0, []), (nat_lit 254, nat_lit 7, nat_lit 3, nat_lit 1, nat_lit 0, .ofNat (nat_lit 1), nat_lit 0, nat_lit 0, nat_lit 0, [])], [(nat_lit 257, nat_lit 5, nat_lit 3, nat_lit 0, nat_lit 0, .negSucc (nat_lit 20), nat_lit 0, nat_lit 0, nat_lit 0, []), (nat_lit 260, nat_lit 0, nat_lit 1, nat_lit 0, nat_lit 0, .ofNat (nat_lit 0), nat_lit 0, nat_lit 0, nat_lit 0, []), (nat_lit 261, nat_lit 2, nat_lit 3, nat_lit 11, nat_lit 4, .ofNat (nat_lit 0), nat_lit 12, nat_lit 540, nat_lit 38, []), (nat_lit 264, nat_lit 0, nat_lit 1, nat_lit 0, nat_lit 0, .ofNat (nat_lit 0), nat_lit 0, nat_lit 0, nat_lit 0, []), (nat_lit 265, nat_lit 2, nat_lit 3, nat_lit 11, nat_lit 1, .ofNat (nat_lit 0), nat_lit 12, nat_lit 537, nat_lit 19, []), (nat_lit 268, nat_lit 8, nat_lit 3, nat_lit 78, nat_lit 20, .ofNat (nat_lit 0), nat_lit 1, nat_lit 526, nat_lit 110, []), (nat_lit 271, nat_lit 26, nat_lit 1, nat_lit 0, nat_lit 0, .ofNat (nat_lit 0), nat_lit 0, nat_lit 0, nat_lit 0, [])]]
def rx_c2 : List (List rx_E) := [[(nat_lit 0, nat_lit 1, nat_lit 1, nat_lit 1, nat_lit 0, .ofNat (nat_lit 0), nat_lit 0, nat_lit 0, nat_lit 0, []), (nat_lit 1, nat_lit 38, nat_lit 63, nat_lit 0, nat_lit 0, .ofNat (nat_lit 159), nat_lit 11, nat_lit 0, nat_lit 0, [.ofNat (nat_lit 63), .ofNat (nat_lit 71), .ofNat (nat_lit 79), .ofNat (nat_lit 87), .ofNat (nat_lit 95), .ofNat (nat_lit 103), .ofNat (nat_lit 111), .ofNat (nat_lit 119), .ofNat (nat_lit 127), .ofNat (nat_lit 135), .ofNat (nat_lit 143), .ofNat (nat_lit 151)])], [], [], [], [(nat_lit 64, nat_lit 0, nat_lit 1, nat_lit 0, nat_lit 0, .ofNat (nat_lit 0), nat_lit 0, nat_lit 0, nat_lit 0, []), (nat_lit 65, nat_lit 2, nat_lit 3, nat_lit 11, nat_lit 1, .ofNat (nat_lit 0), nat_lit 12, nat_lit 537, nat_lit 19, []), (nat_lit 68, nat_lit 2, nat_lit 3, nat_lit 7, nat_lit 2, .ofNat (nat_lit 0), nat_lit 0, nat_lit 187, nat_lit 139, []), (nat_lit 71, nat_lit 6, nat_lit 1, nat_lit 0, nat_lit 0, .ofNat (nat_lit 0), nat_lit 0, nat_lit 0, nat_lit 0, []), (nat_lit 72, nat_lit 0, nat_lit 1, nat_lit 0, nat_lit 0, .ofNat (nat_lit 0), nat_lit 0, nat_lit 0, nat_lit 0, []), (nat_lit 73, nat_lit 2, nat_lit 3, nat_lit 11, nat_lit 1, .ofNat (nat_lit 0), nat_lit 12, nat_lit 537, nat_lit 19, []), (nat_lit 76, nat_lit 2, nat_lit 3, nat_lit 7, nat_lit 1, .ofNat (nat_lit 0), nat_lit 0, nat_lit 182, nat_lit 274, []), (nat_lit 79, nat_lit 6, nat_lit 1, nat_lit 0, nat_lit 0, .ofNat (nat_lit 0), nat_lit 0, nat_lit 0, nat_lit 0, [])], [(nat_lit 80, nat_lit 0, nat_lit 1, nat_lit 0, nat_lit 0, .ofNat (nat_lit 0), nat_lit 0, nat_lit 0, nat_lit 0, []), (nat_lit 81, nat_lit 2, nat_lit 3, nat_lit 11, nat_lit 1, .ofNat (nat_lit 0), nat_lit 12, nat_lit 537, nat_lit 19, []), (nat_lit 84, nat_lit 2, nat_lit 3, nat_lit 7, nat_lit 0, .ofNat (nat_lit 0), nat_lit 0, nat_lit 179, nat_lit 231, []), (nat_lit 87, nat_lit 6, nat_lit 1, nat_lit 0, nat_lit 0, .ofNat (nat_lit 0), nat_lit 0, nat_lit 0, nat_lit 0, []), (nat_lit 88, nat_lit 0, nat_lit 1, nat_lit 0, nat_lit 0, .ofNat (nat_lit 0), nat_lit 0, nat_lit 0, nat_lit 0, []), (nat_lit 89, nat_lit 2, nat_lit 3, nat_lit 11, nat_lit 4, .ofNat (nat_lit 0), nat_lit 12, nat_lit 540, nat_lit 38, []), (nat_lit 92, nat_lit 2, nat_lit 3, nat_lit 2, nat_lit 3, .ofNat (nat_lit 0), nat_lit 0, nat_lit 299, nat_lit 189, []), (nat_lit 95, nat_lit 6, nat_lit 1, nat_lit 0, nat_lit 0, .ofNat (nat_lit 0), nat_lit 0, nat_lit 0, nat_lit 0, [])], [(nat_lit 96, nat_lit 0, nat_lit 1, nat_lit 0, nat_lit 0, .ofNat (nat_lit 0), nat_lit 0, nat_lit 0, nat_lit 0, []), (nat_lit 97, nat_lit 2, nat_lit 3, nat_lit 11, nat_lit 4, .ofNat (nat_lit 0), nat_lit 12, nat_lit 540, nat_lit 38, []), (nat_lit 100, nat_lit 2, nat_lit 3, nat_lit 2, nat_lit 4, .ofNat (nat_lit 0), nat_lit 0, nat_lit 302, nat_lit 341, []), (nat_lit 103, nat_lit 6, nat_lit 1, nat_lit 0, nat_lit 0, .ofNat (nat_lit 0), nat_lit 0, nat_lit 0, nat_lit 0, []), (nat_lit 104, nat_lit 0, nat_lit 1, nat_lit 0, nat_lit 0, .ofNat (nat_lit 0), nat_lit 0, nat_lit 0, nat_lit 0, []), (nat_lit 105, nat_lit 2, nat_lit 3, nat_lit 11, nat_lit 6, .ofNat (nat_lit 0), nat_lit 12, nat_lit 542, nat_lit 50, []), (nat_lit 108, nat_lit 2, nat_lit 3, nat_lit 0, nat_lit 3, .ofNat (nat_lit 0), nat_lit 0, nat_lit 324, nat_lit 344, []), (nat_lit 111, nat_lit 6, nat_lit 1, nat_lit 0, nat_lit 0, .ofNat (nat_lit 0), nat_lit 0, nat_lit 0, nat_lit 0, [])], [(nat_lit 112, nat_lit 0, nat_lit 1, nat_lit 0, nat_lit 0, .ofNat (nat_lit 0), nat_lit 0, nat_lit 0, nat_lit 0, []), (nat_lit 113, nat_lit 2, nat_lit 3, nat_lit 11, nat_lit 6, .ofNat (nat_lit 0), nat_lit 12, nat_lit 542, nat_lit 50, []), (nat_lit 116, nat_lit 2, nat_lit 3, nat_lit 0, nat_lit 4, .ofNat (nat_lit 0), nat_lit 0, nat_lit 326, nat_lit 347, []), (nat_lit 119, nat_lit 6, nat_lit 1, nat_lit 0, nat_lit 0, .ofNat (nat_lit 0), nat_lit 0, nat_lit 0, nat_lit 0, []), (nat_lit 120, nat_lit 0, nat_lit 1, nat_lit 0, nat_lit 0, .ofNat (nat_lit 0), nat_lit 0, nat_lit 0, nat_lit 0, []), (nat_lit 121, nat_lit 2, nat_lit 3, nat_lit 11, nat_lit 11, .ofNat (nat_lit 0), nat_lit 12, nat_lit 547, nat_lit 81, []), (nat_lit 124, nat_lit 2, nat_lit 3, nat_lit 4, nat_lit 4, .ofNat (nat_lit 0), nat_lit 0, nat_lit 419, nat_lit 133, []), (nat_lit 127, nat_lit 6, nat_lit 1, nat_lit 0, nat_lit 0, .ofNat (nat_lit 0), nat_lit 0, nat_lit 0, nat_lit 0, [])], [(nat_lit 128, nat_lit 0, nat_lit 1, nat_lit 0, nat_lit 0, .ofNat (nat_lit 0), nat_lit 0, nat_lit 0, nat_lit 0, []), (nat_lit 129, nat_lit 2, nat_lit 3, nat_lit 11, nat_lit 11, .ofNat (nat_lit 0), nat_lit 12, nat_lit 547, nat_lit 81, []), (nat_lit 132, nat_lit 2, nat_lit 3, nat_lit 4, nat_lit 5, .ofNat (nat_lit 0), nat_lit 0, nat_lit 421, nat_lit 285, []), (nat_lit 135, nat_lit 6, nat_lit 1, nat_lit 0, nat_lit 0, .ofNat (nat_lit 0), nat_lit 0, nat_lit 0, nat_lit 0, []), (nat_lit 136, nat_lit 0, nat_lit 1, nat_lit 0, nat_lit 0, .ofNat (nat_lit 0), nat_lit 0, nat_lit 0, nat_lit 0, []), (nat_lit 137, nat_lit 2, nat_lit 3, nat_lit 11, nat_lit 0, .ofNat (nat_lit 0), nat_lit 12, nat_lit 536, nat_lit 10, []), (nat_lit 140, nat_lit 2, nat_lit 3, nat_lit 9, nat_lit 1, .ofNat (nat_lit 0), nat_lit 0, nat_lit 144, nat_lit 114, []), (nat_lit 143, nat_lit 6, nat_lit 1, nat_lit 0, nat_lit 0, .ofNat (nat_lit 0), nat_lit 0, nat_lit 0, nat_lit 0, [])], [(nat_lit 144, nat_lit 0, nat_lit 1, nat_lit 0, nat_lit 0, .ofNat (nat_lit 0), nat_lit 0, nat_lit 0, nat_lit 0, []), (nat_lit 145, nat_lit 2, nat_lit 3, nat_lit 11, nat_lit 1, .ofNat (nat_lit 0), nat_lit 12, nat_lit 537, nat_lit 19, []), (nat_lit 148, nat_lit 2, nat_lit 3, nat_lit 7, nat_lit 3, .ofNat (nat_lit 0), nat_lit 0, nat_lit 192, nat_lit 350, []), (nat_lit 151, nat_lit 6, nat_lit 1, nat_lit 0, nat_lit 0, .ofNat (nat_lit 0), nat_lit 0, nat_lit 0, nat_lit 0, []), (nat_lit 152, nat_lit 0, nat_lit 1, nat_lit 0, nat_lit 0, .ofNat (nat_lit 0), nat_lit 0, nat_lit 0, nat_lit 0, []), (nat_lit 153, nat_lit 2, nat_lit 3, nat_lit 11, nat_lit 10, .ofNat (nat_lit 0), nat_lit 12, nat_lit 546, nat_lit 74, []), (nat_lit 156, nat_lit 2, nat_lit 3, nat_lit 8, nat_lit 5, .ofNat (nat_lit 0), nat_lit 0, nat_lit 391, nat_lit 277, []), (nat_lit 159, nat_lit 6, nat_lit 1, nat_lit 0, nat_lit 0, .ofNat (nat_lit 0), nat_lit 0, nat_lit 0, nat_lit 0, [])], [(nat_lit 160, nat_lit 3, nat_lit 1, nat_lit 0, nat_lit 0, .negSucc (nat_lit 0), nat_lit 0, nat_lit 0, nat_lit 0, []), (nat_lit 161, nat_lit 6, nat_lit 1, nat_lit 0, nat_lit 0, .ofNat (nat_lit 0), nat_lit 0, nat_lit 0, nat_lit 0, [])]]
def rx_c3 : List (List rx_E) := [[(nat_lit 0, nat_lit 0, nat_lit 1, nat_lit 0, nat_lit 0, .ofNat (nat_lit 0), nat_lit 0, nat_lit 0, nat_lit 0, []), (nat_lit 1, nat_lit 2, nat_lit 3, nat_lit 11, nat_lit 10, .ofNat (nat_lit 0), nat_lit 12, nat_lit 546, nat_lit 74, []), (nat_lit 4, nat_lit 8, nat_lit 3, nat_lit 95, nat_lit 80, .ofNat (nat_lit 0), nat_lit 0, nat_lit 777, nat_lit 136, []), (nat_lit 7, nat_lit 3, nat_lit 1, nat_lit 0, nat_lit 0, .ofNat (nat_lit 0), nat_lit 0, nat_lit 0, nat_lit 0, []), (nat_lit 8, nat_lit 11, nat_lit 1, nat_lit 1, nat_lit 0, .ofNat (nat_lit 0), nat_lit 0, nat_lit 0, nat_lit 0, []), (nat_lit 9, nat_lit 3, nat_lit 1, nat_lit 0, nat_lit 0, .ofNat (nat_lit 0), nat_lit 0, nat_lit 0, nat_lit 0, []), (nat_lit 10, nat_lit 11, nat_lit 1, nat_lit 2, nat_lit 0, .ofNat (nat_lit 0), nat_lit 0, nat_lit 0, nat_lit 0, []), (nat_lit 11, nat_lit 1, nat_lit 1, nat_lit 2, nat_lit 0, .ofNat (nat_lit 0), nat_lit 0, nat_lit 0, nat_lit 0, []), (nat_lit 12, nat_lit 0, nat_lit 1, nat_lit 0, nat_lit 0, .ofNat (nat_lit 0), nat_lit 0, nat_lit 0, nat_lit 0, []), (nat_lit 13, nat_lit 2, nat_lit 3, nat_lit 11, nat_lit 1, .ofNat (nat_lit 0), nat_lit 12, nat_lit 537, nat_lit 19, [])], [(nat_lit 16, nat_lit 2, nat_lit 3, nat_lit 7, nat_lit 2, .ofNat (nat_lit 0), nat_lit 0, nat_lit 187, nat_lit 139, []), (nat_lit 19, nat_lit 4, nat_lit 3, nat_lit 0, nat_lit 3, .ofNat (nat_lit 80), nat_lit 0, nat_lit 0, nat_lit 0, [])], [], [], [], [], [(nat_lit 99, nat_lit 1, nat_lit 1, nat_lit 1, nat_lit 0, .ofNat (nat_lit 0), nat_lit 0, nat_lit 0, nat_lit 0, []), (nat_lit 100, nat_lit 6, nat_lit 1, nat_lit 0, nat_lit 0, .ofNat (nat_lit 0), nat_lit 0, nat_lit 0, nat_lit 0, [])]]
def rx_c4 : List (List rx_E) := [[(nat_lit 0, nat_lit 0, nat_lit 1, nat_lit 0, nat_lit 0, .ofNat (nat_lit 0), nat_lit 0, nat_lit 0, nat_lit 0, []), (nat_lit 1, nat_lit 1, nat_lit 1, nat_lit 1, nat_lit 0, .ofNat (nat_lit 0), nat_lit 0, nat_lit 0, nat_lit 0, []), (nat_lit 2, nat_lit 8, nat_lit 3, nat_lit 29, nat_lit 110, .ofNat (nat_lit 0), nat_lit 1, nat_lit 797, nat_lit 156, []), (nat_lit 5, nat_lit 14, nat_lit 3, nat_lit 0, nat_lit 0, .ofNat (nat_lit 11), nat_lit 0, nat_lit 0, nat_lit 0, [])], [(nat_lit 16, nat_lit 3, nat_lit 1, nat_lit 0, nat_lit 0, .negSucc (nat_lit 0), nat_lit 0, nat_lit 0, nat_lit 0, []), (nat_lit 17, nat_lit 6, nat_lit 1, nat_lit 0, nat_lit 0, .ofNat (nat_lit 0), nat_lit 0, nat_lit 0, nat_lit 0, [])]]
def rx_c5 : List (List rx_E) := [[(nat_lit 0, nat_lit 0, nat_lit 1, nat_lit 0, nat_lit 0, .ofNat (nat_lit 0), nat_lit 0, nat_lit 0, nat_lit 0, []), (nat_lit 1, nat_lit 2, nat_lit 3, nat_lit 11, nat_lit 12, .ofNat (nat_lit 0), nat_lit 12, nat_lit 548, nat_lit 90, []), (nat_lit 4, nat_lit 1, nat_lit 1, nat_lit 2, nat_lit 0, .ofNat (nat_lit 0), nat_lit 0, nat_lit 0, nat_lit 0, []), (nat_lit 5, nat_lit 8, nat_lit 3, nat_lit 81, nat_lit 30, .ofNat (nat_lit 0), nat_lit 1, nat_lit 1160, nat_lit 289, []), (nat_lit 8, nat_lit 0, nat_lit 1, nat_lit 0, nat_lit 0, .ofNat (nat_lit 0), nat_lit 0, nat_lit 0, nat_lit 0, []), (nat_lit 9, nat_lit 2, nat_lit 3, nat_lit 11, nat_lit 12, .ofNat (nat_lit 0), nat_lit 12, nat_lit 548, nat_lit 90, []), (nat_lit 12, nat_lit 2, nat_lit 3, nat_lit 3, nat_lit 5, .ofNat (nat_lit 0), nat_lit 0, nat_lit 452, nat_lit 292, []), (nat_lit 15, nat_lit 14, nat_lit 3, nat_lit 0, nat_lit 1, .ofNat (nat_lit 5), nat_lit 0, nat_lit 0, nat_lit 0, [])], [(nat_lit 20, nat_lit 3, nat_lit 1, nat_lit 0, nat_lit 0, .negSucc (nat_lit 0), nat_lit 0, nat_lit 0, nat_lit 0, []), (nat_lit 21, nat_lit 11, nat_lit 1, nat_lit 3, nat_lit 0, .ofNat (nat_lit 0), nat_lit 0, nat_lit 0, nat_lit 0, []), (nat_lit 22, nat_lit 20, nat_lit 3, nat_lit 0, nat_lit 0, .ofNat (nat_lit 257), nat_lit 0, nat_lit 0, nat_lit 0, []), (nat_lit 25, nat_lit 25, nat_lit 2, nat_lit 4, nat_lit 0, .ofNat (nat_lit 0), nat_lit 0, nat_lit 0, nat_lit 0, []), (nat_lit 27, nat_lit 3, nat_lit 1, nat_lit 0, nat_lit 0, .ofNat (nat_lit 0), nat_lit 0, nat_lit 0, nat_lit 0, []), (nat_lit 28, nat_lit 25, nat_lit 2, nat_lit 5, nat_lit 0, .ofNat (nat_lit 0), nat_lit 0, nat_lit 0, nat_lit 0, []), (nat_lit 30, nat_lit 22, nat_lit 2, nat_lit 5, nat_lit 0, .ofNat (nat_lit 0), nat_lit 0, nat_lit 0, nat_lit 0, [])], [(nat_lit 32, nat_lit 0, nat_lit 1, nat_lit 0, nat_lit 0, .ofNat (nat_lit 0), nat_lit 0, nat_lit 0, nat_lit 0, []), (nat_lit 33, nat_lit 2, nat_lit 3, nat_lit 11, nat_lit 1, .ofNat (nat_lit 0), nat_lit 12, nat_lit 537, nat_lit 19, []), (nat_lit 36, nat_lit 2, nat_lit 3, nat_lit 7, nat_lit 2, .ofNat (nat_lit 0), nat_lit 0, nat_lit 187, nat_lit 139, []), (nat_lit 39, nat_lit 4, nat_lit 3, nat_lit 0, nat_lit 3, .ofNat (nat_lit 34), nat_lit 0, nat_lit 0, nat_lit 0, [])], [], [(nat_lit 73, nat_lit 1, nat_lit 1, nat_lit 3, nat_lit 0, .ofNat (nat_lit 0), nat_lit 0, nat_lit 0, nat_lit 0, []), (nat_lit 74, nat_lit 3, nat_lit 1, nat_lit 0, nat_lit 0, .negSucc (nat_lit 0), nat_lit 0, nat_lit 0, nat_lit 0, []), (nat_lit 75, nat_lit 4, nat_lit 3, nat_lit 0, nat_lit 1, .ofNat (nat_lit 7), nat_lit 0, nat_lit 0, nat_lit 0, []), (nat_lit 78, nat_lit 3, nat_lit 1, nat_lit 0, nat_lit 0, .negSucc (nat_lit 0), nat_lit 0, nat_lit 0, nat_lit 0, []), (nat_lit 79, nat_lit 5, nat_lit 3, nat_lit 0, nat_lit 0, .ofNat (nat_lit 10), nat_lit 0, nat_lit 0, nat_lit 0, [])], [(nat_lit 89, nat_lit 6, nat_lit 1, nat_lit 0, nat_lit 0, .ofNat (nat_lit 0), nat_lit 0, nat_lit 0, nat_lit 0, [])]]
def rx_c6 : List (List rx_E) := [[(nat_lit 0, nat_lit 0, nat_lit 1, nat_lit 0, nat_lit 0, .ofNat (nat_lit 0), nat_lit 0, nat_lit 0, nat_lit 0, []), (nat_lit 1, nat_lit 1, nat_lit 1, nat_lit 1, nat_lit 0, .ofNat (nat_lit 0), nat_lit 0, nat_lit 0, nat_lit 0, []), (nat_lit 2, nat_lit 8, nat_lit 3, nat_lit 33, nat_lit 110, .ofNat (nat_lit 0), nat_lit 1, nat_lit 1119, nat_lit 267, []), (nat_lit 5, nat_lit 14, nat_lit 3, nat_lit 0, nat_lit 1, .ofNat (nat_lit 5), nat_lit 0, nat_lit 0, nat_lit 0, []), (nat_lit 8, nat_lit 3, nat_lit 1, nat_lit 0, nat_lit 0, .negSucc (nat_lit 0), nat_lit 0, nat_lit 0, nat_lit 0, []), (nat_lit 9, nat_lit 6, nat_lit 1, nat_lit 0, nat_lit 0, .ofNat (nat_lit 0), nat_lit 0, nat_lit 0, nat_lit 0, [])]]
def rx_c7 : List (List rx_E) := [[(nat_lit 0, nat_lit 1, nat_lit 1, nat_lit 1, nat_lit 0, .ofNat (nat_lit 0), nat_lit 0, nat_lit 0, nat_lit 0, []), (nat_lit 1, nat_lit 14, nat_lit 3, nat_lit 0, nat_lit 2, .ofNat (nat_lit 10), nat_lit 0, nat_lit 0, nat_lit 0, []), (nat_lit 4, nat_lit 1, nat_lit 1, nat_lit 1, nat_lit 0, .ofNat (nat_lit 0), nat_lit 0, nat_lit 0, nat_lit 0, []), (nat_lit 5, nat_lit 20, nat_lit 3, nat_lit 0, nat_lit 0, .ofNat (nat_lit 200), nat_lit 0, nat_lit 0, nat_lit 0, []), (nat_lit 8, nat_lit 4, nat_lit 3, nat_lit 0, nat_lit 5, .ofNat (nat_lit 5), nat_lit 0, nat_lit 0, nat_lit 0, []), (nat_lit 11, nat_lit 3, nat_lit 1, nat_lit 0, nat_lit 0, .negSucc (nat_lit 0), nat_lit 0, nat_lit 0, nat_lit 0, []), (nat_lit 12, nat_lit 6, nat_lit 1, nat_lit 0, nat_lit 0, .ofNat (nat_lit 0), nat_lit 0, nat_lit 0, nat_lit 0, []), (nat_lit 13, nat_lit 0, nat_lit 1, nat_lit 0, nat_lit 0, .ofNat (nat_lit 0), nat_lit 0, nat_lit 0, nat_lit 0, []), (nat_lit 14, nat_lit 2, nat_lit 3, nat_lit 11, nat_lit 5, .ofNat (nat_lit 0), nat_lit 12, nat_lit 541, nat_lit 42, [])], [(nat_lit 17, nat_lit 0, nat_lit 1, nat_lit 0, nat_lit 0, .ofNat (nat_lit 0), nat_lit 0, nat_lit 0, nat_lit 0, []), (nat_lit 18, nat_lit 2, nat_lit 3, nat_lit 11, nat_lit 4, .ofNat (nat_lit 0), nat_lit 12, nat_lit 540, nat_lit 38, []), (nat_lit 21, nat_lit 8, nat_lit 3, nat_lit 79, nat_lit 20, .ofNat (nat_lit 0), nat_lit 1, nat_lit 978, nat_lit 222, []), (nat_lit 24, nat_lit 3, nat_lit 1, nat_lit 0, nat_lit 0, .ofNat (nat_lit 0), nat_lit 0, nat_lit 0, nat_lit 0, []), (nat_lit 25, nat_lit 11, nat_lit 1, nat_lit 2, nat_lit 0, .ofNat (nat_lit 0), nat_lit 0, nat_lit 0, nat_lit 0, []), (nat_lit 26, nat_lit 1, nat_lit 1, nat_lit 2, nat_lit 0, .ofNat (nat_lit 0), nat_lit 0, nat_lit 0, nat_lit 0, []), (nat_lit 27, nat_lit 1, nat_lit 1, nat_lit 1, nat_lit 0, .ofNat (nat_lit 0), nat_lit 0, nat_lit 0, nat_lit 0, []), (nat_lit 28, nat_lit 4, nat_lit 3, nat_lit 0, nat_lit 3, .ofNat (nat_lit 23), nat_lit 0, nat_lit 0, nat_lit 0, []), (nat_lit 31, nat_lit 0, nat_lit 1, nat_lit 0, nat_lit 0, .ofNat (nat_lit 0), nat_lit 0, nat_lit 0, nat_lit 0, [])], [(nat_lit 32, nat_lit 2, nat_lit 3, nat_lit 11, nat_lit 5, .ofNat (nat_lit 0), nat_lit 12, nat_lit 541, nat_lit 42, []), (nat_lit 35, nat_lit 0, nat_lit 1, nat_lit 0, nat_lit 0, .ofNat (nat_lit 0), nat_lit 0, nat_lit 0, nat_lit 0, []), (nat_lit 36, nat_lit 2, nat_lit 3, nat_lit 11, nat_lit 1, .ofNat (nat_lit 0), nat_lit 12, nat_lit 537, nat_lit 19, []), (nat_lit 39, nat_lit 2, nat_lit 3, nat_lit 7, nat_lit 2, .ofNat (nat_lit 0), nat_lit 0, nat_lit 187, nat_lit 139, []), (nat_lit 42, nat_lit 8, nat_lit 3, nat_lit 77, nat_lit 20, .ofNat (nat_lit 0), nat_lit 1, nat_lit 982, nat_lit 225, []), (nat_lit 45, nat_lit 7, nat_lit 3, nat_lit 2, nat_lit 0, .ofNat (nat_lit 1), nat_lit 0, nat_lit 0, nat_lit 0, [])], [(nat_lit 48, nat_lit 5, nat_lit 3, nat_lit 0, nat_lit 0, .negSucc (nat_lit 21), nat_lit 0, nat_lit 0, nat_lit 0, []), (nat_lit 51, nat_lit 0, nat_lit 1, nat_lit 0, nat_lit 0, .ofNat (nat_lit 0), nat_lit 0, nat_lit 0, nat_lit 0, []), (nat_lit 52, nat_lit 2, nat_lit 3, nat_lit 11, nat_lit 5, .ofNat (nat_lit 0), nat_lit 12, nat_lit 541, nat_lit 42, []), (nat_lit 55, nat_lit 0, nat_lit 1, nat_lit 0, nat_lit 0, .ofNat (nat_lit 0), nat_lit 0, nat_lit 0, nat_lit 0, []), (nat_lit 56, nat_lit 2, nat_lit 3, nat_lit 11, nat_lit 1, .ofNat (nat_lit 0), nat_lit 12, nat_lit 537, nat_lit 19, []), (nat_lit 59, nat_lit 2, nat_lit 3, nat_lit 7, nat_lit 2, .ofNat (nat_lit 0), nat_lit 0, nat_lit 187, nat_lit 139, []), (nat_lit 62, nat_lit 8, nat_lit 3, nat_lit 74, nat_lit 20, .ofNat (nat_lit 0), nat_lit 1, nat_lit 983, nat_lit 228, [])], [(nat_lit 65, nat_lit 6, nat_lit 1, nat_lit 0, nat_lit 0, .ofNat (nat_lit 0), nat_lit 0, nat_lit 0, nat_lit 0, [])]]
def rx_c8 : List (List rx_E) := [[(nat_lit 0, nat_lit 0, nat_lit 1, nat_lit 0, nat_lit 0, .ofNat (nat_lit 0), nat_lit 0, nat_lit 0, nat_lit 0, []), (nat_lit 1, nat_lit 1, nat_lit 1, nat_lit 1, nat_lit 0, .ofNat (nat_lit 0), nat_lit 0, nat_lit 0, nat_lit 0, []), (nat_lit 2, nat_lit 8, nat_lit 3, nat_lit 29, nat_lit 110, .ofNat (nat_lit 0), nat_lit 1, nat_lit 797, nat_lit 156, []), (nat_lit 5, nat_lit 14, nat_lit 3, nat_lit 0, nat_lit 1, .ofNat (nat_lit 5), nat_lit 0, nat_lit 0, nat_lit 0, []), (nat_lit 8, nat_lit 3, nat_lit 1, nat_lit 0, nat_lit 0, .negSucc (nat_lit 0), nat_lit 0, nat_lit 0, nat_lit 0, []), (nat_lit 9, nat_lit 6, nat_lit 1, nat_lit 0, nat_lit 0, .ofNat (nat_lit 0), nat_lit 0, nat_lit 0, nat_lit 0, [])]]
def rx_c9 : List (List rx_E) := [[(nat_lit 0, nat_lit 0, nat_lit 1, nat_lit 0, nat_lit 0, .ofNat (nat_lit 0), nat_lit 0, nat_lit 0, nat_lit 0, []), (nat_lit 1, nat_lit 1, nat_lit 1, nat_lit 1, nat_lit 0, .ofNat (nat_lit 0), nat_lit 0, nat_lit 0, nat_lit 0, []), (nat_lit 2, nat_lit 8, nat_lit 3, nat_lit 33, nat_lit 110, .ofNat (nat_lit 0), nat_lit 1, nat_lit 1119, nat_lit 267, []), (nat_lit 5, nat_lit 14, nat_lit 3, nat_lit 0, nat_lit 1, .ofNat (nat_lit 5), nat_lit 0, nat_lit 0, nat_lit 0, []), (nat_lit 8, nat_lit 3, nat_lit 1, nat_lit 0, nat_lit 0, .negSucc (nat_lit 0), nat_lit 0, nat_lit 0, nat_lit 0, []), (nat_lit 9, nat_lit 6, nat_lit 1, nat_lit 0, nat_lit 0, .ofNat (nat_lit 0), nat_lit 0, nat_lit 0, nat_lit 0, [])]]
def rx_c10 : List (List rx_E) := [[(nat_lit 0, nat_lit 1, nat_lit 1, nat_lit 0, nat_lit 0, .ofNat (nat_lit 0), nat_lit 0, nat_lit 0, nat_lit 0, []), (nat_lit 1, nat_lit 11, nat_lit 1, nat_lit 2, nat_lit 0, .ofNat (nat_lit 0), nat_lit 0, nat_lit 0, nat_lit 0, []), (nat_lit 2, nat_lit 1, nat_lit 1, nat_lit 1, nat_lit 0, .ofNat (nat_lit 0), nat_lit 0, nat_lit 0, nat_lit 0, []), (nat_lit 3, nat_lit 11, nat_lit 1, nat_lit 3, nat_lit 0, .ofNat (nat_lit 0), nat_lit 0, nat_lit 0, nat_lit 0, []), (nat_lit 4, nat_lit 3, nat_lit 1, nat_lit 0, nat_lit 0, .ofNat (nat_lit 0), nat_lit 0, nat_lit 0, nat_lit 0, []), (nat_lit 5, nat_lit 25, nat_lit 2, nat_lit 4, nat_lit 0, .ofNat (nat_lit 0), nat_lit 0, nat_lit 0, nat_lit 0, []), (nat_lit 7, nat_lit 22, nat_lit 2, nat_lit 4, nat_lit 0, .ofNat (nat_lit 0), nat_lit 0, nat_lit 0, nat_lit 0, []), (nat_lit 9, nat_lit 21, nat_lit 2, nat_lit 0, nat_lit 0, .ofNat (nat_lit 64), nat_lit 0, nat_lit 0, nat_lit 0, []), (nat_lit 11, nat_lit 4, nat_lit 3, nat_lit 0, nat_lit 3, .ofNat (nat_lit 23), nat_lit 0, nat_lit 0, nat_lit 0, []), (nat_lit 14, nat_lit 1, nat_lit 1, nat_lit 3, nat_lit 0, .ofNat (nat_lit 0), nat_lit 0, nat_lit 0, nat_lit 0, []), (nat_lit 15, nat_lit 14, nat_lit 3, nat_lit 0, nat_lit 0, .ofNat (nat_lit 19), nat_lit 0, nat_lit 0, nat_lit 0, [])], [(nat_lit 18, nat_lit 1, nat_lit 1, nat_lit 2, nat_lit 0, .ofNat (nat_lit 0), nat_lit 0, nat_lit 0, nat_lit 0, []), (nat_lit 19, nat_lit 1, nat_lit 1, nat_lit 3, nat_lit 0, .ofNat (nat_lit 0), nat_lit 0, nat_lit 0, nat_lit 0, []), (nat_lit 20, nat_lit 31, nat_lit 1, nat_lit 0, nat_lit 0, .ofNat (nat_lit 0), nat_lit 0, nat_lit 0, nat_lit 0, []), (nat_lit 21, nat_lit 25, nat_lit 2, nat_lit 5, nat_lit 0, .ofNat (nat_lit 0), nat_lit 0, nat_lit 0, nat_lit 0, []), (nat_lit 23, nat_lit 1, nat_lit 1, nat_lit 3, nat_lit 0, .ofNat (nat_lit 0), nat_lit 0, nat_lit 0, nat_lit 0, []), (nat_lit 24, nat_lit 11, nat_lit 1, nat_lit 2, nat_lit 0, .ofNat (nat_lit 0), nat_lit 0, nat_lit 0, nat_lit 0, []), (nat_lit 25, nat_lit 22, nat_lit 2, nat_lit 5, nat_lit 0, .ofNat (nat_lit 0), nat_lit 0, nat_lit 0, nat_lit 0, []), (nat_lit 27, nat_lit 11, nat_lit 1, nat_lit 3, nat_lit 0, .ofNat (nat_lit 0), nat_lit 0, nat_lit 0, nat_lit 0, []), (nat_lit 28, nat_lit 7, nat_lit 3, nat_lit 4, nat_lit 0, .ofNat (nat_lit 1), nat_lit 0, nat_lit 0, nat_lit 0, []), (nat_lit 31, nat_lit 5, nat_lit 3, nat_lit 0, nat_lit 0, .negSucc (nat_lit 23), nat_lit 0, nat_lit 0, nat_lit 0, [])], [(nat_lit 34, nat_lit 1, nat_lit 1, nat_lit 2, nat_lit 0, .ofNat (nat_lit 0), nat_lit 0, nat_lit 0, nat_lit 0, []), (nat_lit 35, nat_lit 6, nat_lit 1, nat_lit 0, nat_lit 0, .ofNat (nat_lit 0), nat_lit 0, nat_lit 0, nat_lit 0, [])]]
def rx_c11 : List (List rx_E) := [[(nat_lit 0, nat_lit 1, nat_lit 1, nat_lit 1, nat_lit 0, .ofNat (nat_lit 0), nat_lit 0, nat_lit 0, nat_lit 0, []), (nat_lit 1, nat_lit 14, nat_lit 3, nat_lit 0, nat_lit 0, .ofNat (nat_lit 10), nat_lit 0, nat_lit 0, nat_lit 0, []), (nat_lit 4, nat_lit 1, nat_lit 1, nat_lit 1, nat_lit 0, .ofNat (nat_lit 0), nat_lit 0, nat_lit 0, nat_lit 0, []), (nat_lit 5, nat_lit 3, nat_lit 1, nat_lit 0, nat_lit 0, .ofNat (nat_lit 1), nat_lit 0, nat_lit 0, nat_lit 0, []), (nat_lit 6, nat_lit 4, nat_lit 3, nat_lit 0, nat_lit 0, .ofNat (nat_lit 5), nat_lit 0, nat_lit 0, nat_lit 0, []), (nat_lit 9, nat_lit 3, nat_lit 1, nat_lit 0, nat_lit 0, .negSucc (nat_lit 0), nat_lit 0, nat_lit 0, nat_lit 0, []), (nat_lit 10, nat_lit 6, nat_lit 1, nat_lit 0, nat_lit 0, .ofNat (nat_lit 0), nat_lit 0, nat_lit 0, nat_lit 0, []), (nat_lit 11, nat_lit 0, nat_lit 1, nat_lit 0, nat_lit 0, .ofNat (nat_lit 0), nat_lit 0, nat_lit 0, nat_lit 0, []), (nat_lit 12, nat_lit 2, nat_lit 3, nat_lit 11, nat_lit 12, .ofNat (nat_lit 0), nat_lit 12, nat_lit 548, nat_lit 90, []), (nat_lit 15, nat_lit 1, nat_lit 1, nat_lit 2, nat_lit 0, .ofNat (nat_lit 0), nat_lit 0, nat_lit 0, nat_lit 0, [])], [(nat_lit 16, nat_lit 8, nat_lit 3, nat_lit 81, nat_lit 30, .ofNat (nat_lit 0), nat_lit 1, nat_lit 1160, nat_lit 289, []), (nat_lit 19, nat_lit 0, nat_lit 1, nat_lit 0, nat_lit 0, .ofNat (nat_lit 0), nat_lit 0, nat_lit 0, nat_lit 0, []), (nat_lit 20, nat_lit 2, nat_lit 3, nat_lit 11, nat_lit 12, .ofNat (nat_lit 0), nat_lit 12, nat_lit 548, nat_lit 90, []), (nat_lit 23, nat_lit 2, nat_lit 3, nat_lit 3, nat_lit 5, .ofNat (nat_lit 0), nat_lit 0, nat_lit 452, nat_lit 292, []), (nat_lit 26, nat_lit 14, nat_lit 3, nat_lit 0, nat_lit 1, .ofNat (nat_lit 5), nat_lit 0, nat_lit 0, nat_lit 0, []), (nat_lit 31, nat_lit 0, nat_lit 1, nat_lit 0, nat_lit 0, .ofNat (nat_lit 0), nat_lit 0, nat_lit 0, nat_lit 0, [])], [(nat_lit 32, nat_lit 2, nat_lit 3, nat_lit 11, nat_lit 12, .ofNat (nat_lit 0), nat_lit 12, nat_lit 548, nat_lit 90, []), (nat_lit 35, nat_lit 2, nat_lit 3, nat_lit 3, nat_lit 5, .ofNat (nat_lit 0), nat_lit 0, nat_lit 452, nat_lit 292, []), (nat_lit 38, nat_lit 21, nat_lit 2, nat_lit 0, nat_lit 0, .ofNat (nat_lit 10), nat_lit 0, nat_lit 0, nat_lit 0, []), (nat_lit 40, nat_lit 4, nat_lit 3, nat_lit 0, nat_lit 5, .ofNat (nat_lit 6), nat_lit 0, nat_lit 0, nat_lit 0, []), (nat_lit 43, nat_lit 21, nat_lit 2, nat_lit 0, nat_lit 0, .negSucc (nat_lit 1), nat_lit 0, nat_lit 0, nat_lit 0, []), (nat_lit 45, nat_lit 6, nat_lit 1, nat_lit 0, nat_lit 0, .ofNat (nat_lit 0), nat_lit 0, nat_lit 0, nat_lit 0, [])]]
def rx_c12 : List (List rx_E) := [[(nat_lit 0, nat_lit 0, nat_lit 1, nat_lit 0, nat_lit 0, .ofNat (nat_lit 0), nat_lit 0, nat_lit 0, nat_lit 0, []), (nat_lit 1, nat_lit 1, nat_lit 1, nat_lit 1, nat_lit 0, .ofNat (nat_lit 0), nat_lit 0, nat_lit 0, nat_lit 0, []), (nat_lit 2, nat_lit 8, nat_lit 3, nat_lit 29, nat_lit 110, .ofNat (nat_lit 0), nat_lit 1, nat_lit 797, nat_lit 156, []), (nat_lit 5, nat_lit 14, nat_lit 3, nat_lit 0, nat_lit 0, .ofNat (nat_lit 14), nat_lit 0, nat_lit 0, nat_lit 0, [])], [(nat_lit 19, nat_lit 3, nat_lit 1, nat_lit 0, nat_lit 0, .negSucc (nat_lit 0), nat_lit 0, nat_lit 0, nat_lit 0, []), (nat_lit 20, nat_lit 6, nat_lit 1, nat_lit 0, nat_lit 0, .ofNat (nat_lit 0), nat_lit 0, nat_lit 0, nat_lit 0, [])]]
def rx_c13 : List (List rx_E) := [[(nat_lit 0, nat_lit 0, nat_lit 1, nat_lit 0, nat_lit 0, .ofNat (nat_lit 0), nat_lit 0, nat_lit 0, nat_lit 0, []), (nat_lit 1, nat_lit 1, nat_lit 1, nat_lit 1, nat_lit 0, .ofNat (nat_lit 0), nat_lit 0, nat_lit 0, nat_lit 0, []), (nat_lit 2, nat_lit 8, nat_lit 3, nat_lit 29, nat_lit 110, .ofNat (nat_lit 0), nat_lit 1, nat_lit 797, nat_lit 156, []), (nat_lit 5, nat_lit 14, nat_lit 3, nat_lit 0, nat_lit 0, .ofNat (nat_lit 11), nat_lit 0, nat_lit 0, nat_lit 0, [])], [(nat_lit 16, nat_lit 3, nat_lit 1, nat_lit 0, nat_lit 0, .negSucc (nat_lit 0), nat_lit 0, nat_lit 0, nat_lit 0, []), (nat_lit 17, nat_lit 6, nat_lit 1, nat_lit 0, nat_lit 0, .ofNat (nat_lit 0), nat_lit 0, nat_lit 0, nat_lit 0, [])]]
def rx_c14 : List (List rx_E) := [[(nat_lit 0, nat_lit 0, nat_lit 1, nat_lit 0, nat_lit 0, .ofNat (nat_lit 0), nat_lit 0, nat_lit 0, nat_lit 0, []), (nat_lit 1, nat_lit 2, nat_lit 3, nat_lit 11, nat_lit 10, .ofNat (nat_lit 0), nat_lit 12, nat_lit 546, nat_lit 74, []), (nat_lit 4, nat_lit 8, nat_lit 3, nat_lit 95, nat_lit 80, .ofNat (nat_lit 0), nat_lit 0, nat_lit 777, nat_lit 136, []), (nat_lit 7, nat_lit 0, nat_lit 1, nat_lit 0, nat_lit 0, .ofNat (nat_lit 0), nat_lit 0, nat_lit 0, nat_lit 0, []), (nat_lit 8, nat_lit 1, nat_lit 1, nat_lit 1, nat_lit 0, .ofNat (nat_lit 0), nat_lit 0, nat_lit 0, nat_lit 0, []), (nat_lit 9, nat_lit 8, nat_lit 3, nat_lit 27, nat_lit 110, .ofNat (nat_lit 0), nat_lit 1, nat_lit 789, nat_lit 148, []), (nat_lit 12, nat_lit 14, nat_lit 3, nat_lit 0, nat_lit 0, .ofNat (nat_lit 11), nat_lit 0, nat_lit 0, nat_lit 0, [])], [(nat_lit 23, nat_lit 3, nat_lit 1, nat_lit 0, nat_lit 0, .negSucc (nat_lit 0), nat_lit 0, nat_lit 0, nat_lit 0, []), (nat_lit 24, nat_lit 6, nat_lit 1, nat_lit 0, nat_lit 0, .ofNat (nat_lit 0), nat_lit 0, nat_lit 0, nat_lit 0, [])]]
def rx_c15 : List (List rx_E) := [[(nat_lit 0, nat_lit 3, nat_lit 1, nat_lit 0, nat_lit 0, .ofNat (nat_lit 1), nat_lit 0, nat_lit 0, nat_lit 0, []), (nat_lit 1, nat_lit 0, nat_lit 1, nat_lit 0, nat_lit 0, .ofNat (nat_lit 0), nat_lit 0, nat_lit 0, nat_lit 0, []), (nat_lit 2, nat_lit 2, nat_lit 3, nat_lit 11, nat_lit 1, .ofNat (nat_lit 0), nat_lit 12, nat_lit 537, nat_lit 19, []), (nat_lit 5, nat_lit 2, nat_lit 3, nat_lit 7, nat_lit 2, .ofNat (nat_lit 0), nat_lit 0, nat_lit 187, nat_lit 139, []), (nat_lit 8, nat_lit 17, nat_lit 1, nat_lit 0, nat_lit 0, .ofNat (nat_lit 0), nat_lit 0, nat_lit 0, nat_lit 0, []), (nat_lit 9, nat_lit 3, nat_lit 1, nat_lit 0, nat_lit 0, .ofNat (nat_lit 1), nat_lit 0, nat_lit 0, nat_lit 0, []), (nat_lit 10, nat_lit 23, nat_lit 1, nat_lit 0, nat_lit 0, .ofNat (nat_lit 0), nat_lit 0, nat_lit 0, nat_lit 0, []), (nat_lit 11, nat_lit 11, nat_lit 1, nat_lit 1, nat_lit 0, .ofNat (nat_lit 0), nat_lit 0, nat_lit 0, nat_lit 0, []), (nat_lit 12, nat_lit 0, nat_lit 1, nat_lit 0, nat_lit 0, .ofNat (nat_lit 0), nat_lit 0, nat_lit 0, nat_lit 0, []), (nat_lit 13, nat_lit 2, nat_lit 3, nat_lit 11, nat_lit 5, .ofNat (nat_lit 0), nat_lit 12, nat_lit 541, nat_lit 42, [])], [(nat_lit 16, nat_lit 0, nat_lit 1, nat_lit 0, nat_lit 0, .ofNat (nat_lit 0), nat_lit 0, nat_lit 0, nat_lit 0, []), (nat_lit 17, nat_lit 2, nat_lit 3, nat_lit 11, nat_lit 4, .ofNat (nat_lit 0), nat_lit 12, nat_lit 540, nat_lit 38, []), (nat_lit 20, nat_lit 8, nat_lit 3, nat_lit 79, nat_lit 20, .ofNat (nat_lit 0), nat_lit 1, nat_lit 978, nat_lit 222, []), (nat_lit 23, nat_lit 3, nat_lit 1, nat_lit 0, nat_lit 0, .ofNat (nat_lit 0), nat_lit 0, nat_lit 0, nat_lit 0, []), (nat_lit 24, nat_lit 11, nat_lit 1, nat_lit 2, nat_lit 0, .ofNat (nat_lit 0), nat_lit 0, nat_lit 0, nat_lit 0, []), (nat_lit 25, nat_lit 1, nat_lit 1, nat_lit 2, nat_lit 0, .ofNat (nat_lit 0), nat_lit 0, nat_lit 0, nat_lit 0, []), (nat_lit 26, nat_lit 20, nat_lit 3, nat_lit 0, nat_lit 0, .ofNat (nat_lit 200), nat_lit 0, nat_lit 0, nat_lit 0, []), (nat_lit 29, nat_lit 4, nat_lit 3, nat_lit 0, nat_lit 4, .ofNat (nat_lit 43), nat_lit 0, nat_lit 0, nat_lit 0, [])], [(nat_lit 32, nat_lit 0, nat_lit 1, nat_lit 0, nat_lit 0, .ofNat (nat_lit 0), nat_lit 0, nat_lit 0, nat_lit 0, []), (nat_lit 33, nat_lit 2, nat_lit 3, nat_lit 11, nat_lit 5, .ofNat (nat_lit 0), nat_lit 12, nat_lit 541, nat_lit 42, []), (nat_lit 36, nat_lit 0, nat_lit 1, nat_lit 0, nat_lit 0, .ofNat (nat_lit 0), nat_lit 0, nat_lit 0, nat_lit 0, []), (nat_lit 37, nat_lit 2, nat_lit 3, nat_lit 11, nat_lit 1, .ofNat (nat_lit 0), nat_lit 12, nat_lit 537, nat_lit 19, []), (nat_lit 40, nat_lit 2, nat_lit 3, nat_lit 7, nat_lit 2, .ofNat (nat_lit 0), nat_lit 0, nat_lit 187, nat_lit 139, []), (nat_lit 43, nat_lit 8, nat_lit 3, nat_lit 74, nat_lit 20, .ofNat (nat_lit 0), nat_lit 1, nat_lit 983, nat_lit 228, []), (nat_lit 46, nat_lit 1, nat_lit 1, nat_lit 1, nat_lit 0, .ofNat (nat_lit 0), nat_lit 0, nat_lit 0, nat_lit 0, []), (nat_lit 47, nat_lit 4, nat_lit 3, nat_lit 0, nat_lit 1, .ofNat (nat_lit 5), nat_lit 0, nat_lit 0, nat_lit 0, [])], [(nat_lit 50, nat_lit 1, nat_lit 1, nat_lit 2, nat_lit 0, .ofNat (nat_lit 0), nat_lit 0, nat_lit 0, nat_lit 0, []), (nat_lit 51, nat_lit 6, nat_lit 1, nat_lit 0, nat_lit 0, .ofNat (nat_lit 0), nat_lit 0, nat_lit 0, nat_lit 0, [])]]
def rx_c16 : List (List rx_E) := [[(nat_lit 0, nat_lit 1, nat_lit 1, nat_lit 1, nat_lit 0, .ofNat (nat_lit 0), nat_lit 0, nat_lit 0, nat_lit 0, []), (nat_lit 1, nat_lit 14, nat_lit 3, nat_lit 0, nat_lit 2, .ofNat (nat_lit 14), nat_lit 0, nat_lit 0, nat_lit 0, []), (nat_lit 4, nat_lit 1, nat_lit 1, nat_lit 1, nat_lit 0, .ofNat (nat_lit 0), nat_lit 0, nat_lit 0, nat_lit 0, []), (nat_lit 5, nat_lit 0, nat_lit 1, nat_lit 0, nat_lit 0, .ofNat (nat_lit 0), nat_lit 0, nat_lit 0, nat_lit 0, []), (nat_lit 6, nat_lit 2, nat_lit 3, nat_lit 11, nat_lit 0, .ofNat (nat_lit 0), nat_lit 12, nat_lit 536, nat_lit 10, []), (nat_lit 9, nat_lit 2, nat_lit 3, nat_lit 9, nat_lit 1, .ofNat (nat_lit 0), nat_lit 0, nat_lit 144, nat_lit 114, []), (nat_lit 12, nat_lit 4, nat_lit 3, nat_lit 0, nat_lit 5, .ofNat (nat_lit 5), nat_lit 0, nat_lit 0, nat_lit 0, []), (nat_lit 15, nat_lit 3, nat_lit 1, nat_lit 0, nat_lit 0, .negSucc (nat_lit 0), nat_lit 0, nat_lit 0, nat_lit 0, [])], [(nat_lit 16, nat_lit 6, nat_lit 1, nat_lit 0, nat_lit 0, .ofNat (nat_lit 0), nat_lit 0, nat_lit 0, nat_lit 0, []), (nat_lit 17, nat_lit 0, nat_lit 1, nat_lit 0, nat_lit 0, .ofNat (nat_lit 0), nat_lit 0, nat_lit 0, nat_lit 0, []), (nat_lit 18, nat_lit 2, nat_lit 3, nat_lit 11, nat_lit 0, .ofNat (nat_lit 0), nat_lit 12, nat_lit 536, nat_lit 10, []), (nat_lit 21, nat_lit 1, nat_lit 1, nat_lit 1, nat_lit 0, .ofNat (nat_lit 0), nat_lit 0, nat_lit 0, nat_lit 0, []), (nat_lit 22, nat_lit 15, nat_lit 3, nat_lit 9, nat_lit 1, .ofNat (nat_lit 0), nat_lit 0, nat_lit 144, nat_lit 114, []), (nat_lit 25, nat_lit 1, nat_lit 1, nat_lit 1, nat_lit 0, .ofNat (nat_lit 0), nat_lit 0, nat_lit 0, nat_lit 0, []), (nat_lit 26, nat_lit 6, nat_lit 1, nat_lit 0, nat_lit 0, .ofNat (nat_lit 0), nat_lit 0, nat_lit 0, nat_lit 0, [])]]
def rx_c17 : List (List rx_E) := [[(nat_lit 0, nat_lit 0, nat_lit 1, nat_lit 0, nat_lit 0, .ofNat (nat_lit 0), nat_lit 0, nat_lit 0, nat_lit 0, []), (nat_lit 1, nat_lit 1, nat_lit 1, nat_lit 1, nat_lit 0, .ofNat (nat_lit 0), nat_lit 0, nat_lit 0, nat_lit 0, []), (nat_lit 2, nat_lit 8, nat_lit 3, nat_lit 27, nat_lit 110, .ofNat (nat_lit 0), nat_lit 1, nat_lit 789, nat_lit 148, []), (nat_lit 5, nat_lit 14, nat_lit 3, nat_lit 0, nat_lit 0, .ofNat (nat_lit 15), nat_lit 0, nat_lit 0, nat_lit 0, [])], [(nat_lit 20, nat_lit 3, nat_lit 1, nat_lit 0, nat_lit 0, .negSucc (nat_lit 0), nat_lit 0, nat_lit 0, nat_lit 0, []), (nat_lit 21, nat_lit 6, nat_lit 1, nat_lit 0, nat_lit 0, .ofNat (nat_lit 0), nat_lit 0, nat_lit 0, nat_lit 0, [])]]
def rx_c18 : List (List rx_E) := [[(nat_lit 0, nat_lit 0, nat_lit 1, nat_lit 0, nat_lit 0, .ofNat (nat_lit 0), nat_lit 0, nat_lit 0, nat_lit 0, []), (nat_lit 1, nat_lit 1, nat_lit 1, nat_lit 1, nat_lit 0, .ofNat (nat_lit 0), nat_lit 0, nat_lit 0, nat_lit 0, []), (nat_lit 2, nat_lit 8, nat_lit 3, nat_lit 27, nat_lit 110, .ofNat (nat_lit 0), nat_lit 1, nat_lit 789, nat_lit 148, []), (nat_lit 5, nat_lit 14, nat_lit 3, nat_lit 0, nat_lit 0, .ofNat (nat_lit 19), nat_lit 0, nat_lit 0, nat_lit 0, [])], [(nat_lit 24, nat_lit 3, nat_lit 1, nat_lit 0, nat_lit 0, .negSucc (nat_lit 0), nat_lit 0, nat_lit 0, nat_lit 0, []), (nat_lit 25, nat_lit 6, nat_lit 1, nat_lit 0, nat_lit 0, .ofNat (nat_lit 0), nat_lit 0, nat_lit 0, nat_lit 0, [])]]
def rx_c19 : List (List rx_E) := [[(nat_lit 0, nat_lit 1, nat_lit 1, nat_lit 1, nat_lit 0, .ofNat (nat_lit 0), nat_lit 0, nat_lit 0, nat_lit 0, []), (nat_lit 1, nat_lit 14, nat_lit 3, nat_lit 0, nat_lit 1, .ofNat (nat_lit 11), nat_lit 0, nat_lit 0, nat_lit 0, []), (nat_lit 4, nat_lit 0, nat_lit 1, nat_lit 0, nat_lit 0, .ofNat (nat_lit 0), nat_lit 0, nat_lit 0, nat_lit 0, []), (nat_lit 5, nat_lit 2, nat_lit 3, nat_lit 11, nat_lit 3, .ofNat (nat_lit 0), nat_lit 12, nat_lit 539, nat_lit 31, []), (nat_lit 8, nat_lit 2, nat_lit 3, nat_lit 6, nat_lit 6, .ofNat (nat_lit 0), nat_lit 0, nat_lit 255, nat_lit 142, []), (nat_lit 11, nat_lit 6, nat_lit 1, nat_lit 0, nat_lit 0, .ofNat (nat_lit 0), nat_lit 0, nat_lit 0, nat_lit 0, []), (nat_lit 12, nat_lit 1, nat_lit 1, nat_lit 1, nat_lit 0, .ofNat (nat_lit 0), nat_lit 0, nat_lit 0, nat_lit 0, []), (nat_lit 13, nat_lit 3, nat_lit 1, nat_lit 0, nat_lit 0, .ofNat (nat_lit 1), nat_lit 0, nat_lit 0, nat_lit 0, []), (nat_lit 14, nat_lit 4, nat_lit 3, nat_lit 0, nat_lit 1, .ofNat (nat_lit 13), nat_lit 0, nat_lit 0, nat_lit 0, [])], [(nat_lit 17, nat_lit 0, nat_lit 1, nat_lit 0, nat_lit 0, .ofNat (nat_lit 0), nat_lit 0, nat_lit 0, nat_lit 0, []), (nat_lit 18, nat_lit 2, nat_lit 3, nat_lit 11, nat_lit 3, .ofNat (nat_lit 0), nat_lit 12, nat_lit 539, nat_lit 31, []), (nat_lit 21, nat_lit 2, nat_lit 3, nat_lit 6, nat_lit 7, .ofNat (nat_lit 0), nat_lit 0, nat_lit 257, nat_lit 145, []), (nat_lit 24, nat_lit 5, nat_lit 3, nat_lit 0, nat_lit 0, .ofNat (nat_lit 4), nat_lit 0, nat_lit 0, nat_lit 0, []), (nat_lit 27, nat_lit 3, nat_lit 1, nat_lit 0, nat_lit 0, .negSucc (nat_lit 0), nat_lit 0, nat_lit 0, nat_lit 0, []), (nat_lit 28, nat_lit 6, nat_lit 1, nat_lit 0, nat_lit 0, .ofNat (nat_lit 0), nat_lit 0, nat_lit 0, nat_lit 0, [])]]
def rx_c20 : List (List rx_E) := [[(nat_lit 0, nat_lit 0, nat_lit 1, nat_lit 0, nat_lit 0, .ofNat (nat_lit 0), nat_lit 0, nat_lit 0, nat_lit 0, []), (nat_lit 1, nat_lit 2, nat_lit 3, nat_lit 11, nat_lit 0, .ofNat (nat_lit 0), nat_lit 12, nat_lit 536, nat_lit 10, []), (nat_lit 4, nat_lit 2, nat_lit 3, nat_lit 9, nat_lit 1, .ofNat (nat_lit 0), nat_lit 0, nat_lit 144, nat_lit 114, []), (nat_lit 7, nat_lit 20, nat_lit 3, nat_lit 0, nat_lit 0, .ofNat (nat_lit 1580), nat_lit 0, nat_lit 0, nat_lit 0, []), (nat_lit 10, nat_lit 4, nat_lit 3, nat_lit 0, nat_lit 5, .ofNat (nat_lit 5), nat_lit 0, nat_lit 0, nat_lit 0, []), (nat_lit 15, nat_lit 0, nat_lit 1, nat_lit 0, nat_lit 0, .ofNat (nat_lit 0), nat_lit 0, nat_lit 0, nat_lit 0, [])], [(nat_lit 16, nat_lit 2, nat_lit 3, nat_lit 11, nat_lit 0, .ofNat (nat_lit 0), nat_lit 12, nat_lit 536, nat_lit 10, []), (nat_lit 19, nat_lit 1, nat_lit 1, nat_lit 1, nat_lit 0, .ofNat (nat_lit 0), nat_lit 0, nat_lit 0, nat_lit 0, []), (nat_lit 20, nat_lit 8, nat_lit 3, nat_lit 99, nat_lit 90, .ofNat (nat_lit 0), nat_lit 1, nat_lit 586, nat_lit 118, []), (nat_lit 23, nat_lit 0, nat_lit 1, nat_lit 0, nat_lit 0, .ofNat (nat_lit 0), nat_lit 0, nat_lit 0, nat_lit 0, []), (nat_lit 24, nat_lit 2, nat_lit 3, nat_lit 11, nat_lit 0, .ofNat (nat_lit 0), nat_lit 12, nat_lit 536, nat_lit 10, []), (nat_lit 27, nat_lit 1, nat_lit 1, nat_lit 2, nat_lit 0, .ofNat (nat_lit 0), nat_lit 0, nat_lit 0, nat_lit 0, []), (nat_lit 28, nat_lit 8, nat_lit 3, nat_lit 99, nat_lit 90, .ofNat (nat_lit 0), nat_lit 1, nat_lit 586, nat_lit 118, []), (nat_lit 31, nat_lit 0, nat_lit 1, nat_lit 0, nat_lit 0, .ofNat (nat_lit 0), nat_lit 0, nat_lit 0, nat_lit 0, [])], [(nat_lit 32, nat_lit 2, nat_lit 3, nat_lit 11, nat_lit 0, .ofNat (nat_lit 0), nat_lit 12, nat_lit 536, nat_lit 10, []), (nat_lit 35, nat_lit 1, nat_lit 1, nat_lit 3, nat_lit 0, .ofNat (nat_lit 0), nat_lit 0, nat_lit 0, nat_lit 0, []), (nat_lit 36, nat_lit 8, nat_lit 3, nat_lit 99, nat_lit 90, .ofNat (nat_lit 0), nat_lit 1, nat_lit 586, nat_lit 118, []), (nat_lit 39, nat_lit 0, nat_lit 1, nat_lit 0, nat_lit 0, .ofNat (nat_lit 0), nat_lit 0, nat_lit 0, nat_lit 0, []), (nat_lit 40, nat_lit 2, nat_lit 3, nat_lit 11, nat_lit 0, .ofNat (nat_lit 0), nat_lit 12, nat_lit 536, nat_lit 10, []), (nat_lit 43, nat_lit 22, nat_lit 2, nat_lit 4, nat_lit 0, .ofNat (nat_lit 0), nat_lit 0, nat_lit 0, nat_lit 0, []), (nat_lit 45, nat_lit 8, nat_lit 3, nat_lit 99, nat_lit 90, .ofNat (nat_lit 0), nat_lit 1, nat_lit 586, nat_lit 118, [])], [(nat_lit 48, nat_lit 0, nat_lit 1, nat_lit 0, nat_lit 0, .ofNat (nat_lit 0), nat_lit 0, nat_lit 0, nat_lit 0, []), (nat_lit 49, nat_lit 2, nat_lit 3, nat_lit 11, nat_lit 0, .ofNat (nat_lit 0), nat_lit 12, nat_lit 536, nat_lit 10, []), (nat_lit 52, nat_lit 22, nat_lit 2, nat_lit 5, nat_lit 0, .ofNat (nat_lit 0), nat_lit 0, nat_lit 0, nat_lit 0, []), (nat_lit 54, nat_lit 8, nat_lit 3, nat_lit 99, nat_lit 90, .ofNat (nat_lit 0), nat_lit 1, nat_lit 586, nat_lit 118, []), (nat_lit 57, nat_lit 0, nat_lit 1, nat_lit 0, nat_lit 0, .ofNat (nat_lit 0), nat_lit 0, nat_lit 0, nat_lit 0, []), (nat_lit 58, nat_lit 2, nat_lit 3, nat_lit 11, nat_lit 0, .ofNat (nat_lit 0), nat_lit 12, nat_lit 536, nat_lit 10, []), (nat_lit 61, nat_lit 2, nat_lit 3, nat_lit 9, nat_lit 1, .ofNat (nat_lit 0), nat_lit 0, nat_lit 144, nat_lit 114, [])], [(nat_lit 64, nat_lit 6, nat_lit 1, nat_lit 0, nat_lit 0, .ofNat (nat_lit 0), nat_lit 0, nat_lit 0, nat_lit 0, [])]]
def rx_c21 : List (List rx_E) := [[(nat_lit 0, nat_lit 0, nat_lit 1, nat_lit 0, nat_lit 0, .ofNat (nat_lit 0), nat_lit 0, nat_lit 0, nat_lit 0, []), (nat_lit 1, nat_lit 1, nat_lit 1, nat_lit 1, nat_lit 0, .ofNat (nat_lit 0), nat_lit 0, nat_lit 0, nat_lit 0, []), (nat_lit 2, nat_lit 8, nat_lit 3, nat_lit 29, nat_lit 110, .ofNat (nat_lit 0), nat_lit 1, nat_lit 797, nat_lit 156, []), (nat_lit 5, nat_lit 14, nat_lit 3, nat_lit 0, nat_lit 1, .ofNat (nat_lit 5), nat_lit 0, nat_lit 0, nat_lit 0, []), (nat_lit 8, nat_lit 3, nat_lit 1, nat_lit 0, nat_lit 0, .negSucc (nat_lit 0), nat_lit 0, nat_lit 0, nat_lit 0, []), (nat_lit 9, nat_lit 6, nat_lit 1, nat_lit 0, nat_lit 0, .ofNat (nat_lit 0), nat_lit 0, nat_lit 0, nat_lit 0, [])]]
def rx_c22 : List (List rx_E) := [[(nat_lit 0, nat_lit 0, nat_lit 1, nat_lit 0, nat_lit 0, .ofNat (nat_lit 0), nat_lit 0, nat_lit 0, nat_lit 0, []), (nat_lit 1, nat_lit 1, nat_lit 1, nat_lit 1, nat_lit 0, .ofNat (nat_lit 0), nat_lit 0, nat_lit 0, nat_lit 0, []), (nat_lit 2, nat_lit 8, nat_lit 3, nat_lit 29, nat_lit 110, .ofNat (nat_lit 0), nat_lit 1, nat_lit 797, nat_lit 156, []), (nat_lit 5, nat_lit 14, nat_lit 3, nat_lit 0, nat_lit 0, .ofNat (nat_lit 11), nat_lit 0, nat_lit 0, nat_lit 0, [])], [(nat_lit 16, nat_lit 3, nat_lit 1, nat_lit 0, nat_lit 0, .negSucc (nat_lit 0), nat_lit 0, nat_lit 0, nat_lit 0, []), (nat_lit 17, nat_lit 6, nat_lit 1, nat_lit 0, nat_lit 0, .ofNat (nat_lit 0), nat_lit 0, nat_lit 0, nat_lit 0, [])]]
def rx_c23 : List (List rx_E) := [[(nat_lit 0, nat_lit 0, nat_lit 1, nat_lit 0, nat_lit 0, .ofNat (nat_lit 0), nat_lit 0, nat_lit 0, nat_lit 0, []), (nat_lit 1, nat_lit 2, nat_lit 3, nat_lit 11, nat_lit 12, .ofNat (nat_lit 0), nat_lit 12, nat_lit 548, nat_lit 90, []), (nat_lit 4, nat_lit 1, nat_lit 1, nat_lit 2, nat_lit 0, .ofNat (nat_lit 0), nat_lit 0, nat_lit 0, nat_lit 0, []), (nat_lit 5, nat_lit 8, nat_lit 3, nat_lit 81, nat_lit 30, .ofNat (nat_lit 0), nat_lit 1, nat_lit 1160, nat_lit 289, []), (nat_lit 8, nat_lit 0, nat_lit 1, nat_lit 0, nat_lit 0, .ofNat (nat_lit 0), nat_lit 0, nat_lit 0, nat_lit 0, []), (nat_lit 9, nat_lit 2, nat_lit 3, nat_lit 11, nat_lit 14, .ofNat (nat_lit 0), nat_lit 12, nat_lit 550, nat_lit 106, []), (nat_lit 12, nat_lit 8, nat_lit 3, nat_lit 103, nat_lit 100, .ofNat (nat_lit 0), nat_lit 0, nat_lit 1262, nat_lit 329, []), (nat_lit 15, nat_lit 0, nat_lit 1, nat_lit 0, nat_lit 0, .ofNat (nat_lit 0), nat_lit 0, nat_lit 0, nat_lit 0, [])], [(nat_lit 16, nat_lit 2, nat_lit 3, nat_lit 11, nat_lit 14, .ofNat (nat_lit 0), nat_lit 12, nat_lit 550, nat_lit 106, []), (nat_lit 19, nat_lit 8, nat_lit 3, nat_lit 102, nat_lit 100, .ofNat (nat_lit 0), nat_lit 0, nat_lit 1285, nat_lit 335, []), (nat_lit 22, nat_lit 11, nat_lit 1, nat_lit 3, nat_lit 0, .ofNat (nat_lit 0), nat_lit 0, nat_lit 0, nat_lit 0, []), (nat_lit 23, nat_lit 1, nat_lit 1, nat_lit 3, nat_lit 0, .ofNat (nat_lit 0), nat_lit 0, nat_lit 0, nat_lit 0, []), (nat_lit 24, nat_lit 3, nat_lit 1, nat_lit 0, nat_lit 0, .negSucc (nat_lit 0), nat_lit 0, nat_lit 0, nat_lit 0, []), (nat_lit 25, nat_lit 4, nat_lit 3, nat_lit 0, nat_lit 1, .ofNat (nat_lit 7), nat_lit 0, nat_lit 0, nat_lit 0, []), (nat_lit 28, nat_lit 3, nat_lit 1, nat_lit 0, nat_lit 0, .negSucc (nat_lit 0), nat_lit 0, nat_lit 0, nat_lit 0, []), (nat_lit 29, nat_lit 5, nat_lit 3, nat_lit 0, nat_lit 0, .ofNat (nat_lit 16), nat_lit 0, nat_lit 0, nat_lit 0, [])], [(nat_lit 45, nat_lit 6, nat_lit 1, nat_lit 0, nat_lit 0, .ofNat (nat_lit 0), nat_lit 0, nat_lit 0, nat_lit 0, [])]]
def rx_c24 : List (List rx_E) := [[(nat_lit 0, nat_lit 0, nat_lit 1, nat_lit 0, nat_lit 0, .ofNat (nat_lit 0), nat_lit 0, nat_lit 0, nat_lit 0, []), (nat_lit 1, nat_lit 1, nat_lit 1, nat_lit 1, nat_lit 0, .ofNat (nat_lit 0), nat_lit 0, nat_lit 0, nat_lit 0, []), (nat_lit 2, nat_lit 8, nat_lit 3, nat_lit 27, nat_lit 110, .ofNat (nat_lit 0), nat_lit 1, nat_lit 789, nat_lit 148, []), (nat_lit 5, nat_lit 14, nat_lit 3, nat_lit 0, nat_lit 1, .ofNat (nat_lit 5), nat_lit 0, nat_lit 0, nat_lit 0, []), (nat_lit 8, nat_lit 3, nat_lit 1, nat_lit 0, nat_lit 0, .negSucc (nat_lit 0), nat_lit 0, nat_lit 0, nat_lit 0, []), (nat_lit 9, nat_lit 6, nat_lit 1, nat_lit 0, nat_lit 0, .ofNat (nat_lit 0), nat_lit 0, nat_lit 0, nat_lit 0, [])]]
def rx_c25 : List (List rx_E) := [[(nat_lit 0, nat_lit 0, nat_lit 1, nat_lit 0, nat_lit 0, .ofNat (nat_lit 0), nat_lit 0, nat_lit 0, nat_lit 0, []), (nat_lit 1, nat_lit 2, nat_lit 3, nat_lit 11, nat_lit 10, .ofNat (nat_lit 0), nat_lit 12, nat_lit 546, nat_lit 74, []), (nat_lit 4, nat_lit 8, nat_lit 3, nat_lit 95, nat_lit 80, .ofNat (nat_lit 0), nat_lit 0, nat_lit 777, nat_lit 136, []), (nat_lit 7, nat_lit 0, nat_lit 1, nat_lit 0, nat_lit 0, .ofNat (nat_lit 0), nat_lit 0, nat_lit 0, nat_lit 0, []), (nat_lit 8, nat_lit 1, nat_lit 1, nat_lit 1, nat_lit 0, .ofNat (nat_lit 0), nat_lit 0, nat_lit 0, nat_lit 0, []), (nat_lit 9, nat_lit 8, nat_lit 3, nat_lit 27, nat_lit 110, .ofNat (nat_lit 0), nat_lit 1, nat_lit 789, nat_lit 148, []), (nat_lit 12, nat_lit 14, nat_lit 3, nat_lit 0, nat_lit 1, .ofNat (nat_lit 5), nat_lit 0, nat_lit 0, nat_lit 0, []), (nat_lit 15, nat_lit 3, nat_lit 1, nat_lit 0, nat_lit 0, .negSucc (nat_lit 0), nat_lit 0, nat_lit 0, nat_lit 0, [])], [(nat_lit 16, nat_lit 6, nat_lit 1, nat_lit 0, nat_lit 0, .ofNat (nat_lit 0), nat_lit 0, nat_lit 0, nat_lit 0, [])]]
def rx_c26 : List (List rx_E) := [[(nat_lit 0, nat_lit 0, nat_lit 1, nat_lit 0, nat_lit 0, .ofNat (nat_lit 0), nat_lit 0, nat_lit 0, nat_lit 0, []), (nat_lit 1, nat_lit 1, nat_lit 1, nat_lit 1, nat_lit 0, .ofNat (nat_lit 0), nat_lit 0, nat_lit 0, nat_lit 0, []), (nat_lit 2, nat_lit 8, nat_lit 3, nat_lit 27, nat_lit 110, .ofNat (nat_lit 0), nat_lit 1, nat_lit 789, nat_lit 148, []), (nat_lit 5, nat_lit 14, nat_lit 3, nat_lit 0, nat_lit 0, .ofNat (nat_lit 13), nat_lit 0, nat_lit 0, nat_lit 0, [])], [(nat_lit 18, nat_lit 3, nat_lit 1, nat_lit 0, nat_lit 0, .negSucc (nat_lit 0), nat_lit 0, nat_lit 0, nat_lit 0, []), (nat_lit 19, nat_lit 6, nat_lit 1, nat_lit 0, nat_lit 0, .ofNat (nat_lit 0), nat_lit 0, nat_lit 0, nat_lit 0, [])]]
def rx_c27 : List (List rx_E) := [[(nat_lit 0, nat_lit 1, nat_lit 1, nat_lit 1, nat_lit 0, .ofNat (nat_lit 0), nat_lit 0, nat_lit 0, nat_lit 0, []), (nat_lit 1, nat_lit 14, nat_lit 3, nat_lit 0, nat_lit 2, .ofNat (nat_lit 18), nat_lit 0, nat_lit 0, nat_lit 0, []), (nat_lit 4, nat_lit 1, nat_lit 1, nat_lit 1, nat_lit 0, .ofNat (nat_lit 0), nat_lit 0, nat_lit 0, nat_lit 0, []), (nat_lit 5, nat_lit 0, nat_lit 1, nat_lit 0, nat_lit 0, .ofNat (nat_lit 0), nat_lit 0, nat_lit 0, nat_lit 0, []), (nat_lit 6, nat_lit 2, nat_lit 3, nat_lit 11, nat_lit 1, .ofNat (nat_lit 0), nat_lit 12, nat_lit 537, nat_lit 19, []), (nat_lit 9, nat_lit 2, nat_lit 3, nat_lit 7, nat_lit 1, .ofNat (nat_lit 0), nat_lit 0, nat_lit 182, nat_lit 274, []), (nat_lit 12, nat_lit 4, nat_lit 3, nat_lit 0, nat_lit 3, .ofNat (nat_lit 7), nat_lit 0, nat_lit 0, nat_lit 0, [])], [(nat_lit 19, nat_lit 3, nat_lit 1, nat_lit 0, nat_lit 0, .ofNat (nat_lit 0), nat_lit 0, nat_lit 0, nat_lit 0, []), (nat_lit 20, nat_lit 6, nat_lit 1, nat_lit 0, nat_lit 0, .ofNat (nat_lit 0), nat_lit 0, nat_lit 0, nat_lit 0, [])]]
def rx_c28 : List (List rx_E) := [[(nat_lit 0, nat_lit 1, nat_lit 1, nat_lit 1, nat_lit 0, .ofNat (nat_lit 0), nat_lit 0, nat_lit 0, nat_lit 0, []), (nat_lit 1, nat_lit 14, nat_lit 3, nat_lit 0, nat_lit 2, .ofNat (nat_lit 18), nat_lit 0, nat_lit 0, nat_lit 0, []), (nat_lit 4, nat_lit 1, nat_lit 1, nat_lit 1, nat_lit 0, .ofNat (nat_lit 0), nat_lit 0, nat_lit 0, nat_lit 0, []), (nat_lit 5, nat_lit 0, nat_lit 1, nat_lit 0, nat_lit 0, .ofNat (nat_lit 0), nat_lit 0, nat_lit 0, nat_lit 0, []), (nat_lit 6, nat_lit 2, nat_lit 3, nat_lit 11, nat_lit 1, .ofNat (nat_lit 0), nat_lit 12, nat_lit 537, nat_lit 19, []), (nat_lit 9, nat_lit 2, nat_lit 3, nat_lit 7, nat_lit 0, .ofNat (nat_lit 0), nat_lit 0, nat_lit 179, nat_lit 231, []), (nat_lit 12, nat_lit 4, nat_lit 3, nat_lit 0, nat_lit 3, .ofNat (nat_lit 7), nat_lit 0, nat_lit 0, nat_lit 0, []), (nat_lit 15, nat_lit 3, nat_lit 1, nat_lit 0, nat_lit 0, .ofNat (nat_lit 1), nat_lit 0, nat_lit 0, nat_lit 0, [])], [(nat_lit 16, nat_lit 5, nat_lit 3, nat_lit 0, nat_lit 0, .ofNat (nat_lit 4), nat_lit 0, nat_lit 0, nat_lit 0, []), (nat_lit 19, nat_lit 3, nat_lit 1, nat_lit 0, nat_lit 0, .ofNat (nat_lit 0), nat_lit 0, nat_lit 0, nat_lit 0, []), (nat_lit 20, nat_lit 6, nat_lit 1, nat_lit 0, nat_lit 0, .ofNat (nat_lit 0), nat_lit 0, nat_lit 0, nat_lit 0, [])]]
def rx_c29 : List (List rx_E) := [[(nat_lit 0, nat_lit 1, nat_lit 1, nat_lit 1, nat_lit 0, .ofNat (nat_lit 0), nat_lit 0, nat_lit 0, nat_lit 0, []), (nat_lit 1, nat_lit 14, nat_lit 3, nat_lit 0, nat_lit 2, .ofNat (nat_lit 18), nat_lit 0, nat_lit 0, nat_lit 0, []), (nat_lit 4, nat_lit 1, nat_lit 1, nat_lit 1, nat_lit 0, .ofNat (nat_lit 0), nat_lit 0, nat_lit 0, nat_lit 0, []), (nat_lit 5, nat_lit 0, nat_lit 1, nat_lit 0, nat_lit 0, .ofNat (nat_lit 0), nat_lit 0, nat_lit 0, nat_lit 0, []), (nat_lit 6, nat_lit 2, nat_lit 3, nat_lit 11, nat_lit 1, .ofNat (nat_lit 0), nat_lit 12, nat_lit 537, nat_lit 19, []), (nat_lit 9, nat_lit 2, nat_lit 3, nat_lit 7, nat_lit 2, .ofNat (nat_lit 0), nat_lit 0, nat_lit 187, nat_lit 139, []), (nat_lit 12, nat_lit 4, nat_lit 3, nat_lit 0, nat_lit 3, .ofNat (nat_lit 7), nat_lit 0, nat_lit 0, nat_lit 0, [])], [(nat_lit 19, nat_lit 3, nat_lit 1, nat_lit 0, nat_lit 0, .ofNat (nat_lit 0), nat_lit 0, nat_lit 0, nat_lit 0, []), (nat_lit 20, nat_lit 6, nat_lit 1, nat_lit 0, nat_lit 0, .ofNat (nat_lit 0), nat_lit 0, nat_lit 0, nat_lit 0, [])]]
def rx_c30 : List (List rx_E) := [[(nat_lit 0, nat_lit 0, nat_lit 1, nat_lit 0, nat_lit 0, .ofNat (nat_lit 0), nat_lit 0, nat_lit 0, nat_lit 0, []), (nat_lit 1, nat_lit 1, nat_lit 1, nat_lit 1, nat_lit 0, .ofNat (nat_lit 0), nat_lit 0, nat_lit 0, nat_lit 0, []), (nat_lit 2, nat_lit 8, nat_lit 3, nat_lit 27, nat_lit 110, .ofNat (nat_lit 0), nat_lit 1, nat_lit 789, nat_lit 148, []), (nat_lit 5, nat_lit 14, nat_lit 3, nat_lit 0, nat_lit 1, .ofNat (nat_lit 5), nat_lit 0, nat_lit 0, nat_lit 0, []), (nat_lit 8, nat_lit 3, nat_lit 1, nat_lit 0, nat_lit 0, .negSucc (nat_lit 0), nat_lit 0, nat_lit 0, nat_lit 0, []), (nat_lit 9, nat_lit 6, nat_lit 1, nat_lit 0, nat_lit 0, .ofNat (nat_lit 0), nat_lit 0, nat_lit 0, nat_lit 0, [])]]
def rx_c31 : List (List rx_E) := [[(nat_lit 0, nat_lit 1, nat_lit 1, nat_lit 1, nat_lit 0, .ofNat (nat_lit 0), nat_lit 0, nat_lit 0, nat_lit 0, []), (nat_lit 1, nat_lit 14, nat_lit 3, nat_lit 0, nat_lit 2, .ofNat (nat_lit 8), nat_lit 0, nat_lit 0, nat_lit 0, []), (nat_lit 4, nat_lit 1, nat_lit 1, nat_lit 1, nat_lit 0, .ofNat (nat_lit 0), nat_lit 0, nat_lit 0, nat_lit 0, []), (nat_lit 5, nat_lit 3, nat_lit 1, nat_lit 0, nat_lit 0, .ofNat (nat_lit 3), nat_lit 0, nat_lit 0, nat_lit 0, []), (nat_lit 6, nat_lit 4, nat_lit 3, nat_lit 0, nat_lit 2, .ofNat (nat_lit 5), nat_lit 0, nat_lit 0, nat_lit 0, []), (nat_lit 9, nat_lit 3, nat_lit 1, nat_lit 0, nat_lit 0, .negSucc (nat_lit 0), nat_lit 0, nat_lit 0, nat_lit 0, []), (nat_lit 10, nat_lit 6, nat_lit 1, nat_lit 0, nat_lit 0, .ofNat (nat_lit 0), nat_lit 0, nat_lit 0, nat_lit 0, []), (nat_lit 11, nat_lit 0, nat_lit 1, nat_lit 0, nat_lit 0, .ofNat (nat_lit 0), nat_lit 0, nat_lit 0, nat_lit 0, []), (nat_lit 12, nat_lit 2, nat_lit 3, nat_lit 11, nat_lit 7, .ofNat (nat_lit 0), nat_lit 12, nat_lit 543, nat_lit 54, []), (nat_lit 15, nat_lit 1, nat_lit 1, nat_lit 1, nat_lit 0, .ofNat (nat_lit 0), nat_lit 0, nat_lit 0, nat_lit 0, [])], [(nat_lit 16, nat_lit 44, nat_lit 1, nat_lit 0, nat_lit 0, .ofNat (nat_lit 0), nat_lit 0, nat_lit 0, nat_lit 0, []), (nat_lit 17, nat_lit 0, nat_lit 1, nat_lit 0, nat_lit 0, .ofNat (nat_lit 0), nat_lit 0, nat_lit 0, nat_lit 0, []), (nat_lit 18, nat_lit 2, nat_lit 3, nat_lit 11, nat_lit 4, .ofNat (nat_lit 0), nat_lit 12, nat_lit 540, nat_lit 38, []), (nat_lit 21, nat_lit 8, nat_lit 3, nat_lit 79, nat_lit 20, .ofNat (nat_lit 0), nat_lit 1, nat_lit 978, nat_lit 222, []), (nat_lit 24, nat_lit 0, nat_lit 1, nat_lit 0, nat_lit 0, .ofNat (nat_lit 0), nat_lit 0, nat_lit 0, nat_lit 0, []), (nat_lit 25, nat_lit 2, nat_lit 3, nat_lit 11, nat_lit 8, .ofNat (nat_lit 0), nat_lit 12, nat_lit 544, nat_lit 58, []), (nat_lit 28, nat_lit 1, nat_lit 1, nat_lit 1, nat_lit 0, .ofNat (nat_lit 0), nat_lit 0, nat_lit 0, nat_lit 0, []), (nat_lit 29, nat_lit 3, nat_lit 1, nat_lit 0, nat_lit 0, .ofNat (nat_lit 1), nat_lit 0, nat_lit 0, nat_lit 0, []), (nat_lit 30, nat_lit 13, nat_lit 1, nat_lit 0, nat_lit 0, .ofNat (nat_lit 0), nat_lit 0, nat_lit 0, nat_lit 0, []), (nat_lit 31, nat_lit 0, nat_lit 1, nat_lit 0, nat_lit 0, .ofNat (nat_lit 0), nat_lit 0, nat_lit 0, nat_lit 0, [])], [(nat_lit 32, nat_lit 2, nat_lit 3, nat_lit 11, nat_lit 4, .ofNat (nat_lit 0), nat_lit 12, nat_lit 540, nat_lit 38, []), (nat_lit 35, nat_lit 2, nat_lit 3, nat_lit 2, nat_lit 3, .ofNat (nat_lit 0), nat_lit 0, nat_lit 299, nat_lit 189, []), (nat_lit 38, nat_lit 6, nat_lit 1, nat_lit 0, nat_lit 0, .ofNat (nat_lit 0), nat_lit 0, nat_lit 0, nat_lit 0, [])]]
def rx_c32 : List (List rx_E) := [[(nat_lit 0, nat_lit 1, nat_lit 1, nat_lit 0, nat_lit 0, .ofNat (nat_lit 0), nat_lit 0, nat_lit 0, nat_lit 0, []), (nat_lit 1, nat_lit 1, nat_lit 1, nat_lit 1, nat_lit 0, .ofNat (nat_lit 0), nat_lit 0, nat_lit 0, nat_lit 0, []), (nat_lit 2, nat_lit 24, nat_lit 3, nat_lit 10, nat_lit 111, .ofNat (nat_lit 0), nat_lit 2, nat_lit 1209, nat_lit 357, []), (nat_lit 5, nat_lit 11, nat_lit 1, nat_lit 3, nat_lit 0, .ofNat (nat_lit 0), nat_lit 0, nat_lit 0, nat_lit 0, []), (nat_lit 6, nat_lit 1, nat_lit 1, nat_lit 3, nat_lit 0, .ofNat (nat_lit 0), nat_lit 0, nat_lit 0, nat_lit 0, []), (nat_lit 7, nat_lit 14, nat_lit 3, nat_lit 0, nat_lit 1, .ofNat (nat_lit 5), nat_lit 0, nat_lit 0, nat_lit 0, []), (nat_lit 12, nat_lit 1, nat_lit 1, nat_lit 2, nat_lit 0, .ofNat (nat_lit 0), nat_lit 0, nat_lit 0, nat_lit 0, []), (nat_lit 13, nat_lit 1, nat_lit 1, nat_lit 0, nat_lit 0, .ofNat (nat_lit 0), nat_lit 0, nat_lit 0, nat_lit 0, []), (nat_lit 14, nat_lit 1, nat_lit 1, nat_lit 3, nat_lit 0, .ofNat (nat_lit 0), nat_lit 0, nat_lit 0, nat_lit 0, []), (nat_lit 15, nat_lit 36, nat_lit 1, nat_lit 0, nat_lit 0, .ofNat (nat_lit 0), nat_lit 0, nat_lit 0, nat_lit 0, [])], [(nat_lit 16, nat_lit 1, nat_lit 1, nat_lit 1, nat_lit 0, .ofNat (nat_lit 0), nat_lit 0, nat_lit 0, nat_lit 0, []), (nat_lit 17, nat_lit 1, nat_lit 1, nat_lit 3, nat_lit 0, .ofNat (nat_lit 0), nat_lit 0, nat_lit 0, nat_lit 0, []), (nat_lit 18, nat_lit 36, nat_lit 1, nat_lit 0, nat_lit 0, .ofNat (nat_lit 0), nat_lit 0, nat_lit 0, nat_lit 0, []), (nat_lit 19, nat_lit 24, nat_lit 3, nat_lit 48, nat_lit 111, .ofNat (nat_lit 0), nat_lit 3, nat_lit 953, nat_lit 216, []), (nat_lit 22, nat_lit 6, nat_lit 1, nat_lit 0, nat_lit 0, .ofNat (nat_lit 0), nat_lit 0, nat_lit 0, nat_lit 0, [])]]
def rx_c33 : List (List rx_E) := [[(nat_lit 0, nat_lit 1, nat_lit 1, nat_lit 1, nat_lit 0, .ofNat (nat_lit 0), nat_lit 0, nat_lit 0, nat_lit 0, []), (nat_lit 1, nat_lit 14, nat_lit 3, nat_lit 0, nat_lit 2, .ofNat (nat_lit 21), nat_lit 0, nat_lit 0, nat_lit 0, []), (nat_lit 4, nat_lit 1, nat_lit 1, nat_lit 1, nat_lit 0, .ofNat (nat_lit 0), nat_lit 0, nat_lit 0, nat_lit 0, []), (nat_lit 5, nat_lit 3, nat_lit 1, nat_lit 0, nat_lit 0, .ofNat (nat_lit 3), nat_lit 0, nat_lit 0, nat_lit 0, []), (nat_lit 6, nat_lit 4, nat_lit 3, nat_lit 0, nat_lit 3, .ofNat (nat_lit 16), nat_lit 0, nat_lit 0, nat_lit 0, []), (nat_lit 9, nat_lit 0, nat_lit 1, nat_lit 0, nat_lit 0, .ofNat (nat_lit 0), nat_lit 0, nat_lit 0, nat_lit 0, []), (nat_lit 10, nat_lit 2, nat_lit 3, nat_lit 11, nat_lit 8, .ofNat (nat_lit 0), nat_lit 12, nat_lit 544, nat_lit 58, []), (nat_lit 13, nat_lit 1, nat_lit 1, nat_lit 1, nat_lit 0, .ofNat (nat_lit 0), nat_lit 0, nat_lit 0, nat_lit 0, []), (nat_lit 14, nat_lit 39, nat_lit 1, nat_lit 0, nat_lit 0, .ofNat (nat_lit 0), nat_lit 0, nat_lit 0, nat_lit 0, []), (nat_lit 15, nat_lit 14, nat_lit 3, nat_lit 0, nat_lit 0, .ofNat (nat_lit 7), nat_lit 0, nat_lit 0, nat_lit 0, [])], [(nat_lit 22, nat_lit 3, nat_lit 1, nat_lit 0, nat_lit 0, .ofNat (nat_lit 0), nat_lit 0, nat_lit 0, nat_lit 0, []), (nat_lit 23, nat_lit 6, nat_lit 1, nat_lit 0, nat_lit 0, .ofNat (nat_lit 0), nat_lit 0, nat_lit 0, nat_lit 0, [])]]
def rx_c34 : List (List rx_E) := [[(nat_lit 0, nat_lit 1, nat_lit 1, nat_lit 1, nat_lit 0, .ofNat (nat_lit 0), nat_lit 0, nat_lit 0, nat_lit 0, []), (nat_lit 1, nat_lit 14, nat_lit 3, nat_lit 0, nat_lit 2, .ofNat (nat_lit 25), nat_lit 0, nat_lit 0, nat_lit 0, []), (nat_lit 4, nat_lit 1, nat_lit 1, nat_lit 1, nat_lit 0, .ofNat (nat_lit 0), nat_lit 0, nat_lit 0, nat_lit 0, []), (nat_lit 5, nat_lit 20, nat_lit 3, nat_lit 0, nat_lit 0, .ofNat (nat_lit 1000), nat_lit 0, nat_lit 0, nat_lit 0, []), (nat_lit 8, nat_lit 4, nat_lit 3, nat_lit 0, nat_lit 4, .ofNat (nat_lit 18), nat_lit 0, nat_lit 0, nat_lit 0, []), (nat_lit 11, nat_lit 0, nat_lit 1, nat_lit 0, nat_lit 0, .ofNat (nat_lit 0), nat_lit 0, nat_lit 0, nat_lit 0, []), (nat_lit 12, nat_lit 2, nat_lit 3, nat_lit 11, nat_lit 11, .ofNat (nat_lit 0), nat_lit 12, nat_lit 547, nat_lit 81, []), (nat_lit 15, nat_lit 2, nat_lit 3, nat_lit 4, nat_lit 5, .ofNat (nat_lit 0), nat_lit 0, nat_lit 421, nat_lit 285, [])], [(nat_lit 18, nat_lit 1, nat_lit 1, nat_lit 1, nat_lit 0, .ofNat (nat_lit 0), nat_lit 0, nat_lit 0, nat_lit 0, []), (nat_lit 19, nat_lit 12, nat_lit 1, nat_lit 0, nat_lit 0, .ofNat (nat_lit 0), nat_lit 0, nat_lit 0, nat_lit 0, []), (nat_lit 20, nat_lit 30, nat_lit 3, nat_lit 0, nat_lit 0, .ofNat (nat_lit 100000), nat_lit 0, nat_lit 1155, nat_lit 288, []), (nat_lit 23, nat_lit 4, nat_lit 3, nat_lit 0, nat_lit 5, .ofNat (nat_lit 5), nat_lit 0, nat_lit 0, nat_lit 0, []), (nat_lit 26, nat_lit 3, nat_lit 1, nat_lit 0, nat_lit 0, .negSucc (nat_lit 0), nat_lit 0, nat_lit 0, nat_lit 0, []), (nat_lit 27, nat_lit 6, nat_lit 1, nat_lit 0, nat_lit 0, .ofNat (nat_lit 0), nat_lit 0, nat_lit 0, nat_lit 0, []), (nat_lit 28, nat_lit 0, nat_lit 1, nat_lit 0, nat_lit 0, .ofNat (nat_lit 0), nat_lit 0, nat_lit 0, nat_lit 0, []), (nat_lit 29, nat_lit 2, nat_lit 3, nat_lit 11, nat_lit 11, .ofNat (nat_lit 0), nat_lit 12, nat_lit 547, nat_lit 81, [])], [(nat_lit 32, nat_lit 16, nat_lit 1, nat_lit 0, nat_lit 0, .ofNat (nat_lit 0), nat_lit 0, nat_lit 0, nat_lit 0, []), (nat_lit 33, nat_lit 2, nat_lit 3, nat_lit 4, nat_lit 5, .ofNat (nat_lit 0), nat_lit 0, nat_lit 421, nat_lit 285, []), (nat_lit 36, nat_lit 1, nat_lit 1, nat_lit 1, nat_lit 0, .ofNat (nat_lit 0), nat_lit 0, nat_lit 0, nat_lit 0, []), (nat_lit 37, nat_lit 12, nat_lit 1, nat_lit 0, nat_lit 0, .ofNat (nat_lit 0), nat_lit 0, nat_lit 0, nat_lit 0, []), (nat_lit 38, nat_lit 15, nat_lit 3, nat_lit 4, nat_lit 5, .ofNat (nat_lit 0), nat_lit 0, nat_lit 421, nat_lit 285, []), (nat_lit 41, nat_lit 0, nat_lit 1, nat_lit 0, nat_lit 0, .ofNat (nat_lit 0), nat_lit 0, nat_lit 0, nat_lit 0, []), (nat_lit 42, nat_lit 2, nat_lit 3, nat_lit 11, nat_lit 11, .ofNat (nat_lit 0), nat_lit 12, nat_lit 547, nat_lit 81, []), (nat_lit 45, nat_lit 2, nat_lit 3, nat_lit 4, nat_lit 5, .ofNat (nat_lit 0), nat_lit 0, nat_lit 421, nat_lit 285, [])], [(nat_lit 48, nat_lit 6, nat_lit 1, nat_lit 0, nat_lit 0, .ofNat (nat_lit 0), nat_lit 0, nat_lit 0, nat_lit 0, [])]]
def rx_c35 : List (List rx_E) := [[(nat_lit 0, nat_lit 0, nat_lit 1, nat_lit 0, nat_lit 0, .ofNat (nat_lit 0), nat_lit 0, nat_lit 0, nat_lit 0, []), (nat_lit 1, nat_lit 1, nat_lit 1, nat_lit 1, nat_lit 0, .ofNat (nat_lit 0), nat_lit 0, nat_lit 0, nat_lit 0, []), (nat_lit 2, nat_lit 8, nat_lit 3, nat_lit 29, nat_lit 110, .ofNat (nat_lit 0), nat_lit 1, nat_lit 797, nat_lit 156, []), (nat_lit 5, nat_lit 14, nat_lit 3, nat_lit 0, nat_lit 0, .ofNat (nat_lit 11), nat_lit 0, nat_lit 0, nat_lit 0, [])], [(nat_lit 16, nat_lit 3, nat_lit 1, nat_lit 0, nat_lit 0, .negSucc (nat_lit 0), nat_lit 0, nat_lit 0, nat_lit 0, []), (nat_lit 17, nat_lit 6, nat_lit 1, nat_lit 0, nat_lit 0, .ofNat (nat_lit 0), nat_lit 0, nat_lit 0, nat_lit 0, [])]]
def rx_c36 : List (List rx_E) := [[(nat_lit 0, nat_lit 0, nat_lit 1, nat_lit 0, nat_lit 0, .ofNat (nat_lit 0), nat_lit 0, nat_lit 0, nat_lit 0, []), (nat_lit 1, nat_lit 1, nat_lit 1, nat_lit 1, nat_lit 0, .ofNat (nat_lit 0), nat_lit 0, nat_lit 0, nat_lit 0, []), (nat_lit 2, nat_lit 8, nat_lit 3, nat_lit 29, nat_lit 110, .ofNat (nat_lit 0), nat_lit 1, nat_lit 797, nat_lit 156, []), (nat_lit 5, nat_lit 14, nat_lit 3, nat_lit 0, nat_lit 0, .ofNat (nat_lit 11), nat_lit 0, nat_lit 0, nat_lit 0, [])], [(nat_lit 16, nat_lit 3, nat_lit 1, nat_lit 0, nat_lit 0, .negSucc (nat_lit 0), nat_lit 0, nat_lit 0, nat_lit 0, []), (nat_lit 17, nat_lit 6, nat_lit 1, nat_lit 0, nat_lit 0, .ofNat (nat_lit 0), nat_lit 0, nat_lit 0, nat_lit 0, [])]]
def rx_c37 : List (List rx_E) := [[(nat_lit 0, nat_lit 1, nat_lit 1, nat_lit 1, nat_lit 0, .ofNat (nat_lit 0), nat_lit 0, nat_lit 0, nat_lit 0, []), (nat_lit 1, nat_lit 14, nat_lit 3, nat_lit 0, nat_lit 2, .ofNat (nat_lit 26), nat_lit 0, nat_lit 0, nat_lit 0, []), (nat_lit 4, nat_lit 1, nat_lit 1, nat_lit 1, nat_lit 0, .ofNat (nat_lit 0), nat_lit 0, nat_lit 0, nat_lit 0, []), (nat_lit 5, nat_lit 0, nat_lit 1, nat_lit 0, nat_lit 0, .ofNat (nat_lit 0), nat_lit 0, nat_lit 0, nat_lit 0, []), (nat_lit 6, nat_lit 2, nat_lit 3, nat_lit 11, nat_lit 10, .ofNat (nat_lit 0), nat_lit 12, nat_lit 546, nat_lit 74, []), (nat_lit 9, nat_lit 2, nat_lit 3, nat_lit 8, nat_lit 5, .ofNat (nat_lit 0), nat_lit 0, nat_lit 391, nat_lit 277, []), (nat_lit 12, nat_lit 4, nat_lit 3, nat_lit 0, nat_lit 3, .ofNat (nat_lit 15), nat_lit 0, nat_lit 0, nat_lit 0, [])], [(nat_lit 27, nat_lit 3, nat_lit 1, nat_lit 0, nat_lit 0, .negSucc (nat_lit 0), nat_lit 0, nat_lit 0, nat_lit 0, []), (nat_lit 28, nat_lit 6, nat_lit 1, nat_lit 0, nat_lit 0, .ofNat (nat_lit 0), nat_lit 0, nat_lit 0, nat_lit 0, [])]]
def rx_c38 : List (List rx_E) := [[(nat_lit 0, nat_lit 0, nat_lit 1, nat_lit 0, nat_lit 0, .ofNat (nat_lit 0), nat_lit 0, nat_lit 0, nat_lit 0, []), (nat_lit 1, nat_lit 2, nat_lit 3, nat_lit 11, nat_lit 12, .ofNat (nat_lit 0), nat_lit 12, nat_lit 548, nat_lit 90, []), (nat_lit 4, nat_lit 1, nat_lit 1, nat_lit 2, nat_lit 0, .ofNat (nat_lit 0), nat_lit 0, nat_lit 0, nat_lit 0, []), (nat_lit 5, nat_lit 8, nat_lit 3, nat_lit 81, nat_lit 30, .ofNat (nat_lit 0), nat_lit 1, nat_lit 1160, nat_lit 289, []), (nat_lit 8, nat_lit 1, nat_lit 1, nat_lit 1, nat_lit 0, .ofNat (nat_lit 0), nat_lit 0, nat_lit 0, nat_lit 0, []), (nat_lit 9, nat_lit 0, nat_lit 1, nat_lit 0, nat_lit 0, .ofNat (nat_lit 0), nat_lit 0, nat_lit 0, nat_lit 0, []), (nat_lit 10, nat_lit 2, nat_lit 3, nat_lit 11, nat_lit 12, .ofNat (nat_lit 0), nat_lit 12, nat_lit 548, nat_lit 90, []), (nat_lit 13, nat_lit 2, nat_lit 3, nat_lit 3, nat_lit 5, .ofNat (nat_lit 0), nat_lit 0, nat_lit 452, nat_lit 292, [])], [(nat_lit 16, nat_lit 0, nat_lit 1, nat_lit 0, nat_lit 0, .ofNat (nat_lit 0), nat_lit 0, nat_lit 0, nat_lit 0, []), (nat_lit 17, nat_lit 2, nat_lit 3, nat_lit 11, nat_lit 12, .ofNat (nat_lit 0), nat_lit 12, nat_lit 548, nat_lit 90, []), (nat_lit 20, nat_lit 8, nat_lit 3, nat_lit 83, nat_lit 30, .ofNat (nat_lit 0), nat_lit 0, nat_lit 1174, nat_lit 293, []), (nat_lit 23, nat_lit 24, nat_lit 3, nat_lit 48, nat_lit 111, .ofNat (nat_lit 0), nat_lit 3, nat_lit 953, nat_lit 216, []), (nat_lit 26, nat_lit 6, nat_lit 1, nat_lit 0, nat_lit 0, .ofNat (nat_lit 0), nat_lit 0, nat_lit 0, nat_lit 0, [])]]
def rx_c39 : List (List rx_E) := [[(nat_lit 0, nat_lit 0, nat_lit 1, nat_lit 0, nat_lit 0, .ofNat (nat_lit 0), nat_lit 0, nat_lit 0, nat_lit 0, []), (nat_lit 1, nat_lit 1, nat_lit 1, nat_lit 1, nat_lit 0, .ofNat (nat_lit 0), nat_lit 0, nat_lit 0, nat_lit 0, []), (nat_lit 2, nat_lit 8, nat_lit 3, nat_lit 29, nat_lit 110, .ofNat (nat_lit 0), nat_lit 1, nat_lit 797, nat_lit 156, []), (nat_lit 5, nat_lit 14, nat_lit 3, nat_lit 0, nat_lit 1, .ofNat (nat_lit 5), nat_lit 0, nat_lit 0, nat_lit 0, []), (nat_lit 8, nat_lit 3, nat_lit 1, nat_lit 0, nat_lit 0, .negSucc (nat_lit 0), nat_lit 0, nat_lit 0, nat_lit 0, []), (nat_lit 9, nat_lit 6, nat_lit 1, nat_lit 0, nat_lit 0, .ofNat (nat_lit 0), nat_lit 0, nat_lit 0, nat_lit 0, [])]]
def rx_c40 : List (List rx_E) := [[(nat_lit 0, nat_lit 0, nat_lit 1, nat_lit 0, nat_lit 0, .ofNat (nat_lit 0), nat_lit 0, nat_lit 0, nat_lit 0, []), (nat_lit 1, nat_lit 1, nat_lit 1, nat_lit 1, nat_lit 0, .ofNat (nat_lit 0), nat_lit 0, nat_lit 0, nat_lit 0, []), (nat_lit 2, nat_lit 8, nat_lit 3, nat_lit 29, nat_lit 110, .ofNat (nat_lit 0), nat_lit 1, nat_lit 797, nat_lit 156, []), (nat_lit 5, nat_lit 14, nat_lit 3, nat_lit 0, nat_lit 0, .ofNat (nat_lit 27), nat_lit 0, nat_lit 0, nat_lit 0, [])], [], [(nat_lit 32, nat_lit 3, nat_lit 1, nat_lit 0, nat_lit 0, .negSucc (nat_lit 0), nat_lit 0, nat_lit 0, nat_lit 0, []), (nat_lit 33, nat_lit 6, nat_lit 1, nat_lit 0, nat_lit 0, .ofNat (nat_lit 0), nat_lit 0, nat_lit 0, nat_lit 0, [])]]
def rx_c41 : List (List rx_E) := [[(nat_lit 0, nat_lit 0, nat_lit 1, nat_lit 0, nat_lit 0, .ofNat (nat_lit 0), nat_lit 0, nat_lit 0, nat_lit 0, []), (nat_lit 1, nat_lit 1, nat_lit 1, nat_lit 1, nat_lit 0, .ofNat (nat_lit 0), nat_lit 0, nat_lit 0, nat_lit 0, []), (nat_lit 2, nat_lit 8, nat_lit 3, nat_lit 27, nat_lit 110, .ofNat (nat_lit 0), nat_lit 1, nat_lit 789, nat_lit 148, []), (nat_lit 5, nat_lit 14, nat_lit 3, nat_lit 0, nat_lit 0, .ofNat (nat_lit 11), nat_lit 0, nat_lit 0, nat_lit 0, [])], [(nat_lit 16, nat_lit 3, nat_lit 1, nat_lit 0, nat_lit 0, .negSucc (nat_lit 0), nat_lit 0, nat_lit 0, nat_lit 0, []), (nat_lit 17, nat_lit 6, nat_lit 1, nat_lit 0, nat_lit 0, .ofNat (nat_lit 0), nat_lit 0, nat_lit 0, nat_lit 0, [])]]
def rx_c42 : List (List rx_E) := [[(nat_lit 0, nat_lit 0, nat_lit 1, nat_lit 0, nat_lit 0, .ofNat (nat_lit 0), nat_lit 0, nat_lit 0, nat_lit 0, []), (nat_lit 1, nat_lit 2, nat_lit 3, nat_lit 11, nat_lit 12, .ofNat (nat_lit 0), nat_lit 12, nat_lit 548, nat_lit 90, []), (nat_lit 4, nat_lit 1, nat_lit 1, nat_lit 3, nat_lit 0, .ofNat (nat_lit 0), nat_lit 0, nat_lit 0, nat_lit 0, []), (nat_lit 5, nat_lit 8, nat_lit 3, nat_lit 81, nat_lit 30, .ofNat (nat_lit 0), nat_lit 1, nat_lit 1160, nat_lit 289, []), (nat_lit 8, nat_lit 0, nat_lit 1, nat_lit 0, nat_lit 0, .ofNat (nat_lit 0), nat_lit 0, nat_lit 0, nat_lit 0, []), (nat_lit 9, nat_lit 1, nat_lit 1, nat_lit 1, nat_lit 0, .ofNat (nat_lit 0), nat_lit 0, nat_lit 0, nat_lit 0, []), (nat_lit 10, nat_lit 8, nat_lit 3, nat_lit 29, nat_lit 110, .ofNat (nat_lit 0), nat_lit 1, nat_lit 797, nat_lit 156, []), (nat_lit 13, nat_lit 14, nat_lit 3, nat_lit 0, nat_lit 0, .ofNat (nat_lit 13), nat_lit 0, nat_lit 0, nat_lit 0, [])], [(nat_lit 26, nat_lit 3, nat_lit 1, nat_lit 0, nat_lit 0, .negSucc (nat_lit 0), nat_lit 0, nat_lit 0, nat_lit 0, []), (nat_lit 27, nat_lit 6, nat_lit 1, nat_lit 0, nat_lit 0, .ofNat (nat_lit 0), nat_lit 0, nat_lit 0, nat_lit 0, [])]]
def rx_c43 : List (List rx_E) := [[(nat_lit 0, nat_lit 0, nat_lit 1, nat_lit 0, nat_lit 0, .ofNat (nat_lit 0), nat_lit 0, nat_lit 0, nat_lit 0, []), (nat_lit 1, nat_lit 2, nat_lit 3, nat_lit 11, nat_lit 10, .ofNat (nat_lit 0), nat_lit 12, nat_lit 546, nat_lit 74, []), (nat_lit 4, nat_lit 8, nat_lit 3, nat_lit 95, nat_lit 80, .ofNat (nat_lit 0), nat_lit 0, nat_lit 777, nat_lit 136, []), (nat_lit 7, nat_lit 0, nat_lit 1, nat_lit 0, nat_lit 0, .ofNat (nat_lit 0), nat_lit 0, nat_lit 0, nat_lit 0, []), (nat_lit 8, nat_lit 1, nat_lit 1, nat_lit 1, nat_lit 0, .ofNat (nat_lit 0), nat_lit 0, nat_lit 0, nat_lit 0, []), (nat_lit 9, nat_lit 8, nat_lit 3, nat_lit 29, nat_lit 110, .ofNat (nat_lit 0), nat_lit 1, nat_lit 797, nat_lit 156, []), (nat_lit 12, nat_lit 14, nat_lit 3, nat_lit 0, nat_lit 0, .ofNat (nat_lit 11), nat_lit 0, nat_lit 0, nat_lit 0, [])], [(nat_lit 23, nat_lit 3, nat_lit 1, nat_lit 0, nat_lit 0, .negSucc (nat_lit 0), nat_lit 0, nat_lit 0, nat_lit 0, []), (nat_lit 24, nat_lit 6, nat_lit 1, nat_lit 0, nat_lit 0, .ofNat (nat_lit 0), nat_lit 0, nat_lit 0, nat_lit 0, [])]]
def rx_c44 : List (List rx_E) := [[(nat_lit 0, nat_lit 0, nat_lit 1, nat_lit 0, nat_lit 0, .ofNat (nat_lit 0), nat_lit 0, nat_lit 0, nat_lit 0, []), (nat_lit 1, nat_lit 1, nat_lit 1, nat_lit 1, nat_lit 0, .ofNat (nat_lit 0), nat_lit 0, nat_lit 0, nat_lit 0, []), (nat_lit 2, nat_lit 8, nat_lit 3, nat_lit 29, nat_lit 110, .ofNat (nat_lit 0), nat_lit 1, nat_lit 797, nat_lit 156, []), (nat_lit 5, nat_lit 14, nat_lit 3, nat_lit 0, nat_lit 1, .ofNat (nat_lit 5), nat_lit 0, nat_lit 0, nat_lit 0, []), (nat_lit 8, nat_lit 3, nat_lit 1, nat_lit 0, nat_lit 0, .negSucc (nat_lit 0), nat_lit 0, nat_lit 0, nat_lit 0, []), (nat_lit 9, nat_lit 6, nat_lit 1, nat_lit 0, nat_lit 0, .ofNat (nat_lit 0), nat_lit 0, nat_lit 0, nat_lit 0, [])]]
def rx_c45 : List (List rx_E) := [[(nat_lit 0, nat_lit 0, nat_lit 1, nat_lit 0, nat_lit 0, .ofNat (nat_lit 0), nat_lit 0, nat_lit 0, nat_lit 0, []), (nat_lit 1, nat_lit 1, nat_lit 1, nat_lit 1, nat_lit 0, .ofNat (nat_lit 0), nat_lit 0, nat_lit 0, nat_lit 0, []), (nat_lit 2, nat_lit 8, nat_lit 3, nat_lit 27, nat_lit 110, .ofNat (nat_lit 0), nat_lit 1, nat_lit 789, nat_lit 148, []), (nat_lit 5, nat_lit 14, nat_lit 3, nat_lit 0, nat_lit 1, .ofNat (nat_lit 5), nat_lit 0, nat_lit 0, nat_lit 0, []), (nat_lit 8, nat_lit 3, nat_lit 1, nat_lit 0, nat_lit 0, .negSucc (nat_lit 0), nat_lit 0, nat_lit 0, nat_lit 0, []), (nat_lit 9, nat_lit 6, nat_lit 1, nat_lit 0, nat_lit 0, .ofNat (nat_lit 0), nat_lit 0, nat_lit 0, nat_lit 0, [])]]
def rx_c46 : List (List rx_E) := [[(nat_lit 0, nat_lit 0, nat_lit 1, nat_lit 0, nat_lit 0, .ofNat (nat_lit 0), nat_lit 0, nat_lit 0, nat_lit 0, []), (nat_lit 1, nat_lit 2, nat_lit 3, nat_lit 11, nat_lit 4, .ofNat (nat_lit 0), nat_lit 12, nat_lit 540, nat_lit 38, []), (nat_lit 4, nat_lit 2, nat_lit 3, nat_lit 2, nat_lit 3, .ofNat (nat_lit 0), nat_lit 0, nat_lit 299, nat_lit 189, []), (nat_lit 7, nat_lit 20, nat_lit 3, nat_lit 0, nat_lit 0, .ofNat (nat_lit 9999), nat_lit 0, nat_lit 0, nat_lit 0, []), (nat_lit 10, nat_lit 4, nat_lit 3, nat_lit 0, nat_lit 2, .ofNat (nat_lit 5), nat_lit 0, nat_lit 0, nat_lit 0, []), (nat_lit 15, nat_lit 0, nat_lit 1, nat_lit 0, nat_lit 0, .ofNat (nat_lit 0), nat_lit 0, nat_lit 0, nat_lit 0, [])], [(nat_lit 16, nat_lit 2, nat_lit 3, nat_lit 11, nat_lit 6, .ofNat (nat_lit 0), nat_lit 12, nat_lit 542, nat_lit 50, []), (nat_lit 19, nat_lit 3, nat_lit 1, nat_lit 0, nat_lit 0, .ofNat (nat_lit 4), nat_lit 0, nat_lit 0, nat_lit 0, []), (nat_lit 20, nat_lit 0, nat_lit 1, nat_lit 0, nat_lit 0, .ofNat (nat_lit 0), nat_lit 0, nat_lit 0, nat_lit 0, []), (nat_lit 21, nat_lit 2, nat_lit 3, nat_lit 11, nat_lit 4, .ofNat (nat_lit 0), nat_lit 12, nat_lit 540, nat_lit 38, []), (nat_lit 24, nat_lit 0, nat_lit 1, nat_lit 0, nat_lit 0, .ofNat (nat_lit 0), nat_lit 0, nat_lit 0, nat_lit 0, []), (nat_lit 25, nat_lit 2, nat_lit 3, nat_lit 11, nat_lit 1, .ofNat (nat_lit 0), nat_lit 12, nat_lit 537, nat_lit 19, []), (nat_lit 28, nat_lit 2, nat_lit 3, nat_lit 7, nat_lit 2, .ofNat (nat_lit 0), nat_lit 0, nat_lit 187, nat_lit 139, []), (nat_lit 31, nat_lit 8, nat_lit 3, nat_lit 75, nat_lit 20, .ofNat (nat_lit 0), nat_lit 1, nat_lit 903, nat_lit 192, [])], [(nat_lit 34, nat_lit 3, nat_lit 1, nat_lit 0, nat_lit 0, .ofNat (nat_lit 0), nat_lit 0, nat_lit 0, nat_lit 0, []), (nat_lit 35, nat_lit 8, nat_lit 3, nat_lit 66, nat_lit 0, .ofNat (nat_lit 0), nat_lit 3, nat_lit 861, nat_lit 185, []), (nat_lit 38, nat_lit 0, nat_lit 1, nat_lit 0, nat_lit 0, .ofNat (nat_lit 0), nat_lit 0, nat_lit 0, nat_lit 0, []), (nat_lit 39, nat_lit 2, nat_lit 3, nat_lit 11, nat_lit 9, .ofNat (nat_lit 0), nat_lit 12, nat_lit 545, nat_lit 65, []), (nat_lit 42, nat_lit 8, nat_lit 3, nat_lit 87, nat_lit 50, .ofNat (nat_lit 0), nat_lit 0, nat_lit 773, nat_lit 132, []), (nat_lit 45, nat_lit 0, nat_lit 1, nat_lit 0, nat_lit 0, .ofNat (nat_lit 0), nat_lit 0, nat_lit 0, nat_lit 0, []), (nat_lit 46, nat_lit 2, nat_lit 3, nat_lit 11, nat_lit 4, .ofNat (nat_lit 0), nat_lit 12, nat_lit 540, nat_lit 38, [])], [(nat_lit 49, nat_lit 2, nat_lit 3, nat_lit 2, nat_lit 3, .ofNat (nat_lit 0), nat_lit 0, nat_lit 299, nat_lit 189, []), (nat_lit 52, nat_lit 6, nat_lit 1, nat_lit 0, nat_lit 0, .ofNat (nat_lit 0), nat_lit 0, nat_lit 0, nat_lit 0, [])]]
def rx_c47 : List (List rx_E) := [[(nat_lit 0, nat_lit 0, nat_lit 1, nat_lit 0, nat_lit 0, .ofNat (nat_lit 0), nat_lit 0, nat_lit 0, nat_lit 0, []), (nat_lit 1, nat_lit 2, nat_lit 3, nat_lit 11, nat_lit 12, .ofNat (nat_lit 0), nat_lit 12, nat_lit 548, nat_lit 90, []), (nat_lit 4, nat_lit 1, nat_lit 1, nat_lit 3, nat_lit 0, .ofNat (nat_lit 0), nat_lit 0, nat_lit 0, nat_lit 0, []), (nat_lit 5, nat_lit 8, nat_lit 3, nat_lit 81, nat_lit 30, .ofNat (nat_lit 0), nat_lit 1, nat_lit 1160, nat_lit 289, []), (nat_lit 8, nat_lit 0, nat_lit 1, nat_lit 0, nat_lit 0, .ofNat (nat_lit 0), nat_lit 0, nat_lit 0, nat_lit 0, []), (nat_lit 9, nat_lit 1, nat_lit 1, nat_lit 1, nat_lit 0, .ofNat (nat_lit 0), nat_lit 0, nat_lit 0, nat_lit 0, []), (nat_lit 10, nat_lit 8, nat_lit 3, nat_lit 28, nat_lit 110, .ofNat (nat_lit 0), nat_lit 1, nat_lit 857, nat_lit 182, []), (nat_lit 13, nat_lit 14, nat_lit 3, nat_lit 0, nat_lit 0, .ofNat (nat_lit 13), nat_lit 0, nat_lit 0, nat_lit 0, [])], [(nat_lit 16, nat_lit 0, nat_lit 1, nat_lit 0, nat_lit 0, .ofNat (nat_lit 0), nat_lit 0, nat_lit 0, nat_lit 0, []), (nat_lit 17, nat_lit 2, nat_lit 3, nat_lit 11, nat_lit 12, .ofNat (nat_lit 0), nat_lit 12, nat_lit 548, nat_lit 90, []), (nat_lit 20, nat_lit 2, nat_lit 3, nat_lit 3, nat_lit 5, .ofNat (nat_lit 0), nat_lit 0, nat_lit 452, nat_lit 292, []), (nat_lit 23, nat_lit 14, nat_lit 3, nat_lit 0, nat_lit 1, .ofNat (nat_lit 5), nat_lit 0, nat_lit 0, nat_lit 0, []), (nat_lit 26, nat_lit 3, nat_lit 1, nat_lit 0, nat_lit 0, .negSucc (nat_lit 0), nat_lit 0, nat_lit 0, nat_lit 0, []), (nat_lit 27, nat_lit 6, nat_lit 1, nat_lit 0, nat_lit 0, .ofNat (nat_lit 0), nat_lit 0, nat_lit 0, nat_lit 0, []), (nat_lit 28, nat_lit 0, nat_lit 1, nat_lit 0, nat_lit 0, .ofNat (nat_lit 0), nat_lit 0, nat_lit 0, nat_lit 0, []), (nat_lit 29, nat_lit 2, nat_lit 3, nat_lit 11, nat_lit 12, .ofNat (nat_lit 0), nat_lit 12, nat_lit 548, nat_lit 90, [])], [(nat_lit 32, nat_lit 1, nat_lit 1, nat_lit 1, nat_lit 0, .ofNat (nat_lit 0), nat_lit 0, nat_lit 0, nat_lit 0, []), (nat_lit 33, nat_lit 8, nat_lit 3, nat_lit 82, nat_lit 30, .ofNat (nat_lit 0), nat_lit 1, nat_lit 1198, nat_lit 308, []), (nat_lit 36, nat_lit 0, nat_lit 1, nat_lit 0, nat_lit 0, .ofNat (nat_lit 0), nat_lit 0, nat_lit 0, nat_lit 0, []), (nat_lit 37, nat_lit 2, nat_lit 3, nat_lit 11, nat_lit 12, .ofNat (nat_lit 0), nat_lit 12, nat_lit 548, nat_lit 90, []), (nat_lit 40, nat_lit 2, nat_lit 3, nat_lit 3, nat_lit 5, .ofNat (nat_lit 0), nat_lit 0, nat_lit 452, nat_lit 292, []), (nat_lit 43, nat_lit 1, nat_lit 1, nat_lit 2, nat_lit 0, .ofNat (nat_lit 0), nat_lit 0, nat_lit 0, nat_lit 0, []), (nat_lit 44, nat_lit 24, nat_lit 3, nat_lit 32, nat_lit 111, .ofNat (nat_lit 0), nat_lit 3, nat_lit 1206, nat_lit 311, []), (nat_lit 47, nat_lit 6, nat_lit 1, nat_lit 0, nat_lit 0, .ofNat (nat_lit 0), nat_lit 0, nat_lit 0, nat_lit 0, [])]]
def rx_c48 : List (List rx_E) := [[(nat_lit 0, nat_lit 1, nat_lit 1, nat_lit 0, nat_lit 0, .ofNat (nat_lit 0), nat_lit 0, nat_lit 0, nat_lit 0, []), (nat_lit 1, nat_lit 14, nat_lit 3, nat_lit 0, nat_lit 1, .ofNat (nat_lit 5), nat_lit 0, nat_lit 0, nat_lit 0, []), (nat_lit 4, nat_lit 1, nat_lit 1, nat_lit 1, nat_lit 0, .ofNat (nat_lit 0), nat_lit 0, nat_lit 0, nat_lit 0, []), (nat_lit 5, nat_lit 6, nat_lit 1, nat_lit 0, nat_lit 0, .ofNat (nat_lit 0), nat_lit 0, nat_lit 0, nat_lit 0, []), (nat_lit 6, nat_lit 1, nat_lit 1, nat_lit 0, nat_lit 0, .ofNat (nat_lit 0), nat_lit 0, nat_lit 0, nat_lit 0, []), (nat_lit 7, nat_lit 3, nat_lit 1, nat_lit 0, nat_lit 0, .ofNat (nat_lit 1), nat_lit 0, nat_lit 0, nat_lit 0, []), (nat_lit 8, nat_lit 4, nat_lit 3, nat_lit 0, nat_lit 1, .ofNat (nat_lit 7), nat_lit 0, nat_lit 0, nat_lit 0, []), (nat_lit 11, nat_lit 1, nat_lit 1, nat_lit 2, nat_lit 0, .ofNat (nat_lit 0), nat_lit 0, nat_lit 0, nat_lit 0, []), (nat_lit 12, nat_lit 5, nat_lit 3, nat_lit 0, nat_lit 0, .ofNat (nat_lit 4), nat_lit 0, nat_lit 0, nat_lit 0, []), (nat_lit 15, nat_lit 3, nat_lit 1, nat_lit 0, nat_lit 0, .negSucc (nat_lit 0), nat_lit 0, nat_lit 0, nat_lit 0, [])], [(nat_lit 16, nat_lit 6, nat_lit 1, nat_lit 0, nat_lit 0, .ofNat (nat_lit 0), nat_lit 0, nat_lit 0, nat_lit 0, [])]]
def rx_c49 : List (List rx_E) := [[(nat_lit 0, nat_lit 0, nat_lit 1, nat_lit 0, nat_lit 0, .ofNat (nat_lit 0), nat_lit 0, nat_lit 0, nat_lit 0, []), (nat_lit 1, nat_lit 2, nat_lit 3, nat_lit 11, nat_lit 9, .ofNat (nat_lit 0), nat_lit 12, nat_lit 545, nat_lit 65, []), (nat_lit 4, nat_lit 8, nat_lit 3, nat_lit 87, nat_lit 50, .ofNat (nat_lit 0), nat_lit 0, nat_lit 773, nat_lit 132, []), (nat_lit 7, nat_lit 0, nat_lit 1, nat_lit 0, nat_lit 0, .ofNat (nat_lit 0), nat_lit 0, nat_lit 0, nat_lit 0, []), (nat_lit 8, nat_lit 2, nat_lit 3, nat_lit 11, nat_lit 6, .ofNat (nat_lit 0), nat_lit 12, nat_lit 542, nat_lit 50, []), (nat_lit 11, nat_lit 8, nat_lit 3, nat_lit 67, nat_lit 0, .ofNat (nat_lit 0), nat_lit 0, nat_lit 923, nat_lit 199, []), (nat_lit 14, nat_lit 6, nat_lit 1, nat_lit 0, nat_lit 0, .ofNat (nat_lit 0), nat_lit 0, nat_lit 0, nat_lit 0, [])]]
def rx_c50 : List (List rx_E) := [[(nat_lit 0, nat_lit 0, nat_lit 1, nat_lit 0, nat_lit 0, .ofNat (nat_lit 0), nat_lit 0, nat_lit 0, nat_lit 0, []), (nat_lit 1, nat_lit 1, nat_lit 1, nat_lit 1, nat_lit 0, .ofNat (nat_lit 0), nat_lit 0, nat_lit 0, nat_lit 0, []), (nat_lit 2, nat_lit 8, nat_lit 3, nat_lit 27, nat_lit 110, .ofNat (nat_lit 0), nat_lit 1, nat_lit 789, nat_lit 148, []), (nat_lit 5, nat_lit 14, nat_lit 3, nat_lit 0, nat_lit 0, .ofNat (nat_lit 11), nat_lit 0, nat_lit 0, nat_lit 0, [])], [(nat_lit 16, nat_lit 3, nat_lit 1, nat_lit 0, nat_lit 0, .negSucc (nat_lit 0), nat_lit 0, nat_lit 0, nat_lit 0, []), (nat_lit 17, nat_lit 6, nat_lit 1, nat_lit 0, nat_lit 0, .ofNat (nat_lit 0), nat_lit 0, nat_lit 0, nat_lit 0, [])]]
def rx_c51 : List (List rx_E) := [[(nat_lit 0, nat_lit 0, nat_lit 1, nat_lit 0, nat_lit 0, .ofNat (nat_lit 0), nat_lit 0, nat_lit 0, nat_lit 0, []), (nat_lit 1, nat_lit 2, nat_lit 3, nat_lit 11, nat_lit 3, .ofNat (nat_lit 0), nat_lit 12, nat_lit 539, nat_lit 31, []), (nat_lit 4, nat_lit 8, nat_lit 3, nat_lit 89, nat_lit 60, .ofNat (nat_lit 0), nat_lit 0, nat_lit 598, nat_lit 122, []), (nat_lit 7, nat_lit 14, nat_lit 3, nat_lit 0, nat_lit 1, .ofNat (nat_lit 5), nat_lit 0, nat_lit 0, nat_lit 0, []), (nat_lit 12, nat_lit 0, nat_lit 1, nat_lit 0, nat_lit 0, .ofNat (nat_lit 0), nat_lit 0, nat_lit 0, nat_lit 0, []), (nat_lit 13, nat_lit 2, nat_lit 3, nat_lit 11, nat_lit 1, .ofNat (nat_lit 0), nat_lit 12, nat_lit 537, nat_lit 19, [])], [(nat_lit 16, nat_lit 0, nat_lit 1, nat_lit 0, nat_lit 0, .ofNat (nat_lit 0), nat_lit 0, nat_lit 0, nat_lit 0, []), (nat_lit 17, nat_lit 2, nat_lit 3, nat_lit 11, nat_lit 2, .ofNat (nat_lit 0), nat_lit 12, nat_lit 538, nat_lit 23, []), (nat_lit 20, nat_lit 8, nat_lit 3, nat_lit 93, nat_lit 70, .ofNat (nat_lit 0), nat_lit 1, nat_lit 764, nat_lit 126, []), (nat_lit 23, nat_lit 0, nat_lit 1, nat_lit 0, nat_lit 0, .ofNat (nat_lit 0), nat_lit 0, nat_lit 0, nat_lit 0, []), (nat_lit 24, nat_lit 2, nat_lit 3, nat_lit 11, nat_lit 0, .ofNat (nat_lit 0), nat_lit 12, nat_lit 536, nat_lit 10, []), (nat_lit 27, nat_lit 3, nat_lit 1, nat_lit 0, nat_lit 0, .ofNat (nat_lit 0), nat_lit 0, nat_lit 0, nat_lit 0, []), (nat_lit 28, nat_lit 15, nat_lit 3, nat_lit 9, nat_lit 1, .ofNat (nat_lit 0), nat_lit 0, nat_lit 144, nat_lit 114, []), (nat_lit 31, nat_lit 0, nat_lit 1, nat_lit 0, nat_lit 0, .ofNat (nat_lit 0), nat_lit 0, nat_lit 0, nat_lit 0, [])], [(nat_lit 32, nat_lit 2, nat_lit 3, nat_lit 11, nat_lit 4, .ofNat (nat_lit 0), nat_lit 12, nat_lit 540, nat_lit 38, []), (nat_lit 35, nat_lit 0, nat_lit 1, nat_lit 0, nat_lit 0, .ofNat (nat_lit 0), nat_lit 0, nat_lit 0, nat_lit 0, []), (nat_lit 36, nat_lit 2, nat_lit 3, nat_lit 11, nat_lit 1, .ofNat (nat_lit 0), nat_lit 12, nat_lit 537, nat_lit 19, []), (nat_lit 39, nat_lit 8, nat_lit 3, nat_lit 78, nat_lit 20, .ofNat (nat_lit 0), nat_lit 1, nat_lit 526, nat_lit 110, []), (nat_lit 42, nat_lit 0, nat_lit 1, nat_lit 0, nat_lit 0, .ofNat (nat_lit 0), nat_lit 0, nat_lit 0, nat_lit 0, []), (nat_lit 43, nat_lit 2, nat_lit 3, nat_lit 11, nat_lit 6, .ofNat (nat_lit 0), nat_lit 12, nat_lit 542, nat_lit 50, []), (nat_lit 46, nat_lit 8, nat_lit 3, nat_lit 68, nat_lit 0, .ofNat (nat_lit 0), nat_lit 0, nat_lit 769, nat_lit 129, [])], [(nat_lit 49, nat_lit 0, nat_lit 1, nat_lit 0, nat_lit 0, .ofNat (nat_lit 0), nat_lit 0, nat_lit 0, nat_lit 0, []), (nat_lit 50, nat_lit 2, nat_lit 3, nat_lit 11, nat_lit 9, .ofNat (nat_lit 0), nat_lit 12, nat_lit 545, nat_lit 65, []), (nat_lit 53, nat_lit 8, nat_lit 3, nat_lit 87, nat_lit 50, .ofNat (nat_lit 0), nat_lit 0, nat_lit 773, nat_lit 132, []), (nat_lit 56, nat_lit 0, nat_lit 1, nat_lit 0, nat_lit 0, .ofNat (nat_lit 0), nat_lit 0, nat_lit 0, nat_lit 0, []), (nat_lit 57, nat_lit 2, nat_lit 3, nat_lit 11, nat_lit 11, .ofNat (nat_lit 0), nat_lit 12, nat_lit 547, nat_lit 81, []), (nat_lit 60, nat_lit 3, nat_lit 1, nat_lit 0, nat_lit 0, .ofNat (nat_lit 0), nat_lit 0, nat_lit 0, nat_lit 0, []), (nat_lit 61, nat_lit 15, nat_lit 3, nat_lit 4, nat_lit 4, .ofNat (nat_lit 0), nat_lit 0, nat_lit 419, nat_lit 133, [])], [(nat_lit 64, nat_lit 0, nat_lit 1, nat_lit 0, nat_lit 0, .ofNat (nat_lit 0), nat_lit 0, nat_lit 0, nat_lit 0, []), (nat_lit 65, nat_lit 2, nat_lit 3, nat_lit 11, nat_lit 10, .ofNat (nat_lit 0), nat_lit 12, nat_lit 546, nat_lit 74, []), (nat_lit 68, nat_lit 8, nat_lit 3, nat_lit 95, nat_lit 80, .ofNat (nat_lit 0), nat_lit 0, nat_lit 777, nat_lit 136, []), (nat_lit 71, nat_lit 3, nat_lit 1, nat_lit 0, nat_lit 0, .ofNat (nat_lit 0), nat_lit 0, nat_lit 0, nat_lit 0, []), (nat_lit 72, nat_lit 11, nat_lit 1, nat_lit 1, nat_lit 0, .ofNat (nat_lit 0), nat_lit 0, nat_lit 0, nat_lit 0, []), (nat_lit 73, nat_lit 1, nat_lit 1, nat_lit 1, nat_lit 0, .ofNat (nat_lit 0), nat_lit 0, nat_lit 0, nat_lit 0, []), (nat_lit 74, nat_lit 3, nat_lit 1, nat_lit 0, nat_lit 0, .ofNat (nat_lit 3), nat_lit 0, nat_lit 0, nat_lit 0, []), (nat_lit 75, nat_lit 4, nat_lit 3, nat_lit 0, nat_lit 3, .ofNat (nat_lit 16), nat_lit 0, nat_lit 0, nat_lit 0, []), (nat_lit 78, nat_lit 0, nat_lit 1, nat_lit 0, nat_lit 0, .ofNat (nat_lit 0), nat_lit 0, nat_lit 0, nat_lit 0, []), (nat_lit 79, nat_lit 2, nat_lit 3, nat_lit 11, nat_lit 8, .ofNat (nat_lit 0), nat_lit 12, nat_lit 544, nat_lit 58, [])], [(nat_lit 82, nat_lit 1, nat_lit 1, nat_lit 1, nat_lit 0, .ofNat (nat_lit 0), nat_lit 0, nat_lit 0, nat_lit 0, []), (nat_lit 83, nat_lit 3, nat_lit 1, nat_lit 0, nat_lit 0, .ofNat (nat_lit 0), nat_lit 0, nat_lit 0, nat_lit 0, []), (nat_lit 84, nat_lit 13, nat_lit 1, nat_lit 0, nat_lit 0, .ofNat (nat_lit 0), nat_lit 0, nat_lit 0, nat_lit 0, []), (nat_lit 85, nat_lit 7, nat_lit 3, nat_lit 1, nat_lit 0, .ofNat (nat_lit 1), nat_lit 0, nat_lit 0, nat_lit 0, []), (nat_lit 88, nat_lit 5, nat_lit 3, nat_lit 0, nat_lit 0, .negSucc (nat_lit 14), nat_lit 0, nat_lit 0, nat_lit 0, []), (nat_lit 91, nat_lit 0, nat_lit 1, nat_lit 0, nat_lit 0, .ofNat (nat_lit 0), nat_lit 0, nat_lit 0, nat_lit 0, []), (nat_lit 92, nat_lit 2, nat_lit 3, nat_lit 11, nat_lit 1, .ofNat (nat_lit 0), nat_lit 12, nat_lit 537, nat_lit 19, []), (nat_lit 95, nat_lit 2, nat_lit 3, nat_lit 7, nat_lit 2, .ofNat (nat_lit 0), nat_lit 0, nat_lit 187, nat_lit 139, [])], [(nat_lit 98, nat_lit 6, nat_lit 1, nat_lit 0, nat_lit 0, .ofNat (nat_lit 0), nat_lit 0, nat_lit 0, nat_lit 0, [])]]
def rx_c52 : List (List rx_E) := [[(nat_lit 0, nat_lit 0, nat_lit 1, nat_lit 0, nat_lit 0, .ofNat (nat_lit 0), nat_lit 0, nat_lit 0, nat_lit 0, []), (nat_lit 1, nat_lit 1, nat_lit 1, nat_lit 1, nat_lit 0, .ofNat (nat_lit 0), nat_lit 0, nat_lit 0, nat_lit 0, []), (nat_lit 2, nat_lit 8, nat_lit 3, nat_lit 29, nat_lit 110, .ofNat (nat_lit 0), nat_lit 1, nat_lit 797, nat_lit 156, []), (nat_lit 5, nat_lit 14, nat_lit 3, nat_lit 0, nat_lit 0, .ofNat (nat_lit 11), nat_lit 0, nat_lit 0, nat_lit 0, [])], [(nat_lit 16, nat_lit 3, nat_lit 1, nat_lit 0, nat_lit 0, .negSucc (nat_lit 0), nat_lit 0, nat_lit 0, nat_lit 0, []), (nat_lit 17, nat_lit 6, nat_lit 1, nat_lit 0, nat_lit 0, .ofNat (nat_lit 0), nat_lit 0, nat_lit 0, nat_lit 0, [])]]
def rx_c53 : List (List rx_E) := [[(nat_lit 0, nat_lit 0, nat_lit 1, nat_lit 0, nat_lit 0, .ofNat (nat_lit 0), nat_lit 0, nat_lit 0, nat_lit 0, []), (nat_lit 1, nat_lit 1, nat_lit 1, nat_lit 1, nat_lit 0, .ofNat (nat_lit 0), nat_lit 0, nat_lit 0, nat_lit 0, []), (nat_lit 2, nat_lit 8, nat_lit 3, nat_lit 27, nat_lit 110, .ofNat (nat_lit 0), nat_lit 1, nat_lit 789, nat_lit 148, []), (nat_lit 5, nat_lit 14, nat_lit 3, nat_lit 0, nat_lit 0, .ofNat (nat_lit 22), nat_lit 0, nat_lit 0, nat_lit 0, [])], [(nat_lit 27, nat_lit 3, nat_lit 1, nat_lit 0, nat_lit 0, .negSucc (nat_lit 0), nat_lit 0, nat_lit 0, nat_lit 0, []), (nat_lit 28, nat_lit 6, nat_lit 1, nat_lit 0, nat_lit 0, .ofNat (nat_lit 0), nat_lit 0, nat_lit 0, nat_lit 0, [])]]
def rx_c54 : List (List rx_E) := [[(nat_lit 0, nat_lit 0, nat_lit 1, nat_lit 0, nat_lit 0, .ofNat (nat_lit 0), nat_lit 0, nat_lit 0, nat_lit 0, []), (nat_lit 1, nat_lit 2, nat_lit 3, nat_lit 11, nat_lit 12, .ofNat (nat_lit 0), nat_lit 12, nat_lit 548, nat_lit 90, []), (nat_lit 4, nat_lit 1, nat_lit 1, nat_lit 2, nat_lit 0, .ofNat (nat_lit 0), nat_lit 0, nat_lit 0, nat_lit 0, []), (nat_lit 5, nat_lit 8, nat_lit 3, nat_lit 81, nat_lit 30, .ofNat (nat_lit 0), nat_lit 1, nat_lit 1160, nat_lit 289, []), (nat_lit 8, nat_lit 0, nat_lit 1, nat_lit 0, nat_lit 0, .ofNat (nat_lit 0), nat_lit 0, nat_lit 0, nat_lit 0, []), (nat_lit 9, nat_lit 2, nat_lit 3, nat_lit 11, nat_lit 12, .ofNat (nat_lit 0), nat_lit 12, nat_lit 548, nat_lit 90, []), (nat_lit 12, nat_lit 2, nat_lit 3, nat_lit 3, nat_lit 5, .ofNat (nat_lit 0), nat_lit 0, nat_lit 452, nat_lit 292, []), (nat_lit 15, nat_lit 14, nat_lit 3, nat_lit 0, nat_lit 1, .ofNat (nat_lit 5), nat_lit 0, nat_lit 0, nat_lit 0, [])], [(nat_lit 20, nat_lit 21, nat_lit 2, nat_lit 0, nat_lit 0, .ofNat (nat_lit 8), nat_lit 0, nat_lit 0, nat_lit 0, []), (nat_lit 22, nat_lit 11, nat_lit 1, nat_lit 3, nat_lit 0, .ofNat (nat_lit 0), nat_lit 0, nat_lit 0, nat_lit 0, []), (nat_lit 23, nat_lit 3, nat_lit 1, nat_lit 0, nat_lit 0, .ofNat (nat_lit 0), nat_lit 0, nat_lit 0, nat_lit 0, []), (nat_lit 24, nat_lit 25, nat_lit 2, nat_lit 4, nat_lit 0, .ofNat (nat_lit 0), nat_lit 0, nat_lit 0, nat_lit 0, []), (nat_lit 26, nat_lit 3, nat_lit 1, nat_lit 0, nat_lit 0, .ofNat (nat_lit 0), nat_lit 0, nat_lit 0, nat_lit 0, []), (nat_lit 27, nat_lit 25, nat_lit 2, nat_lit 5, nat_lit 0, .ofNat (nat_lit 0), nat_lit 0, nat_lit 0, nat_lit 0, []), (nat_lit 29, nat_lit 22, nat_lit 2, nat_lit 5, nat_lit 0, .ofNat (nat_lit 0), nat_lit 0, nat_lit 0, nat_lit 0, []), (nat_lit 31, nat_lit 0, nat_lit 1, nat_lit 0, nat_lit 0, .ofNat (nat_lit 0), nat_lit 0, nat_lit 0, nat_lit 0, [])], [(nat_lit 32, nat_lit 2, nat_lit 3, nat_lit 11, nat_lit 12, .ofNat (nat_lit 0), nat_lit 12, nat_lit 548, nat_lit 90, []), (nat_lit 35, nat_lit 2, nat_lit 3, nat_lit 3, nat_lit 5, .ofNat (nat_lit 0), nat_lit 0, nat_lit 452, nat_lit 292, []), (nat_lit 38, nat_lit 4, nat_lit 3, nat_lit 0, nat_lit 3, .ofNat (nat_lit 40), nat_lit 0, nat_lit 0, nat_lit 0, []), (nat_lit 41, nat_lit 0, nat_lit 1, nat_lit 0, nat_lit 0, .ofNat (nat_lit 0), nat_lit 0, nat_lit 0, nat_lit 0, []), (nat_lit 42, nat_lit 2, nat_lit 3, nat_lit 11, nat_lit 12, .ofNat (nat_lit 0), nat_lit 12, nat_lit 548, nat_lit 90, []), (nat_lit 45, nat_lit 2, nat_lit 3, nat_lit 3, nat_lit 4, .ofNat (nat_lit 0), nat_lit 12, nat_lit 448, nat_lit 299, [])], [(nat_lit 48, nat_lit 22, nat_lit 2, nat_lit 5, nat_lit 0, .ofNat (nat_lit 0), nat_lit 0, nat_lit 0, nat_lit 0, []), (nat_lit 50, nat_lit 9, nat_lit 1, nat_lit 0, nat_lit 0, .ofNat (nat_lit 0), nat_lit 0, nat_lit 0, nat_lit 0, []), (nat_lit 51, nat_lit 24, nat_lit 3, nat_lit 183, nat_lit 1, .ofNat (nat_lit 0), nat_lit 1, nat_lit 1082, nat_lit 258, []), (nat_lit 54, nat_lit 25, nat_lit 2, nat_lit 6, nat_lit 0, .ofNat (nat_lit 0), nat_lit 0, nat_lit 0, nat_lit 0, []), (nat_lit 56, nat_lit 1, nat_lit 1, nat_lit 3, nat_lit 0, .ofNat (nat_lit 0), nat_lit 0, nat_lit 0, nat_lit 0, []), (nat_lit 57, nat_lit 22, nat_lit 2, nat_lit 6, nat_lit 0, .ofNat (nat_lit 0), nat_lit 0, nat_lit 0, nat_lit 0, []), (nat_lit 59, nat_lit 51, nat_lit 3, nat_lit 0, nat_lit 0, .ofNat (nat_lit 0), nat_lit 0, nat_lit 1190, nat_lit 300, []), (nat_lit 62, nat_lit 11, nat_lit 1, nat_lit 3, nat_lit 0, .ofNat (nat_lit 0), nat_lit 0, nat_lit 0, nat_lit 0, []), (nat_lit 63, nat_lit 22, nat_lit 2, nat_lit 4, nat_lit 0, .ofNat (nat_lit 0), nat_lit 0, nat_lit 0, nat_lit 0, [])], [(nat_lit 65, nat_lit 22, nat_lit 2, nat_lit 6, nat_lit 0, .ofNat (nat_lit 0), nat_lit 0, nat_lit 0, nat_lit 0, []), (nat_lit 67, nat_lit 52, nat_lit 3, nat_lit 0, nat_lit 0, .ofNat (nat_lit 0), nat_lit 0, nat_lit 1191, nat_lit 305, []), (nat_lit 70, nat_lit 25, nat_lit 2, nat_lit 4, nat_lit 0, .ofNat (nat_lit 0), nat_lit 0, nat_lit 0, nat_lit 0, []), (nat_lit 72, nat_lit 7, nat_lit 3, nat_lit 5, nat_lit 0, .ofNat (nat_lit 1), nat_lit 0, nat_lit 0, nat_lit 0, []), (nat_lit 75, nat_lit 5, nat_lit 3, nat_lit 0, nat_lit 0, .negSucc (nat_lit 45), nat_lit 0, nat_lit 0, nat_lit 0, []), (nat_lit 78, nat_lit 1, nat_lit 1, nat_lit 1, nat_lit 0, .ofNat (nat_lit 0), nat_lit 0, nat_lit 0, nat_lit 0, []), (nat_lit 79, nat_lit 1, nat_lit 1, nat_lit 3, nat_lit 0, .ofNat (nat_lit 0), nat_lit 0, nat_lit 0, nat_lit 0, [])], [(nat_lit 80, nat_lit 22, nat_lit 2, nat_lit 4, nat_lit 0, .ofNat (nat_lit 0), nat_lit 0, nat_lit 0, nat_lit 0, []), (nat_lit 82, nat_lit 24, nat_lit 3, nat_lit 48, nat_lit 111, .ofNat (nat_lit 0), nat_lit 3, nat_lit 953, nat_lit 216, []), (nat_lit 85, nat_lit 6, nat_lit 1, nat_lit 0, nat_lit 0, .ofNat (nat_lit 0), nat_lit 0, nat_lit 0, nat_lit 0, [])]]
def rx_c55 : List (List rx_E) := [[(nat_lit 0, nat_lit 0, nat_lit 1, nat_lit 0, nat_lit 0, .ofNat (nat_lit 0), nat_lit 0, nat_lit 0, nat_lit 0, []), (nat_lit 1, nat_lit 2, nat_lit 3, nat_lit 11, nat_lit 12, .ofNat (nat_lit 0), nat_lit 12, nat_lit 548, nat_lit 90, []), (nat_lit 4, nat_lit 1, nat_lit 1, nat_lit 2, nat_lit 0, .ofNat (nat_lit 0), nat_lit 0, nat_lit 0, nat_lit 0, []), (nat_lit 5, nat_lit 8, nat_lit 3, nat_lit 81, nat_lit 30, .ofNat (nat_lit 0), nat_lit 1, nat_lit 1160, nat_lit 289, []), (nat_lit 8, nat_lit 0, nat_lit 1, nat_lit 0, nat_lit 0, .ofNat (nat_lit 0), nat_lit 0, nat_lit 0, nat_lit 0, []), (nat_lit 9, nat_lit 1, nat_lit 1, nat_lit 1, nat_lit 0, .ofNat (nat_lit 0), nat_lit 0, nat_lit 0, nat_lit 0, []), (nat_lit 10, nat_lit 8, nat_lit 3, nat_lit 28, nat_lit 110, .ofNat (nat_lit 0), nat_lit 1, nat_lit 857, nat_lit 182, []), (nat_lit 13, nat_lit 14, nat_lit 3, nat_lit 0, nat_lit 0, .ofNat (nat_lit 13), nat_lit 0, nat_lit 0, nat_lit 0, [])], [(nat_lit 16, nat_lit 0, nat_lit 1, nat_lit 0, nat_lit 0, .ofNat (nat_lit 0), nat_lit 0, nat_lit 0, nat_lit 0, []), (nat_lit 17, nat_lit 2, nat_lit 3, nat_lit 11, nat_lit 12, .ofNat (nat_lit 0), nat_lit 12, nat_lit 548, nat_lit 90, []), (nat_lit 20, nat_lit 2, nat_lit 3, nat_lit 3, nat_lit 5, .ofNat (nat_lit 0), nat_lit 0, nat_lit 452, nat_lit 292, []), (nat_lit 23, nat_lit 14, nat_lit 3, nat_lit 0, nat_lit 1, .ofNat (nat_lit 5), nat_lit 0, nat_lit 0, nat_lit 0, []), (nat_lit 26, nat_lit 3, nat_lit 1, nat_lit 0, nat_lit 0, .negSucc (nat_lit 0), nat_lit 0, nat_lit 0, nat_lit 0, []), (nat_lit 27, nat_lit 6, nat_lit 1, nat_lit 0, nat_lit 0, .ofNat (nat_lit 0), nat_lit 0, nat_lit 0, nat_lit 0, []), (nat_lit 28, nat_lit 0, nat_lit 1, nat_lit 0, nat_lit 0, .ofNat (nat_lit 0), nat_lit 0, nat_lit 0, nat_lit 0, []), (nat_lit 29, nat_lit 2, nat_lit 3, nat_lit 11, nat_lit 12, .ofNat (nat_lit 0), nat_lit 12, nat_lit 548, nat_lit 90, [])], [(nat_lit 32, nat_lit 1, nat_lit 1, nat_lit 1, nat_lit 0, .ofNat (nat_lit 0), nat_lit 0, nat_lit 0, nat_lit 0, []), (nat_lit 33, nat_lit 8, nat_lit 3, nat_lit 82, nat_lit 30, .ofNat (nat_lit 0), nat_lit 1, nat_lit 1198, nat_lit 308, []), (nat_lit 36, nat_lit 11, nat_lit 1, nat_lit 3, nat_lit 0, .ofNat (nat_lit 0), nat_lit 0, nat_lit 0, nat_lit 0, []), (nat_lit 37, nat_lit 1, nat_lit 1, nat_lit 3, nat_lit 0, .ofNat (nat_lit 0), nat_lit 0, nat_lit 0, nat_lit 0, []), (nat_lit 38, nat_lit 0, nat_lit 1, nat_lit 0, nat_lit 0, .ofNat (nat_lit 0), nat_lit 0, nat_lit 0, nat_lit 0, []), (nat_lit 39, nat_lit 2, nat_lit 3, nat_lit 11, nat_lit 12, .ofNat (nat_lit 0), nat_lit 12, nat_lit 548, nat_lit 90, []), (nat_lit 42, nat_lit 2, nat_lit 3, nat_lit 3, nat_lit 5, .ofNat (nat_lit 0), nat_lit 0, nat_lit 452, nat_lit 292, []), (nat_lit 45, nat_lit 4, nat_lit 3, nat_lit 0, nat_lit 1, .ofNat (nat_lit 5), nat_lit 0, nat_lit 0, nat_lit 0, [])], [(nat_lit 50, nat_lit 1, nat_lit 1, nat_lit 3, nat_lit 0, .ofNat (nat_lit 0), nat_lit 0, nat_lit 0, nat_lit 0, []), (nat_lit 51, nat_lit 14, nat_lit 3, nat_lit 0, nat_lit 1, .ofNat (nat_lit 7), nat_lit 0, nat_lit 0, nat_lit 0, []), (nat_lit 58, nat_lit 21, nat_lit 2, nat_lit 0, nat_lit 0, .negSucc (nat_lit 1), nat_lit 0, nat_lit 0, nat_lit 0, []), (nat_lit 60, nat_lit 6, nat_lit 1, nat_lit 0, nat_lit 0, .ofNat (nat_lit 0), nat_lit 0, nat_lit 0, nat_lit 0, [])]]
def rx_c56 : List (List rx_E) := [[(nat_lit 0, nat_lit 0, nat_lit 1, nat_lit 0, nat_lit 0, .ofNat (nat_lit 0), nat_lit 0, nat_lit 0, nat_lit 0, []), (nat_lit 1, nat_lit 2, nat_lit 3, nat_lit 11, nat_lit 12, .ofNat (nat_lit 0), nat_lit 12, nat_lit 548, nat_lit 90, []), (nat_lit 4, nat_lit 1, nat_lit 1, nat_lit 2, nat_lit 0, .ofNat (nat_lit 0), nat_lit 0, nat_lit 0, nat_lit 0, []), (nat_lit 5, nat_lit 8, nat_lit 3, nat_lit 81, nat_lit 30, .ofNat (nat_lit 0), nat_lit 1, nat_lit 1160, nat_lit 289, []), (nat_lit 8, nat_lit 0, nat_lit 1, nat_lit 0, nat_lit 0, .ofNat (nat_lit 0), nat_lit 0, nat_lit 0, nat_lit 0, []), (nat_lit 9, nat_lit 2, nat_lit 3, nat_lit 11, nat_lit 14, .ofNat (nat_lit 0), nat_lit 12, nat_lit 550, nat_lit 106, []), (nat_lit 12, nat_lit 8, nat_lit 3, nat_lit 103, nat_lit 100, .ofNat (nat_lit 0), nat_lit 0, nat_lit 1262, nat_lit 329, []), (nat_lit 15, nat_lit 0, nat_lit 1, nat_lit 0, nat_lit 0, .ofNat (nat_lit 0), nat_lit 0, nat_lit 0, nat_lit 0, [])], [(nat_lit 16, nat_lit 2, nat_lit 3, nat_lit 11, nat_lit 14, .ofNat (nat_lit 0), nat_lit 12, nat_lit 550, nat_lit 106, []), (nat_lit 19, nat_lit 8, nat_lit 3, nat_lit 104, nat_lit 100, .ofNat (nat_lit 0), nat_lit 0, nat_lit 1276, nat_lit 332, []), (nat_lit 22, nat_lit 11, nat_lit 1, nat_lit 3, nat_lit 0, .ofNat (nat_lit 0), nat_lit 0, nat_lit 0, nat_lit 0, []), (nat_lit 23, nat_lit 1, nat_lit 1, nat_lit 3, nat_lit 0, .ofNat (nat_lit 0), nat_lit 0, nat_lit 0, nat_lit 0, []), (nat_lit 24, nat_lit 3, nat_lit 1, nat_lit 0, nat_lit 0, .negSucc (nat_lit 0), nat_lit 0, nat_lit 0, nat_lit 0, []), (nat_lit 25, nat_lit 4, nat_lit 3, nat_lit 0, nat_lit 1, .ofNat (nat_lit 7), nat_lit 0, nat_lit 0, nat_lit 0, []), (nat_lit 28, nat_lit 3, nat_lit 1, nat_lit 0, nat_lit 0, .negSucc (nat_lit 0), nat_lit 0, nat_lit 0, nat_lit 0, []), (nat_lit 29, nat_lit 5, nat_lit 3, nat_lit 0, nat_lit 0, .ofNat (nat_lit 12), nat_lit 0, nat_lit 0, nat_lit 0, [])], [(nat_lit 41, nat_lit 6, nat_lit 1, nat_lit 0, nat_lit 0, .ofNat (nat_lit 0), nat_lit 0, nat_lit 0, nat_lit 0, [])]]
def rx_c57 : List (List rx_E) := [[(nat_lit 0, nat_lit 3, nat_lit 1, nat_lit 0, nat_lit 0, .ofNat (nat_lit 0), nat_lit 0, nat_lit 0, nat_lit 0, []), (nat_lit 1, nat_lit 11, nat_lit 1, nat_lit 1, nat_lit 0, .ofNat (nat_lit 0), nat_lit 0, nat_lit 0, nat_lit 0, []), (nat_lit 2, nat_lit 3, nat_lit 1, nat_lit 0, nat_lit 0, .ofNat (nat_lit 0), nat_lit 0, nat_lit 0, nat_lit 0, []), (nat_lit 3, nat_lit 11, nat_lit 1, nat_lit 2, nat_lit 0, .ofNat (nat_lit 0), nat_lit 0, nat_lit 0, nat_lit 0, []), (nat_lit 4, nat_lit 1, nat_lit 1, nat_lit 2, nat_lit 0, .ofNat (nat_lit 0), nat_lit 0, nat_lit 0, nat_lit 0, []), (nat_lit 5, nat_lit 0, nat_lit 1, nat_lit 0, nat_lit 0, .ofNat (nat_lit 0), nat_lit 0, nat_lit 0, nat_lit 0, []), (nat_lit 6, nat_lit 2, nat_lit 3, nat_lit 11, nat_lit 1, .ofNat (nat_lit 0), nat_lit 12, nat_lit 537, nat_lit 19, []), (nat_lit 9, nat_lit 2, nat_lit 3, nat_lit 7, nat_lit 2, .ofNat (nat_lit 0), nat_lit 0, nat_lit 187, nat_lit 139, []), (nat_lit 12, nat_lit 4, nat_lit 3, nat_lit 0, nat_lit 3, .ofNat (nat_lit 30), nat_lit 0, nat_lit 0, nat_lit 0, [])], [], [(nat_lit 42, nat_lit 1, nat_lit 1, nat_lit 1, nat_lit 0, .ofNat (nat_lit 0), nat_lit 0, nat_lit 0, nat_lit 0, []), (nat_lit 43, nat_lit 6, nat_lit 1, nat_lit 0, nat_lit 0, .ofNat (nat_lit 0), nat_lit 0, nat_lit 0, nat_lit 0, [])]]
def rx_c58 : List (List rx_E) := [[(nat_lit 0, nat_lit 0, nat_lit 1, nat_lit 0, nat_lit 0, .ofNat (nat_lit 0), nat_lit 0, nat_lit 0, nat_lit 0, []), (nat_lit 1, nat_lit 1, nat_lit 1, nat_lit 1, nat_lit 0, .ofNat (nat_lit 0), nat_lit 0, nat_lit 0, nat_lit 0, []), (nat_lit 2, nat_lit 8, nat_lit 3, nat_lit 27, nat_lit 110, .ofNat (nat_lit 0), nat_lit 1, nat_lit 789, nat_lit 148, []), (nat_lit 5, nat_lit 14, nat_lit 3, nat_lit 0, nat_lit 0, .ofNat (nat_lit 16), nat_lit 0, nat_lit 0, nat_lit 0, [])], [(nat_lit 21, nat_lit 3, nat_lit 1, nat_lit 0, nat_lit 0, .negSucc (nat_lit 0), nat_lit 0, nat_lit 0, nat_lit 0, []), (nat_lit 22, nat_lit 6, nat_lit 1, nat_lit 0, nat_lit 0, .ofNat (nat_lit 0), nat_lit 0, nat_lit 0, nat_lit 0, [])]]
def rx_c59 : List (List rx_E) := [[(nat_lit 0, nat_lit 0, nat_lit 1, nat_lit 0, nat_lit 0, .ofNat (nat_lit 0), nat_lit 0, nat_lit 0, nat_lit 0, []), (nat_lit 1, nat_lit 2, nat_lit 3, nat_lit 11, nat_lit 9, .ofNat (nat_lit 0), nat_lit 12, nat_lit 545, nat_lit 65, []), (nat_lit 4, nat_lit 8, nat_lit 3, nat_lit 87, nat_lit 50, .ofNat (nat_lit 0), nat_lit 0, nat_lit 773, nat_lit 132, []), (nat_lit 7, nat_lit 0, nat_lit 1, nat_lit 0, nat_lit 0, .ofNat (nat_lit 0), nat_lit 0, nat_lit 0, nat_lit 0, []), (nat_lit 8, nat_lit 2, nat_lit 3, nat_lit 11, nat_lit 6, .ofNat (nat_lit 0), nat_lit 12, nat_lit 542, nat_lit 50, []), (nat_lit 11, nat_lit 8, nat_lit 3, nat_lit 71, nat_lit 0, .ofNat (nat_lit 0), nat_lit 0, nat_lit 911, nat_lit 196, []), (nat_lit 14, nat_lit 6, nat_lit 1, nat_lit 0, nat_lit 0, .ofNat (nat_lit 0), nat_lit 0, nat_lit 0, nat_lit 0, [])]]
def rx_c60 : List (List rx_E) := [[(nat_lit 0, nat_lit 0, nat_lit 1, nat_lit 0, nat_lit 0, .ofNat (nat_lit 0), nat_lit 0, nat_lit 0, nat_lit 0, []), (nat_lit 1, nat_lit 1, nat_lit 1, nat_lit 1, nat_lit 0, .ofNat (nat_lit 0), nat_lit 0, nat_lit 0, nat_lit 0, []), (nat_lit 2, nat_lit 8, nat_lit 3, nat_lit 29, nat_lit 110, .ofNat (nat_lit 0), nat_lit 1, nat_lit 797, nat_lit 156, []), (nat_lit 5, nat_lit 14, nat_lit 3, nat_lit 0, nat_lit 1, .ofNat (nat_lit 5), nat_lit 0, nat_lit 0, nat_lit 0, []), (nat_lit 8, nat_lit 3, nat_lit 1, nat_lit 0, nat_lit 0, .negSucc (nat_lit 0), nat_lit 0, nat_lit 0, nat_lit 0, []), (nat_lit 9, nat_lit 6, nat_lit 1, nat_lit 0, nat_lit 0, .ofNat (nat_lit 0), nat_lit 0, nat_lit 0, nat_lit 0, [])]]
def rx_c61 : List (List rx_E) := [[(nat_lit 0, nat_lit 0, nat_lit 1, nat_lit 0, nat_lit 0, .ofNat (nat_lit 0), nat_lit 0, nat_lit 0, nat_lit 0, []), (nat_lit 1, nat_lit 2, nat_lit 3, nat_lit 11, nat_lit 11, .ofNat (nat_lit 0), nat_lit 12, nat_lit 547, nat_lit 81, []), (nat_lit 4, nat_lit 1, nat_lit 1, nat_lit 1, nat_lit 0, .ofNat (nat_lit 0), nat_lit 0, nat_lit 0, nat_lit 0, []), (nat_lit 5, nat_lit 8, nat_lit 3, nat_lit 85, nat_lit 40, .ofNat (nat_lit 0), nat_lit 1, nat_lit 1147, nat_lit 283, []), (nat_lit 8, nat_lit 6, nat_lit 1, nat_lit 0, nat_lit 0, .ofNat (nat_lit 0), nat_lit 0, nat_lit 0, nat_lit 0, [])]]
def rx_c62 : List (List rx_E) := [[(nat_lit 0, nat_lit 0, nat_lit 1, nat_lit 0, nat_lit 0, .ofNat (nat_lit 0), nat_lit 0, nat_lit 0, nat_lit 0, []), (nat_lit 1, nat_lit 2, nat_lit 3, nat_lit 11, nat_lit 12, .ofNat (nat_lit 0), nat_lit 12, nat_lit 548, nat_lit 90, []), (nat_lit 4, nat_lit 1, nat_lit 1, nat_lit 1, nat_lit 0, .ofNat (nat_lit 0), nat_lit 0, nat_lit 0, nat_lit 0, []), (nat_lit 5, nat_lit 8, nat_lit 3, nat_lit 81, nat_lit 30, .ofNat (nat_lit 0), nat_lit 1, nat_lit 1160, nat_lit 289, []), (nat_lit 8, nat_lit 3, nat_lit 1, nat_lit 0, nat_lit 0, .ofNat (nat_lit 0), nat_lit 0, nat_lit 0, nat_lit 0, []), (nat_lit 9, nat_lit 11, nat_lit 1, nat_lit 2, nat_lit 0, .ofNat (nat_lit 0), nat_lit 0, nat_lit 0, nat_lit 0, []), (nat_lit 10, nat_lit 3, nat_lit 1, nat_lit 0, nat_lit 0, .ofNat (nat_lit 0), nat_lit 0, nat_lit 0, nat_lit 0, []), (nat_lit 11, nat_lit 11, nat_lit 1, nat_lit 3, nat_lit 0, .ofNat (nat_lit 0), nat_lit 0, nat_lit 0, nat_lit 0, []), (nat_lit 12, nat_lit 1, nat_lit 1, nat_lit 3, nat_lit 0, .ofNat (nat_lit 0), nat_lit 0, nat_lit 0, nat_lit 0, []), (nat_lit 13, nat_lit 0, nat_lit 1, nat_lit 0, nat_lit 0, .ofNat (nat_lit 0), nat_lit 0, nat_lit 0, nat_lit 0, []), (nat_lit 14, nat_lit 2, nat_lit 3, nat_lit 11, nat_lit 1, .ofNat (nat_lit 0), nat_lit 12, nat_lit 537, nat_lit 19, [])], [(nat_lit 17, nat_lit 2, nat_lit 3, nat_lit 7, nat_lit 1, .ofNat (nat_lit 0), nat_lit 0, nat_lit 182, nat_lit 274, []), (nat_lit 20, nat_lit 4, nat_lit 3, nat_lit 0, nat_lit 3, .ofNat (nat_lit 34), nat_lit 0, nat_lit 0, nat_lit 0, [])], [], [(nat_lit 54, nat_lit 1, nat_lit 1, nat_lit 2, nat_lit 0, .ofNat (nat_lit 0), nat_lit 0, nat_lit 0, nat_lit 0, []), (nat_lit 55, nat_lit 6, nat_lit 1, nat_lit 0, nat_lit 0, .ofNat (nat_lit 0), nat_lit 0, nat_lit 0, nat_lit 0, [])]]
def rx_c63 : List (List rx_E) := [[(nat_lit 0, nat_lit 0, nat_lit 1, nat_lit 0, nat_lit 0, .ofNat (nat_lit 0), nat_lit 0, nat_lit 0, nat_lit 0, []), (nat_lit 1, nat_lit 1, nat_lit 1, nat_lit 1, nat_lit 0, .ofNat (nat_lit 0), nat_lit 0, nat_lit 0, nat_lit 0, []), (nat_lit 2, nat_lit 8, nat_lit 3, nat_lit 29, nat_lit 110, .ofNat (nat_lit 0), nat_lit 1, nat_lit 797, nat_lit 156, []), (nat_lit 5, nat_lit 14, nat_lit 3, nat_lit 0, nat_lit 0, .ofNat (nat_lit 11), nat_lit 0, nat_lit 0, nat_lit 0, [])], [(nat_lit 16, nat_lit 3, nat_lit 1, nat_lit 0, nat_lit 0, .negSucc (nat_lit 0), nat_lit 0, nat_lit 0, nat_lit 0, []), (nat_lit 17, nat_lit 6, nat_lit 1, nat_lit 0, nat_lit 0, .ofNat (nat_lit 0), nat_lit 0, nat_lit 0, nat_lit 0, [])]]
def rx_c64 : List (List rx_E) := [[(nat_lit 0, nat_lit 0, nat_lit 1, nat_lit 0, nat_lit 0, .ofNat (nat_lit 0), nat_lit 0, nat_lit 0, nat_lit 0, []), (nat_lit 1, nat_lit 1, nat_lit 1, nat_lit 1, nat_lit 0, .ofNat (nat_lit 0), nat_lit 0, nat_lit 0, nat_lit 0, []), (nat_lit 2, nat_lit 8, nat_lit 3, nat_lit 29, nat_lit 110, .ofNat (nat_lit 0), nat_lit 1, nat_lit 797, nat_lit 156, []), (nat_lit 5, nat_lit 14, nat_lit 3, nat_lit 0, nat_lit 1, .ofNat (nat_lit 5), nat_lit 0, nat_lit 0, nat_lit 0, []), (nat_lit 8, nat_lit 3, nat_lit 1, nat_lit 0, nat_lit 0, .negSucc (nat_lit 0), nat_lit 0, nat_lit 0, nat_lit 0, []), (nat_lit 9, nat_lit 6, nat_lit 1, nat_lit 0, nat_lit 0, .ofNat (nat_lit 0), nat_lit 0, nat_lit 0, nat_lit 0, [])]]
def rx_c65 : List (List rx_E) := [[(nat_lit 0, nat_lit 0, nat_lit 1, nat_lit 0, nat_lit 0, .ofNat (nat_lit 0), nat_lit 0, nat_lit 0, nat_lit 0, []), (nat_lit 1, nat_lit 34, nat_lit 3, nat_lit 0, nat_lit 0, .ofNat (nat_lit 0), nat_lit 0, nat_lit 319, nat_lit 3, []), (nat_lit 4, nat_lit 0, nat_lit 1, nat_lit 0, nat_lit 0, .ofNat (nat_lit 0), nat_lit 0, nat_lit 0, nat_lit 0, []), (nat_lit 5, nat_lit 20, nat_lit 3, nat_lit 0, nat_lit 0, .ofNat (nat_lit 200), nat_lit 0, nat_lit 0, nat_lit 0, []), (nat_lit 8, nat_lit 32, nat_lit 2, nat_lit 0, nat_lit 0, .ofNat (nat_lit 0), nat_lit 0, nat_lit 0, nat_lit 0, []), (nat_lit 10, nat_lit 15, nat_lit 3, nat_lit 0, nat_lit 2, .ofNat (nat_lit 0), nat_lit 12, nat_lit 322, nat_lit 11, []), (nat_lit 13, nat_lit 0, nat_lit 1, nat_lit 0, nat_lit 0, .ofNat (nat_lit 0), nat_lit 0, nat_lit 0, nat_lit 0, []), (nat_lit 14, nat_lit 0, nat_lit 1, nat_lit 1, nat_lit 0, .ofNat (nat_lit 0), nat_lit 0, nat_lit 0, nat_lit 0, []), (nat_lit 15, nat_lit 15, nat_lit 3, nat_lit 0, nat_lit 0, .ofNat (nat_lit 0), nat_lit 12, nat_lit 320, nat_lit 15, [])], [(nat_lit 18, nat_lit 0, nat_lit 1, nat_lit 0, nat_lit 0, .ofNat (nat_lit 0), nat_lit 0, nat_lit 0, nat_lit 0, []), (nat_lit 19, nat_lit 0, nat_lit 1, nat_lit 2, nat_lit 0, .ofNat (nat_lit 0), nat_lit 0, nat_lit 0, nat_lit 0, []), (nat_lit 20, nat_lit 15, nat_lit 3, nat_lit 0, nat_lit 1, .ofNat (nat_lit 0), nat_lit 12, nat_lit 321, nat_lit 19, []), (nat_lit 23, nat_lit 26, nat_lit 1, nat_lit 0, nat_lit 0, .ofNat (nat_lit 0), nat_lit 0, nat_lit 0, nat_lit 0, [])]]
def rx_c66 : List (List rx_E) := [[(nat_lit 0, nat_lit 0, nat_lit 1, nat_lit 0, nat_lit 0, .ofNat (nat_lit 0), nat_lit 0, nat_lit 0, nat_lit 0, []), (nat_lit 1, nat_lit 2, nat_lit 3, nat_lit 0, nat_lit 3, .ofNat (nat_lit 0), nat_lit 0, nat_lit 323, nat_lit 23, []), (nat_lit 4, nat_lit 21, nat_lit 2, nat_lit 0, nat_lit 0, .ofNat (nat_lit 40), nat_lit 0, nat_lit 0, nat_lit 0, []), (nat_lit 6, nat_lit 4, nat_lit 3, nat_lit 0, nat_lit 2, .ofNat (nat_lit 25), nat_lit 0, nat_lit 0, nat_lit 0, [])], [(nat_lit 31, nat_lit 0, nat_lit 1, nat_lit 0, nat_lit 0, .ofNat (nat_lit 0), nat_lit 0, nat_lit 0, nat_lit 0, [])], [(nat_lit 32, nat_lit 2, nat_lit 3, nat_lit 0, nat_lit 3, .ofNat (nat_lit 0), nat_lit 0, nat_lit 323, nat_lit 23, []), (nat_lit 35, nat_lit 3, nat_lit 1, nat_lit 0, nat_lit 0, .ofNat (nat_lit 5), nat_lit 0, nat_lit 0, nat_lit 0, []), (nat_lit 36, nat_lit 28, nat_lit 1, nat_lit 0, nat_lit 0, .ofNat (nat_lit 0), nat_lit 0, nat_lit 0, nat_lit 0, []), (nat_lit 37, nat_lit 25, nat_lit 2, nat_lit 4, nat_lit 0, .ofNat (nat_lit 0), nat_lit 0, nat_lit 0, nat_lit 0, []), (nat_lit 39, nat_lit 0, nat_lit 1, nat_lit 0, nat_lit 0, .ofNat (nat_lit 0), nat_lit 0, nat_lit 0, nat_lit 0, []), (nat_lit 40, nat_lit 2, nat_lit 3, nat_lit 0, nat_lit 2, .ofNat (nat_lit 0), nat_lit 12, nat_lit 322, nat_lit 11, []), (nat_lit 43, nat_lit 22, nat_lit 2, nat_lit 4, nat_lit 0, .ofNat (nat_lit 0), nat_lit 0, nat_lit 0, nat_lit 0, []), (nat_lit 45, nat_lit 1, nat_lit 1, nat_lit 1, nat_lit 0, .ofNat (nat_lit 0), nat_lit 0, nat_lit 0, nat_lit 0, []), (nat_lit 46, nat_lit 10, nat_lit 1, nat_lit 0, nat_lit 0, .ofNat (nat_lit 0), nat_lit 0, nat_lit 0, nat_lit 0, []), (nat_lit 47, nat_lit 0, nat_lit 1, nat_lit 0, nat_lit 0, .ofNat (nat_lit 0), nat_lit 0, nat_lit 0, nat_lit 0, [])], [(nat_lit 48, nat_lit 2, nat_lit 3, nat_lit 0, nat_lit 2, .ofNat (nat_lit 0), nat_lit 12, nat_lit 322, nat_lit 11, []), (nat_lit 51, nat_lit 22, nat_lit 2, nat_lit 4, nat_lit 0, .ofNat (nat_lit 0), nat_lit 0, nat_lit 0, nat_lit 0, []), (nat_lit 53, nat_lit 3, nat_lit 1, nat_lit 0, nat_lit 0, .ofNat (nat_lit 1), nat_lit 0, nat_lit 0, nat_lit 0, []), (nat_lit 54, nat_lit 12, nat_lit 1, nat_lit 0, nat_lit 0, .ofNat (nat_lit 0), nat_lit 0, nat_lit 0, nat_lit 0, []), (nat_lit 55, nat_lit 1, nat_lit 1, nat_lit 2, nat_lit 0, .ofNat (nat_lit 0), nat_lit 0, nat_lit 0, nat_lit 0, []), (nat_lit 56, nat_lit 10, nat_lit 1, nat_lit 0, nat_lit 0, .ofNat (nat_lit 0), nat_lit 0, nat_lit 0, nat_lit 0, []), (nat_lit 57, nat_lit 0, nat_lit 1, nat_lit 0, nat_lit 0, .ofNat (nat_lit 0), nat_lit 0, nat_lit 0, nat_lit 0, []), (nat_lit 58, nat_lit 2, nat_lit 3, nat_lit 0, nat_lit 2, .ofNat (nat_lit 0), nat_lit 12, nat_lit 322, nat_lit 11, []), (nat_lit 61, nat_lit 22, nat_lit 2, nat_lit 4, nat_lit 0, .ofNat (nat_lit 0), nat_lit 0, nat_lit 0, nat_lit 0, []), (nat_lit 63, nat_lit 3, nat_lit 1, nat_lit 0, nat_lit 0, .ofNat (nat_lit 2), nat_lit 0, nat_lit 0, nat_lit 0, [])], [(nat_lit 64, nat_lit 12, nat_lit 1, nat_lit 0, nat_lit 0, .ofNat (nat_lit 0), nat_lit 0, nat_lit 0, nat_lit 0, []), (nat_lit 65, nat_lit 1, nat_lit 1, nat_lit 3, nat_lit 0, .ofNat (nat_lit 0), nat_lit 0, nat_lit 0, nat_lit 0, []), (nat_lit 66, nat_lit 10, nat_lit 1, nat_lit 0, nat_lit 0, .ofNat (nat_lit 0), nat_lit 0, nat_lit 0, nat_lit 0, []), (nat_lit 67, nat_lit 0, nat_lit 1, nat_lit 0, nat_lit 0, .ofNat (nat_lit 0), nat_lit 0, nat_lit 0, nat_lit 0, []), (nat_lit 68, nat_lit 2, nat_lit 3, nat_lit 0, nat_lit 2, .ofNat (nat_lit 0), nat_lit 12, nat_lit 322, nat_lit 11, []), (nat_lit 71, nat_lit 22, nat_lit 2, nat_lit 4, nat_lit 0, .ofNat (nat_lit 0), nat_lit 0, nat_lit 0, nat_lit 0, []), (nat_lit 73, nat_lit 3, nat_lit 1, nat_lit 0, nat_lit 0, .ofNat (nat_lit 3), nat_lit 0, nat_lit 0, nat_lit 0, []), (nat_lit 74, nat_lit 12, nat_lit 1, nat_lit 0, nat_lit 0, .ofNat (nat_lit 0), nat_lit 0, nat_lit 0, nat_lit 0, []), (nat_lit 75, nat_lit 0, nat_lit 1, nat_lit 0, nat_lit 0, .ofNat (nat_lit 0), nat_lit 0, nat_lit 0, nat_lit 0, []), (nat_lit 76, nat_lit 2, nat_lit 3, nat_lit 0, nat_lit 1, .ofNat (nat_lit 0), nat_lit 12, nat_lit 321, nat_lit 19, []), (nat_lit 79, nat_lit 2, nat_lit 3, nat_lit 2, nat_lit 4, .ofNat (nat_lit 0), nat_lit 0, nat_lit 301, nat_lit 36, [])], [(nat_lit 82, nat_lit 10, nat_lit 1, nat_lit 0, nat_lit 0, .ofNat (nat_lit 0), nat_lit 0, nat_lit 0, nat_lit 0, []), (nat_lit 83, nat_lit 0, nat_lit 1, nat_lit 0, nat_lit 0, .ofNat (nat_lit 0), nat_lit 0, nat_lit 0, nat_lit 0, []), (nat_lit 84, nat_lit 2, nat_lit 3, nat_lit 0, nat_lit 2, .ofNat (nat_lit 0), nat_lit 12, nat_lit 322, nat_lit 11, []), (nat_lit 87, nat_lit 22, nat_lit 2, nat_lit 4, nat_lit 0, .ofNat (nat_lit 0), nat_lit 0, nat_lit 0, nat_lit 0, []), (nat_lit 89, nat_lit 3, nat_lit 1, nat_lit 0, nat_lit 0, .ofNat (nat_lit 4), nat_lit 0, nat_lit 0, nat_lit 0, []), (nat_lit 90, nat_lit 12, nat_lit 1, nat_lit 0, nat_lit 0, .ofNat (nat_lit 0), nat_lit 0, nat_lit 0, nat_lit 0, []), (nat_lit 91, nat_lit 0, nat_lit 1, nat_lit 0, nat_lit 0, .ofNat (nat_lit 0), nat_lit 0, nat_lit 0, nat_lit 0, []), (nat_lit 92, nat_lit 1, nat_lit 1, nat_lit 1, nat_lit 0, .ofNat (nat_lit 0), nat_lit 0, nat_lit 0, nat_lit 0, []), (nat_lit 93, nat_lit 1, nat_lit 1, nat_lit 2, nat_lit 0, .ofNat (nat_lit 0), nat_lit 0, nat_lit 0, nat_lit 0, []), (nat_lit 94, nat_lit 8, nat_lit 3, nat_lit 70, nat_lit 0, .ofNat (nat_lit 0), nat_lit 2, nat_lit 866, nat_lit 41, [])], [(nat_lit 97, nat_lit 10, nat_lit 1, nat_lit 0, nat_lit 0, .ofNat (nat_lit 0), nat_lit 0, nat_lit 0, nat_lit 0, []), (nat_lit 98, nat_lit 0, nat_lit 1, nat_lit 0, nat_lit 0, .ofNat (nat_lit 0), nat_lit 0, nat_lit 0, nat_lit 0, []), (nat_lit 99, nat_lit 16, nat_lit 1, nat_lit 0, nat_lit 0, .ofNat (nat_lit 0), nat_lit 0, nat_lit 0, nat_lit 0, []), (nat_lit 100, nat_lit 2, nat_lit 3, nat_lit 0, nat_lit 3, .ofNat (nat_lit 0), nat_lit 0, nat_lit 323, nat_lit 23, []), (nat_lit 103, nat_lit 3, nat_lit 1, nat_lit 0, nat_lit 0, .ofNat (nat_lit 1), nat_lit 0, nat_lit 0, nat_lit 0, []), (nat_lit 104, nat_lit 12, nat_lit 1, nat_lit 0, nat_lit 0, .ofNat (nat_lit 0), nat_lit 0, nat_lit 0, nat_lit 0, []), (nat_lit 105, nat_lit 15, nat_lit 3, nat_lit 0, nat_lit 3, .ofNat (nat_lit 0), nat_lit 0, nat_lit 323, nat_lit 23, []), (nat_lit 108, nat_lit 0, nat_lit 1, nat_lit 0, nat_lit 0, .ofNat (nat_lit 0), nat_lit 0, nat_lit 0, nat_lit 0, []), (nat_lit 109, nat_lit 3, nat_lit 1, nat_lit 0, nat_lit 0, .ofNat (nat_lit 0), nat_lit 0, nat_lit 0, nat_lit 0, []), (nat_lit 110, nat_lit 15, nat_lit 3, nat_lit 0, nat_lit 4, .ofNat (nat_lit 0), nat_lit 0, nat_lit 325, nat_lit 27, [])], [(nat_lit 113, nat_lit 0, nat_lit 1, nat_lit 0, nat_lit 0, .ofNat (nat_lit 0), nat_lit 0, nat_lit 0, nat_lit 0, []), (nat_lit 114, nat_lit 1, nat_lit 1, nat_lit 1, nat_lit 0, .ofNat (nat_lit 0), nat_lit 0, nat_lit 0, nat_lit 0, []), (nat_lit 115, nat_lit 1, nat_lit 1, nat_lit 2, nat_lit 0, .ofNat (nat_lit 0), nat_lit 0, nat_lit 0, nat_lit 0, []), (nat_lit 116, nat_lit 1, nat_lit 1, nat_lit 3, nat_lit 0, .ofNat (nat_lit 0), nat_lit 0, nat_lit 0, nat_lit 0, []), (nat_lit 117, nat_lit 8, nat_lit 3, nat_lit 69, nat_lit 0, .ofNat (nat_lit 0), nat_lit 3, nat_lit 870, nat_lit 45, []), (nat_lit 120, nat_lit 26, nat_lit 1, nat_lit 0, nat_lit 0, .ofNat (nat_lit 0), nat_lit 0, nat_lit 0, nat_lit 0, [])]]
def rx_c67 : List (List rx_E) := [[(nat_lit 0, nat_lit 0, nat_lit 1, nat_lit 0, nat_lit 0, .ofNat (nat_lit 0), nat_lit 0, nat_lit 0, nat_lit 0, []), (nat_lit 1, nat_lit 2, nat_lit 3, nat_lit 0, nat_lit 4, .ofNat (nat_lit 0), nat_lit 0, nat_lit 325, nat_lit 27, []), (nat_lit 4, nat_lit 14, nat_lit 3, nat_lit 0, nat_lit 5, .ofNat (nat_lit 12), nat_lit 0, nat_lit 0, nat_lit 0, [])], [(nat_lit 16, nat_lit 3, nat_lit 1, nat_lit 0, nat_lit 0, .ofNat (nat_lit 0), nat_lit 0, nat_lit 0, nat_lit 0, []), (nat_lit 17, nat_lit 6, nat_lit 1, nat_lit 0, nat_lit 0, .ofNat (nat_lit 0), nat_lit 0, nat_lit 0, nat_lit 0, [])]]
def rx_c68 : List (List rx_E) := [[(nat_lit 0, nat_lit 0, nat_lit 1, nat_lit 0, nat_lit 0, .ofNat (nat_lit 0), nat_lit 0, nat_lit 0, nat_lit 0, []), (nat_lit 1, nat_lit 3, nat_lit 1, nat_lit 0, nat_lit 0, .ofNat (nat_lit 0), nat_lit 0, nat_lit 0, nat_lit 0, []), (nat_lit 2, nat_lit 15, nat_lit 3, nat_lit 0, nat_lit 3, .ofNat (nat_lit 0), nat_lit 0, nat_lit 323, nat_lit 23, []), (nat_lit 5, nat_lit 0, nat_lit 1, nat_lit 0, nat_lit 0, .ofNat (nat_lit 0), nat_lit 0, nat_lit 0, nat_lit 0, []), (nat_lit 6, nat_lit 3, nat_lit 1, nat_lit 0, nat_lit 0, .ofNat (nat_lit 0), nat_lit 0, nat_lit 0, nat_lit 0, []), (nat_lit 7, nat_lit 15, nat_lit 3, nat_lit 0, nat_lit 4, .ofNat (nat_lit 0), nat_lit 0, nat_lit 325, nat_lit 27, []), (nat_lit 10, nat_lit 26, nat_lit 1, nat_lit 0, nat_lit 0, .ofNat (nat_lit 0), nat_lit 0, nat_lit 0, nat_lit 0, [])]]
def rx_c69 : List (List rx_E) := [[(nat_lit 0, nat_lit 1, nat_lit 1, nat_lit 1, nat_lit 0, .ofNat (nat_lit 0), nat_lit 0, nat_lit 0, nat_lit 0, []), (nat_lit 1, nat_lit 38, nat_lit 31, nat_lit 0, nat_lit 0, .ofNat (nat_lit 119), nat_lit 3, nat_lit 0, nat_lit 0, [.ofNat (nat_lit 31), .ofNat (nat_lit 49), .ofNat (nat_lit 77), .ofNat (nat_lit 90)])], [], [], [], [], [], [], [(nat_lit 120, nat_lit 0, nat_lit 1, nat_lit 0, nat_lit 0, .ofNat (nat_lit 0), nat_lit 0, nat_lit 0, nat_lit 0, []), (nat_lit 121, nat_lit 2, nat_lit 3, nat_lit 0, nat_lit 1, .ofNat (nat_lit 0), nat_lit 12, nat_lit 321, nat_lit 19, []), (nat_lit 124, nat_lit 0, nat_lit 1, nat_lit 0, nat_lit 0, .ofNat (nat_lit 0), nat_lit 0, nat_lit 0, nat_lit 0, []), (nat_lit 125, nat_lit 2, nat_lit 3, nat_lit 0, nat_lit 0, .ofNat (nat_lit 0), nat_lit 12, nat_lit 320, nat_lit 15, [])], [(nat_lit 128, nat_lit 2, nat_lit 3, nat_lit 7, nat_lit 2, .ofNat (nat_lit 0), nat_lit 0, nat_lit 189, nat_lit 74, []), (nat_lit 131, nat_lit 8, nat_lit 3, nat_lit 77, nat_lit 20, .ofNat (nat_lit 0), nat_lit 1, nat_lit 878, nat_lit 77, []), (nat_lit 134, nat_lit 26, nat_lit 1, nat_lit 0, nat_lit 0, .ofNat (nat_lit 0), nat_lit 0, nat_lit 0, nat_lit 0, [])]]
def rx_c70 : List (List rx_E) := [[(nat_lit 0, nat_lit 1, nat_lit 1, nat_lit 1, nat_lit 0, .ofNat (nat_lit 0), nat_lit 0, nat_lit 0, nat_lit 0, []), (nat_lit 1, nat_lit 14, nat_lit 3, nat_lit 0, nat_lit 1, .ofNat (nat_lit 13), nat_lit 0, nat_lit 0, nat_lit 0, []), (nat_lit 14, nat_lit 1, nat_lit 1, nat_lit 1, nat_lit 0, .ofNat (nat_lit 0), nat_lit 0, nat_lit 0, nat_lit 0, []), (nat_lit 15, nat_lit 3, nat_lit 1, nat_lit 0, nat_lit 0, .ofNat (nat_lit 3), nat_lit 0, nat_lit 0, nat_lit 0, [])], [(nat_lit 16, nat_lit 4, nat_lit 3, nat_lit 0, nat_lit 1, .ofNat (nat_lit 13), nat_lit 0, nat_lit 0, nat_lit 0, []), (nat_lit 29, nat_lit 1, nat_lit 1, nat_lit 2, nat_lit 0, .ofNat (nat_lit 0), nat_lit 0, nat_lit 0, nat_lit 0, []), (nat_lit 30, nat_lit 3, nat_lit 1, nat_lit 0, nat_lit 0, .negSucc (nat_lit 0), nat_lit 0, nat_lit 0, nat_lit 0, []), (nat_lit 31, nat_lit 4, nat_lit 3, nat_lit 0, nat_lit 1, .ofNat (nat_lit 7), nat_lit 0, nat_lit 0, nat_lit 0, [])], [(nat_lit 34, nat_lit 3, nat_lit 1, nat_lit 0, nat_lit 0, .ofNat (nat_lit 0), nat_lit 0, nat_lit 0, nat_lit 0, []), (nat_lit 35, nat_lit 5, nat_lit 3, nat_lit 0, nat_lit 0, .ofNat (nat_lit 12), nat_lit 0, nat_lit 0, nat_lit 0, []), (nat_lit 47, nat_lit 6, nat_lit 1, nat_lit 0, nat_lit 0, .ofNat (nat_lit 0), nat_lit 0, nat_lit 0, nat_lit 0, [])]]
def rx_c71 : List (List rx_E) := [[(nat_lit 0, nat_lit 0, nat_lit 1, nat_lit 0, nat_lit 0, .ofNat (nat_lit 0), nat_lit 0, nat_lit 0, nat_lit 0, []), (nat_lit 1, nat_lit 2, nat_lit 3, nat_lit 0, nat_lit 3, .ofNat (nat_lit 0), nat_lit 0, nat_lit 323, nat_lit 23, []), (nat_lit 4, nat_lit 14, nat_lit 3, nat_lit 0, nat_lit 4, .ofNat (nat_lit 5), nat_lit 0, nat_lit 0, nat_lit 0, []), (nat_lit 7, nat_lit 3, nat_lit 1, nat_lit 0, nat_lit 0, .ofNat (nat_lit 0), nat_lit 0, nat_lit 0, nat_lit 0, []), (nat_lit 8, nat_lit 6, nat_lit 1, nat_lit 0, nat_lit 0, .ofNat (nat_lit 0), nat_lit 0, nat_lit 0, nat_lit 0, [])]]
def rx_c72 : List (List rx_E) := [[(nat_lit 0, nat_lit 0, nat_lit 1, nat_lit 0, nat_lit 0, .ofNat (nat_lit 0), nat_lit 0, nat_lit 0, nat_lit 0, []), (nat_lit 1, nat_lit 34, nat_lit 3, nat_lit 0, nat_lit 0, .ofNat (nat_lit 0), nat_lit 0, nat_lit 471, nat_lit 3, []), (nat_lit 4, nat_lit 0, nat_lit 1, nat_lit 0, nat_lit 0, .ofNat (nat_lit 0), nat_lit 0, nat_lit 0, nat_lit 0, []), (nat_lit 5, nat_lit 21, nat_lit 2, nat_lit 0, nat_lit 0, .ofNat (nat_lit 9), nat_lit 0, nat_lit 0, nat_lit 0, []), (nat_lit 7, nat_lit 21, nat_lit 2, nat_lit 0, nat_lit 0, .ofNat (nat_lit 10), nat_lit 0, nat_lit 0, nat_lit 0, []), (nat_lit 9, nat_lit 42, nat_lit 4, nat_lit 5, nat_lit 0, .ofNat (nat_lit 0), nat_lit 0, nat_lit 472, nat_lit 9, []), (nat_lit 13, nat_lit 15, nat_lit 3, nat_lit 1, nat_lit 3, .ofNat (nat_lit 0), nat_lit 12, nat_lit 476, nat_lit 11, [])], [(nat_lit 16, nat_lit 0, nat_lit 1, nat_lit 0, nat_lit 0, .ofNat (nat_lit 0), nat_lit 0, nat_lit 0, nat_lit 0, []), (nat_lit 17, nat_lit 20, nat_lit 3, nat_lit 0, nat_lit 0, .ofNat (nat_lit 1024), nat_lit 0, nat_lit 0, nat_lit 0, []), (nat_lit 20, nat_lit 32, nat_lit 2, nat_lit 0, nat_lit 0, .ofNat (nat_lit 0), nat_lit 0, nat_lit 0, nat_lit 0, []), (nat_lit 22, nat_lit 15, nat_lit 3, nat_lit 1, nat_lit 4, .ofNat (nat_lit 0), nat_lit 12, nat_lit 477, nat_lit 16, []), (nat_lit 25, nat_lit 0, nat_lit 1, nat_lit 0, nat_lit 0, .ofNat (nat_lit 0), nat_lit 0, nat_lit 0, nat_lit 0, []), (nat_lit 26, nat_lit 0, nat_lit 1, nat_lit 1, nat_lit 0, .ofNat (nat_lit 0), nat_lit 0, nat_lit 0, nat_lit 0, []), (nat_lit 27, nat_lit 15, nat_lit 3, nat_lit 1, nat_lit 0, .ofNat (nat_lit 0), nat_lit 12, nat_lit 473, nat_lit 20, []), (nat_lit 30, nat_lit 0, nat_lit 1, nat_lit 0, nat_lit 0, .ofNat (nat_lit 0), nat_lit 0, nat_lit 0, nat_lit 0, []), (nat_lit 31, nat_lit 0, nat_lit 1, nat_lit 2, nat_lit 0, .ofNat (nat_lit 0), nat_lit 0, nat_lit 0, nat_lit 0, [])], [(nat_lit 32, nat_lit 15, nat_lit 3, nat_lit 1, nat_lit 1, .ofNat (nat_lit 0), nat_lit 12, nat_lit 474, nat_lit 24, []), (nat_lit 35, nat_lit 0, nat_lit 1, nat_lit 0, nat_lit 0, .ofNat (nat_lit 0), nat_lit 0, nat_lit 0, nat_lit 0, []), (nat_lit 36, nat_lit 0, nat_lit 1, nat_lit 3, nat_lit 0, .ofNat (nat_lit 0), nat_lit 0, nat_lit 0, nat_lit 0, []), (nat_lit 37, nat_lit 15, nat_lit 3, nat_lit 1, nat_lit 2, .ofNat (nat_lit 0), nat_lit 12, nat_lit 475, nat_lit 28, []), (nat_lit 40, nat_lit 26, nat_lit 1, nat_lit 0, nat_lit 0, .ofNat (nat_lit 0), nat_lit 0, nat_lit 0, nat_lit 0, [])]]
def rx_c73 : List (List rx_E) := [[(nat_lit 0, nat_lit 0, nat_lit 1, nat_lit 0, nat_lit 0, .ofNat (nat_lit 0), nat_lit 0, nat_lit 0, nat_lit 0, []), (nat_lit 1, nat_lit 34, nat_lit 3, nat_lit 0, nat_lit 0, .ofNat (nat_lit 0), nat_lit 0, nat_lit 281, nat_lit 3, []), (nat_lit 4, nat_lit 0, nat_lit 1, nat_lit 0, nat_lit 0, .ofNat (nat_lit 0), nat_lit 0, nat_lit 0, nat_lit 0, []), (nat_lit 5, nat_lit 3, nat_lit 1, nat_lit 0, nat_lit 0, .ofNat (nat_lit 4), nat_lit 0, nat_lit 0, nat_lit 0, []), (nat_lit 6, nat_lit 32, nat_lit 2, nat_lit 0, nat_lit 0, .ofNat (nat_lit 0), nat_lit 0, nat_lit 0, nat_lit 0, []), (nat_lit 8, nat_lit 15, nat_lit 3, nat_lit 2, nat_lit 0, .ofNat (nat_lit 0), nat_lit 12, nat_lit 282, nat_lit 9, []), (nat_lit 11, nat_lit 0, nat_lit 1, nat_lit 0, nat_lit 0, .ofNat (nat_lit 0), nat_lit 0, nat_lit 0, nat_lit 0, []), (nat_lit 12, nat_lit 21, nat_lit 2, nat_lit 0, nat_lit 0, .ofNat (nat_lit 9), nat_lit 0, nat_lit 0, nat_lit 0, []), (nat_lit 14, nat_lit 32, nat_lit 2, nat_lit 0, nat_lit 0, .ofNat (nat_lit 0), nat_lit 0, nat_lit 0, nat_lit 0, [])], [(nat_lit 16, nat_lit 15, nat_lit 3, nat_lit 2, nat_lit 1, .ofNat (nat_lit 0), nat_lit 12, nat_lit 285, nat_lit 15, []), (nat_lit 19, nat_lit 0, nat_lit 1, nat_lit 0, nat_lit 0, .ofNat (nat_lit 0), nat_lit 0, nat_lit 0, nat_lit 0, []), (nat_lit 20, nat_lit 21, nat_lit 2, nat_lit 0, nat_lit 0, .ofNat (nat_lit 9), nat_lit 0, nat_lit 0, nat_lit 0, []), (nat_lit 22, nat_lit 32, nat_lit 2, nat_lit 0, nat_lit 0, .ofNat (nat_lit 0), nat_lit 0, nat_lit 0, nat_lit 0, []), (nat_lit 24, nat_lit 15, nat_lit 3, nat_lit 2, nat_lit 2, .ofNat (nat_lit 0), nat_lit 12, nat_lit 290, nat_lit 18, []), (nat_lit 27, nat_lit 26, nat_lit 1, nat_lit 0, nat_lit 0, .ofNat (nat_lit 0), nat_lit 0, nat_lit 0, nat_lit 0, [])]]
def rx_c74 : List (List rx_E) := [[(nat_lit 0, nat_lit 3, nat_lit 1, nat_lit 0, nat_lit 0, .ofNat (nat_lit 0), nat_lit 0, nat_lit 0, nat_lit 0, []), (nat_lit 1, nat_lit 11, nat_lit 1, nat_lit 2, nat_lit 0, .ofNat (nat_lit 0), nat_lit 0, nat_lit 0, nat_lit 0, []), (nat_lit 2, nat_lit 3, nat_lit 1, nat_lit 0, nat_lit 0, .ofNat (nat_lit 0), nat_lit 0, nat_lit 0, nat_lit 0, []), (nat_lit 3, nat_lit 11, nat_lit 1, nat_lit 3, nat_lit 0, .ofNat (nat_lit 0), nat_lit 0, nat_lit 0, nat_lit 0, []), (nat_lit 4, nat_lit 1, nat_lit 1, nat_lit 3, nat_lit 0, .ofNat (nat_lit 0), nat_lit 0, nat_lit 0, nat_lit 0, []), (nat_lit 5, nat_lit 1, nat_lit 1, nat_lit 1, nat_lit 0, .ofNat (nat_lit 0), nat_lit 0, nat_lit 0, nat_lit 0, []), (nat_lit 6, nat_lit 4, nat_lit 3, nat_lit 0, nat_lit 3, .ofNat (nat_lit 25), nat_lit 0, nat_lit 0, nat_lit 0, [])], [(nat_lit 31, nat_lit 1, nat_lit 1, nat_lit 2, nat_lit 0, .ofNat (nat_lit 0), nat_lit 0, nat_lit 0, nat_lit 0, [])], [(nat_lit 32, nat_lit 6, nat_lit 1, nat_lit 0, nat_lit 0, .ofNat (nat_lit 0), nat_lit 0, nat_lit 0, nat_lit 0, [])]]
def rx_c75 : List (List rx_E) := [[(nat_lit 0, nat_lit 1, nat_lit 1, nat_lit 1, nat_lit 0, .ofNat (nat_lit 0), nat_lit 0, nat_lit 0, nat_lit 0, []), (nat_lit 1, nat_lit 14, nat_lit 3, nat_lit 0, nat_lit 5, .ofNat (nat_lit 12), nat_lit 0, nat_lit 0, nat_lit 0, []), (nat_lit 13, nat_lit 3, nat_lit 1, nat_lit 0, nat_lit 0, .negSucc (nat_lit 0), nat_lit 0, nat_lit 0, nat_lit 0, []), (nat_lit 14, nat_lit 6, nat_lit 1, nat_lit 0, nat_lit 0, .ofNat (nat_lit 0), nat_lit 0, nat_lit 0, nat_lit 0, [])]]
def rx_c76 : List (List rx_E) := [[(nat_lit 0, nat_lit 0, nat_lit 1, nat_lit 0, nat_lit 0, .ofNat (nat_lit 0), nat_lit 0, nat_lit 0, nat_lit 0, []), (nat_lit 1, nat_lit 2, nat_lit 3, nat_lit 2, nat_lit 4, .ofNat (nat_lit 0), nat_lit 0, nat_lit 300, nat_lit 44, []), (nat_lit 4, nat_lit 20, nat_lit 3, nat_lit 0, nat_lit 0, .ofNat (nat_lit 137), nat_lit 0, nat_lit 0, nat_lit 0, []), (nat_lit 7, nat_lit 28, nat_lit 1, nat_lit 0, nat_lit 0, .ofNat (nat_lit 0), nat_lit 0, nat_lit 0, nat_lit 0, []), (nat_lit 8, nat_lit 21, nat_lit 2, nat_lit 0, nat_lit 0, .ofNat (nat_lit 71), nat_lit 0, nat_lit 0, nat_lit 0, []), (nat_lit 10, nat_lit 12, nat_lit 1, nat_lit 0, nat_lit 0, .ofNat (nat_lit 0), nat_lit 0, nat_lit 0, nat_lit 0, []), (nat_lit 11, nat_lit 20, nat_lit 3, nat_lit 0, nat_lit 0, .ofNat (nat_lit 1000), nat_lit 0, nat_lit 0, nat_lit 0, []), (nat_lit 14, nat_lit 31, nat_lit 1, nat_lit 0, nat_lit 0, .ofNat (nat_lit 0), nat_lit 0, nat_lit 0, nat_lit 0, []), (nat_lit 15, nat_lit 6, nat_lit 1, nat_lit 0, nat_lit 0, .ofNat (nat_lit 0), nat_lit 0, nat_lit 0, nat_lit 0, [])]]
def rx_c77 : List (List rx_E) := [[(nat_lit 0, nat_lit 0, nat_lit 1, nat_lit 0, nat_lit 0, .ofNat (nat_lit 0), nat_lit 0, nat_lit 0, nat_lit 0, []), (nat_lit 1, nat_lit 16, nat_lit 1, nat_lit 0, nat_lit 0, .ofNat (nat_lit 0), nat_lit 0, nat_lit 0, nat_lit 0, []), (nat_lit 2, nat_lit 2, nat_lit 3, nat_lit 2, nat_lit 3, .ofNat (nat_lit 0), nat_lit 0, nat_lit 295, nat_lit 37, []), (nat_lit 5, nat_lit 3, nat_lit 1, nat_lit 0, nat_lit 0, .ofNat (nat_lit 1), nat_lit 0, nat_lit 0, nat_lit 0, []), (nat_lit 6, nat_lit 12, nat_lit 1, nat_lit 0, nat_lit 0, .ofNat (nat_lit 0), nat_lit 0, nat_lit 0, nat_lit 0, []), (nat_lit 7, nat_lit 15, nat_lit 3, nat_lit 2, nat_lit 3, .ofNat (nat_lit 0), nat_lit 0, nat_lit 295, nat_lit 37, []), (nat_lit 10, nat_lit 0, nat_lit 1, nat_lit 0, nat_lit 0, .ofNat (nat_lit 0), nat_lit 0, nat_lit 0, nat_lit 0, []), (nat_lit 11, nat_lit 0, nat_lit 1, nat_lit 0, nat_lit 0, .ofNat (nat_lit 0), nat_lit 0, nat_lit 0, nat_lit 0, []), (nat_lit 12, nat_lit 8, nat_lit 3, nat_lit 76, nat_lit 20, .ofNat (nat_lit 0), nat_lit 0, nat_lit 882, nat_lit 47, []), (nat_lit 15, nat_lit 15, nat_lit 3, nat_lit 2, nat_lit 4, .ofNat (nat_lit 0), nat_lit 0, nat_lit 300, nat_lit 44, [])], [(nat_lit 18, nat_lit 1, nat_lit 1, nat_lit 1, nat_lit 0, .ofNat (nat_lit 0), nat_lit 0, nat_lit 0, nat_lit 0, []), (nat_lit 19, nat_lit 14, nat_lit 3, nat_lit 0, nat_lit 5, .ofNat (nat_lit 37), nat_lit 0, nat_lit 0, nat_lit 0, [])], [], [(nat_lit 56, nat_lit 26, nat_lit 1, nat_lit 0, nat_lit 0, .ofNat (nat_lit 0), nat_lit 0, nat_lit 0, nat_lit 0, [])]]
def rx_c78 : List (List rx_E) := [[(nat_lit 0, nat_lit 0, nat_lit 1, nat_lit 1, nat_lit 0, .ofNat (nat_lit 0), nat_lit 0, nat_lit 0, nat_lit 0, []), (nat_lit 1, nat_lit 2, nat_lit 3, nat_lit 7, nat_lit 5, .ofNat (nat_lit 0), nat_lit 12, nat_lit 197, nat_lit 21, []), (nat_lit 4, nat_lit 3, nat_lit 1, nat_lit 0, nat_lit 0, .ofNat (nat_lit 0), nat_lit 0, nat_lit 0, nat_lit 0, []), (nat_lit 5, nat_lit 0, nat_lit 1, nat_lit 0, nat_lit 0, .ofNat (nat_lit 0), nat_lit 0, nat_lit 0, nat_lit 0, []), (nat_lit 6, nat_lit 2, nat_lit 3, nat_lit 2, nat_lit 0, .ofNat (nat_lit 0), nat_lit 12, nat_lit 282, nat_lit 9, []), (nat_lit 9, nat_lit 3, nat_lit 1, nat_lit 0, nat_lit 0, .ofNat (nat_lit 0), nat_lit 0, nat_lit 0, nat_lit 0, []), (nat_lit 10, nat_lit 3, nat_lit 1, nat_lit 0, nat_lit 0, .ofNat (nat_lit 4), nat_lit 0, nat_lit 0, nat_lit 0, []), (nat_lit 11, nat_lit 35, nat_lit 3, nat_lit 0, nat_lit 0, .ofNat (nat_lit 0), nat_lit 0, nat_lit 530, nat_lit 24, []), (nat_lit 14, nat_lit 0, nat_lit 1, nat_lit 1, nat_lit 0, .ofNat (nat_lit 0), nat_lit 0, nat_lit 0, nat_lit 0, []), (nat_lit 15, nat_lit 2, nat_lit 3, nat_lit 7, nat_lit 8, .ofNat (nat_lit 0), nat_lit 12, nat_lit 206, nat_lit 30, [])], [(nat_lit 18, nat_lit 3, nat_lit 1, nat_lit 0, nat_lit 0, .ofNat (nat_lit 0), nat_lit 0, nat_lit 0, nat_lit 0, []), (nat_lit 19, nat_lit 0, nat_lit 1, nat_lit 0, nat_lit 0, .ofNat (nat_lit 0), nat_lit 0, nat_lit 0, nat_lit 0, []), (nat_lit 20, nat_lit 2, nat_lit 3, nat_lit 2, nat_lit 1, .ofNat (nat_lit 0), nat_lit 12, nat_lit 285, nat_lit 15, []), (nat_lit 23, nat_lit 3, nat_lit 1, nat_lit 0, nat_lit 0, .ofNat (nat_lit 0), nat_lit 0, nat_lit 0, nat_lit 0, []), (nat_lit 24, nat_lit 21, nat_lit 2, nat_lit 0, nat_lit 0, .ofNat (nat_lit 9), nat_lit 0, nat_lit 0, nat_lit 0, []), (nat_lit 26, nat_lit 35, nat_lit 3, nat_lit 0, nat_lit 0, .ofNat (nat_lit 0), nat_lit 0, nat_lit 530, nat_lit 24, []), (nat_lit 29, nat_lit 0, nat_lit 1, nat_lit 0, nat_lit 0, .ofNat (nat_lit 0), nat_lit 0, nat_lit 0, nat_lit 0, []), (nat_lit 30, nat_lit 2, nat_lit 3, nat_lit 2, nat_lit 2, .ofNat (nat_lit 0), nat_lit 12, nat_lit 290, nat_lit 18, [])], [(nat_lit 33, nat_lit 3, nat_lit 1, nat_lit 0, nat_lit 0, .ofNat (nat_lit 0), nat_lit 0, nat_lit 0, nat_lit 0, []), (nat_lit 34, nat_lit 24, nat_lit 3, nat_lit 184, nat_lit 1, .ofNat (nat_lit 0), nat_lit 2, nat_lit 533, nat_lit 31, []), (nat_lit 37, nat_lit 0, nat_lit 1, nat_lit 0, nat_lit 0, .ofNat (nat_lit 0), nat_lit 0, nat_lit 0, nat_lit 0, []), (nat_lit 38, nat_lit 3, nat_lit 1, nat_lit 0, nat_lit 0, .ofNat (nat_lit 0), nat_lit 0, nat_lit 0, nat_lit 0, []), (nat_lit 39, nat_lit 15, nat_lit 3, nat_lit 2, nat_lit 3, .ofNat (nat_lit 0), nat_lit 0, nat_lit 295, nat_lit 37, []), (nat_lit 42, nat_lit 0, nat_lit 1, nat_lit 0, nat_lit 0, .ofNat (nat_lit 0), nat_lit 0, nat_lit 0, nat_lit 0, []), (nat_lit 43, nat_lit 0, nat_lit 1, nat_lit 1, nat_lit 0, .ofNat (nat_lit 0), nat_lit 0, nat_lit 0, nat_lit 0, []), (nat_lit 44, nat_lit 2, nat_lit 3, nat_lit 7, nat_lit 4, .ofNat (nat_lit 0), nat_lit 0, nat_lit 194, nat_lit 41, []), (nat_lit 47, nat_lit 15, nat_lit 3, nat_lit 2, nat_lit 4, .ofNat (nat_lit 0), nat_lit 0, nat_lit 300, nat_lit 44, [])], [(nat_lit 50, nat_lit 26, nat_lit 1, nat_lit 0, nat_lit 0, .ofNat (nat_lit 0), nat_lit 0, nat_lit 0, nat_lit 0, [])]]
def rx_c79 : List (List rx_E) := [[(nat_lit 0, nat_lit 0, nat_lit 1, nat_lit 1, nat_lit 0, .ofNat (nat_lit 0), nat_lit 0, nat_lit 0, nat_lit 0, []), (nat_lit 1, nat_lit 2, nat_lit 3, nat_lit 2, nat_lit 0, .ofNat (nat_lit 0), nat_lit 12, nat_lit 282, nat_lit 9, []), (nat_lit 4, nat_lit 3, nat_lit 1, nat_lit 0, nat_lit 0, .ofNat (nat_lit 0), nat_lit 0, nat_lit 0, nat_lit 0, []), (nat_lit 5, nat_lit 0, nat_lit 1, nat_lit 0, nat_lit 0, .ofNat (nat_lit 0), nat_lit 0, nat_lit 0, nat_lit 0, []), (nat_lit 6, nat_lit 2, nat_lit 3, nat_lit 2, nat_lit 0, .ofNat (nat_lit 0), nat_lit 12, nat_lit 282, nat_lit 9, []), (nat_lit 9, nat_lit 3, nat_lit 1, nat_lit 0, nat_lit 0, .ofNat (nat_lit 0), nat_lit 0, nat_lit 0, nat_lit 0, []), (nat_lit 10, nat_lit 3, nat_lit 1, nat_lit 0, nat_lit 0, .ofNat (nat_lit 4), nat_lit 0, nat_lit 0, nat_lit 0, []), (nat_lit 11, nat_lit 35, nat_lit 3, nat_lit 0, nat_lit 0, .ofNat (nat_lit 0), nat_lit 0, nat_lit 530, nat_lit 24, []), (nat_lit 14, nat_lit 0, nat_lit 1, nat_lit 1, nat_lit 0, .ofNat (nat_lit 0), nat_lit 0, nat_lit 0, nat_lit 0, []), (nat_lit 15, nat_lit 2, nat_lit 3, nat_lit 2, nat_lit 1, .ofNat (nat_lit 0), nat_lit 12, nat_lit 285, nat_lit 15, [])], [(nat_lit 18, nat_lit 3, nat_lit 1, nat_lit 0, nat_lit 0, .ofNat (nat_lit 0), nat_lit 0, nat_lit 0, nat_lit 0, []), (nat_lit 19, nat_lit 0, nat_lit 1, nat_lit 0, nat_lit 0, .ofNat (nat_lit 0), nat_lit 0, nat_lit 0, nat_lit 0, []), (nat_lit 20, nat_lit 2, nat_lit 3, nat_lit 2, nat_lit 1, .ofNat (nat_lit 0), nat_lit 12, nat_lit 285, nat_lit 15, []), (nat_lit 23, nat_lit 3, nat_lit 1, nat_lit 0, nat_lit 0, .ofNat (nat_lit 0), nat_lit 0, nat_lit 0, nat_lit 0, []), (nat_lit 24, nat_lit 21, nat_lit 2, nat_lit 0, nat_lit 0, .ofNat (nat_lit 9), nat_lit 0, nat_lit 0, nat_lit 0, []), (nat_lit 26, nat_lit 35, nat_lit 3, nat_lit 0, nat_lit 0, .ofNat (nat_lit 0), nat_lit 0, nat_lit 530, nat_lit 24, []), (nat_lit 29, nat_lit 0, nat_lit 1, nat_lit 1, nat_lit 0, .ofNat (nat_lit 0), nat_lit 0, nat_lit 0, nat_lit 0, []), (nat_lit 30, nat_lit 2, nat_lit 3, nat_lit 2, nat_lit 2, .ofNat (nat_lit 0), nat_lit 12, nat_lit 290, nat_lit 18, [])], [(nat_lit 33, nat_lit 3, nat_lit 1, nat_lit 0, nat_lit 0, .ofNat (nat_lit 0), nat_lit 0, nat_lit 0, nat_lit 0, []), (nat_lit 34, nat_lit 0, nat_lit 1, nat_lit 0, nat_lit 0, .ofNat (nat_lit 0), nat_lit 0, nat_lit 0, nat_lit 0, []), (nat_lit 35, nat_lit 2, nat_lit 3, nat_lit 2, nat_lit 2, .ofNat (nat_lit 0), nat_lit 12, nat_lit 290, nat_lit 18, []), (nat_lit 38, nat_lit 3, nat_lit 1, nat_lit 0, nat_lit 0, .ofNat (nat_lit 0), nat_lit 0, nat_lit 0, nat_lit 0, []), (nat_lit 39, nat_lit 21, nat_lit 2, nat_lit 0, nat_lit 0, .ofNat (nat_lit 9), nat_lit 0, nat_lit 0, nat_lit 0, []), (nat_lit 41, nat_lit 35, nat_lit 3, nat_lit 0, nat_lit 0, .ofNat (nat_lit 0), nat_lit 0, nat_lit 530, nat_lit 24, []), (nat_lit 44, nat_lit 0, nat_lit 1, nat_lit 0, nat_lit 0, .ofNat (nat_lit 0), nat_lit 0, nat_lit 0, nat_lit 0, []), (nat_lit 45, nat_lit 0, nat_lit 1, nat_lit 1, nat_lit 0, .ofNat (nat_lit 0), nat_lit 0, nat_lit 0, nat_lit 0, []), (nat_lit 46, nat_lit 2, nat_lit 3, nat_lit 2, nat_lit 3, .ofNat (nat_lit 0), nat_lit 0, nat_lit 295, nat_lit 37, [])], [(nat_lit 49, nat_lit 15, nat_lit 3, nat_lit 2, nat_lit 3, .ofNat (nat_lit 0), nat_lit 0, nat_lit 295, nat_lit 37, []), (nat_lit 52, nat_lit 0, nat_lit 1, nat_lit 0, nat_lit 0, .ofNat (nat_lit 0), nat_lit 0, nat_lit 0, nat_lit 0, []), (nat_lit 53, nat_lit 0, nat_lit 1, nat_lit 1, nat_lit 0, .ofNat (nat_lit 0), nat_lit 0, nat_lit 0, nat_lit 0, []), (nat_lit 54, nat_lit 2, nat_lit 3, nat_lit 2, nat_lit 4, .ofNat (nat_lit 0), nat_lit 0, nat_lit 300, nat_lit 44, []), (nat_lit 57, nat_lit 15, nat_lit 3, nat_lit 2, nat_lit 4, .ofNat (nat_lit 0), nat_lit 0, nat_lit 300, nat_lit 44, []), (nat_lit 60, nat_lit 26, nat_lit 1, nat_lit 0, nat_lit 0, .ofNat (nat_lit 0), nat_lit 0, nat_lit 0, nat_lit 0, [])]]
def rx_c80 : List (List rx_E) := [[(nat_lit 0, nat_lit 0, nat_lit 1, nat_lit 0, nat_lit 0, .ofNat (nat_lit 0), nat_lit 0, nat_lit 0, nat_lit 0, []), (nat_lit 1, nat_lit 34, nat_lit 3, nat_lit 0, nat_lit 0, .ofNat (nat_lit 0), nat_lit 0, nat_lit 440, nat_lit 3, []), (nat_lit 4, nat_lit 0, nat_lit 1, nat_lit 0, nat_lit 0, .ofNat (nat_lit 0), nat_lit 0, nat_lit 0, nat_lit 0, []), (nat_lit 5, nat_lit 20, nat_lit 3, nat_lit 0, nat_lit 0, .ofNat (nat_lit 256), nat_lit 0, nat_lit 0, nat_lit 0, []), (nat_lit 8, nat_lit 32, nat_lit 2, nat_lit 0, nat_lit 0, .ofNat (nat_lit 0), nat_lit 0, nat_lit 0, nat_lit 0, []), (nat_lit 10, nat_lit 15, nat_lit 3, nat_lit 3, nat_lit 3, .ofNat (nat_lit 0), nat_lit 12, nat_lit 444, nat_lit 9, []), (nat_lit 13, nat_lit 0, nat_lit 1, nat_lit 0, nat_lit 0, .ofNat (nat_lit 0), nat_lit 0, nat_lit 0, nat_lit 0, []), (nat_lit 14, nat_lit 20, nat_lit 3, nat_lit 0, nat_lit 0, .ofNat (nat_lit 256), nat_lit 0, nat_lit 0, nat_lit 0, [])], [(nat_lit 17, nat_lit 32, nat_lit 2, nat_lit 0, nat_lit 0, .ofNat (nat_lit 0), nat_lit 0, nat_lit 0, nat_lit 0, []), (nat_lit 19, nat_lit 15, nat_lit 3, nat_lit 3, nat_lit 4, .ofNat (nat_lit 0), nat_lit 12, nat_lit 445, nat_lit 15, []), (nat_lit 22, nat_lit 0, nat_lit 1, nat_lit 0, nat_lit 0, .ofNat (nat_lit 0), nat_lit 0, nat_lit 0, nat_lit 0, []), (nat_lit 23, nat_lit 0, nat_lit 1, nat_lit 1, nat_lit 0, .ofNat (nat_lit 0), nat_lit 0, nat_lit 0, nat_lit 0, []), (nat_lit 24, nat_lit 15, nat_lit 3, nat_lit 3, nat_lit 0, .ofNat (nat_lit 0), nat_lit 12, nat_lit 441, nat_lit 18, []), (nat_lit 27, nat_lit 0, nat_lit 1, nat_lit 0, nat_lit 0, .ofNat (nat_lit 0), nat_lit 0, nat_lit 0, nat_lit 0, []), (nat_lit 28, nat_lit 0, nat_lit 1, nat_lit 2, nat_lit 0, .ofNat (nat_lit 0), nat_lit 0, nat_lit 0, nat_lit 0, []), (nat_lit 29, nat_lit 15, nat_lit 3, nat_lit 3, nat_lit 1, .ofNat (nat_lit 0), nat_lit 12, nat_lit 442, nat_lit 22, [])], [(nat_lit 32, nat_lit 0, nat_lit 1, nat_lit 0, nat_lit 0, .ofNat (nat_lit 0), nat_lit 0, nat_lit 0, nat_lit 0, []), (nat_lit 33, nat_lit 0, nat_lit 1, nat_lit 3, nat_lit 0, .ofNat (nat_lit 0), nat_lit 0, nat_lit 0, nat_lit 0, []), (nat_lit 34, nat_lit 15, nat_lit 3, nat_lit 3, nat_lit 2, .ofNat (nat_lit 0), nat_lit 12, nat_lit 443, nat_lit 26, []), (nat_lit 37, nat_lit 26, nat_lit 1, nat_lit 0, nat_lit 0, .ofNat (nat_lit 0), nat_lit 0, nat_lit 0, nat_lit 0, [])]]
def rx_c81 : List (List rx_E) := [[(nat_lit 0, nat_lit 0, nat_lit 1, nat_lit 0, nat_lit 0, .ofNat (nat_lit 0), nat_lit 0, nat_lit 0, nat_lit 0, []), (nat_lit 1, nat_lit 0, nat_lit 1, nat_lit 0, nat_lit 0, .ofNat (nat_lit 0), nat_lit 0, nat_lit 0, nat_lit 0, []), (nat_lit 2, nat_lit 2, nat_lit 3, nat_lit 3, nat_lit 0, .ofNat (nat_lit 0), nat_lit 12, nat_lit 441, nat_lit 18, []), (nat_lit 5, nat_lit 8, nat_lit 3, nat_lit 92, nat_lit 70, .ofNat (nat_lit 0), nat_lit 0, nat_lit 1164, nat_lit 30, []), (nat_lit 8, nat_lit 15, nat_lit 3, nat_lit 3, nat_lit 5, .ofNat (nat_lit 0), nat_lit 0, nat_lit 450, nat_lit 36, []), (nat_lit 11, nat_lit 3, nat_lit 1, nat_lit 0, nat_lit 0, .ofNat (nat_lit 0), nat_lit 0, nat_lit 0, nat_lit 0, []), (nat_lit 12, nat_lit 11, nat_lit 1, nat_lit 2, nat_lit 0, .ofNat (nat_lit 0), nat_lit 0, nat_lit 0, nat_lit 0, []), (nat_lit 13, nat_lit 1, nat_lit 1, nat_lit 2, nat_lit 0, .ofNat (nat_lit 0), nat_lit 0, nat_lit 0, nat_lit 0, []), (nat_lit 14, nat_lit 0, nat_lit 1, nat_lit 0, nat_lit 0, .ofNat (nat_lit 0), nat_lit 0, nat_lit 0, nat_lit 0, []), (nat_lit 15, nat_lit 2, nat_lit 3, nat_lit 3, nat_lit 5, .ofNat (nat_lit 0), nat_lit 0, nat_lit 450, nat_lit 36, [])], [(nat_lit 18, nat_lit 4, nat_lit 3, nat_lit 0, nat_lit 3, .ofNat (nat_lit 16), nat_lit 0, nat_lit 0, nat_lit 0, []), (nat_lit 21, nat_lit 0, nat_lit 1, nat_lit 0, nat_lit 0, .ofNat (nat_lit 0), nat_lit 0, nat_lit 0, nat_lit 0, []), (nat_lit 22, nat_lit 2, nat_lit 3, nat_lit 3, nat_lit 4, .ofNat (nat_lit 0), nat_lit 12, nat_lit 445, nat_lit 15, []), (nat_lit 25, nat_lit 1, nat_lit 1, nat_lit 2, nat_lit 0, .ofNat (nat_lit 0), nat_lit 0, nat_lit 0, nat_lit 0, []), (nat_lit 26, nat_lit 1, nat_lit 1, nat_lit 2, nat_lit 0, .ofNat (nat_lit 0), nat_lit 0, nat_lit 0, nat_lit 0, []), (nat_lit 27, nat_lit 10, nat_lit 1, nat_lit 0, nat_lit 0, .ofNat (nat_lit 0), nat_lit 0, nat_lit 0, nat_lit 0, []), (nat_lit 28, nat_lit 7, nat_lit 3, nat_lit 2, nat_lit 0, .ofNat (nat_lit 1), nat_lit 0, nat_lit 0, nat_lit 0, []), (nat_lit 31, nat_lit 5, nat_lit 3, nat_lit 0, nat_lit 0, .negSucc (nat_lit 17), nat_lit 0, nat_lit 0, nat_lit 0, [])], [(nat_lit 34, nat_lit 3, nat_lit 1, nat_lit 0, nat_lit 0, .ofNat (nat_lit 0), nat_lit 0, nat_lit 0, nat_lit 0, []), (nat_lit 35, nat_lit 11, nat_lit 1, nat_lit 2, nat_lit 0, .ofNat (nat_lit 0), nat_lit 0, nat_lit 0, nat_lit 0, []), (nat_lit 36, nat_lit 1, nat_lit 1, nat_lit 2, nat_lit 0, .ofNat (nat_lit 0), nat_lit 0, nat_lit 0, nat_lit 0, []), (nat_lit 37, nat_lit 0, nat_lit 1, nat_lit 0, nat_lit 0, .ofNat (nat_lit 0), nat_lit 0, nat_lit 0, nat_lit 0, []), (nat_lit 38, nat_lit 2, nat_lit 3, nat_lit 3, nat_lit 2, .ofNat (nat_lit 0), nat_lit 12, nat_lit 443, nat_lit 26, []), (nat_lit 41, nat_lit 2, nat_lit 3, nat_lit 4, nat_lit 4, .ofNat (nat_lit 0), nat_lit 0, nat_lit 418, nat_lit 40, []), (nat_lit 44, nat_lit 4, nat_lit 3, nat_lit 0, nat_lit 3, .ofNat (nat_lit 50), nat_lit 0, nat_lit 0, nat_lit 0, [])], [], [], [(nat_lit 94, nat_lit 26, nat_lit 1, nat_lit 0, nat_lit 0, .ofNat (nat_lit 0), nat_lit 0, nat_lit 0, nat_lit 0, [])]]
def rx_c82 : List (List rx_E) := [[(nat_lit 0, nat_lit 3, nat_lit 1, nat_lit 0, nat_lit 0, .ofNat (nat_lit 0), nat_lit 0, nat_lit 0, nat_lit 0, []), (nat_lit 1, nat_lit 11, nat_lit 1, nat_lit 2, nat_lit 0, .ofNat (nat_lit 0), nat_lit 0, nat_lit 0, nat_lit 0, []), (nat_lit 2, nat_lit 3, nat_lit 1, nat_lit 0, nat_lit 0, .ofNat (nat_lit 0), nat_lit 0, nat_lit 0, nat_lit 0, []), (nat_lit 3, nat_lit 11, nat_lit 1, nat_lit 3, nat_lit 0, .ofNat (nat_lit 0), nat_lit 0, nat_lit 0, nat_lit 0, []), (nat_lit 4, nat_lit 1, nat_lit 1, nat_lit 3, nat_lit 0, .ofNat (nat_lit 0), nat_lit 0, nat_lit 0, nat_lit 0, []), (nat_lit 5, nat_lit 0, nat_lit 1, nat_lit 0, nat_lit 0, .ofNat (nat_lit 0), nat_lit 0, nat_lit 0, nat_lit 0, []), (nat_lit 6, nat_lit 2, nat_lit 3, nat_lit 3, nat_lit 5, .ofNat (nat_lit 0), nat_lit 0, nat_lit 450, nat_lit 36, []), (nat_lit 9, nat_lit 4, nat_lit 3, nat_lit 0, nat_lit 3, .ofNat (nat_lit 22), nat_lit 0, nat_lit 0, nat_lit 0, []), (nat_lit 12, nat_lit 1, nat_lit 1, nat_lit 2, nat_lit 0, .ofNat (nat_lit 0), nat_lit 0, nat_lit 0, nat_lit 0, []), (nat_lit 13, nat_lit 0, nat_lit 1, nat_lit 0, nat_lit 0, .ofNat (nat_lit 0), nat_lit 0, nat_lit 0, nat_lit 0, []), (nat_lit 14, nat_lit 2, nat_lit 3, nat_lit 3, nat_lit 4, .ofNat (nat_lit 0), nat_lit 12, nat_lit 445, nat_lit 15, [])], [(nat_lit 17, nat_lit 1, nat_lit 1, nat_lit 3, nat_lit 0, .ofNat (nat_lit 0), nat_lit 0, nat_lit 0, nat_lit 0, []), (nat_lit 18, nat_lit 9, nat_lit 1, nat_lit 0, nat_lit 0, .ofNat (nat_lit 0), nat_lit 0, nat_lit 0, nat_lit 0, []), (nat_lit 19, nat_lit 1, nat_lit 1, nat_lit 1, nat_lit 0, .ofNat (nat_lit 0), nat_lit 0, nat_lit 0, nat_lit 0, []), (nat_lit 20, nat_lit 19, nat_lit 1, nat_lit 0, nat_lit 0, .ofNat (nat_lit 0), nat_lit 0, nat_lit 0, nat_lit 0, []), (nat_lit 21, nat_lit 3, nat_lit 1, nat_lit 0, nat_lit 0, .ofNat (nat_lit 1), nat_lit 0, nat_lit 0, nat_lit 0, []), (nat_lit 22, nat_lit 18, nat_lit 1, nat_lit 0, nat_lit 0, .ofNat (nat_lit 0), nat_lit 0, nat_lit 0, nat_lit 0, []), (nat_lit 23, nat_lit 12, nat_lit 1, nat_lit 0, nat_lit 0, .ofNat (nat_lit 0), nat_lit 0, nat_lit 0, nat_lit 0, []), (nat_lit 24, nat_lit 11, nat_lit 1, nat_lit 2, nat_lit 0, .ofNat (nat_lit 0), nat_lit 0, nat_lit 0, nat_lit 0, []), (nat_lit 25, nat_lit 7, nat_lit 3, nat_lit 3, nat_lit 0, .ofNat (nat_lit 1), nat_lit 0, nat_lit 0, nat_lit 0, []), (nat_lit 28, nat_lit 5, nat_lit 3, nat_lit 0, nat_lit 0, .negSucc (nat_lit 23), nat_lit 0, nat_lit 0, nat_lit 0, []), (nat_lit 31, nat_lit 1, nat_lit 1, nat_lit 2, nat_lit 0, .ofNat (nat_lit 0), nat_lit 0, nat_lit 0, nat_lit 0, [])], [(nat_lit 32, nat_lit 6, nat_lit 1, nat_lit 0, nat_lit 0, .ofNat (nat_lit 0), nat_lit 0, nat_lit 0, nat_lit 0, [])]]
def rx_c83 : List (List rx_E) := [[(nat_lit 0, nat_lit 0, nat_lit 1, nat_lit 0, nat_lit 0, .ofNat (nat_lit 0), nat_lit 0, nat_lit 0, nat_lit 0, []), (nat_lit 1, nat_lit 2, nat_lit 3, nat_lit 3, nat_lit 5, .ofNat (nat_lit 0), nat_lit 0, nat_lit 450, nat_lit 36, []), (nat_lit 4, nat_lit 14, nat_lit 3, nat_lit 0, nat_lit 5, .ofNat (nat_lit 12), nat_lit 0, nat_lit 0, nat_lit 0, []), (nat_lit 7, nat_lit 0, nat_lit 1, nat_lit 0, nat_lit 0, .ofNat (nat_lit 0), nat_lit 0, nat_lit 0, nat_lit 0, []), (nat_lit 8, nat_lit 2, nat_lit 3, nat_lit 3, nat_lit 4, .ofNat (nat_lit 0), nat_lit 12, nat_lit 445, nat_lit 15, []), (nat_lit 11, nat_lit 3, nat_lit 1, nat_lit 0, nat_lit 0, .ofNat (nat_lit 0), nat_lit 0, nat_lit 0, nat_lit 0, []), (nat_lit 12, nat_lit 9, nat_lit 1, nat_lit 0, nat_lit 0, .ofNat (nat_lit 0), nat_lit 0, nat_lit 0, nat_lit 0, []), (nat_lit 13, nat_lit 5, nat_lit 3, nat_lit 0, nat_lit 0, .ofNat (nat_lit 4), nat_lit 0, nat_lit 0, nat_lit 0, [])], [(nat_lit 17, nat_lit 6, nat_lit 1, nat_lit 0, nat_lit 0, .ofNat (nat_lit 0), nat_lit 0, nat_lit 0, nat_lit 0, [])]]
def rx_c84 : List (List rx_E) := [[(nat_lit 0, nat_lit 0, nat_lit 1, nat_lit 0, nat_lit 0, .ofNat (nat_lit 0), nat_lit 0, nat_lit 0, nat_lit 0, []), (nat_lit 1, nat_lit 34, nat_lit 3, nat_lit 0, nat_lit 0, .ofNat (nat_lit 0), nat_lit 0, nat_lit 410, nat_lit 3, []), (nat_lit 4, nat_lit 0, nat_lit 1, nat_lit 0, nat_lit 0, .ofNat (nat_lit 0), nat_lit 0, nat_lit 0, nat_lit 0, []), (nat_lit 5, nat_lit 21, nat_lit 2, nat_lit 0, nat_lit 0, .ofNat (nat_lit 30), nat_lit 0, nat_lit 0, nat_lit 0, []), (nat_lit 7, nat_lit 32, nat_lit 2, nat_lit 0, nat_lit 0, .ofNat (nat_lit 0), nat_lit 0, nat_lit 0, nat_lit 0, []), (nat_lit 9, nat_lit 15, nat_lit 3, nat_lit 4, nat_lit 0, .ofNat (nat_lit 0), nat_lit 12, nat_lit 411, nat_lit 9, []), (nat_lit 12, nat_lit 0, nat_lit 1, nat_lit 0, nat_lit 0, .ofNat (nat_lit 0), nat_lit 0, nat_lit 0, nat_lit 0, []), (nat_lit 13, nat_lit 21, nat_lit 2, nat_lit 0, nat_lit 0, .ofNat (nat_lit 30), nat_lit 0, nat_lit 0, nat_lit 0, []), (nat_lit 15, nat_lit 32, nat_lit 2, nat_lit 0, nat_lit 0, .ofNat (nat_lit 0), nat_lit 0, nat_lit 0, nat_lit 0, [])], [(nat_lit 17, nat_lit 15, nat_lit 3, nat_lit 4, nat_lit 1, .ofNat (nat_lit 0), nat_lit 12, nat_lit 413, nat_lit 15, []), (nat_lit 20, nat_lit 0, nat_lit 1, nat_lit 0, nat_lit 0, .ofNat (nat_lit 0), nat_lit 0, nat_lit 0, nat_lit 0, []), (nat_lit 21, nat_lit 21, nat_lit 2, nat_lit 0, nat_lit 0, .ofNat (nat_lit 30), nat_lit 0, nat_lit 0, nat_lit 0, []), (nat_lit 23, nat_lit 32, nat_lit 2, nat_lit 0, nat_lit 0, .ofNat (nat_lit 0), nat_lit 0, nat_lit 0, nat_lit 0, []), (nat_lit 25, nat_lit 15, nat_lit 3, nat_lit 4, nat_lit 2, .ofNat (nat_lit 0), nat_lit 12, nat_lit 415, nat_lit 18, []), (nat_lit 28, nat_lit 0, nat_lit 1, nat_lit 0, nat_lit 0, .ofNat (nat_lit 0), nat_lit 0, nat_lit 0, nat_lit 0, []), (nat_lit 29, nat_lit 21, nat_lit 2, nat_lit 0, nat_lit 0, .ofNat (nat_lit 30), nat_lit 0, nat_lit 0, nat_lit 0, []), (nat_lit 31, nat_lit 32, nat_lit 2, nat_lit 0, nat_lit 0, .ofNat (nat_lit 0), nat_lit 0, nat_lit 0, nat_lit 0, [])], [(nat_lit 33, nat_lit 15, nat_lit 3, nat_lit 4, nat_lit 3, .ofNat (nat_lit 0), nat_lit 12, nat_lit 416, nat_lit 21, []), (nat_lit 36, nat_lit 26, nat_lit 1, nat_lit 0, nat_lit 0, .ofNat (nat_lit 0), nat_lit 0, nat_lit 0, nat_lit 0, [])]]
def rx_c85 : List (List rx_E) := [[(nat_lit 0, nat_lit 1, nat_lit 1, nat_lit 1, nat_lit 0, .ofNat (nat_lit 0), nat_lit 0, nat_lit 0, nat_lit 0, []), (nat_lit 1, nat_lit 14, nat_lit 3, nat_lit 0, nat_lit 2, .ofNat (nat_lit 21), nat_lit 0, nat_lit 0, nat_lit 0, []), (nat_lit 4, nat_lit 1, nat_lit 1, nat_lit 1, nat_lit 0, .ofNat (nat_lit 0), nat_lit 0, nat_lit 0, nat_lit 0, []), (nat_lit 5, nat_lit 0, nat_lit 1, nat_lit 0, nat_lit 0, .ofNat (nat_lit 0), nat_lit 0, nat_lit 0, nat_lit 0, []), (nat_lit 6, nat_lit 2, nat_lit 3, nat_lit 4, nat_lit 4, .ofNat (nat_lit 0), nat_lit 0, nat_lit 417, nat_lit 24, []), (nat_lit 9, nat_lit 4, nat_lit 3, nat_lit 0, nat_lit 3, .ofNat (nat_lit 13), nat_lit 0, nat_lit 0, nat_lit 0, [])], [(nat_lit 22, nat_lit 3, nat_lit 1, nat_lit 0, nat_lit 0, .ofNat (nat_lit 0), nat_lit 0, nat_lit 0, nat_lit 0, []), (nat_lit 23, nat_lit 6, nat_lit 1, nat_lit 0, nat_lit 0, .ofNat (nat_lit 0), nat_lit 0, nat_lit 0, nat_lit 0, [])]]
def rx_c86 : List (List rx_E) := [[(nat_lit 0, nat_lit 0, nat_lit 1, nat_lit 0, nat_lit 0, .ofNat (nat_lit 0), nat_lit 0, nat_lit 0, nat_lit 0, []), (nat_lit 1, nat_lit 34, nat_lit 3, nat_lit 0, nat_lit 0, .ofNat (nat_lit 0), nat_lit 0, nat_lit 344, nat_lit 3, []), (nat_lit 4, nat_lit 0, nat_lit 1, nat_lit 0, nat_lit 0, .ofNat (nat_lit 0), nat_lit 0, nat_lit 0, nat_lit 0, []), (nat_lit 5, nat_lit 21, nat_lit 2, nat_lit 0, nat_lit 0, .ofNat (nat_lit 9), nat_lit 0, nat_lit 0, nat_lit 0, []), (nat_lit 7, nat_lit 20, nat_lit 3, nat_lit 0, nat_lit 0, .ofNat (nat_lit 256), nat_lit 0, nat_lit 0, nat_lit 0, []), (nat_lit 10, nat_lit 42, nat_lit 4, nat_lit 5, nat_lit 0, .ofNat (nat_lit 0), nat_lit 0, nat_lit 345, nat_lit 9, []), (nat_lit 14, nat_lit 15, nat_lit 3, nat_lit 5, nat_lit 2, .ofNat (nat_lit 0), nat_lit 12, nat_lit 349, nat_lit 11, [])], [(nat_lit 17, nat_lit 0, nat_lit 1, nat_lit 0, nat_lit 0, .ofNat (nat_lit 0), nat_lit 0, nat_lit 0, nat_lit 0, []), (nat_lit 18, nat_lit 21, nat_lit 2, nat_lit 0, nat_lit 0, .ofNat (nat_lit 9), nat_lit 0, nat_lit 0, nat_lit 0, []), (nat_lit 20, nat_lit 32, nat_lit 2, nat_lit 2, nat_lit 0, .ofNat (nat_lit 0), nat_lit 0, nat_lit 0, nat_lit 0, []), (nat_lit 22, nat_lit 15, nat_lit 3, nat_lit 5, nat_lit 3, .ofNat (nat_lit 0), nat_lit 12, nat_lit 350, nat_lit 16, []), (nat_lit 25, nat_lit 0, nat_lit 1, nat_lit 0, nat_lit 0, .ofNat (nat_lit 0), nat_lit 0, nat_lit 0, nat_lit 0, []), (nat_lit 26, nat_lit 20, nat_lit 3, nat_lit 0, nat_lit 0, .ofNat (nat_lit 256), nat_lit 0, nat_lit 0, nat_lit 0, []), (nat_lit 29, nat_lit 32, nat_lit 2, nat_lit 0, nat_lit 0, .ofNat (nat_lit 0), nat_lit 0, nat_lit 0, nat_lit 0, []), (nat_lit 31, nat_lit 15, nat_lit 3, nat_lit 5, nat_lit 4, .ofNat (nat_lit 0), nat_lit 12, nat_lit 351, nat_lit 20, [])], [(nat_lit 34, nat_lit 0, nat_lit 1, nat_lit 0, nat_lit 0, .ofNat (nat_lit 0), nat_lit 0, nat_lit 0, nat_lit 0, []), (nat_lit 35, nat_lit 20, nat_lit 3, nat_lit 0, nat_lit 0, .ofNat (nat_lit 256), nat_lit 0, nat_lit 0, nat_lit 0, []), (nat_lit 38, nat_lit 32, nat_lit 2, nat_lit 0, nat_lit 0, .ofNat (nat_lit 0), nat_lit 0, nat_lit 0, nat_lit 0, []), (nat_lit 40, nat_lit 15, nat_lit 3, nat_lit 5, nat_lit 5, .ofNat (nat_lit 0), nat_lit 12, nat_lit 352, nat_lit 24, []), (nat_lit 43, nat_lit 0, nat_lit 1, nat_lit 0, nat_lit 0, .ofNat (nat_lit 0), nat_lit 0, nat_lit 0, nat_lit 0, []), (nat_lit 44, nat_lit 21, nat_lit 2, nat_lit 0, nat_lit 0, .ofNat (nat_lit 81), nat_lit 0, nat_lit 0, nat_lit 0, []), (nat_lit 46, nat_lit 32, nat_lit 2, nat_lit 0, nat_lit 0, .ofNat (nat_lit 0), nat_lit 0, nat_lit 0, nat_lit 0, [])], [(nat_lit 48, nat_lit 15, nat_lit 3, nat_lit 5, nat_lit 8, .ofNat (nat_lit 0), nat_lit 12, nat_lit 357, nat_lit 27, []), (nat_lit 51, nat_lit 0, nat_lit 1, nat_lit 0, nat_lit 0, .ofNat (nat_lit 0), nat_lit 0, nat_lit 0, nat_lit 0, []), (nat_lit 52, nat_lit 0, nat_lit 1, nat_lit 1, nat_lit 0, .ofNat (nat_lit 0), nat_lit 0, nat_lit 0, nat_lit 0, []), (nat_lit 53, nat_lit 15, nat_lit 3, nat_lit 5, nat_lit 0, .ofNat (nat_lit 0), nat_lit 12, nat_lit 347, nat_lit 30, []), (nat_lit 56, nat_lit 0, nat_lit 1, nat_lit 0, nat_lit 0, .ofNat (nat_lit 0), nat_lit 0, nat_lit 0, nat_lit 0, []), (nat_lit 57, nat_lit 0, nat_lit 1, nat_lit 2, nat_lit 0, .ofNat (nat_lit 0), nat_lit 0, nat_lit 0, nat_lit 0, []), (nat_lit 58, nat_lit 15, nat_lit 3, nat_lit 5, nat_lit 1, .ofNat (nat_lit 0), nat_lit 12, nat_lit 348, nat_lit 34, []), (nat_lit 61, nat_lit 26, nat_lit 1, nat_lit 0, nat_lit 0, .ofNat (nat_lit 0), nat_lit 0, nat_lit 0, nat_lit 0, [])]]
def rx_c87 : List (List rx_E) := [[(nat_lit 0, nat_lit 3, nat_lit 1, nat_lit 0, nat_lit 0, .ofNat (nat_lit 0), nat_lit 0, nat_lit 0, nat_lit 0, []), (nat_lit 1, nat_lit 11, nat_lit 1, nat_lit 1, nat_lit 0, .ofNat (nat_lit 0), nat_lit 0, nat_lit 0, nat_lit 0, []), (nat_lit 2, nat_lit 1, nat_lit 1, nat_lit 1, nat_lit 0, .ofNat (nat_lit 0), nat_lit 0, nat_lit 0, nat_lit 0, []), (nat_lit 3, nat_lit 21, nat_lit 2, nat_lit 0, nat_lit 0, .ofNat (nat_lit 9), nat_lit 0, nat_lit 0, nat_lit 0, []), (nat_lit 5, nat_lit 4, nat_lit 3, nat_lit 0, nat_lit 3, .ofNat (nat_lit 16), nat_lit 0, nat_lit 0, nat_lit 0, []), (nat_lit 8, nat_lit 0, nat_lit 1, nat_lit 0, nat_lit 0, .ofNat (nat_lit 0), nat_lit 0, nat_lit 0, nat_lit 0, []), (nat_lit 9, nat_lit 2, nat_lit 3, nat_lit 5, nat_lit 3, .ofNat (nat_lit 0), nat_lit 12, nat_lit 350, nat_lit 16, []), (nat_lit 12, nat_lit 1, nat_lit 1, nat_lit 1, nat_lit 0, .ofNat (nat_lit 0), nat_lit 0, nat_lit 0, nat_lit 0, []), (nat_lit 13, nat_lit 3, nat_lit 1, nat_lit 0, nat_lit 0, .ofNat (nat_lit 0), nat_lit 0, nat_lit 0, nat_lit 0, []), (nat_lit 14, nat_lit 13, nat_lit 1, nat_lit 0, nat_lit 0, .ofNat (nat_lit 0), nat_lit 0, nat_lit 0, nat_lit 0, []), (nat_lit 15, nat_lit 7, nat_lit 3, nat_lit 1, nat_lit 0, .ofNat (nat_lit 1), nat_lit 0, nat_lit 0, nat_lit 0, [])], [(nat_lit 18, nat_lit 5, nat_lit 3, nat_lit 0, nat_lit 0, .negSucc (nat_lit 15), nat_lit 0, nat_lit 0, nat_lit 0, []), (nat_lit 21, nat_lit 26, nat_lit 1, nat_lit 0, nat_lit 0, .ofNat (nat_lit 0), nat_lit 0, nat_lit 0, nat_lit 0, [])]]
def rx_c88 : List (List rx_E) := [[(nat_lit 0, nat_lit 0, nat_lit 1, nat_lit 0, nat_lit 0, .ofNat (nat_lit 0), nat_lit 0, nat_lit 0, nat_lit 0, []), (nat_lit 1, nat_lit 34, nat_lit 3, nat_lit 0, nat_lit 0, .ofNat (nat_lit 0), nat_lit 0, nat_lit 247, nat_lit 3, []), (nat_lit 4, nat_lit 0, nat_lit 1, nat_lit 0, nat_lit 0, .ofNat (nat_lit 0), nat_lit 0, nat_lit 0, nat_lit 0, []), (nat_lit 5, nat_lit 3, nat_lit 1, nat_lit 0, nat_lit 0, .ofNat (nat_lit 4), nat_lit 0, nat_lit 0, nat_lit 0, []), (nat_lit 6, nat_lit 32, nat_lit 2, nat_lit 3, nat_lit 0, .ofNat (nat_lit 0), nat_lit 0, nat_lit 0, nat_lit 0, []), (nat_lit 8, nat_lit 15, nat_lit 3, nat_lit 6, nat_lit 1, .ofNat (nat_lit 0), nat_lit 12, nat_lit 249, nat_lit 9, []), (nat_lit 11, nat_lit 0, nat_lit 1, nat_lit 0, nat_lit 0, .ofNat (nat_lit 0), nat_lit 0, nat_lit 0, nat_lit 0, []), (nat_lit 12, nat_lit 21, nat_lit 2, nat_lit 0, nat_lit 0, .ofNat (nat_lit 9), nat_lit 0, nat_lit 0, nat_lit 0, []), (nat_lit 14, nat_lit 32, nat_lit 2, nat_lit 3, nat_lit 0, .ofNat (nat_lit 0), nat_lit 0, nat_lit 0, nat_lit 0, [])], [(nat_lit 16, nat_lit 15, nat_lit 3, nat_lit 6, nat_lit 2, .ofNat (nat_lit 0), nat_lit 12, nat_lit 250, nat_lit 15, []), (nat_lit 19, nat_lit 0, nat_lit 1, nat_lit 0, nat_lit 0, .ofNat (nat_lit 0), nat_lit 0, nat_lit 0, nat_lit 0, []), (nat_lit 20, nat_lit 3, nat_lit 1, nat_lit 0, nat_lit 0, .negSucc (nat_lit 0), nat_lit 0, nat_lit 0, nat_lit 0, []), (nat_lit 21, nat_lit 15, nat_lit 3, nat_lit 6, nat_lit 7, .ofNat (nat_lit 0), nat_lit 0, nat_lit 256, nat_lit 18, []), (nat_lit 24, nat_lit 0, nat_lit 1, nat_lit 0, nat_lit 0, .ofNat (nat_lit 0), nat_lit 0, nat_lit 0, nat_lit 0, []), (nat_lit 25, nat_lit 0, nat_lit 1, nat_lit 1, nat_lit 0, .ofNat (nat_lit 0), nat_lit 0, nat_lit 0, nat_lit 0, []), (nat_lit 26, nat_lit 15, nat_lit 3, nat_lit 6, nat_lit 0, .ofNat (nat_lit 0), nat_lit 12, nat_lit 248, nat_lit 22, []), (nat_lit 29, nat_lit 0, nat_lit 1, nat_lit 0, nat_lit 0, .ofNat (nat_lit 0), nat_lit 0, nat_lit 0, nat_lit 0, []), (nat_lit 30, nat_lit 0, nat_lit 1, nat_lit 2, nat_lit 0, .ofNat (nat_lit 0), nat_lit 0, nat_lit 0, nat_lit 0, []), (nat_lit 31, nat_lit 15, nat_lit 3, nat_lit 6, nat_lit 3, .ofNat (nat_lit 0), nat_lit 12, nat_lit 251, nat_lit 26, [])], [(nat_lit 34, nat_lit 26, nat_lit 1, nat_lit 0, nat_lit 0, .ofNat (nat_lit 0), nat_lit 0, nat_lit 0, nat_lit 0, [])]]
def rx_c89 : List (List rx_E) := [[(nat_lit 0, nat_lit 0, nat_lit 1, nat_lit 0, nat_lit 0, .ofNat (nat_lit 0), nat_lit 0, nat_lit 0, nat_lit 0, []), (nat_lit 1, nat_lit 2, nat_lit 3, nat_lit 6, nat_lit 3, .ofNat (nat_lit 0), nat_lit 12, nat_lit 251, nat_lit 26, []), (nat_lit 4, nat_lit 8, nat_lit 3, nat_lit 91, nat_lit 70, .ofNat (nat_lit 0), nat_lit 0, nat_lit 602, nat_lit 30, []), (nat_lit 7, nat_lit 0, nat_lit 1, nat_lit 0, nat_lit 0, .ofNat (nat_lit 0), nat_lit 0, nat_lit 0, nat_lit 0, []), (nat_lit 8, nat_lit 3, nat_lit 1, nat_lit 0, nat_lit 0, .ofNat (nat_lit 0), nat_lit 0, nat_lit 0, nat_lit 0, []), (nat_lit 9, nat_lit 15, nat_lit 3, nat_lit 6, nat_lit 4, .ofNat (nat_lit 0), nat_lit 1, nat_lit 252, nat_lit 35, []), (nat_lit 12, nat_lit 0, nat_lit 1, nat_lit 0, nat_lit 0, .ofNat (nat_lit 0), nat_lit 0, nat_lit 0, nat_lit 0, []), (nat_lit 13, nat_lit 3, nat_lit 1, nat_lit 0, nat_lit 0, .ofNat (nat_lit 0), nat_lit 0, nat_lit 0, nat_lit 0, []), (nat_lit 14, nat_lit 15, nat_lit 3, nat_lit 6, nat_lit 6, .ofNat (nat_lit 0), nat_lit 0, nat_lit 254, nat_lit 39, [])], [(nat_lit 17, nat_lit 0, nat_lit 1, nat_lit 0, nat_lit 0, .ofNat (nat_lit 0), nat_lit 0, nat_lit 0, nat_lit 0, []), (nat_lit 18, nat_lit 3, nat_lit 1, nat_lit 0, nat_lit 0, .negSucc (nat_lit 0), nat_lit 0, nat_lit 0, nat_lit 0, []), (nat_lit 19, nat_lit 15, nat_lit 3, nat_lit 6, nat_lit 7, .ofNat (nat_lit 0), nat_lit 0, nat_lit 256, nat_lit 18, []), (nat_lit 22, nat_lit 0, nat_lit 1, nat_lit 0, nat_lit 0, .ofNat (nat_lit 0), nat_lit 0, nat_lit 0, nat_lit 0, []), (nat_lit 23, nat_lit 2, nat_lit 3, nat_lit 6, nat_lit 0, .ofNat (nat_lit 0), nat_lit 12, nat_lit 248, nat_lit 22, []), (nat_lit 26, nat_lit 8, nat_lit 3, nat_lit 100, nat_lit 90, .ofNat (nat_lit 0), nat_lit 0, nat_lit 606, nat_lit 42, []), (nat_lit 29, nat_lit 3, nat_lit 1, nat_lit 0, nat_lit 0, .ofNat (nat_lit 0), nat_lit 0, nat_lit 0, nat_lit 0, []), (nat_lit 30, nat_lit 11, nat_lit 1, nat_lit 1, nat_lit 0, .ofNat (nat_lit 0), nat_lit 0, nat_lit 0, nat_lit 0, []), (nat_lit 31, nat_lit 1, nat_lit 1, nat_lit 1, nat_lit 0, .ofNat (nat_lit 0), nat_lit 0, nat_lit 0, nat_lit 0, [])], [(nat_lit 32, nat_lit 20, nat_lit 3, nat_lit 0, nat_lit 0, .ofNat (nat_lit 1600), nat_lit 0, nat_lit 0, nat_lit 0, []), (nat_lit 35, nat_lit 4, nat_lit 3, nat_lit 0, nat_lit 3, .ofNat (nat_lit 142), nat_lit 0, nat_lit 0, nat_lit 0, []), (nat_lit 38, nat_lit 0, nat_lit 1, nat_lit 0, nat_lit 0, .ofNat (nat_lit 0), nat_lit 0, nat_lit 0, nat_lit 0, []), (nat_lit 39, nat_lit 2, nat_lit 3, nat_lit 6, nat_lit 0, .ofNat (nat_lit 0), nat_lit 12, nat_lit 248, nat_lit 22, []), (nat_lit 42, nat_lit 2, nat_lit 3, nat_lit 9, nat_lit 3, .ofNat (nat_lit 0), nat_lit 0, nat_lit 147, nat_lit 47, []), (nat_lit 45, nat_lit 14, nat_lit 3, nat_lit 0, nat_lit 0, .ofNat (nat_lit 132), nat_lit 0, nat_lit 0, nat_lit 0, [])], [], [], [], [], [], [], [], [], [(nat_lit 177, nat_lit 3, nat_lit 1, nat_lit 0, nat_lit 0, .ofNat (nat_lit 1), nat_lit 0, nat_lit 0, nat_lit 0, []), (nat_lit 178, nat_lit 6, nat_lit 1, nat_lit 0, nat_lit 0, .ofNat (nat_lit 0), nat_lit 0, nat_lit 0, nat_lit 0, [])]]
def rx_c90 : List (List rx_E) := [[(nat_lit 0, nat_lit 0, nat_lit 1, nat_lit 0, nat_lit 0, .ofNat (nat_lit 0), nat_lit 0, nat_lit 0, nat_lit 0, []), (nat_lit 1, nat_lit 34, nat_lit 3, nat_lit 0, nat_lit 0, .ofNat (nat_lit 0), nat_lit 0, nat_lit 176, nat_lit 3, []), (nat_lit 4, nat_lit 0, nat_lit 1, nat_lit 0, nat_lit 0, .ofNat (nat_lit 0), nat_lit 0, nat_lit 0, nat_lit 0, []), (nat_lit 5, nat_lit 21, nat_lit 2, nat_lit 0, nat_lit 0, .ofNat (nat_lit 6), nat_lit 0, nat_lit 0, nat_lit 0, []), (nat_lit 7, nat_lit 15, nat_lit 3, nat_lit 7, nat_lit 0, .ofNat (nat_lit 0), nat_lit 0, nat_lit 177, nat_lit 9, []), (nat_lit 10, nat_lit 0, nat_lit 1, nat_lit 0, nat_lit 0, .ofNat (nat_lit 0), nat_lit 0, nat_lit 0, nat_lit 0, []), (nat_lit 11, nat_lit 3, nat_lit 1, nat_lit 0, nat_lit 0, .ofNat (nat_lit 4), nat_lit 0, nat_lit 0, nat_lit 0, []), (nat_lit 12, nat_lit 32, nat_lit 2, nat_lit 0, nat_lit 0, .ofNat (nat_lit 0), nat_lit 0, nat_lit 0, nat_lit 0, []), (nat_lit 14, nat_lit 15, nat_lit 3, nat_lit 7, nat_lit 5, .ofNat (nat_lit 0), nat_lit 12, nat_lit 196, nat_lit 15, [])], [(nat_lit 17, nat_lit 0, nat_lit 1, nat_lit 0, nat_lit 0, .ofNat (nat_lit 0), nat_lit 0, nat_lit 0, nat_lit 0, []), (nat_lit 18, nat_lit 21, nat_lit 2, nat_lit 0, nat_lit 0, .ofNat (nat_lit 9), nat_lit 0, nat_lit 0, nat_lit 0, []), (nat_lit 20, nat_lit 32, nat_lit 2, nat_lit 0, nat_lit 0, .ofNat (nat_lit 0), nat_lit 0, nat_lit 0, nat_lit 0, []), (nat_lit 22, nat_lit 15, nat_lit 3, nat_lit 7, nat_lit 6, .ofNat (nat_lit 0), nat_lit 12, nat_lit 199, nat_lit 19, []), (nat_lit 25, nat_lit 0, nat_lit 1, nat_lit 0, nat_lit 0, .ofNat (nat_lit 0), nat_lit 0, nat_lit 0, nat_lit 0, []), (nat_lit 26, nat_lit 21, nat_lit 2, nat_lit 0, nat_lit 0, .ofNat (nat_lit 9), nat_lit 0, nat_lit 0, nat_lit 0, []), (nat_lit 28, nat_lit 32, nat_lit 2, nat_lit 0, nat_lit 0, .ofNat (nat_lit 0), nat_lit 0, nat_lit 0, nat_lit 0, []), (nat_lit 30, nat_lit 15, nat_lit 3, nat_lit 7, nat_lit 7, .ofNat (nat_lit 0), nat_lit 12, nat_lit 202, nat_lit 22, [])], [(nat_lit 33, nat_lit 0, nat_lit 1, nat_lit 0, nat_lit 0, .ofNat (nat_lit 0), nat_lit 0, nat_lit 0, nat_lit 0, []), (nat_lit 34, nat_lit 21, nat_lit 2, nat_lit 0, nat_lit 0, .ofNat (nat_lit 9), nat_lit 0, nat_lit 0, nat_lit 0, []), (nat_lit 36, nat_lit 32, nat_lit 2, nat_lit 0, nat_lit 0, .ofNat (nat_lit 0), nat_lit 0, nat_lit 0, nat_lit 0, []), (nat_lit 38, nat_lit 15, nat_lit 3, nat_lit 7, nat_lit 8, .ofNat (nat_lit 0), nat_lit 12, nat_lit 205, nat_lit 25, []), (nat_lit 41, nat_lit 0, nat_lit 1, nat_lit 0, nat_lit 0, .ofNat (nat_lit 0), nat_lit 0, nat_lit 0, nat_lit 0, []), (nat_lit 42, nat_lit 20, nat_lit 3, nat_lit 0, nat_lit 0, .ofNat (nat_lit 640), nat_lit 0, nat_lit 0, nat_lit 0, []), (nat_lit 45, nat_lit 32, nat_lit 2, nat_lit 0, nat_lit 0, .ofNat (nat_lit 0), nat_lit 0, nat_lit 0, nat_lit 0, []), (nat_lit 47, nat_lit 15, nat_lit 3, nat_lit 7, nat_lit 9, .ofNat (nat_lit 0), nat_lit 12, nat_lit 208, nat_lit 28, [])], [(nat_lit 50, nat_lit 0, nat_lit 1, nat_lit 0, nat_lit 0, .ofNat (nat_lit 0), nat_lit 0, nat_lit 0, nat_lit 0, []), (nat_lit 51, nat_lit 21, nat_lit 2, nat_lit 0, nat_lit 0, .ofNat (nat_lit 10), nat_lit 0, nat_lit 0, nat_lit 0, []), (nat_lit 53, nat_lit 32, nat_lit 2, nat_lit 0, nat_lit 0, .ofNat (nat_lit 0), nat_lit 0, nat_lit 0, nat_lit 0, []), (nat_lit 55, nat_lit 15, nat_lit 3, nat_lit 7, nat_lit 10, .ofNat (nat_lit 0), nat_lit 12, nat_lit 209, nat_lit 31, []), (nat_lit 58, nat_lit 0, nat_lit 1, nat_lit 0, nat_lit 0, .ofNat (nat_lit 0), nat_lit 0, nat_lit 0, nat_lit 0, []), (nat_lit 59, nat_lit 21, nat_lit 2, nat_lit 0, nat_lit 0, .ofNat (nat_lit 30), nat_lit 0, nat_lit 0, nat_lit 0, []), (nat_lit 61, nat_lit 32, nat_lit 2, nat_lit 0, nat_lit 0, .ofNat (nat_lit 0), nat_lit 0, nat_lit 0, nat_lit 0, []), (nat_lit 63, nat_lit 15, nat_lit 3, nat_lit 7, nat_lit 12, .ofNat (nat_lit 0), nat_lit 12, nat_lit 213, nat_lit 34, [])], [(nat_lit 66, nat_lit 26, nat_lit 1, nat_lit 0, nat_lit 0, .ofNat (nat_lit 0), nat_lit 0, nat_lit 0, nat_lit 0, [])]]
def rx_c91 : List (List rx_E) := [[(nat_lit 0, nat_lit 0, nat_lit 1, nat_lit 0, nat_lit 0, .ofNat (nat_lit 0), nat_lit 0, nat_lit 0, nat_lit 0, []), (nat_lit 1, nat_lit 21, nat_lit 2, nat_lit 0, nat_lit 0, .ofNat (nat_lit 6), nat_lit 0, nat_lit 0, nat_lit 0, []), (nat_lit 3, nat_lit 15, nat_lit 3, nat_lit 7, nat_lit 0, .ofNat (nat_lit 0), nat_lit 0, nat_lit 177, nat_lit 9, []), (nat_lit 6, nat_lit 0, nat_lit 1, nat_lit 0, nat_lit 0, .ofNat (nat_lit 0), nat_lit 0, nat_lit 0, nat_lit 0, []), (nat_lit 7, nat_lit 3, nat_lit 1, nat_lit 0, nat_lit 0, .ofNat (nat_lit 0), nat_lit 0, nat_lit 0, nat_lit 0, []), (nat_lit 8, nat_lit 15, nat_lit 3, nat_lit 7, nat_lit 1, .ofNat (nat_lit 0), nat_lit 0, nat_lit 180, nat_lit 37, []), (nat_lit 11, nat_lit 0, nat_lit 1, nat_lit 0, nat_lit 0, .ofNat (nat_lit 0), nat_lit 0, nat_lit 0, nat_lit 0, []), (nat_lit 12, nat_lit 3, nat_lit 1, nat_lit 0, nat_lit 0, .ofNat (nat_lit 0), nat_lit 0, nat_lit 0, nat_lit 0, []), (nat_lit 13, nat_lit 15, nat_lit 3, nat_lit 7, nat_lit 2, .ofNat (nat_lit 0), nat_lit 0, nat_lit 183, nat_lit 40, [])], [(nat_lit 16, nat_lit 0, nat_lit 1, nat_lit 0, nat_lit 0, .ofNat (nat_lit 0), nat_lit 0, nat_lit 0, nat_lit 0, []), (nat_lit 17, nat_lit 3, nat_lit 1, nat_lit 0, nat_lit 0, .ofNat (nat_lit 0), nat_lit 0, nat_lit 0, nat_lit 0, []), (nat_lit 18, nat_lit 15, nat_lit 3, nat_lit 7, nat_lit 3, .ofNat (nat_lit 0), nat_lit 0, nat_lit 190, nat_lit 43, []), (nat_lit 21, nat_lit 0, nat_lit 1, nat_lit 0, nat_lit 0, .ofNat (nat_lit 0), nat_lit 0, nat_lit 0, nat_lit 0, []), (nat_lit 22, nat_lit 3, nat_lit 1, nat_lit 0, nat_lit 0, .ofNat (nat_lit 0), nat_lit 0, nat_lit 0, nat_lit 0, []), (nat_lit 23, nat_lit 15, nat_lit 3, nat_lit 7, nat_lit 4, .ofNat (nat_lit 0), nat_lit 0, nat_lit 193, nat_lit 46, []), (nat_lit 26, nat_lit 0, nat_lit 1, nat_lit 0, nat_lit 0, .ofNat (nat_lit 0), nat_lit 0, nat_lit 0, nat_lit 0, []), (nat_lit 27, nat_lit 3, nat_lit 1, nat_lit 0, nat_lit 0, .ofNat (nat_lit 0), nat_lit 0, nat_lit 0, nat_lit 0, []), (nat_lit 28, nat_lit 15, nat_lit 3, nat_lit 7, nat_lit 11, .ofNat (nat_lit 0), nat_lit 0, nat_lit 211, nat_lit 49, []), (nat_lit 31, nat_lit 26, nat_lit 1, nat_lit 0, nat_lit 0, .ofNat (nat_lit 0), nat_lit 0, nat_lit 0, nat_lit 0, [])]]
def rx_c92 : List (List rx_E) := [[(nat_lit 0, nat_lit 3, nat_lit 1, nat_lit 0, nat_lit 0, .ofNat (nat_lit 1), nat_lit 0, nat_lit 0, nat_lit 0, []), (nat_lit 1, nat_lit 0, nat_lit 1, nat_lit 0, nat_lit 0, .ofNat (nat_lit 0), nat_lit 0, nat_lit 0, nat_lit 0, []), (nat_lit 2, nat_lit 2, nat_lit 3, nat_lit 7, nat_lit 0, .ofNat (nat_lit 0), nat_lit 0, nat_lit 177, nat_lit 9, []), (nat_lit 5, nat_lit 17, nat_lit 1, nat_lit 0, nat_lit 0, .ofNat (nat_lit 0), nat_lit 0, nat_lit 0, nat_lit 0, []), (nat_lit 6, nat_lit 6, nat_lit 1, nat_lit 0, nat_lit 0, .ofNat (nat_lit 0), nat_lit 0, nat_lit 0, nat_lit 0, [])]]
def rx_c93 : List (List rx_E) := [[(nat_lit 0, nat_lit 0, nat_lit 1, nat_lit 0, nat_lit 0, .ofNat (nat_lit 0), nat_lit 0, nat_lit 0, nat_lit 0, []), (nat_lit 1, nat_lit 0, nat_lit 1, nat_lit 1, nat_lit 0, .ofNat (nat_lit 0), nat_lit 0, nat_lit 0, nat_lit 0, []), (nat_lit 2, nat_lit 2, nat_lit 3, nat_lit 7, nat_lit 0, .ofNat (nat_lit 0), nat_lit 0, nat_lit 177, nat_lit 9, []), (nat_lit 5, nat_lit 15, nat_lit 3, nat_lit 7, nat_lit 0, .ofNat (nat_lit 0), nat_lit 0, nat_lit 177, nat_lit 9, []), (nat_lit 8, nat_lit 0, nat_lit 1, nat_lit 0, nat_lit 0, .ofNat (nat_lit 0), nat_lit 0, nat_lit 0, nat_lit 0, []), (nat_lit 9, nat_lit 0, nat_lit 1, nat_lit 1, nat_lit 0, .ofNat (nat_lit 0), nat_lit 0, nat_lit 0, nat_lit 0, []), (nat_lit 10, nat_lit 2, nat_lit 3, nat_lit 7, nat_lit 1, .ofNat (nat_lit 0), nat_lit 0, nat_lit 180, nat_lit 37, []), (nat_lit 13, nat_lit 15, nat_lit 3, nat_lit 7, nat_lit 1, .ofNat (nat_lit 0), nat_lit 0, nat_lit 180, nat_lit 37, [])], [(nat_lit 16, nat_lit 0, nat_lit 1, nat_lit 0, nat_lit 0, .ofNat (nat_lit 0), nat_lit 0, nat_lit 0, nat_lit 0, []), (nat_lit 17, nat_lit 0, nat_lit 1, nat_lit 1, nat_lit 0, .ofNat (nat_lit 0), nat_lit 0, nat_lit 0, nat_lit 0, []), (nat_lit 18, nat_lit 2, nat_lit 3, nat_lit 7, nat_lit 2, .ofNat (nat_lit 0), nat_lit 0, nat_lit 183, nat_lit 40, []), (nat_lit 21, nat_lit 15, nat_lit 3, nat_lit 7, nat_lit 2, .ofNat (nat_lit 0), nat_lit 0, nat_lit 183, nat_lit 40, []), (nat_lit 24, nat_lit 0, nat_lit 1, nat_lit 0, nat_lit 0, .ofNat (nat_lit 0), nat_lit 0, nat_lit 0, nat_lit 0, []), (nat_lit 25, nat_lit 0, nat_lit 1, nat_lit 1, nat_lit 0, .ofNat (nat_lit 0), nat_lit 0, nat_lit 0, nat_lit 0, []), (nat_lit 26, nat_lit 2, nat_lit 3, nat_lit 7, nat_lit 3, .ofNat (nat_lit 0), nat_lit 0, nat_lit 190, nat_lit 43, []), (nat_lit 29, nat_lit 15, nat_lit 3, nat_lit 7, nat_lit 3, .ofNat (nat_lit 0), nat_lit 0, nat_lit 190, nat_lit 43, [])], [(nat_lit 32, nat_lit 0, nat_lit 1, nat_lit 0, nat_lit 0, .ofNat (nat_lit 0), nat_lit 0, nat_lit 0, nat_lit 0, []), (nat_lit 33, nat_lit 0, nat_lit 1, nat_lit 1, nat_lit 0, .ofNat (nat_lit 0), nat_lit 0, nat_lit 0, nat_lit 0, []), (nat_lit 34, nat_lit 2, nat_lit 3, nat_lit 7, nat_lit 4, .ofNat (nat_lit 0), nat_lit 0, nat_lit 193, nat_lit 46, []), (nat_lit 37, nat_lit 15, nat_lit 3, nat_lit 7, nat_lit 4, .ofNat (nat_lit 0), nat_lit 0, nat_lit 193, nat_lit 46, []), (nat_lit 40, nat_lit 0, nat_lit 1, nat_lit 0, nat_lit 0, .ofNat (nat_lit 0), nat_lit 0, nat_lit 0, nat_lit 0, []), (nat_lit 41, nat_lit 0, nat_lit 1, nat_lit 1, nat_lit 0, .ofNat (nat_lit 0), nat_lit 0, nat_lit 0, nat_lit 0, []), (nat_lit 42, nat_lit 2, nat_lit 3, nat_lit 7, nat_lit 11, .ofNat (nat_lit 0), nat_lit 0, nat_lit 211, nat_lit 49, []), (nat_lit 45, nat_lit 15, nat_lit 3, nat_lit 7, nat_lit 11, .ofNat (nat_lit 0), nat_lit 0, nat_lit 211, nat_lit 49, [])], [(nat_lit 48, nat_lit 0, nat_lit 1, nat_lit 1, nat_lit 0, .ofNat (nat_lit 0), nat_lit 0, nat_lit 0, nat_lit 0, []), (nat_lit 49, nat_lit 2, nat_lit 3, nat_lit 7, nat_lit 5, .ofNat (nat_lit 0), nat_lit 12, nat_lit 196, nat_lit 15, []), (nat_lit 52, nat_lit 3, nat_lit 1, nat_lit 0, nat_lit 0, .ofNat (nat_lit 0), nat_lit 0, nat_lit 0, nat_lit 0, []), (nat_lit 53, nat_lit 0, nat_lit 1, nat_lit 0, nat_lit 0, .ofNat (nat_lit 0), nat_lit 0, nat_lit 0, nat_lit 0, []), (nat_lit 54, nat_lit 2, nat_lit 3, nat_lit 7, nat_lit 5, .ofNat (nat_lit 0), nat_lit 12, nat_lit 196, nat_lit 15, []), (nat_lit 57, nat_lit 3, nat_lit 1, nat_lit 0, nat_lit 0, .ofNat (nat_lit 0), nat_lit 0, nat_lit 0, nat_lit 0, []), (nat_lit 58, nat_lit 3, nat_lit 1, nat_lit 0, nat_lit 0, .ofNat (nat_lit 4), nat_lit 0, nat_lit 0, nat_lit 0, []), (nat_lit 59, nat_lit 35, nat_lit 3, nat_lit 0, nat_lit 0, .ofNat (nat_lit 0), nat_lit 0, nat_lit 768, nat_lit 52, []), (nat_lit 62, nat_lit 0, nat_lit 1, nat_lit 1, nat_lit 0, .ofNat (nat_lit 0), nat_lit 0, nat_lit 0, nat_lit 0, []), (nat_lit 63, nat_lit 2, nat_lit 3, nat_lit 7, nat_lit 6, .ofNat (nat_lit 0), nat_lit 12, nat_lit 199, nat_lit 19, [])], [(nat_lit 66, nat_lit 3, nat_lit 1, nat_lit 0, nat_lit 0, .ofNat (nat_lit 0), nat_lit 0, nat_lit 0, nat_lit 0, []), (nat_lit 67, nat_lit 0, nat_lit 1, nat_lit 0, nat_lit 0, .ofNat (nat_lit 0), nat_lit 0, nat_lit 0, nat_lit 0, []), (nat_lit 68, nat_lit 2, nat_lit 3, nat_lit 7, nat_lit 6, .ofNat (nat_lit 0), nat_lit 12, nat_lit 199, nat_lit 19, []), (nat_lit 71, nat_lit 3, nat_lit 1, nat_lit 0, nat_lit 0, .ofNat (nat_lit 0), nat_lit 0, nat_lit 0, nat_lit 0, []), (nat_lit 72, nat_lit 21, nat_lit 2, nat_lit 0, nat_lit 0, .ofNat (nat_lit 9), nat_lit 0, nat_lit 0, nat_lit 0, []), (nat_lit 74, nat_lit 35, nat_lit 3, nat_lit 0, nat_lit 0, .ofNat (nat_lit 0), nat_lit 0, nat_lit 768, nat_lit 52, []), (nat_lit 77, nat_lit 0, nat_lit 1, nat_lit 1, nat_lit 0, .ofNat (nat_lit 0), nat_lit 0, nat_lit 0, nat_lit 0, []), (nat_lit 78, nat_lit 2, nat_lit 3, nat_lit 7, nat_lit 7, .ofNat (nat_lit 0), nat_lit 12, nat_lit 202, nat_lit 22, [])], [(nat_lit 81, nat_lit 3, nat_lit 1, nat_lit 0, nat_lit 0, .ofNat (nat_lit 0), nat_lit 0, nat_lit 0, nat_lit 0, []), (nat_lit 82, nat_lit 0, nat_lit 1, nat_lit 0, nat_lit 0, .ofNat (nat_lit 0), nat_lit 0, nat_lit 0, nat_lit 0, []), (nat_lit 83, nat_lit 2, nat_lit 3, nat_lit 7, nat_lit 7, .ofNat (nat_lit 0), nat_lit 12, nat_lit 202, nat_lit 22, []), (nat_lit 86, nat_lit 3, nat_lit 1, nat_lit 0, nat_lit 0, .ofNat (nat_lit 0), nat_lit 0, nat_lit 0, nat_lit 0, []), (nat_lit 87, nat_lit 21, nat_lit 2, nat_lit 0, nat_lit 0, .ofNat (nat_lit 9), nat_lit 0, nat_lit 0, nat_lit 0, []), (nat_lit 89, nat_lit 35, nat_lit 3, nat_lit 0, nat_lit 0, .ofNat (nat_lit 0), nat_lit 0, nat_lit 768, nat_lit 52, []), (nat_lit 92, nat_lit 0, nat_lit 1, nat_lit 1, nat_lit 0, .ofNat (nat_lit 0), nat_lit 0, nat_lit 0, nat_lit 0, []), (nat_lit 93, nat_lit 2, nat_lit 3, nat_lit 7, nat_lit 8, .ofNat (nat_lit 0), nat_lit 12, nat_lit 205, nat_lit 25, [])], [(nat_lit 96, nat_lit 3, nat_lit 1, nat_lit 0, nat_lit 0, .ofNat (nat_lit 0), nat_lit 0, nat_lit 0, nat_lit 0, []), (nat_lit 97, nat_lit 0, nat_lit 1, nat_lit 0, nat_lit 0, .ofNat (nat_lit 0), nat_lit 0, nat_lit 0, nat_lit 0, []), (nat_lit 98, nat_lit 2, nat_lit 3, nat_lit 7, nat_lit 8, .ofNat (nat_lit 0), nat_lit 12, nat_lit 205, nat_lit 25, []), (nat_lit 101, nat_lit 3, nat_lit 1, nat_lit 0, nat_lit 0, .ofNat (nat_lit 0), nat_lit 0, nat_lit 0, nat_lit 0, []), (nat_lit 102, nat_lit 21, nat_lit 2, nat_lit 0, nat_lit 0, .ofNat (nat_lit 9), nat_lit 0, nat_lit 0, nat_lit 0, []), (nat_lit 104, nat_lit 35, nat_lit 3, nat_lit 0, nat_lit 0, .ofNat (nat_lit 0), nat_lit 0, nat_lit 768, nat_lit 52, []), (nat_lit 107, nat_lit 0, nat_lit 1, nat_lit 1, nat_lit 0, .ofNat (nat_lit 0), nat_lit 0, nat_lit 0, nat_lit 0, []), (nat_lit 108, nat_lit 2, nat_lit 3, nat_lit 7, nat_lit 9, .ofNat (nat_lit 0), nat_lit 12, nat_lit 208, nat_lit 28, []), (nat_lit 111, nat_lit 3, nat_lit 1, nat_lit 0, nat_lit 0, .ofNat (nat_lit 0), nat_lit 0, nat_lit 0, nat_lit 0, [])], [(nat_lit 112, nat_lit 0, nat_lit 1, nat_lit 0, nat_lit 0, .ofNat (nat_lit 0), nat_lit 0, nat_lit 0, nat_lit 0, []), (nat_lit 113, nat_lit 2, nat_lit 3, nat_lit 7, nat_lit 9, .ofNat (nat_lit 0), nat_lit 12, nat_lit 208, nat_lit 28, []), (nat_lit 116, nat_lit 3, nat_lit 1, nat_lit 0, nat_lit 0, .ofNat (nat_lit 0), nat_lit 0, nat_lit 0, nat_lit 0, []), (nat_lit 117, nat_lit 20, nat_lit 3, nat_lit 0, nat_lit 0, .ofNat (nat_lit 640), nat_lit 0, nat_lit 0, nat_lit 0, []), (nat_lit 120, nat_lit 35, nat_lit 3, nat_lit 0, nat_lit 0, .ofNat (nat_lit 0), nat_lit 0, nat_lit 768, nat_lit 52, []), (nat_lit 123, nat_lit 0, nat_lit 1, nat_lit 1, nat_lit 0, .ofNat (nat_lit 0), nat_lit 0, nat_lit 0, nat_lit 0, []), (nat_lit 124, nat_lit 2, nat_lit 3, nat_lit 7, nat_lit 10, .ofNat (nat_lit 0), nat_lit 12, nat_lit 209, nat_lit 31, []), (nat_lit 127, nat_lit 3, nat_lit 1, nat_lit 0, nat_lit 0, .ofNat (nat_lit 0), nat_lit 0, nat_lit 0, nat_lit 0, [])], [(nat_lit 128, nat_lit 0, nat_lit 1, nat_lit 0, nat_lit 0, .ofNat (nat_lit 0), nat_lit 0, nat_lit 0, nat_lit 0, []), (nat_lit 129, nat_lit 2, nat_lit 3, nat_lit 7, nat_lit 10, .ofNat (nat_lit 0), nat_lit 12, nat_lit 209, nat_lit 31, []), (nat_lit 132, nat_lit 3, nat_lit 1, nat_lit 0, nat_lit 0, .ofNat (nat_lit 0), nat_lit 0, nat_lit 0, nat_lit 0, []), (nat_lit 133, nat_lit 21, nat_lit 2, nat_lit 0, nat_lit 0, .ofNat (nat_lit 10), nat_lit 0, nat_lit 0, nat_lit 0, []), (nat_lit 135, nat_lit 35, nat_lit 3, nat_lit 0, nat_lit 0, .ofNat (nat_lit 0), nat_lit 0, nat_lit 768, nat_lit 52, []), (nat_lit 138, nat_lit 26, nat_lit 1, nat_lit 0, nat_lit 0, .ofNat (nat_lit 0), nat_lit 0, nat_lit 0, nat_lit 0, [])]]
def rx_c94 : List (List rx_E) := [[(nat_lit 0, nat_lit 0, nat_lit 1, nat_lit 0, nat_lit 0, .ofNat (nat_lit 0), nat_lit 0, nat_lit 0, nat_lit 0, []), (nat_lit 1, nat_lit 34, nat_lit 3, nat_lit 0, nat_lit 0, .ofNat (nat_lit 0), nat_lit 0, nat_lit 383, nat_lit 3, []), (nat_lit 4, nat_lit 0, nat_lit 1, nat_lit 0, nat_lit 0, .ofNat (nat_lit 0), nat_lit 0, nat_lit 0, nat_lit 0, []), (nat_lit 5, nat_lit 20, nat_lit 3, nat_lit 0, nat_lit 0, .ofNat (nat_lit 256), nat_lit 0, nat_lit 0, nat_lit 0, []), (nat_lit 8, nat_lit 32, nat_lit 2, nat_lit 0, nat_lit 0, .ofNat (nat_lit 0), nat_lit 0, nat_lit 0, nat_lit 0, []), (nat_lit 10, nat_lit 15, nat_lit 3, nat_lit 8, nat_lit 3, .ofNat (nat_lit 0), nat_lit 12, nat_lit 387, nat_lit 9, []), (nat_lit 13, nat_lit 0, nat_lit 1, nat_lit 0, nat_lit 0, .ofNat (nat_lit 0), nat_lit 0, nat_lit 0, nat_lit 0, []), (nat_lit 14, nat_lit 3, nat_lit 1, nat_lit 0, nat_lit 0, .ofNat (nat_lit 4), nat_lit 0, nat_lit 0, nat_lit 0, []), (nat_lit 15, nat_lit 32, nat_lit 2, nat_lit 0, nat_lit 0, .ofNat (nat_lit 0), nat_lit 0, nat_lit 0, nat_lit 0, [])], [(nat_lit 17, nat_lit 15, nat_lit 3, nat_lit 8, nat_lit 4, .ofNat (nat_lit 0), nat_lit 12, nat_lit 388, nat_lit 15, []), (nat_lit 20, nat_lit 0, nat_lit 1, nat_lit 0, nat_lit 0, .ofNat (nat_lit 0), nat_lit 0, nat_lit 0, nat_lit 0, []), (nat_lit 21, nat_lit 0, nat_lit 1, nat_lit 1, nat_lit 0, .ofNat (nat_lit 0), nat_lit 0, nat_lit 0, nat_lit 0, []), (nat_lit 22, nat_lit 15, nat_lit 3, nat_lit 8, nat_lit 0, .ofNat (nat_lit 0), nat_lit 12, nat_lit 384, nat_lit 18, []), (nat_lit 25, nat_lit 0, nat_lit 1, nat_lit 0, nat_lit 0, .ofNat (nat_lit 0), nat_lit 0, nat_lit 0, nat_lit 0, []), (nat_lit 26, nat_lit 0, nat_lit 1, nat_lit 2, nat_lit 0, .ofNat (nat_lit 0), nat_lit 0, nat_lit 0, nat_lit 0, []), (nat_lit 27, nat_lit 15, nat_lit 3, nat_lit 8, nat_lit 1, .ofNat (nat_lit 0), nat_lit 12, nat_lit 385, nat_lit 22, []), (nat_lit 30, nat_lit 0, nat_lit 1, nat_lit 0, nat_lit 0, .ofNat (nat_lit 0), nat_lit 0, nat_lit 0, nat_lit 0, []), (nat_lit 31, nat_lit 0, nat_lit 1, nat_lit 3, nat_lit 0, .ofNat (nat_lit 0), nat_lit 0, nat_lit 0, nat_lit 0, [])], [(nat_lit 32, nat_lit 15, nat_lit 3, nat_lit 8, nat_lit 2, .ofNat (nat_lit 0), nat_lit 12, nat_lit 386, nat_lit 26, []), (nat_lit 35, nat_lit 26, nat_lit 1, nat_lit 0, nat_lit 0, .ofNat (nat_lit 0), nat_lit 0, nat_lit 0, nat_lit 0, [])]]
def rx_c95 : List (List rx_E) := [[(nat_lit 0, nat_lit 0, nat_lit 1, nat_lit 0, nat_lit 0, .ofNat (nat_lit 0), nat_lit 0, nat_lit 0, nat_lit 0, []), (nat_lit 1, nat_lit 3, nat_lit 1, nat_lit 0, nat_lit 0, .ofNat (nat_lit 0), nat_lit 0, nat_lit 0, nat_lit 0, []), (nat_lit 2, nat_lit 15, nat_lit 3, nat_lit 8, nat_lit 5, .ofNat (nat_lit 0), nat_lit 0, nat_lit 390, nat_lit 30, []), (nat_lit 5, nat_lit 26, nat_lit 1, nat_lit 0, nat_lit 0, .ofNat (nat_lit 0), nat_lit 0, nat_lit 0, nat_lit 0, [])]]
def rx_c96 : List (List rx_E) := [[(nat_lit 0, nat_lit 0, nat_lit 1, nat_lit 0, nat_lit 0, .ofNat (nat_lit 0), nat_lit 0, nat_lit 0, nat_lit 0, []), (nat_lit 1, nat_lit 34, nat_lit 3, nat_lit 0, nat_lit 0, .ofNat (nat_lit 0), nat_lit 0, nat_lit 142, nat_lit 3, []), (nat_lit 4, nat_lit 0, nat_lit 1, nat_lit 0, nat_lit 0, .ofNat (nat_lit 0), nat_lit 0, nat_lit 0, nat_lit 0, []), (nat_lit 5, nat_lit 20, nat_lit 3, nat_lit 0, nat_lit 0, .ofNat (nat_lit 1600), nat_lit 0, nat_lit 0, nat_lit 0, []), (nat_lit 8, nat_lit 32, nat_lit 2, nat_lit 1, nat_lit 0, .ofNat (nat_lit 0), nat_lit 0, nat_lit 0, nat_lit 0, []), (nat_lit 10, nat_lit 15, nat_lit 3, nat_lit 9, nat_lit 0, .ofNat (nat_lit 0), nat_lit 12, nat_lit 143, nat_lit 9, []), (nat_lit 13, nat_lit 26, nat_lit 1, nat_lit 0, nat_lit 0, .ofNat (nat_lit 0), nat_lit 0, nat_lit 0, nat_lit 0, [])]]
def rx_c97 : List (List rx_E) := [[(nat_lit 0, nat_lit 0, nat_lit 1, nat_lit 0, nat_lit 0, .ofNat (nat_lit 0), nat_lit 0, nat_lit 0, nat_lit 0, []), (nat_lit 1, nat_lit 2, nat_lit 3, nat_lit 9, nat_lit 2, .ofNat (nat_lit 0), nat_lit 0, nat_lit 146, nat_lit 19, []), (nat_lit 4, nat_lit 0, nat_lit 1, nat_lit 0, nat_lit 0, .ofNat (nat_lit 0), nat_lit 0, nat_lit 0, nat_lit 0, []), (nat_lit 5, nat_lit 2, nat_lit 3, nat_lit 9, nat_lit 1, .ofNat (nat_lit 0), nat_lit 0, nat_lit 145, nat_lit 15, []), (nat_lit 8, nat_lit 4, nat_lit 3, nat_lit 0, nat_lit 3, .ofNat (nat_lit 30), nat_lit 0, nat_lit 0, nat_lit 0, [])], [], [(nat_lit 38, nat_lit 0, nat_lit 1, nat_lit 0, nat_lit 0, .ofNat (nat_lit 0), nat_lit 0, nat_lit 0, nat_lit 0, []), (nat_lit 39, nat_lit 0, nat_lit 1, nat_lit 0, nat_lit 0, .ofNat (nat_lit 0), nat_lit 0, nat_lit 0, nat_lit 0, []), (nat_lit 40, nat_lit 2, nat_lit 3, nat_lit 9, nat_lit 2, .ofNat (nat_lit 0), nat_lit 0, nat_lit 146, nat_lit 19, []), (nat_lit 43, nat_lit 15, nat_lit 3, nat_lit 9, nat_lit 4, .ofNat (nat_lit 0), nat_lit 0, nat_lit 149, nat_lit 33, []), (nat_lit 46, nat_lit 0, nat_lit 1, nat_lit 0, nat_lit 0, .ofNat (nat_lit 0), nat_lit 0, nat_lit 0, nat_lit 0, []), (nat_lit 47, nat_lit 0, nat_lit 1, nat_lit 0, nat_lit 0, .ofNat (nat_lit 0), nat_lit 0, nat_lit 0, nat_lit 0, [])], [(nat_lit 48, nat_lit 2, nat_lit 3, nat_lit 9, nat_lit 2, .ofNat (nat_lit 0), nat_lit 0, nat_lit 146, nat_lit 19, []), (nat_lit 51, nat_lit 8, nat_lit 3, nat_lit 98, nat_lit 90, .ofNat (nat_lit 0), nat_lit 1, nat_lit 614, nat_lit 25, []), (nat_lit 54, nat_lit 11, nat_lit 1, nat_lit 1, nat_lit 0, .ofNat (nat_lit 0), nat_lit 0, nat_lit 0, nat_lit 0, []), (nat_lit 55, nat_lit 1, nat_lit 1, nat_lit 1, nat_lit 0, .ofNat (nat_lit 0), nat_lit 0, nat_lit 0, nat_lit 0, []), (nat_lit 56, nat_lit 3, nat_lit 1, nat_lit 0, nat_lit 0, .negSucc (nat_lit 0), nat_lit 0, nat_lit 0, nat_lit 0, []), (nat_lit 57, nat_lit 4, nat_lit 3, nat_lit 0, nat_lit 1, .ofNat (nat_lit 11), nat_lit 0, nat_lit 0, nat_lit 0, []), (nat_lit 60, nat_lit 0, nat_lit 1, nat_lit 0, nat_lit 0, .ofNat (nat_lit 0), nat_lit 0, nat_lit 0, nat_lit 0, []), (nat_lit 61, nat_lit 3, nat_lit 1, nat_lit 0, nat_lit 0, .ofNat (nat_lit 0), nat_lit 0, nat_lit 0, nat_lit 0, []), (nat_lit 62, nat_lit 15, nat_lit 3, nat_lit 9, nat_lit 3, .ofNat (nat_lit 0), nat_lit 0, nat_lit 148, nat_lit 36, [])], [(nat_lit 65, nat_lit 5, nat_lit 3, nat_lit 0, nat_lit 0, .ofNat (nat_lit 57), nat_lit 0, nat_lit 0, nat_lit 0, [])], [], [], [(nat_lit 122, nat_lit 26, nat_lit 1, nat_lit 0, nat_lit 0, .ofNat (nat_lit 0), nat_lit 0, nat_lit 0, nat_lit 0, [])]]
def rx_c98 : List (List rx_E) := [[(nat_lit 0, nat_lit 1, nat_lit 1, nat_lit 1, nat_lit 0, .ofNat (nat_lit 0), nat_lit 0, nat_lit 0, nat_lit 0, []), (nat_lit 1, nat_lit 14, nat_lit 3, nat_lit 0, nat_lit 2, .ofNat (nat_lit 24), nat_lit 0, nat_lit 0, nat_lit 0, []), (nat_lit 4, nat_lit 1, nat_lit 1, nat_lit 1, nat_lit 0, .ofNat (nat_lit 0), nat_lit 0, nat_lit 0, nat_lit 0, []), (nat_lit 5, nat_lit 0, nat_lit 1, nat_lit 0, nat_lit 0, .ofNat (nat_lit 0), nat_lit 0, nat_lit 0, nat_lit 0, []), (nat_lit 6, nat_lit 2, nat_lit 3, nat_lit 9, nat_lit 1, .ofNat (nat_lit 0), nat_lit 0, nat_lit 145, nat_lit 15, []), (nat_lit 9, nat_lit 4, nat_lit 3, nat_lit 0, nat_lit 3, .ofNat (nat_lit 16), nat_lit 0, nat_lit 0, nat_lit 0, [])], [(nat_lit 25, nat_lit 3, nat_lit 1, nat_lit 0, nat_lit 0, .negSucc (nat_lit 0), nat_lit 0, nat_lit 0, nat_lit 0, []), (nat_lit 26, nat_lit 6, nat_lit 1, nat_lit 0, nat_lit 0, .ofNat (nat_lit 0), nat_lit 0, nat_lit 0, nat_lit 0, [])]]
def rx_c99 : List (List rx_E) := [[(nat_lit 0, nat_lit 21, nat_lit 2, nat_lit 0, nat_lit 0, .ofNat (nat_lit 24), nat_lit 0, nat_lit 0, nat_lit 0, []), (nat_lit 2, nat_lit 11, nat_lit 1, nat_lit 2, nat_lit 0, .ofNat (nat_lit 0), nat_lit 0, nat_lit 0, nat_lit 0, []), (nat_lit 3, nat_lit 1, nat_lit 1, nat_lit 2, nat_lit 0, .ofNat (nat_lit 0), nat_lit 0, nat_lit 0, nat_lit 0, []), (nat_lit 4, nat_lit 14, nat_lit 3, nat_lit 0, nat_lit 2, .ofNat (nat_lit 42), nat_lit 0, nat_lit 0, nat_lit 0, []), (nat_lit 7, nat_lit 0, nat_lit 1, nat_lit 0, nat_lit 0, .ofNat (nat_lit 0), nat_lit 0, nat_lit 0, nat_lit 0, []), (nat_lit 8, nat_lit 2, nat_lit 3, nat_lit 9, nat_lit 1, .ofNat (nat_lit 0), nat_lit 0, nat_lit 145, nat_lit 15, []), (nat_lit 11, nat_lit 20, nat_lit 3, nat_lit 0, nat_lit 0, .ofNat (nat_lit 1600), nat_lit 0, nat_lit 0, nat_lit 0, []), (nat_lit 14, nat_lit 4, nat_lit 3, nat_lit 0, nat_lit 3, .ofNat (nat_lit 32), nat_lit 0, nat_lit 0, nat_lit 0, [])], [(nat_lit 17, nat_lit 0, nat_lit 1, nat_lit 0, nat_lit 0, .ofNat (nat_lit 0), nat_lit 0, nat_lit 0, nat_lit 0, []), (nat_lit 18, nat_lit 2, nat_lit 3, nat_lit 9, nat_lit 0, .ofNat (nat_lit 0), nat_lit 12, nat_lit 143, nat_lit 9, []), (nat_lit 21, nat_lit 0, nat_lit 1, nat_lit 0, nat_lit 0, .ofNat (nat_lit 0), nat_lit 0, nat_lit 0, nat_lit 0, []), (nat_lit 22, nat_lit 2, nat_lit 3, nat_lit 9, nat_lit 1, .ofNat (nat_lit 0), nat_lit 0, nat_lit 145, nat_lit 15, []), (nat_lit 25, nat_lit 1, nat_lit 1, nat_lit 1, nat_lit 0, .ofNat (nat_lit 0), nat_lit 0, nat_lit 0, nat_lit 0, []), (nat_lit 26, nat_lit 1, nat_lit 1, nat_lit 2, nat_lit 0, .ofNat (nat_lit 0), nat_lit 0, nat_lit 0, nat_lit 0, []), (nat_lit 27, nat_lit 19, nat_lit 1, nat_lit 0, nat_lit 0, .ofNat (nat_lit 0), nat_lit 0, nat_lit 0, nat_lit 0, []), (nat_lit 28, nat_lit 37, nat_lit 1, nat_lit 0, nat_lit 0, .ofNat (nat_lit 0), nat_lit 0, nat_lit 0, nat_lit 0, []), (nat_lit 29, nat_lit 13, nat_lit 1, nat_lit 0, nat_lit 0, .ofNat (nat_lit 0), nat_lit 0, nat_lit 0, nat_lit 0, []), (nat_lit 30, nat_lit 0, nat_lit 1, nat_lit 0, nat_lit 0, .ofNat (nat_lit 0), nat_lit 0, nat_lit 0, nat_lit 0, []), (nat_lit 31, nat_lit 16, nat_lit 1, nat_lit 0, nat_lit 0, .ofNat (nat_lit 0), nat_lit 0, nat_lit 0, nat_lit 0, [])], [(nat_lit 32, nat_lit 2, nat_lit 3, nat_lit 9, nat_lit 1, .ofNat (nat_lit 0), nat_lit 0, nat_lit 145, nat_lit 15, []), (nat_lit 35, nat_lit 3, nat_lit 1, nat_lit 0, nat_lit 0, .ofNat (nat_lit 1), nat_lit 0, nat_lit 0, nat_lit 0, []), (nat_lit 36, nat_lit 12, nat_lit 1, nat_lit 0, nat_lit 0, .ofNat (nat_lit 0), nat_lit 0, nat_lit 0, nat_lit 0, []), (nat_lit 37, nat_lit 15, nat_lit 3, nat_lit 9, nat_lit 1, .ofNat (nat_lit 0), nat_lit 0, nat_lit 145, nat_lit 15, []), (nat_lit 40, nat_lit 7, nat_lit 3, nat_lit 2, nat_lit 0, .negSucc (nat_lit 7), nat_lit 0, nat_lit 0, nat_lit 0, []), (nat_lit 43, nat_lit 5, nat_lit 3, nat_lit 0, nat_lit 0, .negSucc (nat_lit 39), nat_lit 0, nat_lit 0, nat_lit 0, []), (nat_lit 46, nat_lit 26, nat_lit 1, nat_lit 0, nat_lit 0, .ofNat (nat_lit 0), nat_lit 0, nat_lit 0, nat_lit 0, [])]]
def rx_c100 : List (List rx_E) := [[(nat_lit 0, nat_lit 0, nat_lit 1, nat_lit 0, nat_lit 0, .ofNat (nat_lit 0), nat_lit 0, nat_lit 0, nat_lit 0, []), (nat_lit 1, nat_lit 3, nat_lit 1, nat_lit 0, nat_lit 0, .ofNat (nat_lit 0), nat_lit 0, nat_lit 0, nat_lit 0, []), (nat_lit 2, nat_lit 15, nat_lit 3, nat_lit 9, nat_lit 2, .ofNat (nat_lit 0), nat_lit 0, nat_lit 146, nat_lit 19, []), (nat_lit 5, nat_lit 0, nat_lit 1, nat_lit 0, nat_lit 0, .ofNat (nat_lit 0), nat_lit 0, nat_lit 0, nat_lit 0, []), (nat_lit 6, nat_lit 8, nat_lit 3, nat_lit 97, nat_lit 90, .ofNat (nat_lit 0), nat_lit 0, nat_lit 610, nat_lit 22, []), (nat_lit 9, nat_lit 26, nat_lit 1, nat_lit 0, nat_lit 0, .ofNat (nat_lit 0), nat_lit 0, nat_lit 0, nat_lit 0, [])]]
def rx_c101 : List (List rx_E) := [[(nat_lit 0, nat_lit 0, nat_lit 1, nat_lit 0, nat_lit 0, .ofNat (nat_lit 0), nat_lit 0, nat_lit 0, nat_lit 0, []), (nat_lit 1, nat_lit 34, nat_lit 3, nat_lit 0, nat_lit 0, .ofNat (nat_lit 0), nat_lit 0, nat_lit 502, nat_lit 3, []), (nat_lit 4, nat_lit 0, nat_lit 1, nat_lit 0, nat_lit 0, .ofNat (nat_lit 0), nat_lit 0, nat_lit 0, nat_lit 0, []), (nat_lit 5, nat_lit 20, nat_lit 3, nat_lit 0, nat_lit 0, .ofNat (nat_lit 512), nat_lit 0, nat_lit 0, nat_lit 0, []), (nat_lit 8, nat_lit 32, nat_lit 2, nat_lit 2, nat_lit 0, .ofNat (nat_lit 0), nat_lit 0, nat_lit 0, nat_lit 0, []), (nat_lit 10, nat_lit 15, nat_lit 3, nat_lit 10, nat_lit 3, .ofNat (nat_lit 0), nat_lit 12, nat_lit 507, nat_lit 11, []), (nat_lit 13, nat_lit 0, nat_lit 1, nat_lit 0, nat_lit 0, .ofNat (nat_lit 0), nat_lit 0, nat_lit 0, nat_lit 0, []), (nat_lit 14, nat_lit 21, nat_lit 2, nat_lit 0, nat_lit 0, .ofNat (nat_lit 9), nat_lit 0, nat_lit 0, nat_lit 0, [])], [(nat_lit 16, nat_lit 20, nat_lit 3, nat_lit 0, nat_lit 0, .ofNat (nat_lit 256), nat_lit 0, nat_lit 0, nat_lit 0, []), (nat_lit 19, nat_lit 42, nat_lit 4, nat_lit 5, nat_lit 0, .ofNat (nat_lit 0), nat_lit 0, nat_lit 503, nat_lit 15, []), (nat_lit 23, nat_lit 15, nat_lit 3, nat_lit 10, nat_lit 4, .ofNat (nat_lit 0), nat_lit 12, nat_lit 508, nat_lit 17, []), (nat_lit 26, nat_lit 0, nat_lit 1, nat_lit 0, nat_lit 0, .ofNat (nat_lit 0), nat_lit 0, nat_lit 0, nat_lit 0, []), (nat_lit 27, nat_lit 21, nat_lit 2, nat_lit 0, nat_lit 0, .ofNat (nat_lit 9), nat_lit 0, nat_lit 0, nat_lit 0, []), (nat_lit 29, nat_lit 20, nat_lit 3, nat_lit 0, nat_lit 0, .ofNat (nat_lit 256), nat_lit 0, nat_lit 0, nat_lit 0, [])], [(nat_lit 32, nat_lit 42, nat_lit 4, nat_lit 5, nat_lit 0, .ofNat (nat_lit 0), nat_lit 0, nat_lit 503, nat_lit 15, []), (nat_lit 36, nat_lit 15, nat_lit 3, nat_lit 10, nat_lit 5, .ofNat (nat_lit 0), nat_lit 12, nat_lit 509, nat_lit 20, []), (nat_lit 39, nat_lit 0, nat_lit 1, nat_lit 0, nat_lit 0, .ofNat (nat_lit 0), nat_lit 0, nat_lit 0, nat_lit 0, []), (nat_lit 40, nat_lit 20, nat_lit 3, nat_lit 0, nat_lit 0, .ofNat (nat_lit 256), nat_lit 0, nat_lit 0, nat_lit 0, []), (nat_lit 43, nat_lit 32, nat_lit 2, nat_lit 0, nat_lit 0, .ofNat (nat_lit 0), nat_lit 0, nat_lit 0, nat_lit 0, []), (nat_lit 45, nat_lit 15, nat_lit 3, nat_lit 10, nat_lit 6, .ofNat (nat_lit 0), nat_lit 12, nat_lit 510, nat_lit 23, [])], [(nat_lit 48, nat_lit 0, nat_lit 1, nat_lit 0, nat_lit 0, .ofNat (nat_lit 0), nat_lit 0, nat_lit 0, nat_lit 0, []), (nat_lit 49, nat_lit 0, nat_lit 1, nat_lit 1, nat_lit 0, .ofNat (nat_lit 0), nat_lit 0, nat_lit 0, nat_lit 0, []), (nat_lit 50, nat_lit 15, nat_lit 3, nat_lit 10, nat_lit 0, .ofNat (nat_lit 0), nat_lit 12, nat_lit 504, nat_lit 27, []), (nat_lit 53, nat_lit 0, nat_lit 1, nat_lit 0, nat_lit 0, .ofNat (nat_lit 0), nat_lit 0, nat_lit 0, nat_lit 0, []), (nat_lit 54, nat_lit 0, nat_lit 1, nat_lit 2, nat_lit 0, .ofNat (nat_lit 0), nat_lit 0, nat_lit 0, nat_lit 0, []), (nat_lit 55, nat_lit 15, nat_lit 3, nat_lit 10, nat_lit 1, .ofNat (nat_lit 0), nat_lit 12, nat_lit 505, nat_lit 31, []), (nat_lit 58, nat_lit 0, nat_lit 1, nat_lit 0, nat_lit 0, .ofNat (nat_lit 0), nat_lit 0, nat_lit 0, nat_lit 0, []), (nat_lit 59, nat_lit 0, nat_lit 1, nat_lit 3, nat_lit 0, .ofNat (nat_lit 0), nat_lit 0, nat_lit 0, nat_lit 0, []), (nat_lit 60, nat_lit 15, nat_lit 3, nat_lit 10, nat_lit 2, .ofNat (nat_lit 0), nat_lit 12, nat_lit 506, nat_lit 35, []), (nat_lit 63, nat_lit 26, nat_lit 1, nat_lit 0, nat_lit 0, .ofNat (nat_lit 0), nat_lit 0, nat_lit 0, nat_lit 0, [])]]
def rx_c102 : List (List rx_E) := [[(nat_lit 0, nat_lit 3, nat_lit 1, nat_lit 0, nat_lit 0, .negSucc (nat_lit 0), nat_lit 0, nat_lit 0, nat_lit 0, []), (nat_lit 1, nat_lit 11, nat_lit 1, nat_lit 1, nat_lit 0, .ofNat (nat_lit 0), nat_lit 0, nat_lit 0, nat_lit 0, []), (nat_lit 2, nat_lit 3, nat_lit 1, nat_lit 0, nat_lit 0, .ofNat (nat_lit 0), nat_lit 0, nat_lit 0, nat_lit 0, []), (nat_lit 3, nat_lit 11, nat_lit 1, nat_lit 2, nat_lit 0, .ofNat (nat_lit 0), nat_lit 0, nat_lit 0, nat_lit 0, []), (nat_lit 4, nat_lit 1, nat_lit 1, nat_lit 2, nat_lit 0, .ofNat (nat_lit 0), nat_lit 0, nat_lit 0, nat_lit 0, []), (nat_lit 5, nat_lit 3, nat_lit 1, nat_lit 0, nat_lit 0, .ofNat (nat_lit 1), nat_lit 0, nat_lit 0, nat_lit 0, []), (nat_lit 6, nat_lit 0, nat_lit 1, nat_lit 0, nat_lit 0, .ofNat (nat_lit 0), nat_lit 0, nat_lit 0, nat_lit 0, []), (nat_lit 7, nat_lit 2, nat_lit 3, nat_lit 10, nat_lit 0, .ofNat (nat_lit 0), nat_lit 12, nat_lit 504, nat_lit 27, []), (nat_lit 10, nat_lit 2, nat_lit 3, nat_lit 7, nat_lit 2, .ofNat (nat_lit 0), nat_lit 0, nat_lit 185, nat_lit 39, []), (nat_lit 13, nat_lit 17, nat_lit 1, nat_lit 0, nat_lit 0, .ofNat (nat_lit 0), nat_lit 0, nat_lit 0, nat_lit 0, []), (nat_lit 14, nat_lit 4, nat_lit 3, nat_lit 0, nat_lit 3, .ofNat (nat_lit 44), nat_lit 0, nat_lit 0, nat_lit 0, [])], [(nat_lit 17, nat_lit 0, nat_lit 1, nat_lit 0, nat_lit 0, .ofNat (nat_lit 0), nat_lit 0, nat_lit 0, nat_lit 0, []), (nat_lit 18, nat_lit 2, nat_lit 3, nat_lit 10, nat_lit 3, .ofNat (nat_lit 0), nat_lit 12, nat_lit 507, nat_lit 11, []), (nat_lit 21, nat_lit 1, nat_lit 1, nat_lit 2, nat_lit 0, .ofNat (nat_lit 0), nat_lit 0, nat_lit 0, nat_lit 0, []), (nat_lit 22, nat_lit 39, nat_lit 1, nat_lit 0, nat_lit 0, .ofNat (nat_lit 0), nat_lit 0, nat_lit 0, nat_lit 0, []), (nat_lit 23, nat_lit 14, nat_lit 3, nat_lit 0, nat_lit 1, .ofNat (nat_lit 29), nat_lit 0, nat_lit 0, nat_lit 0, [])], [], [(nat_lit 52, nat_lit 7, nat_lit 3, nat_lit 2, nat_lit 0, .ofNat (nat_lit 1), nat_lit 0, nat_lit 0, nat_lit 0, []), (nat_lit 55, nat_lit 5, nat_lit 3, nat_lit 0, nat_lit 0, .negSucc (nat_lit 50), nat_lit 0, nat_lit 0, nat_lit 0, []), (nat_lit 58, nat_lit 1, nat_lit 1, nat_lit 1, nat_lit 0, .ofNat (nat_lit 0), nat_lit 0, nat_lit 0, nat_lit 0, []), (nat_lit 59, nat_lit 6, nat_lit 1, nat_lit 0, nat_lit 0, .ofNat (nat_lit 0), nat_lit 0, nat_lit 0, nat_lit 0, [])]]
def rx_c103 : List (List rx_E) := [[(nat_lit 0, nat_lit 3, nat_lit 1, nat_lit 0, nat_lit 0, .ofNat (nat_lit 0), nat_lit 0, nat_lit 0, nat_lit 0, []), (nat_lit 1, nat_lit 11, nat_lit 1, nat_lit 1, nat_lit 0, .ofNat (nat_lit 0), nat_lit 0, nat_lit 0, nat_lit 0, []), (nat_lit 2, nat_lit 1, nat_lit 1, nat_lit 1, nat_lit 0, .ofNat (nat_lit 0), nat_lit 0, nat_lit 0, nat_lit 0, []), (nat_lit 3, nat_lit 20, nat_lit 3, nat_lit 0, nat_lit 0, .ofNat (nat_lit 512), nat_lit 0, nat_lit 0, nat_lit 0, []), (nat_lit 6, nat_lit 4, nat_lit 3, nat_lit 0, nat_lit 3, .ofNat (nat_lit 16), nat_lit 0, nat_lit 0, nat_lit 0, []), (nat_lit 9, nat_lit 0, nat_lit 1, nat_lit 0, nat_lit 0, .ofNat (nat_lit 0), nat_lit 0, nat_lit 0, nat_lit 0, []), (nat_lit 10, nat_lit 2, nat_lit 3, nat_lit 10, nat_lit 3, .ofNat (nat_lit 0), nat_lit 12, nat_lit 507, nat_lit 11, []), (nat_lit 13, nat_lit 1, nat_lit 1, nat_lit 1, nat_lit 0, .ofNat (nat_lit 0), nat_lit 0, nat_lit 0, nat_lit 0, []), (nat_lit 14, nat_lit 3, nat_lit 1, nat_lit 0, nat_lit 0, .ofNat (nat_lit 0), nat_lit 0, nat_lit 0, nat_lit 0, []), (nat_lit 15, nat_lit 13, nat_lit 1, nat_lit 0, nat_lit 0, .ofNat (nat_lit 0), nat_lit 0, nat_lit 0, nat_lit 0, [])], [(nat_lit 16, nat_lit 7, nat_lit 3, nat_lit 1, nat_lit 0, .ofNat (nat_lit 1), nat_lit 0, nat_lit 0, nat_lit 0, []), (nat_lit 19, nat_lit 5, nat_lit 3, nat_lit 0, nat_lit 0, .negSucc (nat_lit 16), nat_lit 0, nat_lit 0, nat_lit 0, []), (nat_lit 22, nat_lit 3, nat_lit 1, nat_lit 0, nat_lit 0, .ofNat (nat_lit 0), nat_lit 0, nat_lit 0, nat_lit 0, []), (nat_lit 23, nat_lit 11, nat_lit 1, nat_lit 1, nat_lit 0, .ofNat (nat_lit 0), nat_lit 0, nat_lit 0, nat_lit 0, []), (nat_lit 24, nat_lit 1, nat_lit 1, nat_lit 1, nat_lit 0, .ofNat (nat_lit 0), nat_lit 0, nat_lit 0, nat_lit 0, []), (nat_lit 25, nat_lit 0, nat_lit 1, nat_lit 0, nat_lit 0, .ofNat (nat_lit 0), nat_lit 0, nat_lit 0, nat_lit 0, []), (nat_lit 26, nat_lit 2, nat_lit 3, nat_lit 10, nat_lit 0, .ofNat (nat_lit 0), nat_lit 12, nat_lit 504, nat_lit 27, []), (nat_lit 29, nat_lit 2, nat_lit 3, nat_lit 7, nat_lit 2, .ofNat (nat_lit 0), nat_lit 0, nat_lit 185, nat_lit 39, [])], [(nat_lit 32, nat_lit 4, nat_lit 3, nat_lit 0, nat_lit 3, .ofNat (nat_lit 19), nat_lit 0, nat_lit 0, nat_lit 0, [])], [(nat_lit 51, nat_lit 0, nat_lit 1, nat_lit 0, nat_lit 0, .ofNat (nat_lit 0), nat_lit 0, nat_lit 0, nat_lit 0, []), (nat_lit 52, nat_lit 2, nat_lit 3, nat_lit 10, nat_lit 6, .ofNat (nat_lit 0), nat_lit 12, nat_lit 510, nat_lit 23, []), (nat_lit 55, nat_lit 3, nat_lit 1, nat_lit 0, nat_lit 0, .ofNat (nat_lit 0), nat_lit 0, nat_lit 0, nat_lit 0, []), (nat_lit 56, nat_lit 24, nat_lit 3, nat_lit 184, nat_lit 1, .ofNat (nat_lit 0), nat_lit 2, nat_lit 1266, nat_lit 45, []), (nat_lit 59, nat_lit 3, nat_lit 1, nat_lit 0, nat_lit 0, .ofNat (nat_lit 0), nat_lit 0, nat_lit 0, nat_lit 0, []), (nat_lit 60, nat_lit 11, nat_lit 1, nat_lit 1, nat_lit 0, .ofNat (nat_lit 0), nat_lit 0, nat_lit 0, nat_lit 0, []), (nat_lit 61, nat_lit 1, nat_lit 1, nat_lit 1, nat_lit 0, .ofNat (nat_lit 0), nat_lit 0, nat_lit 0, nat_lit 0, []), (nat_lit 62, nat_lit 0, nat_lit 1, nat_lit 0, nat_lit 0, .ofNat (nat_lit 0), nat_lit 0, nat_lit 0, nat_lit 0, []), (nat_lit 63, nat_lit 2, nat_lit 3, nat_lit 10, nat_lit 2, .ofNat (nat_lit 0), nat_lit 12, nat_lit 506, nat_lit 35, [])], [(nat_lit 66, nat_lit 2, nat_lit 3, nat_lit 3, nat_lit 5, .ofNat (nat_lit 0), nat_lit 0, nat_lit 451, nat_lit 51, []), (nat_lit 69, nat_lit 4, nat_lit 3, nat_lit 0, nat_lit 3, .ofNat (nat_lit 74), nat_lit 0, nat_lit 0, nat_lit 0, []), (nat_lit 72, nat_lit 3, nat_lit 1, nat_lit 0, nat_lit 0, .ofNat (nat_lit 0), nat_lit 0, nat_lit 0, nat_lit 0, []), (nat_lit 73, nat_lit 11, nat_lit 1, nat_lit 2, nat_lit 0, .ofNat (nat_lit 0), nat_lit 0, nat_lit 0, nat_lit 0, []), (nat_lit 74, nat_lit 1, nat_lit 1, nat_lit 2, nat_lit 0, .ofNat (nat_lit 0), nat_lit 0, nat_lit 0, nat_lit 0, []), (nat_lit 75, nat_lit 0, nat_lit 1, nat_lit 0, nat_lit 0, .ofNat (nat_lit 0), nat_lit 0, nat_lit 0, nat_lit 0, []), (nat_lit 76, nat_lit 2, nat_lit 3, nat_lit 10, nat_lit 0, .ofNat (nat_lit 0), nat_lit 12, nat_lit 504, nat_lit 27, []), (nat_lit 79, nat_lit 2, nat_lit 3, nat_lit 7, nat_lit 2, .ofNat (nat_lit 0), nat_lit 0, nat_lit 185, nat_lit 39, [])], [(nat_lit 82, nat_lit 4, nat_lit 3, nat_lit 0, nat_lit 3, .ofNat (nat_lit 23), nat_lit 0, nat_lit 0, nat_lit 0, [])], [(nat_lit 105, nat_lit 3, nat_lit 1, nat_lit 0, nat_lit 0, .ofNat (nat_lit 0), nat_lit 0, nat_lit 0, nat_lit 0, []), (nat_lit 106, nat_lit 11, nat_lit 1, nat_lit 2, nat_lit 0, .ofNat (nat_lit 0), nat_lit 0, nat_lit 0, nat_lit 0, []), (nat_lit 107, nat_lit 1, nat_lit 1, nat_lit 2, nat_lit 0, .ofNat (nat_lit 0), nat_lit 0, nat_lit 0, nat_lit 0, []), (nat_lit 108, nat_lit 1, nat_lit 1, nat_lit 1, nat_lit 0, .ofNat (nat_lit 0), nat_lit 0, nat_lit 0, nat_lit 0, []), (nat_lit 109, nat_lit 4, nat_lit 3, nat_lit 0, nat_lit 3, .ofNat (nat_lit 28), nat_lit 0, nat_lit 0, nat_lit 0, [])], [(nat_lit 112, nat_lit 0, nat_lit 1, nat_lit 0, nat_lit 0, .ofNat (nat_lit 0), nat_lit 0, nat_lit 0, nat_lit 0, []), (nat_lit 113, nat_lit 2, nat_lit 3, nat_lit 10, nat_lit 3, .ofNat (nat_lit 0), nat_lit 12, nat_lit 507, nat_lit 11, []), (nat_lit 116, nat_lit 0, nat_lit 1, nat_lit 0, nat_lit 0, .ofNat (nat_lit 0), nat_lit 0, nat_lit 0, nat_lit 0, []), (nat_lit 117, nat_lit 2, nat_lit 3, nat_lit 10, nat_lit 6, .ofNat (nat_lit 0), nat_lit 12, nat_lit 510, nat_lit 23, []), (nat_lit 120, nat_lit 1, nat_lit 1, nat_lit 2, nat_lit 0, .ofNat (nat_lit 0), nat_lit 0, nat_lit 0, nat_lit 0, []), (nat_lit 121, nat_lit 9, nat_lit 1, nat_lit 0, nat_lit 0, .ofNat (nat_lit 0), nat_lit 0, nat_lit 0, nat_lit 0, []), (nat_lit 122, nat_lit 3, nat_lit 1, nat_lit 0, nat_lit 0, .ofNat (nat_lit 1), nat_lit 0, nat_lit 0, nat_lit 0, []), (nat_lit 123, nat_lit 13, nat_lit 1, nat_lit 0, nat_lit 0, .ofNat (nat_lit 0), nat_lit 0, nat_lit 0, nat_lit 0, []), (nat_lit 124, nat_lit 0, nat_lit 1, nat_lit 0, nat_lit 0, .ofNat (nat_lit 0), nat_lit 0, nat_lit 0, nat_lit 0, []), (nat_lit 125, nat_lit 2, nat_lit 3, nat_lit 10, nat_lit 6, .ofNat (nat_lit 0), nat_lit 12, nat_lit 510, nat_lit 23, [])], [(nat_lit 128, nat_lit 1, nat_lit 1, nat_lit 2, nat_lit 0, .ofNat (nat_lit 0), nat_lit 0, nat_lit 0, nat_lit 0, []), (nat_lit 129, nat_lit 3, nat_lit 1, nat_lit 0, nat_lit 0, .ofNat (nat_lit 0), nat_lit 0, nat_lit 0, nat_lit 0, []), (nat_lit 130, nat_lit 10, nat_lit 1, nat_lit 0, nat_lit 0, .ofNat (nat_lit 0), nat_lit 0, nat_lit 0, nat_lit 0, []), (nat_lit 131, nat_lit 7, nat_lit 3, nat_lit 2, nat_lit 0, .ofNat (nat_lit 1), nat_lit 0, nat_lit 0, nat_lit 0, []), (nat_lit 134, nat_lit 5, nat_lit 3, nat_lit 0, nat_lit 0, .negSucc (nat_lit 26), nat_lit 0, nat_lit 0, nat_lit 0, []), (nat_lit 137, nat_lit 7, nat_lit 3, nat_lit 1, nat_lit 0, .ofNat (nat_lit 1), nat_lit 0, nat_lit 0, nat_lit 0, []), (nat_lit 140, nat_lit 5, nat_lit 3, nat_lit 0, nat_lit 0, .negSucc (nat_lit 78), nat_lit 0, nat_lit 0, nat_lit 0, []), (nat_lit 143, nat_lit 0, nat_lit 1, nat_lit 0, nat_lit 0, .ofNat (nat_lit 0), nat_lit 0, nat_lit 0, nat_lit 0, [])], [(nat_lit 144, nat_lit 8, nat_lit 3, nat_lit 105, nat_lit 100, .ofNat (nat_lit 0), nat_lit 0, nat_lit 1272, nat_lit 66, []), (nat_lit 147, nat_lit 26, nat_lit 1, nat_lit 0, nat_lit 0, .ofNat (nat_lit 0), nat_lit 0, nat_lit 0, nat_lit 0, [])]]
def rx_c104 : List (List rx_E) := [[(nat_lit 0, nat_lit 3, nat_lit 1, nat_lit 0, nat_lit 0, .negSucc (nat_lit 0), nat_lit 0, nat_lit 0, nat_lit 0, []), (nat_lit 1, nat_lit 11, nat_lit 1, nat_lit 1, nat_lit 0, .ofNat (nat_lit 0), nat_lit 0, nat_lit 0, nat_lit 0, []), (nat_lit 2, nat_lit 3, nat_lit 1, nat_lit 0, nat_lit 0, .ofNat (nat_lit 0), nat_lit 0, nat_lit 0, nat_lit 0, []), (nat_lit 3, nat_lit 11, nat_lit 1, nat_lit 2, nat_lit 0, .ofNat (nat_lit 0), nat_lit 0, nat_lit 0, nat_lit 0, []), (nat_lit 4, nat_lit 1, nat_lit 1, nat_lit 2, nat_lit 0, .ofNat (nat_lit 0), nat_lit 0, nat_lit 0, nat_lit 0, []), (nat_lit 5, nat_lit 3, nat_lit 1, nat_lit 0, nat_lit 0, .ofNat (nat_lit 1), nat_lit 0, nat_lit 0, nat_lit 0, []), (nat_lit 6, nat_lit 0, nat_lit 1, nat_lit 0, nat_lit 0, .ofNat (nat_lit 0), nat_lit 0, nat_lit 0, nat_lit 0, []), (nat_lit 7, nat_lit 2, nat_lit 3, nat_lit 10, nat_lit 0, .ofNat (nat_lit 0), nat_lit 12, nat_lit 504, nat_lit 27, []), (nat_lit 10, nat_lit 2, nat_lit 3, nat_lit 7, nat_lit 2, .ofNat (nat_lit 0), nat_lit 0, nat_lit 185, nat_lit 39, []), (nat_lit 13, nat_lit 17, nat_lit 1, nat_lit 0, nat_lit 0, .ofNat (nat_lit 0), nat_lit 0, nat_lit 0, nat_lit 0, []), (nat_lit 14, nat_lit 4, nat_lit 3, nat_lit 0, nat_lit 3, .ofNat (nat_lit 36), nat_lit 0, nat_lit 0, nat_lit 0, [])], [(nat_lit 17, nat_lit 0, nat_lit 1, nat_lit 0, nat_lit 0, .ofNat (nat_lit 0), nat_lit 0, nat_lit 0, nat_lit 0, []), (nat_lit 18, nat_lit 2, nat_lit 3, nat_lit 10, nat_lit 3, .ofNat (nat_lit 0), nat_lit 12, nat_lit 507, nat_lit 11, []), (nat_lit 21, nat_lit 1, nat_lit 1, nat_lit 2, nat_lit 0, .ofNat (nat_lit 0), nat_lit 0, nat_lit 0, nat_lit 0, []), (nat_lit 22, nat_lit 39, nat_lit 1, nat_lit 0, nat_lit 0, .ofNat (nat_lit 0), nat_lit 0, nat_lit 0, nat_lit 0, []), (nat_lit 23, nat_lit 14, nat_lit 3, nat_lit 0, nat_lit 1, .ofNat (nat_lit 21), nat_lit 0, nat_lit 0, nat_lit 0, [])], [(nat_lit 44, nat_lit 7, nat_lit 3, nat_lit 2, nat_lit 0, .ofNat (nat_lit 1), nat_lit 0, nat_lit 0, nat_lit 0, []), (nat_lit 47, nat_lit 5, nat_lit 3, nat_lit 0, nat_lit 0, .negSucc (nat_lit 42), nat_lit 0, nat_lit 0, nat_lit 0, [])], [(nat_lit 50, nat_lit 1, nat_lit 1, nat_lit 1, nat_lit 0, .ofNat (nat_lit 0), nat_lit 0, nat_lit 0, nat_lit 0, []), (nat_lit 51, nat_lit 6, nat_lit 1, nat_lit 0, nat_lit 0, .ofNat (nat_lit 0), nat_lit 0, nat_lit 0, nat_lit 0, [])]]
def rx_c105 : List (List rx_E) := [[(nat_lit 0, nat_lit 3, nat_lit 1, nat_lit 0, nat_lit 0, .ofNat (nat_lit 0), nat_lit 0, nat_lit 0, nat_lit 0, []), (nat_lit 1, nat_lit 11, nat_lit 1, nat_lit 1, nat_lit 0, .ofNat (nat_lit 0), nat_lit 0, nat_lit 0, nat_lit 0, []), (nat_lit 2, nat_lit 1, nat_lit 1, nat_lit 1, nat_lit 0, .ofNat (nat_lit 0), nat_lit 0, nat_lit 0, nat_lit 0, []), (nat_lit 3, nat_lit 0, nat_lit 1, nat_lit 0, nat_lit 0, .ofNat (nat_lit 0), nat_lit 0, nat_lit 0, nat_lit 0, []), (nat_lit 4, nat_lit 2, nat_lit 3, nat_lit 10, nat_lit 0, .ofNat (nat_lit 0), nat_lit 12, nat_lit 504, nat_lit 27, []), (nat_lit 7, nat_lit 2, nat_lit 3, nat_lit 7, nat_lit 2, .ofNat (nat_lit 0), nat_lit 0, nat_lit 185, nat_lit 39, []), (nat_lit 10, nat_lit 4, nat_lit 3, nat_lit 0, nat_lit 3, .ofNat (nat_lit 56), nat_lit 0, nat_lit 0, nat_lit 0, [])], [], [], [], [(nat_lit 66, nat_lit 26, nat_lit 1, nat_lit 0, nat_lit 0, .ofNat (nat_lit 0), nat_lit 0, nat_lit 0, nat_lit 0, [])]]
def rx_c106_0 : List rx_E := [(nat_lit 0, nat_lit 0, nat_lit 1, nat_lit 0, nat_lit 0, .ofNat (nat_lit 0), nat_lit 0, nat_lit 0, nat_lit 0, []), (nat_lit 1, nat_lit 34, nat_lit 3, nat_lit 0, nat_lit 0, .ofNat (nat_lit 0), nat_lit 0, nat_lit 1311, nat_lit 1, []), (nat_lit 4, nat_lit 0, nat_lit 1, nat_lit 0, nat_lit 0, .ofNat (nat_lit 0), nat_lit 0, nat_lit 0, nat_lit 0, []), (nat_lit 5, nat_lit 20, nat_lit 3, nat_lit 0, nat_lit 0, .ofNat (nat_lit 1620), nat_lit 0, nat_lit 0, nat_lit 0, []), (nat_lit 8, nat_lit 32, nat_lit 2, nat_lit 1, nat_lit 0, .ofNat (nat_lit 0), nat_lit 0, nat_lit 0, nat_lit 0, []), (nat_lit 10, nat_lit 15, nat_lit 3, nat_lit 12, nat_lit 0, .ofNat (nat_lit 0), nat_lit 12, nat_lit 1324, nat_lit 7, []), (nat_lit 13, nat_lit 0, nat_lit 1, nat_lit 0, nat_lit 0, .ofNat (nat_lit 0), nat_lit 0, nat_lit 0, nat_lit 0, []), (nat_lit 14, nat_lit 20, nat_lit 3, nat_lit 0, nat_lit 0, .ofNat (nat_lit 1600), nat_lit 0, nat_lit 0, nat_lit 0, [])]
def rx_c106_1 : List rx_E := [(nat_lit 17, nat_lit 32, nat_lit 2, nat_lit 1, nat_lit 0, .ofNat (nat_lit 0), nat_lit 0, nat_lit 0, nat_lit 0, []), (nat_lit 19, nat_lit 15, nat_lit 3, nat_lit 12, nat_lit 1, .ofNat (nat_lit 0), nat_lit 12, nat_lit 1325, nat_lit 13, []), (nat_lit 22, nat_lit 0, nat_lit 1, nat_lit 0, nat_lit 0, .ofNat (nat_lit 0), nat_lit 0, nat_lit 0, nat_lit 0, []), (nat_lit 23, nat_lit 3, nat_lit 1, nat_lit 0, nat_lit 0, .negSucc (nat_lit 0), nat_lit 0, nat_lit 0, nat_lit 0, []), (nat_lit 24, nat_lit 15, nat_lit 3, nat_lit 12, nat_lit 5, .ofNat (nat_lit 0), nat_lit 0, nat_lit 1329, nat_lit 16, []), (nat_lit 27, nat_lit 0, nat_lit 1, nat_lit 0, nat_lit 0, .ofNat (nat_lit 0), nat_lit 0, nat_lit 0, nat_lit 0, []), (nat_lit 28, nat_lit 3, nat_lit 1, nat_lit 0, nat_lit 0, .ofNat (nat_lit 2), nat_lit 0, nat_lit 0, nat_lit 0, []), (nat_lit 29, nat_lit 32, nat_lit 2, nat_lit 0, nat_lit 0, .ofNat (nat_lit 0), nat_lit 0, nat_lit 0, nat_lit 0, []), (nat_lit 31, nat_lit 15, nat_lit 3, nat_lit 12, nat_lit 11, .ofNat (nat_lit 0), nat_lit 12, nat_lit 1335, nat_lit 20, [])]
def rx_c106_2 : List rx_E := [(nat_lit 34, nat_lit 0, nat_lit 1, nat_lit 0, nat_lit 0, .ofNat (nat_lit 0), nat_lit 0, nat_lit 0, nat_lit 0, []), (nat_lit 35, nat_lit 3, nat_lit 1, nat_lit 0, nat_lit 0, .ofNat (nat_lit 2), nat_lit 0, nat_lit 0, nat_lit 0, []), (nat_lit 36, nat_lit 32, nat_lit 2, nat_lit 0, nat_lit 0, .ofNat (nat_lit 0), nat_lit 0, nat_lit 0, nat_lit 0, []), (nat_lit 38, nat_lit 15, nat_lit 3, nat_lit 12, nat_lit 12, .ofNat (nat_lit 0), nat_lit 12, nat_lit 1336, nat_lit 24, []), (nat_lit 41, nat_lit 0, nat_lit 1, nat_lit 0, nat_lit 0, .ofNat (nat_lit 0), nat_lit 0, nat_lit 0, nat_lit 0, []), (nat_lit 42, nat_lit 3, nat_lit 1, nat_lit 0, nat_lit 0, .ofNat (nat_lit 2), nat_lit 0, nat_lit 0, nat_lit 0, []), (nat_lit 43, nat_lit 32, nat_lit 2, nat_lit 0, nat_lit 0, .ofNat (nat_lit 0), nat_lit 0, nat_lit 0, nat_lit 0, []), (nat_lit 45, nat_lit 15, nat_lit 3, nat_lit 12, nat_lit 13, .ofNat (nat_lit 0), nat_lit 12, nat_lit 1337, nat_lit 27, [])]
def rx_c106_3 : List rx_E := [(nat_lit 48, nat_lit 0, nat_lit 1, nat_lit 0, nat_lit 0, .ofNat (nat_lit 0), nat_lit 0, nat_lit 0, nat_lit 0, []), (nat_lit 49, nat_lit 3, nat_lit 1, nat_lit 0, nat_lit 0, .ofNat (nat_lit 2), nat_lit 0, nat_lit 0, nat_lit 0, []), (nat_lit 50, nat_lit 32, nat_lit 2, nat_lit 0, nat_lit 0, .ofNat (nat_lit 0), nat_lit 0, nat_lit 0, nat_lit 0, []), (nat_lit 52, nat_lit 15, nat_lit 3, nat_lit 12, nat_lit 14, .ofNat (nat_lit 0), nat_lit 12, nat_lit 1338, nat_lit 30, []), (nat_lit 55, nat_lit 0, nat_lit 1, nat_lit 0, nat_lit 0, .ofNat (nat_lit 0), nat_lit 0, nat_lit 0, nat_lit 0, []), (nat_lit 56, nat_lit 3, nat_lit 1, nat_lit 0, nat_lit 0, .ofNat (nat_lit 2), nat_lit 0, nat_lit 0, nat_lit 0, []), (nat_lit 57, nat_lit 32, nat_lit 2, nat_lit 0, nat_lit 0, .ofNat (nat_lit 0), nat_lit 0, nat_lit 0, nat_lit 0, []), (nat_lit 59, nat_lit 15, nat_lit 3, nat_lit 12, nat_lit 15, .ofNat (nat_lit 0), nat_lit 12, nat_lit 1339, nat_lit 33, []), (nat_lit 62, nat_lit 0, nat_lit 1, nat_lit 0, nat_lit 0, .ofNat (nat_lit 0), nat_lit 0, nat_lit 0, nat_lit 0, []), (nat_lit 63, nat_lit 3, nat_lit 1, nat_lit 0, nat_lit 0, .ofNat (nat_lit 2), nat_lit 0, nat_lit 0, nat_lit 0, [])]
def rx_c106_4 : List rx_E := [(nat_lit 64, nat_lit 32, nat_lit 2, nat_lit 0, nat_lit 0, .ofNat (nat_lit 0), nat_lit 0, nat_lit 0, nat_lit 0, []), (nat_lit 66, nat_lit 15, nat_lit 3, nat_lit 12, nat_lit 16, .ofNat (nat_lit 0), nat_lit 12, nat_lit 1340, nat_lit 36, []), (nat_lit 69, nat_lit 0, nat_lit 1, nat_lit 0, nat_lit 0, .ofNat (nat_lit 0), nat_lit 0, nat_lit 0, nat_lit 0, []), (nat_lit 70, nat_lit 21, nat_lit 2, nat_lit 0, nat_lit 0, .ofNat (nat_lit 8), nat_lit 0, nat_lit 0, nat_lit 0, []), (nat_lit 72, nat_lit 32, nat_lit 2, nat_lit 0, nat_lit 0, .ofNat (nat_lit 0), nat_lit 0, nat_lit 0, nat_lit 0, []), (nat_lit 74, nat_lit 15, nat_lit 3, nat_lit 12, nat_lit 17, .ofNat (nat_lit 0), nat_lit 12, nat_lit 1341, nat_lit 39, []), (nat_lit 77, nat_lit 0, nat_lit 1, nat_lit 0, nat_lit 0, .ofNat (nat_lit 0), nat_lit 0, nat_lit 0, nat_lit 0, []), (nat_lit 78, nat_lit 21, nat_lit 2, nat_lit 0, nat_lit 0, .ofNat (nat_lit 18), nat_lit 0, nat_lit 0, nat_lit 0, [])]
def rx_c106_5 : List rx_E := [(nat_lit 80, nat_lit 32, nat_lit 2, nat_lit 0, nat_lit 0, .ofNat (nat_lit 0), nat_lit 0, nat_lit 0, nat_lit 0, []), (nat_lit 82, nat_lit 15, nat_lit 3, nat_lit 12, nat_lit 18, .ofNat (nat_lit 0), nat_lit 12, nat_lit 1342, nat_lit 42, []), (nat_lit 85, nat_lit 0, nat_lit 1, nat_lit 0, nat_lit 0, .ofNat (nat_lit 0), nat_lit 0, nat_lit 0, nat_lit 0, []), (nat_lit 86, nat_lit 21, nat_lit 2, nat_lit 0, nat_lit 0, .ofNat (nat_lit 18), nat_lit 0, nat_lit 0, nat_lit 0, []), (nat_lit 88, nat_lit 32, nat_lit 2, nat_lit 0, nat_lit 0, .ofNat (nat_lit 0), nat_lit 0, nat_lit 0, nat_lit 0, []), (nat_lit 90, nat_lit 15, nat_lit 3, nat_lit 12, nat_lit 19, .ofNat (nat_lit 0), nat_lit 12, nat_lit 1343, nat_lit 45, []), (nat_lit 93, nat_lit 0, nat_lit 1, nat_lit 0, nat_lit 0, .ofNat (nat_lit 0), nat_lit 0, nat_lit 0, nat_lit 0, []), (nat_lit 94, nat_lit 21, nat_lit 2, nat_lit 0, nat_lit 0, .ofNat (nat_lit 18), nat_lit 0, nat_lit 0, nat_lit 0, [])]
def rx_c106_6 : List rx_E := [(nat_lit 96, nat_lit 32, nat_lit 2, nat_lit 0, nat_lit 0, .ofNat (nat_lit 0), nat_lit 0, nat_lit 0, nat_lit 0, []), (nat_lit 98, nat_lit 15, nat_lit 3, nat_lit 12, nat_lit 20, .ofNat (nat_lit 0), nat_lit 12, nat_lit 1344, nat_lit 48, []), (nat_lit 101, nat_lit 0, nat_lit 1, nat_lit 0, nat_lit 0, .ofNat (nat_lit 0), nat_lit 0, nat_lit 0, nat_lit 0, []), (nat_lit 102, nat_lit 21, nat_lit 2, nat_lit 0, nat_lit 0, .ofNat (nat_lit 18), nat_lit 0, nat_lit 0, nat_lit 0, []), (nat_lit 104, nat_lit 32, nat_lit 2, nat_lit 0, nat_lit 0, .ofNat (nat_lit 0), nat_lit 0, nat_lit 0, nat_lit 0, []), (nat_lit 106, nat_lit 15, nat_lit 3, nat_lit 12, nat_lit 21, .ofNat (nat_lit 0), nat_lit 12, nat_lit 1345, nat_lit 51, []), (nat_lit 109, nat_lit 0, nat_lit 1, nat_lit 0, nat_lit 0, .ofNat (nat_lit 0), nat_lit 0, nat_lit 0, nat_lit 0, []), (nat_lit 110, nat_lit 21, nat_lit 2, nat_lit 0, nat_lit 0, .ofNat (nat_lit 18), nat_lit 0, nat_lit 0, nat_lit 0, [])]
def rx_c106_7 : List rx_E := [(nat_lit 112, nat_lit 32, nat_lit 2, nat_lit 0, nat_lit 0, .ofNat (nat_lit 0), nat_lit 0, nat_lit 0, nat_lit 0, []), (nat_lit 114, nat_lit 15, nat_lit 3, nat_lit 12, nat_lit 22, .ofNat (nat_lit 0), nat_lit 12, nat_lit 1346, nat_lit 54, []), (nat_lit 117, nat_lit 0, nat_lit 1, nat_lit 0, nat_lit 0, .ofNat (nat_lit 0), nat_lit 0, nat_lit 0, nat_lit 0, []), (nat_lit 118, nat_lit 3, nat_lit 1, nat_lit 0, nat_lit 0, .ofNat (nat_lit 2), nat_lit 0, nat_lit 0, nat_lit 0, []), (nat_lit 119, nat_lit 32, nat_lit 2, nat_lit 2, nat_lit 0, .ofNat (nat_lit 0), nat_lit 0, nat_lit 0, nat_lit 0, []), (nat_lit 121, nat_lit 15, nat_lit 3, nat_lit 12, nat_lit 23, .ofNat (nat_lit 0), nat_lit 12, nat_lit 1347, nat_lit 57, []), (nat_lit 124, nat_lit 0, nat_lit 1, nat_lit 0, nat_lit 0, .ofNat (nat_lit 0), nat_lit 0, nat_lit 0, nat_lit 0, []), (nat_lit 125, nat_lit 21, nat_lit 2, nat_lit 0, nat_lit 0, .ofNat (nat_lit 8), nat_lit 0, nat_lit 0, nat_lit 0, []), (nat_lit 127, nat_lit 32, nat_lit 2, nat_lit 3, nat_lit 0, .ofNat (nat_lit 0), nat_lit 0, nat_lit 0, nat_lit 0, [])]
def rx_c106_8 : List rx_E := [(nat_lit 129, nat_lit 15, nat_lit 3, nat_lit 12, nat_lit 24, .ofNat (nat_lit 0), nat_lit 12, nat_lit 1348, nat_lit 61, []), (nat_lit 132, nat_lit 0, nat_lit 1, nat_lit 0, nat_lit 0, .ofNat (nat_lit 0), nat_lit 0, nat_lit 0, nat_lit 0, []), (nat_lit 133, nat_lit 21, nat_lit 2, nat_lit 0, nat_lit 0, .ofNat (nat_lit 18), nat_lit 0, nat_lit 0, nat_lit 0, []), (nat_lit 135, nat_lit 32, nat_lit 2, nat_lit 3, nat_lit 0, .ofNat (nat_lit 0), nat_lit 0, nat_lit 0, nat_lit 0, []), (nat_lit 137, nat_lit 15, nat_lit 3, nat_lit 12, nat_lit 25, .ofNat (nat_lit 0), nat_lit 12, nat_lit 1349, nat_lit 65, []), (nat_lit 140, nat_lit 0, nat_lit 1, nat_lit 0, nat_lit 0, .ofNat (nat_lit 0), nat_lit 0, nat_lit 0, nat_lit 0, []), (nat_lit 141, nat_lit 20, nat_lit 3, nat_lit 0, nat_lit 0, .ofNat (nat_lit 1120), nat_lit 0, nat_lit 0, nat_lit 0, [])]
def rx_c106_9 : List rx_E := [(nat_lit 144, nat_lit 32, nat_lit 2, nat_lit 0, nat_lit 0, .ofNat (nat_lit 0), nat_lit 0, nat_lit 0, nat_lit 0, []), (nat_lit 146, nat_lit 15, nat_lit 3, nat_lit 12, nat_lit 26, .ofNat (nat_lit 0), nat_lit 12, nat_lit 1350, nat_lit 68, []), (nat_lit 149, nat_lit 0, nat_lit 1, nat_lit 0, nat_lit 0, .ofNat (nat_lit 0), nat_lit 0, nat_lit 0, nat_lit 0, []), (nat_lit 150, nat_lit 20, nat_lit 3, nat_lit 0, nat_lit 0, .ofNat (nat_lit 1120), nat_lit 0, nat_lit 0, nat_lit 0, []), (nat_lit 153, nat_lit 32, nat_lit 2, nat_lit 0, nat_lit 0, .ofNat (nat_lit 0), nat_lit 0, nat_lit 0, nat_lit 0, []), (nat_lit 155, nat_lit 15, nat_lit 3, nat_lit 12, nat_lit 27, .ofNat (nat_lit 0), nat_lit 12, nat_lit 1351, nat_lit 71, []), (nat_lit 158, nat_lit 0, nat_lit 1, nat_lit 0, nat_lit 0, .ofNat (nat_lit 0), nat_lit 0, nat_lit 0, nat_lit 0, []), (nat_lit 159, nat_lit 21, nat_lit 2, nat_lit 0, nat_lit 0, .ofNat (nat_lit 90), nat_lit 0, nat_lit 0, nat_lit 0, [])]
def rx_c106_10 : List rx_E := [(nat_lit 161, nat_lit 32, nat_lit 2, nat_lit 0, nat_lit 0, .ofNat (nat_lit 0), nat_lit 0, nat_lit 0, nat_lit 0, []), (nat_lit 163, nat_lit 15, nat_lit 3, nat_lit 12, nat_lit 28, .ofNat (nat_lit 0), nat_lit 12, nat_lit 1352, nat_lit 74, []), (nat_lit 166, nat_lit 0, nat_lit 1, nat_lit 0, nat_lit 0, .ofNat (nat_lit 0), nat_lit 0, nat_lit 0, nat_lit 0, []), (nat_lit 167, nat_lit 21, nat_lit 2, nat_lit 0, nat_lit 0, .ofNat (nat_lit 90), nat_lit 0, nat_lit 0, nat_lit 0, []), (nat_lit 169, nat_lit 32, nat_lit 2, nat_lit 0, nat_lit 0, .ofNat (nat_lit 0), nat_lit 0, nat_lit 0, nat_lit 0, []), (nat_lit 171, nat_lit 15, nat_lit 3, nat_lit 12, nat_lit 29, .ofNat (nat_lit 0), nat_lit 12, nat_lit 1353, nat_lit 77, []), (nat_lit 174, nat_lit 0, nat_lit 1, nat_lit 0, nat_lit 0, .ofNat (nat_lit 0), nat_lit 0, nat_lit 0, nat_lit 0, []), (nat_lit 175, nat_lit 21, nat_lit 2, nat_lit 0, nat_lit 0, .ofNat (nat_lit 60), nat_lit 0, nat_lit 0, nat_lit 0, [])]
def rx_c106_11 : List rx_E := [(nat_lit 177, nat_lit 32, nat_lit 2, nat_lit 0, nat_lit 0, .ofNat (nat_lit 0), nat_lit 0, nat_lit 0, nat_lit 0, []), (nat_lit 179, nat_lit 15, nat_lit 3, nat_lit 12, nat_lit 30, .ofNat (nat_lit 0), nat_lit 12, nat_lit 1354, nat_lit 80, []), (nat_lit 182, nat_lit 0, nat_lit 1, nat_lit 0, nat_lit 0, .ofNat (nat_lit 0), nat_lit 0, nat_lit 0, nat_lit 0, []), (nat_lit 183, nat_lit 21, nat_lit 2, nat_lit 0, nat_lit 0, .ofNat (nat_lit 24), nat_lit 0, nat_lit 0, nat_lit 0, []), (nat_lit 185, nat_lit 32, nat_lit 2, nat_lit 0, nat_lit 0, .ofNat (nat_lit 0), nat_lit 0, nat_lit 0, nat_lit 0, []), (nat_lit 187, nat_lit 15, nat_lit 3, nat_lit 12, nat_lit 41, .ofNat (nat_lit 0), nat_lit 12, nat_lit 1365, nat_lit 83, []), (nat_lit 190, nat_lit 0, nat_lit 1, nat_lit 0, nat_lit 0, .ofNat (nat_lit 0), nat_lit 0, nat_lit 0, nat_lit 0, []), (nat_lit 191, nat_lit 20, nat_lit 3, nat_lit 0, nat_lit 0, .ofNat (nat_lit 2304), nat_lit 0, nat_lit 0, nat_lit 0, [])]
def rx_c106_12 : List rx_E := [(nat_lit 194, nat_lit 32, nat_lit 2, nat_lit 0, nat_lit 0, .ofNat (nat_lit 0), nat_lit 0, nat_lit 0, nat_lit 0, []), (nat_lit 196, nat_lit 15, nat_lit 3, nat_lit 12, nat_lit 42, .ofNat (nat_lit 0), nat_lit 12, nat_lit 1366, nat_lit 86, []), (nat_lit 199, nat_lit 0, nat_lit 1, nat_lit 0, nat_lit 0, .ofNat (nat_lit 0), nat_lit 0, nat_lit 0, nat_lit 0, []), (nat_lit 200, nat_lit 20, nat_lit 3, nat_lit 0, nat_lit 0, .ofNat (nat_lit 984), nat_lit 0, nat_lit 0, nat_lit 0, []), (nat_lit 203, nat_lit 32, nat_lit 2, nat_lit 0, nat_lit 0, .ofNat (nat_lit 0), nat_lit 0, nat_lit 0, nat_lit 0, []), (nat_lit 205, nat_lit 15, nat_lit 3, nat_lit 12, nat_lit 43, .ofNat (nat_lit 0), nat_lit 12, nat_lit 1367, nat_lit 89, [])]
def rx_c106_13 : List rx_E := [(nat_lit 208, nat_lit 0, nat_lit 1, nat_lit 0, nat_lit 0, .ofNat (nat_lit 0), nat_lit 0, nat_lit 0, nat_lit 0, []), (nat_lit 209, nat_lit 3, nat_lit 1, nat_lit 0, nat_lit 0, .ofNat (nat_lit 4), nat_lit 0, nat_lit 0, nat_lit 0, []), (nat_lit 210, nat_lit 32, nat_lit 2, nat_lit 0, nat_lit 0, .ofNat (nat_lit 0), nat_lit 0, nat_lit 0, nat_lit 0, []), (nat_lit 212, nat_lit 15, nat_lit 3, nat_lit 12, nat_lit 46, .ofNat (nat_lit 0), nat_lit 12, nat_lit 1370, nat_lit 92, []), (nat_lit 215, nat_lit 0, nat_lit 1, nat_lit 0, nat_lit 0, .ofNat (nat_lit 0), nat_lit 0, nat_lit 0, nat_lit 0, []), (nat_lit 216, nat_lit 3, nat_lit 1, nat_lit 0, nat_lit 0, .ofNat (nat_lit 4), nat_lit 0, nat_lit 0, nat_lit 0, []), (nat_lit 217, nat_lit 32, nat_lit 2, nat_lit 0, nat_lit 0, .ofNat (nat_lit 0), nat_lit 0, nat_lit 0, nat_lit 0, []), (nat_lit 219, nat_lit 15, nat_lit 3, nat_lit 12, nat_lit 47, .ofNat (nat_lit 0), nat_lit 12, nat_lit 1371, nat_lit 95, []), (nat_lit 222, nat_lit 0, nat_lit 1, nat_lit 0, nat_lit 0, .ofNat (nat_lit 0), nat_lit 0, nat_lit 0, nat_lit 0, []), (nat_lit 223, nat_lit 20, nat_lit 3, nat_lit 0, nat_lit 0, .ofNat (nat_lit 256), nat_lit 0, nat_lit 0, nat_lit 0, [])]
def rx_c106_14 : List rx_E := [(nat_lit 226, nat_lit 32, nat_lit 2, nat_lit 0, nat_lit 0, .ofNat (nat_lit 0), nat_lit 0, nat_lit 0, nat_lit 0, []), (nat_lit 228, nat_lit 15, nat_lit 3, nat_lit 12, nat_lit 48, .ofNat (nat_lit 0), nat_lit 12, nat_lit 1372, nat_lit 98, []), (nat_lit 231, nat_lit 0, nat_lit 1, nat_lit 0, nat_lit 0, .ofNat (nat_lit 0), nat_lit 0, nat_lit 0, nat_lit 0, []), (nat_lit 232, nat_lit 21, nat_lit 2, nat_lit 0, nat_lit 0, .ofNat (nat_lit 9), nat_lit 0, nat_lit 0, nat_lit 0, []), (nat_lit 234, nat_lit 32, nat_lit 2, nat_lit 0, nat_lit 0, .ofNat (nat_lit 0), nat_lit 0, nat_lit 0, nat_lit 0, []), (nat_lit 236, nat_lit 15, nat_lit 3, nat_lit 12, nat_lit 50, .ofNat (nat_lit 0), nat_lit 12, nat_lit 1374, nat_lit 101, []), (nat_lit 239, nat_lit 0, nat_lit 1, nat_lit 0, nat_lit 0, .ofNat (nat_lit 0), nat_lit 0, nat_lit 0, nat_lit 0, [])]
def rx_c106_15 : List rx_E := [(nat_lit 240, nat_lit 21, nat_lit 2, nat_lit 0, nat_lit 0, .ofNat (nat_lit 8), nat_lit 0, nat_lit 0, nat_lit 0, []), (nat_lit 242, nat_lit 32, nat_lit 2, nat_lit 0, nat_lit 0, .ofNat (nat_lit 0), nat_lit 0, nat_lit 0, nat_lit 0, []), (nat_lit 244, nat_lit 15, nat_lit 3, nat_lit 12, nat_lit 51, .ofNat (nat_lit 0), nat_lit 12, nat_lit 1375, nat_lit 104, []), (nat_lit 247, nat_lit 0, nat_lit 1, nat_lit 0, nat_lit 0, .ofNat (nat_lit 0), nat_lit 0, nat_lit 0, nat_lit 0, []), (nat_lit 248, nat_lit 21, nat_lit 2, nat_lit 0, nat_lit 0, .ofNat (nat_lit 30), nat_lit 0, nat_lit 0, nat_lit 0, []), (nat_lit 250, nat_lit 32, nat_lit 2, nat_lit 0, nat_lit 0, .ofNat (nat_lit 0), nat_lit 0, nat_lit 0, nat_lit 0, []), (nat_lit 252, nat_lit 15, nat_lit 3, nat_lit 12, nat_lit 52, .ofNat (nat_lit 0), nat_lit 12, nat_lit 1376, nat_lit 107, []), (nat_lit 255, nat_lit 0, nat_lit 1, nat_lit 0, nat_lit 0, .ofNat (nat_lit 0), nat_lit 0, nat_lit 0, nat_lit 0, [])]
def rx_c106_16 : List rx_E := [(nat_lit 256, nat_lit 21, nat_lit 2, nat_lit 0, nat_lit 0, .ofNat (nat_lit 30), nat_lit 0, nat_lit 0, nat_lit 0, []), (nat_lit 258, nat_lit 32, nat_lit 2, nat_lit 0, nat_lit 0, .ofNat (nat_lit 0), nat_lit 0, nat_lit 0, nat_lit 0, []), (nat_lit 260, nat_lit 15, nat_lit 3, nat_lit 12, nat_lit 53, .ofNat (nat_lit 0), nat_lit 12, nat_lit 1377, nat_lit 110, []), (nat_lit 263, nat_lit 0, nat_lit 1, nat_lit 0, nat_lit 0, .ofNat (nat_lit 0), nat_lit 0, nat_lit 0, nat_lit 0, []), (nat_lit 264, nat_lit 21, nat_lit 2, nat_lit 0, nat_lit 0, .ofNat (nat_lit 30), nat_lit 0, nat_lit 0, nat_lit 0, []), (nat_lit 266, nat_lit 32, nat_lit 2, nat_lit 0, nat_lit 0, .ofNat (nat_lit 0), nat_lit 0, nat_lit 0, nat_lit 0, []), (nat_lit 268, nat_lit 15, nat_lit 3, nat_lit 12, nat_lit 54, .ofNat (nat_lit 0), nat_lit 12, nat_lit 1378, nat_lit 113, []), (nat_lit 271, nat_lit 0, nat_lit 1, nat_lit 0, nat_lit 0, .ofNat (nat_lit 0), nat_lit 0, nat_lit 0, nat_lit 0, [])]
def rx_c106_17 : List rx_E := [(nat_lit 272, nat_lit 21, nat_lit 2, nat_lit 0, nat_lit 0, .ofNat (nat_lit 30), nat_lit 0, nat_lit 0, nat_lit 0, []), (nat_lit 274, nat_lit 32, nat_lit 2, nat_lit 0, nat_lit 0, .ofNat (nat_lit 0), nat_lit 0, nat_lit 0, nat_lit 0, []), (nat_lit 276, nat_lit 15, nat_lit 3, nat_lit 12, nat_lit 55, .ofNat (nat_lit 0), nat_lit 12, nat_lit 1379, nat_lit 116, []), (nat_lit 279, nat_lit 0, nat_lit 1, nat_lit 0, nat_lit 0, .ofNat (nat_lit 0), nat_lit 0, nat_lit 0, nat_lit 0, []), (nat_lit 280, nat_lit 20, nat_lit 3, nat_lit 0, nat_lit 0, .ofNat (nat_lit 256), nat_lit 0, nat_lit 0, nat_lit 0, []), (nat_lit 283, nat_lit 32, nat_lit 2, nat_lit 0, nat_lit 0, .ofNat (nat_lit 0), nat_lit 0, nat_lit 0, nat_lit 0, []), (nat_lit 285, nat_lit 15, nat_lit 3, nat_lit 12, nat_lit 56, .ofNat (nat_lit 0), nat_lit 12, nat_lit 1380, nat_lit 119, [])]
def rx_c106_18 : List rx_E := [(nat_lit 288, nat_lit 0, nat_lit 1, nat_lit 0, nat_lit 0, .ofNat (nat_lit 0), nat_lit 0, nat_lit 0, nat_lit 0, []), (nat_lit 289, nat_lit 20, nat_lit 3, nat_lit 0, nat_lit 0, .ofNat (nat_lit 256), nat_lit 0, nat_lit 0, nat_lit 0, []), (nat_lit 292, nat_lit 32, nat_lit 2, nat_lit 0, nat_lit 0, .ofNat (nat_lit 0), nat_lit 0, nat_lit 0, nat_lit 0, []), (nat_lit 294, nat_lit 15, nat_lit 3, nat_lit 12, nat_lit 57, .ofNat (nat_lit 0), nat_lit 12, nat_lit 1381, nat_lit 122, []), (nat_lit 297, nat_lit 0, nat_lit 1, nat_lit 0, nat_lit 0, .ofNat (nat_lit 0), nat_lit 0, nat_lit 0, nat_lit 0, []), (nat_lit 298, nat_lit 20, nat_lit 3, nat_lit 0, nat_lit 0, .ofNat (nat_lit 1024), nat_lit 0, nat_lit 0, nat_lit 0, []), (nat_lit 301, nat_lit 32, nat_lit 2, nat_lit 0, nat_lit 0, .ofNat (nat_lit 0), nat_lit 0, nat_lit 0, nat_lit 0, []), (nat_lit 303, nat_lit 15, nat_lit 3, nat_lit 12, nat_lit 61, .ofNat (nat_lit 0), nat_lit 12, nat_lit 1385, nat_lit 125, [])]
def rx_c106_19 : List rx_E := [(nat_lit 306, nat_lit 0, nat_lit 1, nat_lit 0, nat_lit 0, .ofNat (nat_lit 0), nat_lit 0, nat_lit 0, nat_lit 0, []), (nat_lit 307, nat_lit 20, nat_lit 3, nat_lit 0, nat_lit 0, .ofNat (nat_lit 1024), nat_lit 0, nat_lit 0, nat_lit 0, []), (nat_lit 310, nat_lit 32, nat_lit 2, nat_lit 0, nat_lit 0, .ofNat (nat_lit 0), nat_lit 0, nat_lit 0, nat_lit 0, []), (nat_lit 312, nat_lit 15, nat_lit 3, nat_lit 12, nat_lit 62, .ofNat (nat_lit 0), nat_lit 12, nat_lit 1386, nat_lit 128, []), (nat_lit 315, nat_lit 0, nat_lit 1, nat_lit 0, nat_lit 0, .ofNat (nat_lit 0), nat_lit 0, nat_lit 0, nat_lit 0, []), (nat_lit 316, nat_lit 21, nat_lit 2, nat_lit 0, nat_lit 0, .ofNat (nat_lit 72), nat_lit 0, nat_lit 0, nat_lit 0, []), (nat_lit 318, nat_lit 32, nat_lit 2, nat_lit 0, nat_lit 0, .ofNat (nat_lit 0), nat_lit 0, nat_lit 0, nat_lit 0, [])]
def rx_c106_20 : List rx_E := [(nat_lit 320, nat_lit 15, nat_lit 3, nat_lit 12, nat_lit 63, .ofNat (nat_lit 0), nat_lit 12, nat_lit 1387, nat_lit 131, []), (nat_lit 323, nat_lit 0, nat_lit 1, nat_lit 0, nat_lit 0, .ofNat (nat_lit 0), nat_lit 0, nat_lit 0, nat_lit 0, []), (nat_lit 324, nat_lit 3, nat_lit 1, nat_lit 0, nat_lit 0, .ofNat (nat_lit 3), nat_lit 0, nat_lit 0, nat_lit 0, []), (nat_lit 325, nat_lit 32, nat_lit 2, nat_lit 2, nat_lit 0, .ofNat (nat_lit 0), nat_lit 0, nat_lit 0, nat_lit 0, []), (nat_lit 327, nat_lit 15, nat_lit 3, nat_lit 12, nat_lit 64, .ofNat (nat_lit 0), nat_lit 12, nat_lit 1388, nat_lit 134, []), (nat_lit 330, nat_lit 0, nat_lit 1, nat_lit 0, nat_lit 0, .ofNat (nat_lit 0), nat_lit 0, nat_lit 0, nat_lit 0, []), (nat_lit 331, nat_lit 8, nat_lit 3, nat_lit 117, nat_lit 120, .ofNat (nat_lit 0), nat_lit 0, nat_lit 1312, nat_lit 137, []), (nat_lit 334, nat_lit 0, nat_lit 1, nat_lit 0, nat_lit 0, .ofNat (nat_lit 0), nat_lit 0, nat_lit 0, nat_lit 0, []), (nat_lit 335, nat_lit 8, nat_lit 3, nat_lit 170, nat_lit 120, .ofNat (nat_lit 0), nat_lit 0, nat_lit 1316, nat_lit 140, [])]
def rx_c106_21 : List rx_E := [(nat_lit 338, nat_lit 26, nat_lit 1, nat_lit 0, nat_lit 0, .ofNat (nat_lit 0), nat_lit 0, nat_lit 0, nat_lit 0, [])]
def rx_c106 : List (List rx_E) := [rx_c106_0, rx_c106_1, rx_c106_2, rx_c106_3, rx_c106_4, rx_c106_5, rx_c106_6, rx_c106_7, rx_c106_8, rx_c106_9, rx_c106_10, rx_c106_11, rx_c106_12, rx_c106_13, rx_c106_14, rx_c106_15, rx_c106_16, rx_c106_17, rx_c106_18, rx_c106_19, rx_c106_20, rx_c106_21]
def rx_c107 : List (List rx_E) := [[(nat_lit 0, nat_lit 1, nat_lit 1, nat_lit 1, nat_lit 0, .ofNat (nat_lit 0), nat_lit 0, nat_lit 0, nat_lit 0, []), (nat_lit 1, nat_lit 38, nat_lit 63, nat_lit 0, nat_lit 0, .ofNat (nat_lit 139), nat_lit 11, nat_lit 0, nat_lit 0, [.ofNat (nat_lit 63), .ofNat (nat_lit 68), .ofNat (nat_lit 78), .ofNat (nat_lit 83), .ofNat (nat_lit 91), .ofNat (nat_lit 99), .ofNat (nat_lit 104), .ofNat (nat_lit 109), .ofNat (nat_lit 114), .ofNat (nat_lit 119), .ofNat (nat_lit 124), .ofNat (nat_lit 134)])], [], [], [], [(nat_lit 64, nat_lit 0, nat_lit 1, nat_lit 0, nat_lit 0, .ofNat (nat_lit 0), nat_lit 0, nat_lit 0, nat_lit 0, []), (nat_lit 65, nat_lit 8, nat_lit 3, nat_lit 155, nat_lit 120, .ofNat (nat_lit 0), nat_lit 0, nat_lit 1320, nat_lit 345, []), (nat_lit 68, nat_lit 6, nat_lit 1, nat_lit 0, nat_lit 0, .ofNat (nat_lit 0), nat_lit 0, nat_lit 0, nat_lit 0, []), (nat_lit 69, nat_lit 0, nat_lit 1, nat_lit 0, nat_lit 0, .ofNat (nat_lit 0), nat_lit 0, nat_lit 0, nat_lit 0, []), (nat_lit 70, nat_lit 2, nat_lit 3, nat_lit 12, nat_lit 12, .ofNat (nat_lit 0), nat_lit 12, nat_lit 1336, nat_lit 24, []), (nat_lit 73, nat_lit 0, nat_lit 1, nat_lit 0, nat_lit 0, .ofNat (nat_lit 0), nat_lit 0, nat_lit 0, nat_lit 0, []), (nat_lit 74, nat_lit 2, nat_lit 3, nat_lit 12, nat_lit 31, .ofNat (nat_lit 0), nat_lit 0, nat_lit 1355, nat_lit 251, []), (nat_lit 77, nat_lit 9, nat_lit 1, nat_lit 0, nat_lit 0, .ofNat (nat_lit 0), nat_lit 0, nat_lit 0, nat_lit 0, []), (nat_lit 78, nat_lit 6, nat_lit 1, nat_lit 0, nat_lit 0, .ofNat (nat_lit 0), nat_lit 0, nat_lit 0, nat_lit 0, []), (nat_lit 79, nat_lit 0, nat_lit 1, nat_lit 0, nat_lit 0, .ofNat (nat_lit 0), nat_lit 0, nat_lit 0, nat_lit 0, [])], [(nat_lit 80, nat_lit 8, nat_lit 3, nat_lit 180, nat_lit 120, .ofNat (nat_lit 0), nat_lit 0, nat_lit 1688, nat_lit 338, []), (nat_lit 83, nat_lit 6, nat_lit 1, nat_lit 0, nat_lit 0, .ofNat (nat_lit 0), nat_lit 0, nat_lit 0, nat_lit 0, []), (nat_lit 84, nat_lit 0, nat_lit 1, nat_lit 0, nat_lit 0, .ofNat (nat_lit 0), nat_lit 0, nat_lit 0, nat_lit 0, []), (nat_lit 85, nat_lit 2, nat_lit 3, nat_lit 12, nat_lit 41, .ofNat (nat_lit 0), nat_lit 12, nat_lit 1365, nat_lit 83, []), (nat_lit 88, nat_lit 21, nat_lit 2, nat_lit 0, nat_lit 0, .ofNat (nat_lit 22), nat_lit 0, nat_lit 0, nat_lit 0, []), (nat_lit 90, nat_lit 9, nat_lit 1, nat_lit 0, nat_lit 0, .ofNat (nat_lit 0), nat_lit 0, nat_lit 0, nat_lit 0, []), (nat_lit 91, nat_lit 6, nat_lit 1, nat_lit 0, nat_lit 0, .ofNat (nat_lit 0), nat_lit 0, nat_lit 0, nat_lit 0, []), (nat_lit 92, nat_lit 0, nat_lit 1, nat_lit 0, nat_lit 0, .ofNat (nat_lit 0), nat_lit 0, nat_lit 0, nat_lit 0, []), (nat_lit 93, nat_lit 2, nat_lit 3, nat_lit 12, nat_lit 41, .ofNat (nat_lit 0), nat_lit 12, nat_lit 1365, nat_lit 83, [])], [(nat_lit 96, nat_lit 21, nat_lit 2, nat_lit 0, nat_lit 0, .ofNat (nat_lit 23), nat_lit 0, nat_lit 0, nat_lit 0, []), (nat_lit 98, nat_lit 9, nat_lit 1, nat_lit 0, nat_lit 0, .ofNat (nat_lit 0), nat_lit 0, nat_lit 0, nat_lit 0, []), (nat_lit 99, nat_lit 6, nat_lit 1, nat_lit 0, nat_lit 0, .ofNat (nat_lit 0), nat_lit 0, nat_lit 0, nat_lit 0, []), (nat_lit 100, nat_lit 0, nat_lit 1, nat_lit 0, nat_lit 0, .ofNat (nat_lit 0), nat_lit 0, nat_lit 0, nat_lit 0, []), (nat_lit 101, nat_lit 2, nat_lit 3, nat_lit 12, nat_lit 44, .ofNat (nat_lit 0), nat_lit 0, nat_lit 1368, nat_lit 371, []), (nat_lit 104, nat_lit 6, nat_lit 1, nat_lit 0, nat_lit 0, .ofNat (nat_lit 0), nat_lit 0, nat_lit 0, nat_lit 0, []), (nat_lit 105, nat_lit 0, nat_lit 1, nat_lit 0, nat_lit 0, .ofNat (nat_lit 0), nat_lit 0, nat_lit 0, nat_lit 0, []), (nat_lit 106, nat_lit 2, nat_lit 3, nat_lit 12, nat_lit 45, .ofNat (nat_lit 0), nat_lit 0, nat_lit 1369, nat_lit 374, []), (nat_lit 109, nat_lit 6, nat_lit 1, nat_lit 0, nat_lit 0, .ofNat (nat_lit 0), nat_lit 0, nat_lit 0, nat_lit 0, []), (nat_lit 110, nat_lit 0, nat_lit 1, nat_lit 0, nat_lit 0, .ofNat (nat_lit 0), nat_lit 0, nat_lit 0, nat_lit 0, []), (nat_lit 111, nat_lit 2, nat_lit 3, nat_lit 12, nat_lit 58, .ofNat (nat_lit 0), nat_lit 0, nat_lit 1382, nat_lit 377, [])], [(nat_lit 114, nat_lit 6, nat_lit 1, nat_lit 0, nat_lit 0, .ofNat (nat_lit 0), nat_lit 0, nat_lit 0, nat_lit 0, []), (nat_lit 115, nat_lit 0, nat_lit 1, nat_lit 0, nat_lit 0, .ofNat (nat_lit 0), nat_lit 0, nat_lit 0, nat_lit 0, []), (nat_lit 116, nat_lit 2, nat_lit 3, nat_lit 12, nat_lit 59, .ofNat (nat_lit 0), nat_lit 0, nat_lit 1383, nat_lit 458, []), (nat_lit 119, nat_lit 6, nat_lit 1, nat_lit 0, nat_lit 0, .ofNat (nat_lit 0), nat_lit 0, nat_lit 0, nat_lit 0, []), (nat_lit 120, nat_lit 0, nat_lit 1, nat_lit 0, nat_lit 0, .ofNat (nat_lit 0), nat_lit 0, nat_lit 0, nat_lit 0, []), (nat_lit 121, nat_lit 2, nat_lit 3, nat_lit 12, nat_lit 2, .ofNat (nat_lit 0), nat_lit 0, nat_lit 1326, nat_lit 248, []), (nat_lit 124, nat_lit 6, nat_lit 1, nat_lit 0, nat_lit 0, .ofNat (nat_lit 0), nat_lit 0, nat_lit 0, nat_lit 0, []), (nat_lit 125, nat_lit 0, nat_lit 1, nat_lit 0, nat_lit 0, .ofNat (nat_lit 0), nat_lit 0, nat_lit 0, nat_lit 0, []), (nat_lit 126, nat_lit 2, nat_lit 3, nat_lit 12, nat_lit 14, .ofNat (nat_lit 0), nat_lit 12, nat_lit 1338, nat_lit 30, [])], [(nat_lit 129, nat_lit 0, nat_lit 1, nat_lit 0, nat_lit 0, .ofNat (nat_lit 0), nat_lit 0, nat_lit 0, nat_lit 0, []), (nat_lit 130, nat_lit 2, nat_lit 3, nat_lit 12, nat_lit 31, .ofNat (nat_lit 0), nat_lit 0, nat_lit 1355, nat_lit 251, []), (nat_lit 133, nat_lit 9, nat_lit 1, nat_lit 0, nat_lit 0, .ofNat (nat_lit 0), nat_lit 0, nat_lit 0, nat_lit 0, []), (nat_lit 134, nat_lit 6, nat_lit 1, nat_lit 0, nat_lit 0, .ofNat (nat_lit 0), nat_lit 0, nat_lit 0, nat_lit 0, []), (nat_lit 135, nat_lit 0, nat_lit 1, nat_lit 0, nat_lit 0, .ofNat (nat_lit 0), nat_lit 0, nat_lit 0, nat_lit 0, []), (nat_lit 136, nat_lit 2, nat_lit 3, nat_lit 12, nat_lit 49, .ofNat (nat_lit 0), nat_lit 0, nat_lit 1373, nat_lit 380, []), (nat_lit 139, nat_lit 6, nat_lit 1, nat_lit 0, nat_lit 0, .ofNat (nat_lit 0), nat_lit 0, nat_lit 0, nat_lit 0, []), (nat_lit 140, nat_lit 3, nat_lit 1, nat_lit 0, nat_lit 0, .negSucc (nat_lit 0), nat_lit 0, nat_lit 0, nat_lit 0, []), (nat_lit 141, nat_lit 6, nat_lit 1, nat_lit 0, nat_lit 0, .ofNat (nat_lit 0), nat_lit 0, nat_lit 0, nat_lit 0, [])]]
def rx_c108 : List (List rx_E) := [[(nat_lit 0, nat_lit 0, nat_lit 1, nat_lit 0, nat_lit 0, .ofNat (nat_lit 0), nat_lit 0, nat_lit 0, nat_lit 0, []), (nat_lit 1, nat_lit 8, nat_lit 3, nat_lit 147, nat_lit 120, .ofNat (nat_lit 0), nat_lit 0, nat_lit 1800, nat_lit 411, []), (nat_lit 4, nat_lit 0, nat_lit 1, nat_lit 0, nat_lit 0, .ofNat (nat_lit 0), nat_lit 0, nat_lit 0, nat_lit 0, []), (nat_lit 5, nat_lit 3, nat_lit 1, nat_lit 0, nat_lit 0, .ofNat (nat_lit 0), nat_lit 0, nat_lit 0, nat_lit 0, []), (nat_lit 6, nat_lit 15, nat_lit 3, nat_lit 12, nat_lit 49, .ofNat (nat_lit 0), nat_lit 0, nat_lit 1373, nat_lit 380, []), (nat_lit 9, nat_lit 3, nat_lit 1, nat_lit 0, nat_lit 0, .ofNat (nat_lit 0), nat_lit 0, nat_lit 0, nat_lit 0, []), (nat_lit 10, nat_lit 11, nat_lit 1, nat_lit 1, nat_lit 0, .ofNat (nat_lit 0), nat_lit 0, nat_lit 0, nat_lit 0, []), (nat_lit 11, nat_lit 3, nat_lit 1, nat_lit 0, nat_lit 0, .ofNat (nat_lit 0), nat_lit 0, nat_lit 0, nat_lit 0, []), (nat_lit 12, nat_lit 11, nat_lit 1, nat_lit 2, nat_lit 0, .ofNat (nat_lit 0), nat_lit 0, nat_lit 0, nat_lit 0, []), (nat_lit 13, nat_lit 1, nat_lit 1, nat_lit 2, nat_lit 0, .ofNat (nat_lit 0), nat_lit 0, nat_lit 0, nat_lit 0, []), (nat_lit 14, nat_lit 0, nat_lit 1, nat_lit 0, nat_lit 0, .ofNat (nat_lit 0), nat_lit 0, nat_lit 0, nat_lit 0, []), (nat_lit 15, nat_lit 8, nat_lit 3, nat_lit 155, nat_lit 120, .ofNat (nat_lit 0), nat_lit 0, nat_lit 1320, nat_lit 345, [])], [(nat_lit 18, nat_lit 4, nat_lit 3, nat_lit 0, nat_lit 3, .ofNat (nat_lit 69), nat_lit 0, nat_lit 0, nat_lit 0, [])], [], [], [], [(nat_lit 87, nat_lit 1, nat_lit 1, nat_lit 1, nat_lit 0, .ofNat (nat_lit 0), nat_lit 0, nat_lit 0, nat_lit 0, []), (nat_lit 88, nat_lit 6, nat_lit 1, nat_lit 0, nat_lit 0, .ofNat (nat_lit 0), nat_lit 0, nat_lit 0, nat_lit 0, [])]]
def rx_c109 : List (List rx_E) := [[(nat_lit 0, nat_lit 0, nat_lit 1, nat_lit 0, nat_lit 0, .ofNat (nat_lit 0), nat_lit 0, nat_lit 0, nat_lit 0, []), (nat_lit 1, nat_lit 1, nat_lit 1, nat_lit 1, nat_lit 0, .ofNat (nat_lit 0), nat_lit 0, nat_lit 0, nat_lit 0, []), (nat_lit 2, nat_lit 8, nat_lit 3, nat_lit 144, nat_lit 120, .ofNat (nat_lit 0), nat_lit 1, nat_lit 1672, nat_lit 386, []), (nat_lit 5, nat_lit 14, nat_lit 3, nat_lit 0, nat_lit 0, .ofNat (nat_lit 11), nat_lit 0, nat_lit 0, nat_lit 0, [])], [(nat_lit 16, nat_lit 3, nat_lit 1, nat_lit 0, nat_lit 0, .negSucc (nat_lit 0), nat_lit 0, nat_lit 0, nat_lit 0, []), (nat_lit 17, nat_lit 6, nat_lit 1, nat_lit 0, nat_lit 0, .ofNat (nat_lit 0), nat_lit 0, nat_lit 0, nat_lit 0, [])]]
def rx_c110 : List (List rx_E) := [[(nat_lit 0, nat_lit 0, nat_lit 1, nat_lit 0, nat_lit 0, .ofNat (nat_lit 0), nat_lit 0, nat_lit 0, nat_lit 0, []), (nat_lit 1, nat_lit 1, nat_lit 1, nat_lit 2, nat_lit 0, .ofNat (nat_lit 0), nat_lit 0, nat_lit 0, nat_lit 0, []), (nat_lit 2, nat_lit 8, nat_lit 3, nat_lit 148, nat_lit 120, .ofNat (nat_lit 0), nat_lit 1, nat_lit 1945, nat_lit 468, []), (nat_lit 5, nat_lit 0, nat_lit 1, nat_lit 0, nat_lit 0, .ofNat (nat_lit 0), nat_lit 0, nat_lit 0, nat_lit 0, []), (nat_lit 6, nat_lit 2, nat_lit 3, nat_lit 12, nat_lit 60, .ofNat (nat_lit 0), nat_lit 0, nat_lit 1384, nat_lit 462, []), (nat_lit 9, nat_lit 14, nat_lit 3, nat_lit 0, nat_lit 0, .ofNat (nat_lit 19), nat_lit 0, nat_lit 0, nat_lit 0, []), (nat_lit 12, nat_lit 0, nat_lit 1, nat_lit 0, nat_lit 0, .ofNat (nat_lit 0), nat_lit 0, nat_lit 0, nat_lit 0, []), (nat_lit 13, nat_lit 8, nat_lit 3, nat_lit 155, nat_lit 120, .ofNat (nat_lit 0), nat_lit 0, nat_lit 1320, nat_lit 345, [])], [(nat_lit 16, nat_lit 14, nat_lit 3, nat_lit 0, nat_lit 0, .ofNat (nat_lit 12), nat_lit 0, nat_lit 0, nat_lit 0, []), (nat_lit 28, nat_lit 3, nat_lit 1, nat_lit 0, nat_lit 0, .negSucc (nat_lit 0), nat_lit 0, nat_lit 0, nat_lit 0, []), (nat_lit 29, nat_lit 6, nat_lit 1, nat_lit 0, nat_lit 0, .ofNat (nat_lit 0), nat_lit 0, nat_lit 0, nat_lit 0, [])]]
def rx_c111 : List (List rx_E) := [[(nat_lit 0, nat_lit 1, nat_lit 1, nat_lit 1, nat_lit 0, .ofNat (nat_lit 0), nat_lit 0, nat_lit 0, nat_lit 0, []), (nat_lit 1, nat_lit 3, nat_lit 1, nat_lit 0, nat_lit 0, .ofNat (nat_lit 0), nat_lit 0, nat_lit 0, nat_lit 0, []), (nat_lit 2, nat_lit 3, nat_lit 1, nat_lit 0, nat_lit 0, .ofNat (nat_lit 2), nat_lit 0, nat_lit 0, nat_lit 0, []), (nat_lit 3, nat_lit 24, nat_lit 3, nat_lit 142, nat_lit 121, .ofNat (nat_lit 0), nat_lit 3, nat_lit 1665, nat_lit 341, []), (nat_lit 6, nat_lit 14, nat_lit 3, nat_lit 0, nat_lit 0, .ofNat (nat_lit 12), nat_lit 0, nat_lit 0, nat_lit 0, []), (nat_lit 9, nat_lit 0, nat_lit 1, nat_lit 0, nat_lit 0, .ofNat (nat_lit 0), nat_lit 0, nat_lit 0, nat_lit 0, []), (nat_lit 10, nat_lit 2, nat_lit 3, nat_lit 12, nat_lit 64, .ofNat (nat_lit 0), nat_lit 12, nat_lit 1388, nat_lit 134, []), (nat_lit 13, nat_lit 1, nat_lit 1, nat_lit 1, nat_lit 0, .ofNat (nat_lit 0), nat_lit 0, nat_lit 0, nat_lit 0, []), (nat_lit 14, nat_lit 39, nat_lit 1, nat_lit 0, nat_lit 0, .ofNat (nat_lit 0), nat_lit 0, nat_lit 0, nat_lit 0, []), (nat_lit 15, nat_lit 14, nat_lit 3, nat_lit 0, nat_lit 1, .ofNat (nat_lit 5), nat_lit 0, nat_lit 0, nat_lit 0, [])], [(nat_lit 18, nat_lit 3, nat_lit 1, nat_lit 0, nat_lit 0, .negSucc (nat_lit 0), nat_lit 0, nat_lit 0, nat_lit 0, []), (nat_lit 19, nat_lit 6, nat_lit 1, nat_lit 0, nat_lit 0, .ofNat (nat_lit 0), nat_lit 0, nat_lit 0, nat_lit 0, [])]]
def rx_c112 : List (List rx_E) := [[(nat_lit 0, nat_lit 3, nat_lit 1, nat_lit 0, nat_lit 0, .ofNat (nat_lit 0), nat_lit 0, nat_lit 0, nat_lit 0, []), (nat_lit 1, nat_lit 11, nat_lit 1, nat_lit 1, nat_lit 0, .ofNat (nat_lit 0), nat_lit 0, nat_lit 0, nat_lit 0, []), (nat_lit 2, nat_lit 1, nat_lit 1, nat_lit 0, nat_lit 0, .ofNat (nat_lit 0), nat_lit 0, nat_lit 0, nat_lit 0, []), (nat_lit 3, nat_lit 11, nat_lit 1, nat_lit 2, nat_lit 0, .ofNat (nat_lit 0), nat_lit 0, nat_lit 0, nat_lit 0, []), (nat_lit 4, nat_lit 1, nat_lit 1, nat_lit 2, nat_lit 0, .ofNat (nat_lit 0), nat_lit 0, nat_lit 0, nat_lit 0, []), (nat_lit 5, nat_lit 14, nat_lit 3, nat_lit 0, nat_lit 0, .ofNat (nat_lit 15), nat_lit 0, nat_lit 0, nat_lit 0, []), (nat_lit 8, nat_lit 7, nat_lit 3, nat_lit 1, nat_lit 0, .ofNat (nat_lit 1), nat_lit 0, nat_lit 0, nat_lit 0, []), (nat_lit 11, nat_lit 1, nat_lit 1, nat_lit 2, nat_lit 0, .ofNat (nat_lit 0), nat_lit 0, nat_lit 0, nat_lit 0, []), (nat_lit 12, nat_lit 1, nat_lit 1, nat_lit 2, nat_lit 0, .ofNat (nat_lit 0), nat_lit 0, nat_lit 0, nat_lit 0, []), (nat_lit 13, nat_lit 3, nat_lit 1, nat_lit 0, nat_lit 0, .ofNat (nat_lit 1), nat_lit 0, nat_lit 0, nat_lit 0, []), (nat_lit 14, nat_lit 23, nat_lit 1, nat_lit 0, nat_lit 0, .ofNat (nat_lit 0), nat_lit 0, nat_lit 0, nat_lit 0, []), (nat_lit 15, nat_lit 18, nat_lit 1, nat_lit 0, nat_lit 0, .ofNat (nat_lit 0), nat_lit 0, nat_lit 0, nat_lit 0, [])], [(nat_lit 16, nat_lit 11, nat_lit 1, nat_lit 2, nat_lit 0, .ofNat (nat_lit 0), nat_lit 0, nat_lit 0, nat_lit 0, []), (nat_lit 17, nat_lit 5, nat_lit 3, nat_lit 0, nat_lit 0, .negSucc (nat_lit 12), nat_lit 0, nat_lit 0, nat_lit 0, []), (nat_lit 20, nat_lit 1, nat_lit 1, nat_lit 1, nat_lit 0, .ofNat (nat_lit 0), nat_lit 0, nat_lit 0, nat_lit 0, []), (nat_lit 21, nat_lit 6, nat_lit 1, nat_lit 0, nat_lit 0, .ofNat (nat_lit 0), nat_lit 0, nat_lit 0, nat_lit 0, [])]]
def rx_c113 : List (List rx_E) := [[(nat_lit 0, nat_lit 1, nat_lit 1, nat_lit 1, nat_lit 0, .ofNat (nat_lit 0), nat_lit 0, nat_lit 0, nat_lit 0, []), (nat_lit 1, nat_lit 3, nat_lit 1, nat_lit 0, nat_lit 0, .ofNat (nat_lit 0), nat_lit 0, nat_lit 0, nat_lit 0, []), (nat_lit 2, nat_lit 20, nat_lit 3, nat_lit 0, nat_lit 0, .ofNat (nat_lit 200), nat_lit 0, nat_lit 0, nat_lit 0, []), (nat_lit 5, nat_lit 24, nat_lit 3, nat_lit 142, nat_lit 121, .ofNat (nat_lit 0), nat_lit 3, nat_lit 1665, nat_lit 341, []), (nat_lit 8, nat_lit 14, nat_lit 3, nat_lit 0, nat_lit 1, .ofNat (nat_lit 5), nat_lit 0, nat_lit 0, nat_lit 0, []), (nat_lit 11, nat_lit 3, nat_lit 1, nat_lit 0, nat_lit 0, .negSucc (nat_lit 0), nat_lit 0, nat_lit 0, nat_lit 0, []), (nat_lit 12, nat_lit 6, nat_lit 1, nat_lit 0, nat_lit 0, .ofNat (nat_lit 0), nat_lit 0, nat_lit 0, nat_lit 0, []), (nat_lit 13, nat_lit 3, nat_lit 1, nat_lit 0, nat_lit 0, .ofNat (nat_lit 0), nat_lit 0, nat_lit 0, nat_lit 0, []), (nat_lit 14, nat_lit 11, nat_lit 1, nat_lit 2, nat_lit 0, .ofNat (nat_lit 0), nat_lit 0, nat_lit 0, nat_lit 0, []), (nat_lit 15, nat_lit 1, nat_lit 1, nat_lit 2, nat_lit 0, .ofNat (nat_lit 0), nat_lit 0, nat_lit 0, nat_lit 0, [])], [(nat_lit 16, nat_lit 0, nat_lit 1, nat_lit 0, nat_lit 0, .ofNat (nat_lit 0), nat_lit 0, nat_lit 0, nat_lit 0, []), (nat_lit 17, nat_lit 8, nat_lit 3, nat_lit 155, nat_lit 120, .ofNat (nat_lit 0), nat_lit 0, nat_lit 1320, nat_lit 345, []), (nat_lit 20, nat_lit 4, nat_lit 3, nat_lit 0, nat_lit 3, .ofNat (nat_lit 23), nat_lit 0, nat_lit 0, nat_lit 0, [])], [(nat_lit 43, nat_lit 0, nat_lit 1, nat_lit 0, nat_lit 0, .ofNat (nat_lit 0), nat_lit 0, nat_lit 0, nat_lit 0, []), (nat_lit 44, nat_lit 2, nat_lit 3, nat_lit 12, nat_lit 41, .ofNat (nat_lit 0), nat_lit 12, nat_lit 1365, nat_lit 83, []), (nat_lit 47, nat_lit 21, nat_lit 2, nat_lit 0, nat_lit 0, .ofNat (nat_lit 23), nat_lit 0, nat_lit 0, nat_lit 0, [])], [(nat_lit 49, nat_lit 9, nat_lit 1, nat_lit 0, nat_lit 0, .ofNat (nat_lit 0), nat_lit 0, nat_lit 0, nat_lit 0, []), (nat_lit 50, nat_lit 11, nat_lit 1, nat_lit 2, nat_lit 0, .ofNat (nat_lit 0), nat_lit 0, nat_lit 0, nat_lit 0, []), (nat_lit 51, nat_lit 3, nat_lit 1, nat_lit 0, nat_lit 0, .ofNat (nat_lit 0), nat_lit 0, nat_lit 0, nat_lit 0, []), (nat_lit 52, nat_lit 11, nat_lit 1, nat_lit 3, nat_lit 0, .ofNat (nat_lit 0), nat_lit 0, nat_lit 0, nat_lit 0, []), (nat_lit 53, nat_lit 1, nat_lit 1, nat_lit 3, nat_lit 0, .ofNat (nat_lit 0), nat_lit 0, nat_lit 0, nat_lit 0, []), (nat_lit 54, nat_lit 1, nat_lit 1, nat_lit 1, nat_lit 0, .ofNat (nat_lit 0), nat_lit 0, nat_lit 0, nat_lit 0, []), (nat_lit 55, nat_lit 4, nat_lit 3, nat_lit 0, nat_lit 3, .ofNat (nat_lit 52), nat_lit 0, nat_lit 0, nat_lit 0, []), (nat_lit 58, nat_lit 0, nat_lit 1, nat_lit 0, nat_lit 0, .ofNat (nat_lit 0), nat_lit 0, nat_lit 0, nat_lit 0, []), (nat_lit 59, nat_lit 8, nat_lit 3, nat_lit 155, nat_lit 120, .ofNat (nat_lit 0), nat_lit 0, nat_lit 1320, nat_lit 345, []), (nat_lit 62, nat_lit 14, nat_lit 3, nat_lit 0, nat_lit 5, .ofNat (nat_lit 45), nat_lit 0, nat_lit 0, nat_lit 0, [])], [], [], [(nat_lit 107, nat_lit 3, nat_lit 1, nat_lit 0, nat_lit 0, .ofNat (nat_lit 0), nat_lit 0, nat_lit 0, nat_lit 0, []), (nat_lit 108, nat_lit 11, nat_lit 1, nat_lit 3, nat_lit 0, .ofNat (nat_lit 0), nat_lit 0, nat_lit 0, nat_lit 0, []), (nat_lit 109, nat_lit 3, nat_lit 1, nat_lit 0, nat_lit 0, .ofNat (nat_lit 0), nat_lit 0, nat_lit 0, nat_lit 0, []), (nat_lit 110, nat_lit 25, nat_lit 2, nat_lit 4, nat_lit 0, .ofNat (nat_lit 0), nat_lit 0, nat_lit 0, nat_lit 0, [])], [(nat_lit 112, nat_lit 22, nat_lit 2, nat_lit 4, nat_lit 0, .ofNat (nat_lit 0), nat_lit 0, nat_lit 0, nat_lit 0, []), (nat_lit 114, nat_lit 0, nat_lit 1, nat_lit 0, nat_lit 0, .ofNat (nat_lit 0), nat_lit 0, nat_lit 0, nat_lit 0, []), (nat_lit 115, nat_lit 8, nat_lit 3, nat_lit 155, nat_lit 120, .ofNat (nat_lit 0), nat_lit 0, nat_lit 1320, nat_lit 345, []), (nat_lit 118, nat_lit 4, nat_lit 3, nat_lit 0, nat_lit 3, .ofNat (nat_lit 27), nat_lit 0, nat_lit 0, nat_lit 0, [])], [], [(nat_lit 145, nat_lit 1, nat_lit 1, nat_lit 3, nat_lit 0, .ofNat (nat_lit 0), nat_lit 0, nat_lit 0, nat_lit 0, []), (nat_lit 146, nat_lit 6, nat_lit 1, nat_lit 0, nat_lit 0, .ofNat (nat_lit 0), nat_lit 0, nat_lit 0, nat_lit 0, [])]]
def rx_c114 : List (List rx_E) := [[(nat_lit 0, nat_lit 20, nat_lit 3, nat_lit 0, nat_lit 0, .ofNat (nat_lit 137), nat_lit 0, nat_lit 0, nat_lit 0, []), (nat_lit 3, nat_lit 1, nat_lit 1, nat_lit 0, nat_lit 0, .ofNat (nat_lit 0), nat_lit 0, nat_lit 0, nat_lit 0, []), (nat_lit 4, nat_lit 28, nat_lit 1, nat_lit 0, nat_lit 0, .ofNat (nat_lit 0), nat_lit 0, nat_lit 0, nat_lit 0, []), (nat_lit 5, nat_lit 21, nat_lit 2, nat_lit 0, nat_lit 0, .ofNat (nat_lit 71), nat_lit 0, nat_lit 0, nat_lit 0, []), (nat_lit 7, nat_lit 12, nat_lit 1, nat_lit 0, nat_lit 0, .ofNat (nat_lit 0), nat_lit 0, nat_lit 0, nat_lit 0, []), (nat_lit 8, nat_lit 20, nat_lit 3, nat_lit 0, nat_lit 0, .ofNat (nat_lit 1000), nat_lit 0, nat_lit 0, nat_lit 0, []), (nat_lit 11, nat_lit 31, nat_lit 1, nat_lit 0, nat_lit 0, .ofNat (nat_lit 0), nat_lit 0, nat_lit 0, nat_lit 0, []), (nat_lit 12, nat_lit 6, nat_lit 1, nat_lit 0, nat_lit 0, .ofNat (nat_lit 0), nat_lit 0, nat_lit 0, nat_lit 0, [])]]
def rx_c115 : List (List rx_E) := [[(nat_lit 0, nat_lit 0, nat_lit 1, nat_lit 0, nat_lit 0, .ofNat (nat_lit 0), nat_lit 0, nat_lit 0, nat_lit 0, []), (nat_lit 1, nat_lit 1, nat_lit 1, nat_lit 1, nat_lit 0, .ofNat (nat_lit 0), nat_lit 0, nat_lit 0, nat_lit 0, []), (nat_lit 2, nat_lit 8, nat_lit 3, nat_lit 144, nat_lit 120, .ofNat (nat_lit 0), nat_lit 1, nat_lit 1672, nat_lit 386, []), (nat_lit 5, nat_lit 14, nat_lit 3, nat_lit 0, nat_lit 1, .ofNat (nat_lit 5), nat_lit 0, nat_lit 0, nat_lit 0, []), (nat_lit 8, nat_lit 3, nat_lit 1, nat_lit 0, nat_lit 0, .negSucc (nat_lit 0), nat_lit 0, nat_lit 0, nat_lit 0, []), (nat_lit 9, nat_lit 6, nat_lit 1, nat_lit 0, nat_lit 0, .ofNat (nat_lit 0), nat_lit 0, nat_lit 0, nat_lit 0, [])]]
def rx_c116 : List (List rx_E) := [[(nat_lit 0, nat_lit 1, nat_lit 1, nat_lit 1, nat_lit 0, .ofNat (nat_lit 0), nat_lit 0, nat_lit 0, nat_lit 0, []), (nat_lit 1, nat_lit 3, nat_lit 1, nat_lit 0, nat_lit 0, .ofNat (nat_lit 0), nat_lit 0, nat_lit 0, nat_lit 0, []), (nat_lit 2, nat_lit 3, nat_lit 1, nat_lit 0, nat_lit 0, .ofNat (nat_lit 2), nat_lit 0, nat_lit 0, nat_lit 0, []), (nat_lit 3, nat_lit 24, nat_lit 3, nat_lit 142, nat_lit 121, .ofNat (nat_lit 0), nat_lit 3, nat_lit 1665, nat_lit 341, []), (nat_lit 6, nat_lit 14, nat_lit 3, nat_lit 0, nat_lit 0, .ofNat (nat_lit 12), nat_lit 0, nat_lit 0, nat_lit 0, []), (nat_lit 9, nat_lit 0, nat_lit 1, nat_lit 0, nat_lit 0, .ofNat (nat_lit 0), nat_lit 0, nat_lit 0, nat_lit 0, []), (nat_lit 10, nat_lit 2, nat_lit 3, nat_lit 12, nat_lit 64, .ofNat (nat_lit 0), nat_lit 12, nat_lit 1388, nat_lit 134, []), (nat_lit 13, nat_lit 1, nat_lit 1, nat_lit 1, nat_lit 0, .ofNat (nat_lit 0), nat_lit 0, nat_lit 0, nat_lit 0, []), (nat_lit 14, nat_lit 39, nat_lit 1, nat_lit 0, nat_lit 0, .ofNat (nat_lit 0), nat_lit 0, nat_lit 0, nat_lit 0, []), (nat_lit 15, nat_lit 14, nat_lit 3, nat_lit 0, nat_lit 1, .ofNat (nat_lit 5), nat_lit 0, nat_lit 0, nat_lit 0, [])], [(nat_lit 18, nat_lit 3, nat_lit 1, nat_lit 0, nat_lit 0, .negSucc (nat_lit 0), nat_lit 0, nat_lit 0, nat_lit 0, []), (nat_lit 19, nat_lit 6, nat_lit 1, nat_lit 0, nat_lit 0, .ofNat (nat_lit 0), nat_lit 0, nat_lit 0, nat_lit 0, [])]]
def rx_c117 : List (List rx_E) := [[(nat_lit 0, nat_lit 0, nat_lit 1, nat_lit 0, nat_lit 0, .ofNat (nat_lit 0), nat_lit 0, nat_lit 0, nat_lit 0, []), (nat_lit 1, nat_lit 2, nat_lit 3, nat_lit 12, nat_lit 11, .ofNat (nat_lit 0), nat_lit 12, nat_lit 1335, nat_lit 20, []), (nat_lit 4, nat_lit 0, nat_lit 1, nat_lit 0, nat_lit 0, .ofNat (nat_lit 0), nat_lit 0, nat_lit 0, nat_lit 0, []), (nat_lit 5, nat_lit 2, nat_lit 3, nat_lit 12, nat_lit 32, .ofNat (nat_lit 0), nat_lit 0, nat_lit 1356, nat_lit 242, []), (nat_lit 8, nat_lit 21, nat_lit 2, nat_lit 0, nat_lit 0, .ofNat (nat_lit 6), nat_lit 0, nat_lit 0, nat_lit 0, []), (nat_lit 10, nat_lit 10, nat_lit 1, nat_lit 0, nat_lit 0, .ofNat (nat_lit 0), nat_lit 0, nat_lit 0, nat_lit 0, []), (nat_lit 11, nat_lit 0, nat_lit 1, nat_lit 0, nat_lit 0, .ofNat (nat_lit 0), nat_lit 0, nat_lit 0, nat_lit 0, []), (nat_lit 12, nat_lit 2, nat_lit 3, nat_lit 12, nat_lit 12, .ofNat (nat_lit 0), nat_lit 12, nat_lit 1336, nat_lit 24, []), (nat_lit 15, nat_lit 0, nat_lit 1, nat_lit 0, nat_lit 0, .ofNat (nat_lit 0), nat_lit 0, nat_lit 0, nat_lit 0, [])], [(nat_lit 16, nat_lit 2, nat_lit 3, nat_lit 12, nat_lit 32, .ofNat (nat_lit 0), nat_lit 0, nat_lit 1356, nat_lit 242, []), (nat_lit 19, nat_lit 3, nat_lit 1, nat_lit 0, nat_lit 0, .ofNat (nat_lit 0), nat_lit 0, nat_lit 0, nat_lit 0, []), (nat_lit 20, nat_lit 10, nat_lit 1, nat_lit 0, nat_lit 0, .ofNat (nat_lit 0), nat_lit 0, nat_lit 0, nat_lit 0, []), (nat_lit 21, nat_lit 0, nat_lit 1, nat_lit 0, nat_lit 0, .ofNat (nat_lit 0), nat_lit 0, nat_lit 0, nat_lit 0, []), (nat_lit 22, nat_lit 2, nat_lit 3, nat_lit 12, nat_lit 13, .ofNat (nat_lit 0), nat_lit 12, nat_lit 1337, nat_lit 27, []), (nat_lit 25, nat_lit 0, nat_lit 1, nat_lit 0, nat_lit 0, .ofNat (nat_lit 0), nat_lit 0, nat_lit 0, nat_lit 0, []), (nat_lit 26, nat_lit 2, nat_lit 3, nat_lit 12, nat_lit 32, .ofNat (nat_lit 0), nat_lit 0, nat_lit 1356, nat_lit 242, []), (nat_lit 29, nat_lit 3, nat_lit 1, nat_lit 0, nat_lit 0, .ofNat (nat_lit 0), nat_lit 0, nat_lit 0, nat_lit 0, []), (nat_lit 30, nat_lit 10, nat_lit 1, nat_lit 0, nat_lit 0, .ofNat (nat_lit 0), nat_lit 0, nat_lit 0, nat_lit 0, []), (nat_lit 31, nat_lit 0, nat_lit 1, nat_lit 0, nat_lit 0, .ofNat (nat_lit 0), nat_lit 0, nat_lit 0, nat_lit 0, [])], [(nat_lit 32, nat_lit 2, nat_lit 3, nat_lit 12, nat_lit 14, .ofNat (nat_lit 0), nat_lit 12, nat_lit 1338, nat_lit 30, []), (nat_lit 35, nat_lit 0, nat_lit 1, nat_lit 0, nat_lit 0, .ofNat (nat_lit 0), nat_lit 0, nat_lit 0, nat_lit 0, []), (nat_lit 36, nat_lit 2, nat_lit 3, nat_lit 12, nat_lit 32, .ofNat (nat_lit 0), nat_lit 0, nat_lit 1356, nat_lit 242, []), (nat_lit 39, nat_lit 3, nat_lit 1, nat_lit 0, nat_lit 0, .ofNat (nat_lit 0), nat_lit 0, nat_lit 0, nat_lit 0, []), (nat_lit 40, nat_lit 10, nat_lit 1, nat_lit 0, nat_lit 0, .ofNat (nat_lit 0), nat_lit 0, nat_lit 0, nat_lit 0, []), (nat_lit 41, nat_lit 0, nat_lit 1, nat_lit 0, nat_lit 0, .ofNat (nat_lit 0), nat_lit 0, nat_lit 0, nat_lit 0, []), (nat_lit 42, nat_lit 2, nat_lit 3, nat_lit 12, nat_lit 15, .ofNat (nat_lit 0), nat_lit 12, nat_lit 1339, nat_lit 33, []), (nat_lit 45, nat_lit 0, nat_lit 1, nat_lit 0, nat_lit 0, .ofNat (nat_lit 0), nat_lit 0, nat_lit 0, nat_lit 0, []), (nat_lit 46, nat_lit 2, nat_lit 3, nat_lit 12, nat_lit 32, .ofNat (nat_lit 0), nat_lit 0, nat_lit 1356, nat_lit 242, [])], [(nat_lit 49, nat_lit 3, nat_lit 1, nat_lit 0, nat_lit 0, .ofNat (nat_lit 0), nat_lit 0, nat_lit 0, nat_lit 0, []), (nat_lit 50, nat_lit 10, nat_lit 1, nat_lit 0, nat_lit 0, .ofNat (nat_lit 0), nat_lit 0, nat_lit 0, nat_lit 0, []), (nat_lit 51, nat_lit 0, nat_lit 1, nat_lit 0, nat_lit 0, .ofNat (nat_lit 0), nat_lit 0, nat_lit 0, nat_lit 0, []), (nat_lit 52, nat_lit 2, nat_lit 3, nat_lit 12, nat_lit 16, .ofNat (nat_lit 0), nat_lit 12, nat_lit 1340, nat_lit 36, []), (nat_lit 55, nat_lit 0, nat_lit 1, nat_lit 0, nat_lit 0, .ofNat (nat_lit 0), nat_lit 0, nat_lit 0, nat_lit 0, []), (nat_lit 56, nat_lit 2, nat_lit 3, nat_lit 12, nat_lit 32, .ofNat (nat_lit 0), nat_lit 0, nat_lit 1356, nat_lit 242, []), (nat_lit 59, nat_lit 3, nat_lit 1, nat_lit 0, nat_lit 0, .ofNat (nat_lit 0), nat_lit 0, nat_lit 0, nat_lit 0, []), (nat_lit 60, nat_lit 10, nat_lit 1, nat_lit 0, nat_lit 0, .ofNat (nat_lit 0), nat_lit 0, nat_lit 0, nat_lit 0, []), (nat_lit 61, nat_lit 0, nat_lit 1, nat_lit 0, nat_lit 0, .ofNat (nat_lit 0), nat_lit 0, nat_lit 0, nat_lit 0, []), (nat_lit 62, nat_lit 2, nat_lit 3, nat_lit 12, nat_lit 23, .ofNat (nat_lit 0), nat_lit 12, nat_lit 1347, nat_lit 57, [])], [(nat_lit 65, nat_lit 0, nat_lit 1, nat_lit 0, nat_lit 0, .ofNat (nat_lit 0), nat_lit 0, nat_lit 0, nat_lit 0, []), (nat_lit 66, nat_lit 2, nat_lit 3, nat_lit 12, nat_lit 32, .ofNat (nat_lit 0), nat_lit 0, nat_lit 1356, nat_lit 242, []), (nat_lit 69, nat_lit 3, nat_lit 1, nat_lit 0, nat_lit 0, .ofNat (nat_lit 0), nat_lit 0, nat_lit 0, nat_lit 0, []), (nat_lit 70, nat_lit 13, nat_lit 1, nat_lit 0, nat_lit 0, .ofNat (nat_lit 0), nat_lit 0, nat_lit 0, nat_lit 0, []), (nat_lit 71, nat_lit 0, nat_lit 1, nat_lit 0, nat_lit 0, .ofNat (nat_lit 0), nat_lit 0, nat_lit 0, nat_lit 0, []), (nat_lit 72, nat_lit 20, nat_lit 3, nat_lit 0, nat_lit 0, .ofNat (nat_lit 560), nat_lit 0, nat_lit 0, nat_lit 0, []), (nat_lit 75, nat_lit 0, nat_lit 1, nat_lit 0, nat_lit 0, .ofNat (nat_lit 0), nat_lit 0, nat_lit 0, nat_lit 0, []), (nat_lit 76, nat_lit 2, nat_lit 3, nat_lit 12, nat_lit 32, .ofNat (nat_lit 0), nat_lit 0, nat_lit 1356, nat_lit 242, []), (nat_lit 79, nat_lit 28, nat_lit 1, nat_lit 0, nat_lit 0, .ofNat (nat_lit 0), nat_lit 0, nat_lit 0, nat_lit 0, [])], [(nat_lit 80, nat_lit 15, nat_lit 3, nat_lit 12, nat_lit 33, .ofNat (nat_lit 0), nat_lit 0, nat_lit 1357, nat_lit 245, []), (nat_lit 83, nat_lit 26, nat_lit 1, nat_lit 0, nat_lit 0, .ofNat (nat_lit 0), nat_lit 0, nat_lit 0, nat_lit 0, [])]]
def rx_c118 : List (List rx_E) := [[(nat_lit 0, nat_lit 0, nat_lit 1, nat_lit 0, nat_lit 0, .ofNat (nat_lit 0), nat_lit 0, nat_lit 0, nat_lit 0, []), (nat_lit 1, nat_lit 1, nat_lit 1, nat_lit 2, nat_lit 0, .ofNat (nat_lit 0), nat_lit 0, nat_lit 0, nat_lit 0, []), (nat_lit 2, nat_lit 8, nat_lit 3, nat_lit 148, nat_lit 120, .ofNat (nat_lit 0), nat_lit 1, nat_lit 1945, nat_lit 468, []), (nat_lit 5, nat_lit 1, nat_lit 1, nat_lit 1, nat_lit 0, .ofNat (nat_lit 0), nat_lit 0, nat_lit 0, nat_lit 0, []), (nat_lit 6, nat_lit 3, nat_lit 1, nat_lit 0, nat_lit 0, .ofNat (nat_lit 0), nat_lit 0, nat_lit 0, nat_lit 0, []), (nat_lit 7, nat_lit 3, nat_lit 1, nat_lit 0, nat_lit 0, .ofNat (nat_lit 1), nat_lit 0, nat_lit 0, nat_lit 0, []), (nat_lit 8, nat_lit 24, nat_lit 3, nat_lit 142, nat_lit 121, .ofNat (nat_lit 0), nat_lit 3, nat_lit 1665, nat_lit 341, []), (nat_lit 11, nat_lit 14, nat_lit 3, nat_lit 0, nat_lit 0, .ofNat (nat_lit 10), nat_lit 0, nat_lit 0, nat_lit 0, []), (nat_lit 14, nat_lit 0, nat_lit 1, nat_lit 0, nat_lit 0, .ofNat (nat_lit 0), nat_lit 0, nat_lit 0, nat_lit 0, []), (nat_lit 15, nat_lit 2, nat_lit 3, nat_lit 12, nat_lit 60, .ofNat (nat_lit 0), nat_lit 0, nat_lit 1384, nat_lit 462, [])], [(nat_lit 18, nat_lit 14, nat_lit 3, nat_lit 0, nat_lit 1, .ofNat (nat_lit 5), nat_lit 0, nat_lit 0, nat_lit 0, []), (nat_lit 21, nat_lit 3, nat_lit 1, nat_lit 0, nat_lit 0, .negSucc (nat_lit 0), nat_lit 0, nat_lit 0, nat_lit 0, []), (nat_lit 22, nat_lit 6, nat_lit 1, nat_lit 0, nat_lit 0, .ofNat (nat_lit 0), nat_lit 0, nat_lit 0, nat_lit 0, []), (nat_lit 23, nat_lit 0, nat_lit 1, nat_lit 0, nat_lit 0, .ofNat (nat_lit 0), nat_lit 0, nat_lit 0, nat_lit 0, []), (nat_lit 24, nat_lit 2, nat_lit 3, nat_lit 12, nat_lit 60, .ofNat (nat_lit 0), nat_lit 0, nat_lit 1384, nat_lit 462, []), (nat_lit 27, nat_lit 21, nat_lit 2, nat_lit 0, nat_lit 0, .ofNat (nat_lit 10), nat_lit 0, nat_lit 0, nat_lit 0, []), (nat_lit 29, nat_lit 4, nat_lit 3, nat_lit 0, nat_lit 5, .ofNat (nat_lit 6), nat_lit 0, nat_lit 0, nat_lit 0, [])], [(nat_lit 32, nat_lit 21, nat_lit 2, nat_lit 0, nat_lit 0, .negSucc (nat_lit 1), nat_lit 0, nat_lit 0, nat_lit 0, []), (nat_lit 34, nat_lit 6, nat_lit 1, nat_lit 0, nat_lit 0, .ofNat (nat_lit 0), nat_lit 0, nat_lit 0, nat_lit 0, [])]]
def rx_c119 : List (List rx_E) := [[(nat_lit 0, nat_lit 0, nat_lit 1, nat_lit 0, nat_lit 0, .ofNat (nat_lit 0), nat_lit 0, nat_lit 0, nat_lit 0, []), (nat_lit 1, nat_lit 1, nat_lit 1, nat_lit 1, nat_lit 0, .ofNat (nat_lit 0), nat_lit 0, nat_lit 0, nat_lit 0, []), (nat_lit 2, nat_lit 8, nat_lit 3, nat_lit 144, nat_lit 120, .ofNat (nat_lit 0), nat_lit 1, nat_lit 1672, nat_lit 386, []), (nat_lit 5, nat_lit 14, nat_lit 3, nat_lit 0, nat_lit 0, .ofNat (nat_lit 13), nat_lit 0, nat_lit 0, nat_lit 0, [])], [(nat_lit 18, nat_lit 3, nat_lit 1, nat_lit 0, nat_lit 0, .negSucc (nat_lit 0), nat_lit 0, nat_lit 0, nat_lit 0, []), (nat_lit 19, nat_lit 6, nat_lit 1, nat_lit 0, nat_lit 0, .ofNat (nat_lit 0), nat_lit 0, nat_lit 0, nat_lit 0, [])]]
def rx_c120 : List (List rx_E) := [[(nat_lit 0, nat_lit 0, nat_lit 1, nat_lit 0, nat_lit 0, .ofNat (nat_lit 0), nat_lit 0, nat_lit 0, nat_lit 0, []), (nat_lit 1, nat_lit 1, nat_lit 1, nat_lit 1, nat_lit 0, .ofNat (nat_lit 0), nat_lit 0, nat_lit 0, nat_lit 0, []), (nat_lit 2, nat_lit 8, nat_lit 3, nat_lit 144, nat_lit 120, .ofNat (nat_lit 0), nat_lit 1, nat_lit 1672, nat_lit 386, []), (nat_lit 5, nat_lit 14, nat_lit 3, nat_lit 0, nat_lit 0, .ofNat (nat_lit 11), nat_lit 0, nat_lit 0, nat_lit 0, [])], [(nat_lit 16, nat_lit 3, nat_lit 1, nat_lit 0, nat_lit 0, .negSucc (nat_lit 0), nat_lit 0, nat_lit 0, nat_lit 0, []), (nat_lit 17, nat_lit 6, nat_lit 1, nat_lit 0, nat_lit 0, .ofNat (nat_lit 0), nat_lit 0, nat_lit 0, nat_lit 0, [])]]
def rx_c121 : List (List rx_E) := [[(nat_lit 0, nat_lit 1, nat_lit 1, nat_lit 0, nat_lit 0, .ofNat (nat_lit 0), nat_lit 0, nat_lit 0, nat_lit 0, []), (nat_lit 1, nat_lit 11, nat_lit 1, nat_lit 2, nat_lit 0, .ofNat (nat_lit 0), nat_lit 0, nat_lit 0, nat_lit 0, []), (nat_lit 2, nat_lit 1, nat_lit 1, nat_lit 1, nat_lit 0, .ofNat (nat_lit 0), nat_lit 0, nat_lit 0, nat_lit 0, []), (nat_lit 3, nat_lit 11, nat_lit 1, nat_lit 3, nat_lit 0, .ofNat (nat_lit 0), nat_lit 0, nat_lit 0, nat_lit 0, []), (nat_lit 4, nat_lit 1, nat_lit 1, nat_lit 3, nat_lit 0, .ofNat (nat_lit 0), nat_lit 0, nat_lit 0, nat_lit 0, []), (nat_lit 5, nat_lit 14, nat_lit 3, nat_lit 0, nat_lit 5, .ofNat (nat_lit 16), nat_lit 0, nat_lit 0, nat_lit 0, []), (nat_lit 8, nat_lit 1, nat_lit 1, nat_lit 2, nat_lit 0, .ofNat (nat_lit 0), nat_lit 0, nat_lit 0, nat_lit 0, []), (nat_lit 9, nat_lit 1, nat_lit 1, nat_lit 3, nat_lit 0, .ofNat (nat_lit 0), nat_lit 0, nat_lit 0, nat_lit 0, []), (nat_lit 10, nat_lit 31, nat_lit 1, nat_lit 0, nat_lit 0, .ofNat (nat_lit 0), nat_lit 0, nat_lit 0, nat_lit 0, []), (nat_lit 11, nat_lit 25, nat_lit 2, nat_lit 4, nat_lit 0, .ofNat (nat_lit 0), nat_lit 0, nat_lit 0, nat_lit 0, []), (nat_lit 13, nat_lit 1, nat_lit 1, nat_lit 3, nat_lit 0, .ofNat (nat_lit 0), nat_lit 0, nat_lit 0, nat_lit 0, []), (nat_lit 14, nat_lit 11, nat_lit 1, nat_lit 2, nat_lit 0, .ofNat (nat_lit 0), nat_lit 0, nat_lit 0, nat_lit 0, []), (nat_lit 15, nat_lit 22, nat_lit 2, nat_lit 4, nat_lit 0, .ofNat (nat_lit 0), nat_lit 0, nat_lit 0, nat_lit 0, [])], [(nat_lit 17, nat_lit 11, nat_lit 1, nat_lit 3, nat_lit 0, .ofNat (nat_lit 0), nat_lit 0, nat_lit 0, nat_lit 0, []), (nat_lit 18, nat_lit 5, nat_lit 3, nat_lit 0, nat_lit 0, .negSucc (nat_lit 13), nat_lit 0, nat_lit 0, nat_lit 0, []), (nat_lit 21, nat_lit 1, nat_lit 1, nat_lit 2, nat_lit 0, .ofNat (nat_lit 0), nat_lit 0, nat_lit 0, nat_lit 0, []), (nat_lit 22, nat_lit 6, nat_lit 1, nat_lit 0, nat_lit 0, .ofNat (nat_lit 0), nat_lit 0, nat_lit 0, nat_lit 0, [])]]
def rx_c122 : List (List rx_E) := [[(nat_lit 0, nat_lit 3, nat_lit 1, nat_lit 0, nat_lit 0, .ofNat (nat_lit 0), nat_lit 0, nat_lit 0, nat_lit 0, []), (nat_lit 1, nat_lit 11, nat_lit 1, nat_lit 2, nat_lit 0, .ofNat (nat_lit 0), nat_lit 0, nat_lit 0, nat_lit 0, []), (nat_lit 2, nat_lit 1, nat_lit 1, nat_lit 2, nat_lit 0, .ofNat (nat_lit 0), nat_lit 0, nat_lit 0, nat_lit 0, []), (nat_lit 3, nat_lit 0, nat_lit 1, nat_lit 0, nat_lit 0, .ofNat (nat_lit 0), nat_lit 0, nat_lit 0, nat_lit 0, []), (nat_lit 4, nat_lit 2, nat_lit 3, nat_lit 12, nat_lit 60, .ofNat (nat_lit 0), nat_lit 0, nat_lit 1384, nat_lit 462, []), (nat_lit 7, nat_lit 4, nat_lit 3, nat_lit 0, nat_lit 3, .ofNat (nat_lit 110), nat_lit 0, nat_lit 0, nat_lit 0, []), (nat_lit 10, nat_lit 3, nat_lit 1, nat_lit 0, nat_lit 0, .ofNat (nat_lit 0), nat_lit 0, nat_lit 0, nat_lit 0, []), (nat_lit 11, nat_lit 11, nat_lit 1, nat_lit 3, nat_lit 0, .ofNat (nat_lit 0), nat_lit 0, nat_lit 0, nat_lit 0, []), (nat_lit 12, nat_lit 1, nat_lit 1, nat_lit 3, nat_lit 0, .ofNat (nat_lit 0), nat_lit 0, nat_lit 0, nat_lit 0, []), (nat_lit 13, nat_lit 1, nat_lit 1, nat_lit 2, nat_lit 0, .ofNat (nat_lit 0), nat_lit 0, nat_lit 0, nat_lit 0, []), (nat_lit 14, nat_lit 4, nat_lit 3, nat_lit 0, nat_lit 3, .ofNat (nat_lit 97), nat_lit 0, nat_lit 0, nat_lit 0, [])], [(nat_lit 17, nat_lit 3, nat_lit 1, nat_lit 0, nat_lit 0, .ofNat (nat_lit 1), nat_lit 0, nat_lit 0, nat_lit 0, []), (nat_lit 18, nat_lit 25, nat_lit 2, nat_lit 4, nat_lit 0, .ofNat (nat_lit 0), nat_lit 0, nat_lit 0, nat_lit 0, []), (nat_lit 20, nat_lit 3, nat_lit 1, nat_lit 0, nat_lit 0, .ofNat (nat_lit 0), nat_lit 0, nat_lit 0, nat_lit 0, []), (nat_lit 21, nat_lit 25, nat_lit 2, nat_lit 5, nat_lit 0, .ofNat (nat_lit 0), nat_lit 0, nat_lit 0, nat_lit 0, []), (nat_lit 23, nat_lit 22, nat_lit 2, nat_lit 5, nat_lit 0, .ofNat (nat_lit 0), nat_lit 0, nat_lit 0, nat_lit 0, []), (nat_lit 25, nat_lit 0, nat_lit 1, nat_lit 0, nat_lit 0, .ofNat (nat_lit 0), nat_lit 0, nat_lit 0, nat_lit 0, []), (nat_lit 26, nat_lit 8, nat_lit 3, nat_lit 155, nat_lit 120, .ofNat (nat_lit 0), nat_lit 0, nat_lit 1320, nat_lit 345, []), (nat_lit 29, nat_lit 4, nat_lit 3, nat_lit 0, nat_lit 3, .ofNat (nat_lit 69), nat_lit 0, nat_lit 0, nat_lit 0, [])], [], [], [], [], [(nat_lit 98, nat_lit 22, nat_lit 2, nat_lit 4, nat_lit 0, .ofNat (nat_lit 0), nat_lit 0, nat_lit 0, nat_lit 0, []), (nat_lit 100, nat_lit 14, nat_lit 3, nat_lit 0, nat_lit 0, .ofNat (nat_lit 5), nat_lit 0, nat_lit 0, nat_lit 0, []), (nat_lit 103, nat_lit 3, nat_lit 1, nat_lit 0, nat_lit 0, .ofNat (nat_lit 0), nat_lit 0, nat_lit 0, nat_lit 0, []), (nat_lit 104, nat_lit 6, nat_lit 1, nat_lit 0, nat_lit 0, .ofNat (nat_lit 0), nat_lit 0, nat_lit 0, nat_lit 0, []), (nat_lit 111, nat_lit 7, nat_lit 3, nat_lit 2, nat_lit 0, .ofNat (nat_lit 1), nat_lit 0, nat_lit 0, nat_lit 0, [])], [(nat_lit 114, nat_lit 5, nat_lit 3, nat_lit 0, nat_lit 0, .negSucc (nat_lit 111), nat_lit 0, nat_lit 0, nat_lit 0, [])]]
def rx_c123 : List (List rx_E) := [[(nat_lit 0, nat_lit 0, nat_lit 1, nat_lit 0, nat_lit 0, .ofNat (nat_lit 0), nat_lit 0, nat_lit 0, nat_lit 0, []), (nat_lit 1, nat_lit 3, nat_lit 1, nat_lit 0, nat_lit 0, .ofNat (nat_lit 0), nat_lit 0, nat_lit 0, nat_lit 0, []), (nat_lit 2, nat_lit 15, nat_lit 3, nat_lit 12, nat_lit 49, .ofNat (nat_lit 0), nat_lit 0, nat_lit 1373, nat_lit 380, []), (nat_lit 5, nat_lit 0, nat_lit 1, nat_lit 0, nat_lit 0, .ofNat (nat_lit 0), nat_lit 0, nat_lit 0, nat_lit 0, []), (nat_lit 6, nat_lit 1, nat_lit 1, nat_lit 1, nat_lit 0, .ofNat (nat_lit 0), nat_lit 0, nat_lit 0, nat_lit 0, []), (nat_lit 7, nat_lit 8, nat_lit 3, nat_lit 140, nat_lit 120, .ofNat (nat_lit 0), nat_lit 1, nat_lit 1661, nat_lit 383, []), (nat_lit 10, nat_lit 14, nat_lit 3, nat_lit 0, nat_lit 0, .ofNat (nat_lit 28), nat_lit 0, nat_lit 0, nat_lit 0, [])], [], [(nat_lit 38, nat_lit 3, nat_lit 1, nat_lit 0, nat_lit 0, .negSucc (nat_lit 0), nat_lit 0, nat_lit 0, nat_lit 0, []), (nat_lit 39, nat_lit 6, nat_lit 1, nat_lit 0, nat_lit 0, .ofNat (nat_lit 0), nat_lit 0, nat_lit 0, nat_lit 0, [])]]
def rx_c124 : List (List rx_E) := [[(nat_lit 0, nat_lit 3, nat_lit 1, nat_lit 0, nat_lit 0, .ofNat (nat_lit 0), nat_lit 0, nat_lit 0, nat_lit 0, []), (nat_lit 1, nat_lit 11, nat_lit 1, nat_lit 1, nat_lit 0, .ofNat (nat_lit 0), nat_lit 0, nat_lit 0, nat_lit 0, []), (nat_lit 2, nat_lit 1, nat_lit 1, nat_lit 1, nat_lit 0, .ofNat (nat_lit 0), nat_lit 0, nat_lit 0, nat_lit 0, []), (nat_lit 3, nat_lit 20, nat_lit 3, nat_lit 0, nat_lit 0, .ofNat (nat_lit 200), nat_lit 0, nat_lit 0, nat_lit 0, []), (nat_lit 6, nat_lit 4, nat_lit 3, nat_lit 0, nat_lit 4, .ofNat (nat_lit 27), nat_lit 0, nat_lit 0, nat_lit 0, []), (nat_lit 9, nat_lit 0, nat_lit 1, nat_lit 0, nat_lit 0, .ofNat (nat_lit 0), nat_lit 0, nat_lit 0, nat_lit 0, []), (nat_lit 10, nat_lit 1, nat_lit 1, nat_lit 1, nat_lit 0, .ofNat (nat_lit 0), nat_lit 0, nat_lit 0, nat_lit 0, []), (nat_lit 11, nat_lit 8, nat_lit 3, nat_lit 113, nat_lit 120, .ofNat (nat_lit 0), nat_lit 1, nat_lit 1795, nat_lit 408, []), (nat_lit 14, nat_lit 3, nat_lit 1, nat_lit 0, nat_lit 0, .ofNat (nat_lit 1), nat_lit 0, nat_lit 0, nat_lit 0, []), (nat_lit 15, nat_lit 0, nat_lit 1, nat_lit 0, nat_lit 0, .ofNat (nat_lit 0), nat_lit 0, nat_lit 0, nat_lit 0, [])], [(nat_lit 16, nat_lit 8, nat_lit 3, nat_lit 155, nat_lit 120, .ofNat (nat_lit 0), nat_lit 0, nat_lit 1320, nat_lit 345, []), (nat_lit 19, nat_lit 17, nat_lit 1, nat_lit 0, nat_lit 0, .ofNat (nat_lit 0), nat_lit 0, nat_lit 0, nat_lit 0, []), (nat_lit 20, nat_lit 3, nat_lit 1, nat_lit 0, nat_lit 0, .ofNat (nat_lit 1), nat_lit 0, nat_lit 0, nat_lit 0, []), (nat_lit 21, nat_lit 23, nat_lit 1, nat_lit 0, nat_lit 0, .ofNat (nat_lit 0), nat_lit 0, nat_lit 0, nat_lit 0, []), (nat_lit 22, nat_lit 4, nat_lit 3, nat_lit 0, nat_lit 1, .ofNat (nat_lit 5), nat_lit 0, nat_lit 0, nat_lit 0, []), (nat_lit 25, nat_lit 1, nat_lit 1, nat_lit 1, nat_lit 0, .ofNat (nat_lit 0), nat_lit 0, nat_lit 0, nat_lit 0, []), (nat_lit 26, nat_lit 6, nat_lit 1, nat_lit 0, nat_lit 0, .ofNat (nat_lit 0), nat_lit 0, nat_lit 0, nat_lit 0, [])]]
def rx_c125 : List (List rx_E) := [[(nat_lit 0, nat_lit 1, nat_lit 1, nat_lit 1, nat_lit 0, .ofNat (nat_lit 0), nat_lit 0, nat_lit 0, nat_lit 0, []), (nat_lit 1, nat_lit 14, nat_lit 3, nat_lit 0, nat_lit 2, .ofNat (nat_lit 11), nat_lit 0, nat_lit 0, nat_lit 0, []), (nat_lit 4, nat_lit 1, nat_lit 1, nat_lit 1, nat_lit 0, .ofNat (nat_lit 0), nat_lit 0, nat_lit 0, nat_lit 0, []), (nat_lit 5, nat_lit 0, nat_lit 1, nat_lit 0, nat_lit 0, .ofNat (nat_lit 0), nat_lit 0, nat_lit 0, nat_lit 0, []), (nat_lit 6, nat_lit 2, nat_lit 3, nat_lit 12, nat_lit 2, .ofNat (nat_lit 0), nat_lit 0, nat_lit 1326, nat_lit 248, []), (nat_lit 9, nat_lit 4, nat_lit 3, nat_lit 0, nat_lit 5, .ofNat (nat_lit 5), nat_lit 0, nat_lit 0, nat_lit 0, []), (nat_lit 12, nat_lit 3, nat_lit 1, nat_lit 0, nat_lit 0, .negSucc (nat_lit 0), nat_lit 0, nat_lit 0, nat_lit 0, []), (nat_lit 13, nat_lit 6, nat_lit 1, nat_lit 0, nat_lit 0, .ofNat (nat_lit 0), nat_lit 0, nat_lit 0, nat_lit 0, []), (nat_lit 14, nat_lit 0, nat_lit 1, nat_lit 0, nat_lit 0, .ofNat (nat_lit 0), nat_lit 0, nat_lit 0, nat_lit 0, []), (nat_lit 15, nat_lit 1, nat_lit 1, nat_lit 1, nat_lit 0, .ofNat (nat_lit 0), nat_lit 0, nat_lit 0, nat_lit 0, [])], [(nat_lit 16, nat_lit 15, nat_lit 3, nat_lit 12, nat_lit 2, .ofNat (nat_lit 0), nat_lit 0, nat_lit 1326, nat_lit 248, []), (nat_lit 19, nat_lit 1, nat_lit 1, nat_lit 1, nat_lit 0, .ofNat (nat_lit 0), nat_lit 0, nat_lit 0, nat_lit 0, []), (nat_lit 20, nat_lit 6, nat_lit 1, nat_lit 0, nat_lit 0, .ofNat (nat_lit 0), nat_lit 0, nat_lit 0, nat_lit 0, [])]]
def rx_c126 : List (List rx_E) := [[(nat_lit 0, nat_lit 0, nat_lit 1, nat_lit 0, nat_lit 0, .ofNat (nat_lit 0), nat_lit 0, nat_lit 0, nat_lit 0, []), (nat_lit 1, nat_lit 1, nat_lit 1, nat_lit 1, nat_lit 0, .ofNat (nat_lit 0), nat_lit 0, nat_lit 0, nat_lit 0, []), (nat_lit 2, nat_lit 8, nat_lit 3, nat_lit 140, nat_lit 120, .ofNat (nat_lit 0), nat_lit 1, nat_lit 1661, nat_lit 383, []), (nat_lit 5, nat_lit 14, nat_lit 3, nat_lit 0, nat_lit 0, .ofNat (nat_lit 14), nat_lit 0, nat_lit 0, nat_lit 0, [])], [(nat_lit 19, nat_lit 3, nat_lit 1, nat_lit 0, nat_lit 0, .negSucc (nat_lit 0), nat_lit 0, nat_lit 0, nat_lit 0, []), (nat_lit 20, nat_lit 6, nat_lit 1, nat_lit 0, nat_lit 0, .ofNat (nat_lit 0), nat_lit 0, nat_lit 0, nat_lit 0, [])]]
def rx_c127 : List (List rx_E) := [[(nat_lit 0, nat_lit 3, nat_lit 1, nat_lit 0, nat_lit 0, .ofNat (nat_lit 1), nat_lit 0, nat_lit 0, nat_lit 0, []), (nat_lit 1, nat_lit 0, nat_lit 1, nat_lit 0, nat_lit 0, .ofNat (nat_lit 0), nat_lit 0, nat_lit 0, nat_lit 0, []), (nat_lit 2, nat_lit 8, nat_lit 3, nat_lit 180, nat_lit 120, .ofNat (nat_lit 0), nat_lit 0, nat_lit 1688, nat_lit 338, []), (nat_lit 5, nat_lit 17, nat_lit 1, nat_lit 0, nat_lit 0, .ofNat (nat_lit 0), nat_lit 0, nat_lit 0, nat_lit 0, []), (nat_lit 6, nat_lit 6, nat_lit 1, nat_lit 0, nat_lit 0, .ofNat (nat_lit 0), nat_lit 0, nat_lit 0, nat_lit 0, [])]]
def rx_c128 : List (List rx_E) := [[(nat_lit 0, nat_lit 0, nat_lit 1, nat_lit 0, nat_lit 0, .ofNat (nat_lit 0), nat_lit 0, nat_lit 0, nat_lit 0, []), (nat_lit 1, nat_lit 1, nat_lit 1, nat_lit 1, nat_lit 0, .ofNat (nat_lit 0), nat_lit 0, nat_lit 0, nat_lit 0, []), (nat_lit 2, nat_lit 8, nat_lit 3, nat_lit 140, nat_lit 120, .ofNat (nat_lit 0), nat_lit 1, nat_lit 1661, nat_lit 383, []), (nat_lit 5, nat_lit 14, nat_lit 3, nat_lit 0, nat_lit 0, .ofNat (nat_lit 48), nat_lit 0, nat_lit 0, nat_lit 0, [])], [], [], [(nat_lit 53, nat_lit 3, nat_lit 1, nat_lit 0, nat_lit 0, .negSucc (nat_lit 0), nat_lit 0, nat_lit 0, nat_lit 0, []), (nat_lit 54, nat_lit 6, nat_lit 1, nat_lit 0, nat_lit 0, .ofNat (nat_lit 0), nat_lit 0, nat_lit 0, nat_lit 0, [])]]
def rx_c129 : List (List rx_E) := [[(nat_lit 0, nat_lit 1, nat_lit 1, nat_lit 1, nat_lit 0, .ofNat (nat_lit 0), nat_lit 0, nat_lit 0, nat_lit 0, []), (nat_lit 1, nat_lit 14, nat_lit 3, nat_lit 0, nat_lit 1, .ofNat (nat_lit 10), nat_lit 0, nat_lit 0, nat_lit 0, []), (nat_lit 4, nat_lit 0, nat_lit 1, nat_lit 0, nat_lit 0, .ofNat (nat_lit 0), nat_lit 0, nat_lit 0, nat_lit 0, []), (nat_lit 5, nat_lit 2, nat_lit 3, nat_lit 12, nat_lit 4, .ofNat (nat_lit 0), nat_lit 0, nat_lit 1328, nat_lit 146, []), (nat_lit 8, nat_lit 5, nat_lit 3, nat_lit 0, nat_lit 0, .ofNat (nat_lit 16), nat_lit 0, nat_lit 0, nat_lit 0, []), (nat_lit 11, nat_lit 1, nat_lit 1, nat_lit 1, nat_lit 0, .ofNat (nat_lit 0), nat_lit 0, nat_lit 0, nat_lit 0, []), (nat_lit 12, nat_lit 3, nat_lit 1, nat_lit 0, nat_lit 0, .ofNat (nat_lit 1), nat_lit 0, nat_lit 0, nat_lit 0, []), (nat_lit 13, nat_lit 4, nat_lit 3, nat_lit 0, nat_lit 1, .ofNat (nat_lit 10), nat_lit 0, nat_lit 0, nat_lit 0, [])], [(nat_lit 16, nat_lit 0, nat_lit 1, nat_lit 0, nat_lit 0, .ofNat (nat_lit 0), nat_lit 0, nat_lit 0, nat_lit 0, []), (nat_lit 17, nat_lit 2, nat_lit 3, nat_lit 12, nat_lit 5, .ofNat (nat_lit 0), nat_lit 0, nat_lit 1329, nat_lit 16, []), (nat_lit 20, nat_lit 5, nat_lit 3, nat_lit 0, nat_lit 0, .ofNat (nat_lit 4), nat_lit 0, nat_lit 0, nat_lit 0, []), (nat_lit 23, nat_lit 3, nat_lit 1, nat_lit 0, nat_lit 0, .negSucc (nat_lit 0), nat_lit 0, nat_lit 0, nat_lit 0, []), (nat_lit 24, nat_lit 6, nat_lit 1, nat_lit 0, nat_lit 0, .ofNat (nat_lit 0), nat_lit 0, nat_lit 0, nat_lit 0, [])]]
def rx_c130 : List (List rx_E) := [[(nat_lit 0, nat_lit 0, nat_lit 1, nat_lit 0, nat_lit 0, .ofNat (nat_lit 0), nat_lit 0, nat_lit 0, nat_lit 0, []), (nat_lit 1, nat_lit 2, nat_lit 3, nat_lit 12, nat_lit 2, .ofNat (nat_lit 0), nat_lit 0, nat_lit 1326, nat_lit 248, []), (nat_lit 4, nat_lit 21, nat_lit 2, nat_lit 0, nat_lit 0, .ofNat (nat_lit 20), nat_lit 0, nat_lit 0, nat_lit 0, []), (nat_lit 6, nat_lit 12, nat_lit 1, nat_lit 0, nat_lit 0, .ofNat (nat_lit 0), nat_lit 0, nat_lit 0, nat_lit 0, []), (nat_lit 7, nat_lit 20, nat_lit 3, nat_lit 0, nat_lit 0, .ofNat (nat_lit 1600), nat_lit 0, nat_lit 0, nat_lit 0, []), (nat_lit 10, nat_lit 4, nat_lit 3, nat_lit 0, nat_lit 5, .ofNat (nat_lit 5), nat_lit 0, nat_lit 0, nat_lit 0, []), (nat_lit 15, nat_lit 3, nat_lit 1, nat_lit 0, nat_lit 0, .ofNat (nat_lit 0), nat_lit 0, nat_lit 0, nat_lit 0, [])], [(nat_lit 16, nat_lit 25, nat_lit 2, nat_lit 6, nat_lit 0, .ofNat (nat_lit 0), nat_lit 0, nat_lit 0, nat_lit 0, []), (nat_lit 18, nat_lit 22, nat_lit 2, nat_lit 6, nat_lit 0, .ofNat (nat_lit 0), nat_lit 0, nat_lit 0, nat_lit 0, []), (nat_lit 20, nat_lit 21, nat_lit 2, nat_lit 0, nat_lit 0, .ofNat (nat_lit 20), nat_lit 0, nat_lit 0, nat_lit 0, []), (nat_lit 22, nat_lit 4, nat_lit 3, nat_lit 0, nat_lit 3, .ofNat (nat_lit 83), nat_lit 0, nat_lit 0, nat_lit 0, []), (nat_lit 25, nat_lit 22, nat_lit 2, nat_lit 6, nat_lit 0, .ofNat (nat_lit 0), nat_lit 0, nat_lit 0, nat_lit 0, []), (nat_lit 27, nat_lit 3, nat_lit 1, nat_lit 0, nat_lit 0, .ofNat (nat_lit 4), nat_lit 0, nat_lit 0, nat_lit 0, []), (nat_lit 28, nat_lit 4, nat_lit 3, nat_lit 0, nat_lit 3, .ofNat (nat_lit 7), nat_lit 0, nat_lit 0, nat_lit 0, []), (nat_lit 31, nat_lit 1, nat_lit 1, nat_lit 1, nat_lit 0, .ofNat (nat_lit 0), nat_lit 0, nat_lit 0, nat_lit 0, [])], [(nat_lit 32, nat_lit 5, nat_lit 3, nat_lit 0, nat_lit 0, .ofNat (nat_lit 39), nat_lit 0, nat_lit 0, nat_lit 0, []), (nat_lit 35, nat_lit 22, nat_lit 2, nat_lit 6, nat_lit 0, .ofNat (nat_lit 0), nat_lit 0, nat_lit 0, nat_lit 0, []), (nat_lit 37, nat_lit 21, nat_lit 2, nat_lit 0, nat_lit 0, .ofNat (nat_lit 8), nat_lit 0, nat_lit 0, nat_lit 0, []), (nat_lit 39, nat_lit 4, nat_lit 3, nat_lit 0, nat_lit 3, .ofNat (nat_lit 7), nat_lit 0, nat_lit 0, nat_lit 0, []), (nat_lit 42, nat_lit 1, nat_lit 1, nat_lit 2, nat_lit 0, .ofNat (nat_lit 0), nat_lit 0, nat_lit 0, nat_lit 0, []), (nat_lit 43, nat_lit 5, nat_lit 3, nat_lit 0, nat_lit 0, .ofNat (nat_lit 28), nat_lit 0, nat_lit 0, nat_lit 0, []), (nat_lit 46, nat_lit 22, nat_lit 2, nat_lit 6, nat_lit 0, .ofNat (nat_lit 0), nat_lit 0, nat_lit 0, nat_lit 0, [])], [(nat_lit 48, nat_lit 21, nat_lit 2, nat_lit 0, nat_lit 0, .ofNat (nat_lit 12), nat_lit 0, nat_lit 0, nat_lit 0, []), (nat_lit 50, nat_lit 4, nat_lit 3, nat_lit 0, nat_lit 3, .ofNat (nat_lit 7), nat_lit 0, nat_lit 0, nat_lit 0, []), (nat_lit 53, nat_lit 1, nat_lit 1, nat_lit 3, nat_lit 0, .ofNat (nat_lit 0), nat_lit 0, nat_lit 0, nat_lit 0, []), (nat_lit 54, nat_lit 5, nat_lit 3, nat_lit 0, nat_lit 0, .ofNat (nat_lit 17), nat_lit 0, nat_lit 0, nat_lit 0, []), (nat_lit 57, nat_lit 22, nat_lit 2, nat_lit 6, nat_lit 0, .ofNat (nat_lit 0), nat_lit 0, nat_lit 0, nat_lit 0, []), (nat_lit 59, nat_lit 21, nat_lit 2, nat_lit 0, nat_lit 0, .ofNat (nat_lit 16), nat_lit 0, nat_lit 0, nat_lit 0, []), (nat_lit 61, nat_lit 4, nat_lit 3, nat_lit 0, nat_lit 3, .ofNat (nat_lit 8), nat_lit 0, nat_lit 0, nat_lit 0, [])], [(nat_lit 64, nat_lit 22, nat_lit 2, nat_lit 4, nat_lit 0, .ofNat (nat_lit 0), nat_lit 0, nat_lit 0, nat_lit 0, []), (nat_lit 66, nat_lit 5, nat_lit 3, nat_lit 0, nat_lit 0, .ofNat (nat_lit 5), nat_lit 0, nat_lit 0, nat_lit 0, []), (nat_lit 69, nat_lit 22, nat_lit 2, nat_lit 5, nat_lit 0, .ofNat (nat_lit 0), nat_lit 0, nat_lit 0, nat_lit 0, []), (nat_lit 71, nat_lit 25, nat_lit 2, nat_lit 7, nat_lit 0, .ofNat (nat_lit 0), nat_lit 0, nat_lit 0, nat_lit 0, []), (nat_lit 73, nat_lit 0, nat_lit 1, nat_lit 0, nat_lit 0, .ofNat (nat_lit 0), nat_lit 0, nat_lit 0, nat_lit 0, []), (nat_lit 74, nat_lit 2, nat_lit 3, nat_lit 12, nat_lit 0, .ofNat (nat_lit 0), nat_lit 12, nat_lit 1324, nat_lit 7, []), (nat_lit 77, nat_lit 0, nat_lit 1, nat_lit 0, nat_lit 0, .ofNat (nat_lit 0), nat_lit 0, nat_lit 0, nat_lit 0, []), (nat_lit 78, nat_lit 2, nat_lit 3, nat_lit 12, nat_lit 2, .ofNat (nat_lit 0), nat_lit 0, nat_lit 1326, nat_lit 248, [])], [(nat_lit 81, nat_lit 22, nat_lit 2, nat_lit 6, nat_lit 0, .ofNat (nat_lit 0), nat_lit 0, nat_lit 0, nat_lit 0, []), (nat_lit 83, nat_lit 12, nat_lit 1, nat_lit 0, nat_lit 0, .ofNat (nat_lit 0), nat_lit 0, nat_lit 0, nat_lit 0, []), (nat_lit 84, nat_lit 22, nat_lit 2, nat_lit 7, nat_lit 0, .ofNat (nat_lit 0), nat_lit 0, nat_lit 0, nat_lit 0, []), (nat_lit 86, nat_lit 21, nat_lit 2, nat_lit 0, nat_lit 0, .ofNat (nat_lit 24), nat_lit 0, nat_lit 0, nat_lit 0, []), (nat_lit 88, nat_lit 21, nat_lit 2, nat_lit 0, nat_lit 0, .ofNat (nat_lit 8), nat_lit 0, nat_lit 0, nat_lit 0, []), (nat_lit 90, nat_lit 22, nat_lit 2, nat_lit 6, nat_lit 0, .ofNat (nat_lit 0), nat_lit 0, nat_lit 0, nat_lit 0, []), (nat_lit 92, nat_lit 3, nat_lit 1, nat_lit 0, nat_lit 0, .ofNat (nat_lit 3), nat_lit 0, nat_lit 0, nat_lit 0, []), (nat_lit 93, nat_lit 18, nat_lit 1, nat_lit 0, nat_lit 0, .ofNat (nat_lit 0), nat_lit 0, nat_lit 0, nat_lit 0, []), (nat_lit 94, nat_lit 28, nat_lit 1, nat_lit 0, nat_lit 0, .ofNat (nat_lit 0), nat_lit 0, nat_lit 0, nat_lit 0, []), (nat_lit 95, nat_lit 23, nat_lit 1, nat_lit 0, nat_lit 0, .ofNat (nat_lit 0), nat_lit 0, nat_lit 0, nat_lit 0, [])], [(nat_lit 96, nat_lit 19, nat_lit 1, nat_lit 0, nat_lit 0, .ofNat (nat_lit 0), nat_lit 0, nat_lit 0, nat_lit 0, []), (nat_lit 97, nat_lit 37, nat_lit 1, nat_lit 0, nat_lit 0, .ofNat (nat_lit 0), nat_lit 0, nat_lit 0, nat_lit 0, []), (nat_lit 98, nat_lit 13, nat_lit 1, nat_lit 0, nat_lit 0, .ofNat (nat_lit 0), nat_lit 0, nat_lit 0, nat_lit 0, []), (nat_lit 99, nat_lit 7, nat_lit 3, nat_lit 6, nat_lit 0, .ofNat (nat_lit 1), nat_lit 0, nat_lit 0, nat_lit 0, []), (nat_lit 102, nat_lit 5, nat_lit 3, nat_lit 0, nat_lit 0, .negSucc (nat_lit 83), nat_lit 0, nat_lit 0, nat_lit 0, []), (nat_lit 105, nat_lit 0, nat_lit 1, nat_lit 0, nat_lit 0, .ofNat (nat_lit 0), nat_lit 0, nat_lit 0, nat_lit 0, []), (nat_lit 106, nat_lit 16, nat_lit 1, nat_lit 0, nat_lit 0, .ofNat (nat_lit 0), nat_lit 0, nat_lit 0, nat_lit 0, []), (nat_lit 107, nat_lit 2, nat_lit 3, nat_lit 12, nat_lit 2, .ofNat (nat_lit 0), nat_lit 0, nat_lit 1326, nat_lit 248, []), (nat_lit 110, nat_lit 21, nat_lit 2, nat_lit 0, nat_lit 0, .ofNat (nat_lit 20), nat_lit 0, nat_lit 0, nat_lit 0, [])], [(nat_lit 112, nat_lit 12, nat_lit 1, nat_lit 0, nat_lit 0, .ofNat (nat_lit 0), nat_lit 0, nat_lit 0, nat_lit 0, []), (nat_lit 113, nat_lit 15, nat_lit 3, nat_lit 12, nat_lit 2, .ofNat (nat_lit 0), nat_lit 0, nat_lit 1326, nat_lit 248, []), (nat_lit 116, nat_lit 0, nat_lit 1, nat_lit 0, nat_lit 0, .ofNat (nat_lit 0), nat_lit 0, nat_lit 0, nat_lit 0, []), (nat_lit 117, nat_lit 2, nat_lit 3, nat_lit 12, nat_lit 2, .ofNat (nat_lit 0), nat_lit 0, nat_lit 1326, nat_lit 248, []), (nat_lit 120, nat_lit 6, nat_lit 1, nat_lit 0, nat_lit 0, .ofNat (nat_lit 0), nat_lit 0, nat_lit 0, nat_lit 0, [])]]
def rx_c131 : List (List rx_E) := [[(nat_lit 0, nat_lit 0, nat_lit 1, nat_lit 0, nat_lit 0, .ofNat (nat_lit 0), nat_lit 0, nat_lit 0, nat_lit 0, []), (nat_lit 1, nat_lit 1, nat_lit 1, nat_lit 1, nat_lit 0, .ofNat (nat_lit 0), nat_lit 0, nat_lit 0, nat_lit 0, []), (nat_lit 2, nat_lit 8, nat_lit 3, nat_lit 144, nat_lit 120, .ofNat (nat_lit 0), nat_lit 1, nat_lit 1672, nat_lit 386, []), (nat_lit 5, nat_lit 14, nat_lit 3, nat_lit 0, nat_lit 0, .ofNat (nat_lit 12), nat_lit 0, nat_lit 0, nat_lit 0, [])], [(nat_lit 17, nat_lit 3, nat_lit 1, nat_lit 0, nat_lit 0, .negSucc (nat_lit 0), nat_lit 0, nat_lit 0, nat_lit 0, []), (nat_lit 18, nat_lit 6, nat_lit 1, nat_lit 0, nat_lit 0, .ofNat (nat_lit 0), nat_lit 0, nat_lit 0, nat_lit 0, [])]]
def rx_c132 : List (List rx_E) := [[(nat_lit 0, nat_lit 0, nat_lit 1, nat_lit 0, nat_lit 0, .ofNat (nat_lit 0), nat_lit 0, nat_lit 0, nat_lit 0, []), (nat_lit 1, nat_lit 1, nat_lit 1, nat_lit 1, nat_lit 0, .ofNat (nat_lit 0), nat_lit 0, nat_lit 0, nat_lit 0, []), (nat_lit 2, nat_lit 8, nat_lit 3, nat_lit 144, nat_lit 120, .ofNat (nat_lit 0), nat_lit 1, nat_lit 1672, nat_lit 386, []), (nat_lit 5, nat_lit 14, nat_lit 3, nat_lit 0, nat_lit 0, .ofNat (nat_lit 20), nat_lit 0, nat_lit 0, nat_lit 0, [])], [(nat_lit 25, nat_lit 3, nat_lit 1, nat_lit 0, nat_lit 0, .negSucc (nat_lit 0), nat_lit 0, nat_lit 0, nat_lit 0, []), (nat_lit 26, nat_lit 6, nat_lit 1, nat_lit 0, nat_lit 0, .ofNat (nat_lit 0), nat_lit 0, nat_lit 0, nat_lit 0, [])]]
def rx_c133 : List (List rx_E) := [[(nat_lit 0, nat_lit 1, nat_lit 1, nat_lit 1, nat_lit 0, .ofNat (nat_lit 0), nat_lit 0, nat_lit 0, nat_lit 0, []), (nat_lit 1, nat_lit 3, nat_lit 1, nat_lit 0, nat_lit 0, .ofNat (nat_lit 0), nat_lit 0, nat_lit 0, nat_lit 0, []), (nat_lit 2, nat_lit 3, nat_lit 1, nat_lit 0, nat_lit 0, .ofNat (nat_lit 1), nat_lit 0, nat_lit 0, nat_lit 0, []), (nat_lit 3, nat_lit 24, nat_lit 3, nat_lit 142, nat_lit 121, .ofNat (nat_lit 0), nat_lit 3, nat_lit 1665, nat_lit 341, []), (nat_lit 6, nat_lit 14, nat_lit 3, nat_lit 0, nat_lit 1, .ofNat (nat_lit 5), nat_lit 0, nat_lit 0, nat_lit 0, []), (nat_lit 9, nat_lit 3, nat_lit 1, nat_lit 0, nat_lit 0, .negSucc (nat_lit 0), nat_lit 0, nat_lit 0, nat_lit 0, []), (nat_lit 10, nat_lit 6, nat_lit 1, nat_lit 0, nat_lit 0, .ofNat (nat_lit 0), nat_lit 0, nat_lit 0, nat_lit 0, []), (nat_lit 11, nat_lit 0, nat_lit 1, nat_lit 0, nat_lit 0, .ofNat (nat_lit 0), nat_lit 0, nat_lit 0, nat_lit 0, []), (nat_lit 12, nat_lit 1, nat_lit 1, nat_lit 2, nat_lit 0, .ofNat (nat_lit 0), nat_lit 0, nat_lit 0, nat_lit 0, []), (nat_lit 13, nat_lit 8, nat_lit 3, nat_lit 148, nat_lit 120, .ofNat (nat_lit 0), nat_lit 1, nat_lit 1945, nat_lit 468, [])], [(nat_lit 16, nat_lit 3, nat_lit 1, nat_lit 0, nat_lit 0, .negSucc (nat_lit 0), nat_lit 0, nat_lit 0, nat_lit 0, []), (nat_lit 17, nat_lit 11, nat_lit 1, nat_lit 3, nat_lit 0, .ofNat (nat_lit 0), nat_lit 0, nat_lit 0, nat_lit 0, []), (nat_lit 18, nat_lit 3, nat_lit 1, nat_lit 0, nat_lit 0, .ofNat (nat_lit 0), nat_lit 0, nat_lit 0, nat_lit 0, []), (nat_lit 19, nat_lit 25, nat_lit 2, nat_lit 4, nat_lit 0, .ofNat (nat_lit 0), nat_lit 0, nat_lit 0, nat_lit 0, []), (nat_lit 21, nat_lit 22, nat_lit 2, nat_lit 4, nat_lit 0, .ofNat (nat_lit 0), nat_lit 0, nat_lit 0, nat_lit 0, []), (nat_lit 23, nat_lit 3, nat_lit 1, nat_lit 0, nat_lit 0, .ofNat (nat_lit 1), nat_lit 0, nat_lit 0, nat_lit 0, []), (nat_lit 24, nat_lit 0, nat_lit 1, nat_lit 0, nat_lit 0, .ofNat (nat_lit 0), nat_lit 0, nat_lit 0, nat_lit 0, []), (nat_lit 25, nat_lit 8, nat_lit 3, nat_lit 155, nat_lit 120, .ofNat (nat_lit 0), nat_lit 0, nat_lit 1320, nat_lit 345, []), (nat_lit 28, nat_lit 17, nat_lit 1, nat_lit 0, nat_lit 0, .ofNat (nat_lit 0), nat_lit 0, nat_lit 0, nat_lit 0, []), (nat_lit 29, nat_lit 4, nat_lit 3, nat_lit 0, nat_lit 3, .ofNat (nat_lit 39), nat_lit 0, nat_lit 0, nat_lit 0, [])], [(nat_lit 32, nat_lit 1, nat_lit 1, nat_lit 3, nat_lit 0, .ofNat (nat_lit 0), nat_lit 0, nat_lit 0, nat_lit 0, []), (nat_lit 33, nat_lit 14, nat_lit 3, nat_lit 0, nat_lit 2, .ofNat (nat_lit 17), nat_lit 0, nat_lit 0, nat_lit 0, [])], [(nat_lit 50, nat_lit 0, nat_lit 1, nat_lit 0, nat_lit 0, .ofNat (nat_lit 0), nat_lit 0, nat_lit 0, nat_lit 0, []), (nat_lit 51, nat_lit 22, nat_lit 2, nat_lit 4, nat_lit 0, .ofNat (nat_lit 0), nat_lit 0, nat_lit 0, nat_lit 0, []), (nat_lit 53, nat_lit 8, nat_lit 3, nat_lit 122, nat_lit 120, .ofNat (nat_lit 0), nat_lit 1, nat_lit 2000, nat_lit 483, []), (nat_lit 56, nat_lit 14, nat_lit 3, nat_lit 0, nat_lit 0, .ofNat (nat_lit 6), nat_lit 0, nat_lit 0, nat_lit 0, []), (nat_lit 62, nat_lit 7, nat_lit 3, nat_lit 4, nat_lit 0, .ofNat (nat_lit 1), nat_lit 0, nat_lit 0, nat_lit 0, [])], [(nat_lit 65, nat_lit 5, nat_lit 3, nat_lit 0, nat_lit 0, .negSucc (nat_lit 43), nat_lit 0, nat_lit 0, nat_lit 0, []), (nat_lit 68, nat_lit 1, nat_lit 1, nat_lit 3, nat_lit 0, .ofNat (nat_lit 0), nat_lit 0, nat_lit 0, nat_lit 0, []), (nat_lit 69, nat_lit 14, nat_lit 3, nat_lit 0, nat_lit 3, .ofNat (nat_lit 7), nat_lit 0, nat_lit 0, nat_lit 0, []), (nat_lit 72, nat_lit 3, nat_lit 1, nat_lit 0, nat_lit 0, .negSucc (nat_lit 0), nat_lit 0, nat_lit 0, nat_lit 0, []), (nat_lit 73, nat_lit 5, nat_lit 3, nat_lit 0, nat_lit 0, .ofNat (nat_lit 16), nat_lit 0, nat_lit 0, nat_lit 0, [])], [(nat_lit 89, nat_lit 6, nat_lit 1, nat_lit 0, nat_lit 0, .ofNat (nat_lit 0), nat_lit 0, nat_lit 0, nat_lit 0, [])]]
def rx_c134_0 : List rx_E := [(nat_lit 0, nat_lit 0, nat_lit 1, nat_lit 0, nat_lit 0, .ofNat (nat_lit 0), nat_lit 0, nat_lit 0, nat_lit 0, []), (nat_lit 1, nat_lit 0, nat_lit 1, nat_lit 0, nat_lit 0, .ofNat (nat_lit 0), nat_lit 0, nat_lit 0, nat_lit 0, []), (nat_lit 2, nat_lit 2, nat_lit 3, nat_lit 12, nat_lit 7, .ofNat (nat_lit 0), nat_lit 0, nat_lit 1331, nat_lit 183, []), (nat_lit 5, nat_lit 15, nat_lit 3, nat_lit 12, nat_lit 6, .ofNat (nat_lit 0), nat_lit 0, nat_lit 1330, nat_lit 186, []), (nat_lit 8, nat_lit 0, nat_lit 1, nat_lit 0, nat_lit 0, .ofNat (nat_lit 0), nat_lit 0, nat_lit 0, nat_lit 0, []), (nat_lit 9, nat_lit 2, nat_lit 3, nat_lit 12, nat_lit 6, .ofNat (nat_lit 0), nat_lit 0, nat_lit 1330, nat_lit 186, []), (nat_lit 12, nat_lit 0, nat_lit 1, nat_lit 0, nat_lit 0, .ofNat (nat_lit 0), nat_lit 0, nat_lit 0, nat_lit 0, []), (nat_lit 13, nat_lit 2, nat_lit 3, nat_lit 12, nat_lit 3, .ofNat (nat_lit 0), nat_lit 0, nat_lit 1327, nat_lit 143, [])]
def rx_c134_1 : List rx_E := [(nat_lit 16, nat_lit 4, nat_lit 3, nat_lit 0, nat_lit 3, .ofNat (nat_lit 42), nat_lit 0, nat_lit 0, nat_lit 0, [])]
def rx_c134_2 : List rx_E := []
def rx_c134_3 : List rx_E := [(nat_lit 58, nat_lit 0, nat_lit 1, nat_lit 0, nat_lit 0, .ofNat (nat_lit 0), nat_lit 0, nat_lit 0, nat_lit 0, []), (nat_lit 59, nat_lit 0, nat_lit 1, nat_lit 0, nat_lit 0, .ofNat (nat_lit 0), nat_lit 0, nat_lit 0, nat_lit 0, []), (nat_lit 60, nat_lit 2, nat_lit 3, nat_lit 12, nat_lit 6, .ofNat (nat_lit 0), nat_lit 0, nat_lit 1330, nat_lit 186, []), (nat_lit 63, nat_lit 8, nat_lit 3, nat_lit 168, nat_lit 120, .ofNat (nat_lit 0), nat_lit 1, nat_lit 1528, nat_lit 189, [])]
def rx_c134_4 : List rx_E := [(nat_lit 66, nat_lit 11, nat_lit 1, nat_lit 1, nat_lit 0, .ofNat (nat_lit 0), nat_lit 0, nat_lit 0, nat_lit 0, []), (nat_lit 67, nat_lit 0, nat_lit 1, nat_lit 0, nat_lit 0, .ofNat (nat_lit 0), nat_lit 0, nat_lit 0, nat_lit 0, []), (nat_lit 68, nat_lit 0, nat_lit 1, nat_lit 0, nat_lit 0, .ofNat (nat_lit 0), nat_lit 0, nat_lit 0, nat_lit 0, []), (nat_lit 69, nat_lit 2, nat_lit 3, nat_lit 12, nat_lit 6, .ofNat (nat_lit 0), nat_lit 0, nat_lit 1330, nat_lit 186, []), (nat_lit 72, nat_lit 3, nat_lit 1, nat_lit 0, nat_lit 0, .ofNat (nat_lit 1), nat_lit 0, nat_lit 0, nat_lit 0, []), (nat_lit 73, nat_lit 12, nat_lit 1, nat_lit 0, nat_lit 0, .ofNat (nat_lit 0), nat_lit 0, nat_lit 0, nat_lit 0, []), (nat_lit 74, nat_lit 15, nat_lit 3, nat_lit 12, nat_lit 7, .ofNat (nat_lit 0), nat_lit 0, nat_lit 1331, nat_lit 183, []), (nat_lit 77, nat_lit 0, nat_lit 1, nat_lit 0, nat_lit 0, .ofNat (nat_lit 0), nat_lit 0, nat_lit 0, nat_lit 0, []), (nat_lit 78, nat_lit 2, nat_lit 3, nat_lit 12, nat_lit 6, .ofNat (nat_lit 0), nat_lit 0, nat_lit 1330, nat_lit 186, [])]
def rx_c134_5 : List rx_E := [(nat_lit 81, nat_lit 0, nat_lit 1, nat_lit 0, nat_lit 0, .ofNat (nat_lit 0), nat_lit 0, nat_lit 0, nat_lit 0, []), (nat_lit 82, nat_lit 2, nat_lit 3, nat_lit 12, nat_lit 3, .ofNat (nat_lit 0), nat_lit 0, nat_lit 1327, nat_lit 143, []), (nat_lit 85, nat_lit 4, nat_lit 3, nat_lit 0, nat_lit 2, .ofNat (nat_lit 27), nat_lit 0, nat_lit 0, nat_lit 0, []), (nat_lit 88, nat_lit 0, nat_lit 1, nat_lit 0, nat_lit 0, .ofNat (nat_lit 0), nat_lit 0, nat_lit 0, nat_lit 0, []), (nat_lit 89, nat_lit 3, nat_lit 1, nat_lit 0, nat_lit 0, .ofNat (nat_lit 0), nat_lit 0, nat_lit 0, nat_lit 0, []), (nat_lit 90, nat_lit 15, nat_lit 3, nat_lit 12, nat_lit 8, .ofNat (nat_lit 0), nat_lit 0, nat_lit 1332, nat_lit 193, []), (nat_lit 93, nat_lit 0, nat_lit 1, nat_lit 0, nat_lit 0, .ofNat (nat_lit 0), nat_lit 0, nat_lit 0, nat_lit 0, []), (nat_lit 94, nat_lit 0, nat_lit 1, nat_lit 0, nat_lit 0, .ofNat (nat_lit 0), nat_lit 0, nat_lit 0, nat_lit 0, []), (nat_lit 95, nat_lit 2, nat_lit 3, nat_lit 12, nat_lit 3, .ofNat (nat_lit 0), nat_lit 0, nat_lit 1327, nat_lit 143, [])]
def rx_c134_6 : List rx_E := [(nat_lit 98, nat_lit 15, nat_lit 3, nat_lit 12, nat_lit 6, .ofNat (nat_lit 0), nat_lit 0, nat_lit 1330, nat_lit 186, []), (nat_lit 101, nat_lit 0, nat_lit 1, nat_lit 0, nat_lit 0, .ofNat (nat_lit 0), nat_lit 0, nat_lit 0, nat_lit 0, []), (nat_lit 102, nat_lit 0, nat_lit 1, nat_lit 0, nat_lit 0, .ofNat (nat_lit 0), nat_lit 0, nat_lit 0, nat_lit 0, []), (nat_lit 103, nat_lit 2, nat_lit 3, nat_lit 12, nat_lit 3, .ofNat (nat_lit 0), nat_lit 0, nat_lit 1327, nat_lit 143, []), (nat_lit 106, nat_lit 15, nat_lit 3, nat_lit 12, nat_lit 7, .ofNat (nat_lit 0), nat_lit 0, nat_lit 1331, nat_lit 183, []), (nat_lit 109, nat_lit 5, nat_lit 3, nat_lit 0, nat_lit 0, .ofNat (nat_lit 268), nat_lit 0, nat_lit 0, nat_lit 0, [])]
def rx_c134_7 : List rx_E := []
def rx_c134_8 : List rx_E := []
def rx_c134_9 : List rx_E := []
def rx_c134_10 : List rx_E := []
def rx_c134_11 : List rx_E := []
def rx_c134_12 : List rx_E := []
def rx_c134_13 : List rx_E := []
def rx_c134_14 : List rx_E := []
def rx_c134_15 : List rx_E := []
def rx_c134_16 : List rx_E := []
def rx_c134_17 : List rx_E := []
def rx_c134_18 : List rx_E := []
def rx_c134_19 : List rx_E := []
def rx_c134_20 : List rx_E := []
def rx_c134_21 : List rx_E := []
def rx_c134_22 : List rx_E := []
def rx_c134_23 : List rx_E := [(nat_lit 377, nat_lit 26, nat_lit 1, nat_lit 0, nat_lit 0, .ofNat (nat_lit 0), nat_lit 0, nat_lit 0, nat_lit 0, [])]
def rx_c134 : List (List rx_E) := [rx_c134_0, rx_c134_1, rx_c134_2, rx_c134_3, rx_c134_4, rx_c134_5, rx_c134_6, rx_c134_7, rx_c134_8, rx_c134_9, rx_c134_10, rx_c134_11, rx_c134_12, rx_c134_13, rx_c134_14, rx_c134_15, rx_c134_16, rx_c134_17, rx_c134_18, rx_c134_19, rx_c134_20, rx_c134_21, rx_c134_22, rx_c134_23]
def rx_c135 : List (List rx_E) := [[(nat_lit 0, nat_lit 0, nat_lit 1, nat_lit 0, nat_lit 0, .ofNat (nat_lit 0), nat_lit 0, nat_lit 0, nat_lit 0, []), (nat_lit 1, nat_lit 1, nat_lit 1, nat_lit 1, nat_lit 0, .ofNat (nat_lit 0), nat_lit 0, nat_lit 0, nat_lit 0, []), (nat_lit 2, nat_lit 8, nat_lit 3, nat_lit 140, nat_lit 120, .ofNat (nat_lit 0), nat_lit 1, nat_lit 1661, nat_lit 383, []), (nat_lit 5, nat_lit 14, nat_lit 3, nat_lit 0, nat_lit 1, .ofNat (nat_lit 5), nat_lit 0, nat_lit 0, nat_lit 0, []), (nat_lit 8, nat_lit 3, nat_lit 1, nat_lit 0, nat_lit 0, .negSucc (nat_lit 0), nat_lit 0, nat_lit 0, nat_lit 0, []), (nat_lit 9, nat_lit 6, nat_lit 1, nat_lit 0, nat_lit 0, .ofNat (nat_lit 0), nat_lit 0, nat_lit 0, nat_lit 0, [])]]
def rx_c136 : List (List rx_E) := [[(nat_lit 0, nat_lit 0, nat_lit 1, nat_lit 0, nat_lit 0, .ofNat (nat_lit 0), nat_lit 0, nat_lit 0, nat_lit 0, []), (nat_lit 1, nat_lit 3, nat_lit 1, nat_lit 0, nat_lit 0, .ofNat (nat_lit 0), nat_lit 0, nat_lit 0, nat_lit 0, []), (nat_lit 2, nat_lit 15, nat_lit 3, nat_lit 12, nat_lit 49, .ofNat (nat_lit 0), nat_lit 0, nat_lit 1373, nat_lit 380, []), (nat_lit 5, nat_lit 0, nat_lit 1, nat_lit 0, nat_lit 0, .ofNat (nat_lit 0), nat_lit 0, nat_lit 0, nat_lit 0, []), (nat_lit 6, nat_lit 1, nat_lit 1, nat_lit 1, nat_lit 0, .ofNat (nat_lit 0), nat_lit 0, nat_lit 0, nat_lit 0, []), (nat_lit 7, nat_lit 8, nat_lit 3, nat_lit 140, nat_lit 120, .ofNat (nat_lit 0), nat_lit 1, nat_lit 1661, nat_lit 383, []), (nat_lit 10, nat_lit 14, nat_lit 3, nat_lit 0, nat_lit 0, .ofNat (nat_lit 27), nat_lit 0, nat_lit 0, nat_lit 0, [])], [], [(nat_lit 37, nat_lit 3, nat_lit 1, nat_lit 0, nat_lit 0, .negSucc (nat_lit 0), nat_lit 0, nat_lit 0, nat_lit 0, []), (nat_lit 38, nat_lit 6, nat_lit 1, nat_lit 0, nat_lit 0, .ofNat (nat_lit 0), nat_lit 0, nat_lit 0, nat_lit 0, [])]]
def rx_c137 : List (List rx_E) := [[(nat_lit 0, nat_lit 0, nat_lit 1, nat_lit 0, nat_lit 0, .ofNat (nat_lit 0), nat_lit 0, nat_lit 0, nat_lit 0, []), (nat_lit 1, nat_lit 1, nat_lit 1, nat_lit 1, nat_lit 0, .ofNat (nat_lit 0), nat_lit 0, nat_lit 0, nat_lit 0, []), (nat_lit 2, nat_lit 8, nat_lit 3, nat_lit 140, nat_lit 120, .ofNat (nat_lit 0), nat_lit 1, nat_lit 1661, nat_lit 383, []), (nat_lit 5, nat_lit 14, nat_lit 3, nat_lit 0, nat_lit 0, .ofNat (nat_lit 12), nat_lit 0, nat_lit 0, nat_lit 0, [])], [(nat_lit 17, nat_lit 3, nat_lit 1, nat_lit 0, nat_lit 0, .negSucc (nat_lit 0), nat_lit 0, nat_lit 0, nat_lit 0, []), (nat_lit 18, nat_lit 6, nat_lit 1, nat_lit 0, nat_lit 0, .ofNat (nat_lit 0), nat_lit 0, nat_lit 0, nat_lit 0, [])]]
def rx_c138 : List (List rx_E) := [[(nat_lit 0, nat_lit 0, nat_lit 1, nat_lit 0, nat_lit 0, .ofNat (nat_lit 0), nat_lit 0, nat_lit 0, nat_lit 0, []), (nat_lit 1, nat_lit 1, nat_lit 1, nat_lit 1, nat_lit 0, .ofNat (nat_lit 0), nat_lit 0, nat_lit 0, nat_lit 0, []), (nat_lit 2, nat_lit 8, nat_lit 3, nat_lit 140, nat_lit 120, .ofNat (nat_lit 0), nat_lit 1, nat_lit 1661, nat_lit 383, []), (nat_lit 5, nat_lit 14, nat_lit 3, nat_lit 0, nat_lit 1, .ofNat (nat_lit 5), nat_lit 0, nat_lit 0, nat_lit 0, []), (nat_lit 8, nat_lit 3, nat_lit 1, nat_lit 0, nat_lit 0, .negSucc (nat_lit 0), nat_lit 0, nat_lit 0, nat_lit 0, []), (nat_lit 9, nat_lit 6, nat_lit 1, nat_lit 0, nat_lit 0, .ofNat (nat_lit 0), nat_lit 0, nat_lit 0, nat_lit 0, [])]]
def rx_c139 : List (List rx_E) := [[(nat_lit 0, nat_lit 1, nat_lit 1, nat_lit 1, nat_lit 0, .ofNat (nat_lit 0), nat_lit 0, nat_lit 0, nat_lit 0, []), (nat_lit 1, nat_lit 3, nat_lit 1, nat_lit 0, nat_lit 0, .ofNat (nat_lit 0), nat_lit 0, nat_lit 0, nat_lit 0, []), (nat_lit 2, nat_lit 3, nat_lit 1, nat_lit 0, nat_lit 0, .ofNat (nat_lit 2), nat_lit 0, nat_lit 0, nat_lit 0, []), (nat_lit 3, nat_lit 24, nat_lit 3, nat_lit 142, nat_lit 121, .ofNat (nat_lit 0), nat_lit 3, nat_lit 1665, nat_lit 341, []), (nat_lit 6, nat_lit 14, nat_lit 3, nat_lit 0, nat_lit 1, .ofNat (nat_lit 5), nat_lit 0, nat_lit 0, nat_lit 0, []), (nat_lit 9, nat_lit 3, nat_lit 1, nat_lit 0, nat_lit 0, .negSucc (nat_lit 0), nat_lit 0, nat_lit 0, nat_lit 0, []), (nat_lit 10, nat_lit 6, nat_lit 1, nat_lit 0, nat_lit 0, .ofNat (nat_lit 0), nat_lit 0, nat_lit 0, nat_lit 0, []), (nat_lit 11, nat_lit 3, nat_lit 1, nat_lit 0, nat_lit 0, .ofNat (nat_lit 0), nat_lit 0, nat_lit 0, nat_lit 0, []), (nat_lit 12, nat_lit 11, nat_lit 1, nat_lit 2, nat_lit 0, .ofNat (nat_lit 0), nat_lit 0, nat_lit 0, nat_lit 0, []), (nat_lit 13, nat_lit 1, nat_lit 1, nat_lit 2, nat_lit 0, .ofNat (nat_lit 0), nat_lit 0, nat_lit 0, nat_lit 0, []), (nat_lit 14, nat_lit 21, nat_lit 2, nat_lit 0, nat_lit 0, .ofNat (nat_lit 24), nat_lit 0, nat_lit 0, nat_lit 0, [])], [(nat_lit 16, nat_lit 4, nat_lit 3, nat_lit 0, nat_lit 3, .ofNat (nat_lit 26), nat_lit 0, nat_lit 0, nat_lit 0, []), (nat_lit 19, nat_lit 0, nat_lit 1, nat_lit 0, nat_lit 0, .ofNat (nat_lit 0), nat_lit 0, nat_lit 0, nat_lit 0, []), (nat_lit 20, nat_lit 2, nat_lit 3, nat_lit 12, nat_lit 63, .ofNat (nat_lit 0), nat_lit 12, nat_lit 1387, nat_lit 131, []), (nat_lit 23, nat_lit 21, nat_lit 2, nat_lit 0, nat_lit 0, .ofNat (nat_lit 24), nat_lit 0, nat_lit 0, nat_lit 0, []), (nat_lit 25, nat_lit 1, nat_lit 1, nat_lit 1, nat_lit 0, .ofNat (nat_lit 0), nat_lit 0, nat_lit 0, nat_lit 0, []), (nat_lit 26, nat_lit 28, nat_lit 1, nat_lit 0, nat_lit 0, .ofNat (nat_lit 0), nat_lit 0, nat_lit 0, nat_lit 0, []), (nat_lit 27, nat_lit 1, nat_lit 1, nat_lit 2, nat_lit 0, .ofNat (nat_lit 0), nat_lit 0, nat_lit 0, nat_lit 0, []), (nat_lit 28, nat_lit 12, nat_lit 1, nat_lit 0, nat_lit 0, .ofNat (nat_lit 0), nat_lit 0, nat_lit 0, nat_lit 0, []), (nat_lit 29, nat_lit 0, nat_lit 1, nat_lit 0, nat_lit 0, .ofNat (nat_lit 0), nat_lit 0, nat_lit 0, nat_lit 0, []), (nat_lit 30, nat_lit 2, nat_lit 3, nat_lit 12, nat_lit 41, .ofNat (nat_lit 0), nat_lit 12, nat_lit 1365, nat_lit 83, [])], [(nat_lit 33, nat_lit 1, nat_lit 1, nat_lit 2, nat_lit 0, .ofNat (nat_lit 0), nat_lit 0, nat_lit 0, nat_lit 0, []), (nat_lit 34, nat_lit 9, nat_lit 1, nat_lit 0, nat_lit 0, .ofNat (nat_lit 0), nat_lit 0, nat_lit 0, nat_lit 0, []), (nat_lit 35, nat_lit 10, nat_lit 1, nat_lit 0, nat_lit 0, .ofNat (nat_lit 0), nat_lit 0, nat_lit 0, nat_lit 0, []), (nat_lit 36, nat_lit 7, nat_lit 3, nat_lit 2, nat_lit 0, .ofNat (nat_lit 1), nat_lit 0, nat_lit 0, nat_lit 0, []), (nat_lit 39, nat_lit 5, nat_lit 3, nat_lit 0, nat_lit 0, .negSucc (nat_lit 25), nat_lit 0, nat_lit 0, nat_lit 0, []), (nat_lit 42, nat_lit 0, nat_lit 1, nat_lit 0, nat_lit 0, .ofNat (nat_lit 0), nat_lit 0, nat_lit 0, nat_lit 0, []), (nat_lit 43, nat_lit 2, nat_lit 3, nat_lit 12, nat_lit 64, .ofNat (nat_lit 0), nat_lit 12, nat_lit 1388, nat_lit 134, []), (nat_lit 46, nat_lit 1, nat_lit 1, nat_lit 1, nat_lit 0, .ofNat (nat_lit 0), nat_lit 0, nat_lit 0, nat_lit 0, []), (nat_lit 47, nat_lit 3, nat_lit 1, nat_lit 0, nat_lit 0, .ofNat (nat_lit 1), nat_lit 0, nat_lit 0, nat_lit 0, [])], [(nat_lit 48, nat_lit 13, nat_lit 1, nat_lit 0, nat_lit 0, .ofNat (nat_lit 0), nat_lit 0, nat_lit 0, nat_lit 0, []), (nat_lit 49, nat_lit 0, nat_lit 1, nat_lit 0, nat_lit 0, .ofNat (nat_lit 0), nat_lit 0, nat_lit 0, nat_lit 0, []), (nat_lit 50, nat_lit 2, nat_lit 3, nat_lit 12, nat_lit 41, .ofNat (nat_lit 0), nat_lit 12, nat_lit 1365, nat_lit 83, []), (nat_lit 53, nat_lit 21, nat_lit 2, nat_lit 0, nat_lit 0, .ofNat (nat_lit 22), nat_lit 0, nat_lit 0, nat_lit 0, []), (nat_lit 55, nat_lit 9, nat_lit 1, nat_lit 0, nat_lit 0, .ofNat (nat_lit 0), nat_lit 0, nat_lit 0, nat_lit 0, []), (nat_lit 56, nat_lit 6, nat_lit 1, nat_lit 0, nat_lit 0, .ofNat (nat_lit 0), nat_lit 0, nat_lit 0, nat_lit 0, [])]]
def rx_c140 : List (List rx_E) := [[(nat_lit 0, nat_lit 1, nat_lit 1, nat_lit 1, nat_lit 0, .ofNat (nat_lit 0), nat_lit 0, nat_lit 0, nat_lit 0, []), (nat_lit 1, nat_lit 3, nat_lit 1, nat_lit 0, nat_lit 0, .ofNat (nat_lit 0), nat_lit 0, nat_lit 0, nat_lit 0, []), (nat_lit 2, nat_lit 0, nat_lit 1, nat_lit 0, nat_lit 0, .ofNat (nat_lit 0), nat_lit 0, nat_lit 0, nat_lit 0, []), (nat_lit 3, nat_lit 2, nat_lit 3, nat_lit 12, nat_lit 12, .ofNat (nat_lit 0), nat_lit 12, nat_lit 1336, nat_lit 24, []), (nat_lit 6, nat_lit 0, nat_lit 1, nat_lit 0, nat_lit 0, .ofNat (nat_lit 0), nat_lit 0, nat_lit 0, nat_lit 0, []), (nat_lit 7, nat_lit 2, nat_lit 3, nat_lit 12, nat_lit 31, .ofNat (nat_lit 0), nat_lit 0, nat_lit 1355, nat_lit 251, []), (nat_lit 10, nat_lit 9, nat_lit 1, nat_lit 0, nat_lit 0, .ofNat (nat_lit 0), nat_lit 0, nat_lit 0, nat_lit 0, []), (nat_lit 11, nat_lit 3, nat_lit 1, nat_lit 0, nat_lit 0, .ofNat (nat_lit 1), nat_lit 0, nat_lit 0, nat_lit 0, []), (nat_lit 12, nat_lit 23, nat_lit 1, nat_lit 0, nat_lit 0, .ofNat (nat_lit 0), nat_lit 0, nat_lit 0, nat_lit 0, []), (nat_lit 13, nat_lit 24, nat_lit 3, nat_lit 142, nat_lit 121, .ofNat (nat_lit 0), nat_lit 3, nat_lit 1665, nat_lit 341, [])], [(nat_lit 16, nat_lit 6, nat_lit 1, nat_lit 0, nat_lit 0, .ofNat (nat_lit 0), nat_lit 0, nat_lit 0, nat_lit 0, [])]]
def rx_c141 : List (List rx_E) := [[(nat_lit 0, nat_lit 0, nat_lit 1, nat_lit 0, nat_lit 0, .ofNat (nat_lit 0), nat_lit 0, nat_lit 0, nat_lit 0, []), (nat_lit 1, nat_lit 2, nat_lit 3, nat_lit 12, nat_lit 4, .ofNat (nat_lit 0), nat_lit 0, nat_lit 1328, nat_lit 146, []), (nat_lit 4, nat_lit 14, nat_lit 3, nat_lit 0, nat_lit 1, .ofNat (nat_lit 7), nat_lit 0, nat_lit 0, nat_lit 0, []), (nat_lit 7, nat_lit 3, nat_lit 1, nat_lit 0, nat_lit 0, .ofNat (nat_lit 1), nat_lit 0, nat_lit 0, nat_lit 0, []), (nat_lit 8, nat_lit 5, nat_lit 3, nat_lit 0, nat_lit 0, .ofNat (nat_lit 4), nat_lit 0, nat_lit 0, nat_lit 0, []), (nat_lit 12, nat_lit 6, nat_lit 1, nat_lit 0, nat_lit 0, .ofNat (nat_lit 0), nat_lit 0, nat_lit 0, nat_lit 0, [])]]
def rx_c142 : List (List rx_E) := [[(nat_lit 0, nat_lit 1, nat_lit 1, nat_lit 0, nat_lit 0, .ofNat (nat_lit 0), nat_lit 0, nat_lit 0, nat_lit 0, []), (nat_lit 1, nat_lit 1, nat_lit 1, nat_lit 1, nat_lit 0, .ofNat (nat_lit 0), nat_lit 0, nat_lit 0, nat_lit 0, []), (nat_lit 2, nat_lit 4, nat_lit 3, nat_lit 0, nat_lit 2, .ofNat (nat_lit 12), nat_lit 0, nat_lit 0, nat_lit 0, []), (nat_lit 5, nat_lit 1, nat_lit 1, nat_lit 0, nat_lit 0, .ofNat (nat_lit 0), nat_lit 0, nat_lit 0, nat_lit 0, []), (nat_lit 6, nat_lit 1, nat_lit 1, nat_lit 2, nat_lit 0, .ofNat (nat_lit 0), nat_lit 0, nat_lit 0, nat_lit 0, []), (nat_lit 7, nat_lit 4, nat_lit 3, nat_lit 0, nat_lit 4, .ofNat (nat_lit 7), nat_lit 0, nat_lit 0, nat_lit 0, []), (nat_lit 10, nat_lit 3, nat_lit 1, nat_lit 0, nat_lit 0, .ofNat (nat_lit 1), nat_lit 0, nat_lit 0, nat_lit 0, []), (nat_lit 11, nat_lit 5, nat_lit 3, nat_lit 0, nat_lit 0, .ofNat (nat_lit 4), nat_lit 0, nat_lit 0, nat_lit 0, []), (nat_lit 14, nat_lit 3, nat_lit 1, nat_lit 0, nat_lit 0, .ofNat (nat_lit 0), nat_lit 0, nat_lit 0, nat_lit 0, []), (nat_lit 15, nat_lit 6, nat_lit 1, nat_lit 0, nat_lit 0, .ofNat (nat_lit 0), nat_lit 0, nat_lit 0, nat_lit 0, [])]]
def rx_c143 : List (List rx_E) := [[(nat_lit 0, nat_lit 3, nat_lit 1, nat_lit 0, nat_lit 0, .ofNat (nat_lit 0), nat_lit 0, nat_lit 0, nat_lit 0, []), (nat_lit 1, nat_lit 11, nat_lit 1, nat_lit 3, nat_lit 0, .ofNat (nat_lit 0), nat_lit 0, nat_lit 0, nat_lit 0, []), (nat_lit 2, nat_lit 1, nat_lit 1, nat_lit 3, nat_lit 0, .ofNat (nat_lit 0), nat_lit 0, nat_lit 0, nat_lit 0, []), (nat_lit 3, nat_lit 0, nat_lit 1, nat_lit 0, nat_lit 0, .ofNat (nat_lit 0), nat_lit 0, nat_lit 0, nat_lit 0, []), (nat_lit 4, nat_lit 2, nat_lit 3, nat_lit 12, nat_lit 58, .ofNat (nat_lit 0), nat_lit 0, nat_lit 1382, nat_lit 377, []), (nat_lit 7, nat_lit 4, nat_lit 3, nat_lit 0, nat_lit 3, .ofNat (nat_lit 66), nat_lit 0, nat_lit 0, nat_lit 0, [])], [], [], [], [(nat_lit 73, nat_lit 3, nat_lit 1, nat_lit 0, nat_lit 0, .ofNat (nat_lit 1), nat_lit 0, nat_lit 0, nat_lit 0, []), (nat_lit 74, nat_lit 6, nat_lit 1, nat_lit 0, nat_lit 0, .ofNat (nat_lit 0), nat_lit 0, nat_lit 0, nat_lit 0, [])]]
def rx_c144 : List (List rx_E) := [[(nat_lit 0, nat_lit 1, nat_lit 1, nat_lit 1, nat_lit 0, .ofNat (nat_lit 0), nat_lit 0, nat_lit 0, nat_lit 0, []), (nat_lit 1, nat_lit 3, nat_lit 1, nat_lit 0, nat_lit 0, .ofNat (nat_lit 0), nat_lit 0, nat_lit 0, nat_lit 0, []), (nat_lit 2, nat_lit 0, nat_lit 1, nat_lit 0, nat_lit 0, .ofNat (nat_lit 0), nat_lit 0, nat_lit 0, nat_lit 0, []), (nat_lit 3, nat_lit 8, nat_lit 3, nat_lit 155, nat_lit 120, .ofNat (nat_lit 0), nat_lit 0, nat_lit 1320, nat_lit 345, []), (nat_lit 6, nat_lit 3, nat_lit 1, nat_lit 0, nat_lit 0, .ofNat (nat_lit 1), nat_lit 0, nat_lit 0, nat_lit 0, []), (nat_lit 7, nat_lit 23, nat_lit 1, nat_lit 0, nat_lit 0, .ofNat (nat_lit 0), nat_lit 0, nat_lit 0, nat_lit 0, []), (nat_lit 8, nat_lit 24, nat_lit 3, nat_lit 142, nat_lit 121, .ofNat (nat_lit 0), nat_lit 3, nat_lit 1665, nat_lit 341, []), (nat_lit 11, nat_lit 6, nat_lit 1, nat_lit 0, nat_lit 0, .ofNat (nat_lit 0), nat_lit 0, nat_lit 0, nat_lit 0, [])]]
def rx_c145 : List (List rx_E) := [[(nat_lit 0, nat_lit 0, nat_lit 1, nat_lit 0, nat_lit 0, .ofNat (nat_lit 0), nat_lit 0, nat_lit 0, nat_lit 0, []), (nat_lit 1, nat_lit 2, nat_lit 3, nat_lit 12, nat_lit 44, .ofNat (nat_lit 0), nat_lit 0, nat_lit 1368, nat_lit 371, []), (nat_lit 4, nat_lit 21, nat_lit 2, nat_lit 0, nat_lit 0, .ofNat (nat_lit 40), nat_lit 0, nat_lit 0, nat_lit 0, []), (nat_lit 6, nat_lit 4, nat_lit 3, nat_lit 0, nat_lit 1, .ofNat (nat_lit 43), nat_lit 0, nat_lit 0, nat_lit 0, [])], [], [], [(nat_lit 49, nat_lit 3, nat_lit 1, nat_lit 0, nat_lit 0, .ofNat (nat_lit 0), nat_lit 0, nat_lit 0, nat_lit 0, []), (nat_lit 50, nat_lit 11, nat_lit 1, nat_lit 1, nat_lit 0, .ofNat (nat_lit 0), nat_lit 0, nat_lit 0, nat_lit 0, []), (nat_lit 51, nat_lit 1, nat_lit 1, nat_lit 1, nat_lit 0, .ofNat (nat_lit 0), nat_lit 0, nat_lit 0, nat_lit 0, []), (nat_lit 52, nat_lit 21, nat_lit 2, nat_lit 0, nat_lit 0, .ofNat (nat_lit 24), nat_lit 0, nat_lit 0, nat_lit 0, []), (nat_lit 54, nat_lit 4, nat_lit 3, nat_lit 0, nat_lit 3, .ofNat (nat_lit 29), nat_lit 0, nat_lit 0, nat_lit 0, []), (nat_lit 57, nat_lit 0, nat_lit 1, nat_lit 0, nat_lit 0, .ofNat (nat_lit 0), nat_lit 0, nat_lit 0, nat_lit 0, []), (nat_lit 58, nat_lit 2, nat_lit 3, nat_lit 12, nat_lit 43, .ofNat (nat_lit 0), nat_lit 12, nat_lit 1367, nat_lit 89, []), (nat_lit 61, nat_lit 21, nat_lit 2, nat_lit 0, nat_lit 0, .ofNat (nat_lit 24), nat_lit 0, nat_lit 0, nat_lit 0, []), (nat_lit 63, nat_lit 0, nat_lit 1, nat_lit 0, nat_lit 0, .ofNat (nat_lit 0), nat_lit 0, nat_lit 0, nat_lit 0, [])], [(nat_lit 64, nat_lit 2, nat_lit 3, nat_lit 12, nat_lit 44, .ofNat (nat_lit 0), nat_lit 0, nat_lit 1368, nat_lit 371, []), (nat_lit 67, nat_lit 28, nat_lit 1, nat_lit 0, nat_lit 0, .ofNat (nat_lit 0), nat_lit 0, nat_lit 0, nat_lit 0, []), (nat_lit 68, nat_lit 1, nat_lit 1, nat_lit 1, nat_lit 0, .ofNat (nat_lit 0), nat_lit 0, nat_lit 0, nat_lit 0, []), (nat_lit 69, nat_lit 12, nat_lit 1, nat_lit 0, nat_lit 0, .ofNat (nat_lit 0), nat_lit 0, nat_lit 0, nat_lit 0, []), (nat_lit 70, nat_lit 0, nat_lit 1, nat_lit 0, nat_lit 0, .ofNat (nat_lit 0), nat_lit 0, nat_lit 0, nat_lit 0, []), (nat_lit 71, nat_lit 2, nat_lit 3, nat_lit 12, nat_lit 41, .ofNat (nat_lit 0), nat_lit 12, nat_lit 1365, nat_lit 83, []), (nat_lit 74, nat_lit 1, nat_lit 1, nat_lit 1, nat_lit 0, .ofNat (nat_lit 0), nat_lit 0, nat_lit 0, nat_lit 0, []), (nat_lit 75, nat_lit 9, nat_lit 1, nat_lit 0, nat_lit 0, .ofNat (nat_lit 0), nat_lit 0, nat_lit 0, nat_lit 0, []), (nat_lit 76, nat_lit 10, nat_lit 1, nat_lit 0, nat_lit 0, .ofNat (nat_lit 0), nat_lit 0, nat_lit 0, nat_lit 0, []), (nat_lit 77, nat_lit 7, nat_lit 3, nat_lit 1, nat_lit 0, .ofNat (nat_lit 1), nat_lit 0, nat_lit 0, nat_lit 0, [])], [(nat_lit 80, nat_lit 5, nat_lit 3, nat_lit 0, nat_lit 0, .negSucc (nat_lit 28), nat_lit 0, nat_lit 0, nat_lit 0, []), (nat_lit 83, nat_lit 0, nat_lit 1, nat_lit 0, nat_lit 0, .ofNat (nat_lit 0), nat_lit 0, nat_lit 0, nat_lit 0, []), (nat_lit 84, nat_lit 16, nat_lit 1, nat_lit 0, nat_lit 0, .ofNat (nat_lit 0), nat_lit 0, nat_lit 0, nat_lit 0, []), (nat_lit 85, nat_lit 2, nat_lit 3, nat_lit 12, nat_lit 44, .ofNat (nat_lit 0), nat_lit 0, nat_lit 1368, nat_lit 371, []), (nat_lit 88, nat_lit 3, nat_lit 1, nat_lit 0, nat_lit 0, .ofNat (nat_lit 1), nat_lit 0, nat_lit 0, nat_lit 0, []), (nat_lit 89, nat_lit 12, nat_lit 1, nat_lit 0, nat_lit 0, .ofNat (nat_lit 0), nat_lit 0, nat_lit 0, nat_lit 0, []), (nat_lit 90, nat_lit 15, nat_lit 3, nat_lit 12, nat_lit 44, .ofNat (nat_lit 0), nat_lit 0, nat_lit 1368, nat_lit 371, []), (nat_lit 93, nat_lit 0, nat_lit 1, nat_lit 0, nat_lit 0, .ofNat (nat_lit 0), nat_lit 0, nat_lit 0, nat_lit 0, []), (nat_lit 94, nat_lit 3, nat_lit 1, nat_lit 0, nat_lit 0, .ofNat (nat_lit 0), nat_lit 0, nat_lit 0, nat_lit 0, []), (nat_lit 95, nat_lit 15, nat_lit 3, nat_lit 12, nat_lit 45, .ofNat (nat_lit 0), nat_lit 0, nat_lit 1369, nat_lit 374, [])], [(nat_lit 98, nat_lit 26, nat_lit 1, nat_lit 0, nat_lit 0, .ofNat (nat_lit 0), nat_lit 0, nat_lit 0, nat_lit 0, [])]]
def rx_c146 : List (List rx_E) := [[(nat_lit 0, nat_lit 1, nat_lit 1, nat_lit 1, nat_lit 0, .ofNat (nat_lit 0), nat_lit 0, nat_lit 0, nat_lit 0, []), (nat_lit 1, nat_lit 3, nat_lit 1, nat_lit 0, nat_lit 0, .ofNat (nat_lit 0), nat_lit 0, nat_lit 0, nat_lit 0, []), (nat_lit 2, nat_lit 20, nat_lit 3, nat_lit 0, nat_lit 0, .ofNat (nat_lit 1000), nat_lit 0, nat_lit 0, nat_lit 0, []), (nat_lit 5, nat_lit 24, nat_lit 3, nat_lit 142, nat_lit 121, .ofNat (nat_lit 0), nat_lit 3, nat_lit 1665, nat_lit 341, []), (nat_lit 8, nat_lit 14, nat_lit 3, nat_lit 0, nat_lit 0, .ofNat (nat_lit 15), nat_lit 0, nat_lit 0, nat_lit 0, []), (nat_lit 11, nat_lit 0, nat_lit 1, nat_lit 0, nat_lit 0, .ofNat (nat_lit 0), nat_lit 0, nat_lit 0, nat_lit 0, []), (nat_lit 12, nat_lit 2, nat_lit 3, nat_lit 12, nat_lit 59, .ofNat (nat_lit 0), nat_lit 0, nat_lit 1383, nat_lit 458, []), (nat_lit 15, nat_lit 1, nat_lit 1, nat_lit 1, nat_lit 0, .ofNat (nat_lit 0), nat_lit 0, nat_lit 0, nat_lit 0, [])], [(nat_lit 16, nat_lit 12, nat_lit 1, nat_lit 0, nat_lit 0, .ofNat (nat_lit 0), nat_lit 0, nat_lit 0, nat_lit 0, []), (nat_lit 17, nat_lit 30, nat_lit 3, nat_lit 0, nat_lit 0, .ofNat (nat_lit 100000), nat_lit 0, nat_lit 1940, nat_lit 461, []), (nat_lit 20, nat_lit 4, nat_lit 3, nat_lit 0, nat_lit 5, .ofNat (nat_lit 5), nat_lit 0, nat_lit 0, nat_lit 0, []), (nat_lit 23, nat_lit 3, nat_lit 1, nat_lit 0, nat_lit 0, .negSucc (nat_lit 0), nat_lit 0, nat_lit 0, nat_lit 0, []), (nat_lit 24, nat_lit 6, nat_lit 1, nat_lit 0, nat_lit 0, .ofNat (nat_lit 0), nat_lit 0, nat_lit 0, nat_lit 0, []), (nat_lit 25, nat_lit 0, nat_lit 1, nat_lit 0, nat_lit 0, .ofNat (nat_lit 0), nat_lit 0, nat_lit 0, nat_lit 0, []), (nat_lit 26, nat_lit 16, nat_lit 1, nat_lit 0, nat_lit 0, .ofNat (nat_lit 0), nat_lit 0, nat_lit 0, nat_lit 0, []), (nat_lit 27, nat_lit 2, nat_lit 3, nat_lit 12, nat_lit 59, .ofNat (nat_lit 0), nat_lit 0, nat_lit 1383, nat_lit 458, []), (nat_lit 30, nat_lit 1, nat_lit 1, nat_lit 1, nat_lit 0, .ofNat (nat_lit 0), nat_lit 0, nat_lit 0, nat_lit 0, []), (nat_lit 31, nat_lit 12, nat_lit 1, nat_lit 0, nat_lit 0, .ofNat (nat_lit 0), nat_lit 0, nat_lit 0, nat_lit 0, [])], [(nat_lit 32, nat_lit 15, nat_lit 3, nat_lit 12, nat_lit 59, .ofNat (nat_lit 0), nat_lit 0, nat_lit 1383, nat_lit 458, []), (nat_lit 35, nat_lit 0, nat_lit 1, nat_lit 0, nat_lit 0, .ofNat (nat_lit 0), nat_lit 0, nat_lit 0, nat_lit 0, []), (nat_lit 36, nat_lit 2, nat_lit 3, nat_lit 12, nat_lit 59, .ofNat (nat_lit 0), nat_lit 0, nat_lit 1383, nat_lit 458, []), (nat_lit 39, nat_lit 6, nat_lit 1, nat_lit 0, nat_lit 0, .ofNat (nat_lit 0), nat_lit 0, nat_lit 0, nat_lit 0, [])]]
def rx_c147 : List (List rx_E) := [[(nat_lit 0, nat_lit 3, nat_lit 1, nat_lit 0, nat_lit 0, .ofNat (nat_lit 0), nat_lit 0, nat_lit 0, nat_lit 0, []), (nat_lit 1, nat_lit 11, nat_lit 1, nat_lit 1, nat_lit 0, .ofNat (nat_lit 0), nat_lit 0, nat_lit 0, nat_lit 0, []), (nat_lit 2, nat_lit 1, nat_lit 1, nat_lit 1, nat_lit 0, .ofNat (nat_lit 0), nat_lit 0, nat_lit 0, nat_lit 0, []), (nat_lit 3, nat_lit 0, nat_lit 1, nat_lit 0, nat_lit 0, .ofNat (nat_lit 0), nat_lit 0, nat_lit 0, nat_lit 0, []), (nat_lit 4, nat_lit 8, nat_lit 3, nat_lit 155, nat_lit 120, .ofNat (nat_lit 0), nat_lit 0, nat_lit 1320, nat_lit 345, []), (nat_lit 7, nat_lit 4, nat_lit 3, nat_lit 0, nat_lit 3, .ofNat (nat_lit 43), nat_lit 0, nat_lit 0, nat_lit 0, [])], [], [], [(nat_lit 50, nat_lit 26, nat_lit 1, nat_lit 0, nat_lit 0, .ofNat (nat_lit 0), nat_lit 0, nat_lit 0, nat_lit 0, [])]]
def rx_c148 : List (List rx_E) := [[(nat_lit 0, nat_lit 0, nat_lit 1, nat_lit 0, nat_lit 0, .ofNat (nat_lit 0), nat_lit 0, nat_lit 0, nat_lit 0, []), (nat_lit 1, nat_lit 8, nat_lit 3, nat_lit 147, nat_lit 120, .ofNat (nat_lit 0), nat_lit 0, nat_lit 1800, nat_lit 411, []), (nat_lit 4, nat_lit 0, nat_lit 1, nat_lit 0, nat_lit 0, .ofNat (nat_lit 0), nat_lit 0, nat_lit 0, nat_lit 0, []), (nat_lit 5, nat_lit 3, nat_lit 1, nat_lit 0, nat_lit 0, .ofNat (nat_lit 0), nat_lit 0, nat_lit 0, nat_lit 0, []), (nat_lit 6, nat_lit 15, nat_lit 3, nat_lit 12, nat_lit 60, .ofNat (nat_lit 0), nat_lit 0, nat_lit 1384, nat_lit 462, []), (nat_lit 9, nat_lit 3, nat_lit 1, nat_lit 0, nat_lit 0, .ofNat (nat_lit 0), nat_lit 0, nat_lit 0, nat_lit 0, []), (nat_lit 10, nat_lit 11, nat_lit 1, nat_lit 2, nat_lit 0, .ofNat (nat_lit 0), nat_lit 0, nat_lit 0, nat_lit 0, []), (nat_lit 11, nat_lit 1, nat_lit 1, nat_lit 2, nat_lit 0, .ofNat (nat_lit 0), nat_lit 0, nat_lit 0, nat_lit 0, []), (nat_lit 12, nat_lit 0, nat_lit 1, nat_lit 0, nat_lit 0, .ofNat (nat_lit 0), nat_lit 0, nat_lit 0, nat_lit 0, []), (nat_lit 13, nat_lit 8, nat_lit 3, nat_lit 127, nat_lit 120, .ofNat (nat_lit 0), nat_lit 0, nat_lit 1684, nat_lit 348, [])], [(nat_lit 16, nat_lit 4, nat_lit 3, nat_lit 0, nat_lit 3, .ofNat (nat_lit 41), nat_lit 0, nat_lit 0, nat_lit 0, []), (nat_lit 19, nat_lit 0, nat_lit 1, nat_lit 0, nat_lit 0, .ofNat (nat_lit 0), nat_lit 0, nat_lit 0, nat_lit 0, []), (nat_lit 20, nat_lit 1, nat_lit 1, nat_lit 2, nat_lit 0, .ofNat (nat_lit 0), nat_lit 0, nat_lit 0, nat_lit 0, []), (nat_lit 21, nat_lit 1, nat_lit 1, nat_lit 1, nat_lit 0, .ofNat (nat_lit 0), nat_lit 0, nat_lit 0, nat_lit 0, []), (nat_lit 22, nat_lit 8, nat_lit 3, nat_lit 143, nat_lit 120, .ofNat (nat_lit 0), nat_lit 2, nat_lit 1949, nat_lit 465, []), (nat_lit 25, nat_lit 14, nat_lit 3, nat_lit 0, nat_lit 1, .ofNat (nat_lit 6), nat_lit 0, nat_lit 0, nat_lit 0, []), (nat_lit 31, nat_lit 0, nat_lit 1, nat_lit 0, nat_lit 0, .ofNat (nat_lit 0), nat_lit 0, nat_lit 0, nat_lit 0, [])], [(nat_lit 32, nat_lit 2, nat_lit 3, nat_lit 12, nat_lit 56, .ofNat (nat_lit 0), nat_lit 12, nat_lit 1380, nat_lit 119, []), (nat_lit 35, nat_lit 0, nat_lit 1, nat_lit 0, nat_lit 0, .ofNat (nat_lit 0), nat_lit 0, nat_lit 0, nat_lit 0, []), (nat_lit 36, nat_lit 2, nat_lit 3, nat_lit 12, nat_lit 60, .ofNat (nat_lit 0), nat_lit 0, nat_lit 1384, nat_lit 462, []), (nat_lit 39, nat_lit 1, nat_lit 1, nat_lit 2, nat_lit 0, .ofNat (nat_lit 0), nat_lit 0, nat_lit 0, nat_lit 0, []), (nat_lit 40, nat_lit 10, nat_lit 1, nat_lit 0, nat_lit 0, .ofNat (nat_lit 0), nat_lit 0, nat_lit 0, nat_lit 0, []), (nat_lit 41, nat_lit 0, nat_lit 1, nat_lit 0, nat_lit 0, .ofNat (nat_lit 0), nat_lit 0, nat_lit 0, nat_lit 0, []), (nat_lit 42, nat_lit 16, nat_lit 1, nat_lit 0, nat_lit 0, .ofNat (nat_lit 0), nat_lit 0, nat_lit 0, nat_lit 0, []), (nat_lit 43, nat_lit 2, nat_lit 3, nat_lit 12, nat_lit 60, .ofNat (nat_lit 0), nat_lit 0, nat_lit 1384, nat_lit 462, []), (nat_lit 46, nat_lit 3, nat_lit 1, nat_lit 0, nat_lit 0, .ofNat (nat_lit 1), nat_lit 0, nat_lit 0, nat_lit 0, []), (nat_lit 47, nat_lit 12, nat_lit 1, nat_lit 0, nat_lit 0, .ofNat (nat_lit 0), nat_lit 0, nat_lit 0, nat_lit 0, [])], [(nat_lit 48, nat_lit 15, nat_lit 3, nat_lit 12, nat_lit 60, .ofNat (nat_lit 0), nat_lit 0, nat_lit 1384, nat_lit 462, []), (nat_lit 51, nat_lit 7, nat_lit 3, nat_lit 2, nat_lit 0, .ofNat (nat_lit 1), nat_lit 0, nat_lit 0, nat_lit 0, []), (nat_lit 54, nat_lit 5, nat_lit 3, nat_lit 0, nat_lit 0, .negSucc (nat_lit 42), nat_lit 0, nat_lit 0, nat_lit 0, []), (nat_lit 57, nat_lit 26, nat_lit 1, nat_lit 0, nat_lit 0, .ofNat (nat_lit 0), nat_lit 0, nat_lit 0, nat_lit 0, [])]]
def rx_c149 : List (List rx_E) := [[(nat_lit 0, nat_lit 0, nat_lit 1, nat_lit 0, nat_lit 0, .ofNat (nat_lit 0), nat_lit 0, nat_lit 0, nat_lit 0, []), (nat_lit 1, nat_lit 1, nat_lit 1, nat_lit 1, nat_lit 0, .ofNat (nat_lit 0), nat_lit 0, nat_lit 0, nat_lit 0, []), (nat_lit 2, nat_lit 8, nat_lit 3, nat_lit 144, nat_lit 120, .ofNat (nat_lit 0), nat_lit 1, nat_lit 1672, nat_lit 386, []), (nat_lit 5, nat_lit 14, nat_lit 3, nat_lit 0, nat_lit 0, .ofNat (nat_lit 44), nat_lit 0, nat_lit 0, nat_lit 0, [])], [], [], [(nat_lit 49, nat_lit 3, nat_lit 1, nat_lit 0, nat_lit 0, .negSucc (nat_lit 0), nat_lit 0, nat_lit 0, nat_lit 0, []), (nat_lit 50, nat_lit 6, nat_lit 1, nat_lit 0, nat_lit 0, .ofNat (nat_lit 0), nat_lit 0, nat_lit 0, nat_lit 0, [])]]
def rx_c150 : List (List rx_E) := [[(nat_lit 0, nat_lit 0, nat_lit 1, nat_lit 0, nat_lit 0, .ofNat (nat_lit 0), nat_lit 0, nat_lit 0, nat_lit 0, []), (nat_lit 1, nat_lit 1, nat_lit 1, nat_lit 1, nat_lit 0, .ofNat (nat_lit 0), nat_lit 0, nat_lit 0, nat_lit 0, []), (nat_lit 2, nat_lit 8, nat_lit 3, nat_lit 144, nat_lit 120, .ofNat (nat_lit 0), nat_lit 1, nat_lit 1672, nat_lit 386, []), (nat_lit 5, nat_lit 14, nat_lit 3, nat_lit 0, nat_lit 0, .ofNat (nat_lit 17), nat_lit 0, nat_lit 0, nat_lit 0, [])], [(nat_lit 22, nat_lit 3, nat_lit 1, nat_lit 0, nat_lit 0, .negSucc (nat_lit 0), nat_lit 0, nat_lit 0, nat_lit 0, []), (nat_lit 23, nat_lit 6, nat_lit 1, nat_lit 0, nat_lit 0, .ofNat (nat_lit 0), nat_lit 0, nat_lit 0, nat_lit 0, [])]]
def rx_c151 : List (List rx_E) := [[(nat_lit 0, nat_lit 1, nat_lit 1, nat_lit 1, nat_lit 0, .ofNat (nat_lit 0), nat_lit 0, nat_lit 0, nat_lit 0, []), (nat_lit 1, nat_lit 3, nat_lit 1, nat_lit 0, nat_lit 0, .ofNat (nat_lit 0), nat_lit 0, nat_lit 0, nat_lit 0, []), (nat_lit 2, nat_lit 0, nat_lit 1, nat_lit 0, nat_lit 0, .ofNat (nat_lit 0), nat_lit 0, nat_lit 0, nat_lit 0, []), (nat_lit 3, nat_lit 2, nat_lit 3, nat_lit 12, nat_lit 49, .ofNat (nat_lit 0), nat_lit 0, nat_lit 1373, nat_lit 380, []), (nat_lit 6, nat_lit 3, nat_lit 1, nat_lit 0, nat_lit 0, .ofNat (nat_lit 1), nat_lit 0, nat_lit 0, nat_lit 0, []), (nat_lit 7, nat_lit 23, nat_lit 1, nat_lit 0, nat_lit 0, .ofNat (nat_lit 0), nat_lit 0, nat_lit 0, nat_lit 0, []), (nat_lit 8, nat_lit 24, nat_lit 3, nat_lit 142, nat_lit 121, .ofNat (nat_lit 0), nat_lit 3, nat_lit 1665, nat_lit 341, []), (nat_lit 11, nat_lit 14, nat_lit 3, nat_lit 0, nat_lit 0, .ofNat (nat_lit 12), nat_lit 0, nat_lit 0, nat_lit 0, [])], [(nat_lit 23, nat_lit 3, nat_lit 1, nat_lit 0, nat_lit 0, .negSucc (nat_lit 0), nat_lit 0, nat_lit 0, nat_lit 0, []), (nat_lit 24, nat_lit 6, nat_lit 1, nat_lit 0, nat_lit 0, .ofNat (nat_lit 0), nat_lit 0, nat_lit 0, nat_lit 0, [])]]
def rx_c152 : List (List rx_E) := [[(nat_lit 0, nat_lit 1, nat_lit 1, nat_lit 1, nat_lit 0, .ofNat (nat_lit 0), nat_lit 0, nat_lit 0, nat_lit 0, []), (nat_lit 1, nat_lit 3, nat_lit 1, nat_lit 0, nat_lit 0, .ofNat (nat_lit 0), nat_lit 0, nat_lit 0, nat_lit 0, []), (nat_lit 2, nat_lit 3, nat_lit 1, nat_lit 0, nat_lit 0, .ofNat (nat_lit 1), nat_lit 0, nat_lit 0, nat_lit 0, []), (nat_lit 3, nat_lit 24, nat_lit 3, nat_lit 142, nat_lit 121, .ofNat (nat_lit 0), nat_lit 3, nat_lit 1665, nat_lit 341, []), (nat_lit 6, nat_lit 14, nat_lit 3, nat_lit 0, nat_lit 1, .ofNat (nat_lit 5), nat_lit 0, nat_lit 0, nat_lit 0, []), (nat_lit 9, nat_lit 3, nat_lit 1, nat_lit 0, nat_lit 0, .negSucc (nat_lit 0), nat_lit 0, nat_lit 0, nat_lit 0, []), (nat_lit 10, nat_lit 6, nat_lit 1, nat_lit 0, nat_lit 0, .ofNat (nat_lit 0), nat_lit 0, nat_lit 0, nat_lit 0, []), (nat_lit 11, nat_lit 0, nat_lit 1, nat_lit 0, nat_lit 0, .ofNat (nat_lit 0), nat_lit 0, nat_lit 0, nat_lit 0, []), (nat_lit 12, nat_lit 1, nat_lit 1, nat_lit 2, nat_lit 0, .ofNat (nat_lit 0), nat_lit 0, nat_lit 0, nat_lit 0, []), (nat_lit 13, nat_lit 8, nat_lit 3, nat_lit 148, nat_lit 120, .ofNat (nat_lit 0), nat_lit 1, nat_lit 1945, nat_lit 468, [])], [(nat_lit 16, nat_lit 1, nat_lit 1, nat_lit 1, nat_lit 0, .ofNat (nat_lit 0), nat_lit 0, nat_lit 0, nat_lit 0, []), (nat_lit 17, nat_lit 14, nat_lit 3, nat_lit 0, nat_lit 1, .ofNat (nat_lit 10), nat_lit 0, nat_lit 0, nat_lit 0, []), (nat_lit 20, nat_lit 0, nat_lit 1, nat_lit 0, nat_lit 0, .ofNat (nat_lit 0), nat_lit 0, nat_lit 0, nat_lit 0, []), (nat_lit 21, nat_lit 2, nat_lit 3, nat_lit 12, nat_lit 60, .ofNat (nat_lit 0), nat_lit 0, nat_lit 1384, nat_lit 462, []), (nat_lit 24, nat_lit 5, nat_lit 3, nat_lit 0, nat_lit 0, .ofNat (nat_lit 20), nat_lit 0, nat_lit 0, nat_lit 0, []), (nat_lit 27, nat_lit 0, nat_lit 1, nat_lit 0, nat_lit 0, .ofNat (nat_lit 0), nat_lit 0, nat_lit 0, nat_lit 0, []), (nat_lit 28, nat_lit 2, nat_lit 3, nat_lit 12, nat_lit 60, .ofNat (nat_lit 0), nat_lit 0, nat_lit 1384, nat_lit 462, []), (nat_lit 31, nat_lit 14, nat_lit 3, nat_lit 0, nat_lit 1, .ofNat (nat_lit 7), nat_lit 0, nat_lit 0, nat_lit 0, [])], [(nat_lit 38, nat_lit 0, nat_lit 1, nat_lit 0, nat_lit 0, .ofNat (nat_lit 0), nat_lit 0, nat_lit 0, nat_lit 0, []), (nat_lit 39, nat_lit 2, nat_lit 3, nat_lit 12, nat_lit 56, .ofNat (nat_lit 0), nat_lit 12, nat_lit 1380, nat_lit 119, []), (nat_lit 42, nat_lit 3, nat_lit 1, nat_lit 0, nat_lit 0, .ofNat (nat_lit 0), nat_lit 0, nat_lit 0, nat_lit 0, []), (nat_lit 43, nat_lit 9, nat_lit 1, nat_lit 0, nat_lit 0, .ofNat (nat_lit 0), nat_lit 0, nat_lit 0, nat_lit 0, []), (nat_lit 44, nat_lit 6, nat_lit 1, nat_lit 0, nat_lit 0, .ofNat (nat_lit 0), nat_lit 0, nat_lit 0, nat_lit 0, [])]]
def rx_c153 : List (List rx_E) := [[(nat_lit 0, nat_lit 0, nat_lit 1, nat_lit 0, nat_lit 0, .ofNat (nat_lit 0), nat_lit 0, nat_lit 0, nat_lit 0, []), (nat_lit 1, nat_lit 1, nat_lit 1, nat_lit 1, nat_lit 0, .ofNat (nat_lit 0), nat_lit 0, nat_lit 0, nat_lit 0, []), (nat_lit 2, nat_lit 8, nat_lit 3, nat_lit 144, nat_lit 120, .ofNat (nat_lit 0), nat_lit 1, nat_lit 1672, nat_lit 386, []), (nat_lit 5, nat_lit 14, nat_lit 3, nat_lit 0, nat_lit 0, .ofNat (nat_lit 12), nat_lit 0, nat_lit 0, nat_lit 0, [])], [(nat_lit 17, nat_lit 3, nat_lit 1, nat_lit 0, nat_lit 0, .negSucc (nat_lit 0), nat_lit 0, nat_lit 0, nat_lit 0, []), (nat_lit 18, nat_lit 6, nat_lit 1, nat_lit 0, nat_lit 0, .ofNat (nat_lit 0), nat_lit 0, nat_lit 0, nat_lit 0, [])]]
def rx_c154 : List (List rx_E) := [[(nat_lit 0, nat_lit 0, nat_lit 1, nat_lit 0, nat_lit 0, .ofNat (nat_lit 0), nat_lit 0, nat_lit 0, nat_lit 0, []), (nat_lit 1, nat_lit 1, nat_lit 1, nat_lit 1, nat_lit 0, .ofNat (nat_lit 0), nat_lit 0, nat_lit 0, nat_lit 0, []), (nat_lit 2, nat_lit 8, nat_lit 3, nat_lit 144, nat_lit 120, .ofNat (nat_lit 0), nat_lit 1, nat_lit 1672, nat_lit 386, []), (nat_lit 5, nat_lit 14, nat_lit 3, nat_lit 0, nat_lit 0, .ofNat (nat_lit 41), nat_lit 0, nat_lit 0, nat_lit 0, [])], [], [(nat_lit 46, nat_lit 3, nat_lit 1, nat_lit 0, nat_lit 0, .negSucc (nat_lit 0), nat_lit 0, nat_lit 0, nat_lit 0, []), (nat_lit 47, nat_lit 6, nat_lit 1, nat_lit 0, nat_lit 0, .ofNat (nat_lit 0), nat_lit 0, nat_lit 0, nat_lit 0, [])]]
def rx_c155 : List (List rx_E) := [[(nat_lit 0, nat_lit 0, nat_lit 1, nat_lit 0, nat_lit 0, .ofNat (nat_lit 0), nat_lit 0, nat_lit 0, nat_lit 0, []), (nat_lit 1, nat_lit 2, nat_lit 3, nat_lit 12, nat_lit 13, .ofNat (nat_lit 0), nat_lit 12, nat_lit 1337, nat_lit 27, []), (nat_lit 4, nat_lit 0, nat_lit 1, nat_lit 0, nat_lit 0, .ofNat (nat_lit 0), nat_lit 0, nat_lit 0, nat_lit 0, []), (nat_lit 5, nat_lit 2, nat_lit 3, nat_lit 12, nat_lit 31, .ofNat (nat_lit 0), nat_lit 0, nat_lit 1355, nat_lit 251, []), (nat_lit 8, nat_lit 9, nat_lit 1, nat_lit 0, nat_lit 0, .ofNat (nat_lit 0), nat_lit 0, nat_lit 0, nat_lit 0, []), (nat_lit 9, nat_lit 6, nat_lit 1, nat_lit 0, nat_lit 0, .ofNat (nat_lit 0), nat_lit 0, nat_lit 0, nat_lit 0, [])]]
def rx_c156 : List (List rx_E) := [[(nat_lit 0, nat_lit 0, nat_lit 1, nat_lit 0, nat_lit 0, .ofNat (nat_lit 0), nat_lit 0, nat_lit 0, nat_lit 0, []), (nat_lit 1, nat_lit 1, nat_lit 1, nat_lit 1, nat_lit 0, .ofNat (nat_lit 0), nat_lit 0, nat_lit 0, nat_lit 0, []), (nat_lit 2, nat_lit 8, nat_lit 3, nat_lit 140, nat_lit 120, .ofNat (nat_lit 0), nat_lit 1, nat_lit 1661, nat_lit 383, []), (nat_lit 5, nat_lit 14, nat_lit 3, nat_lit 0, nat_lit 0, .ofNat (nat_lit 17), nat_lit 0, nat_lit 0, nat_lit 0, [])], [(nat_lit 22, nat_lit 3, nat_lit 1, nat_lit 0, nat_lit 0, .negSucc (nat_lit 0), nat_lit 0, nat_lit 0, nat_lit 0, []), (nat_lit 23, nat_lit 6, nat_lit 1, nat_lit 0, nat_lit 0, .ofNat (nat_lit 0), nat_lit 0, nat_lit 0, nat_lit 0, [])]]
def rx_c157 : List (List rx_E) := [[(nat_lit 0, nat_lit 0, nat_lit 1, nat_lit 0, nat_lit 0, .ofNat (nat_lit 0), nat_lit 0, nat_lit 0, nat_lit 0, []), (nat_lit 1, nat_lit 1, nat_lit 1, nat_lit 3, nat_lit 0, .ofNat (nat_lit 0), nat_lit 0, nat_lit 0, nat_lit 0, []), (nat_lit 2, nat_lit 8, nat_lit 3, nat_lit 148, nat_lit 120, .ofNat (nat_lit 0), nat_lit 1, nat_lit 1945, nat_lit 468, []), (nat_lit 5, nat_lit 0, nat_lit 1, nat_lit 0, nat_lit 0, .ofNat (nat_lit 0), nat_lit 0, nat_lit 0, nat_lit 0, []), (nat_lit 6, nat_lit 2, nat_lit 3, nat_lit 12, nat_lit 60, .ofNat (nat_lit 0), nat_lit 0, nat_lit 1384, nat_lit 462, []), (nat_lit 9, nat_lit 14, nat_lit 3, nat_lit 0, nat_lit 0, .ofNat (nat_lit 20), nat_lit 0, nat_lit 0, nat_lit 0, []), (nat_lit 12, nat_lit 0, nat_lit 1, nat_lit 0, nat_lit 0, .ofNat (nat_lit 0), nat_lit 0, nat_lit 0, nat_lit 0, []), (nat_lit 13, nat_lit 1, nat_lit 1, nat_lit 1, nat_lit 0, .ofNat (nat_lit 0), nat_lit 0, nat_lit 0, nat_lit 0, []), (nat_lit 14, nat_lit 8, nat_lit 3, nat_lit 144, nat_lit 120, .ofNat (nat_lit 0), nat_lit 1, nat_lit 1672, nat_lit 386, [])], [(nat_lit 17, nat_lit 14, nat_lit 3, nat_lit 0, nat_lit 0, .ofNat (nat_lit 12), nat_lit 0, nat_lit 0, nat_lit 0, []), (nat_lit 29, nat_lit 3, nat_lit 1, nat_lit 0, nat_lit 0, .negSucc (nat_lit 0), nat_lit 0, nat_lit 0, nat_lit 0, []), (nat_lit 30, nat_lit 6, nat_lit 1, nat_lit 0, nat_lit 0, .ofNat (nat_lit 0), nat_lit 0, nat_lit 0, nat_lit 0, [])]]
def rx_c158 : List (List rx_E) := [[(nat_lit 0, nat_lit 0, nat_lit 1, nat_lit 0, nat_lit 0, .ofNat (nat_lit 0), nat_lit 0, nat_lit 0, nat_lit 0, []), (nat_lit 1, nat_lit 3, nat_lit 1, nat_lit 0, nat_lit 0, .ofNat (nat_lit 0), nat_lit 0, nat_lit 0, nat_lit 0, []), (nat_lit 2, nat_lit 15, nat_lit 3, nat_lit 12, nat_lit 49, .ofNat (nat_lit 0), nat_lit 0, nat_lit 1373, nat_lit 380, []), (nat_lit 5, nat_lit 0, nat_lit 1, nat_lit 0, nat_lit 0, .ofNat (nat_lit 0), nat_lit 0, nat_lit 0, nat_lit 0, []), (nat_lit 6, nat_lit 1, nat_lit 1, nat_lit 1, nat_lit 0, .ofNat (nat_lit 0), nat_lit 0, nat_lit 0, nat_lit 0, []), (nat_lit 7, nat_lit 8, nat_lit 3, nat_lit 144, nat_lit 120, .ofNat (nat_lit 0), nat_lit 1, nat_lit 1672, nat_lit 386, []), (nat_lit 10, nat_lit 14, nat_lit 3, nat_lit 0, nat_lit 0, .ofNat (nat_lit 11), nat_lit 0, nat_lit 0, nat_lit 0, [])], [(nat_lit 21, nat_lit 3, nat_lit 1, nat_lit 0, nat_lit 0, .negSucc (nat_lit 0), nat_lit 0, nat_lit 0, nat_lit 0, []), (nat_lit 22, nat_lit 6, nat_lit 1, nat_lit 0, nat_lit 0, .ofNat (nat_lit 0), nat_lit 0, nat_lit 0, nat_lit 0, [])]]
def rx_c159 : List (List rx_E) := [[(nat_lit 0, nat_lit 0, nat_lit 1, nat_lit 0, nat_lit 0, .ofNat (nat_lit 0), nat_lit 0, nat_lit 0, nat_lit 0, []), (nat_lit 1, nat_lit 1, nat_lit 1, nat_lit 1, nat_lit 0, .ofNat (nat_lit 0), nat_lit 0, nat_lit 0, nat_lit 0, []), (nat_lit 2, nat_lit 8, nat_lit 3, nat_lit 144, nat_lit 120, .ofNat (nat_lit 0), nat_lit 1, nat_lit 1672, nat_lit 386, []), (nat_lit 5, nat_lit 14, nat_lit 3, nat_lit 0, nat_lit 1, .ofNat (nat_lit 5), nat_lit 0, nat_lit 0, nat_lit 0, []), (nat_lit 8, nat_lit 3, nat_lit 1, nat_lit 0, nat_lit 0, .negSucc (nat_lit 0), nat_lit 0, nat_lit 0, nat_lit 0, []), (nat_lit 9, nat_lit 6, nat_lit 1, nat_lit 0, nat_lit 0, .ofNat (nat_lit 0), nat_lit 0, nat_lit 0, nat_lit 0, [])]]
def rx_c160 : List (List rx_E) := [[(nat_lit 0, nat_lit 0, nat_lit 1, nat_lit 0, nat_lit 0, .ofNat (nat_lit 0), nat_lit 0, nat_lit 0, nat_lit 0, []), (nat_lit 1, nat_lit 1, nat_lit 1, nat_lit 1, nat_lit 0, .ofNat (nat_lit 0), nat_lit 0, nat_lit 0, nat_lit 0, []), (nat_lit 2, nat_lit 8, nat_lit 3, nat_lit 140, nat_lit 120, .ofNat (nat_lit 0), nat_lit 1, nat_lit 1661, nat_lit 383, []), (nat_lit 5, nat_lit 14, nat_lit 3, nat_lit 0, nat_lit 0, .ofNat (nat_lit 12), nat_lit 0, nat_lit 0, nat_lit 0, [])], [(nat_lit 17, nat_lit 3, nat_lit 1, nat_lit 0, nat_lit 0, .negSucc (nat_lit 0), nat_lit 0, nat_lit 0, nat_lit 0, []), (nat_lit 18, nat_lit 6, nat_lit 1, nat_lit 0, nat_lit 0, .ofNat (nat_lit 0), nat_lit 0, nat_lit 0, nat_lit 0, [])]]
def rx_c161 : List (List rx_E) := [[(nat_lit 0, nat_lit 0, nat_lit 1, nat_lit 0, nat_lit 0, .ofNat (nat_lit 0), nat_lit 0, nat_lit 0, nat_lit 0, []), (nat_lit 1, nat_lit 2, nat_lit 3, nat_lit 12, nat_lit 41, .ofNat (nat_lit 0), nat_lit 12, nat_lit 1365, nat_lit 83, []), (nat_lit 4, nat_lit 21, nat_lit 2, nat_lit 0, nat_lit 0, .ofNat (nat_lit 22), nat_lit 0, nat_lit 0, nat_lit 0, []), (nat_lit 6, nat_lit 9, nat_lit 1, nat_lit 0, nat_lit 0, .ofNat (nat_lit 0), nat_lit 0, nat_lit 0, nat_lit 0, []), (nat_lit 7, nat_lit 20, nat_lit 3, nat_lit 0, nat_lit 0, .ofNat (nat_lit 9999), nat_lit 0, nat_lit 0, nat_lit 0, []), (nat_lit 10, nat_lit 4, nat_lit 3, nat_lit 0, nat_lit 1, .ofNat (nat_lit 5), nat_lit 0, nat_lit 0, nat_lit 0, []), (nat_lit 15, nat_lit 0, nat_lit 1, nat_lit 0, nat_lit 0, .ofNat (nat_lit 0), nat_lit 0, nat_lit 0, nat_lit 0, [])], [(nat_lit 16, nat_lit 8, nat_lit 3, nat_lit 145, nat_lit 120, .ofNat (nat_lit 0), nat_lit 0, nat_lit 1729, nat_lit 392, []), (nat_lit 19, nat_lit 0, nat_lit 1, nat_lit 0, nat_lit 0, .ofNat (nat_lit 0), nat_lit 0, nat_lit 0, nat_lit 0, []), (nat_lit 20, nat_lit 2, nat_lit 3, nat_lit 12, nat_lit 41, .ofNat (nat_lit 0), nat_lit 12, nat_lit 1365, nat_lit 83, []), (nat_lit 23, nat_lit 21, nat_lit 2, nat_lit 0, nat_lit 0, .ofNat (nat_lit 22), nat_lit 0, nat_lit 0, nat_lit 0, []), (nat_lit 25, nat_lit 45, nat_lit 1, nat_lit 0, nat_lit 0, .ofNat (nat_lit 0), nat_lit 0, nat_lit 0, nat_lit 0, []), (nat_lit 26, nat_lit 9, nat_lit 1, nat_lit 0, nat_lit 0, .ofNat (nat_lit 0), nat_lit 0, nat_lit 0, nat_lit 0, []), (nat_lit 27, nat_lit 3, nat_lit 1, nat_lit 0, nat_lit 0, .ofNat (nat_lit 1), nat_lit 0, nat_lit 0, nat_lit 0, []), (nat_lit 28, nat_lit 12, nat_lit 1, nat_lit 0, nat_lit 0, .ofNat (nat_lit 0), nat_lit 0, nat_lit 0, nat_lit 0, []), (nat_lit 29, nat_lit 10, nat_lit 1, nat_lit 0, nat_lit 0, .ofNat (nat_lit 0), nat_lit 0, nat_lit 0, nat_lit 0, []), (nat_lit 30, nat_lit 0, nat_lit 1, nat_lit 0, nat_lit 0, .ofNat (nat_lit 0), nat_lit 0, nat_lit 0, nat_lit 0, []), (nat_lit 31, nat_lit 2, nat_lit 3, nat_lit 12, nat_lit 41, .ofNat (nat_lit 0), nat_lit 12, nat_lit 1365, nat_lit 83, [])], [(nat_lit 34, nat_lit 21, nat_lit 2, nat_lit 0, nat_lit 0, .ofNat (nat_lit 23), nat_lit 0, nat_lit 0, nat_lit 0, []), (nat_lit 36, nat_lit 0, nat_lit 1, nat_lit 0, nat_lit 0, .ofNat (nat_lit 0), nat_lit 0, nat_lit 0, nat_lit 0, []), (nat_lit 37, nat_lit 2, nat_lit 3, nat_lit 12, nat_lit 41, .ofNat (nat_lit 0), nat_lit 12, nat_lit 1365, nat_lit 83, []), (nat_lit 40, nat_lit 21, nat_lit 2, nat_lit 0, nat_lit 0, .ofNat (nat_lit 23), nat_lit 0, nat_lit 0, nat_lit 0, []), (nat_lit 42, nat_lit 9, nat_lit 1, nat_lit 0, nat_lit 0, .ofNat (nat_lit 0), nat_lit 0, nat_lit 0, nat_lit 0, []), (nat_lit 43, nat_lit 24, nat_lit 3, nat_lit 114, nat_lit 121, .ofNat (nat_lit 0), nat_lit 1, nat_lit 1752, nat_lit 398, []), (nat_lit 46, nat_lit 10, nat_lit 1, nat_lit 0, nat_lit 0, .ofNat (nat_lit 0), nat_lit 0, nat_lit 0, nat_lit 0, []), (nat_lit 47, nat_lit 0, nat_lit 1, nat_lit 0, nat_lit 0, .ofNat (nat_lit 0), nat_lit 0, nat_lit 0, nat_lit 0, [])], [(nat_lit 48, nat_lit 8, nat_lit 3, nat_lit 155, nat_lit 120, .ofNat (nat_lit 0), nat_lit 0, nat_lit 1320, nat_lit 345, []), (nat_lit 51, nat_lit 14, nat_lit 3, nat_lit 0, nat_lit 5, .ofNat (nat_lit 47), nat_lit 0, nat_lit 0, nat_lit 0, [])], [], [], [(nat_lit 98, nat_lit 0, nat_lit 1, nat_lit 0, nat_lit 0, .ofNat (nat_lit 0), nat_lit 0, nat_lit 0, nat_lit 0, []), (nat_lit 99, nat_lit 2, nat_lit 3, nat_lit 12, nat_lit 41, .ofNat (nat_lit 0), nat_lit 12, nat_lit 1365, nat_lit 83, []), (nat_lit 102, nat_lit 21, nat_lit 2, nat_lit 0, nat_lit 0, .ofNat (nat_lit 22), nat_lit 0, nat_lit 0, nat_lit 0, []), (nat_lit 104, nat_lit 9, nat_lit 1, nat_lit 0, nat_lit 0, .ofNat (nat_lit 0), nat_lit 0, nat_lit 0, nat_lit 0, []), (nat_lit 105, nat_lit 6, nat_lit 1, nat_lit 0, nat_lit 0, .ofNat (nat_lit 0), nat_lit 0, nat_lit 0, nat_lit 0, [])]]
def rx_c162 : List (List rx_E) := [[(nat_lit 0, nat_lit 0, nat_lit 1, nat_lit 0, nat_lit 0, .ofNat (nat_lit 0), nat_lit 0, nat_lit 0, nat_lit 0, []), (nat_lit 1, nat_lit 1, nat_lit 1, nat_lit 3, nat_lit 0, .ofNat (nat_lit 0), nat_lit 0, nat_lit 0, nat_lit 0, []), (nat_lit 2, nat_lit 8, nat_lit 3, nat_lit 148, nat_lit 120, .ofNat (nat_lit 0), nat_lit 1, nat_lit 1945, nat_lit 468, []), (nat_lit 5, nat_lit 0, nat_lit 1, nat_lit 0, nat_lit 0, .ofNat (nat_lit 0), nat_lit 0, nat_lit 0, nat_lit 0, []), (nat_lit 6, nat_lit 2, nat_lit 3, nat_lit 12, nat_lit 60, .ofNat (nat_lit 0), nat_lit 0, nat_lit 1384, nat_lit 462, []), (nat_lit 9, nat_lit 14, nat_lit 3, nat_lit 0, nat_lit 0, .ofNat (nat_lit 26), nat_lit 0, nat_lit 0, nat_lit 0, []), (nat_lit 12, nat_lit 1, nat_lit 1, nat_lit 1, nat_lit 0, .ofNat (nat_lit 0), nat_lit 0, nat_lit 0, nat_lit 0, []), (nat_lit 13, nat_lit 3, nat_lit 1, nat_lit 0, nat_lit 0, .ofNat (nat_lit 0), nat_lit 0, nat_lit 0, nat_lit 0, []), (nat_lit 14, nat_lit 0, nat_lit 1, nat_lit 0, nat_lit 0, .ofNat (nat_lit 0), nat_lit 0, nat_lit 0, nat_lit 0, []), (nat_lit 15, nat_lit 8, nat_lit 3, nat_lit 180, nat_lit 120, .ofNat (nat_lit 0), nat_lit 0, nat_lit 1688, nat_lit 338, [])], [(nat_lit 18, nat_lit 3, nat_lit 1, nat_lit 0, nat_lit 0, .ofNat (nat_lit 1), nat_lit 0, nat_lit 0, nat_lit 0, []), (nat_lit 19, nat_lit 23, nat_lit 1, nat_lit 0, nat_lit 0, .ofNat (nat_lit 0), nat_lit 0, nat_lit 0, nat_lit 0, []), (nat_lit 20, nat_lit 24, nat_lit 3, nat_lit 142, nat_lit 121, .ofNat (nat_lit 0), nat_lit 3, nat_lit 1665, nat_lit 341, []), (nat_lit 23, nat_lit 14, nat_lit 3, nat_lit 0, nat_lit 0, .ofNat (nat_lit 12), nat_lit 0, nat_lit 0, nat_lit 0, []), (nat_lit 26, nat_lit 1, nat_lit 1, nat_lit 2, nat_lit 0, .ofNat (nat_lit 0), nat_lit 0, nat_lit 0, nat_lit 0, []), (nat_lit 27, nat_lit 3, nat_lit 1, nat_lit 0, nat_lit 0, .ofNat (nat_lit 0), nat_lit 0, nat_lit 0, nat_lit 0, []), (nat_lit 28, nat_lit 3, nat_lit 1, nat_lit 0, nat_lit 0, .ofNat (nat_lit 1), nat_lit 0, nat_lit 0, nat_lit 0, []), (nat_lit 29, nat_lit 24, nat_lit 3, nat_lit 142, nat_lit 121, .ofNat (nat_lit 0), nat_lit 3, nat_lit 1665, nat_lit 341, [])], [(nat_lit 32, nat_lit 14, nat_lit 3, nat_lit 0, nat_lit 1, .ofNat (nat_lit 5), nat_lit 0, nat_lit 0, nat_lit 0, []), (nat_lit 35, nat_lit 3, nat_lit 1, nat_lit 0, nat_lit 0, .negSucc (nat_lit 0), nat_lit 0, nat_lit 0, nat_lit 0, []), (nat_lit 36, nat_lit 6, nat_lit 1, nat_lit 0, nat_lit 0, .ofNat (nat_lit 0), nat_lit 0, nat_lit 0, nat_lit 0, []), (nat_lit 37, nat_lit 0, nat_lit 1, nat_lit 0, nat_lit 0, .ofNat (nat_lit 0), nat_lit 0, nat_lit 0, nat_lit 0, []), (nat_lit 38, nat_lit 1, nat_lit 1, nat_lit 1, nat_lit 0, .ofNat (nat_lit 0), nat_lit 0, nat_lit 0, nat_lit 0, []), (nat_lit 39, nat_lit 8, nat_lit 3, nat_lit 182, nat_lit 120, .ofNat (nat_lit 0), nat_lit 1, nat_lit 1965, nat_lit 471, []), (nat_lit 42, nat_lit 25, nat_lit 2, nat_lit 4, nat_lit 0, .ofNat (nat_lit 0), nat_lit 0, nat_lit 0, nat_lit 0, []), (nat_lit 44, nat_lit 1, nat_lit 1, nat_lit 2, nat_lit 0, .ofNat (nat_lit 0), nat_lit 0, nat_lit 0, nat_lit 0, []), (nat_lit 45, nat_lit 14, nat_lit 3, nat_lit 0, nat_lit 1, .ofNat (nat_lit 8), nat_lit 0, nat_lit 0, nat_lit 0, [])], [(nat_lit 48, nat_lit 22, nat_lit 2, nat_lit 4, nat_lit 0, .ofNat (nat_lit 0), nat_lit 0, nat_lit 0, nat_lit 0, []), (nat_lit 50, nat_lit 5, nat_lit 3, nat_lit 0, nat_lit 0, .ofNat (nat_lit 7), nat_lit 0, nat_lit 0, nat_lit 0, []), (nat_lit 53, nat_lit 0, nat_lit 1, nat_lit 0, nat_lit 0, .ofNat (nat_lit 0), nat_lit 0, nat_lit 0, nat_lit 0, []), (nat_lit 54, nat_lit 2, nat_lit 3, nat_lit 12, nat_lit 60, .ofNat (nat_lit 0), nat_lit 0, nat_lit 1384, nat_lit 462, []), (nat_lit 57, nat_lit 0, nat_lit 1, nat_lit 0, nat_lit 0, .ofNat (nat_lit 0), nat_lit 0, nat_lit 0, nat_lit 0, []), (nat_lit 58, nat_lit 2, nat_lit 3, nat_lit 12, nat_lit 60, .ofNat (nat_lit 0), nat_lit 0, nat_lit 1384, nat_lit 462, []), (nat_lit 61, nat_lit 22, nat_lit 2, nat_lit 4, nat_lit 0, .ofNat (nat_lit 0), nat_lit 0, nat_lit 0, nat_lit 0, []), (nat_lit 63, nat_lit 24, nat_lit 3, nat_lit 121, nat_lit 121, .ofNat (nat_lit 0), nat_lit 2, nat_lit 1973, nat_lit 474, [])], [(nat_lit 66, nat_lit 36, nat_lit 1, nat_lit 0, nat_lit 0, .ofNat (nat_lit 0), nat_lit 0, nat_lit 0, nat_lit 0, []), (nat_lit 67, nat_lit 6, nat_lit 1, nat_lit 0, nat_lit 0, .ofNat (nat_lit 0), nat_lit 0, nat_lit 0, nat_lit 0, [])]]
def rx_c163 : List (List rx_E) := [[(nat_lit 0, nat_lit 0, nat_lit 1, nat_lit 0, nat_lit 0, .ofNat (nat_lit 0), nat_lit 0, nat_lit 0, nat_lit 0, []), (nat_lit 1, nat_lit 2, nat_lit 3, nat_lit 12, nat_lit 45, .ofNat (nat_lit 0), nat_lit 0, nat_lit 1369, nat_lit 374, []), (nat_lit 4, nat_lit 14, nat_lit 3, nat_lit 0, nat_lit 1, .ofNat (nat_lit 5), nat_lit 0, nat_lit 0, nat_lit 0, []), (nat_lit 7, nat_lit 3, nat_lit 1, nat_lit 0, nat_lit 0, .ofNat (nat_lit 0), nat_lit 0, nat_lit 0, nat_lit 0, []), (nat_lit 8, nat_lit 6, nat_lit 1, nat_lit 0, nat_lit 0, .ofNat (nat_lit 0), nat_lit 0, nat_lit 0, nat_lit 0, [])]]
def rx_c164 : List (List rx_E) := [[(nat_lit 0, nat_lit 0, nat_lit 1, nat_lit 0, nat_lit 0, .ofNat (nat_lit 0), nat_lit 0, nat_lit 0, nat_lit 0, []), (nat_lit 1, nat_lit 1, nat_lit 1, nat_lit 1, nat_lit 0, .ofNat (nat_lit 0), nat_lit 0, nat_lit 0, nat_lit 0, []), (nat_lit 2, nat_lit 8, nat_lit 3, nat_lit 140, nat_lit 120, .ofNat (nat_lit 0), nat_lit 1, nat_lit 1661, nat_lit 383, []), (nat_lit 5, nat_lit 14, nat_lit 3, nat_lit 0, nat_lit 0, .ofNat (nat_lit 38), nat_lit 0, nat_lit 0, nat_lit 0, [])], [], [(nat_lit 43, nat_lit 3, nat_lit 1, nat_lit 0, nat_lit 0, .negSucc (nat_lit 0), nat_lit 0, nat_lit 0, nat_lit 0, []), (nat_lit 44, nat_lit 6, nat_lit 1, nat_lit 0, nat_lit 0, .ofNat (nat_lit 0), nat_lit 0, nat_lit 0, nat_lit 0, [])]]
def rx_c165 : List (List rx_E) := [[(nat_lit 0, nat_lit 0, nat_lit 1, nat_lit 0, nat_lit 0, .ofNat (nat_lit 0), nat_lit 0, nat_lit 0, nat_lit 0, []), (nat_lit 1, nat_lit 3, nat_lit 1, nat_lit 0, nat_lit 0, .ofNat (nat_lit 0), nat_lit 0, nat_lit 0, nat_lit 0, []), (nat_lit 2, nat_lit 15, nat_lit 3, nat_lit 12, nat_lit 4, .ofNat (nat_lit 0), nat_lit 0, nat_lit 1328, nat_lit 146, []), (nat_lit 5, nat_lit 0, nat_lit 1, nat_lit 0, nat_lit 0, .ofNat (nat_lit 0), nat_lit 0, nat_lit 0, nat_lit 0, []), (nat_lit 6, nat_lit 3, nat_lit 1, nat_lit 0, nat_lit 0, .negSucc (nat_lit 0), nat_lit 0, nat_lit 0, nat_lit 0, []), (nat_lit 7, nat_lit 15, nat_lit 3, nat_lit 12, nat_lit 5, .ofNat (nat_lit 0), nat_lit 0, nat_lit 1329, nat_lit 16, []), (nat_lit 10, nat_lit 0, nat_lit 1, nat_lit 0, nat_lit 0, .ofNat (nat_lit 0), nat_lit 0, nat_lit 0, nat_lit 0, []), (nat_lit 11, nat_lit 0, nat_lit 1, nat_lit 0, nat_lit 0, .ofNat (nat_lit 0), nat_lit 0, nat_lit 0, nat_lit 0, []), (nat_lit 12, nat_lit 2, nat_lit 3, nat_lit 12, nat_lit 2, .ofNat (nat_lit 0), nat_lit 0, nat_lit 1326, nat_lit 248, []), (nat_lit 15, nat_lit 15, nat_lit 3, nat_lit 12, nat_lit 3, .ofNat (nat_lit 0), nat_lit 0, nat_lit 1327, nat_lit 143, [])], [(nat_lit 18, nat_lit 3, nat_lit 1, nat_lit 0, nat_lit 0, .ofNat (nat_lit 0), nat_lit 0, nat_lit 0, nat_lit 0, []), (nat_lit 19, nat_lit 11, nat_lit 1, nat_lit 1, nat_lit 0, .ofNat (nat_lit 0), nat_lit 0, nat_lit 0, nat_lit 0, []), (nat_lit 20, nat_lit 1, nat_lit 1, nat_lit 1, nat_lit 0, .ofNat (nat_lit 0), nat_lit 0, nat_lit 0, nat_lit 0, []), (nat_lit 21, nat_lit 0, nat_lit 1, nat_lit 0, nat_lit 0, .ofNat (nat_lit 0), nat_lit 0, nat_lit 0, nat_lit 0, []), (nat_lit 22, nat_lit 2, nat_lit 3, nat_lit 12, nat_lit 3, .ofNat (nat_lit 0), nat_lit 0, nat_lit 1327, nat_lit 143, []), (nat_lit 25, nat_lit 4, nat_lit 3, nat_lit 0, nat_lit 3, .ofNat (nat_lit 21), nat_lit 0, nat_lit 0, nat_lit 0, [])], [(nat_lit 46, nat_lit 0, nat_lit 1, nat_lit 0, nat_lit 0, .ofNat (nat_lit 0), nat_lit 0, nat_lit 0, nat_lit 0, []), (nat_lit 47, nat_lit 3, nat_lit 1, nat_lit 0, nat_lit 0, .ofNat (nat_lit 0), nat_lit 0, nat_lit 0, nat_lit 0, [])], [(nat_lit 48, nat_lit 15, nat_lit 3, nat_lit 12, nat_lit 2, .ofNat (nat_lit 0), nat_lit 0, nat_lit 1326, nat_lit 248, []), (nat_lit 51, nat_lit 0, nat_lit 1, nat_lit 0, nat_lit 0, .ofNat (nat_lit 0), nat_lit 0, nat_lit 0, nat_lit 0, []), (nat_lit 52, nat_lit 3, nat_lit 1, nat_lit 0, nat_lit 0, .ofNat (nat_lit 0), nat_lit 0, nat_lit 0, nat_lit 0, []), (nat_lit 53, nat_lit 15, nat_lit 3, nat_lit 12, nat_lit 7, .ofNat (nat_lit 0), nat_lit 0, nat_lit 1331, nat_lit 183, []), (nat_lit 56, nat_lit 0, nat_lit 1, nat_lit 0, nat_lit 0, .ofNat (nat_lit 0), nat_lit 0, nat_lit 0, nat_lit 0, []), (nat_lit 57, nat_lit 3, nat_lit 1, nat_lit 0, nat_lit 0, .ofNat (nat_lit 1), nat_lit 0, nat_lit 0, nat_lit 0, []), (nat_lit 58, nat_lit 0, nat_lit 1, nat_lit 0, nat_lit 0, .ofNat (nat_lit 0), nat_lit 0, nat_lit 0, nat_lit 0, []), (nat_lit 59, nat_lit 2, nat_lit 3, nat_lit 12, nat_lit 31, .ofNat (nat_lit 0), nat_lit 0, nat_lit 1355, nat_lit 251, []), (nat_lit 62, nat_lit 23, nat_lit 1, nat_lit 0, nat_lit 0, .ofNat (nat_lit 0), nat_lit 0, nat_lit 0, nat_lit 0, []), (nat_lit 63, nat_lit 15, nat_lit 3, nat_lit 12, nat_lit 32, .ofNat (nat_lit 0), nat_lit 0, nat_lit 1356, nat_lit 242, [])], [(nat_lit 66, nat_lit 0, nat_lit 1, nat_lit 0, nat_lit 0, .ofNat (nat_lit 0), nat_lit 0, nat_lit 0, nat_lit 0, []), (nat_lit 67, nat_lit 8, nat_lit 3, nat_lit 117, nat_lit 120, .ofNat (nat_lit 0), nat_lit 0, nat_lit 1312, nat_lit 137, []), (nat_lit 70, nat_lit 0, nat_lit 1, nat_lit 0, nat_lit 0, .ofNat (nat_lit 0), nat_lit 0, nat_lit 0, nat_lit 0, []), (nat_lit 71, nat_lit 8, nat_lit 3, nat_lit 134, nat_lit 120, .ofNat (nat_lit 0), nat_lit 0, nat_lit 1524, nat_lit 225, []), (nat_lit 74, nat_lit 0, nat_lit 1, nat_lit 0, nat_lit 0, .ofNat (nat_lit 0), nat_lit 0, nat_lit 0, nat_lit 0, []), (nat_lit 75, nat_lit 8, nat_lit 3, nat_lit 141, nat_lit 120, .ofNat (nat_lit 0), nat_lit 0, nat_lit 1561, nat_lit 221, []), (nat_lit 78, nat_lit 14, nat_lit 3, nat_lit 0, nat_lit 0, .ofNat (nat_lit 17), nat_lit 0, nat_lit 0, nat_lit 0, [])], [(nat_lit 81, nat_lit 0, nat_lit 1, nat_lit 0, nat_lit 0, .ofNat (nat_lit 0), nat_lit 0, nat_lit 0, nat_lit 0, []), (nat_lit 82, nat_lit 2, nat_lit 3, nat_lit 12, nat_lit 8, .ofNat (nat_lit 0), nat_lit 0, nat_lit 1332, nat_lit 193, []), (nat_lit 85, nat_lit 14, nat_lit 3, nat_lit 0, nat_lit 0, .ofNat (nat_lit 10), nat_lit 0, nat_lit 0, nat_lit 0, []), (nat_lit 95, nat_lit 0, nat_lit 1, nat_lit 0, nat_lit 0, .ofNat (nat_lit 0), nat_lit 0, nat_lit 0, nat_lit 0, [])], [(nat_lit 96, nat_lit 8, nat_lit 3, nat_lit 141, nat_lit 120, .ofNat (nat_lit 0), nat_lit 0, nat_lit 1561, nat_lit 221, []), (nat_lit 99, nat_lit 14, nat_lit 3, nat_lit 0, nat_lit 1, .ofNat (nat_lit 5), nat_lit 0, nat_lit 0, nat_lit 0, []), (nat_lit 104, nat_lit 0, nat_lit 1, nat_lit 0, nat_lit 0, .ofNat (nat_lit 0), nat_lit 0, nat_lit 0, nat_lit 0, []), (nat_lit 105, nat_lit 0, nat_lit 1, nat_lit 0, nat_lit 0, .ofNat (nat_lit 0), nat_lit 0, nat_lit 0, nat_lit 0, []), (nat_lit 106, nat_lit 2, nat_lit 3, nat_lit 12, nat_lit 32, .ofNat (nat_lit 0), nat_lit 0, nat_lit 1356, nat_lit 242, []), (nat_lit 109, nat_lit 15, nat_lit 3, nat_lit 12, nat_lit 31, .ofNat (nat_lit 0), nat_lit 0, nat_lit 1355, nat_lit 251, [])], [(nat_lit 112, nat_lit 0, nat_lit 1, nat_lit 0, nat_lit 0, .ofNat (nat_lit 0), nat_lit 0, nat_lit 0, nat_lit 0, []), (nat_lit 113, nat_lit 8, nat_lit 3, nat_lit 170, nat_lit 120, .ofNat (nat_lit 0), nat_lit 0, nat_lit 1316, nat_lit 140, []), (nat_lit 116, nat_lit 0, nat_lit 1, nat_lit 0, nat_lit 0, .ofNat (nat_lit 0), nat_lit 0, nat_lit 0, nat_lit 0, []), (nat_lit 117, nat_lit 2, nat_lit 3, nat_lit 12, nat_lit 13, .ofNat (nat_lit 0), nat_lit 12, nat_lit 1337, nat_lit 27, []), (nat_lit 120, nat_lit 0, nat_lit 1, nat_lit 0, nat_lit 0, .ofNat (nat_lit 0), nat_lit 0, nat_lit 0, nat_lit 0, []), (nat_lit 121, nat_lit 2, nat_lit 3, nat_lit 12, nat_lit 31, .ofNat (nat_lit 0), nat_lit 0, nat_lit 1355, nat_lit 251, []), (nat_lit 124, nat_lit 9, nat_lit 1, nat_lit 0, nat_lit 0, .ofNat (nat_lit 0), nat_lit 0, nat_lit 0, nat_lit 0, []), (nat_lit 125, nat_lit 6, nat_lit 1, nat_lit 0, nat_lit 0, .ofNat (nat_lit 0), nat_lit 0, nat_lit 0, nat_lit 0, [])]]
def rx_c166 : List (List rx_E) := [[(nat_lit 0, nat_lit 0, nat_lit 1, nat_lit 0, nat_lit 0, .ofNat (nat_lit 0), nat_lit 0, nat_lit 0, nat_lit 0, []), (nat_lit 1, nat_lit 1, nat_lit 1, nat_lit 1, nat_lit 0, .ofNat (nat_lit 0), nat_lit 0, nat_lit 0, nat_lit 0, []), (nat_lit 2, nat_lit 8, nat_lit 3, nat_lit 144, nat_lit 120, .ofNat (nat_lit 0), nat_lit 1, nat_lit 1672, nat_lit 386, []), (nat_lit 5, nat_lit 14, nat_lit 3, nat_lit 0, nat_lit 0, .ofNat (nat_lit 20), nat_lit 0, nat_lit 0, nat_lit 0, [])], [(nat_lit 25, nat_lit 3, nat_lit 1, nat_lit 0, nat_lit 0, .negSucc (nat_lit 0), nat_lit 0, nat_lit 0, nat_lit 0, []), (nat_lit 26, nat_lit 6, nat_lit 1, nat_lit 0, nat_lit 0, .ofNat (nat_lit 0), nat_lit 0, nat_lit 0, nat_lit 0, [])]]
def rx_c167 : List (List rx_E) := [[(nat_lit 0, nat_lit 0, nat_lit 1, nat_lit 0, nat_lit 0, .ofNat (nat_lit 0), nat_lit 0, nat_lit 0, nat_lit 0, []), (nat_lit 1, nat_lit 1, nat_lit 1, nat_lit 1, nat_lit 0, .ofNat (nat_lit 0), nat_lit 0, nat_lit 0, nat_lit 0, []), (nat_lit 2, nat_lit 8, nat_lit 3, nat_lit 140, nat_lit 120, .ofNat (nat_lit 0), nat_lit 1, nat_lit 1661, nat_lit 383, []), (nat_lit 5, nat_lit 14, nat_lit 3, nat_lit 0, nat_lit 1, .ofNat (nat_lit 5), nat_lit 0, nat_lit 0, nat_lit 0, []), (nat_lit 8, nat_lit 3, nat_lit 1, nat_lit 0, nat_lit 0, .negSucc (nat_lit 0), nat_lit 0, nat_lit 0, nat_lit 0, []), (nat_lit 9, nat_lit 6, nat_lit 1, nat_lit 0, nat_lit 0, .ofNat (nat_lit 0), nat_lit 0, nat_lit 0, nat_lit 0, [])]]
def rx_c168 : List (List rx_E) := [[(nat_lit 0, nat_lit 1, nat_lit 1, nat_lit 1, nat_lit 0, .ofNat (nat_lit 0), nat_lit 0, nat_lit 0, nat_lit 0, []), (nat_lit 1, nat_lit 0, nat_lit 1, nat_lit 0, nat_lit 0, .ofNat (nat_lit 0), nat_lit 0, nat_lit 0, nat_lit 0, []), (nat_lit 2, nat_lit 2, nat_lit 3, nat_lit 12, nat_lit 3, .ofNat (nat_lit 0), nat_lit 0, nat_lit 1327, nat_lit 143, []), (nat_lit 5, nat_lit 4, nat_lit 3, nat_lit 0, nat_lit 3, .ofNat (nat_lit 16), nat_lit 0, nat_lit 0, nat_lit 0, [])], [(nat_lit 21, nat_lit 3, nat_lit 1, nat_lit 0, nat_lit 0, .ofNat (nat_lit 0), nat_lit 0, nat_lit 0, nat_lit 0, []), (nat_lit 22, nat_lit 6, nat_lit 1, nat_lit 0, nat_lit 0, .ofNat (nat_lit 0), nat_lit 0, nat_lit 0, nat_lit 0, [])]]
def rx_c169 : List (List rx_E) := [[(nat_lit 0, nat_lit 0, nat_lit 1, nat_lit 0, nat_lit 0, .ofNat (nat_lit 0), nat_lit 0, nat_lit 0, nat_lit 0, []), (nat_lit 1, nat_lit 1, nat_lit 1, nat_lit 2, nat_lit 0, .ofNat (nat_lit 0), nat_lit 0, nat_lit 0, nat_lit 0, []), (nat_lit 2, nat_lit 8, nat_lit 3, nat_lit 148, nat_lit 120, .ofNat (nat_lit 0), nat_lit 1, nat_lit 1945, nat_lit 468, []), (nat_lit 5, nat_lit 0, nat_lit 1, nat_lit 0, nat_lit 0, .ofNat (nat_lit 0), nat_lit 0, nat_lit 0, nat_lit 0, []), (nat_lit 6, nat_lit 2, nat_lit 3, nat_lit 12, nat_lit 60, .ofNat (nat_lit 0), nat_lit 0, nat_lit 1384, nat_lit 462, []), (nat_lit 9, nat_lit 14, nat_lit 3, nat_lit 0, nat_lit 0, .ofNat (nat_lit 12), nat_lit 0, nat_lit 0, nat_lit 0, []), (nat_lit 12, nat_lit 1, nat_lit 1, nat_lit 1, nat_lit 0, .ofNat (nat_lit 0), nat_lit 0, nat_lit 0, nat_lit 0, []), (nat_lit 13, nat_lit 3, nat_lit 1, nat_lit 0, nat_lit 0, .ofNat (nat_lit 0), nat_lit 0, nat_lit 0, nat_lit 0, []), (nat_lit 14, nat_lit 3, nat_lit 1, nat_lit 0, nat_lit 0, .ofNat (nat_lit 1), nat_lit 0, nat_lit 0, nat_lit 0, []), (nat_lit 15, nat_lit 24, nat_lit 3, nat_lit 142, nat_lit 121, .ofNat (nat_lit 0), nat_lit 3, nat_lit 1665, nat_lit 341, [])], [(nat_lit 18, nat_lit 14, nat_lit 3, nat_lit 0, nat_lit 1, .ofNat (nat_lit 5), nat_lit 0, nat_lit 0, nat_lit 0, []), (nat_lit 21, nat_lit 3, nat_lit 1, nat_lit 0, nat_lit 0, .negSucc (nat_lit 0), nat_lit 0, nat_lit 0, nat_lit 0, []), (nat_lit 22, nat_lit 6, nat_lit 1, nat_lit 0, nat_lit 0, .ofNat (nat_lit 0), nat_lit 0, nat_lit 0, nat_lit 0, []), (nat_lit 23, nat_lit 0, nat_lit 1, nat_lit 0, nat_lit 0, .ofNat (nat_lit 0), nat_lit 0, nat_lit 0, nat_lit 0, []), (nat_lit 24, nat_lit 2, nat_lit 3, nat_lit 12, nat_lit 56, .ofNat (nat_lit 0), nat_lit 12, nat_lit 1380, nat_lit 119, []), (nat_lit 27, nat_lit 3, nat_lit 1, nat_lit 0, nat_lit 0, .ofNat (nat_lit 0), nat_lit 0, nat_lit 0, nat_lit 0, []), (nat_lit 28, nat_lit 9, nat_lit 1, nat_lit 0, nat_lit 0, .ofNat (nat_lit 0), nat_lit 0, nat_lit 0, nat_lit 0, []), (nat_lit 29, nat_lit 24, nat_lit 3, nat_lit 112, nat_lit 121, .ofNat (nat_lit 0), nat_lit 1, nat_lit 1696, nat_lit 351, [])], [(nat_lit 32, nat_lit 11, nat_lit 1, nat_lit 3, nat_lit 0, .ofNat (nat_lit 0), nat_lit 0, nat_lit 0, nat_lit 0, []), (nat_lit 33, nat_lit 3, nat_lit 1, nat_lit 0, nat_lit 0, .ofNat (nat_lit 1), nat_lit 0, nat_lit 0, nat_lit 0, []), (nat_lit 34, nat_lit 25, nat_lit 2, nat_lit 4, nat_lit 0, .ofNat (nat_lit 0), nat_lit 0, nat_lit 0, nat_lit 0, []), (nat_lit 36, nat_lit 22, nat_lit 2, nat_lit 4, nat_lit 0, .ofNat (nat_lit 0), nat_lit 0, nat_lit 0, nat_lit 0, []), (nat_lit 38, nat_lit 0, nat_lit 1, nat_lit 0, nat_lit 0, .ofNat (nat_lit 0), nat_lit 0, nat_lit 0, nat_lit 0, []), (nat_lit 39, nat_lit 2, nat_lit 3, nat_lit 12, nat_lit 60, .ofNat (nat_lit 0), nat_lit 0, nat_lit 1384, nat_lit 462, []), (nat_lit 42, nat_lit 4, nat_lit 3, nat_lit 0, nat_lit 3, .ofNat (nat_lit 43), nat_lit 0, nat_lit 0, nat_lit 0, []), (nat_lit 45, nat_lit 0, nat_lit 1, nat_lit 0, nat_lit 0, .ofNat (nat_lit 0), nat_lit 0, nat_lit 0, nat_lit 0, []), (nat_lit 46, nat_lit 2, nat_lit 3, nat_lit 12, nat_lit 56, .ofNat (nat_lit 0), nat_lit 12, nat_lit 1380, nat_lit 119, [])], [(nat_lit 49, nat_lit 22, nat_lit 2, nat_lit 4, nat_lit 0, .ofNat (nat_lit 0), nat_lit 0, nat_lit 0, nat_lit 0, []), (nat_lit 51, nat_lit 9, nat_lit 1, nat_lit 0, nat_lit 0, .ofNat (nat_lit 0), nat_lit 0, nat_lit 0, nat_lit 0, []), (nat_lit 52, nat_lit 24, nat_lit 3, nat_lit 112, nat_lit 121, .ofNat (nat_lit 0), nat_lit 1, nat_lit 1696, nat_lit 351, []), (nat_lit 55, nat_lit 25, nat_lit 2, nat_lit 5, nat_lit 0, .ofNat (nat_lit 0), nat_lit 0, nat_lit 0, nat_lit 0, []), (nat_lit 57, nat_lit 1, nat_lit 1, nat_lit 1, nat_lit 0, .ofNat (nat_lit 0), nat_lit 0, nat_lit 0, nat_lit 0, []), (nat_lit 58, nat_lit 14, nat_lit 3, nat_lit 0, nat_lit 1, .ofNat (nat_lit 12), nat_lit 0, nat_lit 0, nat_lit 0, []), (nat_lit 61, nat_lit 22, nat_lit 2, nat_lit 5, nat_lit 0, .ofNat (nat_lit 0), nat_lit 0, nat_lit 0, nat_lit 0, []), (nat_lit 63, nat_lit 1, nat_lit 1, nat_lit 3, nat_lit 0, .ofNat (nat_lit 0), nat_lit 0, nat_lit 0, nat_lit 0, [])], [(nat_lit 64, nat_lit 4, nat_lit 3, nat_lit 0, nat_lit 3, .ofNat (nat_lit 15), nat_lit 0, nat_lit 0, nat_lit 0, []), (nat_lit 70, nat_lit 22, nat_lit 2, nat_lit 5, nat_lit 0, .ofNat (nat_lit 0), nat_lit 0, nat_lit 0, nat_lit 0, []), (nat_lit 72, nat_lit 1, nat_lit 1, nat_lit 3, nat_lit 0, .ofNat (nat_lit 0), nat_lit 0, nat_lit 0, nat_lit 0, []), (nat_lit 73, nat_lit 4, nat_lit 3, nat_lit 0, nat_lit 5, .ofNat (nat_lit 6), nat_lit 0, nat_lit 0, nat_lit 0, []), (nat_lit 76, nat_lit 22, nat_lit 2, nat_lit 5, nat_lit 0, .ofNat (nat_lit 0), nat_lit 0, nat_lit 0, nat_lit 0, []), (nat_lit 78, nat_lit 11, nat_lit 1, nat_lit 3, nat_lit 0, .ofNat (nat_lit 0), nat_lit 0, nat_lit 0, nat_lit 0, []), (nat_lit 79, nat_lit 7, nat_lit 3, nat_lit 4, nat_lit 0, .ofNat (nat_lit 1), nat_lit 0, nat_lit 0, nat_lit 0, [])], [(nat_lit 82, nat_lit 5, nat_lit 3, nat_lit 0, nat_lit 0, .negSucc (nat_lit 45), nat_lit 0, nat_lit 0, nat_lit 0, []), (nat_lit 85, nat_lit 1, nat_lit 1, nat_lit 3, nat_lit 0, .ofNat (nat_lit 0), nat_lit 0, nat_lit 0, nat_lit 0, []), (nat_lit 86, nat_lit 6, nat_lit 1, nat_lit 0, nat_lit 0, .ofNat (nat_lit 0), nat_lit 0, nat_lit 0, nat_lit 0, [])]]
def rx_c170 : List (List rx_E) := [[(nat_lit 0, nat_lit 3, nat_lit 1, nat_lit 0, nat_lit 0, .ofNat (nat_lit 0), nat_lit 0, nat_lit 0, nat_lit 0, []), (nat_lit 1, nat_lit 11, nat_lit 1, nat_lit 1, nat_lit 0, .ofNat (nat_lit 0), nat_lit 0, nat_lit 0, nat_lit 0, []), (nat_lit 2, nat_lit 1, nat_lit 1, nat_lit 1, nat_lit 0, .ofNat (nat_lit 0), nat_lit 0, nat_lit 0, nat_lit 0, []), (nat_lit 3, nat_lit 21, nat_lit 2, nat_lit 0, nat_lit 0, .ofNat (nat_lit 24), nat_lit 0, nat_lit 0, nat_lit 0, []), (nat_lit 5, nat_lit 4, nat_lit 3, nat_lit 0, nat_lit 3, .ofNat (nat_lit 16), nat_lit 0, nat_lit 0, nat_lit 0, []), (nat_lit 8, nat_lit 0, nat_lit 1, nat_lit 0, nat_lit 0, .ofNat (nat_lit 0), nat_lit 0, nat_lit 0, nat_lit 0, []), (nat_lit 9, nat_lit 2, nat_lit 3, nat_lit 12, nat_lit 41, .ofNat (nat_lit 0), nat_lit 12, nat_lit 1365, nat_lit 83, []), (nat_lit 12, nat_lit 1, nat_lit 1, nat_lit 1, nat_lit 0, .ofNat (nat_lit 0), nat_lit 0, nat_lit 0, nat_lit 0, []), (nat_lit 13, nat_lit 3, nat_lit 1, nat_lit 0, nat_lit 0, .ofNat (nat_lit 0), nat_lit 0, nat_lit 0, nat_lit 0, []), (nat_lit 14, nat_lit 10, nat_lit 1, nat_lit 0, nat_lit 0, .ofNat (nat_lit 0), nat_lit 0, nat_lit 0, nat_lit 0, []), (nat_lit 15, nat_lit 7, nat_lit 3, nat_lit 1, nat_lit 0, .ofNat (nat_lit 1), nat_lit 0, nat_lit 0, nat_lit 0, [])], [(nat_lit 18, nat_lit 5, nat_lit 3, nat_lit 0, nat_lit 0, .negSucc (nat_lit 15), nat_lit 0, nat_lit 0, nat_lit 0, []), (nat_lit 21, nat_lit 3, nat_lit 1, nat_lit 0, nat_lit 0, .ofNat (nat_lit 0), nat_lit 0, nat_lit 0, nat_lit 0, []), (nat_lit 22, nat_lit 11, nat_lit 1, nat_lit 1, nat_lit 0, .ofNat (nat_lit 0), nat_lit 0, nat_lit 0, nat_lit 0, []), (nat_lit 23, nat_lit 1, nat_lit 1, nat_lit 1, nat_lit 0, .ofNat (nat_lit 0), nat_lit 0, nat_lit 0, nat_lit 0, []), (nat_lit 24, nat_lit 0, nat_lit 1, nat_lit 0, nat_lit 0, .ofNat (nat_lit 0), nat_lit 0, nat_lit 0, nat_lit 0, []), (nat_lit 25, nat_lit 2, nat_lit 3, nat_lit 12, nat_lit 12, .ofNat (nat_lit 0), nat_lit 12, nat_lit 1336, nat_lit 24, []), (nat_lit 28, nat_lit 0, nat_lit 1, nat_lit 0, nat_lit 0, .ofNat (nat_lit 0), nat_lit 0, nat_lit 0, nat_lit 0, []), (nat_lit 29, nat_lit 2, nat_lit 3, nat_lit 12, nat_lit 31, .ofNat (nat_lit 0), nat_lit 0, nat_lit 1355, nat_lit 251, [])], [(nat_lit 32, nat_lit 9, nat_lit 1, nat_lit 0, nat_lit 0, .ofNat (nat_lit 0), nat_lit 0, nat_lit 0, nat_lit 0, []), (nat_lit 33, nat_lit 4, nat_lit 3, nat_lit 0, nat_lit 3, .ofNat (nat_lit 30), nat_lit 0, nat_lit 0, nat_lit 0, [])], [(nat_lit 63, nat_lit 3, nat_lit 1, nat_lit 0, nat_lit 0, .ofNat (nat_lit 0), nat_lit 0, nat_lit 0, nat_lit 0, [])], [(nat_lit 64, nat_lit 11, nat_lit 1, nat_lit 1, nat_lit 0, .ofNat (nat_lit 0), nat_lit 0, nat_lit 0, nat_lit 0, []), (nat_lit 65, nat_lit 1, nat_lit 1, nat_lit 1, nat_lit 0, .ofNat (nat_lit 0), nat_lit 0, nat_lit 0, nat_lit 0, []), (nat_lit 66, nat_lit 0, nat_lit 1, nat_lit 0, nat_lit 0, .ofNat (nat_lit 0), nat_lit 0, nat_lit 0, nat_lit 0, []), (nat_lit 67, nat_lit 8, nat_lit 3, nat_lit 155, nat_lit 120, .ofNat (nat_lit 0), nat_lit 0, nat_lit 1320, nat_lit 345, []), (nat_lit 70, nat_lit 4, nat_lit 3, nat_lit 0, nat_lit 3, .ofNat (nat_lit 31), nat_lit 0, nat_lit 0, nat_lit 0, [])], [], [(nat_lit 101, nat_lit 0, nat_lit 1, nat_lit 0, nat_lit 0, .ofNat (nat_lit 0), nat_lit 0, nat_lit 0, nat_lit 0, []), (nat_lit 102, nat_lit 2, nat_lit 3, nat_lit 12, nat_lit 41, .ofNat (nat_lit 0), nat_lit 12, nat_lit 1365, nat_lit 83, []), (nat_lit 105, nat_lit 21, nat_lit 2, nat_lit 0, nat_lit 0, .ofNat (nat_lit 23), nat_lit 0, nat_lit 0, nat_lit 0, []), (nat_lit 107, nat_lit 0, nat_lit 1, nat_lit 0, nat_lit 0, .ofNat (nat_lit 0), nat_lit 0, nat_lit 0, nat_lit 0, []), (nat_lit 108, nat_lit 2, nat_lit 3, nat_lit 12, nat_lit 15, .ofNat (nat_lit 0), nat_lit 12, nat_lit 1339, nat_lit 33, []), (nat_lit 111, nat_lit 0, nat_lit 1, nat_lit 0, nat_lit 0, .ofNat (nat_lit 0), nat_lit 0, nat_lit 0, nat_lit 0, [])], [(nat_lit 112, nat_lit 2, nat_lit 3, nat_lit 12, nat_lit 31, .ofNat (nat_lit 0), nat_lit 0, nat_lit 1355, nat_lit 251, []), (nat_lit 115, nat_lit 9, nat_lit 1, nat_lit 0, nat_lit 0, .ofNat (nat_lit 0), nat_lit 0, nat_lit 0, nat_lit 0, []), (nat_lit 116, nat_lit 10, nat_lit 1, nat_lit 0, nat_lit 0, .ofNat (nat_lit 0), nat_lit 0, nat_lit 0, nat_lit 0, []), (nat_lit 117, nat_lit 0, nat_lit 1, nat_lit 0, nat_lit 0, .ofNat (nat_lit 0), nat_lit 0, nat_lit 0, nat_lit 0, []), (nat_lit 118, nat_lit 3, nat_lit 1, nat_lit 0, nat_lit 0, .ofNat (nat_lit 0), nat_lit 0, nat_lit 0, nat_lit 0, []), (nat_lit 119, nat_lit 15, nat_lit 3, nat_lit 12, nat_lit 44, .ofNat (nat_lit 0), nat_lit 0, nat_lit 1368, nat_lit 371, []), (nat_lit 122, nat_lit 0, nat_lit 1, nat_lit 0, nat_lit 0, .ofNat (nat_lit 0), nat_lit 0, nat_lit 0, nat_lit 0, []), (nat_lit 123, nat_lit 3, nat_lit 1, nat_lit 0, nat_lit 0, .ofNat (nat_lit 0), nat_lit 0, nat_lit 0, nat_lit 0, []), (nat_lit 124, nat_lit 15, nat_lit 3, nat_lit 12, nat_lit 45, .ofNat (nat_lit 0), nat_lit 0, nat_lit 1369, nat_lit 374, []), (nat_lit 127, nat_lit 0, nat_lit 1, nat_lit 0, nat_lit 0, .ofNat (nat_lit 0), nat_lit 0, nat_lit 0, nat_lit 0, [])], [(nat_lit 128, nat_lit 3, nat_lit 1, nat_lit 0, nat_lit 0, .ofNat (nat_lit 0), nat_lit 0, nat_lit 0, nat_lit 0, []), (nat_lit 129, nat_lit 15, nat_lit 3, nat_lit 12, nat_lit 58, .ofNat (nat_lit 0), nat_lit 0, nat_lit 1382, nat_lit 377, []), (nat_lit 132, nat_lit 0, nat_lit 1, nat_lit 0, nat_lit 0, .ofNat (nat_lit 0), nat_lit 0, nat_lit 0, nat_lit 0, []), (nat_lit 133, nat_lit 3, nat_lit 1, nat_lit 0, nat_lit 0, .ofNat (nat_lit 0), nat_lit 0, nat_lit 0, nat_lit 0, []), (nat_lit 134, nat_lit 15, nat_lit 3, nat_lit 12, nat_lit 49, .ofNat (nat_lit 0), nat_lit 0, nat_lit 1373, nat_lit 380, []), (nat_lit 137, nat_lit 3, nat_lit 1, nat_lit 0, nat_lit 0, .ofNat (nat_lit 0), nat_lit 0, nat_lit 0, nat_lit 0, []), (nat_lit 138, nat_lit 11, nat_lit 1, nat_lit 1, nat_lit 0, .ofNat (nat_lit 0), nat_lit 0, nat_lit 0, nat_lit 0, []), (nat_lit 139, nat_lit 1, nat_lit 1, nat_lit 1, nat_lit 0, .ofNat (nat_lit 0), nat_lit 0, nat_lit 0, nat_lit 0, []), (nat_lit 140, nat_lit 3, nat_lit 1, nat_lit 0, nat_lit 0, .ofNat (nat_lit 3), nat_lit 0, nat_lit 0, nat_lit 0, []), (nat_lit 141, nat_lit 4, nat_lit 3, nat_lit 0, nat_lit 3, .ofNat (nat_lit 16), nat_lit 0, nat_lit 0, nat_lit 0, [])], [(nat_lit 144, nat_lit 0, nat_lit 1, nat_lit 0, nat_lit 0, .ofNat (nat_lit 0), nat_lit 0, nat_lit 0, nat_lit 0, []), (nat_lit 145, nat_lit 2, nat_lit 3, nat_lit 12, nat_lit 64, .ofNat (nat_lit 0), nat_lit 12, nat_lit 1388, nat_lit 134, []), (nat_lit 148, nat_lit 1, nat_lit 1, nat_lit 1, nat_lit 0, .ofNat (nat_lit 0), nat_lit 0, nat_lit 0, nat_lit 0, []), (nat_lit 149, nat_lit 3, nat_lit 1, nat_lit 0, nat_lit 0, .ofNat (nat_lit 0), nat_lit 0, nat_lit 0, nat_lit 0, []), (nat_lit 150, nat_lit 13, nat_lit 1, nat_lit 0, nat_lit 0, .ofNat (nat_lit 0), nat_lit 0, nat_lit 0, nat_lit 0, []), (nat_lit 151, nat_lit 7, nat_lit 3, nat_lit 1, nat_lit 0, .ofNat (nat_lit 1), nat_lit 0, nat_lit 0, nat_lit 0, []), (nat_lit 154, nat_lit 5, nat_lit 3, nat_lit 0, nat_lit 0, .negSucc (nat_lit 14), nat_lit 0, nat_lit 0, nat_lit 0, []), (nat_lit 157, nat_lit 26, nat_lit 1, nat_lit 0, nat_lit 0, .ofNat (nat_lit 0), nat_lit 0, nat_lit 0, nat_lit 0, [])]]
def rx_c171 : List (List rx_E) := [[(nat_lit 0, nat_lit 0, nat_lit 1, nat_lit 0, nat_lit 0, .ofNat (nat_lit 0), nat_lit 0, nat_lit 0, nat_lit 0, []), (nat_lit 1, nat_lit 1, nat_lit 1, nat_lit 2, nat_lit 0, .ofNat (nat_lit 0), nat_lit 0, nat_lit 0, nat_lit 0, []), (nat_lit 2, nat_lit 8, nat_lit 3, nat_lit 148, nat_lit 120, .ofNat (nat_lit 0), nat_lit 1, nat_lit 1945, nat_lit 468, []), (nat_lit 5, nat_lit 0, nat_lit 1, nat_lit 0, nat_lit 0, .ofNat (nat_lit 0), nat_lit 0, nat_lit 0, nat_lit 0, []), (nat_lit 6, nat_lit 2, nat_lit 3, nat_lit 12, nat_lit 60, .ofNat (nat_lit 0), nat_lit 0, nat_lit 1384, nat_lit 462, []), (nat_lit 9, nat_lit 14, nat_lit 3, nat_lit 0, nat_lit 0, .ofNat (nat_lit 17), nat_lit 0, nat_lit 0, nat_lit 0, []), (nat_lit 12, nat_lit 1, nat_lit 1, nat_lit 1, nat_lit 0, .ofNat (nat_lit 0), nat_lit 0, nat_lit 0, nat_lit 0, []), (nat_lit 13, nat_lit 3, nat_lit 1, nat_lit 0, nat_lit 0, .ofNat (nat_lit 0), nat_lit 0, nat_lit 0, nat_lit 0, []), (nat_lit 14, nat_lit 0, nat_lit 1, nat_lit 0, nat_lit 0, .ofNat (nat_lit 0), nat_lit 0, nat_lit 0, nat_lit 0, []), (nat_lit 15, nat_lit 8, nat_lit 3, nat_lit 180, nat_lit 120, .ofNat (nat_lit 0), nat_lit 0, nat_lit 1688, nat_lit 338, [])], [(nat_lit 18, nat_lit 3, nat_lit 1, nat_lit 0, nat_lit 0, .ofNat (nat_lit 1), nat_lit 0, nat_lit 0, nat_lit 0, []), (nat_lit 19, nat_lit 23, nat_lit 1, nat_lit 0, nat_lit 0, .ofNat (nat_lit 0), nat_lit 0, nat_lit 0, nat_lit 0, []), (nat_lit 20, nat_lit 24, nat_lit 3, nat_lit 142, nat_lit 121, .ofNat (nat_lit 0), nat_lit 3, nat_lit 1665, nat_lit 341, []), (nat_lit 23, nat_lit 14, nat_lit 3, nat_lit 0, nat_lit 1, .ofNat (nat_lit 5), nat_lit 0, nat_lit 0, nat_lit 0, []), (nat_lit 26, nat_lit 3, nat_lit 1, nat_lit 0, nat_lit 0, .negSucc (nat_lit 0), nat_lit 0, nat_lit 0, nat_lit 0, []), (nat_lit 27, nat_lit 6, nat_lit 1, nat_lit 0, nat_lit 0, .ofNat (nat_lit 0), nat_lit 0, nat_lit 0, nat_lit 0, []), (nat_lit 28, nat_lit 0, nat_lit 1, nat_lit 0, nat_lit 0, .ofNat (nat_lit 0), nat_lit 0, nat_lit 0, nat_lit 0, []), (nat_lit 29, nat_lit 1, nat_lit 1, nat_lit 1, nat_lit 0, .ofNat (nat_lit 0), nat_lit 0, nat_lit 0, nat_lit 0, []), (nat_lit 30, nat_lit 8, nat_lit 3, nat_lit 182, nat_lit 120, .ofNat (nat_lit 0), nat_lit 1, nat_lit 1965, nat_lit 471, [])], [(nat_lit 33, nat_lit 11, nat_lit 1, nat_lit 3, nat_lit 0, .ofNat (nat_lit 0), nat_lit 0, nat_lit 0, nat_lit 0, []), (nat_lit 34, nat_lit 1, nat_lit 1, nat_lit 3, nat_lit 0, .ofNat (nat_lit 0), nat_lit 0, nat_lit 0, nat_lit 0, []), (nat_lit 35, nat_lit 0, nat_lit 1, nat_lit 0, nat_lit 0, .ofNat (nat_lit 0), nat_lit 0, nat_lit 0, nat_lit 0, []), (nat_lit 36, nat_lit 2, nat_lit 3, nat_lit 12, nat_lit 60, .ofNat (nat_lit 0), nat_lit 0, nat_lit 1384, nat_lit 462, []), (nat_lit 39, nat_lit 4, nat_lit 3, nat_lit 0, nat_lit 1, .ofNat (nat_lit 7), nat_lit 0, nat_lit 0, nat_lit 0, []), (nat_lit 46, nat_lit 1, nat_lit 1, nat_lit 3, nat_lit 0, .ofNat (nat_lit 0), nat_lit 0, nat_lit 0, nat_lit 0, []), (nat_lit 47, nat_lit 14, nat_lit 3, nat_lit 0, nat_lit 1, .ofNat (nat_lit 7), nat_lit 0, nat_lit 0, nat_lit 0, [])], [(nat_lit 54, nat_lit 21, nat_lit 2, nat_lit 0, nat_lit 0, .negSucc (nat_lit 1), nat_lit 0, nat_lit 0, nat_lit 0, []), (nat_lit 56, nat_lit 6, nat_lit 1, nat_lit 0, nat_lit 0, .ofNat (nat_lit 0), nat_lit 0, nat_lit 0, nat_lit 0, [])]]
def rx_c172 : List (List rx_E) := [[(nat_lit 0, nat_lit 1, nat_lit 1, nat_lit 1, nat_lit 0, .ofNat (nat_lit 0), nat_lit 0, nat_lit 0, nat_lit 0, []), (nat_lit 1, nat_lit 3, nat_lit 1, nat_lit 0, nat_lit 0, .ofNat (nat_lit 0), nat_lit 0, nat_lit 0, nat_lit 0, []), (nat_lit 2, nat_lit 3, nat_lit 1, nat_lit 0, nat_lit 0, .ofNat (nat_lit 1), nat_lit 0, nat_lit 0, nat_lit 0, []), (nat_lit 3, nat_lit 24, nat_lit 3, nat_lit 142, nat_lit 121, .ofNat (nat_lit 0), nat_lit 3, nat_lit 1665, nat_lit 341, []), (nat_lit 6, nat_lit 14, nat_lit 3, nat_lit 0, nat_lit 1, .ofNat (nat_lit 5), nat_lit 0, nat_lit 0, nat_lit 0, []), (nat_lit 9, nat_lit 3, nat_lit 1, nat_lit 0, nat_lit 0, .negSucc (nat_lit 0), nat_lit 0, nat_lit 0, nat_lit 0, []), (nat_lit 10, nat_lit 6, nat_lit 1, nat_lit 0, nat_lit 0, .ofNat (nat_lit 0), nat_lit 0, nat_lit 0, nat_lit 0, []), (nat_lit 11, nat_lit 0, nat_lit 1, nat_lit 0, nat_lit 0, .ofNat (nat_lit 0), nat_lit 0, nat_lit 0, nat_lit 0, []), (nat_lit 12, nat_lit 1, nat_lit 1, nat_lit 2, nat_lit 0, .ofNat (nat_lit 0), nat_lit 0, nat_lit 0, nat_lit 0, []), (nat_lit 13, nat_lit 8, nat_lit 3, nat_lit 148, nat_lit 120, .ofNat (nat_lit 0), nat_lit 1, nat_lit 1945, nat_lit 468, [])], [(nat_lit 16, nat_lit 3, nat_lit 1, nat_lit 0, nat_lit 0, .negSucc (nat_lit 0), nat_lit 0, nat_lit 0, nat_lit 0, []), (nat_lit 17, nat_lit 11, nat_lit 1, nat_lit 3, nat_lit 0, .ofNat (nat_lit 0), nat_lit 0, nat_lit 0, nat_lit 0, []), (nat_lit 18, nat_lit 3, nat_lit 1, nat_lit 0, nat_lit 0, .ofNat (nat_lit 0), nat_lit 0, nat_lit 0, nat_lit 0, []), (nat_lit 19, nat_lit 25, nat_lit 2, nat_lit 4, nat_lit 0, .ofNat (nat_lit 0), nat_lit 0, nat_lit 0, nat_lit 0, []), (nat_lit 21, nat_lit 22, nat_lit 2, nat_lit 4, nat_lit 0, .ofNat (nat_lit 0), nat_lit 0, nat_lit 0, nat_lit 0, []), (nat_lit 23, nat_lit 3, nat_lit 1, nat_lit 0, nat_lit 0, .ofNat (nat_lit 1), nat_lit 0, nat_lit 0, nat_lit 0, []), (nat_lit 24, nat_lit 0, nat_lit 1, nat_lit 0, nat_lit 0, .ofNat (nat_lit 0), nat_lit 0, nat_lit 0, nat_lit 0, []), (nat_lit 25, nat_lit 8, nat_lit 3, nat_lit 155, nat_lit 120, .ofNat (nat_lit 0), nat_lit 0, nat_lit 1320, nat_lit 345, []), (nat_lit 28, nat_lit 17, nat_lit 1, nat_lit 0, nat_lit 0, .ofNat (nat_lit 0), nat_lit 0, nat_lit 0, nat_lit 0, []), (nat_lit 29, nat_lit 4, nat_lit 3, nat_lit 0, nat_lit 3, .ofNat (nat_lit 37), nat_lit 0, nat_lit 0, nat_lit 0, [])], [(nat_lit 32, nat_lit 1, nat_lit 1, nat_lit 3, nat_lit 0, .ofNat (nat_lit 0), nat_lit 0, nat_lit 0, nat_lit 0, []), (nat_lit 33, nat_lit 14, nat_lit 3, nat_lit 0, nat_lit 2, .ofNat (nat_lit 15), nat_lit 0, nat_lit 0, nat_lit 0, [])], [(nat_lit 48, nat_lit 0, nat_lit 1, nat_lit 0, nat_lit 0, .ofNat (nat_lit 0), nat_lit 0, nat_lit 0, nat_lit 0, []), (nat_lit 49, nat_lit 22, nat_lit 2, nat_lit 4, nat_lit 0, .ofNat (nat_lit 0), nat_lit 0, nat_lit 0, nat_lit 0, []), (nat_lit 51, nat_lit 8, nat_lit 3, nat_lit 122, nat_lit 120, .ofNat (nat_lit 0), nat_lit 1, nat_lit 2000, nat_lit 483, []), (nat_lit 54, nat_lit 14, nat_lit 3, nat_lit 0, nat_lit 0, .ofNat (nat_lit 6), nat_lit 0, nat_lit 0, nat_lit 0, []), (nat_lit 60, nat_lit 7, nat_lit 3, nat_lit 4, nat_lit 0, .ofNat (nat_lit 1), nat_lit 0, nat_lit 0, nat_lit 0, []), (nat_lit 63, nat_lit 5, nat_lit 3, nat_lit 0, nat_lit 0, .negSucc (nat_lit 41), nat_lit 0, nat_lit 0, nat_lit 0, [])], [(nat_lit 66, nat_lit 1, nat_lit 1, nat_lit 3, nat_lit 0, .ofNat (nat_lit 0), nat_lit 0, nat_lit 0, nat_lit 0, []), (nat_lit 67, nat_lit 14, nat_lit 3, nat_lit 0, nat_lit 3, .ofNat (nat_lit 7), nat_lit 0, nat_lit 0, nat_lit 0, []), (nat_lit 70, nat_lit 3, nat_lit 1, nat_lit 0, nat_lit 0, .negSucc (nat_lit 0), nat_lit 0, nat_lit 0, nat_lit 0, []), (nat_lit 71, nat_lit 5, nat_lit 3, nat_lit 0, nat_lit 0, .ofNat (nat_lit 15), nat_lit 0, nat_lit 0, nat_lit 0, [])], [(nat_lit 86, nat_lit 6, nat_lit 1, nat_lit 0, nat_lit 0, .ofNat (nat_lit 0), nat_lit 0, nat_lit 0, nat_lit 0, [])]]
def rx_c173 : List (List rx_E) := [[(nat_lit 0, nat_lit 0, nat_lit 1, nat_lit 0, nat_lit 0, .ofNat (nat_lit 0), nat_lit 0, nat_lit 0, nat_lit 0, []), (nat_lit 1, nat_lit 8, nat_lit 3, nat_lit 147, nat_lit 120, .ofNat (nat_lit 0), nat_lit 0, nat_lit 1800, nat_lit 411, []), (nat_lit 4, nat_lit 3, nat_lit 1, nat_lit 0, nat_lit 0, .ofNat (nat_lit 0), nat_lit 0, nat_lit 0, nat_lit 0, []), (nat_lit 5, nat_lit 11, nat_lit 1, nat_lit 1, nat_lit 0, .ofNat (nat_lit 0), nat_lit 0, nat_lit 0, nat_lit 0, []), (nat_lit 6, nat_lit 3, nat_lit 1, nat_lit 0, nat_lit 0, .ofNat (nat_lit 0), nat_lit 0, nat_lit 0, nat_lit 0, []), (nat_lit 7, nat_lit 11, nat_lit 1, nat_lit 2, nat_lit 0, .ofNat (nat_lit 0), nat_lit 0, nat_lit 0, nat_lit 0, []), (nat_lit 8, nat_lit 1, nat_lit 1, nat_lit 2, nat_lit 0, .ofNat (nat_lit 0), nat_lit 0, nat_lit 0, nat_lit 0, []), (nat_lit 9, nat_lit 0, nat_lit 1, nat_lit 0, nat_lit 0, .ofNat (nat_lit 0), nat_lit 0, nat_lit 0, nat_lit 0, []), (nat_lit 10, nat_lit 8, nat_lit 3, nat_lit 155, nat_lit 120, .ofNat (nat_lit 0), nat_lit 0, nat_lit 1320, nat_lit 345, []), (nat_lit 13, nat_lit 4, nat_lit 3, nat_lit 0, nat_lit 3, .ofNat (nat_lit 27), nat_lit 0, nat_lit 0, nat_lit 0, [])], [], [(nat_lit 40, nat_lit 1, nat_lit 1, nat_lit 1, nat_lit 0, .ofNat (nat_lit 0), nat_lit 0, nat_lit 0, nat_lit 0, []), (nat_lit 41, nat_lit 6, nat_lit 1, nat_lit 0, nat_lit 0, .ofNat (nat_lit 0), nat_lit 0, nat_lit 0, nat_lit 0, [])]]
def rx_c174 : List (List rx_E) := [[(nat_lit 0, nat_lit 0, nat_lit 1, nat_lit 0, nat_lit 0, .ofNat (nat_lit 0), nat_lit 0, nat_lit 0, nat_lit 0, []), (nat_lit 1, nat_lit 1, nat_lit 1, nat_lit 1, nat_lit 0, .ofNat (nat_lit 0), nat_lit 0, nat_lit 0, nat_lit 0, []), (nat_lit 2, nat_lit 8, nat_lit 3, nat_lit 140, nat_lit 120, .ofNat (nat_lit 0), nat_lit 1, nat_lit 1661, nat_lit 383, []), (nat_lit 5, nat_lit 14, nat_lit 3, nat_lit 0, nat_lit 0, .ofNat (nat_lit 16), nat_lit 0, nat_lit 0, nat_lit 0, [])], [(nat_lit 21, nat_lit 3, nat_lit 1, nat_lit 0, nat_lit 0, .negSucc (nat_lit 0), nat_lit 0, nat_lit 0, nat_lit 0, []), (nat_lit 22, nat_lit 6, nat_lit 1, nat_lit 0, nat_lit 0, .ofNat (nat_lit 0), nat_lit 0, nat_lit 0, nat_lit 0, [])]]
def rx_c175 : List (List rx_E) := [[(nat_lit 0, nat_lit 0, nat_lit 1, nat_lit 0, nat_lit 0, .ofNat (nat_lit 0), nat_lit 0, nat_lit 0, nat_lit 0, []), (nat_lit 1, nat_lit 2, nat_lit 3, nat_lit 12, nat_lit 44, .ofNat (nat_lit 0), nat_lit 0, nat_lit 1368, nat_lit 371, []), (nat_lit 4, nat_lit 14, nat_lit 3, nat_lit 0, nat_lit 1, .ofNat (nat_lit 5), nat_lit 0, nat_lit 0, nat_lit 0, []), (nat_lit 7, nat_lit 3, nat_lit 1, nat_lit 0, nat_lit 0, .ofNat (nat_lit 0), nat_lit 0, nat_lit 0, nat_lit 0, []), (nat_lit 8, nat_lit 6, nat_lit 1, nat_lit 0, nat_lit 0, .ofNat (nat_lit 0), nat_lit 0, nat_lit 0, nat_lit 0, [])]]
def rx_c176 : List (List rx_E) := [[(nat_lit 0, nat_lit 0, nat_lit 1, nat_lit 0, nat_lit 0, .ofNat (nat_lit 0), nat_lit 0, nat_lit 0, nat_lit 0, []), (nat_lit 1, nat_lit 1, nat_lit 1, nat_lit 1, nat_lit 0, .ofNat (nat_lit 0), nat_lit 0, nat_lit 0, nat_lit 0, []), (nat_lit 2, nat_lit 8, nat_lit 3, nat_lit 144, nat_lit 120, .ofNat (nat_lit 0), nat_lit 1, nat_lit 1672, nat_lit 386, []), (nat_lit 5, nat_lit 14, nat_lit 3, nat_lit 0, nat_lit 1, .ofNat (nat_lit 5), nat_lit 0, nat_lit 0, nat_lit 0, []), (nat_lit 8, nat_lit 3, nat_lit 1, nat_lit 0, nat_lit 0, .negSucc (nat_lit 0), nat_lit 0, nat_lit 0, nat_lit 0, []), (nat_lit 9, nat_lit 6, nat_lit 1, nat_lit 0, nat_lit 0, .ofNat (nat_lit 0), nat_lit 0, nat_lit 0, nat_lit 0, [])]]
def rx_c177 : List (List rx_E) := [[(nat_lit 0, nat_lit 1, nat_lit 1, nat_lit 1, nat_lit 0, .ofNat (nat_lit 0), nat_lit 0, nat_lit 0, nat_lit 0, []), (nat_lit 1, nat_lit 3, nat_lit 1, nat_lit 0, nat_lit 0, .ofNat (nat_lit 0), nat_lit 0, nat_lit 0, nat_lit 0, []), (nat_lit 2, nat_lit 0, nat_lit 1, nat_lit 0, nat_lit 0, .ofNat (nat_lit 0), nat_lit 0, nat_lit 0, nat_lit 0, []), (nat_lit 3, nat_lit 2, nat_lit 3, nat_lit 12, nat_lit 58, .ofNat (nat_lit 0), nat_lit 0, nat_lit 1382, nat_lit 377, []), (nat_lit 6, nat_lit 3, nat_lit 1, nat_lit 0, nat_lit 0, .ofNat (nat_lit 1), nat_lit 0, nat_lit 0, nat_lit 0, []), (nat_lit 7, nat_lit 23, nat_lit 1, nat_lit 0, nat_lit 0, .ofNat (nat_lit 0), nat_lit 0, nat_lit 0, nat_lit 0, []), (nat_lit 8, nat_lit 24, nat_lit 3, nat_lit 142, nat_lit 121, .ofNat (nat_lit 0), nat_lit 3, nat_lit 1665, nat_lit 341, []), (nat_lit 11, nat_lit 14, nat_lit 3, nat_lit 0, nat_lit 0, .ofNat (nat_lit 12), nat_lit 0, nat_lit 0, nat_lit 0, [])], [(nat_lit 23, nat_lit 3, nat_lit 1, nat_lit 0, nat_lit 0, .ofNat (nat_lit 0), nat_lit 0, nat_lit 0, nat_lit 0, []), (nat_lit 24, nat_lit 6, nat_lit 1, nat_lit 0, nat_lit 0, .ofNat (nat_lit 0), nat_lit 0, nat_lit 0, nat_lit 0, [])]]
def rx_c178 : List (List rx_E) := [[(nat_lit 0, nat_lit 0, nat_lit 1, nat_lit 0, nat_lit 0, .ofNat (nat_lit 0), nat_lit 0, nat_lit 0, nat_lit 0, []), (nat_lit 1, nat_lit 1, nat_lit 1, nat_lit 1, nat_lit 0, .ofNat (nat_lit 0), nat_lit 0, nat_lit 0, nat_lit 0, []), (nat_lit 2, nat_lit 8, nat_lit 3, nat_lit 148, nat_lit 120, .ofNat (nat_lit 0), nat_lit 1, nat_lit 1945, nat_lit 468, []), (nat_lit 5, nat_lit 3, nat_lit 1, nat_lit 0, nat_lit 0, .ofNat (nat_lit 0), nat_lit 0, nat_lit 0, nat_lit 0, []), (nat_lit 6, nat_lit 11, nat_lit 1, nat_lit 2, nat_lit 0, .ofNat (nat_lit 0), nat_lit 0, nat_lit 0, nat_lit 0, []), (nat_lit 7, nat_lit 3, nat_lit 1, nat_lit 0, nat_lit 0, .ofNat (nat_lit 0), nat_lit 0, nat_lit 0, nat_lit 0, []), (nat_lit 8, nat_lit 11, nat_lit 1, nat_lit 3, nat_lit 0, .ofNat (nat_lit 0), nat_lit 0, nat_lit 0, nat_lit 0, []), (nat_lit 9, nat_lit 1, nat_lit 1, nat_lit 3, nat_lit 0, .ofNat (nat_lit 0), nat_lit 0, nat_lit 0, nat_lit 0, []), (nat_lit 10, nat_lit 0, nat_lit 1, nat_lit 0, nat_lit 0, .ofNat (nat_lit 0), nat_lit 0, nat_lit 0, nat_lit 0, []), (nat_lit 11, nat_lit 2, nat_lit 3, nat_lit 12, nat_lit 12, .ofNat (nat_lit 0), nat_lit 12, nat_lit 1336, nat_lit 24, []), (nat_lit 14, nat_lit 0, nat_lit 1, nat_lit 0, nat_lit 0, .ofNat (nat_lit 0), nat_lit 0, nat_lit 0, nat_lit 0, []), (nat_lit 15, nat_lit 2, nat_lit 3, nat_lit 12, nat_lit 31, .ofNat (nat_lit 0), nat_lit 0, nat_lit 1355, nat_lit 251, [])], [(nat_lit 18, nat_lit 9, nat_lit 1, nat_lit 0, nat_lit 0, .ofNat (nat_lit 0), nat_lit 0, nat_lit 0, nat_lit 0, []), (nat_lit 19, nat_lit 4, nat_lit 3, nat_lit 0, nat_lit 3, .ofNat (nat_lit 31), nat_lit 0, nat_lit 0, nat_lit 0, [])], [], [(nat_lit 50, nat_lit 1, nat_lit 1, nat_lit 2, nat_lit 0, .ofNat (nat_lit 0), nat_lit 0, nat_lit 0, nat_lit 0, []), (nat_lit 51, nat_lit 6, nat_lit 1, nat_lit 0, nat_lit 0, .ofNat (nat_lit 0), nat_lit 0, nat_lit 0, nat_lit 0, [])]]
def rx_c179 : List (List rx_E) := [[(nat_lit 0, nat_lit 0, nat_lit 1, nat_lit 0, nat_lit 0, .ofNat (nat_lit 0), nat_lit 0, nat_lit 0, nat_lit 0, []), (nat_lit 1, nat_lit 1, nat_lit 1, nat_lit 1, nat_lit 0, .ofNat (nat_lit 0), nat_lit 0, nat_lit 0, nat_lit 0, []), (nat_lit 2, nat_lit 8, nat_lit 3, nat_lit 144, nat_lit 120, .ofNat (nat_lit 0), nat_lit 1, nat_lit 1672, nat_lit 386, []), (nat_lit 5, nat_lit 14, nat_lit 3, nat_lit 0, nat_lit 0, .ofNat (nat_lit 11), nat_lit 0, nat_lit 0, nat_lit 0, [])], [(nat_lit 16, nat_lit 3, nat_lit 1, nat_lit 0, nat_lit 0, .negSucc (nat_lit 0), nat_lit 0, nat_lit 0, nat_lit 0, []), (nat_lit 17, nat_lit 6, nat_lit 1, nat_lit 0, nat_lit 0, .ofNat (nat_lit 0), nat_lit 0, nat_lit 0, nat_lit 0, [])]]
def rx_c180 : List (List rx_E) := [[(nat_lit 0, nat_lit 0, nat_lit 1, nat_lit 0, nat_lit 0, .ofNat (nat_lit 0), nat_lit 0, nat_lit 0, nat_lit 0, []), (nat_lit 1, nat_lit 2, nat_lit 3, nat_lit 12, nat_lit 11, .ofNat (nat_lit 0), nat_lit 12, nat_lit 1335, nat_lit 20, []), (nat_lit 4, nat_lit 0, nat_lit 1, nat_lit 0, nat_lit 0, .ofNat (nat_lit 0), nat_lit 0, nat_lit 0, nat_lit 0, []), (nat_lit 5, nat_lit 2, nat_lit 3, nat_lit 12, nat_lit 31, .ofNat (nat_lit 0), nat_lit 0, nat_lit 1355, nat_lit 251, []), (nat_lit 8, nat_lit 9, nat_lit 1, nat_lit 0, nat_lit 0, .ofNat (nat_lit 0), nat_lit 0, nat_lit 0, nat_lit 0, []), (nat_lit 9, nat_lit 6, nat_lit 1, nat_lit 0, nat_lit 0, .ofNat (nat_lit 0), nat_lit 0, nat_lit 0, nat_lit 0, [])]]
def rx_c181 : List (List rx_E) := [[(nat_lit 0, nat_lit 0, nat_lit 1, nat_lit 0, nat_lit 0, .ofNat (nat_lit 0), nat_lit 0, nat_lit 0, nat_lit 0, []), (nat_lit 1, nat_lit 1, nat_lit 1, nat_lit 1, nat_lit 0, .ofNat (nat_lit 0), nat_lit 0, nat_lit 0, nat_lit 0, []), (nat_lit 2, nat_lit 8, nat_lit 3, nat_lit 144, nat_lit 120, .ofNat (nat_lit 0), nat_lit 1, nat_lit 1672, nat_lit 386, []), (nat_lit 5, nat_lit 14, nat_lit 3, nat_lit 0, nat_lit 1, .ofNat (nat_lit 5), nat_lit 0, nat_lit 0, nat_lit 0, []), (nat_lit 8, nat_lit 3, nat_lit 1, nat_lit 0, nat_lit 0, .negSucc (nat_lit 0), nat_lit 0, nat_lit 0, nat_lit 0, []), (nat_lit 9, nat_lit 6, nat_lit 1, nat_lit 0, nat_lit 0, .ofNat (nat_lit 0), nat_lit 0, nat_lit 0, nat_lit 0, [])]]
def rx_c182 : List (List rx_E) := [[(nat_lit 0, nat_lit 3, nat_lit 1, nat_lit 0, nat_lit 0, .ofNat (nat_lit 0), nat_lit 0, nat_lit 0, nat_lit 0, []), (nat_lit 1, nat_lit 11, nat_lit 1, nat_lit 2, nat_lit 0, .ofNat (nat_lit 0), nat_lit 0, nat_lit 0, nat_lit 0, []), (nat_lit 2, nat_lit 3, nat_lit 1, nat_lit 0, nat_lit 0, .ofNat (nat_lit 0), nat_lit 0, nat_lit 0, nat_lit 0, []), (nat_lit 3, nat_lit 11, nat_lit 1, nat_lit 3, nat_lit 0, .ofNat (nat_lit 0), nat_lit 0, nat_lit 0, nat_lit 0, []), (nat_lit 4, nat_lit 1, nat_lit 1, nat_lit 3, nat_lit 0, .ofNat (nat_lit 0), nat_lit 0, nat_lit 0, nat_lit 0, []), (nat_lit 5, nat_lit 0, nat_lit 1, nat_lit 0, nat_lit 0, .ofNat (nat_lit 0), nat_lit 0, nat_lit 0, nat_lit 0, []), (nat_lit 6, nat_lit 2, nat_lit 3, nat_lit 12, nat_lit 60, .ofNat (nat_lit 0), nat_lit 0, nat_lit 1384, nat_lit 462, []), (nat_lit 9, nat_lit 4, nat_lit 3, nat_lit 0, nat_lit 3, .ofNat (nat_lit 22), nat_lit 0, nat_lit 0, nat_lit 0, []), (nat_lit 12, nat_lit 1, nat_lit 1, nat_lit 2, nat_lit 0, .ofNat (nat_lit 0), nat_lit 0, nat_lit 0, nat_lit 0, []), (nat_lit 13, nat_lit 0, nat_lit 1, nat_lit 0, nat_lit 0, .ofNat (nat_lit 0), nat_lit 0, nat_lit 0, nat_lit 0, []), (nat_lit 14, nat_lit 2, nat_lit 3, nat_lit 12, nat_lit 56, .ofNat (nat_lit 0), nat_lit 12, nat_lit 1380, nat_lit 119, [])], [(nat_lit 17, nat_lit 1, nat_lit 1, nat_lit 3, nat_lit 0, .ofNat (nat_lit 0), nat_lit 0, nat_lit 0, nat_lit 0, []), (nat_lit 18, nat_lit 9, nat_lit 1, nat_lit 0, nat_lit 0, .ofNat (nat_lit 0), nat_lit 0, nat_lit 0, nat_lit 0, []), (nat_lit 19, nat_lit 1, nat_lit 1, nat_lit 1, nat_lit 0, .ofNat (nat_lit 0), nat_lit 0, nat_lit 0, nat_lit 0, []), (nat_lit 20, nat_lit 19, nat_lit 1, nat_lit 0, nat_lit 0, .ofNat (nat_lit 0), nat_lit 0, nat_lit 0, nat_lit 0, []), (nat_lit 21, nat_lit 3, nat_lit 1, nat_lit 0, nat_lit 0, .ofNat (nat_lit 1), nat_lit 0, nat_lit 0, nat_lit 0, []), (nat_lit 22, nat_lit 18, nat_lit 1, nat_lit 0, nat_lit 0, .ofNat (nat_lit 0), nat_lit 0, nat_lit 0, nat_lit 0, []), (nat_lit 23, nat_lit 12, nat_lit 1, nat_lit 0, nat_lit 0, .ofNat (nat_lit 0), nat_lit 0, nat_lit 0, nat_lit 0, []), (nat_lit 24, nat_lit 11, nat_lit 1, nat_lit 2, nat_lit 0, .ofNat (nat_lit 0), nat_lit 0, nat_lit 0, nat_lit 0, []), (nat_lit 25, nat_lit 7, nat_lit 3, nat_lit 3, nat_lit 0, .ofNat (nat_lit 1), nat_lit 0, nat_lit 0, nat_lit 0, []), (nat_lit 28, nat_lit 5, nat_lit 3, nat_lit 0, nat_lit 0, .negSucc (nat_lit 23), nat_lit 0, nat_lit 0, nat_lit 0, []), (nat_lit 31, nat_lit 1, nat_lit 1, nat_lit 2, nat_lit 0, .ofNat (nat_lit 0), nat_lit 0, nat_lit 0, nat_lit 0, [])], [(nat_lit 32, nat_lit 6, nat_lit 1, nat_lit 0, nat_lit 0, .ofNat (nat_lit 0), nat_lit 0, nat_lit 0, nat_lit 0, [])]]
def rx_c183 : List (List rx_E) := [[(nat_lit 0, nat_lit 1, nat_lit 1, nat_lit 0, nat_lit 0, .ofNat (nat_lit 0), nat_lit 0, nat_lit 0, nat_lit 0, []), (nat_lit 1, nat_lit 1, nat_lit 1, nat_lit 0, nat_lit 0, .ofNat (nat_lit 0), nat_lit 0, nat_lit 0, nat_lit 0, []), (nat_lit 2, nat_lit 3, nat_lit 1, nat_lit 0, nat_lit 0, .ofNat (nat_lit 1), nat_lit 0, nat_lit 0, nat_lit 0, []), (nat_lit 3, nat_lit 29, nat_lit 1, nat_lit 0, nat_lit 0, .ofNat (nat_lit 0), nat_lit 0, nat_lit 0, nat_lit 0, []), (nat_lit 4, nat_lit 30, nat_lit 3, nat_lit 0, nat_lit 0, .ofNat (nat_lit 1431655765), nat_lit 0, nat_lit 824, nat_lit 265, []), (nat_lit 7, nat_lit 18, nat_lit 1, nat_lit 0, nat_lit 0, .ofNat (nat_lit 0), nat_lit 0, nat_lit 0, nat_lit 0, []), (nat_lit 8, nat_lit 23, nat_lit 1, nat_lit 0, nat_lit 0, .ofNat (nat_lit 0), nat_lit 0, nat_lit 0, nat_lit 0, []), (nat_lit 9, nat_lit 11, nat_lit 1, nat_lit 0, nat_lit 0, .ofNat (nat_lit 0), nat_lit 0, nat_lit 0, nat_lit 0, []), (nat_lit 10, nat_lit 1, nat_lit 1, nat_lit 0, nat_lit 0, .ofNat (nat_lit 0), nat_lit 0, nat_lit 0, nat_lit 0, []), (nat_lit 11, nat_lit 30, nat_lit 3, nat_lit 0, nat_lit 0, .ofNat (nat_lit 858993459), nat_lit 0, nat_lit 825, nat_lit 266, []), (nat_lit 14, nat_lit 18, nat_lit 1, nat_lit 0, nat_lit 0, .ofNat (nat_lit 0), nat_lit 0, nat_lit 0, nat_lit 0, []), (nat_lit 15, nat_lit 1, nat_lit 1, nat_lit 0, nat_lit 0, .ofNat (nat_lit 0), nat_lit 0, nat_lit 0, nat_lit 0, [])], [(nat_lit 16, nat_lit 3, nat_lit 1, nat_lit 0, nat_lit 0, .ofNat (nat_lit 2), nat_lit 0, nat_lit 0, nat_lit 0, []), (nat_lit 17, nat_lit 29, nat_lit 1, nat_lit 0, nat_lit 0, .ofNat (nat_lit 0), nat_lit 0, nat_lit 0, nat_lit 0, []), (nat_lit 18, nat_lit 30, nat_lit 3, nat_lit 0, nat_lit 0, .ofNat (nat_lit 858993459), nat_lit 0, nat_lit 825, nat_lit 266, []), (nat_lit 21, nat_lit 18, nat_lit 1, nat_lit 0, nat_lit 0, .ofNat (nat_lit 0), nat_lit 0, nat_lit 0, nat_lit 0, []), (nat_lit 22, nat_lit 12, nat_lit 1, nat_lit 0, nat_lit 0, .ofNat (nat_lit 0), nat_lit 0, nat_lit 0, nat_lit 0, []), (nat_lit 23, nat_lit 11, nat_lit 1, nat_lit 0, nat_lit 0, .ofNat (nat_lit 0), nat_lit 0, nat_lit 0, nat_lit 0, []), (nat_lit 24, nat_lit 1, nat_lit 1, nat_lit 0, nat_lit 0, .ofNat (nat_lit 0), nat_lit 0, nat_lit 0, nat_lit 0, []), (nat_lit 25, nat_lit 1, nat_lit 1, nat_lit 0, nat_lit 0, .ofNat (nat_lit 0), nat_lit 0, nat_lit 0, nat_lit 0, []), (nat_lit 26, nat_lit 3, nat_lit 1, nat_lit 0, nat_lit 0, .ofNat (nat_lit 4), nat_lit 0, nat_lit 0, nat_lit 0, []), (nat_lit 27, nat_lit 29, nat_lit 1, nat_lit 0, nat_lit 0, .ofNat (nat_lit 0), nat_lit 0, nat_lit 0, nat_lit 0, []), (nat_lit 28, nat_lit 12, nat_lit 1, nat_lit 0, nat_lit 0, .ofNat (nat_lit 0), nat_lit 0, nat_lit 0, nat_lit 0, []), (nat_lit 29, nat_lit 30, nat_lit 3, nat_lit 0, nat_lit 0, .ofNat (nat_lit 252645135), nat_lit 0, nat_lit 826, nat_lit 267, [])], [(nat_lit 32, nat_lit 18, nat_lit 1, nat_lit 0, nat_lit 0, .ofNat (nat_lit 0), nat_lit 0, nat_lit 0, nat_lit 0, []), (nat_lit 33, nat_lit 11, nat_lit 1, nat_lit 0, nat_lit 0, .ofNat (nat_lit 0), nat_lit 0, nat_lit 0, nat_lit 0, []), (nat_lit 34, nat_lit 1, nat_lit 1, nat_lit 0, nat_lit 0, .ofNat (nat_lit 0), nat_lit 0, nat_lit 0, nat_lit 0, []), (nat_lit 35, nat_lit 1, nat_lit 1, nat_lit 0, nat_lit 0, .ofNat (nat_lit 0), nat_lit 0, nat_lit 0, nat_lit 0, []), (nat_lit 36, nat_lit 21, nat_lit 2, nat_lit 0, nat_lit 0, .ofNat (nat_lit 8), nat_lit 0, nat_lit 0, nat_lit 0, []), (nat_lit 38, nat_lit 29, nat_lit 1, nat_lit 0, nat_lit 0, .ofNat (nat_lit 0), nat_lit 0, nat_lit 0, nat_lit 0, []), (nat_lit 39, nat_lit 12, nat_lit 1, nat_lit 0, nat_lit 0, .ofNat (nat_lit 0), nat_lit 0, nat_lit 0, nat_lit 0, []), (nat_lit 40, nat_lit 11, nat_lit 1, nat_lit 0, nat_lit 0, .ofNat (nat_lit 0), nat_lit 0, nat_lit 0, nat_lit 0, []), (nat_lit 41, nat_lit 1, nat_lit 1, nat_lit 0, nat_lit 0, .ofNat (nat_lit 0), nat_lit 0, nat_lit 0, nat_lit 0, []), (nat_lit 42, nat_lit 1, nat_lit 1, nat_lit 0, nat_lit 0, .ofNat (nat_lit 0), nat_lit 0, nat_lit 0, nat_lit 0, []), (nat_lit 43, nat_lit 21, nat_lit 2, nat_lit 0, nat_lit 0, .ofNat (nat_lit 16), nat_lit 0, nat_lit 0, nat_lit 0, []), (nat_lit 45, nat_lit 29, nat_lit 1, nat_lit 0, nat_lit 0, .ofNat (nat_lit 0), nat_lit 0, nat_lit 0, nat_lit 0, []), (nat_lit 46, nat_lit 12, nat_lit 1, nat_lit 0, nat_lit 0, .ofNat (nat_lit 0), nat_lit 0, nat_lit 0, nat_lit 0, []), (nat_lit 47, nat_lit 11, nat_lit 1, nat_lit 0, nat_lit 0, .ofNat (nat_lit 0), nat_lit 0, nat_lit 0, nat_lit 0, [])], [(nat_lit 48, nat_lit 1, nat_lit 1, nat_lit 0, nat_lit 0, .ofNat (nat_lit 0), nat_lit 0, nat_lit 0, nat_lit 0, []), (nat_lit 49, nat_lit 21, nat_lit 2, nat_lit 0, nat_lit 0, .ofNat (nat_lit 63), nat_lit 0, nat_lit 0, nat_lit 0, []), (nat_lit 51, nat_lit 18, nat_lit 1, nat_lit 0, nat_lit 0, .ofNat (nat_lit 0), nat_lit 0, nat_lit 0, nat_lit 0, []), (nat_lit 52, nat_lit 6, nat_lit 1, nat_lit 0, nat_lit 0, .ofNat (nat_lit 0), nat_lit 0, nat_lit 0, nat_lit 0, [])]]
def rx_c184 : List (List rx_E) := [[(nat_lit 0, nat_lit 3, nat_lit 1, nat_lit 0, nat_lit 0, .ofNat (nat_lit 0), nat_lit 0, nat_lit 0, nat_lit 0, []), (nat_lit 1, nat_lit 11, nat_lit 1, nat_lit 2, nat_lit 0, .ofNat (nat_lit 0), nat_lit 0, nat_lit 0, nat_lit 0, []), (nat_lit 2, nat_lit 0, nat_lit 1, nat_lit 0, nat_lit 0, .ofNat (nat_lit 0), nat_lit 0, nat_lit 0, nat_lit 0, []), (nat_lit 3, nat_lit 27, nat_lit 1, nat_lit 0, nat_lit 0, .ofNat (nat_lit 0), nat_lit 0, nat_lit 0, nat_lit 0, []), (nat_lit 4, nat_lit 11, nat_lit 1, nat_lit 3, nat_lit 0, .ofNat (nat_lit 0), nat_lit 0, nat_lit 0, nat_lit 0, []), (nat_lit 5, nat_lit 1, nat_lit 1, nat_lit 2, nat_lit 0, .ofNat (nat_lit 0), nat_lit 0, nat_lit 0, nat_lit 0, []), (nat_lit 6, nat_lit 1, nat_lit 1, nat_lit 3, nat_lit 0, .ofNat (nat_lit 0), nat_lit 0, nat_lit 0, nat_lit 0, []), (nat_lit 7, nat_lit 4, nat_lit 3, nat_lit 0, nat_lit 3, .ofNat (nat_lit 13), nat_lit 0, nat_lit 0, nat_lit 0, []), (nat_lit 10, nat_lit 0, nat_lit 1, nat_lit 0, nat_lit 0, .ofNat (nat_lit 0), nat_lit 0, nat_lit 0, nat_lit 0, []), (nat_lit 11, nat_lit 1, nat_lit 1, nat_lit 2, nat_lit 0, .ofNat (nat_lit 0), nat_lit 0, nat_lit 0, nat_lit 0, []), (nat_lit 12, nat_lit 1, nat_lit 1, nat_lit 1, nat_lit 0, .ofNat (nat_lit 0), nat_lit 0, nat_lit 0, nat_lit 0, []), (nat_lit 13, nat_lit 10, nat_lit 1, nat_lit 0, nat_lit 0, .ofNat (nat_lit 0), nat_lit 0, nat_lit 0, nat_lit 0, []), (nat_lit 14, nat_lit 7, nat_lit 3, nat_lit 2, nat_lit 0, .ofNat (nat_lit 1), nat_lit 0, nat_lit 0, nat_lit 0, [])], [(nat_lit 17, nat_lit 5, nat_lit 3, nat_lit 0, nat_lit 0, .negSucc (nat_lit 11), nat_lit 0, nat_lit 0, nat_lit 0, []), (nat_lit 20, nat_lit 26, nat_lit 1, nat_lit 0, nat_lit 0, .ofNat (nat_lit 0), nat_lit 0, nat_lit 0, nat_lit 0, [])]]
def rx_tab : List (List rx_R) := [[(x, code, 4, (some .boolean), 0, 0, 0, rx_c0), (({ cls := "MirrorLies", name := "<init>", desc := "()V" }), prog_1_method_1_code, 2, none, 3, 106, 13787, rx_c1), (({ cls := "MirrorLies", name := "about", desc := "(I)I" }), prog_1_method_57_code, 2, (some .int), 1, 0, 0, rx_c2), (({ cls := "MirrorLies", name := "alike", desc := "()I" }), prog_1_method_29_code, 4, (some .int), 2, 0, 0, rx_c3), (({ cls := "MirrorLies", name := "apart", desc := "(II)I" }), prog_1_method_30_code, 3, (some .int), 2, 0, 0, rx_c4), (({ cls := "MirrorLies", name := "ask", desc := "(II)I" }), prog_1_method_50_code, 7, (some .int), 3, 0, 0, rx_c5), (({ cls := "MirrorLies", name := "back", desc := "(I)I" }), prog_1_method_56_code, 2, (some .int), 2, 0, 0, rx_c6), (({ cls := "MirrorLies", name := "blind", desc := "(I)I" }), prog_1_method_21_code, 3, (some .int), 3, 0, 0, rx_c7), (({ cls := "MirrorLies", name := "breathe", desc := "(I)I" }), prog_1_method_11_code, 2, (some .int), 2, 0, 0, rx_c8), (({ cls := "MirrorLies", name := "changed", desc := "(I)I" }), prog_1_method_39_code, 4, (some .int), 2, 0, 0, rx_c9), (({ cls := "MirrorLies", name := "commonDivisor", desc := "(II)I" }), prog_1_method_68_code, 6, (some .int), 1, 0, 0, rx_c10), (({ cls := "MirrorLies", name := "course", desc := "(II)I" }), prog_1_method_52_code, 3, (some .int), 3, 0, 0, rx_c11), (({ cls := "MirrorLies", name := "crack", desc := "(II)I" }), prog_1_method_13_code, 3, (some .int), 2, 0, 0, rx_c12), (({ cls := "MirrorLies", name := "crossed", desc := "(II)I" }), prog_1_method_35_code, 7, (some .int), 2, 0, 0, rx_c13), (({ cls := "MirrorLies", name := "dream", desc := "(II)I" }), prog_1_method_25_code, 3, (some .int), 2, 0, 0, rx_c14), (({ cls := "MirrorLies", name := "dull", desc := "()I" }), prog_1_method_38_code, 3, (some .int), 2, 0, 0, rx_c15)],
  [(({ cls := "MirrorLies", name := "end", desc := "(I)I" }), prog_1_method_3_code, 2, (some .int), 1, 0, 0, rx_c16), (({ cls := "MirrorLies", name := "face", desc := "(I)I" }), prog_1_method_6_code, 2, (some .int), 2, 0, 0, rx_c17), (({ cls := "MirrorLies", name := "facing", desc := "(IIII)I" }), prog_1_method_19_code, 5, (some .int), 2, 0, 0, rx_c18), (({ cls := "MirrorLies", name := "fault", desc := "(I)I" }), prog_1_method_5_code, 2, (some .int), 1, 0, 0, rx_c19), (({ cls := "MirrorLies", name := "feed", desc := "(IIIII)I" }), prog_1_method_2_code, 6, (some .int), 2, 0, 0, rx_c20), (({ cls := "MirrorLies", name := "fixed", desc := "(II)I" }), prog_1_method_31_code, 6, (some .int), 2, 0, 0, rx_c21), (({ cls := "MirrorLies", name := "from", desc := "(III)I" }), prog_1_method_33_code, 8, (some .int), 2, 0, 0, rx_c22), (({ cls := "MirrorLies", name := "glass", desc := "(II)I" }), prog_1_method_54_code, 4, (some .int), 3, 0, 0, rx_c23), (({ cls := "MirrorLies", name := "hall", desc := "(IIIII)I" }), prog_1_method_17_code, 10, (some .int), 2, 0, 0, rx_c24), (({ cls := "MirrorLies", name := "hang", desc := "(I)I" }), prog_1_method_24_code, 2, (some .int), 2, 0, 0, rx_c25), (({ cls := "MirrorLies", name := "hangs", desc := "(II)I" }), prog_1_method_26_code, 3, (some .int), 2, 0, 0, rx_c26), (({ cls := "MirrorLies", name := "hasBoy", desc := "(I)Z" }), prog_1_method_58_code, 2, (some .boolean), 1, 0, 0, rx_c27), (({ cls := "MirrorLies", name := "hasMark", desc := "(I)Z" }), prog_1_method_60_code, 2, (some .boolean), 1, 0, 0, rx_c28), (({ cls := "MirrorLies", name := "hasMirror", desc := "(I)Z" }), prog_1_method_59_code, 2, (some .boolean), 1, 0, 0, rx_c29), (({ cls := "MirrorLies", name := "honest", desc := "(I)I" }), prog_1_method_28_code, 4, (some .int), 2, 0, 0, rx_c30), (({ cls := "MirrorLies", name := "image", desc := "(I)I" }), prog_1_method_55_code, 2, (some .int), 2, 0, 0, rx_c31)],
  [(({ cls := "MirrorLies", name := "inLowestTerms", desc := "(III)I" }), prog_1_method_67_code, 4, (some .int), 2, 0, 0, rx_c32), (({ cls := "MirrorLies", name := "isKept", desc := "(I)Z" }), prog_1_method_62_code, 2, (some .boolean), 1, 0, 0, rx_c33), (({ cls := "MirrorLies", name := "later", desc := "(I)I" }), prog_1_method_44_code, 2, (some .int), 1, 0, 0, rx_c34), (({ cls := "MirrorLies", name := "lie", desc := "(II)I" }), prog_1_method_8_code, 3, (some .int), 2, 0, 0, rx_c35), (({ cls := "MirrorLies", name := "lied", desc := "(II)I" }), prog_1_method_32_code, 5, (some .int), 2, 0, 0, rx_c36), (({ cls := "MirrorLies", name := "lies", desc := "(I)I" }), prog_1_method_41_code, 2, (some .int), 1, 0, 0, rx_c37), (({ cls := "MirrorLies", name := "like", desc := "(II)I" }), prog_1_method_45_code, 3, (some .int), 3, 0, 0, rx_c38), (({ cls := "MirrorLies", name := "longest", desc := "(II)I" }), prog_1_method_37_code, 7, (some .int), 2, 0, 0, rx_c39), (({ cls := "MirrorLies", name := "look", desc := "(II)I" }), prog_1_method_42_code, 3, (some .int), 2, 0, 0, rx_c40), (({ cls := "MirrorLies", name := "mark", desc := "(II)I" }), prog_1_method_10_code, 3, (some .int), 2, 0, 0, rx_c41), (({ cls := "MirrorLies", name := "mean", desc := "(III)I" }), prog_1_method_51_code, 4, (some .int), 3, 0, 0, rx_c42), (({ cls := "MirrorLies", name := "mend", desc := "(II)I" }), prog_1_method_23_code, 3, (some .int), 2, 0, 0, rx_c43), (({ cls := "MirrorLies", name := "mirror", desc := "(II)I" }), prog_1_method_7_code, 3, (some .int), 2, 0, 0, rx_c44), (({ cls := "MirrorLies", name := "moled", desc := "(II)I" }), prog_1_method_22_code, 7, (some .int), 2, 0, 0, rx_c45), (({ cls := "MirrorLies", name := "night", desc := "()I" }), prog_1_method_14_code, 1, (some .int), 5, 0, 0, rx_c46), (({ cls := "MirrorLies", name := "odds", desc := "(III)I" }), prog_1_method_49_code, 4, (some .int), 3, 0, 0, rx_c47)],
  [(({ cls := "MirrorLies", name := "oneOf", desc := "(III)I" }), prog_1_method_66_code, 3, (some .int), 1, 0, 0, rx_c48), (({ cls := "MirrorLies", name := "redo", desc := "()Z" }), prog_1_method_16_code, 1, (some .boolean), 2, 0, 0, rx_c49), (({ cls := "MirrorLies", name := "round", desc := "(III)I" }), prog_1_method_18_code, 4, (some .int), 2, 0, 0, rx_c50), (({ cls := "MirrorLies", name := "school", desc := "()I" }), prog_1_method_4_code, 2, (some .int), 5, 0, 0, rx_c51), (({ cls := "MirrorLies", name := "shows", desc := "(II)I" }), prog_1_method_9_code, 3, (some .int), 2, 0, 0, rx_c52), (({ cls := "MirrorLies", name := "sights", desc := "(I)I" }), prog_1_method_20_code, 2, (some .int), 2, 0, 0, rx_c53), (({ cls := "MirrorLies", name := "spread", desc := "(II)I" }), prog_1_method_47_code, 7, (some .int), 3, 0, 0, rx_c54), (({ cls := "MirrorLies", name := "sure", desc := "(II)I" }), prog_1_method_48_code, 4, (some .int), 3, 0, 0, rx_c55), (({ cls := "MirrorLies", name := "tell", desc := "(II)I" }), prog_1_method_53_code, 4, (some .int), 3, 0, 0, rx_c56), (({ cls := "MirrorLies", name := "trues", desc := "()I" }), prog_1_method_27_code, 3, (some .int), 1, 0, 0, rx_c57), (({ cls := "MirrorLies", name := "twins", desc := "(II)I" }), prog_1_method_34_code, 6, (some .int), 2, 0, 0, rx_c58), (({ cls := "MirrorLies", name := "undo", desc := "()Z" }), prog_1_method_15_code, 1, (some .boolean), 2, 0, 0, rx_c59), (({ cls := "MirrorLies", name := "undoes", desc := "(I)I" }), prog_1_method_36_code, 4, (some .int), 2, 0, 0, rx_c60), (({ cls := "MirrorLies", name := "untell", desc := "(I)Z" }), prog_1_method_43_code, 2, (some .boolean), 2, 0, 0, rx_c61), (({ cls := "MirrorLies", name := "who", desc := "(I)I" }), prog_1_method_46_code, 4, (some .int), 3, 0, 0, rx_c62), (({ cls := "MirrorLies", name := "whose", desc := "(II)I" }), prog_1_method_40_code, 5, (some .int), 2, 0, 0, rx_c63)],
  [(({ cls := "MirrorLies", name := "wipe", desc := "(I)I" }), prog_1_method_12_code, 3, (some .int), 2, 0, 0, rx_c64), (({ cls := "MirrorLies$Acts", name := "<init>", desc := "(LMirrorLies$School;LMirrorLies$Hour;)V" }), prog_2_method_1_code, 3, none, 1, 1, 200, rx_c65), (({ cls := "MirrorLies$Acts", name := "add", desc := "(III)V" }), prog_2_method_3_code, 5, none, 4, 0, 0, rx_c66), (({ cls := "MirrorLies$Acts", name := "doAgain", desc := "()Z" }), prog_2_method_5_code, 2, (some .boolean), 1, 0, 0, rx_c67), (({ cls := "MirrorLies$Acts", name := "forget", desc := "()V" }), prog_2_method_2_code, 1, none, 1, 0, 0, rx_c68), (({ cls := "MirrorLies$Acts", name := "perform", desc := "(III)V" }), prog_2_method_8_code, 4, none, 3, 0, 0, rx_c69), (({ cls := "MirrorLies$Acts", name := "stands", desc := "(II)I" }), prog_2_method_6_code, 3, (some .int), 1, 0, 0, rx_c70), (({ cls := "MirrorLies$Acts", name := "takeBack", desc := "()Z" }), prog_2_method_4_code, 2, (some .boolean), 1, 0, 0, rx_c71), (({ cls := "MirrorLies$Course", name := "<init>", desc := "(LMirrorLies$School;LMirrorLies$Panes;LMirrorLies$Likes;)V" }), prog_3_method_1_code, 4, none, 1, 11, 1123, rx_c72), (({ cls := "MirrorLies$Hour", name := "<init>", desc := "()V" }), prog_4_method_1_code, 1, none, 1, 3, 22, rx_c73), (({ cls := "MirrorLies$Hour", name := "blindOnes", desc := "(I)I" }), prog_4_method_6_code, 4, (some .int), 1, 0, 0, rx_c74), (({ cls := "MirrorLies$Hour", name := "dustedNext", desc := "(I)I" }), prog_4_method_4_code, 2, (some .int), 1, 0, 0, rx_c75), (({ cls := "MirrorLies$Hour", name := "nextSeed", desc := "()I" }), prog_4_method_7_code, 1, (some .int), 1, 0, 0, rx_c76), (({ cls := "MirrorLies$Hour", name := "passNight", desc := "(I)V" }), prog_4_method_5_code, 3, none, 2, 0, 0, rx_c77), (({ cls := "MirrorLies$Hour", name := "start", desc := "(LMirrorLies$School;)V" }), prog_4_method_2_code, 2, none, 2, 0, 0, rx_c78), (({ cls := "MirrorLies$Hour", name := "take", desc := "(LMirrorLies$Hour;)V" }), prog_4_method_3_code, 2, none, 1, 0, 0, rx_c79)],
  [(({ cls := "MirrorLies$Likes", name := "<init>", desc := "(LMirrorLies$School;LMirrorLies$Panes;LMirrorLies$Looks;)V" }), prog_5_method_1_code, 4, none, 1, 2, 512, rx_c80), (({ cls := "MirrorLies$Likes", name := "gather", desc := "(I)V" }), prog_5_method_2_code, 3, none, 2, 0, 0, rx_c81), (({ cls := "MirrorLies$Likes", name := "having", desc := "(I)I" }), prog_5_method_5_code, 4, (some .int), 1, 0, 0, rx_c82), (({ cls := "MirrorLies$Likes", name := "least", desc := "()I" }), prog_5_method_3_code, 1, (some .int), 1, 0, 0, rx_c83), (({ cls := "MirrorLies$Looks", name := "<init>", desc := "()V" }), prog_6_method_1_code, 1, none, 1, 4, 120, rx_c84), (({ cls := "MirrorLies$Looks", name := "takeBack", desc := "(I)Z" }), prog_6_method_3_code, 2, (some .boolean), 1, 0, 0, rx_c85), (({ cls := "MirrorLies$Panes", name := "<init>", desc := "(LMirrorLies$School;LMirrorLies$Hour;)V" }), prog_7_method_1_code, 3, none, 1, 14, 2915, rx_c86), (({ cls := "MirrorLies$Panes", name := "forget", desc := "()V" }), prog_7_method_2_code, 2, none, 1, 0, 0, rx_c87), (({ cls := "MirrorLies$Reader", name := "<init>", desc := "(LMirrorLies$Tape;LMirrorLies$School;)V" }), prog_8_method_1_code, 3, none, 1, 2, 13, rx_c88), (({ cls := "MirrorLies$Reader", name := "readsAll", desc := "()Z" }), prog_8_method_2_code, 3, (some .boolean), 4, 0, 0, rx_c89), (({ cls := "MirrorLies$School", name := "<init>", desc := "()V" }), prog_9_method_1_code, 1, none, 1, 7, 711, rx_c90), (({ cls := "MirrorLies$School", name := "clear", desc := "()V" }), prog_9_method_2_code, 1, none, 1, 0, 0, rx_c91), (({ cls := "MirrorLies$School", name := "faceCount", desc := "()I" }), prog_9_method_5_code, 1, (some .int), 1, 0, 0, rx_c92), (({ cls := "MirrorLies$School", name := "take", desc := "(LMirrorLies$School;)V" }), prog_9_method_3_code, 2, none, 1, 0, 0, rx_c93), (({ cls := "MirrorLies$Search", name := "<init>", desc := "(LMirrorLies$School;LMirrorLies$Hour;LMirrorLies$Panes;)V" }), prog_10_method_1_code, 4, none, 1, 2, 260, rx_c94), (({ cls := "MirrorLies$Search", name := "clear", desc := "()V" }), prog_10_method_2_code, 1, none, 1, 0, 0, rx_c95)],
  [(({ cls := "MirrorLies$Tape", name := "<init>", desc := "()V" }), prog_11_method_1_code, 1, none, 1, 1, 1600, rx_c96), (({ cls := "MirrorLies$Tape", name := "advance", desc := "()V" }), prog_11_method_4_code, 2, none, 2, 0, 0, rx_c97), (({ cls := "MirrorLies$Tape", name := "byteAt", desc := "(I)I" }), prog_11_method_7_code, 2, (some .int), 1, 0, 0, rx_c98), (({ cls := "MirrorLies$Tape", name := "put", desc := "(I)V" }), prog_11_method_2_code, 3, none, 1, 0, 0, rx_c99), (({ cls := "MirrorLies$Tape", name := "restart", desc := "()V" }), prog_11_method_3_code, 1, none, 3, 0, 0, rx_c100), (({ cls := "MirrorLies$Telling", name := "<init>", desc := "(LMirrorLies$School;LMirrorLies$Panes;LMirrorLies$Likes;)V" }), prog_12_method_1_code, 4, none, 1, 22, 5394, rx_c101), (({ cls := "MirrorLies$Telling", name := "cheapest", desc := "()I" }), prog_12_method_4_code, 3, (some .int), 1, 0, 0, rx_c102), (({ cls := "MirrorLies$Telling", name := "compare", desc := "()V" }), prog_12_method_2_code, 3, none, 2, 0, 0, rx_c103), (({ cls := "MirrorLies$Telling", name := "smallest", desc := "()I" }), prog_12_method_3_code, 3, (some .int), 1, 0, 0, rx_c104), (({ cls := "MirrorLies$Telling", name := "spreadToParts", desc := "()V" }), prog_12_method_6_code, 3, none, 1, 0, 0, rx_c105), (({ cls := "MirrorLiesModel", name := "<init>", desc := "()V" }), prog_14_method_1_code, 1, none, 3, 40, 12186, rx_c106), (({ cls := "MirrorLiesModel", name := "about", desc := "(I)I" }), prog_14_method_128_code, 2, (some .int), 2, 0, 0, rx_c107), (({ cls := "MirrorLiesModel", name := "alike", desc := "()I" }), prog_14_method_92_code, 4, (some .int), 3, 0, 0, rx_c108), (({ cls := "MirrorLiesModel", name := "apart", desc := "(II)I" }), prog_14_method_93_code, 3, (some .int), 3, 0, 0, rx_c109), (({ cls := "MirrorLiesModel", name := "ask", desc := "(II)I" }), prog_14_method_118_code, 8, (some .int), 4, 0, 0, rx_c110), (({ cls := "MirrorLiesModel", name := "back", desc := "(I)I" }), prog_14_method_127_code, 3, (some .int), 2, 0, 0, rx_c111)],
  [(({ cls := "MirrorLiesModel", name := "bitsOf", desc := "(I)I" }), prog_14_method_38_code, 3, (some .int), 1, 0, 0, rx_c112), (({ cls := "MirrorLiesModel", name := "blind", desc := "(I)I" }), prog_14_method_72_code, 5, (some .int), 2, 0, 0, rx_c113), (({ cls := "MirrorLiesModel", name := "blows", desc := "(I)I" }), prog_14_method_63_code, 1, (some .int), 1, 0, 0, rx_c114), (({ cls := "MirrorLiesModel", name := "breathe", desc := "(I)I" }), prog_14_method_60_code, 2, (some .int), 3, 0, 0, rx_c115), (({ cls := "MirrorLiesModel", name := "changed", desc := "(I)I" }), prog_14_method_100_code, 4, (some .int), 2, 0, 0, rx_c116), (({ cls := "MirrorLiesModel", name := "clearBank", desc := "()V" }), prog_14_method_16_code, 1, none, 1, 0, 0, rx_c117), (({ cls := "MirrorLiesModel", name := "course", desc := "(II)I" }), prog_14_method_121_code, 6, (some .int), 4, 0, 0, rx_c118), (({ cls := "MirrorLiesModel", name := "crack", desc := "(II)I" }), prog_14_method_62_code, 3, (some .int), 3, 0, 0, rx_c119), (({ cls := "MirrorLiesModel", name := "crossed", desc := "(II)I" }), prog_14_method_74_code, 5, (some .int), 3, 0, 0, rx_c120), (({ cls := "MirrorLiesModel", name := "divisor", desc := "(II)I" }), prog_14_method_40_code, 5, (some .int), 1, 0, 0, rx_c121), (({ cls := "MirrorLiesModel", name := "doTell", desc := "(I)Z" }), prog_14_method_122_code, 6, (some .boolean), 2, 0, 0, rx_c122), (({ cls := "MirrorLiesModel", name := "dream", desc := "(II)I" }), prog_14_method_85_code, 3, (some .int), 3, 0, 0, rx_c123), (({ cls := "MirrorLiesModel", name := "dull", desc := "()I" }), prog_14_method_73_code, 2, (some .int), 3, 0, 0, rx_c124), (({ cls := "MirrorLiesModel", name := "end", desc := "(I)I" }), prog_14_method_130_code, 2, (some .int), 1, 0, 0, rx_c125), (({ cls := "MirrorLiesModel", name := "face", desc := "(I)I" }), prog_14_method_52_code, 2, (some .int), 3, 0, 0, rx_c126), (({ cls := "MirrorLiesModel", name := "faces", desc := "()I" }), prog_14_method_43_code, 1, (some .int), 2, 0, 0, rx_c127)],
  [(({ cls := "MirrorLiesModel", name := "facing", desc := "(IIII)I" }), prog_14_method_71_code, 5, (some .int), 3, 0, 0, rx_c128), (({ cls := "MirrorLiesModel", name := "fault", desc := "(I)I" }), prog_14_method_36_code, 2, (some .int), 1, 0, 0, rx_c129), (({ cls := "MirrorLiesModel", name := "feed", desc := "(IIIII)I" }), prog_14_method_129_code, 8, (some .int), 1, 0, 0, rx_c130), (({ cls := "MirrorLiesModel", name := "fixed", desc := "(II)I" }), prog_14_method_94_code, 5, (some .int), 3, 0, 0, rx_c131), (({ cls := "MirrorLiesModel", name := "from", desc := "(III)I" }), prog_14_method_96_code, 7, (some .int), 3, 0, 0, rx_c132), (({ cls := "MirrorLiesModel", name := "glass", desc := "(II)I" }), prog_14_method_125_code, 5, (some .int), 4, 0, 0, rx_c133), (({ cls := "MirrorLiesModel", name := "goOn", desc := "()V" }), prog_14_method_9_code, 3, none, 2, 0, 0, rx_c134), (({ cls := "MirrorLiesModel", name := "hall", desc := "(IIIII)I" }), prog_14_method_68_code, 8, (some .int), 3, 0, 0, rx_c135), (({ cls := "MirrorLiesModel", name := "hang", desc := "(I)I" }), prog_14_method_84_code, 2, (some .int), 3, 0, 0, rx_c136), (({ cls := "MirrorLiesModel", name := "hangs", desc := "(II)I" }), prog_14_method_86_code, 3, (some .int), 3, 0, 0, rx_c137), (({ cls := "MirrorLiesModel", name := "honest", desc := "(I)I" }), prog_14_method_90_code, 4, (some .int), 3, 0, 0, rx_c138), (({ cls := "MirrorLiesModel", name := "image", desc := "(I)I" }), prog_14_method_126_code, 3, (some .int), 2, 0, 0, rx_c139), (({ cls := "MirrorLiesModel", name := "isBoy", desc := "(I)Z" }), prog_14_method_44_code, 2, (some .boolean), 2, 0, 0, rx_c140), (({ cls := "MirrorLiesModel", name := "isGood", desc := "()Z" }), prog_14_method_6_code, 1, (some .boolean), 1, 0, 0, rx_c141), (({ cls := "MirrorLiesModel", name := "isIn", desc := "(III)Z" }), prog_14_method_37_code, 3, (some .boolean), 1, 0, 0, rx_c142), (({ cls := "MirrorLiesModel", name := "isLike", desc := "(II)Z" }), prog_14_method_109_code, 4, (some .boolean), 1, 0, 0, rx_c143)],
  [(({ cls := "MirrorLiesModel", name := "isMirror", desc := "(I)Z" }), prog_14_method_45_code, 2, (some .boolean), 2, 0, 0, rx_c144), (({ cls := "MirrorLiesModel", name := "keepAct", desc := "()V" }), prog_14_method_56_code, 2, none, 1, 0, 0, rx_c145), (({ cls := "MirrorLiesModel", name := "later", desc := "(I)I" }), prog_14_method_108_code, 2, (some .int), 2, 0, 0, rx_c146), (({ cls := "MirrorLiesModel", name := "layImages", desc := "()V" }), prog_14_method_50_code, 3, none, 2, 0, 0, rx_c147), (({ cls := "MirrorLiesModel", name := "layLike", desc := "(I)V" }), prog_14_method_110_code, 3, none, 3, 0, 0, rx_c148), (({ cls := "MirrorLiesModel", name := "lie", desc := "(II)I" }), prog_14_method_54_code, 3, (some .int), 3, 0, 0, rx_c149), (({ cls := "MirrorLiesModel", name := "lied", desc := "(II)I" }), prog_14_method_95_code, 5, (some .int), 3, 0, 0, rx_c150), (({ cls := "MirrorLiesModel", name := "lies", desc := "(I)I" }), prog_14_method_67_code, 2, (some .int), 2, 0, 0, rx_c151), (({ cls := "MirrorLiesModel", name := "like", desc := "(II)I" }), prog_14_method_111_code, 3, (some .int), 4, 0, 0, rx_c152), (({ cls := "MirrorLiesModel", name := "longest", desc := "(II)I" }), prog_14_method_77_code, 7, (some .int), 3, 0, 0, rx_c153), (({ cls := "MirrorLiesModel", name := "look", desc := "(II)I" }), prog_14_method_106_code, 3, (some .int), 3, 0, 0, rx_c154), (({ cls := "MirrorLiesModel", name := "many", desc := "()I" }), prog_14_method_42_code, 1, (some .int), 1, 0, 0, rx_c155), (({ cls := "MirrorLiesModel", name := "mark", desc := "(II)I" }), prog_14_method_58_code, 3, (some .int), 3, 0, 0, rx_c156), (({ cls := "MirrorLiesModel", name := "mean", desc := "(III)I" }), prog_14_method_119_code, 6, (some .int), 4, 0, 0, rx_c157), (({ cls := "MirrorLiesModel", name := "mend", desc := "(II)I" }), prog_14_method_105_code, 9, (some .int), 3, 0, 0, rx_c158), (({ cls := "MirrorLiesModel", name := "mirror", desc := "(II)I" }), prog_14_method_53_code, 3, (some .int), 3, 0, 0, rx_c159)],
  [(({ cls := "MirrorLiesModel", name := "moled", desc := "(II)I" }), prog_14_method_78_code, 5, (some .int), 3, 0, 0, rx_c160), (({ cls := "MirrorLiesModel", name := "night", desc := "()I" }), prog_14_method_64_code, 2, (some .int), 2, 0, 0, rx_c161), (({ cls := "MirrorLiesModel", name := "odds", desc := "(III)I" }), prog_14_method_116_code, 5, (some .int), 4, 0, 0, rx_c162), (({ cls := "MirrorLiesModel", name := "redo", desc := "()Z" }), prog_14_method_66_code, 1, (some .boolean), 1, 0, 0, rx_c163), (({ cls := "MirrorLiesModel", name := "round", desc := "(III)I" }), prog_14_method_70_code, 4, (some .int), 3, 0, 0, rx_c164), (({ cls := "MirrorLiesModel", name := "school", desc := "()I" }), prog_14_method_17_code, 2, (some .int), 3, 0, 0, rx_c165), (({ cls := "MirrorLiesModel", name := "shows", desc := "(II)I" }), prog_14_method_55_code, 3, (some .int), 3, 0, 0, rx_c166), (({ cls := "MirrorLiesModel", name := "sights", desc := "(I)I" }), prog_14_method_87_code, 4, (some .int), 3, 0, 0, rx_c167), (({ cls := "MirrorLiesModel", name := "sign", desc := "(I)I" }), prog_14_method_2_code, 2, (some .int), 1, 0, 0, rx_c168), (({ cls := "MirrorLiesModel", name := "spread", desc := "(II)I" }), prog_14_method_113_code, 6, (some .int), 4, 0, 0, rx_c169), (({ cls := "MirrorLiesModel", name := "startAnew", desc := "()V" }), prog_14_method_51_code, 2, none, 2, 0, 0, rx_c170), (({ cls := "MirrorLiesModel", name := "sure", desc := "(II)I" }), prog_14_method_115_code, 4, (some .int), 4, 0, 0, rx_c171), (({ cls := "MirrorLiesModel", name := "tell", desc := "(II)I" }), prog_14_method_124_code, 5, (some .int), 4, 0, 0, rx_c172), (({ cls := "MirrorLiesModel", name := "trues", desc := "()I" }), prog_14_method_88_code, 3, (some .int), 3, 0, 0, rx_c173), (({ cls := "MirrorLiesModel", name := "twins", desc := "(II)I" }), prog_14_method_97_code, 5, (some .int), 3, 0, 0, rx_c174), (({ cls := "MirrorLiesModel", name := "undo", desc := "()Z" }), prog_14_method_65_code, 1, (some .boolean), 1, 0, 0, rx_c175)],
  [(({ cls := "MirrorLiesModel", name := "undoes", desc := "(I)I" }), prog_14_method_76_code, 4, (some .int), 3, 0, 0, rx_c176), (({ cls := "MirrorLiesModel", name := "untell", desc := "(I)Z" }), prog_14_method_107_code, 2, (some .boolean), 2, 0, 0, rx_c177), (({ cls := "MirrorLiesModel", name := "who", desc := "(I)I" }), prog_14_method_112_code, 4, (some .int), 4, 0, 0, rx_c178), (({ cls := "MirrorLiesModel", name := "whose", desc := "(II)I" }), prog_14_method_98_code, 5, (some .int), 3, 0, 0, rx_c179), (({ cls := "MirrorLiesModel", name := "width", desc := "()I" }), prog_14_method_41_code, 1, (some .int), 1, 0, 0, rx_c180), (({ cls := "MirrorLiesModel", name := "wipe", desc := "(I)I" }), prog_14_method_61_code, 3, (some .int), 3, 0, 0, rx_c181), (({ cls := "MirrorLiesModel", name := "withMark", desc := "(I)I" }), prog_14_method_114_code, 4, (some .int), 1, 0, 0, rx_c182), (({ cls := "java/lang/Integer", name := "bitCount", desc := "(I)I" }), prog_15_method_49_code, 1, (some .int), 1, 0, 0, rx_c183), (({ cls := "java/util/Arrays", name := "fill", desc := "([II)V" }), prog_21_method_103_code, 4, none, 1, 0, 0, rx_c184)]]
def rx_wl : List (List (Nat × Nat × Nat × Nat × Nat × Nat)) := [[(nat_lit 0, nat_lit 0, nat_lit 0, nat_lit 0, nat_lit 9, nat_lit 0), (nat_lit 133, nat_lit 132, nat_lit 0, nat_lit 108, nat_lit 2, nat_lit 0), (nat_lit 1305, nat_lit 1303, nat_lit 1304, nat_lit 108, nat_lit 0, nat_lit 1), (nat_lit 1068, nat_lit 1066, nat_lit 1067, nat_lit 108, nat_lit 0, nat_lit 0), (nat_lit 1077, nat_lit 1075, nat_lit 1076, nat_lit 108, nat_lit 0, nat_lit 2), (nat_lit 1215, nat_lit 1213, nat_lit 1214, nat_lit 108, nat_lit 0, nat_lit 2), (nat_lit 1301, nat_lit 1299, nat_lit 1300, nat_lit 108, nat_lit 0, nat_lit 1), (nat_lit 977, nat_lit 975, nat_lit 976, nat_lit 108, nat_lit 0, nat_lit 1), (nat_lit 890, nat_lit 888, nat_lit 889, nat_lit 108, nat_lit 0, nat_lit 1), (nat_lit 1118, nat_lit 1116, nat_lit 1117, nat_lit 108, nat_lit 0, nat_lit 1), (nat_lit 1211, nat_lit 1210, nat_lit 0, nat_lit 108, nat_lit 1, nat_lit 2), (nat_lit 1237, nat_lit 1235, nat_lit 1236, nat_lit 108, nat_lit 0, nat_lit 2), (nat_lit 898, nat_lit 896, nat_lit 897, nat_lit 108, nat_lit 0, nat_lit 2), (nat_lit 1098, nat_lit 1096, nat_lit 1097, nat_lit 108, nat_lit 0, nat_lit 2), (nat_lit 1040, nat_lit 1038, nat_lit 1039, nat_lit 108, nat_lit 0, nat_lit 2), (nat_lit 1114, nat_lit 1112, nat_lit 1113, nat_lit 108, nat_lit 0, nat_lit 0)],
  [(nat_lit 593, nat_lit 591, nat_lit 592, nat_lit 108, nat_lit 0, nat_lit 1), (nat_lit 788, nat_lit 786, nat_lit 787, nat_lit 108, nat_lit 0, nat_lit 1), (nat_lit 959, nat_lit 957, nat_lit 958, nat_lit 108, nat_lit 0, nat_lit 4), (nat_lit 784, nat_lit 782, nat_lit 783, nat_lit 108, nat_lit 0, nat_lit 1), (nat_lit 585, nat_lit 583, nat_lit 584, nat_lit 108, nat_lit 0, nat_lit 5), (nat_lit 1081, nat_lit 1079, nat_lit 1080, nat_lit 108, nat_lit 0, nat_lit 2), (nat_lit 1090, nat_lit 1088, nat_lit 1089, nat_lit 108, nat_lit 0, nat_lit 3), (nat_lit 1284, nat_lit 1282, nat_lit 1283, nat_lit 108, nat_lit 0, nat_lit 2), (nat_lit 930, nat_lit 928, nat_lit 929, nat_lit 108, nat_lit 0, nat_lit 5), (nat_lit 1028, nat_lit 1026, nat_lit 1027, nat_lit 108, nat_lit 0, nat_lit 1), (nat_lit 1044, nat_lit 1042, nat_lit 1043, nat_lit 108, nat_lit 0, nat_lit 2), (nat_lit 792, nat_lit 791, nat_lit 20, nat_lit 108, nat_lit 0, nat_lit 1), (nat_lit 860, nat_lit 859, nat_lit 25, nat_lit 108, nat_lit 0, nat_lit 1), (nat_lit 800, nat_lit 799, nat_lit 21, nat_lit 108, nat_lit 0, nat_lit 1), (nat_lit 1064, nat_lit 1062, nat_lit 1063, nat_lit 108, nat_lit 0, nat_lit 1), (nat_lit 1297, nat_lit 1295, nat_lit 1296, nat_lit 108, nat_lit 0, nat_lit 1)],
  [(nat_lit 1208, nat_lit 1207, nat_lit 0, nat_lit 108, nat_lit 1, nat_lit 3), (nat_lit 1122, nat_lit 1121, nat_lit 38, nat_lit 108, nat_lit 0, nat_lit 1), (nat_lit 1154, nat_lit 1152, nat_lit 1153, nat_lit 108, nat_lit 0, nat_lit 1), (nat_lit 804, nat_lit 802, nat_lit 803, nat_lit 108, nat_lit 0, nat_lit 2), (nat_lit 1086, nat_lit 1084, nat_lit 1085, nat_lit 108, nat_lit 0, nat_lit 2), (nat_lit 1134, nat_lit 1132, nat_lit 1133, nat_lit 108, nat_lit 0, nat_lit 1), (nat_lit 1159, nat_lit 1157, nat_lit 1158, nat_lit 108, nat_lit 0, nat_lit 2), (nat_lit 1110, nat_lit 1108, nat_lit 1109, nat_lit 108, nat_lit 0, nat_lit 2), (nat_lit 1138, nat_lit 1136, nat_lit 1137, nat_lit 108, nat_lit 0, nat_lit 2), (nat_lit 856, nat_lit 854, nat_lit 855, nat_lit 108, nat_lit 0, nat_lit 2), (nat_lit 1229, nat_lit 1227, nat_lit 1228, nat_lit 108, nat_lit 0, nat_lit 3), (nat_lit 998, nat_lit 996, nat_lit 997, nat_lit 108, nat_lit 0, nat_lit 2), (nat_lit 796, nat_lit 794, nat_lit 795, nat_lit 108, nat_lit 0, nat_lit 2), (nat_lit 990, nat_lit 988, nat_lit 989, nat_lit 108, nat_lit 0, nat_lit 2), (nat_lit 902, nat_lit 900, nat_lit 901, nat_lit 108, nat_lit 0, nat_lit 0), (nat_lit 1205, nat_lit 1203, nat_lit 1204, nat_lit 108, nat_lit 0, nat_lit 3)],
  [(nat_lit 955, nat_lit 954, nat_lit 0, nat_lit 108, nat_lit 1, nat_lit 3), (nat_lit 922, nat_lit 920, nat_lit 921, nat_lit 108, nat_lit 0, nat_lit 0), (nat_lit 948, nat_lit 946, nat_lit 947, nat_lit 108, nat_lit 0, nat_lit 3), (nat_lit 597, nat_lit 595, nat_lit 596, nat_lit 108, nat_lit 0, nat_lit 0), (nat_lit 848, nat_lit 846, nat_lit 847, nat_lit 108, nat_lit 0, nat_lit 2), (nat_lit 963, nat_lit 961, nat_lit 962, nat_lit 108, nat_lit 0, nat_lit 1), (nat_lit 1189, nat_lit 1187, nat_lit 1188, nat_lit 108, nat_lit 0, nat_lit 2), (nat_lit 1197, nat_lit 1195, nat_lit 1196, nat_lit 108, nat_lit 0, nat_lit 2), (nat_lit 1261, nat_lit 1259, nat_lit 1260, nat_lit 108, nat_lit 0, nat_lit 2), (nat_lit 1056, nat_lit 1054, nat_lit 1055, nat_lit 108, nat_lit 0, nat_lit 0), (nat_lit 1094, nat_lit 1092, nat_lit 1093, nat_lit 108, nat_lit 0, nat_lit 2), (nat_lit 910, nat_lit 908, nat_lit 909, nat_lit 108, nat_lit 0, nat_lit 0), (nat_lit 1102, nat_lit 1100, nat_lit 1101, nat_lit 108, nat_lit 0, nat_lit 1), (nat_lit 1146, nat_lit 1144, nat_lit 1145, nat_lit 108, nat_lit 0, nat_lit 1), (nat_lit 1181, nat_lit 1179, nat_lit 1180, nat_lit 108, nat_lit 0, nat_lit 1), (nat_lit 1130, nat_lit 1128, nat_lit 1129, nat_lit 108, nat_lit 0, nat_lit 2)],
  [(nat_lit 894, nat_lit 892, nat_lit 893, nat_lit 108, nat_lit 0, nat_lit 1), (nat_lit 318, nat_lit 317, nat_lit 0, nat_lit 113, nat_lit 2, nat_lit 2), (nat_lit 864, nat_lit 862, nat_lit 863, nat_lit 113, nat_lit 0, nat_lit 3), (nat_lit 926, nat_lit 924, nat_lit 925, nat_lit 113, nat_lit 0, nat_lit 0), (nat_lit 772, nat_lit 770, nat_lit 771, nat_lit 113, nat_lit 0, nat_lit 0), (nat_lit 873, nat_lit 872, nat_lit 27, nat_lit 113, nat_lit 0, nat_lit 3), (nat_lit 869, nat_lit 868, nat_lit 26, nat_lit 113, nat_lit 0, nat_lit 2), (nat_lit 914, nat_lit 912, nat_lit 913, nat_lit 113, nat_lit 0, nat_lit 0), (nat_lit 470, nat_lit 469, nat_lit 0, nat_lit 118, nat_lit 2, nat_lit 3), (nat_lit 280, nat_lit 279, nat_lit 0, nat_lit 112, nat_lit 2, nat_lit 0), (nat_lit 986, nat_lit 984, nat_lit 985, nat_lit 112, nat_lit 0, nat_lit 1), (nat_lit 906, nat_lit 904, nat_lit 905, nat_lit 112, nat_lit 0, nat_lit 1), (nat_lit 885, nat_lit 884, nat_lit 28, nat_lit 112, nat_lit 0, nat_lit 0), (nat_lit 881, nat_lit 879, nat_lit 880, nat_lit 112, nat_lit 0, nat_lit 1), (nat_lit 529, nat_lit 527, nat_lit 528, nat_lit 112, nat_lit 0, nat_lit 1), (nat_lit 981, nat_lit 979, nat_lit 980, nat_lit 112, nat_lit 0, nat_lit 1)],
  [(nat_lit 439, nat_lit 438, nat_lit 0, nat_lit 117, nat_lit 2, nat_lit 3), (nat_lit 1163, nat_lit 1161, nat_lit 1162, nat_lit 117, nat_lit 0, nat_lit 1), (nat_lit 1201, nat_lit 1199, nat_lit 1200, nat_lit 117, nat_lit 0, nat_lit 1), (nat_lit 1177, nat_lit 1175, nat_lit 1176, nat_lit 117, nat_lit 0, nat_lit 0), (nat_lit 409, nat_lit 408, nat_lit 0, nat_lit 116, nat_lit 2, nat_lit 0), (nat_lit 1150, nat_lit 1148, nat_lit 1149, nat_lit 116, nat_lit 0, nat_lit 1), (nat_lit 343, nat_lit 342, nat_lit 0, nat_lit 114, nat_lit 2, nat_lit 2), (nat_lit 776, nat_lit 774, nat_lit 775, nat_lit 114, nat_lit 0, nat_lit 0), (nat_lit 246, nat_lit 245, nat_lit 0, nat_lit 111, nat_lit 2, nat_lit 2), (nat_lit 601, nat_lit 599, nat_lit 600, nat_lit 111, nat_lit 0, nat_lit 0), (nat_lit 175, nat_lit 174, nat_lit 0, nat_lit 110, nat_lit 2, nat_lit 0), (nat_lit 605, nat_lit 603, nat_lit 604, nat_lit 110, nat_lit 0, nat_lit 0), (nat_lit 812, nat_lit 810, nat_lit 811, nat_lit 110, nat_lit 0, nat_lit 0), (nat_lit 767, nat_lit 765, nat_lit 766, nat_lit 110, nat_lit 0, nat_lit 1), (nat_lit 382, nat_lit 381, nat_lit 0, nat_lit 115, nat_lit 2, nat_lit 3), (nat_lit 780, nat_lit 778, nat_lit 779, nat_lit 115, nat_lit 0, nat_lit 0)],
  [(nat_lit 141, nat_lit 140, nat_lit 0, nat_lit 109, nat_lit 2, nat_lit 0), (nat_lit 613, nat_lit 611, nat_lit 612, nat_lit 109, nat_lit 0, nat_lit 0), (nat_lit 617, nat_lit 616, nat_lit 0, nat_lit 109, nat_lit 0, nat_lit 1), (nat_lit 589, nat_lit 587, nat_lit 588, nat_lit 109, nat_lit 0, nat_lit 1), (nat_lit 609, nat_lit 607, nat_lit 608, nat_lit 109, nat_lit 0, nat_lit 0), (nat_lit 501, nat_lit 500, nat_lit 0, nat_lit 119, nat_lit 2, nat_lit 3), (nat_lit 1288, nat_lit 1286, nat_lit 1287, nat_lit 119, nat_lit 0, nat_lit 0), (nat_lit 1265, nat_lit 1263, nat_lit 1264, nat_lit 119, nat_lit 0, nat_lit 0), (nat_lit 1279, nat_lit 1277, nat_lit 1278, nat_lit 119, nat_lit 0, nat_lit 0), (nat_lit 1275, nat_lit 1274, nat_lit 45, nat_lit 119, nat_lit 0, nat_lit 0), (nat_lit 1310, nat_lit 1309, nat_lit 0, nat_lit 122, nat_lit 2, nat_lit 0), (nat_lit 2023, nat_lit 2021, nat_lit 2022, nat_lit 122, nat_lit 0, nat_lit 1), (nat_lit 1872, nat_lit 1870, nat_lit 1871, nat_lit 122, nat_lit 0, nat_lit 0), (nat_lit 1880, nat_lit 1878, nat_lit 1879, nat_lit 122, nat_lit 0, nat_lit 2), (nat_lit 1979, nat_lit 1977, nat_lit 1978, nat_lit 122, nat_lit 0, nat_lit 2), (nat_lit 2019, nat_lit 2017, nat_lit 2018, nat_lit 122, nat_lit 0, nat_lit 1)],
  [(nat_lit 1698, nat_lit 1697, nat_lit 0, nat_lit 122, nat_lit 1, nat_lit 1), (nat_lit 1790, nat_lit 1788, nat_lit 1789, nat_lit 122, nat_lit 0, nat_lit 1), (nat_lit 1754, nat_lit 1753, nat_lit 0, nat_lit 122, nat_lit 1, nat_lit 1), (nat_lit 1736, nat_lit 1734, nat_lit 1735, nat_lit 122, nat_lit 0, nat_lit 1), (nat_lit 1904, nat_lit 1902, nat_lit 1903, nat_lit 122, nat_lit 0, nat_lit 1), (nat_lit 1315, nat_lit 1314, nat_lit 46, nat_lit 122, nat_lit 0, nat_lit 0), (nat_lit 1991, nat_lit 1989, nat_lit 1990, nat_lit 122, nat_lit 0, nat_lit 2), (nat_lit 1747, nat_lit 1745, nat_lit 1746, nat_lit 122, nat_lit 0, nat_lit 2), (nat_lit 1799, nat_lit 1797, nat_lit 1798, nat_lit 122, nat_lit 0, nat_lit 2), (nat_lit 1975, nat_lit 1974, nat_lit 0, nat_lit 122, nat_lit 1, nat_lit 2), (nat_lit 2003, nat_lit 2002, nat_lit 105, nat_lit 122, nat_lit 0, nat_lit 1), (nat_lit 1848, nat_lit 1846, nat_lit 1847, nat_lit 122, nat_lit 0, nat_lit 2), (nat_lit 1794, nat_lit 1792, nat_lit 1793, nat_lit 122, nat_lit 0, nat_lit 0), (nat_lit 2031, nat_lit 2029, nat_lit 2030, nat_lit 122, nat_lit 0, nat_lit 1), (nat_lit 1660, nat_lit 1658, nat_lit 1659, nat_lit 122, nat_lit 0, nat_lit 1), (nat_lit 1687, nat_lit 1686, nat_lit 77, nat_lit 122, nat_lit 0, nat_lit 0)],
  [(nat_lit 1786, nat_lit 1784, nat_lit 1785, nat_lit 122, nat_lit 0, nat_lit 4), (nat_lit 1656, nat_lit 1654, nat_lit 1655, nat_lit 122, nat_lit 0, nat_lit 1), (nat_lit 2027, nat_lit 2025, nat_lit 2026, nat_lit 122, nat_lit 0, nat_lit 5), (nat_lit 1884, nat_lit 1882, nat_lit 1883, nat_lit 122, nat_lit 0, nat_lit 2), (nat_lit 1892, nat_lit 1890, nat_lit 1891, nat_lit 122, nat_lit 0, nat_lit 3), (nat_lit 2007, nat_lit 2005, nat_lit 2006, nat_lit 122, nat_lit 0, nat_lit 2), (nat_lit 1527, nat_lit 1526, nat_lit 49, nat_lit 122, nat_lit 0, nat_lit 0), (nat_lit 1774, nat_lit 1772, nat_lit 1773, nat_lit 122, nat_lit 0, nat_lit 5), (nat_lit 1824, nat_lit 1822, nat_lit 1823, nat_lit 122, nat_lit 0, nat_lit 1), (nat_lit 1852, nat_lit 1850, nat_lit 1851, nat_lit 122, nat_lit 0, nat_lit 2), (nat_lit 1868, nat_lit 1866, nat_lit 1867, nat_lit 122, nat_lit 0, nat_lit 1), (nat_lit 2015, nat_lit 2013, nat_lit 2014, nat_lit 122, nat_lit 0, nat_lit 1), (nat_lit 1664, nat_lit 1663, nat_lit 74, nat_lit 122, nat_lit 0, nat_lit 1), (nat_lit 1564, nat_lit 1563, nat_lit 51, nat_lit 122, nat_lit 0, nat_lit 0), (nat_lit 1667, nat_lit 1666, nat_lit 0, nat_lit 122, nat_lit 1, nat_lit 3), (nat_lit 1952, nat_lit 1951, nat_lit 101, nat_lit 122, nat_lit 0, nat_lit 2)],
  [(nat_lit 1675, nat_lit 1674, nat_lit 75, nat_lit 122, nat_lit 0, nat_lit 1), (nat_lit 1732, nat_lit 1731, nat_lit 84, nat_lit 122, nat_lit 0, nat_lit 0), (nat_lit 1939, nat_lit 1937, nat_lit 1938, nat_lit 122, nat_lit 0, nat_lit 1), (nat_lit 1803, nat_lit 1802, nat_lit 87, nat_lit 122, nat_lit 0, nat_lit 0), (nat_lit 1948, nat_lit 1947, nat_lit 100, nat_lit 122, nat_lit 0, nat_lit 1), (nat_lit 1679, nat_lit 1677, nat_lit 1678, nat_lit 122, nat_lit 0, nat_lit 2), (nat_lit 1888, nat_lit 1886, nat_lit 1887, nat_lit 122, nat_lit 0, nat_lit 2), (nat_lit 1770, nat_lit 1768, nat_lit 1769, nat_lit 122, nat_lit 0, nat_lit 1), (nat_lit 1944, nat_lit 1942, nat_lit 1943, nat_lit 122, nat_lit 0, nat_lit 2), (nat_lit 1815, nat_lit 1813, nat_lit 1814, nat_lit 122, nat_lit 0, nat_lit 2), (nat_lit 1931, nat_lit 1929, nat_lit 1930, nat_lit 122, nat_lit 0, nat_lit 2), (nat_lit 1323, nat_lit 1322, nat_lit 48, nat_lit 122, nat_lit 0, nat_lit 0), (nat_lit 1728, nat_lit 1726, nat_lit 1727, nat_lit 122, nat_lit 0, nat_lit 2), (nat_lit 1987, nat_lit 1985, nat_lit 1986, nat_lit 122, nat_lit 0, nat_lit 3), (nat_lit 1912, nat_lit 1910, nat_lit 1911, nat_lit 122, nat_lit 0, nat_lit 2), (nat_lit 1671, nat_lit 1669, nat_lit 1670, nat_lit 122, nat_lit 0, nat_lit 2)],
  [(nat_lit 1819, nat_lit 1817, nat_lit 1818, nat_lit 122, nat_lit 0, nat_lit 2), (nat_lit 1751, nat_lit 1749, nat_lit 1750, nat_lit 122, nat_lit 0, nat_lit 0), (nat_lit 1972, nat_lit 1970, nat_lit 1971, nat_lit 122, nat_lit 0, nat_lit 3), (nat_lit 1766, nat_lit 1764, nat_lit 1765, nat_lit 122, nat_lit 0, nat_lit 0), (nat_lit 1778, nat_lit 1776, nat_lit 1777, nat_lit 122, nat_lit 0, nat_lit 3), (nat_lit 1523, nat_lit 1521, nat_lit 1522, nat_lit 122, nat_lit 0, nat_lit 0), (nat_lit 1716, nat_lit 1714, nat_lit 1715, nat_lit 122, nat_lit 0, nat_lit 2), (nat_lit 1856, nat_lit 1854, nat_lit 1855, nat_lit 122, nat_lit 0, nat_lit 1), (nat_lit 1531, nat_lit 1530, nat_lit 50, nat_lit 122, nat_lit 0, nat_lit 1), (nat_lit 1960, nat_lit 1958, nat_lit 1959, nat_lit 122, nat_lit 0, nat_lit 2), (nat_lit 1319, nat_lit 1318, nat_lit 47, nat_lit 122, nat_lit 0, nat_lit 0), (nat_lit 1964, nat_lit 1962, nat_lit 1963, nat_lit 122, nat_lit 0, nat_lit 2), (nat_lit 1999, nat_lit 1997, nat_lit 1998, nat_lit 122, nat_lit 0, nat_lit 2), (nat_lit 1860, nat_lit 1858, nat_lit 1859, nat_lit 122, nat_lit 0, nat_lit 0), (nat_lit 1896, nat_lit 1894, nat_lit 1895, nat_lit 122, nat_lit 0, nat_lit 2), (nat_lit 1758, nat_lit 1756, nat_lit 1757, nat_lit 122, nat_lit 0, nat_lit 0)],
  [(nat_lit 1807, nat_lit 1805, nat_lit 1806, nat_lit 122, nat_lit 0, nat_lit 1), (nat_lit 1935, nat_lit 1933, nat_lit 1934, nat_lit 122, nat_lit 0, nat_lit 1), (nat_lit 1956, nat_lit 1954, nat_lit 1955, nat_lit 122, nat_lit 0, nat_lit 1), (nat_lit 1900, nat_lit 1898, nat_lit 1899, nat_lit 122, nat_lit 0, nat_lit 2), (nat_lit 1691, nat_lit 1690, nat_lit 78, nat_lit 122, nat_lit 0, nat_lit 0), (nat_lit 1743, nat_lit 1741, nat_lit 1742, nat_lit 122, nat_lit 0, nat_lit 1), (nat_lit 1968, nat_lit 1967, nat_lit 102, nat_lit 122, nat_lit 0, nat_lit 1), (nat_lit 823, nat_lit 822, nat_lit 0, nat_lit 127, nat_lit 1, nat_lit 1), (nat_lit 535, nat_lit 534, nat_lit 0, nat_lit 121, nat_lit 1, nat_lit 2)]]
def rx_cw : List (Nat × Nat) := [(315, 113), (467, 118), (277, 112), (436, 117), (406, 116), (340, 114), (243, 111), (172, 110), (379, 115), (138, 109), (498, 119), (130, 108), (1307, 122)]
def rx_aw : List Nat := [241, 170, 377, 275]
end
section
/-! a run over known things: ints as a number, a symbol plus a number, or a span; references by their place in the world -/
abbrev rx_I : Type := Int ⊕ (Nat × Int) ⊕ (Int × Int)
abbrev rx_V : Type := rx_I ⊕ (Option Nat) ⊕ (Option Int) ⊕ Unit
abbrev rx_C : Type := (Nat × List rx_V) ⊕ ((Nat × Nat) × rx_I × List (Nat × rx_I)) ⊕ (Nat × Nat) ⊕ (Nat × List (Option Nat))
abbrev rx_S : Type := List (Int × Int)
abbrev rx_L : Type := List (Nat × rx_V)
abbrev rx_t0 : Type := Option rx_C
abbrev rx_t1 : Type := rx_t0 × rx_t0
abbrev rx_t2 : Type := rx_t1 × rx_t1
abbrev rx_t3 : Type := rx_t2 × rx_t2
abbrev rx_t4 : Type := rx_t3 × rx_t3
abbrev rx_t5 : Type := rx_t4 × rx_t4
abbrev rx_t6 : Type := rx_t5 × rx_t5
abbrev rx_t7 : Type := rx_t6 × rx_t6
abbrev rx_t8 : Type := rx_t7 × rx_t7
/-- the world's cells by their places, and how many there are -/
abbrev rx_H : Type := rx_t8 × Nat
def rx_g0 (h : rx_t0) (_ : Nat) : Option rx_C := h
def rx_s0 (_ : rx_t0) (_ : Nat) (c : rx_C) : rx_t0 := some c
def rx_gl {T : Type} (g : T → Nat → Option rx_C) (n : Nat) (h : T × T) (k : Nat) : Option rx_C := cond (Nat.blt k n) (g h.1 k) (g h.2 (Nat.sub k n))
def rx_sl {T : Type} (f : T → Nat → rx_C → T) (n : Nat) (h : T × T) (k : Nat) (c : rx_C) : T × T := cond (Nat.blt k n) (f h.1 k c, h.2) (h.1, f h.2 (Nat.sub k n) c)
def rx_g4 : rx_t4 → Nat → Option rx_C := rx_gl (rx_gl (rx_gl (rx_gl rx_g0 (nat_lit 1)) (nat_lit 2)) (nat_lit 4)) (nat_lit 8)
def rx_g8 : rx_t8 → Nat → Option rx_C := rx_gl (rx_gl (rx_gl (rx_gl rx_g4 (nat_lit 16)) (nat_lit 32)) (nat_lit 64)) (nat_lit 128)
def rx_s4 : rx_t4 → Nat → rx_C → rx_t4 := rx_sl (rx_sl (rx_sl (rx_sl rx_s0 (nat_lit 1)) (nat_lit 2)) (nat_lit 4)) (nat_lit 8)
def rx_s8 : rx_t8 → Nat → rx_C → rx_t8 := rx_sl (rx_sl (rx_sl (rx_sl rx_s4 (nat_lit 16)) (nat_lit 32)) (nat_lit 64)) (nat_lit 128)
def rx_hget (rh : rx_H) (k : Nat) : Option rx_C := cond (Nat.blt k (nat_lit 256)) (rx_g8 rh.1 k) none
def rx_hset (rh : rx_H) (k : Nat) (c : rx_C) : rx_H := (rx_s8 rh.1 k c, rh.2)
def rx_hpush (rh : rx_H) (c : rx_C) : rx_H := (rx_s8 rh.1 rh.2 c, Nat.succ rh.2)
abbrev rx_A : Type := Nat × Nat × rx_L × List rx_V × rx_S × rx_H × Nat × Nat
noncomputable def rx_at {α : Type} (l : List α) : Nat → Option α := List.rec (motive := fun _ => Nat → Option α) (fun _ => none) (fun a _ ih n => Nat.rec (some a) (fun m _ => ih m) n) l
noncomputable def rx_set {α : Type} (x : α) (l : List α) : Nat → List α := List.rec (motive := fun _ => Nat → List α) (fun _ => []) (fun a t ih n => Nat.rec (x :: t) (fun m _ => a :: ih m) n) l
noncomputable def rx_at2 {α : Type} (l : List (List α)) (k : Nat) : Option α := match rx_at l (Nat.div k (nat_lit 16)) with
  | none => none
  | some c => rx_at c (Nat.mod k (nat_lit 16))
/-- the newest pair with this place -/
noncomputable def rx_key {α : Type} (l : List (Nat × α)) (k : Nat) : Option α := List.rec (motive := fun _ => Option α) none (fun q _ ih => cond (Nat.beq q.1 k) (some q.2) ih) l
noncomputable def rx_m (mi : Nat) : rx_R := (rx_at2 rx_tab mi).getD (x, code, 0, none, 0, 0, 0, [])
noncomputable def rx_y (mi : Nat) : MethodName := (rx_m mi).1
noncomputable def rx_by (mi : Nat) : ByteArray := (rx_m mi).2.1
noncomputable def rx_ml (mi : Nat) : Nat := (rx_m mi).2.2.1
noncomputable def rx_rt (mi : Nat) : Option FieldType := (rx_m mi).2.2.2.1
noncomputable def rx_lv (mi : Nat) : Nat := (rx_m mi).2.2.2.2.1
noncomputable def rx_mc (mi : Nat) : Nat := (rx_m mi).2.2.2.2.2.1
noncomputable def rx_ms (mi : Nat) : Nat := (rx_m mi).2.2.2.2.2.2.1
noncomputable def rx_cd (mi : Nat) : List (List rx_E) := (rx_m mi).2.2.2.2.2.2.2
/-- a row of the table: sort, length, a, b, number, f, the word's place, the entry of the class file, offsets -/
abbrev rx_Q : Type := Nat × Nat × Nat × Nat × Int × Nat × Nat × Nat × List Int
noncomputable def rx_fetch (mi pc : Nat) : Option rx_Q := match rx_at (rx_cd mi) (Nat.div pc (nat_lit 16)) with
  | none => none
  | some l => rx_key l pc
/-- the room of a method: the law's own, or by its level -/
noncomputable def rx_room (mi : Nat) : Room := match mi with
  | 0 => room_1
  | k + 1 => { frames := rx_lv (k + 1), cells := rx_mc (k + 1), slots := rx_ms (k + 1), locals := 100 * rx_lv (k + 1) }
/-! numbers -/
def rx_le (a b : Int) : Bool := match a, b with
  | .ofNat m, .ofNat n => Nat.ble m n
  | .ofNat _, .negSucc _ => false
  | .negSucc _, .ofNat _ => true
  | .negSucc m, .negSucc n => Nat.ble n m
def rx_lo : Int := .negSucc (nat_lit 2147483647)
def rx_hi : Int := .ofNat (nat_lit 2147483647)
abbrev rx_c (n : Int) : rx_I := .inl n
abbrev rx_top : rx_I := .inr (.inr (rx_lo, rx_hi))
noncomputable def rx_rg (sr : rx_S) (r : rx_I) : Option (Int × Int) := match r with
  | .inl n => some (n, n)
  | .inr (.inl q) => match rx_at sr q.1 with
    | none => none
    | some w => some (w.1 + q.2, w.2 + q.2)
  | .inr (.inr q) => some q
/-- a number that is sure, as such -/
noncomputable def rx_norm (sr : rx_S) (r : rx_I) : rx_I := match r with
  | .inl n => .inl n
  | .inr (.inl q) => match rx_at sr q.1 with
    | none => r
    | some w => cond (rx_le w.2 w.1) (.inl (w.1 + q.2)) r
  | .inr (.inr q) => cond (rx_le q.2 q.1) (.inl q.1) r
noncomputable def rx_fit (sr : rx_S) (r : rx_I) (d : Int) : Bool := match rx_rg sr r with
  | none => false
  | some w => rx_le rx_lo (w.1 + d) && rx_le (w.2 + d) rx_hi
def rx_sum2 (n d : Int) : rx_I := match n, d with
  | .ofNat a, .ofNat b => cond (Nat.ble (Nat.add a b) (nat_lit 2147483647)) (.inl (.ofNat (Nat.add a b))) (.inl (Int32.ofInt n + Int32.ofInt d).toInt)
  | _, _ => .inl (Int32.ofInt n + Int32.ofInt d).toInt
noncomputable def rx_addc (sr : rx_S) (r : rx_I) (d : Int) : rx_I := match r with
  | .inl n => rx_sum2 n d
  | .inr (.inl q) => cond (rx_fit sr r d) (.inr (.inl (q.1, q.2 + d))) rx_top
  | .inr (.inr _) => rx_top
noncomputable def rx_add (sr : rx_S) (a b : rx_I) : rx_I := match b with
  | .inl d => rx_addc sr a d
  | _ => match a with
    | .inl d => rx_addc sr b d
    | _ => rx_top
noncomputable def rx_sub (sr : rx_S) (a b : rx_I) : rx_I := match b with
  | .inl d => match a with
    | .inl n => .inl (Int32.ofInt n - Int32.ofInt d).toInt
    | .inr (.inl q) => cond (rx_fit sr a (-d)) (.inr (.inl (q.1, q.2 - d))) rx_top
    | _ => rx_top
  | _ => rx_top
/-- what an operation makes of two numbers: sure of sure ones; else a span; or a symbol of few values is to be split -/
noncomputable def rx_few (sr : rx_S) (r : rx_I) : Option (Nat × Int × Nat) := match r with
  | .inr (.inl q) => match rx_at sr q.1 with
    | none => none
    | some w => cond (rx_le w.2 (w.1 + 16)) (some (q.1, w.1, (w.2 - w.1).toNat + 1)) none
  | _ => none
noncomputable def rx_alu (f : Int32 → Int32 → Int32) (sp : rx_I) (sr : rx_S) (a b : rx_I) : rx_I ⊕ (Nat × Int × Nat) := match rx_norm sr a with
  | .inl n => match rx_norm sr b with
    | .inl k => .inl (.inl (f (Int32.ofInt n) (Int32.ofInt k)).toInt)
    | _ => match rx_few sr b with
      | some q => .inr q
      | none => .inl sp
  | _ => match rx_few sr a with
    | some q => .inr q
    | none => match rx_norm sr b with
      | .inl _ => .inl sp
      | _ => match rx_few sr b with
        | some q => .inr q
        | none => .inl sp
/-! relations: 0 less, 1 not greater, 2 greater, 3 not less, 4 alike -/
noncomputable def rx_up (sr : rx_S) (r : rx_I) (h : Int) : rx_S := match r with
  | .inr (.inl q) => match rx_at sr q.1 with
    | none => sr
    | some w => cond (rx_le w.2 (h - q.2)) sr (rx_set (w.1, h - q.2) sr q.1)
  | _ => sr
noncomputable def rx_dn (sr : rx_S) (r : rx_I) (h : Int) : rx_S := match r with
  | .inr (.inl q) => match rx_at sr q.1 with
    | none => sr
    | some w => cond (rx_le (h - q.2) w.1) sr (rx_set (h - q.2, w.2) sr q.1)
  | _ => sr
noncomputable def rx_rel0 (k : Nat) (sr : rx_S) (a b : rx_I) (x y : Int × Int) : Option rx_S := match k with
  | 0 => cond (rx_le y.2 x.1) none (some (rx_up (rx_dn sr b (x.1 + 1)) a (y.2 - 1)))
  | 1 => cond (rx_le x.1 y.2) (some (rx_up (rx_dn sr b x.1) a y.2)) none
  | 2 => cond (rx_le x.2 y.1) none (some (rx_up (rx_dn sr a (y.1 + 1)) b (x.2 - 1)))
  | 3 => cond (rx_le y.1 x.2) (some (rx_up (rx_dn sr a y.1) b x.2)) none
  | _ => cond (rx_le x.1 y.2 && rx_le y.1 x.2) (some (rx_up (rx_dn (rx_up (rx_dn sr a y.1) a y.2) b x.1) b x.2)) none
noncomputable def rx_rel (k : Nat) (sr : rx_S) (a b : rx_I) : Option rx_S := match rx_rg sr a, rx_rg sr b with
  | some x, some y => match a, b with
    | .inr (.inl p), .inr (.inl q) => cond (Nat.beq p.1 q.1) (rx_rel0 k sr (rx_c p.2) (rx_c q.2) (p.2, p.2) (q.2, q.2)) (rx_rel0 k sr a b x y)
    | _, _ => rx_rel0 k sr a b x y
  | _, _ => some sr
/-- a condition's cases: a relation, and whether one jumps -/
def rx_cases (c : Nat) : List (Nat × Bool) := match c with
  | 0 => [(0, false), (4, true), (2, false)]
  | 1 => [(0, true), (4, false), (2, true)]
  | 2 => [(0, true), (3, false)]
  | 3 => [(3, true), (0, false)]
  | 4 => [(2, true), (1, false)]
  | _ => [(1, true), (2, false)]
def rx_tgt (pc : Nat) (off : Int) : Option Nat := match Int.ofNat pc + off with
  | .ofNat t => some t
  | .negSucc _ => none
/-- a condition of two sure numbers -/
def rx_ieq (a b : Int) : Bool := match a, b with
  | .ofNat m, .ofNat n => Nat.beq m n
  | .negSucc m, .negSucc n => Nat.beq m n
  | _, _ => false
def rx_cmp (c : Nat) (a b : Int) : Bool := match c with
  | 0 => rx_ieq a b
  | 1 => !(rx_ieq a b)
  | 2 => !(rx_le b a)
  | 3 => rx_le b a
  | 4 => !(rx_le a b)
  | _ => rx_le a b
noncomputable def rx_brs (pc : Nat) (n : Nat) (t : Nat) (sr : rx_S) (a b : rx_I) (l : List (Nat × Bool)) : List (Nat × rx_S) := List.rec (motive := fun _ => List (Nat × rx_S)) [] (fun q _ ih => match rx_rel q.1 sr a b with
  | none => ih
  | some z => (cond q.2 t (Nat.add pc n), z) :: ih) l
/-- all of a list go well: what comes of them -/
noncomputable def rx_all {α : Type} (f : α → Option (List rx_A)) (l : List α) : Option (List rx_A) := List.rec (motive := fun _ => Option (List rx_A)) (some []) (fun a t ih => match t with
  | [] => f a
  | _ :: _ => match f a with
    | none => none
    | some r => match ih with
      | none => none
      | some r2 => some (r ++ r2)) l
def rx_cat (r : rx_V) : Nat := match r with
  | .inr (.inr (.inl _)) => nat_lit 2
  | _ => nat_lit 1
def rx_sum (l : List rx_V) : Nat := match l with
  | [] => 0
  | r :: t => rx_cat r + rx_sum t
noncomputable def rx_drop (loc : rx_L) (i : Nat) : rx_L := List.rec (motive := fun _ => rx_L) [] (fun q _ ih => cond (Nat.beq q.1 i || (Nat.beq (Nat.succ q.1) i && Nat.beq (rx_cat q.2) (nat_lit 2))) ih (q :: ih)) loc
noncomputable def rx_store (loc : rx_L) (i : Nat) (v : rx_V) : rx_L := (i, v) :: rx_drop loc i
/-- a value that a field of this kind takes: 0 int, 1 boolean, 2 a reference -/
noncomputable def rx_takes (k : Nat) (sr : rx_S) (v : rx_V) : Bool := match k, v with
  | 0, .inl _ => true
  | 1, .inl i => match rx_rg sr i with
    | some w => rx_le 0 w.1 && rx_le w.2 1
    | none => false
  | 2, .inr (.inl (some _)) => true
  | _, _ => false
noncomputable def rx_dv (t : FieldType) : rx_V := match t with
  | .long => .inr (.inr (.inl (some 0)))
  | .object _ => .inr (.inl none)
  | .array _ => .inr (.inl none)
  | _ => .inl (.inl 0)
noncomputable def rx_look (d : rx_I) (ov : List (Nat × rx_I)) (j : Nat) : rx_I := match rx_key ov j with
  | some r => r
  | none => d
def rx_isc (r : rx_I) (d : rx_I) : Bool := match r, d with
  | .inl (.ofNat a), .inl (.ofNat b) => Nat.beq a b
  | _, _ => false
noncomputable def rx_put (ov : List (Nat × rx_I)) (j : Nat) (r : rx_I) : List (Nat × rx_I) := match ov with
  | [] => [(j, r)]
  | q :: t => cond (Nat.beq q.1 j) ((j, r) :: t) ((j, r) :: ov)
noncomputable def rx_ovr (d : rx_I) (ov : List (Nat × rx_I)) (j : Nat) (r : rx_I) : List (Nat × rx_I) := cond (rx_isc r d) (List.rec (motive := fun _ => List (Nat × rx_I)) [] (fun q _ ih => cond (Nat.beq q.1 j) ih (q :: ih)) ov) (rx_put ov j r)
/-- the locals that a call's values make -/
def rx_args (i : Nat) (l : List rx_V) : rx_L := match l with
  | [] => []
  | v :: t => (i, v) :: rx_args (i + rx_cat v) t
/-- what a method gives back, at the place where it ends -/
noncomputable def rx_back (mj : Nat) (o : rx_A) : Option (List rx_V) := match rx_fetch mj o.2.1, o.2.2.2.1 with
  | some q, [] => match rx_rt mj with
    | none => cond (Nat.beq q.1 26) (some []) none
    | some _ => none
  | some q, [.inl r] => match rx_rt mj with
    | some .int => cond (Nat.beq q.1 6) (some [.inl r]) none
    | some .boolean => cond (Nat.beq q.1 6 && rx_takes 1 o.2.2.2.2.1 (.inl r)) (some [.inl r]) none
    | _ => none
  | _, _ => none
end
section
/-! the tables hold: each row's instruction and the words that it links, by the kernel -/
def rx_f4 (k : Nat) : Fin 4 := ⟨k % 4, Nat.mod_lt k (by decide)⟩
def rx_cond (b : Nat) : ClassFile.Cond := match b with
  | 0 => .eq
  | 1 => .ne
  | 2 => .lt
  | 3 => .ge
  | 4 => .gt
  | _ => .le
def rx_aty (a : Nat) : ArrayType := match a with
  | 0 => .int
  | 1 => .byte
  | 2 => .boolean
  | _ => .long
/-- the instruction of a row -/
def rx_ins (q : rx_Q) : Instr := match q.1 with
  | 0 => .aload_n (rx_f4 q.2.2.1)
  | 1 => .iload_n (rx_f4 q.2.2.1)
  | 2 => .getfield q.2.2.2.2.2.2.2.1
  | 3 => .iconst q.2.2.2.2.1
  | 4 => .if_icmp (rx_cond q.2.2.2.1) q.2.2.2.2.1
  | 5 => .goto q.2.2.2.2.1
  | 6 => .ireturn
  | 7 => .iinc q.2.2.1 q.2.2.2.2.1
  | 8 => .invokevirtual q.2.2.2.2.2.2.2.1
  | 9 => .iaload
  | 10 => .iastore
  | 11 => .istore_n (rx_f4 q.2.2.1)
  | 12 => .iadd
  | 13 => .bastore
  | 14 => .ifCond (rx_cond q.2.2.2.1) q.2.2.2.2.1
  | 15 => .putfield q.2.2.2.2.2.2.2.1
  | 16 => .dup
  | 17 => .ishl
  | 18 => .iand
  | 19 => .ishr
  | 20 => .sipush q.2.2.2.2.1
  | 21 => .bipush q.2.2.2.2.1
  | 22 => .iload q.2.2.1
  | 23 => .isub
  | 24 => .invokestatic q.2.2.2.2.2.2.2.1
  | 25 => .istore q.2.2.1
  | 26 => .return_
  | 27 => .arraylength
  | 28 => .imul
  | 29 => .iushr
  | 30 => .ldc_w q.2.2.2.2.2.2.2.1
  | 31 => .irem
  | 32 => .newarray (rx_aty q.2.2.1)
  | 33 => .invokespecial q.2.2.2.2.2.2.2.1
  | 34 => .invokespecial q.2.2.2.2.2.2.2.1
  | 35 => .invokestatic q.2.2.2.2.2.2.2.1
  | 36 => .idiv
  | 37 => .i2b
  | 38 => .tableswitch q.2.2.2.2.1 (Int.ofNat q.2.2.1) (Int.ofNat q.2.2.2.2.2.1) q.2.2.2.2.2.2.2.2.toArray
  | 39 => .baload
  | 40 => .new q.2.2.2.2.2.2.2.1
  | 41 => .anewarray q.2.2.2.2.2.2.2.1
  | 42 => .multianewarray q.2.2.2.2.2.2.2.1 2
  | 43 => .aastore
  | 44 => .aaload
  | 45 => .dup2
  | 46 => .astore_n (rx_f4 q.2.2.1)
  | 47 => .aload q.2.2.1
  | 48 => .astore q.2.2.1
  | 49 => .ior
  | 50 => .ixor
  | 51 => .invokestatic q.2.2.2.2.2.2.2.1
  | 52 => .invokestatic q.2.2.2.2.2.2.2.1
  | _ => .nop
def rx_lens : List Nat := [1, 1, 3, 1, 3, 3, 1, 3, 3, 1, 1, 1, 1, 1, 3, 3, 1, 1, 1, 1, 3, 2, 2, 1, 3, 2, 1, 1, 1, 1, 3, 1, 2, 3, 3, 3, 1, 1, 0, 1, 3, 3, 4, 1, 1, 1, 1, 2, 2, 1, 1, 3, 3]
noncomputable def rx_mem0 (k : Nat) (w : Jvm.Cond) : Bool := decide (rx_at lw_tbl k = some w)
noncomputable def rx_mem (k : Nat) (w : Jvm.Cond) : Bool := rx_mem0 k w && goodWord w
/-- the words that go along into every call -/
noncomputable def rx_tt : List Jvm.Cond := lw_tbl.filter goodWord
noncomputable def rx_w (mi : Nat) : Nat × Nat × Nat × Nat × Nat × Nat := (rx_at2 rx_wl mi).getD (0, 0, 0, 0, 9, 0)
/-- of a field's type, the kind of value that it takes -/
def rx_kty (k : Nat) (t : FieldType) : Bool := match k, t with
  | 0, .int => true
  | 1, .boolean => true
  | 2, .object _ => true
  | 2, .array _ => true
  | _, _ => false
noncomputable def rx_lnk (mi pc : Nat) (q : rx_Q) : Bool := match q.1 with
  | 0 => Nat.blt q.2.2.1 4
  | 1 => Nat.blt q.2.2.1 4
  | 11 => Nat.blt q.2.2.1 4
  | 46 => Nat.blt q.2.2.1 4
  | 3 => decide ((Int32.ofInt q.2.2.2.2.1).toInt = q.2.2.2.2.1)
  | 7 => decide ((Int32.ofInt q.2.2.2.2.1).toInt = q.2.2.2.2.1)
  | 20 => decide ((Int16.ofInt q.2.2.2.2.1).toInt32.toInt = q.2.2.2.2.1)
  | 21 => decide ((Int8.ofInt q.2.2.2.2.1).toInt32.toInt = q.2.2.2.2.1)
  | 30 => decide ((Int32.ofInt q.2.2.2.2.1).toInt = q.2.2.2.2.1) && rx_mem q.2.2.2.2.2.2.1 (.constant (rx_y mi).cls q.2.2.2.2.2.2.2.1 (Int32.ofInt q.2.2.2.2.1))
  | 2 => match rx_at rx_cls q.2.2.1 with
    | some (_, T, N) => Nat.blt q.2.2.2.1 N && rx_mem q.2.2.2.2.2.2.1 (.fieldLink (rx_y mi).cls q.2.2.2.2.2.2.2.1 (T q.2.2.2.1).1 (T q.2.2.2.1).2.1 (T q.2.2.2.1).2.2.1)
    | none => false
  | 15 => match rx_at rx_cls q.2.2.1, rx_at rx_Ys q.2.2.1 with
    | some (_, T, N), some ty => Nat.blt q.2.2.2.1 N && rx_mem q.2.2.2.2.2.2.1 (.fieldLink (rx_y mi).cls q.2.2.2.2.2.2.2.1 (T q.2.2.2.1).1 (T q.2.2.2.1).2.1 (T q.2.2.2.1).2.2.1) && rx_kty (q.2.2.2.2.2.1 % 10) (ty q.2.2.2.1) && (cond (T q.2.2.2.1).2.2.2 (decide ((rx_y mi).name = "<init>") && decide ((T q.2.2.2.1).1 = (rx_y mi).cls)) true)
    | _, _ => false
  | 40 => match rx_at rx_cls q.2.2.1 with
    | some (C, _, _) => rx_mem q.2.2.2.2.2.2.1 (.classLink (rx_y mi).cls q.2.2.2.2.2.2.2.1 C)
    | none => false
  | 32 => Nat.ble q.2.2.1 3
  | 41 => rx_mem q.2.2.2.2.2.2.1 (.classLink (rx_y mi).cls q.2.2.2.2.2.2.2.1 "MirrorLies$Hour")
  | 42 => rx_mem q.2.2.2.2.2.2.1 (.classLink (rx_y mi).cls q.2.2.2.2.2.2.2.1 ("[" ++ (FieldType.array .int).toString))
  | 8 => rx_mem q.2.2.2.2.2.2.1 (.methodLink (rx_y mi).cls q.2.2.2.2.2.2.2.1 (rx_y q.2.2.1)) && Nat.beq (rx_w q.2.2.1).2.2.2.2.1 0 && Nat.beq (rx_w q.2.2.1).2.2.2.2.2 q.2.2.2.2.2.1 && (match rx_at rx_cls (Nat.div q.2.2.2.1 (nat_lit 10)) with
    | some (C, _, _) => decide ((rx_y q.2.2.1).cls = C)
    | none => false)
  | 24 => rx_mem q.2.2.2.2.2.2.1 (.methodLink (rx_y mi).cls q.2.2.2.2.2.2.2.1 (rx_y q.2.2.1)) && Nat.beq (rx_w q.2.2.1).2.2.2.2.1 1 && Nat.beq (rx_w q.2.2.1).2.2.2.2.2 q.2.2.2.2.2.1
  | 33 => Nat.beq (rx_w q.2.2.1).2.2.2.2.1 2 && Nat.beq (rx_w q.2.2.1).2.2.2.2.2 q.2.2.2.2.2.1 && (rx_mem q.2.2.2.2.2.2.1 (.methodLink (rx_y mi).cls q.2.2.2.2.2.2.2.1 (rx_y q.2.2.1)) || rx_mem0 q.2.2.2.2.2.2.1 (.methodLinkNest (rx_y mi).cls q.2.2.2.2.2.2.2.1 (rx_y q.2.2.1) "MirrorLies"))
  | 34 => rx_mem q.2.2.2.2.2.2.1 (.methodLink (rx_y mi).cls q.2.2.2.2.2.2.2.1 objectInit)
  | 35 => rx_mem q.2.2.2.2.2.2.1 (.methodLink (rx_y mi).cls q.2.2.2.2.2.2.2.1 arraycopyName)
  | 51 => rx_mem q.2.2.2.2.2.2.1 (.methodLink (rx_y mi).cls q.2.2.2.2.2.2.2.1 Lib.Math.min.name)
  | 52 => rx_mem q.2.2.2.2.2.2.1 (.methodLink (rx_y mi).cls q.2.2.2.2.2.2.2.1 Lib.Math.max.name)
  | 38 => Nat.beq (Nat.add q.2.2.2.2.2.1 1) (Nat.add q.2.2.1 q.2.2.2.2.2.2.2.2.length) && q.2.2.2.2.2.2.2.2.all (fun o => (rx_tgt pc o).isSome)
  | _ => true
noncomputable def rx_chk (mi pc : Nat) (q : rx_Q) : Bool := decide (decode (rx_by mi) pc = .ok (rx_ins q, q.2.1)) && (Nat.beq q.1 38 || Nat.beq q.2.1 ((rx_at rx_lens q.1).getD 0)) && rx_lnk mi pc q
/-- all rows of a method, each in its bucket -/
noncomputable def rx_mchk (mi : Nat) : Bool := (rx_cd mi).all (fun l => l.all (fun e => rx_chk mi e.1 e.2))
/-- a method's own words -/
noncomputable def rx_mw (mi : Nat) : Bool := rx_mem (rx_w mi).1 (.code (rx_y mi) (rx_by mi) (rx_ml mi) (rx_rt mi)) && rx_mem (rx_w mi).2.2.2.1 (.initialized (rx_y mi).cls) && plainName (rx_y mi).cls && decide ((rx_y mi).cls ≠ "java/lang/invoke/MethodHandle") && decide ((rx_y mi).cls ≠ "java/lang/invoke/VarHandle") && decide ((parseMethodDescriptor (rx_y mi).desc).map (fun d => d.parameters.length) = some (rx_w mi).2.2.2.2.2) && (match (rx_w mi).2.2.2.2.1 with
  | 0 => rx_mem (rx_w mi).2.1 (.instanceMethod (rx_y mi)) && rx_mem (rx_w mi).2.2.1 (.selects (rx_y mi).cls (rx_y mi) (rx_y mi))
  | 1 => rx_mem (rx_w mi).2.1 (.static (rx_y mi))
  | 2 => rx_mem (rx_w mi).2.1 (.instanceMethod (rx_y mi)) && decide ((rx_y mi).name = "<init>") && decide (rx_rt mi = none)
  | _ => false)
/-! words of the machine's own -/
theorem rx_w1 : rx_mem 135 (.instanceMethod objectInit) = true := by decide +kernel
theorem rx_w2 : rx_mem 136 (.code objectInit ⟨#[0xb1]⟩ 1 none) = true := by decide +kernel
theorem rx_w3 : rx_mem 532 (.native arraycopyName) = true := by decide +kernel
theorem rx_w4 : rx_mem 531 (.static arraycopyName) = true := by decide +kernel
theorem rx_w5 : rx_mem 120 (.initialized "java/lang/System") = true := by decide +kernel
theorem rx_w6 : rx_mem 875 (.static Lib.Math.min.name) = true := by decide +kernel
theorem rx_w7 : rx_mem 876 (.code Lib.Math.min.name Lib.Math.min.code 2 (some .int)) = true := by decide +kernel
theorem rx_w8 : rx_mem 1192 (.static Lib.Math.max.name) = true := by decide +kernel
theorem rx_w9 : rx_mem 1193 (.code Lib.Math.max.name Lib.Math.max.code 2 (some .int)) = true := by decide +kernel
theorem rx_w10 : rx_mem 128 (.initialized "java/lang/Math") = true := by decide +kernel
theorem rx_w11 : rx_mem0 338 (.arrayOver (.object "MirrorLies$Hour")) = true := by decide +kernel
theorem rx_w12 : rx_mem0 346 (.arrayOver (.array .int)) = true := by decide +kernel
end
section
set_option maxRecDepth 100000 in
theorem rx_mc_1 : rx_mchk 1 = true := by decide +kernel
set_option maxRecDepth 100000 in
theorem rx_mw_1 : rx_mw 1 = true := by decide +kernel
set_option maxRecDepth 100000 in
theorem rx_mc_2 : rx_mchk 2 = true := by decide +kernel
set_option maxRecDepth 100000 in
theorem rx_mw_2 : rx_mw 2 = true := by decide +kernel
set_option maxRecDepth 100000 in
theorem rx_mc_3 : rx_mchk 3 = true := by decide +kernel
set_option maxRecDepth 100000 in
theorem rx_mw_3 : rx_mw 3 = true := by decide +kernel
set_option maxRecDepth 100000 in
theorem rx_mc_4 : rx_mchk 4 = true := by decide +kernel
set_option maxRecDepth 100000 in
theorem rx_mw_4 : rx_mw 4 = true := by decide +kernel
set_option maxRecDepth 100000 in
theorem rx_mc_5 : rx_mchk 5 = true := by decide +kernel
set_option maxRecDepth 100000 in
theorem rx_mw_5 : rx_mw 5 = true := by decide +kernel
set_option maxRecDepth 100000 in
theorem rx_mc_6 : rx_mchk 6 = true := by decide +kernel
set_option maxRecDepth 100000 in
theorem rx_mw_6 : rx_mw 6 = true := by decide +kernel
set_option maxRecDepth 100000 in
theorem rx_mc_7 : rx_mchk 7 = true := by decide +kernel
set_option maxRecDepth 100000 in
theorem rx_mw_7 : rx_mw 7 = true := by decide +kernel
set_option maxRecDepth 100000 in
theorem rx_mc_8 : rx_mchk 8 = true := by decide +kernel
set_option maxRecDepth 100000 in
theorem rx_mw_8 : rx_mw 8 = true := by decide +kernel
set_option maxRecDepth 100000 in
theorem rx_mc_9 : rx_mchk 9 = true := by decide +kernel
set_option maxRecDepth 100000 in
theorem rx_mw_9 : rx_mw 9 = true := by decide +kernel
set_option maxRecDepth 100000 in
theorem rx_mc_10 : rx_mchk 10 = true := by decide +kernel
set_option maxRecDepth 100000 in
theorem rx_mw_10 : rx_mw 10 = true := by decide +kernel
set_option maxRecDepth 100000 in
theorem rx_mc_11 : rx_mchk 11 = true := by decide +kernel
set_option maxRecDepth 100000 in
theorem rx_mw_11 : rx_mw 11 = true := by decide +kernel
set_option maxRecDepth 100000 in
theorem rx_mc_12 : rx_mchk 12 = true := by decide +kernel
set_option maxRecDepth 100000 in
theorem rx_mw_12 : rx_mw 12 = true := by decide +kernel
set_option maxRecDepth 100000 in
theorem rx_mc_13 : rx_mchk 13 = true := by decide +kernel
set_option maxRecDepth 100000 in
theorem rx_mw_13 : rx_mw 13 = true := by decide +kernel
set_option maxRecDepth 100000 in
theorem rx_mc_14 : rx_mchk 14 = true := by decide +kernel
set_option maxRecDepth 100000 in
theorem rx_mw_14 : rx_mw 14 = true := by decide +kernel
set_option maxRecDepth 100000 in
theorem rx_mc_15 : rx_mchk 15 = true := by decide +kernel
set_option maxRecDepth 100000 in
theorem rx_mw_15 : rx_mw 15 = true := by decide +kernel
end
section
set_option maxRecDepth 100000 in
theorem rx_mc_16 : rx_mchk 16 = true := by decide +kernel
set_option maxRecDepth 100000 in
theorem rx_mw_16 : rx_mw 16 = true := by decide +kernel
set_option maxRecDepth 100000 in
theorem rx_mc_17 : rx_mchk 17 = true := by decide +kernel
set_option maxRecDepth 100000 in
theorem rx_mw_17 : rx_mw 17 = true := by decide +kernel
set_option maxRecDepth 100000 in
theorem rx_mc_18 : rx_mchk 18 = true := by decide +kernel
set_option maxRecDepth 100000 in
theorem rx_mw_18 : rx_mw 18 = true := by decide +kernel
set_option maxRecDepth 100000 in
theorem rx_mc_19 : rx_mchk 19 = true := by decide +kernel
set_option maxRecDepth 100000 in
theorem rx_mw_19 : rx_mw 19 = true := by decide +kernel
set_option maxRecDepth 100000 in
theorem rx_mc_20 : rx_mchk 20 = true := by decide +kernel
set_option maxRecDepth 100000 in
theorem rx_mw_20 : rx_mw 20 = true := by decide +kernel
set_option maxRecDepth 100000 in
theorem rx_mc_21 : rx_mchk 21 = true := by decide +kernel
set_option maxRecDepth 100000 in
theorem rx_mw_21 : rx_mw 21 = true := by decide +kernel
set_option maxRecDepth 100000 in
theorem rx_mc_22 : rx_mchk 22 = true := by decide +kernel
set_option maxRecDepth 100000 in
theorem rx_mw_22 : rx_mw 22 = true := by decide +kernel
set_option maxRecDepth 100000 in
theorem rx_mc_23 : rx_mchk 23 = true := by decide +kernel
set_option maxRecDepth 100000 in
theorem rx_mw_23 : rx_mw 23 = true := by decide +kernel
set_option maxRecDepth 100000 in
theorem rx_mc_24 : rx_mchk 24 = true := by decide +kernel
set_option maxRecDepth 100000 in
theorem rx_mw_24 : rx_mw 24 = true := by decide +kernel
set_option maxRecDepth 100000 in
theorem rx_mc_25 : rx_mchk 25 = true := by decide +kernel
set_option maxRecDepth 100000 in
theorem rx_mw_25 : rx_mw 25 = true := by decide +kernel
set_option maxRecDepth 100000 in
theorem rx_mc_26 : rx_mchk 26 = true := by decide +kernel
set_option maxRecDepth 100000 in
theorem rx_mw_26 : rx_mw 26 = true := by decide +kernel
set_option maxRecDepth 100000 in
theorem rx_mc_27 : rx_mchk 27 = true := by decide +kernel
set_option maxRecDepth 100000 in
theorem rx_mw_27 : rx_mw 27 = true := by decide +kernel
set_option maxRecDepth 100000 in
theorem rx_mc_28 : rx_mchk 28 = true := by decide +kernel
set_option maxRecDepth 100000 in
theorem rx_mw_28 : rx_mw 28 = true := by decide +kernel
set_option maxRecDepth 100000 in
theorem rx_mc_29 : rx_mchk 29 = true := by decide +kernel
set_option maxRecDepth 100000 in
theorem rx_mw_29 : rx_mw 29 = true := by decide +kernel
set_option maxRecDepth 100000 in
theorem rx_mc_30 : rx_mchk 30 = true := by decide +kernel
set_option maxRecDepth 100000 in
theorem rx_mw_30 : rx_mw 30 = true := by decide +kernel
set_option maxRecDepth 100000 in
theorem rx_mc_31 : rx_mchk 31 = true := by decide +kernel
set_option maxRecDepth 100000 in
theorem rx_mw_31 : rx_mw 31 = true := by decide +kernel
end
section
set_option maxRecDepth 100000 in
theorem rx_mc_32 : rx_mchk 32 = true := by decide +kernel
set_option maxRecDepth 100000 in
theorem rx_mw_32 : rx_mw 32 = true := by decide +kernel
set_option maxRecDepth 100000 in
theorem rx_mc_33 : rx_mchk 33 = true := by decide +kernel
set_option maxRecDepth 100000 in
theorem rx_mw_33 : rx_mw 33 = true := by decide +kernel
set_option maxRecDepth 100000 in
theorem rx_mc_34 : rx_mchk 34 = true := by decide +kernel
set_option maxRecDepth 100000 in
theorem rx_mw_34 : rx_mw 34 = true := by decide +kernel
set_option maxRecDepth 100000 in
theorem rx_mc_35 : rx_mchk 35 = true := by decide +kernel
set_option maxRecDepth 100000 in
theorem rx_mw_35 : rx_mw 35 = true := by decide +kernel
set_option maxRecDepth 100000 in
theorem rx_mc_36 : rx_mchk 36 = true := by decide +kernel
set_option maxRecDepth 100000 in
theorem rx_mw_36 : rx_mw 36 = true := by decide +kernel
set_option maxRecDepth 100000 in
theorem rx_mc_37 : rx_mchk 37 = true := by decide +kernel
set_option maxRecDepth 100000 in
theorem rx_mw_37 : rx_mw 37 = true := by decide +kernel
set_option maxRecDepth 100000 in
theorem rx_mc_38 : rx_mchk 38 = true := by decide +kernel
set_option maxRecDepth 100000 in
theorem rx_mw_38 : rx_mw 38 = true := by decide +kernel
set_option maxRecDepth 100000 in
theorem rx_mc_39 : rx_mchk 39 = true := by decide +kernel
set_option maxRecDepth 100000 in
theorem rx_mw_39 : rx_mw 39 = true := by decide +kernel
set_option maxRecDepth 100000 in
theorem rx_mc_40 : rx_mchk 40 = true := by decide +kernel
set_option maxRecDepth 100000 in
theorem rx_mw_40 : rx_mw 40 = true := by decide +kernel
set_option maxRecDepth 100000 in
theorem rx_mc_41 : rx_mchk 41 = true := by decide +kernel
set_option maxRecDepth 100000 in
theorem rx_mw_41 : rx_mw 41 = true := by decide +kernel
set_option maxRecDepth 100000 in
theorem rx_mc_42 : rx_mchk 42 = true := by decide +kernel
set_option maxRecDepth 100000 in
theorem rx_mw_42 : rx_mw 42 = true := by decide +kernel
set_option maxRecDepth 100000 in
theorem rx_mc_43 : rx_mchk 43 = true := by decide +kernel
set_option maxRecDepth 100000 in
theorem rx_mw_43 : rx_mw 43 = true := by decide +kernel
set_option maxRecDepth 100000 in
theorem rx_mc_44 : rx_mchk 44 = true := by decide +kernel
set_option maxRecDepth 100000 in
theorem rx_mw_44 : rx_mw 44 = true := by decide +kernel
set_option maxRecDepth 100000 in
theorem rx_mc_45 : rx_mchk 45 = true := by decide +kernel
set_option maxRecDepth 100000 in
theorem rx_mw_45 : rx_mw 45 = true := by decide +kernel
set_option maxRecDepth 100000 in
theorem rx_mc_46 : rx_mchk 46 = true := by decide +kernel
set_option maxRecDepth 100000 in
theorem rx_mw_46 : rx_mw 46 = true := by decide +kernel
set_option maxRecDepth 100000 in
theorem rx_mc_47 : rx_mchk 47 = true := by decide +kernel
set_option maxRecDepth 100000 in
theorem rx_mw_47 : rx_mw 47 = true := by decide +kernel
end
section
set_option maxRecDepth 100000 in
theorem rx_mc_48 : rx_mchk 48 = true := by decide +kernel
set_option maxRecDepth 100000 in
theorem rx_mw_48 : rx_mw 48 = true := by decide +kernel
set_option maxRecDepth 100000 in
theorem rx_mc_49 : rx_mchk 49 = true := by decide +kernel
set_option maxRecDepth 100000 in
theorem rx_mw_49 : rx_mw 49 = true := by decide +kernel
set_option maxRecDepth 100000 in
theorem rx_mc_50 : rx_mchk 50 = true := by decide +kernel
set_option maxRecDepth 100000 in
theorem rx_mw_50 : rx_mw 50 = true := by decide +kernel
set_option maxRecDepth 100000 in
theorem rx_mc_51 : rx_mchk 51 = true := by decide +kernel
set_option maxRecDepth 100000 in
theorem rx_mw_51 : rx_mw 51 = true := by decide +kernel
set_option maxRecDepth 100000 in
theorem rx_mc_52 : rx_mchk 52 = true := by decide +kernel
set_option maxRecDepth 100000 in
theorem rx_mw_52 : rx_mw 52 = true := by decide +kernel
set_option maxRecDepth 100000 in
theorem rx_mc_53 : rx_mchk 53 = true := by decide +kernel
set_option maxRecDepth 100000 in
theorem rx_mw_53 : rx_mw 53 = true := by decide +kernel
set_option maxRecDepth 100000 in
theorem rx_mc_54 : rx_mchk 54 = true := by decide +kernel
set_option maxRecDepth 100000 in
theorem rx_mw_54 : rx_mw 54 = true := by decide +kernel
set_option maxRecDepth 100000 in
theorem rx_mc_55 : rx_mchk 55 = true := by decide +kernel
set_option maxRecDepth 100000 in
theorem rx_mw_55 : rx_mw 55 = true := by decide +kernel
set_option maxRecDepth 100000 in
theorem rx_mc_56 : rx_mchk 56 = true := by decide +kernel
set_option maxRecDepth 100000 in
theorem rx_mw_56 : rx_mw 56 = true := by decide +kernel
set_option maxRecDepth 100000 in
theorem rx_mc_57 : rx_mchk 57 = true := by decide +kernel
set_option maxRecDepth 100000 in
theorem rx_mw_57 : rx_mw 57 = true := by decide +kernel
set_option maxRecDepth 100000 in
theorem rx_mc_58 : rx_mchk 58 = true := by decide +kernel
set_option maxRecDepth 100000 in
theorem rx_mw_58 : rx_mw 58 = true := by decide +kernel
set_option maxRecDepth 100000 in
theorem rx_mc_59 : rx_mchk 59 = true := by decide +kernel
set_option maxRecDepth 100000 in
theorem rx_mw_59 : rx_mw 59 = true := by decide +kernel
set_option maxRecDepth 100000 in
theorem rx_mc_60 : rx_mchk 60 = true := by decide +kernel
set_option maxRecDepth 100000 in
theorem rx_mw_60 : rx_mw 60 = true := by decide +kernel
set_option maxRecDepth 100000 in
theorem rx_mc_61 : rx_mchk 61 = true := by decide +kernel
set_option maxRecDepth 100000 in
theorem rx_mw_61 : rx_mw 61 = true := by decide +kernel
set_option maxRecDepth 100000 in
theorem rx_mc_62 : rx_mchk 62 = true := by decide +kernel
set_option maxRecDepth 100000 in
theorem rx_mw_62 : rx_mw 62 = true := by decide +kernel
set_option maxRecDepth 100000 in
theorem rx_mc_63 : rx_mchk 63 = true := by decide +kernel
set_option maxRecDepth 100000 in
theorem rx_mw_63 : rx_mw 63 = true := by decide +kernel
end
section
set_option maxRecDepth 100000 in
theorem rx_mc_64 : rx_mchk 64 = true := by decide +kernel
set_option maxRecDepth 100000 in
theorem rx_mw_64 : rx_mw 64 = true := by decide +kernel
set_option maxRecDepth 100000 in
theorem rx_mc_65 : rx_mchk 65 = true := by decide +kernel
set_option maxRecDepth 100000 in
theorem rx_mw_65 : rx_mw 65 = true := by decide +kernel
set_option maxRecDepth 100000 in
theorem rx_mc_66 : rx_mchk 66 = true := by decide +kernel
set_option maxRecDepth 100000 in
theorem rx_mw_66 : rx_mw 66 = true := by decide +kernel
set_option maxRecDepth 100000 in
theorem rx_mc_67 : rx_mchk 67 = true := by decide +kernel
set_option maxRecDepth 100000 in
theorem rx_mw_67 : rx_mw 67 = true := by decide +kernel
set_option maxRecDepth 100000 in
theorem rx_mc_68 : rx_mchk 68 = true := by decide +kernel
set_option maxRecDepth 100000 in
theorem rx_mw_68 : rx_mw 68 = true := by decide +kernel
set_option maxRecDepth 100000 in
theorem rx_mc_69 : rx_mchk 69 = true := by decide +kernel
set_option maxRecDepth 100000 in
theorem rx_mw_69 : rx_mw 69 = true := by decide +kernel
set_option maxRecDepth 100000 in
theorem rx_mc_70 : rx_mchk 70 = true := by decide +kernel
set_option maxRecDepth 100000 in
theorem rx_mw_70 : rx_mw 70 = true := by decide +kernel
set_option maxRecDepth 100000 in
theorem rx_mc_71 : rx_mchk 71 = true := by decide +kernel
set_option maxRecDepth 100000 in
theorem rx_mw_71 : rx_mw 71 = true := by decide +kernel
set_option maxRecDepth 100000 in
theorem rx_mc_72 : rx_mchk 72 = true := by decide +kernel
set_option maxRecDepth 100000 in
theorem rx_mw_72 : rx_mw 72 = true := by decide +kernel
set_option maxRecDepth 100000 in
theorem rx_mc_73 : rx_mchk 73 = true := by decide +kernel
set_option maxRecDepth 100000 in
theorem rx_mw_73 : rx_mw 73 = true := by decide +kernel
set_option maxRecDepth 100000 in
theorem rx_mc_74 : rx_mchk 74 = true := by decide +kernel
set_option maxRecDepth 100000 in
theorem rx_mw_74 : rx_mw 74 = true := by decide +kernel
set_option maxRecDepth 100000 in
theorem rx_mc_75 : rx_mchk 75 = true := by decide +kernel
set_option maxRecDepth 100000 in
theorem rx_mw_75 : rx_mw 75 = true := by decide +kernel
set_option maxRecDepth 100000 in
theorem rx_mc_76 : rx_mchk 76 = true := by decide +kernel
set_option maxRecDepth 100000 in
theorem rx_mw_76 : rx_mw 76 = true := by decide +kernel
set_option maxRecDepth 100000 in
theorem rx_mc_77 : rx_mchk 77 = true := by decide +kernel
set_option maxRecDepth 100000 in
theorem rx_mw_77 : rx_mw 77 = true := by decide +kernel
set_option maxRecDepth 100000 in
theorem rx_mc_78 : rx_mchk 78 = true := by decide +kernel
set_option maxRecDepth 100000 in
theorem rx_mw_78 : rx_mw 78 = true := by decide +kernel
set_option maxRecDepth 100000 in
theorem rx_mc_79 : rx_mchk 79 = true := by decide +kernel
set_option maxRecDepth 100000 in
theorem rx_mw_79 : rx_mw 79 = true := by decide +kernel
end
section
set_option maxRecDepth 100000 in
theorem rx_mc_80 : rx_mchk 80 = true := by decide +kernel
set_option maxRecDepth 100000 in
theorem rx_mw_80 : rx_mw 80 = true := by decide +kernel
set_option maxRecDepth 100000 in
theorem rx_mc_81 : rx_mchk 81 = true := by decide +kernel
set_option maxRecDepth 100000 in
theorem rx_mw_81 : rx_mw 81 = true := by decide +kernel
set_option maxRecDepth 100000 in
theorem rx_mc_82 : rx_mchk 82 = true := by decide +kernel
set_option maxRecDepth 100000 in
theorem rx_mw_82 : rx_mw 82 = true := by decide +kernel
set_option maxRecDepth 100000 in
theorem rx_mc_83 : rx_mchk 83 = true := by decide +kernel
set_option maxRecDepth 100000 in
theorem rx_mw_83 : rx_mw 83 = true := by decide +kernel
set_option maxRecDepth 100000 in
theorem rx_mc_84 : rx_mchk 84 = true := by decide +kernel
set_option maxRecDepth 100000 in
theorem rx_mw_84 : rx_mw 84 = true := by decide +kernel
set_option maxRecDepth 100000 in
theorem rx_mc_85 : rx_mchk 85 = true := by decide +kernel
set_option maxRecDepth 100000 in
theorem rx_mw_85 : rx_mw 85 = true := by decide +kernel
set_option maxRecDepth 100000 in
theorem rx_mc_86 : rx_mchk 86 = true := by decide +kernel
set_option maxRecDepth 100000 in
theorem rx_mw_86 : rx_mw 86 = true := by decide +kernel
set_option maxRecDepth 100000 in
theorem rx_mc_87 : rx_mchk 87 = true := by decide +kernel
set_option maxRecDepth 100000 in
theorem rx_mw_87 : rx_mw 87 = true := by decide +kernel
set_option maxRecDepth 100000 in
theorem rx_mc_88 : rx_mchk 88 = true := by decide +kernel
set_option maxRecDepth 100000 in
theorem rx_mw_88 : rx_mw 88 = true := by decide +kernel
set_option maxRecDepth 100000 in
theorem rx_mc_89 : rx_mchk 89 = true := by decide +kernel
set_option maxRecDepth 100000 in
theorem rx_mw_89 : rx_mw 89 = true := by decide +kernel
set_option maxRecDepth 100000 in
theorem rx_mc_90 : rx_mchk 90 = true := by decide +kernel
set_option maxRecDepth 100000 in
theorem rx_mw_90 : rx_mw 90 = true := by decide +kernel
set_option maxRecDepth 100000 in
theorem rx_mc_91 : rx_mchk 91 = true := by decide +kernel
set_option maxRecDepth 100000 in
theorem rx_mw_91 : rx_mw 91 = true := by decide +kernel
set_option maxRecDepth 100000 in
theorem rx_mc_92 : rx_mchk 92 = true := by decide +kernel
set_option maxRecDepth 100000 in
theorem rx_mw_92 : rx_mw 92 = true := by decide +kernel
set_option maxRecDepth 100000 in
theorem rx_mc_93 : rx_mchk 93 = true := by decide +kernel
set_option maxRecDepth 100000 in
theorem rx_mw_93 : rx_mw 93 = true := by decide +kernel
set_option maxRecDepth 100000 in
theorem rx_mc_94 : rx_mchk 94 = true := by decide +kernel
set_option maxRecDepth 100000 in
theorem rx_mw_94 : rx_mw 94 = true := by decide +kernel
set_option maxRecDepth 100000 in
theorem rx_mc_95 : rx_mchk 95 = true := by decide +kernel
set_option maxRecDepth 100000 in
theorem rx_mw_95 : rx_mw 95 = true := by decide +kernel
end
section
set_option maxRecDepth 100000 in
theorem rx_mc_96 : rx_mchk 96 = true := by decide +kernel
set_option maxRecDepth 100000 in
theorem rx_mw_96 : rx_mw 96 = true := by decide +kernel
set_option maxRecDepth 100000 in
theorem rx_mc_97 : rx_mchk 97 = true := by decide +kernel
set_option maxRecDepth 100000 in
theorem rx_mw_97 : rx_mw 97 = true := by decide +kernel
set_option maxRecDepth 100000 in
theorem rx_mc_98 : rx_mchk 98 = true := by decide +kernel
set_option maxRecDepth 100000 in
theorem rx_mw_98 : rx_mw 98 = true := by decide +kernel
set_option maxRecDepth 100000 in
theorem rx_mc_99 : rx_mchk 99 = true := by decide +kernel
set_option maxRecDepth 100000 in
theorem rx_mw_99 : rx_mw 99 = true := by decide +kernel
set_option maxRecDepth 100000 in
theorem rx_mc_100 : rx_mchk 100 = true := by decide +kernel
set_option maxRecDepth 100000 in
theorem rx_mw_100 : rx_mw 100 = true := by decide +kernel
set_option maxRecDepth 100000 in
theorem rx_mc_101 : rx_mchk 101 = true := by decide +kernel
set_option maxRecDepth 100000 in
theorem rx_mw_101 : rx_mw 101 = true := by decide +kernel
set_option maxRecDepth 100000 in
theorem rx_mc_102 : rx_mchk 102 = true := by decide +kernel
set_option maxRecDepth 100000 in
theorem rx_mw_102 : rx_mw 102 = true := by decide +kernel
set_option maxRecDepth 100000 in
theorem rx_mc_103 : rx_mchk 103 = true := by decide +kernel
set_option maxRecDepth 100000 in
theorem rx_mw_103 : rx_mw 103 = true := by decide +kernel
set_option maxRecDepth 100000 in
theorem rx_mc_104 : rx_mchk 104 = true := by decide +kernel
set_option maxRecDepth 100000 in
theorem rx_mw_104 : rx_mw 104 = true := by decide +kernel
set_option maxRecDepth 100000 in
theorem rx_mc_105 : rx_mchk 105 = true := by decide +kernel
set_option maxRecDepth 100000 in
theorem rx_mw_105 : rx_mw 105 = true := by decide +kernel
set_option maxRecDepth 100000 in
theorem rx_mc_106 : rx_mchk 106 = true := by decide +kernel
set_option maxRecDepth 100000 in
theorem rx_mw_106 : rx_mw 106 = true := by decide +kernel
set_option maxRecDepth 100000 in
theorem rx_mc_107 : rx_mchk 107 = true := by decide +kernel
set_option maxRecDepth 100000 in
theorem rx_mw_107 : rx_mw 107 = true := by decide +kernel
set_option maxRecDepth 100000 in
theorem rx_mc_108 : rx_mchk 108 = true := by decide +kernel
set_option maxRecDepth 100000 in
theorem rx_mw_108 : rx_mw 108 = true := by decide +kernel
set_option maxRecDepth 100000 in
theorem rx_mc_109 : rx_mchk 109 = true := by decide +kernel
set_option maxRecDepth 100000 in
theorem rx_mw_109 : rx_mw 109 = true := by decide +kernel
set_option maxRecDepth 100000 in
theorem rx_mc_110 : rx_mchk 110 = true := by decide +kernel
set_option maxRecDepth 100000 in
theorem rx_mw_110 : rx_mw 110 = true := by decide +kernel
set_option maxRecDepth 100000 in
theorem rx_mc_111 : rx_mchk 111 = true := by decide +kernel
set_option maxRecDepth 100000 in
theorem rx_mw_111 : rx_mw 111 = true := by decide +kernel
end
section
set_option maxRecDepth 100000 in
theorem rx_mc_112 : rx_mchk 112 = true := by decide +kernel
set_option maxRecDepth 100000 in
theorem rx_mw_112 : rx_mw 112 = true := by decide +kernel
set_option maxRecDepth 100000 in
theorem rx_mc_113 : rx_mchk 113 = true := by decide +kernel
set_option maxRecDepth 100000 in
theorem rx_mw_113 : rx_mw 113 = true := by decide +kernel
set_option maxRecDepth 100000 in
theorem rx_mc_114 : rx_mchk 114 = true := by decide +kernel
set_option maxRecDepth 100000 in
theorem rx_mw_114 : rx_mw 114 = true := by decide +kernel
set_option maxRecDepth 100000 in
theorem rx_mc_115 : rx_mchk 115 = true := by decide +kernel
set_option maxRecDepth 100000 in
theorem rx_mw_115 : rx_mw 115 = true := by decide +kernel
set_option maxRecDepth 100000 in
theorem rx_mc_116 : rx_mchk 116 = true := by decide +kernel
set_option maxRecDepth 100000 in
theorem rx_mw_116 : rx_mw 116 = true := by decide +kernel
set_option maxRecDepth 100000 in
theorem rx_mc_117 : rx_mchk 117 = true := by decide +kernel
set_option maxRecDepth 100000 in
theorem rx_mw_117 : rx_mw 117 = true := by decide +kernel
set_option maxRecDepth 100000 in
theorem rx_mc_118 : rx_mchk 118 = true := by decide +kernel
set_option maxRecDepth 100000 in
theorem rx_mw_118 : rx_mw 118 = true := by decide +kernel
set_option maxRecDepth 100000 in
theorem rx_mc_119 : rx_mchk 119 = true := by decide +kernel
set_option maxRecDepth 100000 in
theorem rx_mw_119 : rx_mw 119 = true := by decide +kernel
set_option maxRecDepth 100000 in
theorem rx_mc_120 : rx_mchk 120 = true := by decide +kernel
set_option maxRecDepth 100000 in
theorem rx_mw_120 : rx_mw 120 = true := by decide +kernel
set_option maxRecDepth 100000 in
theorem rx_mc_121 : rx_mchk 121 = true := by decide +kernel
set_option maxRecDepth 100000 in
theorem rx_mw_121 : rx_mw 121 = true := by decide +kernel
set_option maxRecDepth 100000 in
theorem rx_mc_122 : rx_mchk 122 = true := by decide +kernel
set_option maxRecDepth 100000 in
theorem rx_mw_122 : rx_mw 122 = true := by decide +kernel
set_option maxRecDepth 100000 in
theorem rx_mc_123 : rx_mchk 123 = true := by decide +kernel
set_option maxRecDepth 100000 in
theorem rx_mw_123 : rx_mw 123 = true := by decide +kernel
set_option maxRecDepth 100000 in
theorem rx_mc_124 : rx_mchk 124 = true := by decide +kernel
set_option maxRecDepth 100000 in
theorem rx_mw_124 : rx_mw 124 = true := by decide +kernel
set_option maxRecDepth 100000 in
theorem rx_mc_125 : rx_mchk 125 = true := by decide +kernel
set_option maxRecDepth 100000 in
theorem rx_mw_125 : rx_mw 125 = true := by decide +kernel
set_option maxRecDepth 100000 in
theorem rx_mc_126 : rx_mchk 126 = true := by decide +kernel
set_option maxRecDepth 100000 in
theorem rx_mw_126 : rx_mw 126 = true := by decide +kernel
set_option maxRecDepth 100000 in
theorem rx_mc_127 : rx_mchk 127 = true := by decide +kernel
set_option maxRecDepth 100000 in
theorem rx_mw_127 : rx_mw 127 = true := by decide +kernel
end
section
set_option maxRecDepth 100000 in
theorem rx_mc_128 : rx_mchk 128 = true := by decide +kernel
set_option maxRecDepth 100000 in
theorem rx_mw_128 : rx_mw 128 = true := by decide +kernel
set_option maxRecDepth 100000 in
theorem rx_mc_129 : rx_mchk 129 = true := by decide +kernel
set_option maxRecDepth 100000 in
theorem rx_mw_129 : rx_mw 129 = true := by decide +kernel
set_option maxRecDepth 100000 in
theorem rx_mc_130 : rx_mchk 130 = true := by decide +kernel
set_option maxRecDepth 100000 in
theorem rx_mw_130 : rx_mw 130 = true := by decide +kernel
set_option maxRecDepth 100000 in
theorem rx_mc_131 : rx_mchk 131 = true := by decide +kernel
set_option maxRecDepth 100000 in
theorem rx_mw_131 : rx_mw 131 = true := by decide +kernel
set_option maxRecDepth 100000 in
theorem rx_mc_132 : rx_mchk 132 = true := by decide +kernel
set_option maxRecDepth 100000 in
theorem rx_mw_132 : rx_mw 132 = true := by decide +kernel
set_option maxRecDepth 100000 in
theorem rx_mc_133 : rx_mchk 133 = true := by decide +kernel
set_option maxRecDepth 100000 in
theorem rx_mw_133 : rx_mw 133 = true := by decide +kernel
set_option maxRecDepth 100000 in
theorem rx_mc_134 : rx_mchk 134 = true := by decide +kernel
set_option maxRecDepth 100000 in
theorem rx_mw_134 : rx_mw 134 = true := by decide +kernel
set_option maxRecDepth 100000 in
theorem rx_mc_135 : rx_mchk 135 = true := by decide +kernel
set_option maxRecDepth 100000 in
theorem rx_mw_135 : rx_mw 135 = true := by decide +kernel
set_option maxRecDepth 100000 in
theorem rx_mc_136 : rx_mchk 136 = true := by decide +kernel
set_option maxRecDepth 100000 in
theorem rx_mw_136 : rx_mw 136 = true := by decide +kernel
set_option maxRecDepth 100000 in
theorem rx_mc_137 : rx_mchk 137 = true := by decide +kernel
set_option maxRecDepth 100000 in
theorem rx_mw_137 : rx_mw 137 = true := by decide +kernel
set_option maxRecDepth 100000 in
theorem rx_mc_138 : rx_mchk 138 = true := by decide +kernel
set_option maxRecDepth 100000 in
theorem rx_mw_138 : rx_mw 138 = true := by decide +kernel
set_option maxRecDepth 100000 in
theorem rx_mc_139 : rx_mchk 139 = true := by decide +kernel
set_option maxRecDepth 100000 in
theorem rx_mw_139 : rx_mw 139 = true := by decide +kernel
set_option maxRecDepth 100000 in
theorem rx_mc_140 : rx_mchk 140 = true := by decide +kernel
set_option maxRecDepth 100000 in
theorem rx_mw_140 : rx_mw 140 = true := by decide +kernel
set_option maxRecDepth 100000 in
theorem rx_mc_141 : rx_mchk 141 = true := by decide +kernel
set_option maxRecDepth 100000 in
theorem rx_mw_141 : rx_mw 141 = true := by decide +kernel
set_option maxRecDepth 100000 in
theorem rx_mc_142 : rx_mchk 142 = true := by decide +kernel
set_option maxRecDepth 100000 in
theorem rx_mw_142 : rx_mw 142 = true := by decide +kernel
set_option maxRecDepth 100000 in
theorem rx_mc_143 : rx_mchk 143 = true := by decide +kernel
set_option maxRecDepth 100000 in
theorem rx_mw_143 : rx_mw 143 = true := by decide +kernel
end
section
set_option maxRecDepth 100000 in
theorem rx_mc_144 : rx_mchk 144 = true := by decide +kernel
set_option maxRecDepth 100000 in
theorem rx_mw_144 : rx_mw 144 = true := by decide +kernel
set_option maxRecDepth 100000 in
theorem rx_mc_145 : rx_mchk 145 = true := by decide +kernel
set_option maxRecDepth 100000 in
theorem rx_mw_145 : rx_mw 145 = true := by decide +kernel
set_option maxRecDepth 100000 in
theorem rx_mc_146 : rx_mchk 146 = true := by decide +kernel
set_option maxRecDepth 100000 in
theorem rx_mw_146 : rx_mw 146 = true := by decide +kernel
set_option maxRecDepth 100000 in
theorem rx_mc_147 : rx_mchk 147 = true := by decide +kernel
set_option maxRecDepth 100000 in
theorem rx_mw_147 : rx_mw 147 = true := by decide +kernel
set_option maxRecDepth 100000 in
theorem rx_mc_148 : rx_mchk 148 = true := by decide +kernel
set_option maxRecDepth 100000 in
theorem rx_mw_148 : rx_mw 148 = true := by decide +kernel
set_option maxRecDepth 100000 in
theorem rx_mc_149 : rx_mchk 149 = true := by decide +kernel
set_option maxRecDepth 100000 in
theorem rx_mw_149 : rx_mw 149 = true := by decide +kernel
set_option maxRecDepth 100000 in
theorem rx_mc_150 : rx_mchk 150 = true := by decide +kernel
set_option maxRecDepth 100000 in
theorem rx_mw_150 : rx_mw 150 = true := by decide +kernel
set_option maxRecDepth 100000 in
theorem rx_mc_151 : rx_mchk 151 = true := by decide +kernel
set_option maxRecDepth 100000 in
theorem rx_mw_151 : rx_mw 151 = true := by decide +kernel
set_option maxRecDepth 100000 in
theorem rx_mc_152 : rx_mchk 152 = true := by decide +kernel
set_option maxRecDepth 100000 in
theorem rx_mw_152 : rx_mw 152 = true := by decide +kernel
set_option maxRecDepth 100000 in
theorem rx_mc_153 : rx_mchk 153 = true := by decide +kernel
set_option maxRecDepth 100000 in
theorem rx_mw_153 : rx_mw 153 = true := by decide +kernel
set_option maxRecDepth 100000 in
theorem rx_mc_154 : rx_mchk 154 = true := by decide +kernel
set_option maxRecDepth 100000 in
theorem rx_mw_154 : rx_mw 154 = true := by decide +kernel
set_option maxRecDepth 100000 in
theorem rx_mc_155 : rx_mchk 155 = true := by decide +kernel
set_option maxRecDepth 100000 in
theorem rx_mw_155 : rx_mw 155 = true := by decide +kernel
set_option maxRecDepth 100000 in
theorem rx_mc_156 : rx_mchk 156 = true := by decide +kernel
set_option maxRecDepth 100000 in
theorem rx_mw_156 : rx_mw 156 = true := by decide +kernel
set_option maxRecDepth 100000 in
theorem rx_mc_157 : rx_mchk 157 = true := by decide +kernel
set_option maxRecDepth 100000 in
theorem rx_mw_157 : rx_mw 157 = true := by decide +kernel
set_option maxRecDepth 100000 in
theorem rx_mc_158 : rx_mchk 158 = true := by decide +kernel
set_option maxRecDepth 100000 in
theorem rx_mw_158 : rx_mw 158 = true := by decide +kernel
set_option maxRecDepth 100000 in
theorem rx_mc_159 : rx_mchk 159 = true := by decide +kernel
set_option maxRecDepth 100000 in
theorem rx_mw_159 : rx_mw 159 = true := by decide +kernel
end
section
set_option maxRecDepth 100000 in
theorem rx_mc_160 : rx_mchk 160 = true := by decide +kernel
set_option maxRecDepth 100000 in
theorem rx_mw_160 : rx_mw 160 = true := by decide +kernel
set_option maxRecDepth 100000 in
theorem rx_mc_161 : rx_mchk 161 = true := by decide +kernel
set_option maxRecDepth 100000 in
theorem rx_mw_161 : rx_mw 161 = true := by decide +kernel
set_option maxRecDepth 100000 in
theorem rx_mc_162 : rx_mchk 162 = true := by decide +kernel
set_option maxRecDepth 100000 in
theorem rx_mw_162 : rx_mw 162 = true := by decide +kernel
set_option maxRecDepth 100000 in
theorem rx_mc_163 : rx_mchk 163 = true := by decide +kernel
set_option maxRecDepth 100000 in
theorem rx_mw_163 : rx_mw 163 = true := by decide +kernel
set_option maxRecDepth 100000 in
theorem rx_mc_164 : rx_mchk 164 = true := by decide +kernel
set_option maxRecDepth 100000 in
theorem rx_mw_164 : rx_mw 164 = true := by decide +kernel
set_option maxRecDepth 100000 in
theorem rx_mc_165 : rx_mchk 165 = true := by decide +kernel
set_option maxRecDepth 100000 in
theorem rx_mw_165 : rx_mw 165 = true := by decide +kernel
set_option maxRecDepth 100000 in
theorem rx_mc_166 : rx_mchk 166 = true := by decide +kernel
set_option maxRecDepth 100000 in
theorem rx_mw_166 : rx_mw 166 = true := by decide +kernel
set_option maxRecDepth 100000 in
theorem rx_mc_167 : rx_mchk 167 = true := by decide +kernel
set_option maxRecDepth 100000 in
theorem rx_mw_167 : rx_mw 167 = true := by decide +kernel
set_option maxRecDepth 100000 in
theorem rx_mc_168 : rx_mchk 168 = true := by decide +kernel
set_option maxRecDepth 100000 in
theorem rx_mw_168 : rx_mw 168 = true := by decide +kernel
set_option maxRecDepth 100000 in
theorem rx_mc_169 : rx_mchk 169 = true := by decide +kernel
set_option maxRecDepth 100000 in
theorem rx_mw_169 : rx_mw 169 = true := by decide +kernel
set_option maxRecDepth 100000 in
theorem rx_mc_170 : rx_mchk 170 = true := by decide +kernel
set_option maxRecDepth 100000 in
theorem rx_mw_170 : rx_mw 170 = true := by decide +kernel
set_option maxRecDepth 100000 in
theorem rx_mc_171 : rx_mchk 171 = true := by decide +kernel
set_option maxRecDepth 100000 in
theorem rx_mw_171 : rx_mw 171 = true := by decide +kernel
set_option maxRecDepth 100000 in
theorem rx_mc_172 : rx_mchk 172 = true := by decide +kernel
set_option maxRecDepth 100000 in
theorem rx_mw_172 : rx_mw 172 = true := by decide +kernel
set_option maxRecDepth 100000 in
theorem rx_mc_173 : rx_mchk 173 = true := by decide +kernel
set_option maxRecDepth 100000 in
theorem rx_mw_173 : rx_mw 173 = true := by decide +kernel
set_option maxRecDepth 100000 in
theorem rx_mc_174 : rx_mchk 174 = true := by decide +kernel
set_option maxRecDepth 100000 in
theorem rx_mw_174 : rx_mw 174 = true := by decide +kernel
set_option maxRecDepth 100000 in
theorem rx_mc_175 : rx_mchk 175 = true := by decide +kernel
set_option maxRecDepth 100000 in
theorem rx_mw_175 : rx_mw 175 = true := by decide +kernel
end
section
set_option maxRecDepth 100000 in
theorem rx_mc_176 : rx_mchk 176 = true := by decide +kernel
set_option maxRecDepth 100000 in
theorem rx_mw_176 : rx_mw 176 = true := by decide +kernel
set_option maxRecDepth 100000 in
theorem rx_mc_177 : rx_mchk 177 = true := by decide +kernel
set_option maxRecDepth 100000 in
theorem rx_mw_177 : rx_mw 177 = true := by decide +kernel
set_option maxRecDepth 100000 in
theorem rx_mc_178 : rx_mchk 178 = true := by decide +kernel
set_option maxRecDepth 100000 in
theorem rx_mw_178 : rx_mw 178 = true := by decide +kernel
set_option maxRecDepth 100000 in
theorem rx_mc_179 : rx_mchk 179 = true := by decide +kernel
set_option maxRecDepth 100000 in
theorem rx_mw_179 : rx_mw 179 = true := by decide +kernel
set_option maxRecDepth 100000 in
theorem rx_mc_180 : rx_mchk 180 = true := by decide +kernel
set_option maxRecDepth 100000 in
theorem rx_mw_180 : rx_mw 180 = true := by decide +kernel
set_option maxRecDepth 100000 in
theorem rx_mc_181 : rx_mchk 181 = true := by decide +kernel
set_option maxRecDepth 100000 in
theorem rx_mw_181 : rx_mw 181 = true := by decide +kernel
set_option maxRecDepth 100000 in
theorem rx_mc_182 : rx_mchk 182 = true := by decide +kernel
set_option maxRecDepth 100000 in
theorem rx_mw_182 : rx_mw 182 = true := by decide +kernel
set_option maxRecDepth 100000 in
theorem rx_mc_183 : rx_mchk 183 = true := by decide +kernel
set_option maxRecDepth 100000 in
theorem rx_mw_183 : rx_mw 183 = true := by decide +kernel
set_option maxRecDepth 100000 in
theorem rx_mc_184 : rx_mchk 184 = true := by decide +kernel
set_option maxRecDepth 100000 in
theorem rx_mw_184 : rx_mw 184 = true := by decide +kernel
end
section
set_option maxRecDepth 100000 in
theorem rx_b0_0 : rx_c0_0.all (fun e => rx_chk 0 e.1 e.2) = true := by decide +kernel
set_option maxRecDepth 100000 in
theorem rx_b0_1 : rx_c0_1.all (fun e => rx_chk 0 e.1 e.2) = true := by decide +kernel
set_option maxRecDepth 100000 in
theorem rx_b0_2 : rx_c0_2.all (fun e => rx_chk 0 e.1 e.2) = true := by decide +kernel
set_option maxRecDepth 100000 in
theorem rx_b0_3 : rx_c0_3.all (fun e => rx_chk 0 e.1 e.2) = true := by decide +kernel
set_option maxRecDepth 100000 in
theorem rx_b0_4 : rx_c0_4.all (fun e => rx_chk 0 e.1 e.2) = true := by decide +kernel
set_option maxRecDepth 100000 in
theorem rx_b0_5 : rx_c0_5.all (fun e => rx_chk 0 e.1 e.2) = true := by decide +kernel
set_option maxRecDepth 100000 in
theorem rx_b0_6 : rx_c0_6.all (fun e => rx_chk 0 e.1 e.2) = true := by decide +kernel
set_option maxRecDepth 100000 in
theorem rx_b0_7 : rx_c0_7.all (fun e => rx_chk 0 e.1 e.2) = true := by decide +kernel
set_option maxRecDepth 100000 in
theorem rx_b0_8 : rx_c0_8.all (fun e => rx_chk 0 e.1 e.2) = true := by decide +kernel
set_option maxRecDepth 100000 in
theorem rx_b0_9 : rx_c0_9.all (fun e => rx_chk 0 e.1 e.2) = true := by decide +kernel
set_option maxRecDepth 100000 in
theorem rx_b0_10 : rx_c0_10.all (fun e => rx_chk 0 e.1 e.2) = true := by decide +kernel
set_option maxRecDepth 100000 in
theorem rx_b0_11 : rx_c0_11.all (fun e => rx_chk 0 e.1 e.2) = true := by decide +kernel
set_option maxRecDepth 100000 in
theorem rx_b0_12 : rx_c0_12.all (fun e => rx_chk 0 e.1 e.2) = true := by decide +kernel
set_option maxRecDepth 100000 in
theorem rx_b0_13 : rx_c0_13.all (fun e => rx_chk 0 e.1 e.2) = true := by decide +kernel
set_option maxRecDepth 100000 in
theorem rx_b0_14 : rx_c0_14.all (fun e => rx_chk 0 e.1 e.2) = true := by decide +kernel
set_option maxRecDepth 100000 in
theorem rx_b0_15 : rx_c0_15.all (fun e => rx_chk 0 e.1 e.2) = true := by decide +kernel
set_option maxRecDepth 100000 in
theorem rx_b0_16 : rx_c0_16.all (fun e => rx_chk 0 e.1 e.2) = true := by decide +kernel
set_option maxRecDepth 100000 in
theorem rx_b0_17 : rx_c0_17.all (fun e => rx_chk 0 e.1 e.2) = true := by decide +kernel
set_option maxRecDepth 100000 in
theorem rx_b0_18 : rx_c0_18.all (fun e => rx_chk 0 e.1 e.2) = true := by decide +kernel
set_option maxRecDepth 100000 in
theorem rx_b0_19 : rx_c0_19.all (fun e => rx_chk 0 e.1 e.2) = true := by decide +kernel
end
section
set_option maxRecDepth 100000 in
theorem rx_b0_20 : rx_c0_20.all (fun e => rx_chk 0 e.1 e.2) = true := by decide +kernel
set_option maxRecDepth 100000 in
theorem rx_b0_21 : rx_c0_21.all (fun e => rx_chk 0 e.1 e.2) = true := by decide +kernel
set_option maxRecDepth 100000 in
theorem rx_b0_22 : rx_c0_22.all (fun e => rx_chk 0 e.1 e.2) = true := by decide +kernel
set_option maxRecDepth 100000 in
theorem rx_b0_23 : rx_c0_23.all (fun e => rx_chk 0 e.1 e.2) = true := by decide +kernel
set_option maxRecDepth 100000 in
theorem rx_b0_24 : rx_c0_24.all (fun e => rx_chk 0 e.1 e.2) = true := by decide +kernel
set_option maxRecDepth 100000 in
theorem rx_b0_25 : rx_c0_25.all (fun e => rx_chk 0 e.1 e.2) = true := by decide +kernel
set_option maxRecDepth 100000 in
theorem rx_b0_26 : rx_c0_26.all (fun e => rx_chk 0 e.1 e.2) = true := by decide +kernel
set_option maxRecDepth 100000 in
theorem rx_b0_27 : rx_c0_27.all (fun e => rx_chk 0 e.1 e.2) = true := by decide +kernel
set_option maxRecDepth 100000 in
theorem rx_b0_28 : rx_c0_28.all (fun e => rx_chk 0 e.1 e.2) = true := by decide +kernel
set_option maxRecDepth 100000 in
theorem rx_b0_29 : rx_c0_29.all (fun e => rx_chk 0 e.1 e.2) = true := by decide +kernel
set_option maxRecDepth 100000 in
theorem rx_b0_30 : rx_c0_30.all (fun e => rx_chk 0 e.1 e.2) = true := by decide +kernel
set_option maxRecDepth 100000 in
theorem rx_b0_31 : rx_c0_31.all (fun e => rx_chk 0 e.1 e.2) = true := by decide +kernel
set_option maxRecDepth 100000 in
theorem rx_b0_32 : rx_c0_32.all (fun e => rx_chk 0 e.1 e.2) = true := by decide +kernel
set_option maxRecDepth 100000 in
theorem rx_b0_33 : rx_c0_33.all (fun e => rx_chk 0 e.1 e.2) = true := by decide +kernel
set_option maxRecDepth 100000 in
theorem rx_b0_34 : rx_c0_34.all (fun e => rx_chk 0 e.1 e.2) = true := by decide +kernel
set_option maxRecDepth 100000 in
theorem rx_b0_35 : rx_c0_35.all (fun e => rx_chk 0 e.1 e.2) = true := by decide +kernel
set_option maxRecDepth 100000 in
theorem rx_b0_36 : rx_c0_36.all (fun e => rx_chk 0 e.1 e.2) = true := by decide +kernel
set_option maxRecDepth 100000 in
theorem rx_b0_37 : rx_c0_37.all (fun e => rx_chk 0 e.1 e.2) = true := by decide +kernel
set_option maxRecDepth 100000 in
theorem rx_b0_38 : rx_c0_38.all (fun e => rx_chk 0 e.1 e.2) = true := by decide +kernel
set_option maxRecDepth 100000 in
theorem rx_b0_39 : rx_c0_39.all (fun e => rx_chk 0 e.1 e.2) = true := by decide +kernel
end
section
set_option maxRecDepth 100000 in
theorem rx_b0_40 : rx_c0_40.all (fun e => rx_chk 0 e.1 e.2) = true := by decide +kernel
set_option maxRecDepth 100000 in
theorem rx_b0_41 : rx_c0_41.all (fun e => rx_chk 0 e.1 e.2) = true := by decide +kernel
set_option maxRecDepth 100000 in
theorem rx_b0_42 : rx_c0_42.all (fun e => rx_chk 0 e.1 e.2) = true := by decide +kernel
set_option maxRecDepth 100000 in
theorem rx_b0_43 : rx_c0_43.all (fun e => rx_chk 0 e.1 e.2) = true := by decide +kernel
set_option maxRecDepth 100000 in
theorem rx_b0_44 : rx_c0_44.all (fun e => rx_chk 0 e.1 e.2) = true := by decide +kernel
set_option maxRecDepth 100000 in
theorem rx_b0_45 : rx_c0_45.all (fun e => rx_chk 0 e.1 e.2) = true := by decide +kernel
set_option maxRecDepth 100000 in
theorem rx_b0_46 : rx_c0_46.all (fun e => rx_chk 0 e.1 e.2) = true := by decide +kernel
set_option maxRecDepth 100000 in
theorem rx_b0_47 : rx_c0_47.all (fun e => rx_chk 0 e.1 e.2) = true := by decide +kernel
set_option maxRecDepth 100000 in
theorem rx_b0_48 : rx_c0_48.all (fun e => rx_chk 0 e.1 e.2) = true := by decide +kernel
set_option maxRecDepth 100000 in
theorem rx_b0_49 : rx_c0_49.all (fun e => rx_chk 0 e.1 e.2) = true := by decide +kernel
set_option maxRecDepth 100000 in
theorem rx_b0_50 : rx_c0_50.all (fun e => rx_chk 0 e.1 e.2) = true := by decide +kernel
set_option maxRecDepth 100000 in
theorem rx_b0_51 : rx_c0_51.all (fun e => rx_chk 0 e.1 e.2) = true := by decide +kernel
set_option maxRecDepth 100000 in
theorem rx_b0_52 : rx_c0_52.all (fun e => rx_chk 0 e.1 e.2) = true := by decide +kernel
set_option maxRecDepth 100000 in
theorem rx_b0_53 : rx_c0_53.all (fun e => rx_chk 0 e.1 e.2) = true := by decide +kernel
set_option maxRecDepth 100000 in
theorem rx_b0_54 : rx_c0_54.all (fun e => rx_chk 0 e.1 e.2) = true := by decide +kernel
set_option maxRecDepth 100000 in
theorem rx_b0_55 : rx_c0_55.all (fun e => rx_chk 0 e.1 e.2) = true := by decide +kernel
set_option maxRecDepth 100000 in
theorem rx_b0_56 : rx_c0_56.all (fun e => rx_chk 0 e.1 e.2) = true := by decide +kernel
set_option maxRecDepth 100000 in
theorem rx_b0_57 : rx_c0_57.all (fun e => rx_chk 0 e.1 e.2) = true := by decide +kernel
set_option maxRecDepth 100000 in
theorem rx_b0_58 : rx_c0_58.all (fun e => rx_chk 0 e.1 e.2) = true := by decide +kernel
set_option maxRecDepth 100000 in
theorem rx_b0_59 : rx_c0_59.all (fun e => rx_chk 0 e.1 e.2) = true := by decide +kernel
end
section
set_option maxRecDepth 100000 in
theorem rx_b0_60 : rx_c0_60.all (fun e => rx_chk 0 e.1 e.2) = true := by decide +kernel
set_option maxRecDepth 100000 in
theorem rx_b0_61 : rx_c0_61.all (fun e => rx_chk 0 e.1 e.2) = true := by decide +kernel
set_option maxRecDepth 100000 in
theorem rx_b0_62 : rx_c0_62.all (fun e => rx_chk 0 e.1 e.2) = true := by decide +kernel
set_option maxRecDepth 100000 in
theorem rx_b0_63 : rx_c0_63.all (fun e => rx_chk 0 e.1 e.2) = true := by decide +kernel
set_option maxRecDepth 100000 in
theorem rx_b0_64 : rx_c0_64.all (fun e => rx_chk 0 e.1 e.2) = true := by decide +kernel
set_option maxRecDepth 100000 in
theorem rx_b0_65 : rx_c0_65.all (fun e => rx_chk 0 e.1 e.2) = true := by decide +kernel
set_option maxRecDepth 100000 in
theorem rx_b0_66 : rx_c0_66.all (fun e => rx_chk 0 e.1 e.2) = true := by decide +kernel
set_option maxRecDepth 100000 in
theorem rx_b0_67 : rx_c0_67.all (fun e => rx_chk 0 e.1 e.2) = true := by decide +kernel
set_option maxRecDepth 100000 in
theorem rx_b0_68 : rx_c0_68.all (fun e => rx_chk 0 e.1 e.2) = true := by decide +kernel
set_option maxRecDepth 100000 in
theorem rx_b0_69 : rx_c0_69.all (fun e => rx_chk 0 e.1 e.2) = true := by decide +kernel
set_option maxRecDepth 100000 in
theorem rx_b0_70 : rx_c0_70.all (fun e => rx_chk 0 e.1 e.2) = true := by decide +kernel
set_option maxRecDepth 100000 in
theorem rx_b0_71 : rx_c0_71.all (fun e => rx_chk 0 e.1 e.2) = true := by decide +kernel
set_option maxRecDepth 100000 in
theorem rx_b0_72 : rx_c0_72.all (fun e => rx_chk 0 e.1 e.2) = true := by decide +kernel
set_option maxRecDepth 100000 in
theorem rx_b0_73 : rx_c0_73.all (fun e => rx_chk 0 e.1 e.2) = true := by decide +kernel
set_option maxRecDepth 100000 in
theorem rx_b0_74 : rx_c0_74.all (fun e => rx_chk 0 e.1 e.2) = true := by decide +kernel
set_option maxRecDepth 100000 in
theorem rx_b0_75 : rx_c0_75.all (fun e => rx_chk 0 e.1 e.2) = true := by decide +kernel
set_option maxRecDepth 100000 in
theorem rx_b0_76 : rx_c0_76.all (fun e => rx_chk 0 e.1 e.2) = true := by decide +kernel
set_option maxRecDepth 100000 in
theorem rx_b0_77 : rx_c0_77.all (fun e => rx_chk 0 e.1 e.2) = true := by decide +kernel
set_option maxRecDepth 100000 in
theorem rx_b0_78 : rx_c0_78.all (fun e => rx_chk 0 e.1 e.2) = true := by decide +kernel
set_option maxRecDepth 100000 in
theorem rx_b0_79 : rx_c0_79.all (fun e => rx_chk 0 e.1 e.2) = true := by decide +kernel
end
section
set_option maxRecDepth 100000 in
theorem rx_b0_80 : rx_c0_80.all (fun e => rx_chk 0 e.1 e.2) = true := by decide +kernel
set_option maxRecDepth 100000 in
theorem rx_b0_81 : rx_c0_81.all (fun e => rx_chk 0 e.1 e.2) = true := by decide +kernel
set_option maxRecDepth 100000 in
theorem rx_b0_82 : rx_c0_82.all (fun e => rx_chk 0 e.1 e.2) = true := by decide +kernel
set_option maxRecDepth 100000 in
theorem rx_b0_83 : rx_c0_83.all (fun e => rx_chk 0 e.1 e.2) = true := by decide +kernel
set_option maxRecDepth 100000 in
theorem rx_b0_84 : rx_c0_84.all (fun e => rx_chk 0 e.1 e.2) = true := by decide +kernel
set_option maxRecDepth 100000 in
theorem rx_b0_85 : rx_c0_85.all (fun e => rx_chk 0 e.1 e.2) = true := by decide +kernel
set_option maxRecDepth 100000 in
theorem rx_b0_86 : rx_c0_86.all (fun e => rx_chk 0 e.1 e.2) = true := by decide +kernel
set_option maxRecDepth 100000 in
theorem rx_b0_87 : rx_c0_87.all (fun e => rx_chk 0 e.1 e.2) = true := by decide +kernel
set_option maxRecDepth 100000 in
theorem rx_b0_88 : rx_c0_88.all (fun e => rx_chk 0 e.1 e.2) = true := by decide +kernel
set_option maxRecDepth 100000 in
theorem rx_b0_89 : rx_c0_89.all (fun e => rx_chk 0 e.1 e.2) = true := by decide +kernel
set_option maxRecDepth 100000 in
theorem rx_b0_90 : rx_c0_90.all (fun e => rx_chk 0 e.1 e.2) = true := by decide +kernel
set_option maxRecDepth 100000 in
theorem rx_b0_91 : rx_c0_91.all (fun e => rx_chk 0 e.1 e.2) = true := by decide +kernel
set_option maxRecDepth 100000 in
theorem rx_b0_92 : rx_c0_92.all (fun e => rx_chk 0 e.1 e.2) = true := by decide +kernel
set_option maxRecDepth 100000 in
theorem rx_b0_93 : rx_c0_93.all (fun e => rx_chk 0 e.1 e.2) = true := by decide +kernel
set_option maxRecDepth 100000 in
theorem rx_b0_94 : rx_c0_94.all (fun e => rx_chk 0 e.1 e.2) = true := by decide +kernel
set_option maxRecDepth 100000 in
theorem rx_b0_95 : rx_c0_95.all (fun e => rx_chk 0 e.1 e.2) = true := by decide +kernel
set_option maxRecDepth 100000 in
theorem rx_b0_96 : rx_c0_96.all (fun e => rx_chk 0 e.1 e.2) = true := by decide +kernel
set_option maxRecDepth 100000 in
theorem rx_b0_97 : rx_c0_97.all (fun e => rx_chk 0 e.1 e.2) = true := by decide +kernel
set_option maxRecDepth 100000 in
theorem rx_b0_98 : rx_c0_98.all (fun e => rx_chk 0 e.1 e.2) = true := by decide +kernel
set_option maxRecDepth 100000 in
theorem rx_b0_99 : rx_c0_99.all (fun e => rx_chk 0 e.1 e.2) = true := by decide +kernel
end
section
set_option maxRecDepth 100000 in
theorem rx_b0_100 : rx_c0_100.all (fun e => rx_chk 0 e.1 e.2) = true := by decide +kernel
set_option maxRecDepth 100000 in
theorem rx_b0_101 : rx_c0_101.all (fun e => rx_chk 0 e.1 e.2) = true := by decide +kernel
set_option maxRecDepth 100000 in
theorem rx_b0_102 : rx_c0_102.all (fun e => rx_chk 0 e.1 e.2) = true := by decide +kernel
set_option maxRecDepth 100000 in
theorem rx_b0_103 : rx_c0_103.all (fun e => rx_chk 0 e.1 e.2) = true := by decide +kernel
set_option maxRecDepth 100000 in
theorem rx_b0_104 : rx_c0_104.all (fun e => rx_chk 0 e.1 e.2) = true := by decide +kernel
set_option maxRecDepth 100000 in
theorem rx_b0_105 : rx_c0_105.all (fun e => rx_chk 0 e.1 e.2) = true := by decide +kernel
set_option maxRecDepth 100000 in
theorem rx_b0_106 : rx_c0_106.all (fun e => rx_chk 0 e.1 e.2) = true := by decide +kernel
set_option maxRecDepth 100000 in
theorem rx_b0_107 : rx_c0_107.all (fun e => rx_chk 0 e.1 e.2) = true := by decide +kernel
set_option maxRecDepth 100000 in
theorem rx_b0_108 : rx_c0_108.all (fun e => rx_chk 0 e.1 e.2) = true := by decide +kernel
set_option maxRecDepth 100000 in
theorem rx_b0_109 : rx_c0_109.all (fun e => rx_chk 0 e.1 e.2) = true := by decide +kernel
set_option maxRecDepth 100000 in
theorem rx_b0_110 : rx_c0_110.all (fun e => rx_chk 0 e.1 e.2) = true := by decide +kernel
set_option maxRecDepth 100000 in
theorem rx_b0_111 : rx_c0_111.all (fun e => rx_chk 0 e.1 e.2) = true := by decide +kernel
set_option maxRecDepth 100000 in
theorem rx_b0_112 : rx_c0_112.all (fun e => rx_chk 0 e.1 e.2) = true := by decide +kernel
set_option maxRecDepth 100000 in
theorem rx_b0_113 : rx_c0_113.all (fun e => rx_chk 0 e.1 e.2) = true := by decide +kernel
set_option maxRecDepth 100000 in
theorem rx_b0_114 : rx_c0_114.all (fun e => rx_chk 0 e.1 e.2) = true := by decide +kernel
set_option maxRecDepth 100000 in
theorem rx_b0_115 : rx_c0_115.all (fun e => rx_chk 0 e.1 e.2) = true := by decide +kernel
set_option maxRecDepth 100000 in
theorem rx_b0_116 : rx_c0_116.all (fun e => rx_chk 0 e.1 e.2) = true := by decide +kernel
set_option maxRecDepth 100000 in
theorem rx_b0_117 : rx_c0_117.all (fun e => rx_chk 0 e.1 e.2) = true := by decide +kernel
set_option maxRecDepth 100000 in
theorem rx_b0_118 : rx_c0_118.all (fun e => rx_chk 0 e.1 e.2) = true := by decide +kernel
set_option maxRecDepth 100000 in
theorem rx_b0_119 : rx_c0_119.all (fun e => rx_chk 0 e.1 e.2) = true := by decide +kernel
end
section
set_option maxRecDepth 100000 in
theorem rx_b0_120 : rx_c0_120.all (fun e => rx_chk 0 e.1 e.2) = true := by decide +kernel
end
section
set_option maxRecDepth 100000 in
theorem rx_mc_0a : ∀ l ∈ rx_c0, l.all (fun e => rx_chk 0 e.1 e.2) = true := List.forall_mem_cons.mpr ⟨rx_b0_0, List.forall_mem_cons.mpr ⟨rx_b0_1, List.forall_mem_cons.mpr ⟨rx_b0_2, List.forall_mem_cons.mpr ⟨rx_b0_3, List.forall_mem_cons.mpr ⟨rx_b0_4, List.forall_mem_cons.mpr ⟨rx_b0_5, List.forall_mem_cons.mpr ⟨rx_b0_6, List.forall_mem_cons.mpr ⟨rx_b0_7, List.forall_mem_cons.mpr ⟨rx_b0_8, List.forall_mem_cons.mpr ⟨rx_b0_9, List.forall_mem_cons.mpr ⟨rx_b0_10, List.forall_mem_cons.mpr ⟨rx_b0_11, List.forall_mem_cons.mpr ⟨rx_b0_12, List.forall_mem_cons.mpr ⟨rx_b0_13, List.forall_mem_cons.mpr ⟨rx_b0_14, List.forall_mem_cons.mpr ⟨rx_b0_15, List.forall_mem_cons.mpr ⟨rx_b0_16, List.forall_mem_cons.mpr ⟨rx_b0_17, List.forall_mem_cons.mpr ⟨rx_b0_18, List.forall_mem_cons.mpr ⟨rx_b0_19, List.forall_mem_cons.mpr ⟨rx_b0_20, List.forall_mem_cons.mpr ⟨rx_b0_21, List.forall_mem_cons.mpr ⟨rx_b0_22, List.forall_mem_cons.mpr ⟨rx_b0_23, List.forall_mem_cons.mpr ⟨rx_b0_24, List.forall_mem_cons.mpr ⟨rx_b0_25, List.forall_mem_cons.mpr ⟨rx_b0_26, List.forall_mem_cons.mpr ⟨rx_b0_27, List.forall_mem_cons.mpr ⟨rx_b0_28, List.forall_mem_cons.mpr ⟨rx_b0_29, List.forall_mem_cons.mpr ⟨rx_b0_30, List.forall_mem_cons.mpr ⟨rx_b0_31, List.forall_mem_cons.mpr ⟨rx_b0_32, List.forall_mem_cons.mpr ⟨rx_b0_33, List.forall_mem_cons.mpr ⟨rx_b0_34, List.forall_mem_cons.mpr ⟨rx_b0_35, List.forall_mem_cons.mpr ⟨rx_b0_36, List.forall_mem_cons.mpr ⟨rx_b0_37, List.forall_mem_cons.mpr ⟨rx_b0_38, List.forall_mem_cons.mpr ⟨rx_b0_39, List.forall_mem_cons.mpr ⟨rx_b0_40, List.forall_mem_cons.mpr ⟨rx_b0_41, List.forall_mem_cons.mpr ⟨rx_b0_42, List.forall_mem_cons.mpr ⟨rx_b0_43, List.forall_mem_cons.mpr ⟨rx_b0_44, List.forall_mem_cons.mpr ⟨rx_b0_45, List.forall_mem_cons.mpr ⟨rx_b0_46, List.forall_mem_cons.mpr ⟨rx_b0_47, List.forall_mem_cons.mpr ⟨rx_b0_48, List.forall_mem_cons.mpr ⟨rx_b0_49, List.forall_mem_cons.mpr ⟨rx_b0_50, List.forall_mem_cons.mpr ⟨rx_b0_51, List.forall_mem_cons.mpr ⟨rx_b0_52, List.forall_mem_cons.mpr ⟨rx_b0_53, List.forall_mem_cons.mpr ⟨rx_b0_54, List.forall_mem_cons.mpr ⟨rx_b0_55, List.forall_mem_cons.mpr ⟨rx_b0_56, List.forall_mem_cons.mpr ⟨rx_b0_57, List.forall_mem_cons.mpr ⟨rx_b0_58, List.forall_mem_cons.mpr ⟨rx_b0_59, List.forall_mem_cons.mpr ⟨rx_b0_60, List.forall_mem_cons.mpr ⟨rx_b0_61, List.forall_mem_cons.mpr ⟨rx_b0_62, List.forall_mem_cons.mpr ⟨rx_b0_63, List.forall_mem_cons.mpr ⟨rx_b0_64, List.forall_mem_cons.mpr ⟨rx_b0_65, List.forall_mem_cons.mpr ⟨rx_b0_66, List.forall_mem_cons.mpr ⟨rx_b0_67, List.forall_mem_cons.mpr ⟨rx_b0_68, List.forall_mem_cons.mpr ⟨rx_b0_69, List.forall_mem_cons.mpr ⟨rx_b0_70, List.forall_mem_cons.mpr ⟨rx_b0_71, List.forall_mem_cons.mpr ⟨rx_b0_72, List.forall_mem_cons.mpr ⟨rx_b0_73, List.forall_mem_cons.mpr ⟨rx_b0_74, List.forall_mem_cons.mpr ⟨rx_b0_75, List.forall_mem_cons.mpr ⟨rx_b0_76, List.forall_mem_cons.mpr ⟨rx_b0_77, List.forall_mem_cons.mpr ⟨rx_b0_78, List.forall_mem_cons.mpr ⟨rx_b0_79, List.forall_mem_cons.mpr ⟨rx_b0_80, List.forall_mem_cons.mpr ⟨rx_b0_81, List.forall_mem_cons.mpr ⟨rx_b0_82, List.forall_mem_cons.mpr ⟨rx_b0_83, List.forall_mem_cons.mpr ⟨rx_b0_84, List.forall_mem_cons.mpr ⟨rx_b0_85, List.forall_mem_cons.mpr ⟨rx_b0_86, List.forall_mem_cons.mpr ⟨rx_b0_87, List.forall_mem_cons.mpr ⟨rx_b0_88, List.forall_mem_cons.mpr ⟨rx_b0_89, List.forall_mem_cons.mpr ⟨rx_b0_90, List.forall_mem_cons.mpr ⟨rx_b0_91, List.forall_mem_cons.mpr ⟨rx_b0_92, List.forall_mem_cons.mpr ⟨rx_b0_93, List.forall_mem_cons.mpr ⟨rx_b0_94, List.forall_mem_cons.mpr ⟨rx_b0_95, List.forall_mem_cons.mpr ⟨rx_b0_96, List.forall_mem_cons.mpr ⟨rx_b0_97, List.forall_mem_cons.mpr ⟨rx_b0_98, List.forall_mem_cons.mpr ⟨rx_b0_99, List.forall_mem_cons.mpr ⟨rx_b0_100, List.forall_mem_cons.mpr ⟨rx_b0_101, List.forall_mem_cons.mpr ⟨rx_b0_102, List.forall_mem_cons.mpr ⟨rx_b0_103, List.forall_mem_cons.mpr ⟨rx_b0_104, List.forall_mem_cons.mpr ⟨rx_b0_105, List.forall_mem_cons.mpr ⟨rx_b0_106, List.forall_mem_cons.mpr ⟨rx_b0_107, List.forall_mem_cons.mpr ⟨rx_b0_108, List.forall_mem_cons.mpr ⟨rx_b0_109, List.forall_mem_cons.mpr ⟨rx_b0_110, List.forall_mem_cons.mpr ⟨rx_b0_111, List.forall_mem_cons.mpr ⟨rx_b0_112, List.forall_mem_cons.mpr ⟨rx_b0_113, List.forall_mem_cons.mpr ⟨rx_b0_114, List.forall_mem_cons.mpr ⟨rx_b0_115, List.forall_mem_cons.mpr ⟨rx_b0_116, List.forall_mem_cons.mpr ⟨rx_b0_117, List.forall_mem_cons.mpr ⟨rx_b0_118, List.forall_mem_cons.mpr ⟨rx_b0_119, List.forall_mem_cons.mpr ⟨rx_b0_120, fun _ h => absurd h List.not_mem_nil⟩⟩⟩⟩⟩⟩⟩⟩⟩⟩⟩⟩⟩⟩⟩⟩⟩⟩⟩⟩⟩⟩⟩⟩⟩⟩⟩⟩⟩⟩⟩⟩⟩⟩⟩⟩⟩⟩⟩⟩⟩⟩⟩⟩⟩⟩⟩⟩⟩⟩⟩⟩⟩⟩⟩⟩⟩⟩⟩⟩⟩⟩⟩⟩⟩⟩⟩⟩⟩⟩⟩⟩⟩⟩⟩⟩⟩⟩⟩⟩⟩⟩⟩⟩⟩⟩⟩⟩⟩⟩⟩⟩⟩⟩⟩⟩⟩⟩⟩⟩⟩⟩⟩⟩⟩⟩⟩⟩⟩⟩⟩⟩⟩⟩⟩⟩⟩⟩⟩⟩⟩
theorem rx_mc_0 : rx_mchk 0 = true := List.all_eq_true.mpr rx_mc_0a
end
section
/-! the classes' own words -/
noncomputable def rx_lay (P : List Nat) (C : String) (T : u_T) (N : Nat) : Bool := (List.range N).all (fun k => match rx_at P k with
  | some p => rx_mem p (u_lay C T k)
  | none => false)
def rx_tok (t : FieldType) : Bool := match t with
  | .float => false
  | .double => false
  | _ => true
theorem rx_la_0 : rx_lay rx_P0 "MirrorLies$Acts" rx_T0 5 = true := by decide +kernel
theorem rx_ty_0 : ∀ k, k < 5 → parseFieldDescriptor (rx_T0 k).2.2.1 = some (rx_Y0 k) ∧ rx_tok (rx_Y0 k) = true := by decide +kernel
theorem rx_nm_0 : ∀ a, a < 5 → ∀ b, b < 5 → a ≠ b → (rx_T0 a).2.1 ≠ (rx_T0 b).2.1 := by decide +kernel
theorem rx_ci_0 : (rx_mem 315 (.instantiable "MirrorLies$Acts" 5) && rx_mem 113 (.initialized "MirrorLies$Acts")) = true := by decide +kernel
theorem rx_la_1 : rx_lay rx_P1 "MirrorLies$Course" rx_T1 7 = true := by decide +kernel
theorem rx_ty_1 : ∀ k, k < 7 → parseFieldDescriptor (rx_T1 k).2.2.1 = some (rx_Y1 k) ∧ rx_tok (rx_Y1 k) = true := by decide +kernel
theorem rx_nm_1 : ∀ a, a < 7 → ∀ b, b < 7 → a ≠ b → (rx_T1 a).2.1 ≠ (rx_T1 b).2.1 := by decide +kernel
theorem rx_ci_1 : (rx_mem 467 (.instantiable "MirrorLies$Course" 7) && rx_mem 118 (.initialized "MirrorLies$Course")) = true := by decide +kernel
theorem rx_la_2 : rx_lay rx_P2 "MirrorLies$Hour" rx_T2 5 = true := by decide +kernel
theorem rx_ty_2 : ∀ k, k < 5 → parseFieldDescriptor (rx_T2 k).2.2.1 = some (rx_Y2 k) ∧ rx_tok (rx_Y2 k) = true := by decide +kernel
theorem rx_nm_2 : ∀ a, a < 5 → ∀ b, b < 5 → a ≠ b → (rx_T2 a).2.1 ≠ (rx_T2 b).2.1 := by decide +kernel
theorem rx_ci_2 : (rx_mem 277 (.instantiable "MirrorLies$Hour" 5) && rx_mem 112 (.initialized "MirrorLies$Hour")) = true := by decide +kernel
theorem rx_la_3 : rx_lay rx_P3 "MirrorLies$Likes" rx_T3 6 = true := by decide +kernel
theorem rx_ty_3 : ∀ k, k < 6 → parseFieldDescriptor (rx_T3 k).2.2.1 = some (rx_Y3 k) ∧ rx_tok (rx_Y3 k) = true := by decide +kernel
theorem rx_nm_3 : ∀ a, a < 6 → ∀ b, b < 6 → a ≠ b → (rx_T3 a).2.1 ≠ (rx_T3 b).2.1 := by decide +kernel
theorem rx_ci_3 : (rx_mem 436 (.instantiable "MirrorLies$Likes" 6) && rx_mem 117 (.initialized "MirrorLies$Likes")) = true := by decide +kernel
theorem rx_la_4 : rx_lay rx_P4 "MirrorLies$Looks" rx_T4 6 = true := by decide +kernel
theorem rx_ty_4 : ∀ k, k < 6 → parseFieldDescriptor (rx_T4 k).2.2.1 = some (rx_Y4 k) ∧ rx_tok (rx_Y4 k) = true := by decide +kernel
theorem rx_nm_4 : ∀ a, a < 6 → ∀ b, b < 6 → a ≠ b → (rx_T4 a).2.1 ≠ (rx_T4 b).2.1 := by decide +kernel
theorem rx_ci_4 : (rx_mem 406 (.instantiable "MirrorLies$Looks" 6) && rx_mem 116 (.initialized "MirrorLies$Looks")) = true := by decide +kernel
theorem rx_la_5 : rx_lay rx_P5 "MirrorLies$Panes" rx_T5 9 = true := by decide +kernel
theorem rx_ty_5 : ∀ k, k < 9 → parseFieldDescriptor (rx_T5 k).2.2.1 = some (rx_Y5 k) ∧ rx_tok (rx_Y5 k) = true := by decide +kernel
theorem rx_nm_5 : ∀ a, a < 9 → ∀ b, b < 9 → a ≠ b → (rx_T5 a).2.1 ≠ (rx_T5 b).2.1 := by decide +kernel
theorem rx_ci_5 : (rx_mem 340 (.instantiable "MirrorLies$Panes" 9) && rx_mem 114 (.initialized "MirrorLies$Panes")) = true := by decide +kernel
theorem rx_la_6 : rx_lay rx_P6 "MirrorLies$Reader" rx_T6 8 = true := by decide +kernel
theorem rx_ty_6 : ∀ k, k < 8 → parseFieldDescriptor (rx_T6 k).2.2.1 = some (rx_Y6 k) ∧ rx_tok (rx_Y6 k) = true := by decide +kernel
theorem rx_nm_6 : ∀ a, a < 8 → ∀ b, b < 8 → a ≠ b → (rx_T6 a).2.1 ≠ (rx_T6 b).2.1 := by decide +kernel
theorem rx_ci_6 : (rx_mem 243 (.instantiable "MirrorLies$Reader" 8) && rx_mem 111 (.initialized "MirrorLies$Reader")) = true := by decide +kernel
theorem rx_la_7 : rx_lay rx_P7 "MirrorLies$School" rx_T7 13 = true := by decide +kernel
theorem rx_ty_7 : ∀ k, k < 13 → parseFieldDescriptor (rx_T7 k).2.2.1 = some (rx_Y7 k) ∧ rx_tok (rx_Y7 k) = true := by decide +kernel
theorem rx_nm_7 : ∀ a, a < 13 → ∀ b, b < 13 → a ≠ b → (rx_T7 a).2.1 ≠ (rx_T7 b).2.1 := by decide +kernel
theorem rx_ci_7 : (rx_mem 172 (.instantiable "MirrorLies$School" 13) && rx_mem 110 (.initialized "MirrorLies$School")) = true := by decide +kernel
theorem rx_la_8 : rx_lay rx_P8 "MirrorLies$Search" rx_T8 6 = true := by decide +kernel
theorem rx_ty_8 : ∀ k, k < 6 → parseFieldDescriptor (rx_T8 k).2.2.1 = some (rx_Y8 k) ∧ rx_tok (rx_Y8 k) = true := by decide +kernel
theorem rx_nm_8 : ∀ a, a < 6 → ∀ b, b < 6 → a ≠ b → (rx_T8 a).2.1 ≠ (rx_T8 b).2.1 := by decide +kernel
theorem rx_ci_8 : (rx_mem 379 (.instantiable "MirrorLies$Search" 6) && rx_mem 115 (.initialized "MirrorLies$Search")) = true := by decide +kernel
theorem rx_la_9 : rx_lay rx_P9 "MirrorLies$Tape" rx_T9 7 = true := by decide +kernel
theorem rx_ty_9 : ∀ k, k < 7 → parseFieldDescriptor (rx_T9 k).2.2.1 = some (rx_Y9 k) ∧ rx_tok (rx_Y9 k) = true := by decide +kernel
theorem rx_nm_9 : ∀ a, a < 7 → ∀ b, b < 7 → a ≠ b → (rx_T9 a).2.1 ≠ (rx_T9 b).2.1 := by decide +kernel
theorem rx_ci_9 : (rx_mem 138 (.instantiable "MirrorLies$Tape" 7) && rx_mem 109 (.initialized "MirrorLies$Tape")) = true := by decide +kernel
theorem rx_la_10 : rx_lay rx_P10 "MirrorLies$Telling" rx_T10 7 = true := by decide +kernel
theorem rx_ty_10 : ∀ k, k < 7 → parseFieldDescriptor (rx_T10 k).2.2.1 = some (rx_Y10 k) ∧ rx_tok (rx_Y10 k) = true := by decide +kernel
theorem rx_nm_10 : ∀ a, a < 7 → ∀ b, b < 7 → a ≠ b → (rx_T10 a).2.1 ≠ (rx_T10 b).2.1 := by decide +kernel
theorem rx_ci_10 : (rx_mem 498 (.instantiable "MirrorLies$Telling" 7) && rx_mem 119 (.initialized "MirrorLies$Telling")) = true := by decide +kernel
theorem rx_la_11 : rx_lay rx_P11 "MirrorLies" rx_T11 15 = true := by decide +kernel
theorem rx_ty_11 : ∀ k, k < 15 → parseFieldDescriptor (rx_T11 k).2.2.1 = some (rx_Y11 k) ∧ rx_tok (rx_Y11 k) = true := by decide +kernel
theorem rx_nm_11 : ∀ a, a < 15 → ∀ b, b < 15 → a ≠ b → (rx_T11 a).2.1 ≠ (rx_T11 b).2.1 := by decide +kernel
theorem rx_ci_11 : (rx_mem 130 (.instantiable "MirrorLies" 15) && rx_mem 108 (.initialized "MirrorLies")) = true := by decide +kernel
set_option maxRecDepth 100000 in
theorem rx_la_12 : rx_lay rx_P12 "MirrorLiesModel" rx_T12 65 = true := by decide +kernel
theorem rx_ty_12 : ∀ k, k < 65 → parseFieldDescriptor (rx_T12 k).2.2.1 = some (rx_Y12 k) ∧ rx_tok (rx_Y12 k) = true := by decide +kernel
set_option maxRecDepth 100000 in
theorem rx_nm_12 : ∀ a, a < 65 → ∀ b, b < 65 → a ≠ b → (rx_T12 a).2.1 ≠ (rx_T12 b).2.1 := by decide +kernel
theorem rx_ci_12 : (rx_mem 1307 (.instantiable "MirrorLiesModel" 65) && rx_mem 122 (.initialized "MirrorLiesModel")) = true := by decide +kernel
theorem rx_aw_0 : rx_mem 241 (.arrayClass .int) = true := by decide +kernel
theorem rx_aw_1 : rx_mem 170 (.arrayClass .byte) = true := by decide +kernel
theorem rx_aw_2 : rx_mem 377 (.arrayClass .boolean) = true := by decide +kernel
theorem rx_aw_3 : rx_mem 275 (.arrayClass .long) = true := by decide +kernel
end
section
abbrev rx_F : Type := Nat → Nat → rx_L → List rx_V → rx_S → rx_H → Nat → Nat → Option (List rx_A)
noncomputable def rx_split (ih : rx_S → Option (List rx_A)) (sr : rx_S) (q : Nat × Int × Nat) : Option (List rx_A) := rx_all (fun i : Nat => ih (rx_set (q.2.1 + Int.ofNat i, q.2.1 + Int.ofNat i) sr q.1)) (List.range q.2.2)
/-- an exact place: or a symbol is split -/
noncomputable def rx_exact (sr : rx_S) (r : rx_I) (ih : rx_S → Option (List rx_A)) (k : Nat → Option (List rx_A)) : Option (List rx_A) := match rx_norm sr r with
  | .inl (.ofNat n) => k n
  | .inl (.negSucc _) => none
  | _ => match rx_few sr r with
    | some q => rx_split ih sr q
    | none => none
noncomputable def rx_in (sr : rx_S) (r : rx_I) (l h : Int) : Bool := match rx_rg sr r with
  | some w => rx_le l w.1 && rx_le w.2 h
  | none => false
/-! loads, stores, constants -/
noncomputable def rx_ld (r : Bool) (ih : rx_F) (q : rx_Q) : rx_F := fun mi pc loc stk sr rh ce sl => match rx_key loc q.2.2.1 with
  | some (.inl v) => cond r none (ih mi (Nat.add pc q.2.1) loc (.inl v :: stk) sr rh ce sl)
  | some (.inr (.inl (some o))) => cond r (ih mi (Nat.add pc q.2.1) loc (.inr (.inl (some o)) :: stk) sr rh ce sl) none
  | some (.inr (.inr (.inr u))) => cond r (ih mi (Nat.add pc q.2.1) loc (.inr (.inr (.inr u)) :: stk) sr rh ce sl) none
  | _ => none
noncomputable def rx_sto (r : Bool) (ih : rx_F) (q : rx_Q) : rx_F := fun mi pc loc stk sr rh ce sl => match stk with
  | .inl v :: rest => cond (!r && Nat.blt q.2.2.1 (rx_ml mi)) (ih mi (Nat.add pc q.2.1) (rx_store loc q.2.2.1 (.inl v)) rest sr rh ce sl) none
  | .inr (.inl (some o)) :: rest => cond (r && Nat.blt q.2.2.1 (rx_ml mi)) (ih mi (Nat.add pc q.2.1) (rx_store loc q.2.2.1 (.inr (.inl (some o)))) rest sr rh ce sl) none
  | _ => none
noncomputable def rx_cst (ih : rx_F) (q : rx_Q) : rx_F := fun mi pc loc stk sr rh ce sl => ih mi (Nat.add pc q.2.1) loc (.inl (.inl q.2.2.2.2.1) :: stk) sr rh ce sl
noncomputable def rx_iinc (ih : rx_F) (q : rx_Q) : rx_F := fun mi pc loc stk sr rh ce sl => match rx_key loc q.2.2.1 with
  | some (.inl v) => cond (Nat.blt q.2.2.1 (rx_ml mi)) (ih mi (Nat.add pc q.2.1) (rx_store loc q.2.2.1 (.inl (rx_addc sr v q.2.2.2.2.1))) stk sr rh ce sl) none
  | _ => none
/-! arithmetic -/
noncomputable def rx_hadd (ih : rx_F) (q : rx_Q) : rx_F := fun mi pc loc stk sr rh ce sl => match stk with
  | .inl y :: .inl v :: rest => ih mi (Nat.add pc q.2.1) loc (.inl (rx_add sr v y) :: rest) sr rh ce sl
  | _ => none
noncomputable def rx_hsub (ih : rx_F) (q : rx_Q) : rx_F := fun mi pc loc stk sr rh ce sl => match stk with
  | .inl y :: .inl v :: rest => ih mi (Nat.add pc q.2.1) loc (.inl (rx_sub sr v y) :: rest) sr rh ce sl
  | _ => none
noncomputable def rx_bin (ih : rx_F) (mi pc : Nat) (loc : rx_L) (st0 rest : List rx_V) (sr : rx_S) (rh : rx_H) (ce sl n : Nat) (r : rx_I ⊕ (Nat × Int × Nat)) : Option (List rx_A) := match r with
  | .inl v => ih mi (Nat.add pc n) loc (.inl v :: rest) sr rh ce sl
  | .inr q => rx_split (fun s => ih mi pc loc st0 s rh ce sl) sr q
noncomputable def rx_b2 (f : Int32 → Int32 → Int32) (sp : rx_I → rx_I) (ih : rx_F) (q : rx_Q) : rx_F := fun mi pc loc stk sr rh ce sl => match stk with
  | .inl b :: .inl a :: rest => rx_bin ih mi pc loc stk rest sr rh ce sl q.2.1 (rx_alu f (sp b) sr a b)
  | _ => none
noncomputable def rx_dvb (f : Int32 → Int32 → Int32) (ih : rx_F) (q : rx_Q) : rx_F := fun mi pc loc stk sr rh ce sl => match stk with
  | .inl b :: .inl a :: rest => cond (rx_in sr b 1 rx_hi) (rx_bin ih mi pc loc stk rest sr rh ce sl q.2.1 (rx_alu f rx_top sr a b)) none
  | _ => none
def rx_mask (b : rx_I) : rx_I := match b with
  | .inl (.ofNat n) => .inr (.inr (0, .ofNat n))
  | _ => rx_top
noncomputable def rx_i2b (ih : rx_F) (q : rx_Q) : rx_F := fun mi pc loc stk sr rh ce sl => match stk with
  | .inl v :: rest => match rx_norm sr v with
    | .inl z => ih mi (Nat.add pc q.2.1) loc (.inl (.inl (Int32.ofInt z).toInt8.toInt32.toInt) :: rest) sr rh ce sl
    | _ => ih mi (Nat.add pc q.2.1) loc (.inl (.inr (.inr (-128, 127))) :: rest) sr rh ce sl
  | _ => none
noncomputable def rx_dup (ih : rx_F) (q : rx_Q) : rx_F := fun mi pc loc stk sr rh ce sl => match stk with
  | v :: rest => cond (Nat.beq (rx_cat v) 1) (ih mi (Nat.add pc q.2.1) loc (v :: v :: rest) sr rh ce sl) none
  | _ => none
noncomputable def rx_dup2 (ih : rx_F) (q : rx_Q) : rx_F := fun mi pc loc stk sr rh ce sl => match stk with
  | v :: w :: rest => cond (Nat.beq (rx_cat v) 1 && Nat.beq (rx_cat w) 1) (ih mi (Nat.add pc q.2.1) loc (v :: w :: v :: w :: rest) sr rh ce sl) none
  | _ => none
/-! jumps -/
noncomputable def rx_goto (ih : rx_F) (q : rx_Q) : rx_F := fun mi pc loc stk sr rh ce sl => match rx_tgt pc q.2.2.2.2.1 with
  | some t => ih mi t loc stk sr rh ce sl
  | none => none
noncomputable def rx_br (ih : rx_F) (q : rx_Q) (mi pc : Nat) (loc : rx_L) (rest : List rx_V) (sr : rx_S) (rh : rx_H) (ce sl : Nat) (v w : rx_I) : Option (List rx_A) := match rx_tgt pc q.2.2.2.2.1 with
  | some t => match v, w with
    | .inl m, .inl n => cond (rx_cmp q.2.2.2.1 m n) (ih mi t loc rest sr rh ce sl) (ih mi (Nat.add pc q.2.1) loc rest sr rh ce sl)
    | _, _ => rx_all (fun z : Nat × rx_S => ih mi z.1 loc rest z.2 rh ce sl) (rx_brs pc q.2.1 t sr v w (rx_cases q.2.2.2.1))
  | none => none
noncomputable def rx_if0 (ih : rx_F) (q : rx_Q) : rx_F := fun mi pc loc stk sr rh ce sl => match stk with
  | .inl v :: rest => rx_br ih q mi pc loc rest sr rh ce sl v (rx_c (.ofNat (nat_lit 0)))
  | _ => none
noncomputable def rx_if2 (ih : rx_F) (q : rx_Q) : rx_F := fun mi pc loc stk sr rh ce sl => match stk with
  | .inl w :: .inl v :: rest => rx_br ih q mi pc loc rest sr rh ce sl v w
  | _ => none
noncomputable def rx_sw (ih : rx_F) (q : rx_Q) : rx_F := fun mi pc loc stk sr rh ce sl => match stk with
  | .inl v :: rest => match rx_tgt pc q.2.2.2.2.1 with
    | none => none
    | some td => rx_all (fun z : Nat × rx_S => ih mi z.1 loc rest z.2 rh ce sl)
      ((match rx_rel 0 sr v (rx_c (.ofNat q.2.2.1)) with | some z => [(td, z)] | none => []) ++ ((match rx_rel 2 sr v (rx_c (.ofNat q.2.2.2.2.2.1)) with | some z => [(td, z)] | none => []) ++
        ((List.range q.2.2.2.2.2.2.2.2.length).filterMap (fun k => match rx_at q.2.2.2.2.2.2.2.2 k with
          | none => none
          | some off => match rx_tgt pc off with
            | none => none
            | some t => match rx_rel 4 sr v (rx_c (.ofNat (q.2.2.1 + k))) with
              | some z => some (t, z)
              | none => none))))
  | _ => none
/-! objects and arrays -/
noncomputable def rx_getf (ih : rx_F) (q : rx_Q) : rx_F := fun mi pc loc stk sr rh ce sl => match stk with
  | .inr (.inl (some o)) :: rest => match rx_hget rh o with
    | some (.inl w) => cond (Nat.beq w.1 q.2.2.1) (match rx_at w.2 q.2.2.2.1 with
      | some v => ih mi (Nat.add pc q.2.1) loc (v :: rest) sr rh ce sl
      | none => none) none
    | _ => none
  | _ => none
noncomputable def rx_putf (ih : rx_F) (q : rx_Q) : rx_F := fun mi pc loc stk sr rh ce sl => match stk with
  | v :: .inr (.inl (some o)) :: rest => match rx_hget rh o with
    | some (.inl w) => cond (Nat.beq w.1 q.2.2.1 && rx_takes (q.2.2.2.2.2.1 % 10) sr v) (match rx_at w.2 q.2.2.2.1 with
      | some _ => ih mi (Nat.add pc q.2.1) loc rest sr (rx_hset rh o (.inl (w.1, rx_set v w.2 q.2.2.2.1))) ce sl
      | none => none) none
    | _ => none
  | _ => none
noncomputable def rx_new (ih : rx_F) (q : rx_Q) : rx_F := fun mi pc loc stk sr rh ce sl => match rx_at rx_cls q.2.2.1, rx_at rx_Ys q.2.2.1 with
  | some w, some ty => cond (Nat.ble (ce + 1) (rx_room mi).cells && Nat.ble (sl + w.2.2) (rx_room mi).slots && Nat.blt rh.2 (nat_lit 256)) (ih mi (Nat.add pc q.2.1) loc (.inr (.inl (some rh.2)) :: stk) sr (rx_hpush rh (.inl (q.2.2.1, (List.range w.2.2).map (fun k => rx_dv (ty k))))) (ce + 1) (sl + w.2.2)) none
  | _, _ => none
def rx_blank (t z : Nat) : rx_C := match t with
  | 3 => .inr (.inr (.inl (nat_lit 3, z)))
  | _ => .inr (.inl ((t, z), .inl (.ofNat (nat_lit 0)), []))
noncomputable def rx_newa (ih : rx_F) (q : rx_Q) : rx_F := fun mi pc loc stk sr rh ce sl => match stk with
  | .inl (.inl (.ofNat z)) :: rest => cond (Nat.ble (ce + 1) (rx_room mi).cells && Nat.ble (sl + z) (rx_room mi).slots && Nat.ble z 100000 && Nat.blt rh.2 (nat_lit 256)) (ih mi (Nat.add pc q.2.1) loc (.inr (.inl (some rh.2)) :: rest) sr (rx_hpush rh (rx_blank q.2.2.1 z)) (ce + 1) (sl + z)) none
  | _ => none
noncomputable def rx_newr (ih : rx_F) (q : rx_Q) : rx_F := fun mi pc loc stk sr rh ce sl => match stk with
  | .inl (.inl (.ofNat z)) :: rest => cond (Nat.ble (ce + 1) (rx_room mi).cells && Nat.ble (sl + z) (rx_room mi).slots && Nat.ble z 100000 && Nat.blt rh.2 (nat_lit 256)) (ih mi (Nat.add pc q.2.1) loc (.inr (.inl (some rh.2)) :: rest) sr (rx_hpush rh (.inr (.inr (.inr (nat_lit 4, List.replicate z none))))) (ce + 1) (sl + z)) none
  | _ => none
noncomputable def rx_rows (q n : Nat) : List (Option Nat) := (List.range n).map (fun i => some (q + 1 + i))
noncomputable def rx_pushn (rh : rx_H) (c : rx_C) (z : Nat) : rx_H := Nat.rec (motive := fun _ => rx_H → rx_H) (fun h => h) (fun _ ih h => ih (rx_hpush h c)) z rh
noncomputable def rx_newm (ih : rx_F) (q : rx_Q) : rx_F := fun mi pc loc stk sr rh ce sl => match stk with
  | .inl (.inl (.ofNat k)) :: .inl (.inl (.ofNat z)) :: rest => cond (Nat.ble (ce + (1 + z)) (rx_room mi).cells && Nat.ble (sl + (z + z * k)) (rx_room mi).slots && Nat.ble z 100000 && Nat.ble k 100000 && Nat.ble (rh.2 + 1 + z) 256) (ih mi (Nat.add pc q.2.1) loc (.inr (.inl (some rh.2)) :: rest) sr (rx_pushn (rx_hpush rh (.inr (.inr (.inr (nat_lit 5, rx_rows rh.2 z))))) (rx_blank (nat_lit 0) k) z) (ce + 1 + z) (sl + z + z * k)) none
  | _ => none
noncomputable def rx_alen (ih : rx_F) (q : rx_Q) : rx_F := fun mi pc loc stk sr rh ce sl => match stk with
  | .inr (.inl (some o)) :: rest => match rx_hget rh o with
    | some (.inr (.inl w)) => cond (Nat.ble w.1.2 100000 && Nat.blt w.1.1 3) (ih mi (Nat.add pc q.2.1) loc (.inl (.inl (.ofNat w.1.2)) :: rest) sr rh ce sl) none
    | _ => none
  | .inr (.inr (.inr _)) :: rest => cond (Nat.beq mi 0) (ih mi (Nat.add pc q.2.1) loc (.inl (.inr (.inl (6, 0))) :: rest) sr rh ce sl) none
  | _ => none
noncomputable def rx_aald (ih : rx_F) (q : rx_Q) : rx_F := fun mi pc loc stk sr rh ce sl => match stk with
  | .inl r :: .inr (.inl (some o)) :: rest => rx_exact sr r (fun s => ih mi pc loc stk s rh ce sl) (fun j => match rx_hget rh o with
    | some (.inr (.inr (.inr w))) => cond (Nat.beq w.1 4 && Nat.ble w.2.length 100000) (match rx_at w.2 j with
      | some (some k) => ih mi (Nat.add pc q.2.1) loc (.inr (.inl (some k)) :: rest) sr rh ce sl
      | _ => none) none
    | _ => none)
  | _ => none
noncomputable def rx_aast (ih : rx_F) (q : rx_Q) : rx_F := fun mi pc loc stk sr rh ce sl => match stk with
  | .inr (.inl (some v)) :: .inl (.inl (.ofNat j)) :: .inr (.inl (some o)) :: rest => match rx_hget rh o, rx_hget rh v with
    | some (.inr (.inr (.inr w))), some (.inl u) => cond (Nat.beq w.1 4 && Nat.beq u.1 2 && Nat.blt j w.2.length && Nat.ble w.2.length 100000) (ih mi (Nat.add pc q.2.1) loc rest sr (rx_hset rh o (.inr (.inr (.inr (w.1, rx_set (some v) w.2 j))))) ce sl) none
    | _, _ => none
  | _ => none
/-- loads and stores of ints: the sort of array that the instruction takes -/
noncomputable def rx_ald (tk : Nat → Bool) (ih : rx_F) (q : rx_Q) : rx_F := fun mi pc loc stk sr rh ce sl => match stk with
  | .inl r :: .inr (.inl (some o)) :: rest => rx_exact sr r (fun s => ih mi pc loc stk s rh ce sl) (fun j => match rx_hget rh o with
    | some (.inr (.inl w)) => cond (tk w.1.1 && Nat.blt j w.1.2 && Nat.ble w.1.2 100000) (ih mi (Nat.add pc q.2.1) loc (.inl (rx_look w.2.1 w.2.2 j) :: rest) sr rh ce sl) none
    | _ => none)
  | .inl (.inl (.ofNat j)) :: .inr (.inr (.inr _)) :: rest => cond (Nat.beq mi 0 && tk 0 && Nat.blt j 6) (match rx_at sr 6 with
    | some w => cond (rx_le (Int.ofNat j + 1) w.1) (ih mi (Nat.add pc q.2.1) loc (.inl (.inr (.inl (j, 0))) :: rest) sr rh ce sl) none
    | none => none) none
  | _ => none
noncomputable def rx_ast (tk : rx_S → Nat → rx_I → Bool) (ih : rx_F) (q : rx_Q) : rx_F := fun mi pc loc stk sr rh ce sl => match stk with
  | .inl v :: .inl r :: .inr (.inl (some o)) :: rest => rx_exact sr r (fun s => ih mi pc loc stk s rh ce sl) (fun j => match rx_hget rh o with
    | some (.inr (.inl w)) => cond (tk sr w.1.1 v && Nat.blt j w.1.2 && Nat.ble w.1.2 100000) (ih mi (Nat.add pc q.2.1) loc rest sr (rx_hset rh o (.inr (.inl (w.1, w.2.1, rx_ovr w.2.1 w.2.2 j v)))) ce sl) none
    | _ => none)
  | _ => none
noncomputable def rx_copy (ih : rx_F) (q : rx_Q) : rx_F := fun mi pc loc stk sr rh ce sl => match stk with
  | .inl (.inl (.ofNat z)) :: .inl (.inl (.ofNat z2)) :: .inr (.inl (some d)) :: .inl (.inl (.ofNat z3)) :: .inr (.inl (some o)) :: rest => match rx_hget rh o, rx_hget rh d with
    | some (.inr (.inl w)), some (.inr (.inl u)) => cond (Nat.beq z2 0 && Nat.beq z3 0 && Nat.beq w.1.1 0 && Nat.beq u.1.1 0 && Nat.beq z w.1.2 && Nat.beq z u.1.2 && Nat.ble z 100000 && Nat.ble (rx_sum rest) 8 && Nat.ble 1 (rx_room mi).frames && Nat.ble 100 (rx_room mi).locals) (ih mi (Nat.add pc q.2.1) loc rest sr (rx_hset rh d (.inr (.inl (u.1, w.2.1, w.2.2)))) ce sl) none
    | _, _ => none
  | _ => none
/-- Math.min, Math.max -/
noncomputable def rx_mm (f : Int32 → Int32 → Int32) (ih : rx_F) (q : rx_Q) : rx_F := fun mi pc loc stk sr rh ce sl => match stk with
  | .inl b :: .inl a :: rest => cond (Nat.ble 1 (rx_room mi).frames && Nat.ble (rx_sum rest + 13) (rx_room mi).locals && Nat.ble ce (rx_room mi).cells && Nat.ble sl (rx_room mi).slots) (rx_bin ih mi pc loc stk rest sr rh ce sl q.2.1 (rx_alu f rx_top sr a b)) none
  | _ => none
/-! calls -/
noncomputable def rx_call (ih : rx_F) (mi pc : Nat) (loc : rx_L) (rest : List rx_V) (sr : rx_S) (rh : rx_H) (ce sl n mj : Nat) (as : List rx_V) : Option (List rx_A) :=
  cond (Nat.ble (rx_lv mj + 1) (rx_room mi).frames && Nat.ble (8 + (rx_ml mj + 11) + 100 * rx_lv mj) (rx_room mi).locals && Nat.ble (ce + rx_mc mj) (rx_room mi).cells && Nat.ble (sl + rx_ms mj) (rx_room mi).slots && Nat.ble (rx_sum rest) 8 && Nat.ble 1 mj && Nat.ble (rx_sum as) (rx_ml mj))
    (match ih mj 0 (rx_args 0 as) [] sr rh 0 0 with
      | none => none
      | some os => rx_all (fun o => match rx_back mj o with
        | none => none
        | some v => cond (Nat.ble o.2.2.2.2.2.2.1 (rx_mc mj) && Nat.ble o.2.2.2.2.2.2.2 (rx_ms mj)) (ih mi (Nat.add pc n) loc (v ++ rest) o.2.2.2.2.1 o.2.2.2.2.2.1 (ce + rx_mc mj) (sl + rx_ms mj)) none) os)
    none
noncomputable def rx_pop (k : Nat) : List rx_V → List rx_V → Option (List rx_V × List rx_V) := Nat.rec (motive := fun _ => List rx_V → List rx_V → Option (List rx_V × List rx_V)) (fun l acc => some (acc, l)) (fun _ ih l acc => match l with
  | [] => none
  | v :: t => ih t (v :: acc)) k
noncomputable def rx_invS (ih : rx_F) (q : rx_Q) : rx_F := fun mi pc loc stk sr rh ce sl => match rx_pop q.2.2.2.2.2.1 stk [] with
  | some w => rx_call ih mi pc loc w.2 sr rh ce sl q.2.1 q.2.2.1 w.1
  | none => none
noncomputable def rx_invV (ih : rx_F) (q : rx_Q) : rx_F := fun mi pc loc stk sr rh ce sl => match rx_pop q.2.2.2.2.2.1 stk [] with
  | some w => match w.2 with
    | .inr (.inl (some o)) :: rest => match rx_hget rh o with
      | some (.inl u) => cond (Nat.beq u.1 (Nat.div q.2.2.2.1 (nat_lit 10))) (rx_call ih mi pc loc rest sr rh ce sl q.2.1 q.2.2.1 (.inr (.inl (some o)) :: w.1)) none
      | _ => none
    | _ => none
  | none => none
noncomputable def rx_obj (ih : rx_F) (q : rx_Q) : rx_F := fun mi pc loc stk sr rh ce sl => match stk with
  | .inr (.inl (some _)) :: rest => cond (Nat.ble 1 (rx_room mi).frames && Nat.ble (rx_sum rest + 12) (rx_room mi).locals) (ih mi (Nat.add pc q.2.1) loc rest sr rh ce sl) none
  | _ => none
noncomputable def rx_ret (_ : rx_F) (_ : rx_Q) : rx_F := fun mi pc loc stk sr rh ce sl => some [(mi, pc, loc, stk, sr, rh, ce, sl)]
noncomputable def rx_hs : List (rx_F → rx_Q → rx_F) := [rx_ld true, rx_ld false, rx_getf, rx_cst, rx_if2, rx_goto, rx_ret, rx_iinc, rx_invV, rx_ald (fun t => Nat.beq t 0), rx_ast (fun _ t _ => Nat.beq t 0), rx_sto false, rx_hadd, rx_ast (fun sr t v => (Nat.beq t 1 && rx_in sr v (-128) 127) || (Nat.beq t 2 && rx_in sr v 0 1)), rx_if0, rx_putf, rx_dup,
  rx_b2 (fun u v => u <<< (v &&& 31)) (fun _ => rx_top), rx_b2 (fun u v => u &&& v) rx_mask, rx_b2 (fun u v => u >>> (v &&& 31)) (fun _ => rx_top), rx_cst, rx_cst, rx_ld false, rx_hsub, rx_invS, rx_sto false, rx_ret, rx_alen, rx_b2 (fun u v => u * v) (fun _ => rx_top), rx_b2 (fun u v => (u.toUInt32 >>> (v.toUInt32 &&& Int32.toUInt32 31)).toInt32) (fun _ => rx_top),
  rx_cst, rx_dvb (fun u v => u - u / v * v), rx_newa, rx_invV, rx_obj, rx_copy, rx_dvb (fun u v => u / v), rx_i2b, rx_sw, rx_ald (fun t => Nat.beq t 1 || Nat.beq t 2), rx_new, rx_newr, rx_newm, rx_aast, rx_aald, rx_dup2, rx_sto true, rx_ld true, rx_sto true, rx_b2 (fun u v => u ||| v) (fun _ => rx_top), rx_b2 (fun u v => u ^^^ v) (fun _ => rx_top), rx_mm (fun u v => if v < u then v else u), rx_mm (fun u v => if u < v then v else u)]
noncomputable def rx_ex (ih : rx_F) (q : rx_Q) : rx_F := match rx_at rx_hs q.1 with
  | some h => h ih q
  | none => fun _ _ _ _ _ _ _ _ => none
noncomputable def rx_step (stp : Nat) (ih : rx_F) : rx_F := fun mi pc loc stk sr rh ce sl =>
  cond (Nat.beq mi 0 && Nat.beq pc stp) (some [(mi, pc, loc, stk, sr, rh, ce, sl)])
    (match rx_fetch mi pc with
      | none => none
      | some q => rx_ex ih q mi pc loc stk sr rh ce sl)
noncomputable def rx_run (stp : Nat) (k : Nat) : rx_F := Nat.rec (motive := fun _ => rx_F) (fun _ _ _ _ _ _ _ _ => none) (fun _ ih => rx_step stp ih) k
end
section
def rx_sr0 : rx_S := [(rx_lo, rx_hi), (rx_lo, rx_hi), (rx_lo, rx_hi), (rx_lo, rx_hi), (rx_lo, rx_hi), (rx_lo, rx_hi), (.ofNat (nat_lit 0), .ofNat (nat_lit 6))]
def rx_sr1 : rx_S := [(rx_lo, rx_hi), (rx_lo, rx_hi), (rx_lo, rx_hi), (rx_lo, rx_hi), (rx_lo, rx_hi), (rx_lo, rx_hi), (.ofNat (nat_lit 6), .ofNat (nat_lit 6))]
def rx_h0_0 : rx_t4 := ((((some (.inl (nat_lit 11, [.inr (.inl (some (nat_lit 1))), .inr (.inl (some (nat_lit 3))), .inr (.inl (some (nat_lit 11))), .inr (.inl (some (nat_lit 19))), .inr (.inl (some (nat_lit 22))), .inr (.inl (some (nat_lit 26))), .inr (.inl (some (nat_lit 30))), .inr (.inl (some (nat_lit 32))), .inr (.inl (some (nat_lit 33))), .inr (.inl (some (nat_lit 34))), .inr (.inl (some (nat_lit 49))), .inr (.inl (some (nat_lit 52))), .inr (.inl (some (nat_lit 57))), .inr (.inl (some (nat_lit 60))), .inr (.inl (some (nat_lit 72)))])), some (.inl (nat_lit 9, [.inr (.inl (some (nat_lit 2))), .inl (.inl (.ofNat (nat_lit 0))), .inl (.inl (.ofNat (nat_lit 0))), .inl (.inl (.ofNat (nat_lit 0))), .inl (.inl (.ofNat (nat_lit 0))), .inl (.inl (.ofNat (nat_lit 0))), .inr (.inr (.inl (some (.ofNat (nat_lit 0)))))]))), (some (.inr (.inl ((nat_lit 1, nat_lit 1600), .inl (.ofNat (nat_lit 0)), []))), some (.inl (nat_lit 7, [.inl (.inl (.ofNat (nat_lit 6))), .inl (.inl (.ofNat (nat_lit 0))), .inl (.inl (.ofNat (nat_lit 0))), .inl (.inl (.ofNat (nat_lit 0))), .inl (.inl (.ofNat (nat_lit 0))), .inr (.inl (some (nat_lit 4))), .inr (.inl (some (nat_lit 5))), .inr (.inl (some (nat_lit 6))), .inr (.inl (some (nat_lit 7))), .inr (.inl (some (nat_lit 8))), .inr (.inl (some (nat_lit 9))), .inl (.inl (.ofNat (nat_lit 0))), .inr (.inl (some (nat_lit 10)))])))), ((some (.inr (.inl ((nat_lit 0, nat_lit 4), .inl (.ofNat (nat_lit 0)), []))), some (.inr (.inl ((nat_lit 0, nat_lit 9), .inl (.ofNat (nat_lit 0)), [])))), (some (.inr (.inl ((nat_lit 0, nat_lit 9), .inl (.ofNat (nat_lit 0)), []))), some (.inr (.inl ((nat_lit 0, nat_lit 9), .inl (.ofNat (nat_lit 0)), [])))))), (((some (.inr (.inl ((nat_lit 0, nat_lit 640), .inl (.ofNat (nat_lit 0)), []))), some (.inr (.inl ((nat_lit 0, nat_lit 10), .inl (.ofNat (nat_lit 0)), [])))), (some (.inr (.inl ((nat_lit 0, nat_lit 30), .inl (.ofNat (nat_lit 0)), []))), some (.inl (nat_lit 7, [.inl (.inl (.ofNat (nat_lit 6))), .inl (.inl (.ofNat (nat_lit 0))), .inl (.inl (.ofNat (nat_lit 0))), .inl (.inl (.ofNat (nat_lit 0))), .inl (.inl (.ofNat (nat_lit 0))), .inr (.inl (some (nat_lit 12))), .inr (.inl (some (nat_lit 13))), .inr (.inl (some (nat_lit 14))), .inr (.inl (some (nat_lit 15))), .inr (.inl (some (nat_lit 16))), .inr (.inl (some (nat_lit 17))), .inl (.inl (.ofNat (nat_lit 0))), .inr (.inl (some (nat_lit 18)))])))), ((some (.inr (.inl ((nat_lit 0, nat_lit 4), .inl (.ofNat (nat_lit 0)), []))), some (.inr (.inl ((nat_lit 0, nat_lit 9), .inl (.ofNat (nat_lit 0)), [])))), (some (.inr (.inl ((nat_lit 0, nat_lit 9), .inl (.ofNat (nat_lit 0)), []))), some (.inr (.inl ((nat_lit 0, nat_lit 9), .inl (.ofNat (nat_lit 0)), [])))))))
def rx_h0_1 : rx_t4 := ((((some (.inr (.inl ((nat_lit 0, nat_lit 640), .inl (.ofNat (nat_lit 0)), []))), some (.inr (.inl ((nat_lit 0, nat_lit 10), .inl (.ofNat (nat_lit 0)), [])))), (some (.inr (.inl ((nat_lit 0, nat_lit 30), .inl (.ofNat (nat_lit 0)), []))), some (.inl (nat_lit 6, [.inr (.inl (some (nat_lit 1))), .inr (.inl (some (nat_lit 20))), .inr (.inl (some (nat_lit 21))), .inr (.inl (some (nat_lit 11))), .inl (.inl (.ofNat (nat_lit 0))), .inl (.inl (.ofNat (nat_lit 0))), .inl (.inl (.ofNat (nat_lit 0))), .inl (.inl (.negSucc (nat_lit 0)))])))), ((some (.inr (.inr (.inl (nat_lit 3, nat_lit 4)))), some (.inr (.inr (.inl (nat_lit 3, nat_lit 9))))), (some (.inl (nat_lit 2, [.inr (.inl (some (nat_lit 23))), .inr (.inl (some (nat_lit 24))), .inr (.inl (some (nat_lit 25))), .inl (.inl (.ofNat (nat_lit 0))), .inl (.inl (.ofNat (nat_lit 0)))])), some (.inr (.inl ((nat_lit 0, nat_lit 4), .inl (.ofNat (nat_lit 0)), [])))))), (((some (.inr (.inl ((nat_lit 0, nat_lit 9), .inl (.ofNat (nat_lit 0)), []))), some (.inr (.inl ((nat_lit 0, nat_lit 9), .inl (.ofNat (nat_lit 0)), [])))), (some (.inl (nat_lit 2, [.inr (.inl (some (nat_lit 27))), .inr (.inl (some (nat_lit 28))), .inr (.inl (some (nat_lit 29))), .inl (.inl (.ofNat (nat_lit 0))), .inl (.inl (.ofNat (nat_lit 0)))])), some (.inr (.inl ((nat_lit 0, nat_lit 4), .inl (.ofNat (nat_lit 0)), []))))), ((some (.inr (.inl ((nat_lit 0, nat_lit 9), .inl (.ofNat (nat_lit 0)), []))), some (.inr (.inl ((nat_lit 0, nat_lit 9), .inl (.ofNat (nat_lit 0)), [])))), (some (.inl (nat_lit 0, [.inr (.inl (some (nat_lit 3))), .inr (.inl (some (nat_lit 22))), .inr (.inl (some (nat_lit 31))), .inl (.inl (.ofNat (nat_lit 0))), .inl (.inl (.ofNat (nat_lit 0)))])), some (.inr (.inl ((nat_lit 0, nat_lit 200), .inl (.ofNat (nat_lit 0)), [])))))))
def rx_h0_2 : rx_t4 := ((((some (.inr (.inr (.inr (nat_lit 4, [some (nat_lit 95), some (nat_lit 99), some (nat_lit 103)])))), some (.inr (.inl ((nat_lit 2, nat_lit 3), .inl (.ofNat (nat_lit 0)), [])))), (some (.inl (nat_lit 5, [.inr (.inl (some (nat_lit 3))), .inr (.inl (some (nat_lit 22))), .inr (.inl (some (nat_lit 35))), .inr (.inl (some (nat_lit 45))), .inr (.inl (some (nat_lit 46))), .inr (.inl (some (nat_lit 47))), .inl (.inl (.ofNat (nat_lit 0))), .inl (.inl (.ofNat (nat_lit 0))), .inr (.inl (some (nat_lit 48)))])), some (.inr (.inr (.inr (nat_lit 5, [some (nat_lit 36), some (nat_lit 37), some (nat_lit 38), some (nat_lit 39), some (nat_lit 40), some (nat_lit 41), some (nat_lit 42), some (nat_lit 43), some (nat_lit 44)])))))), ((some (.inr (.inl ((nat_lit 0, nat_lit 256), .inl (.ofNat (nat_lit 0)), []))), some (.inr (.inl ((nat_lit 0, nat_lit 256), .inl (.ofNat (nat_lit 0)), [])))), (some (.inr (.inl ((nat_lit 0, nat_lit 256), .inl (.ofNat (nat_lit 0)), []))), some (.inr (.inl ((nat_lit 0, nat_lit 256), .inl (.ofNat (nat_lit 0)), [])))))), (((some (.inr (.inl ((nat_lit 0, nat_lit 256), .inl (.ofNat (nat_lit 0)), []))), some (.inr (.inl ((nat_lit 0, nat_lit 256), .inl (.ofNat (nat_lit 0)), [])))), (some (.inr (.inl ((nat_lit 0, nat_lit 256), .inl (.ofNat (nat_lit 0)), []))), some (.inr (.inl ((nat_lit 0, nat_lit 256), .inl (.ofNat (nat_lit 0)), []))))), ((some (.inr (.inl ((nat_lit 0, nat_lit 256), .inl (.ofNat (nat_lit 0)), []))), some (.inr (.inl ((nat_lit 2, nat_lit 9), .inl (.ofNat (nat_lit 0)), [])))), (some (.inr (.inl ((nat_lit 0, nat_lit 256), .inl (.ofNat (nat_lit 0)), []))), some (.inr (.inl ((nat_lit 0, nat_lit 256), .inl (.ofNat (nat_lit 0)), [])))))))
def rx_h0_3 : rx_t4 := ((((some (.inr (.inl ((nat_lit 0, nat_lit 81), .inl (.ofNat (nat_lit 0)), []))), some (.inl (nat_lit 8, [.inr (.inl (some (nat_lit 3))), .inr (.inl (some (nat_lit 22))), .inr (.inl (some (nat_lit 34))), .inr (.inl (some (nat_lit 50))), .inr (.inl (some (nat_lit 51))), .inl (.inl (.ofNat (nat_lit 0)))]))), (some (.inr (.inl ((nat_lit 0, nat_lit 256), .inl (.ofNat (nat_lit 0)), []))), some (.inr (.inl ((nat_lit 0, nat_lit 4), .inl (.ofNat (nat_lit 0)), []))))), ((some (.inl (nat_lit 4, [.inr (.inl (some (nat_lit 53))), .inr (.inl (some (nat_lit 54))), .inr (.inl (some (nat_lit 55))), .inr (.inl (some (nat_lit 56))), .inl (.inl (.ofNat (nat_lit 0))), .inl (.inl (.ofNat (nat_lit 0)))])), some (.inr (.inl ((nat_lit 0, nat_lit 30), .inl (.ofNat (nat_lit 0)), [])))), (some (.inr (.inl ((nat_lit 0, nat_lit 30), .inl (.ofNat (nat_lit 0)), []))), some (.inr (.inl ((nat_lit 0, nat_lit 30), .inl (.ofNat (nat_lit 0)), [])))))), (((some (.inr (.inl ((nat_lit 0, nat_lit 30), .inl (.ofNat (nat_lit 0)), []))), some (.inl (nat_lit 3, [.inr (.inl (some (nat_lit 3))), .inr (.inl (some (nat_lit 34))), .inr (.inl (some (nat_lit 52))), .inr (.inl (some (nat_lit 58))), .inr (.inl (some (nat_lit 59))), .inl (.inl (.ofNat (nat_lit 0)))]))), (some (.inr (.inl ((nat_lit 0, nat_lit 256), .inl (.ofNat (nat_lit 0)), []))), some (.inr (.inl ((nat_lit 0, nat_lit 256), .inl (.ofNat (nat_lit 0)), []))))), ((some (.inl (nat_lit 1, [.inr (.inl (some (nat_lit 3))), .inr (.inl (some (nat_lit 34))), .inr (.inl (some (nat_lit 57))), .inr (.inl (some (nat_lit 61))), .inr (.inl (some (nat_lit 71))), .inl (.inl (.ofNat (nat_lit 0))), .inl (.inl (.ofNat (nat_lit 0)))])), some (.inr (.inr (.inr (nat_lit 5, [some (nat_lit 62), some (nat_lit 63), some (nat_lit 64), some (nat_lit 65), some (nat_lit 66), some (nat_lit 67), some (nat_lit 68), some (nat_lit 69), some (nat_lit 70)]))))), (some (.inr (.inl ((nat_lit 0, nat_lit 10), .inl (.ofNat (nat_lit 0)), []))), some (.inr (.inl ((nat_lit 0, nat_lit 10), .inl (.ofNat (nat_lit 0)), [])))))))
def rx_h0_4 : rx_t4 := ((((some (.inr (.inl ((nat_lit 0, nat_lit 10), .inl (.ofNat (nat_lit 0)), []))), some (.inr (.inl ((nat_lit 0, nat_lit 10), .inl (.ofNat (nat_lit 0)), [])))), (some (.inr (.inl ((nat_lit 0, nat_lit 10), .inl (.ofNat (nat_lit 0)), []))), some (.inr (.inl ((nat_lit 0, nat_lit 10), .inl (.ofNat (nat_lit 0)), []))))), ((some (.inr (.inl ((nat_lit 0, nat_lit 10), .inl (.ofNat (nat_lit 0)), []))), some (.inr (.inl ((nat_lit 0, nat_lit 10), .inl (.ofNat (nat_lit 0)), [])))), (some (.inr (.inl ((nat_lit 0, nat_lit 10), .inl (.ofNat (nat_lit 0)), []))), some (.inr (.inl ((nat_lit 0, nat_lit 1024), .inl (.ofNat (nat_lit 0)), [])))))), (((some (.inl (nat_lit 10, [.inr (.inl (some (nat_lit 3))), .inr (.inl (some (nat_lit 34))), .inr (.inl (some (nat_lit 57))), .inr (.inl (some (nat_lit 73))), .inr (.inl (some (nat_lit 74))), .inr (.inl (some (nat_lit 84))), .inr (.inl (some (nat_lit 94)))])), some (.inr (.inl ((nat_lit 2, nat_lit 512), .inl (.ofNat (nat_lit 0)), [])))), (some (.inr (.inr (.inr (nat_lit 5, [some (nat_lit 75), some (nat_lit 76), some (nat_lit 77), some (nat_lit 78), some (nat_lit 79), some (nat_lit 80), some (nat_lit 81), some (nat_lit 82), some (nat_lit 83)])))), some (.inr (.inl ((nat_lit 0, nat_lit 256), .inl (.ofNat (nat_lit 0)), []))))), ((some (.inr (.inl ((nat_lit 0, nat_lit 256), .inl (.ofNat (nat_lit 0)), []))), some (.inr (.inl ((nat_lit 0, nat_lit 256), .inl (.ofNat (nat_lit 0)), [])))), (some (.inr (.inl ((nat_lit 0, nat_lit 256), .inl (.ofNat (nat_lit 0)), []))), some (.inr (.inl ((nat_lit 0, nat_lit 256), .inl (.ofNat (nat_lit 0)), [])))))))
def rx_h0_5 : rx_t4 := ((((some (.inr (.inl ((nat_lit 0, nat_lit 256), .inl (.ofNat (nat_lit 0)), []))), some (.inr (.inl ((nat_lit 0, nat_lit 256), .inl (.ofNat (nat_lit 0)), [])))), (some (.inr (.inl ((nat_lit 0, nat_lit 256), .inl (.ofNat (nat_lit 0)), []))), some (.inr (.inl ((nat_lit 0, nat_lit 256), .inl (.ofNat (nat_lit 0)), []))))), ((some (.inr (.inr (.inr (nat_lit 5, [some (nat_lit 85), some (nat_lit 86), some (nat_lit 87), some (nat_lit 88), some (nat_lit 89), some (nat_lit 90), some (nat_lit 91), some (nat_lit 92), some (nat_lit 93)])))), some (.inr (.inl ((nat_lit 0, nat_lit 256), .inl (.ofNat (nat_lit 0)), [])))), (some (.inr (.inl ((nat_lit 0, nat_lit 256), .inl (.ofNat (nat_lit 0)), []))), some (.inr (.inl ((nat_lit 0, nat_lit 256), .inl (.ofNat (nat_lit 0)), [])))))), (((some (.inr (.inl ((nat_lit 0, nat_lit 256), .inl (.ofNat (nat_lit 0)), []))), some (.inr (.inl ((nat_lit 0, nat_lit 256), .inl (.ofNat (nat_lit 0)), [])))), (some (.inr (.inl ((nat_lit 0, nat_lit 256), .inl (.ofNat (nat_lit 0)), []))), some (.inr (.inl ((nat_lit 0, nat_lit 256), .inl (.ofNat (nat_lit 0)), []))))), ((some (.inr (.inl ((nat_lit 0, nat_lit 256), .inl (.ofNat (nat_lit 0)), []))), some (.inr (.inl ((nat_lit 0, nat_lit 256), .inl (.ofNat (nat_lit 0)), [])))), (some (.inr (.inl ((nat_lit 0, nat_lit 256), .inl (.ofNat (nat_lit 0)), []))), some (.inl (nat_lit 2, [.inr (.inl (some (nat_lit 96))), .inr (.inl (some (nat_lit 97))), .inr (.inl (some (nat_lit 98))), .inl (.inl (.ofNat (nat_lit 0))), .inl (.inl (.ofNat (nat_lit 0)))]))))))
def rx_h0_6 : rx_t4 := ((((some (.inr (.inl ((nat_lit 0, nat_lit 4), .inl (.ofNat (nat_lit 0)), []))), some (.inr (.inl ((nat_lit 0, nat_lit 9), .inl (.ofNat (nat_lit 0)), [])))), (some (.inr (.inl ((nat_lit 0, nat_lit 9), .inl (.ofNat (nat_lit 0)), []))), some (.inl (nat_lit 2, [.inr (.inl (some (nat_lit 100))), .inr (.inl (some (nat_lit 101))), .inr (.inl (some (nat_lit 102))), .inl (.inl (.ofNat (nat_lit 0))), .inl (.inl (.ofNat (nat_lit 0)))])))), ((some (.inr (.inl ((nat_lit 0, nat_lit 4), .inl (.ofNat (nat_lit 0)), []))), some (.inr (.inl ((nat_lit 0, nat_lit 9), .inl (.ofNat (nat_lit 0)), [])))), (some (.inr (.inl ((nat_lit 0, nat_lit 9), .inl (.ofNat (nat_lit 0)), []))), some (.inl (nat_lit 2, [.inr (.inl (some (nat_lit 104))), .inr (.inl (some (nat_lit 105))), .inr (.inl (some (nat_lit 106))), .inl (.inl (.ofNat (nat_lit 0))), .inl (.inl (.ofNat (nat_lit 0)))]))))), (((some (.inr (.inl ((nat_lit 0, nat_lit 4), .inl (.ofNat (nat_lit 0)), []))), some (.inr (.inl ((nat_lit 0, nat_lit 9), .inl (.ofNat (nat_lit 0)), [])))), (some (.inr (.inl ((nat_lit 0, nat_lit 9), .inl (.ofNat (nat_lit 0)), []))), some (.inl (nat_lit 12, [.inr (.inl (some (nat_lit 108))), .inr (.inl (some (nat_lit 109))), .inl (.inl (.ofNat (nat_lit 0))), .inl (.inl (.ofNat (nat_lit 0))), .inl (.inl (.ofNat (nat_lit 0))), .inl (.inl (.negSucc (nat_lit 0))), .inl (.inl (.ofNat (nat_lit 0))), .inl (.inl (.ofNat (nat_lit 0))), .inl (.inl (.ofNat (nat_lit 0))), .inl (.inl (.ofNat (nat_lit 0))), .inr (.inr (.inl (some (.ofNat (nat_lit 0))))), .inr (.inl (some (nat_lit 110))), .inr (.inl (some (nat_lit 111))), .inr (.inl (some (nat_lit 112))), .inr (.inl (some (nat_lit 113))), .inr (.inl (some (nat_lit 114))), .inr (.inl (some (nat_lit 115))), .inr (.inl (some (nat_lit 116))), .inr (.inl (some (nat_lit 117))), .inr (.inl (some (nat_lit 118))), .inr (.inl (some (nat_lit 119))), .inr (.inl (some (nat_lit 120))), .inr (.inl (some (nat_lit 121))), .inr (.inl (some (nat_lit 122))), .inr (.inl (some (nat_lit 123))), .inr (.inl (some (nat_lit 124))), .inr (.inl (some (nat_lit 125))), .inr (.inl (some (nat_lit 126))), .inr (.inl (some (nat_lit 127))), .inr (.inl (some (nat_lit 128))), .inr (.inl (some (nat_lit 129))), .inl (.inl (.ofNat (nat_lit 0))), .inl (.inl (.ofNat (nat_lit 0))), .inl (.inl (.ofNat (nat_lit 0))), .inl (.inl (.ofNat (nat_lit 0))), .inl (.inl (.ofNat (nat_lit 0))), .inl (.inl (.ofNat (nat_lit 0))), .inl (.inl (.ofNat (nat_lit 0))), .inl (.inl (.ofNat (nat_lit 0))), .inl (.inl (.ofNat (nat_lit 0))), .inl (.inl (.ofNat (nat_lit 0))), .inr (.inl (some (nat_lit 130))), .inr (.inl (some (nat_lit 131))), .inr (.inl (some (nat_lit 132))), .inl (.inl (.ofNat (nat_lit 0))), .inl (.inl (.ofNat (nat_lit 0))), .inr (.inl (some (nat_lit 133))), .inr (.inl (some (nat_lit 134))), .inr (.inl (some (nat_lit 135))), .inl (.inl (.ofNat (nat_lit 0))), .inr (.inl (some (nat_lit 136))), .inr (.inl (some (nat_lit 137))), .inr (.inl (some (nat_lit 138))), .inr (.inl (some (nat_lit 139))), .inr (.inl (some (nat_lit 140))), .inr (.inl (some (nat_lit 141))), .inr (.inl (some (nat_lit 142))), .inr (.inl (some (nat_lit 143))), .inl (.inl (.ofNat (nat_lit 0))), .inl (.inl (.ofNat (nat_lit 0))), .inl (.inl (.ofNat (nat_lit 0))), .inr (.inl (some (nat_lit 144))), .inr (.inl (some (nat_lit 145))), .inr (.inl (some (nat_lit 146))), .inr (.inl (some (nat_lit 147)))])))), ((some (.inr (.inl ((nat_lit 1, nat_lit 1620), .inl (.ofNat (nat_lit 0)), []))), some (.inr (.inl ((nat_lit 1, nat_lit 1600), .inl (.ofNat (nat_lit 0)), [])))), (some (.inr (.inl ((nat_lit 0, nat_lit 2), .inl (.ofNat (nat_lit 0)), [(nat_lit 0, .inl (.ofNat (nat_lit 6)))]))), some (.inr (.inl ((nat_lit 0, nat_lit 2), .inl (.ofNat (nat_lit 0)), [])))))))
def rx_h0_7 : rx_t4 := ((((some (.inr (.inl ((nat_lit 0, nat_lit 2), .inl (.ofNat (nat_lit 0)), []))), some (.inr (.inl ((nat_lit 0, nat_lit 2), .inl (.ofNat (nat_lit 0)), [])))), (some (.inr (.inl ((nat_lit 0, nat_lit 2), .inl (.ofNat (nat_lit 0)), []))), some (.inr (.inl ((nat_lit 0, nat_lit 2), .inl (.ofNat (nat_lit 0)), []))))), ((some (.inr (.inl ((nat_lit 0, nat_lit 8), .inl (.ofNat (nat_lit 0)), []))), some (.inr (.inl ((nat_lit 0, nat_lit 18), .inl (.ofNat (nat_lit 0)), [])))), (some (.inr (.inl ((nat_lit 0, nat_lit 18), .inl (.ofNat (nat_lit 0)), []))), some (.inr (.inl ((nat_lit 0, nat_lit 18), .inl (.ofNat (nat_lit 0)), [])))))), (((some (.inr (.inl ((nat_lit 0, nat_lit 18), .inl (.ofNat (nat_lit 0)), []))), some (.inr (.inl ((nat_lit 0, nat_lit 18), .inl (.ofNat (nat_lit 0)), [])))), (some (.inr (.inl ((nat_lit 2, nat_lit 2), .inl (.ofNat (nat_lit 0)), []))), some (.inr (.inr (.inl (nat_lit 3, nat_lit 8)))))), ((some (.inr (.inr (.inl (nat_lit 3, nat_lit 18)))), some (.inr (.inl ((nat_lit 0, nat_lit 1120), .inl (.ofNat (nat_lit 0)), [])))), (some (.inr (.inl ((nat_lit 0, nat_lit 1120), .inl (.ofNat (nat_lit 0)), []))), some (.inr (.inl ((nat_lit 0, nat_lit 90), .inl (.ofNat (nat_lit 0)), [])))))))
def rx_h0_8 : rx_t4 := ((((some (.inr (.inl ((nat_lit 0, nat_lit 90), .inl (.ofNat (nat_lit 0)), []))), some (.inr (.inl ((nat_lit 0, nat_lit 60), .inl (.ofNat (nat_lit 0)), [])))), (some (.inr (.inl ((nat_lit 0, nat_lit 24), .inl (.ofNat (nat_lit 0)), []))), some (.inr (.inl ((nat_lit 0, nat_lit 2304), .inl (.ofNat (nat_lit 0)), []))))), ((some (.inr (.inl ((nat_lit 0, nat_lit 984), .inl (.ofNat (nat_lit 0)), []))), some (.inr (.inl ((nat_lit 0, nat_lit 4), .inl (.ofNat (nat_lit 0)), [])))), (some (.inr (.inl ((nat_lit 0, nat_lit 4), .inl (.ofNat (nat_lit 0)), []))), some (.inr (.inl ((nat_lit 0, nat_lit 256), .inl (.ofNat (nat_lit 0)), [])))))), (((some (.inr (.inl ((nat_lit 0, nat_lit 9), .inl (.ofNat (nat_lit 0)), []))), some (.inr (.inl ((nat_lit 0, nat_lit 8), .inl (.ofNat (nat_lit 0)), [])))), (some (.inr (.inl ((nat_lit 0, nat_lit 30), .inl (.ofNat (nat_lit 0)), []))), some (.inr (.inl ((nat_lit 0, nat_lit 30), .inl (.ofNat (nat_lit 0)), []))))), ((some (.inr (.inl ((nat_lit 0, nat_lit 30), .inl (.ofNat (nat_lit 0)), []))), some (.inr (.inl ((nat_lit 0, nat_lit 30), .inl (.ofNat (nat_lit 0)), [])))), (some (.inr (.inl ((nat_lit 0, nat_lit 256), .inl (.ofNat (nat_lit 0)), []))), some (.inr (.inl ((nat_lit 0, nat_lit 256), .inl (.ofNat (nat_lit 0)), [])))))))
def rx_h0_9 : rx_t4 := ((((some (.inr (.inl ((nat_lit 0, nat_lit 1024), .inl (.ofNat (nat_lit 0)), []))), some (.inr (.inl ((nat_lit 0, nat_lit 1024), .inl (.ofNat (nat_lit 0)), [])))), (some (.inr (.inl ((nat_lit 0, nat_lit 72), .inl (.ofNat (nat_lit 0)), []))), some (.inr (.inl ((nat_lit 2, nat_lit 3), .inl (.ofNat (nat_lit 0)), []))))), ((none, none), (none, none))), (((none, none), (none, none)), ((none, none), (none, none))))
def rx_h0_10 : rx_t4 := ((((none, none), (none, none)), ((none, none), (none, none))), (((none, none), (none, none)), ((none, none), (none, none))))
def rx_h0_11 : rx_t4 := ((((none, none), (none, none)), ((none, none), (none, none))), (((none, none), (none, none)), ((none, none), (none, none))))
def rx_h0_12 : rx_t4 := ((((none, none), (none, none)), ((none, none), (none, none))), (((none, none), (none, none)), ((none, none), (none, none))))
def rx_h0_13 : rx_t4 := ((((none, none), (none, none)), ((none, none), (none, none))), (((none, none), (none, none)), ((none, none), (none, none))))
def rx_h0_14 : rx_t4 := ((((none, none), (none, none)), ((none, none), (none, none))), (((none, none), (none, none)), ((none, none), (none, none))))
def rx_h0_15 : rx_t4 := ((((none, none), (none, none)), ((none, none), (none, none))), (((none, none), (none, none)), ((none, none), (none, none))))
def rx_h0 : rx_H := (((((rx_h0_0, rx_h0_1), (rx_h0_2, rx_h0_3)), ((rx_h0_4, rx_h0_5), (rx_h0_6, rx_h0_7))), (((rx_h0_8, rx_h0_9), (rx_h0_10, rx_h0_11)), ((rx_h0_12, rx_h0_13), (rx_h0_14, rx_h0_15)))), nat_lit 148)
end
section
def rx_l0 : rx_L := [(nat_lit 3, .inl (.inl (.ofNat (nat_lit 0)))), (nat_lit 2, .inr (.inl (some (nat_lit 107)))), (nat_lit 1, .inr (.inl (some (nat_lit 0)))), (nat_lit 0, .inr (.inr (.inr ())))]
/-- an end of the law with 1 -/
noncomputable def rx_fin1 (o : rx_A) : Bool := match rx_fetch 0 o.2.1, o.2.2.2.1 with
  | some q, [.inl (.inl (.ofNat n))] => Nat.beq n 1 && Nat.beq q.1 6 && Nat.ble o.2.2.2.2.2.2.1 600000 && Nat.ble o.2.2.2.2.2.2.2 7302250
  | _, _ => false
noncomputable def rx_fin (r : Option (List rx_A)) : Bool := match r with
  | some os => os.all rx_fin1
  | none => false
/-- an empty world -/
def rx_e4 : rx_t4 := ((((none, none), (none, none)), ((none, none), (none, none))), (((none, none), (none, none)), ((none, none), (none, none))))
def rx_hE : rx_H := (((((rx_e4, rx_e4), (rx_e4, rx_e4)), ((rx_e4, rx_e4), (rx_e4, rx_e4))), (((rx_e4, rx_e4), (rx_e4, rx_e4)), ((rx_e4, rx_e4), (rx_e4, rx_e4)))), nat_lit 0)
def rx_qI : DecidableEq rx_I := inferInstance
def rx_qV : DecidableEq rx_V := inferInstance
def rx_qN : DecidableEq (Nat × rx_V) := fun a b => @instDecidableEqProd Nat rx_V inferInstance rx_qV a b
def rx_qL : DecidableEq (List (Nat × rx_V)) := fun a b => @instDecidableEqList _ rx_qN a b
def rx_qO : DecidableEq (Nat × List rx_V) := fun a b => @instDecidableEqProd Nat (List rx_V) inferInstance (@instDecidableEqList _ rx_qV) a b
def rx_qM : DecidableEq (Nat × rx_I) := fun a b => @instDecidableEqProd Nat rx_I inferInstance rx_qI a b
def rx_qA : DecidableEq ((Nat × Nat) × rx_I × List (Nat × rx_I)) := fun a b => @instDecidableEqProd (Nat × Nat) (rx_I × List (Nat × rx_I)) inferInstance (@instDecidableEqProd rx_I (List (Nat × rx_I)) rx_qI (@instDecidableEqList _ rx_qM)) a b
def rx_qT : DecidableEq ((Nat × Nat) ⊕ (Nat × List (Option Nat))) := inferInstance
def rx_qU : DecidableEq (((Nat × Nat) × rx_I × List (Nat × rx_I)) ⊕ ((Nat × Nat) ⊕ (Nat × List (Option Nat)))) := fun a b => @instDecidableEqSum _ _ rx_qA rx_qT a b
def rx_qC : DecidableEq rx_C := fun a b => @instDecidableEqSum _ _ rx_qO rx_qU a b
def rx_q0 : DecidableEq rx_t0 := fun a b => @Option.instDecidableEq _ rx_qC a b
def rx_q1 : DecidableEq rx_t1 := fun a b => @instDecidableEqProd _ _ rx_q0 rx_q0 a b
def rx_q2 : DecidableEq rx_t2 := fun a b => @instDecidableEqProd _ _ rx_q1 rx_q1 a b
def rx_q3 : DecidableEq rx_t3 := fun a b => @instDecidableEqProd _ _ rx_q2 rx_q2 a b
def rx_q4 : DecidableEq rx_t4 := fun a b => @instDecidableEqProd _ _ rx_q3 rx_q3 a b
def rx_q5 : DecidableEq rx_t5 := fun a b => @instDecidableEqProd _ _ rx_q4 rx_q4 a b
def rx_q6 : DecidableEq rx_t6 := fun a b => @instDecidableEqProd _ _ rx_q5 rx_q5 a b
def rx_q7 : DecidableEq rx_t7 := fun a b => @instDecidableEqProd _ _ rx_q6 rx_q6 a b
def rx_q8 : DecidableEq rx_t8 := fun a b => @instDecidableEqProd _ _ rx_q7 rx_q7 a b
def rx_qH : DecidableEq rx_H := fun a b => @instDecidableEqProd _ _ rx_q8 inferInstance a b
/-- the law's switch, both objects made -/
noncomputable def rx_mid1 (o : rx_A) : Bool := Nat.beq o.2.1 33 && @decide (o.2.2.1 = rx_l0) (rx_qL _ _) && decide (o.2.2.2.1 = [.inl (.inr (.inr (0, 63)))]) && decide (o.2.2.2.2.1 = rx_sr1) && @decide (o.2.2.2.2.2.1 = rx_h0) (rx_qH _ _) && Nat.beq o.2.2.2.2.2.2.1 148 && Nat.beq o.2.2.2.2.2.2.2 26053
noncomputable def rx_mid (r : Option (List rx_A)) : Bool := match r with
  | some os => os.all (fun o => rx_fin1 o || rx_mid1 o)
  | none => false
set_option maxRecDepth 100000 in
theorem rx_run_0 : rx_mid (rx_run 33 3000 0 0 [(0, .inr (.inr (.inr ())))] [] rx_sr0 rx_hE 0 0) = true := by decide +kernel
end
section
set_option maxRecDepth 100000 in
theorem rx_run_272 : rx_fin (rx_run 33 100000 (nat_lit 0) (nat_lit 272) rx_l0 [] rx_sr1 rx_h0 (nat_lit 148) (nat_lit 26053)) = true := by decide +kernel
set_option maxRecDepth 100000 in
theorem rx_run_335 : rx_fin (rx_run 33 100000 (nat_lit 0) (nat_lit 335) rx_l0 [] rx_sr1 rx_h0 (nat_lit 148) (nat_lit 26053)) = true := by decide +kernel
set_option maxRecDepth 100000 in
theorem rx_run_358 : rx_fin (rx_run 33 100000 (nat_lit 0) (nat_lit 358) rx_l0 [] rx_sr1 rx_h0 (nat_lit 148) (nat_lit 26053)) = true := by decide +kernel
set_option maxRecDepth 100000 in
theorem rx_run_371 : rx_fin (rx_run 33 100000 (nat_lit 0) (nat_lit 371) rx_l0 [] rx_sr1 rx_h0 (nat_lit 148) (nat_lit 26053)) = true := by decide +kernel
set_option maxRecDepth 100000 in
theorem rx_run_394 : rx_fin (rx_run 33 100000 (nat_lit 0) (nat_lit 394) rx_l0 [] rx_sr1 rx_h0 (nat_lit 148) (nat_lit 26053)) = true := by decide +kernel
set_option maxRecDepth 100000 in
theorem rx_run_417 : rx_fin (rx_run 33 100000 (nat_lit 0) (nat_lit 417) rx_l0 [] rx_sr1 rx_h0 (nat_lit 148) (nat_lit 26053)) = true := by decide +kernel
set_option maxRecDepth 100000 in
theorem rx_run_450 : rx_fin (rx_run 33 100000 (nat_lit 0) (nat_lit 450) rx_l0 [] rx_sr1 rx_h0 (nat_lit 148) (nat_lit 26053)) = true := by decide +kernel
set_option maxRecDepth 100000 in
theorem rx_run_483 : rx_fin (rx_run 33 100000 (nat_lit 0) (nat_lit 483) rx_l0 [] rx_sr1 rx_h0 (nat_lit 148) (nat_lit 26053)) = true := by decide +kernel
set_option maxRecDepth 100000 in
theorem rx_run_516 : rx_fin (rx_run 33 100000 (nat_lit 0) (nat_lit 516) rx_l0 [] rx_sr1 rx_h0 (nat_lit 148) (nat_lit 26053)) = true := by decide +kernel
set_option maxRecDepth 100000 in
theorem rx_run_549 : rx_fin (rx_run 33 100000 (nat_lit 0) (nat_lit 549) rx_l0 [] rx_sr1 rx_h0 (nat_lit 148) (nat_lit 26053)) = true := by decide +kernel
set_option maxRecDepth 100000 in
theorem rx_run_572 : rx_fin (rx_run 33 100000 (nat_lit 0) (nat_lit 572) rx_l0 [] rx_sr1 rx_h0 (nat_lit 148) (nat_lit 26053)) = true := by decide +kernel
set_option maxRecDepth 100000 in
theorem rx_run_595 : rx_fin (rx_run 33 100000 (nat_lit 0) (nat_lit 595) rx_l0 [] rx_sr1 rx_h0 (nat_lit 148) (nat_lit 26053)) = true := by decide +kernel
set_option maxRecDepth 100000 in
theorem rx_run_628 : rx_fin (rx_run 33 100000 (nat_lit 0) (nat_lit 628) rx_l0 [] rx_sr1 rx_h0 (nat_lit 148) (nat_lit 26053)) = true := by decide +kernel
set_option maxRecDepth 100000 in
theorem rx_run_641 : rx_fin (rx_run 33 100000 (nat_lit 0) (nat_lit 641) rx_l0 [] rx_sr1 rx_h0 (nat_lit 148) (nat_lit 26053)) = true := by decide +kernel
set_option maxRecDepth 100000 in
theorem rx_run_654 : rx_fin (rx_run 33 100000 (nat_lit 0) (nat_lit 654) rx_l0 [] rx_sr1 rx_h0 (nat_lit 148) (nat_lit 26053)) = true := by decide +kernel
set_option maxRecDepth 100000 in
theorem rx_run_667 : rx_fin (rx_run 33 100000 (nat_lit 0) (nat_lit 667) rx_l0 [] rx_sr1 rx_h0 (nat_lit 148) (nat_lit 26053)) = true := by decide +kernel
set_option maxRecDepth 100000 in
theorem rx_run_730 : rx_fin (rx_run 33 100000 (nat_lit 0) (nat_lit 730) rx_l0 [] rx_sr1 rx_h0 (nat_lit 148) (nat_lit 26053)) = true := by decide +kernel
set_option maxRecDepth 100000 in
theorem rx_run_773 : rx_fin (rx_run 33 100000 (nat_lit 0) (nat_lit 773) rx_l0 [] rx_sr1 rx_h0 (nat_lit 148) (nat_lit 26053)) = true := by decide +kernel
set_option maxRecDepth 100000 in
theorem rx_run_826 : rx_fin (rx_run 33 100000 (nat_lit 0) (nat_lit 826) rx_l0 [] rx_sr1 rx_h0 (nat_lit 148) (nat_lit 26053)) = true := by decide +kernel
set_option maxRecDepth 100000 in
theorem rx_run_872 : rx_fin (rx_run 33 100000 (nat_lit 0) (nat_lit 872) rx_l0 [] rx_sr1 rx_h0 (nat_lit 148) (nat_lit 26053)) = true := by decide +kernel
set_option maxRecDepth 100000 in
theorem rx_run_905 : rx_fin (rx_run 33 100000 (nat_lit 0) (nat_lit 905) rx_l0 [] rx_sr1 rx_h0 (nat_lit 148) (nat_lit 26053)) = true := by decide +kernel
set_option maxRecDepth 100000 in
theorem rx_run_938 : rx_fin (rx_run 33 100000 (nat_lit 0) (nat_lit 938) rx_l0 [] rx_sr1 rx_h0 (nat_lit 148) (nat_lit 26053)) = true := by decide +kernel
set_option maxRecDepth 100000 in
theorem rx_run_961 : rx_fin (rx_run 33 100000 (nat_lit 0) (nat_lit 961) rx_l0 [] rx_sr1 rx_h0 (nat_lit 148) (nat_lit 26053)) = true := by decide +kernel
set_option maxRecDepth 100000 in
theorem rx_run_994 : rx_fin (rx_run 33 100000 (nat_lit 0) (nat_lit 994) rx_l0 [] rx_sr1 rx_h0 (nat_lit 148) (nat_lit 26053)) = true := by decide +kernel
set_option maxRecDepth 100000 in
theorem rx_run_1027 : rx_fin (rx_run 33 100000 (nat_lit 0) (nat_lit 1027) rx_l0 [] rx_sr1 rx_h0 (nat_lit 148) (nat_lit 26053)) = true := by decide +kernel
set_option maxRecDepth 100000 in
theorem rx_run_1040 : rx_fin (rx_run 33 100000 (nat_lit 0) (nat_lit 1040) rx_l0 [] rx_sr1 rx_h0 (nat_lit 148) (nat_lit 26053)) = true := by decide +kernel
set_option maxRecDepth 100000 in
theorem rx_run_1063 : rx_fin (rx_run 33 100000 (nat_lit 0) (nat_lit 1063) rx_l0 [] rx_sr1 rx_h0 (nat_lit 148) (nat_lit 26053)) = true := by decide +kernel
set_option maxRecDepth 100000 in
theorem rx_run_1076 : rx_fin (rx_run 33 100000 (nat_lit 0) (nat_lit 1076) rx_l0 [] rx_sr1 rx_h0 (nat_lit 148) (nat_lit 26053)) = true := by decide +kernel
set_option maxRecDepth 100000 in
theorem rx_run_1109 : rx_fin (rx_run 33 100000 (nat_lit 0) (nat_lit 1109) rx_l0 [] rx_sr1 rx_h0 (nat_lit 148) (nat_lit 26053)) = true := by decide +kernel
set_option maxRecDepth 100000 in
theorem rx_run_1142 : rx_fin (rx_run 33 100000 (nat_lit 0) (nat_lit 1142) rx_l0 [] rx_sr1 rx_h0 (nat_lit 148) (nat_lit 26053)) = true := by decide +kernel
set_option maxRecDepth 100000 in
theorem rx_run_1175 : rx_fin (rx_run 33 100000 (nat_lit 0) (nat_lit 1175) rx_l0 [] rx_sr1 rx_h0 (nat_lit 148) (nat_lit 26053)) = true := by decide +kernel
set_option maxRecDepth 100000 in
theorem rx_run_1218 : rx_fin (rx_run 33 100000 (nat_lit 0) (nat_lit 1218) rx_l0 [] rx_sr1 rx_h0 (nat_lit 148) (nat_lit 26053)) = true := by decide +kernel
set_option maxRecDepth 100000 in
theorem rx_run_1251 : rx_fin (rx_run 33 100000 (nat_lit 0) (nat_lit 1251) rx_l0 [] rx_sr1 rx_h0 (nat_lit 148) (nat_lit 26053)) = true := by decide +kernel
set_option maxRecDepth 100000 in
theorem rx_run_1284 : rx_fin (rx_run 33 100000 (nat_lit 0) (nat_lit 1284) rx_l0 [] rx_sr1 rx_h0 (nat_lit 148) (nat_lit 26053)) = true := by decide +kernel
set_option maxRecDepth 100000 in
theorem rx_run_1307 : rx_fin (rx_run 33 100000 (nat_lit 0) (nat_lit 1307) rx_l0 [] rx_sr1 rx_h0 (nat_lit 148) (nat_lit 26053)) = true := by decide +kernel
set_option maxRecDepth 100000 in
theorem rx_run_1340 : rx_fin (rx_run 33 100000 (nat_lit 0) (nat_lit 1340) rx_l0 [] rx_sr1 rx_h0 (nat_lit 148) (nat_lit 26053)) = true := by decide +kernel
set_option maxRecDepth 100000 in
theorem rx_run_1353 : rx_fin (rx_run 33 100000 (nat_lit 0) (nat_lit 1353) rx_l0 [] rx_sr1 rx_h0 (nat_lit 148) (nat_lit 26053)) = true := by decide +kernel
set_option maxRecDepth 100000 in
theorem rx_run_1376 : rx_fin (rx_run 33 100000 (nat_lit 0) (nat_lit 1376) rx_l0 [] rx_sr1 rx_h0 (nat_lit 148) (nat_lit 26053)) = true := by decide +kernel
set_option maxRecDepth 100000 in
theorem rx_run_1409 : rx_fin (rx_run 33 100000 (nat_lit 0) (nat_lit 1409) rx_l0 [] rx_sr1 rx_h0 (nat_lit 148) (nat_lit 26053)) = true := by decide +kernel
set_option maxRecDepth 100000 in
theorem rx_run_1432 : rx_fin (rx_run 33 100000 (nat_lit 0) (nat_lit 1432) rx_l0 [] rx_sr1 rx_h0 (nat_lit 148) (nat_lit 26053)) = true := by decide +kernel
set_option maxRecDepth 100000 in
theorem rx_run_1465 : rx_fin (rx_run 33 100000 (nat_lit 0) (nat_lit 1465) rx_l0 [] rx_sr1 rx_h0 (nat_lit 148) (nat_lit 26053)) = true := by decide +kernel
set_option maxRecDepth 100000 in
theorem rx_run_1488 : rx_fin (rx_run 33 100000 (nat_lit 0) (nat_lit 1488) rx_l0 [] rx_sr1 rx_h0 (nat_lit 148) (nat_lit 26053)) = true := by decide +kernel
set_option maxRecDepth 100000 in
theorem rx_run_1511 : rx_fin (rx_run 33 100000 (nat_lit 0) (nat_lit 1511) rx_l0 [] rx_sr1 rx_h0 (nat_lit 148) (nat_lit 26053)) = true := by decide +kernel
end
section
set_option maxRecDepth 100000 in
theorem rx_run_1544 : rx_fin (rx_run 33 100000 (nat_lit 0) (nat_lit 1544) rx_l0 [] rx_sr1 rx_h0 (nat_lit 148) (nat_lit 26053)) = true := by decide +kernel
set_option maxRecDepth 100000 in
theorem rx_run_1676 : rx_fin (rx_run 33 100000 (nat_lit 0) (nat_lit 1676) rx_l0 [] rx_sr1 rx_h0 (nat_lit 148) (nat_lit 26053)) = true := by decide +kernel
set_option maxRecDepth 100000 in
theorem rx_run_1709 : rx_fin (rx_run 33 100000 (nat_lit 0) (nat_lit 1709) rx_l0 [] rx_sr1 rx_h0 (nat_lit 148) (nat_lit 26053)) = true := by decide +kernel
end
section
set_option maxRecDepth 100000 in
theorem rx_run_1752 : rx_fin (rx_run 33 100000 (nat_lit 0) (nat_lit 1752) rx_l0 [] rx_sr1 rx_h0 (nat_lit 148) (nat_lit 26053)) = true := by decide +kernel
end
section
set_option maxRecDepth 100000 in
theorem rx_run_1851 : rx_fin (rx_run 33 100000 (nat_lit 0) (nat_lit 1851) rx_l0 [] rx_sr1 rx_h0 (nat_lit 148) (nat_lit 26053)) = true := by decide +kernel
set_option maxRecDepth 100000 in
theorem rx_run_1874 : rx_fin (rx_run 33 100000 (nat_lit 0) (nat_lit 1874) rx_l0 [] rx_sr1 rx_h0 (nat_lit 148) (nat_lit 26053)) = true := by decide +kernel
set_option maxRecDepth 100000 in
theorem rx_run_1897 : rx_fin (rx_run 33 100000 (nat_lit 0) (nat_lit 1897) rx_l0 [] rx_sr1 rx_h0 (nat_lit 148) (nat_lit 26053)) = true := by decide +kernel
end
section
set_option maxRecDepth 100000 in
theorem rx_run_849 : rx_fin (rx_run 33 100000 (nat_lit 0) (nat_lit 849) rx_l0 [] rx_sr1 rx_h0 (nat_lit 148) (nat_lit 26053)) = true := by decide +kernel
end
section
set_option maxRecDepth 100000 in
theorem rx_run_1567 : rx_fin (rx_run 33 100000 (nat_lit 0) (nat_lit 1567) rx_l0 [] rx_sr1 rx_h0 (nat_lit 148) (nat_lit 26053)) = true := by decide +kernel
end
section
set_option maxRecDepth 100000 in
theorem rx_run_1600 : rx_fin (rx_run 33 100000 (nat_lit 0) (nat_lit 1600) rx_l0 [] rx_sr1 rx_h0 (nat_lit 148) (nat_lit 26053)) = true := by decide +kernel
end
section
def rx_sr1_0 : rx_S := [(rx_lo, rx_hi), (rx_lo, .negSucc (nat_lit 0)), (rx_lo, rx_hi), (rx_lo, rx_hi), (rx_lo, rx_hi), (rx_lo, rx_hi), (.ofNat (nat_lit 6), .ofNat (nat_lit 6))]
set_option maxRecDepth 100000 in
theorem rx_run_1633_0 : rx_fin (rx_run 33 100000 (nat_lit 0) (nat_lit 1633) rx_l0 [] rx_sr1_0 rx_h0 (nat_lit 148) (nat_lit 26053)) = true := by decide +kernel
end
section
def rx_sr1_1 : rx_S := [(rx_lo, rx_hi), (.ofNat (nat_lit 0), .ofNat (nat_lit 0)), (rx_lo, rx_hi), (rx_lo, rx_hi), (rx_lo, rx_hi), (rx_lo, rx_hi), (.ofNat (nat_lit 6), .ofNat (nat_lit 6))]
set_option maxRecDepth 100000 in
theorem rx_run_1633_1 : rx_fin (rx_run 33 100000 (nat_lit 0) (nat_lit 1633) rx_l0 [] rx_sr1_1 rx_h0 (nat_lit 148) (nat_lit 26053)) = true := by decide +kernel
end
section
def rx_sr1_2 : rx_S := [(rx_lo, rx_hi), (.ofNat (nat_lit 1), .ofNat (nat_lit 1)), (rx_lo, rx_hi), (rx_lo, rx_hi), (rx_lo, rx_hi), (rx_lo, rx_hi), (.ofNat (nat_lit 6), .ofNat (nat_lit 6))]
set_option maxRecDepth 100000 in
theorem rx_run_1633_2 : rx_fin (rx_run 33 100000 (nat_lit 0) (nat_lit 1633) rx_l0 [] rx_sr1_2 rx_h0 (nat_lit 148) (nat_lit 26053)) = true := by decide +kernel
end
section
def rx_sr1_3 : rx_S := [(rx_lo, rx_hi), (.ofNat (nat_lit 2), .ofNat (nat_lit 2)), (rx_lo, rx_hi), (rx_lo, rx_hi), (rx_lo, rx_hi), (rx_lo, rx_hi), (.ofNat (nat_lit 6), .ofNat (nat_lit 6))]
set_option maxRecDepth 100000 in
theorem rx_run_1633_3 : rx_fin (rx_run 33 100000 (nat_lit 0) (nat_lit 1633) rx_l0 [] rx_sr1_3 rx_h0 (nat_lit 148) (nat_lit 26053)) = true := by decide +kernel
end
section
def rx_sr1_4 : rx_S := [(rx_lo, rx_hi), (.ofNat (nat_lit 3), .ofNat (nat_lit 3)), (rx_lo, rx_hi), (rx_lo, rx_hi), (rx_lo, rx_hi), (rx_lo, rx_hi), (.ofNat (nat_lit 6), .ofNat (nat_lit 6))]
set_option maxRecDepth 100000 in
theorem rx_run_1633_4 : rx_fin (rx_run 33 100000 (nat_lit 0) (nat_lit 1633) rx_l0 [] rx_sr1_4 rx_h0 (nat_lit 148) (nat_lit 26053)) = true := by decide +kernel
end
section
def rx_sr1_5 : rx_S := [(rx_lo, rx_hi), (.ofNat (nat_lit 4), .ofNat (nat_lit 4)), (rx_lo, rx_hi), (rx_lo, rx_hi), (rx_lo, rx_hi), (rx_lo, rx_hi), (.ofNat (nat_lit 6), .ofNat (nat_lit 6))]
set_option maxRecDepth 100000 in
theorem rx_run_1633_5 : rx_fin (rx_run 33 100000 (nat_lit 0) (nat_lit 1633) rx_l0 [] rx_sr1_5 rx_h0 (nat_lit 148) (nat_lit 26053)) = true := by decide +kernel
end
section
def rx_sr1_6 : rx_S := [(rx_lo, rx_hi), (.ofNat (nat_lit 5), .ofNat (nat_lit 5)), (rx_lo, rx_hi), (rx_lo, rx_hi), (rx_lo, rx_hi), (rx_lo, rx_hi), (.ofNat (nat_lit 6), .ofNat (nat_lit 6))]
set_option maxRecDepth 100000 in
theorem rx_run_1633_6 : rx_fin (rx_run 33 100000 (nat_lit 0) (nat_lit 1633) rx_l0 [] rx_sr1_6 rx_h0 (nat_lit 148) (nat_lit 26053)) = true := by decide +kernel
end
section
def rx_sr1_7 : rx_S := [(rx_lo, rx_hi), (.ofNat (nat_lit 6), rx_hi), (rx_lo, rx_hi), (rx_lo, rx_hi), (rx_lo, rx_hi), (rx_lo, rx_hi), (.ofNat (nat_lit 6), .ofNat (nat_lit 6))]
set_option maxRecDepth 100000 in
theorem rx_run_1633_7 : rx_fin (rx_run 33 100000 (nat_lit 0) (nat_lit 1633) rx_l0 [] rx_sr1_7 rx_h0 (nat_lit 148) (nat_lit 26053)) = true := by decide +kernel
end
section
set_option maxRecDepth 100000 in
theorem rx_run_1785 : rx_fin (rx_run 33 100000 (nat_lit 0) (nat_lit 1785) rx_l0 [] rx_sr1 rx_h0 (nat_lit 148) (nat_lit 26053)) = true := by decide +kernel
end
section
set_option maxRecDepth 100000 in
theorem rx_run_1818 : rx_fin (rx_run 33 100000 (nat_lit 0) (nat_lit 1818) rx_l0 [] rx_sr1 rx_h0 (nat_lit 148) (nat_lit 26053)) = true := by decide +kernel
end
section
set_option maxRecDepth 100000 in
theorem rx_run_1920 : rx_fin (rx_run 33 100000 (nat_lit 0) (nat_lit 1920) rx_l0 [] rx_sr1 rx_h0 (nat_lit 148) (nat_lit 26053)) = true := by decide +kernel
end
section
/-! what the known things say of the machine's -/
theorem rx_at_eq {α : Type} (l : List α) : ∀ k : Nat, rx_at l k = l[k]? := by
  induction l with
  | nil => intro k; rfl
  | cons a t ih =>
    intro k
    cases k with
    | zero => rfl
    | succ n =>
      show rx_at t n = _
      rw [ih n, List.getElem?_cons_succ]
theorem rx_set_eq {α : Type} (v : α) (l : List α) : ∀ k : Nat, rx_set v l k = l.set k v := by
  induction l with
  | nil => intro k; rfl
  | cons a t ih =>
    intro k
    cases k with
    | zero => rfl
    | succ n =>
      show a :: rx_set v t n = _
      rw [ih n, List.set_cons_succ]
theorem rx_beq {a b : Nat} (h : Nat.beq a b = true) : a = b := Nat.eq_of_beq_eq_true h
theorem rx_bne {a b : Nat} (h : Nat.beq a b = false) : a ≠ b := Nat.ne_of_beq_eq_false h
theorem rx_ble {a b : Nat} (h : Nat.ble a b = true) : a ≤ b := Nat.le_of_ble_eq_true h
theorem rx_blt {a b : Nat} (h : Nat.blt a b = true) : a < b := Nat.le_of_ble_eq_true h
theorem rx_bge {a b : Nat} (h : Nat.blt a b = false) : b ≤ a := by
  rcases Nat.lt_or_ge a b with q | q
  · have : Nat.blt a b = true := Nat.ble_eq_true_of_le q
    rw [h] at this
    cases this
  · exact q
theorem rx_blt_t {a b : Nat} (h : a < b) : Nat.blt a b = true := Nat.ble_eq_true_of_le h
theorem rx_blt_f {a b : Nat} (h : b ≤ a) : Nat.blt a b = false := by
  cases q : Nat.blt a b
  · rfl
  · exact absurd (rx_blt q) (Nat.not_lt.mpr h)
theorem rx_key_cons {α : Type} (q : Nat × α) (t : List (Nat × α)) (k : Nat) : rx_key (q :: t) k = cond (Nat.beq q.1 k) (some q.2) (rx_key t k) := rfl
theorem rx_key_mem {α : Type} {l : List (Nat × α)} {k : Nat} {v : α} (h : rx_key l k = some v) : (k, v) ∈ l := by
  induction l with
  | nil => cases h
  | cons q t ih =>
    rw [rx_key_cons] at h
    cases hb : Nat.beq q.1 k with
    | true =>
      rw [hb] at h
      have e := rx_beq hb
      cases h
      rw [← e]
      exact List.mem_cons_self
    | false =>
      rw [hb] at h
      exact List.mem_cons_of_mem _ (ih h)
theorem rx_le_iff (a b : Int) : rx_le a b = true ↔ a ≤ b := by
  cases a <;> cases b <;> simp only [rx_le, Nat.ble_eq, Int.ofNat_eq_natCast, Bool.false_eq_true, false_iff, true_iff] <;> omega
theorem rx_le_t {a b : Int} (h : rx_le a b = true) : a ≤ b := (rx_le_iff a b).mp h
theorem rx_le_f {a b : Int} (h : rx_le a b = false) : b < a := by
  by_cases q : a ≤ b
  · rw [(rx_le_iff a b).mpr q] at h
    cases h
  · omega
theorem rx_and {a b : Bool} (h : (a && b) = true) : a = true ∧ b = true := by simpa using h
theorem rx_cnd {α : Type} {c : Bool} {x : Option α} {y : α} (h : cond c x none = some y) : c = true ∧ x = some y := by
  cases c
  · cases h
  · exact ⟨rfl, h⟩
/-! the tree of cells -/
def rx_tr (n : Nat) {T : Type} (g : T → Nat → Option rx_C) (f : T → Nat → rx_C → T) : Prop := ∀ (h : T) (k j : Nat) (c : rx_C), k < n → j < n → g (f h k c) j = if j = k then some c else g h j
theorem rx_tr_0 : rx_tr 1 rx_g0 rx_s0 := by
  intro h k j c hk hj
  have : j = k := by omega
  rw [if_pos this]
  rfl
theorem rx_tr_l {n : Nat} {T : Type} {g : T → Nat → Option rx_C} {f : T → Nat → rx_C → T} (ok : rx_tr n g f) : rx_tr (n + n) (rx_gl g n) (rx_sl f n) := by
  intro h k j c hk hj
  unfold rx_gl rx_sl
  by_cases a : k < n
  · rw [rx_blt_t a]
    by_cases d : j < n
    · rw [rx_blt_t d]
      exact ok h.1 k j c a d
    · rw [rx_blt_f (Nat.not_lt.mp d), if_neg (by omega)]
      rfl
  · rw [rx_blt_f (Nat.not_lt.mp a)]
    by_cases d : j < n
    · rw [rx_blt_t d, if_neg (by omega)]
      rfl
    · rw [rx_blt_f (Nat.not_lt.mp d)]
      show g (f h.2 (k - n) c) (j - n) = _
      rw [ok h.2 (k - n) (j - n) c (by omega) (by omega)]
      by_cases e : j = k
      · rw [if_pos e, if_pos (by omega)]
      · rw [if_neg e, if_neg (by omega)]
        rfl
theorem rx_tr_8 : rx_tr 256 rx_g8 rx_s8 := rx_tr_l (rx_tr_l (rx_tr_l (rx_tr_l (rx_tr_l (rx_tr_l (rx_tr_l (rx_tr_l rx_tr_0)))))))
theorem rx_hget_set {rh : rx_H} {k : Nat} (c : rx_C) (hk : k < 256) (j : Nat) : rx_hget (rx_hset rh k c) j = if j = k then some c else rx_hget rh j := by
  unfold rx_hget rx_hset
  by_cases d : j < 256
  · rw [rx_blt_t d]
    exact rx_tr_8 rh.1 k j c hk d
  · rw [rx_blt_f (Nat.not_lt.mp d), if_neg (by omega)]
    rfl
theorem rx_hget_push {rh : rx_H} (c : rx_C) (hk : rh.2 < 256) (j : Nat) : rx_hget (rx_hpush rh c) j = if j = rh.2 then some c else rx_hget rh j := rx_hget_set (rh := rh) c hk j
/-! numbers -/
def rx_gI (ρ : Nat → Int) (r : rx_I) (x : Int32) : Prop := match r with
  | .inl n => x.toInt = n
  | .inr (.inl q) => x.toInt = ρ q.1 + q.2
  | .inr (.inr q) => q.1 ≤ x.toInt ∧ x.toInt ≤ q.2
def rx_gR (ρ : Nat → Int) (sr : rx_S) : Prop := ∀ (k : Nat) (w : Int × Int), sr[k]? = some w → w.1 ≤ ρ k ∧ ρ k ≤ w.2
theorem rx_bds (x : Int32) : rx_lo ≤ x.toInt ∧ x.toInt ≤ rx_hi := by
  have h1 := x.le_toInt
  have h2 := x.toInt_lt
  have e1 : rx_lo = -2147483648 := rfl
  have e2 : rx_hi = 2147483647 := rfl
  omega
theorem rx_top_ok (ρ : Nat → Int) (x : Int32) : rx_gI ρ rx_top x := rx_bds x
theorem rx_ofI {x : Int32} {n : Int} (h : x.toInt = n) : x = Int32.ofInt n := by rw [← h, Int32.ofInt_toInt]
theorem rx_rg_ok {ρ : Nat → Int} {sr : rx_S} {r : rx_I} {x : Int32} {w : Int × Int} (hR : rx_gR ρ sr) (hI : rx_gI ρ r x) (h : rx_rg sr r = some w) : w.1 ≤ x.toInt ∧ x.toInt ≤ w.2 := by
  rcases r with n | q | q
  · cases h
    have e : x.toInt = n := hI
    exact ⟨Int.le_of_eq e.symm, Int.le_of_eq e⟩
  · unfold rx_rg at h
    dsimp only at h
    cases hq : rx_at sr q.1 with
    | none => rw [hq] at h; cases h
    | some u =>
      rw [hq] at h
      cases h
      rw [rx_at_eq] at hq
      obtain ⟨h1, h2⟩ := hR _ _ hq
      have e : x.toInt = ρ q.1 + q.2 := hI
      show u.1 + q.2 ≤ _ ∧ _ ≤ u.2 + q.2
      omega
  · cases h
    exact hI
theorem rx_norm_ok {ρ : Nat → Int} {sr : rx_S} {r : rx_I} {x : Int32} (hR : rx_gR ρ sr) (hI : rx_gI ρ r x) : rx_gI ρ (rx_norm sr r) x := by
  rcases r with n | q | q
  · exact hI
  · unfold rx_norm
    dsimp only
    cases hq : rx_at sr q.1 with
    | none => exact hI
    | some u =>
      dsimp only
      cases hc : rx_le u.2 u.1 with
      | false => exact hI
      | true =>
        rw [rx_at_eq] at hq
        obtain ⟨h1, h2⟩ := hR _ _ hq
        have e : x.toInt = ρ q.1 + q.2 := hI
        have := rx_le_t hc
        show x.toInt = u.1 + q.2
        omega
  · unfold rx_norm
    dsimp only
    cases hc : rx_le q.2 q.1 with
    | false => exact hI
    | true =>
      have h2 : q.1 ≤ x.toInt ∧ x.toInt ≤ q.2 := hI
      have := rx_le_t hc
      show x.toInt = q.1
      omega
theorem rx_fit_ok {ρ : Nat → Int} {sr : rx_S} {r : rx_I} {x : Int32} {d : Int} (hR : rx_gR ρ sr) (hI : rx_gI ρ r x) (h : rx_fit sr r d = true) : -2147483648 ≤ x.toInt + d ∧ x.toInt + d ≤ 2147483647 := by
  unfold rx_fit at h
  cases hw : rx_rg sr r with
  | none => rw [hw] at h; cases h
  | some w =>
    rw [hw] at h
    obtain ⟨a, b⟩ := rx_and h
    have a := rx_le_t a
    have b := rx_le_t b
    obtain ⟨c1, c2⟩ := rx_rg_ok hR hI hw
    have e1 : rx_lo = -2147483648 := rfl
    have e2 : rx_hi = 2147483647 := rfl
    omega
theorem rx_addT {x y : Int32} (h1 : -2147483648 ≤ x.toInt + y.toInt) (h2 : x.toInt + y.toInt ≤ 2147483647) : (x + y).toInt = x.toInt + y.toInt := by
  rw [Int32.toInt_add]
  exact Int.bmod_eq_of_le_mul_two (by omega) (by omega)
theorem rx_subT {x y : Int32} (h1 : -2147483648 ≤ x.toInt - y.toInt) (h2 : x.toInt - y.toInt ≤ 2147483647) : (x - y).toInt = x.toInt - y.toInt := by
  rw [Int32.toInt_sub]
  exact Int.bmod_eq_of_le_mul_two (by omega) (by omega)
theorem rx_sum2_ok {ρ : Nat → Int} {x y : Int32} {n d : Int} (hx : x.toInt = n) (hy : y.toInt = d) : rx_gI ρ (rx_sum2 n d) (x + y) := by
  have slow : rx_gI ρ (.inl (Int32.ofInt n + Int32.ofInt d).toInt) (x + y) := by
    show (x + y).toInt = _
    rw [← rx_ofI hx, ← rx_ofI hy]
  unfold rx_sum2
  split
  · rename_i a b
    cases hc : Nat.ble (Nat.add a b) 2147483647 with
    | false => exact slow
    | true =>
      have := rx_ble hc
      have e : Nat.add a b = a + b := rfl
      have e1 : x.toInt = (a : Int) := hx
      have e2 : y.toInt = (b : Int) := hy
      show (x + y).toInt = ((Nat.add a b : Nat) : Int)
      rw [rx_addT (by omega) (by omega), e]
      omega
  · exact slow
theorem rx_addc_ok {ρ : Nat → Int} {sr : rx_S} {r : rx_I} {x y : Int32} {d : Int} (hR : rx_gR ρ sr) (hI : rx_gI ρ r x) (hy : y.toInt = d) : rx_gI ρ (rx_addc sr r d) (x + y) := by
  rcases r with n | q | q
  · exact rx_sum2_ok hI hy
  · show rx_gI ρ (cond (rx_fit sr (.inr (.inl q)) d) _ _) _
    cases hf : rx_fit sr (.inr (.inl q)) d with
    | false => exact rx_top_ok ρ _
    | true =>
      obtain ⟨h1, h2⟩ := rx_fit_ok hR hI hf
      have e : x.toInt = ρ q.1 + q.2 := hI
      show (x + y).toInt = ρ q.1 + (q.2 + d)
      rw [rx_addT (by omega) (by omega)]
      omega
  · exact rx_top_ok ρ _
theorem rx_add_ok {ρ : Nat → Int} {sr : rx_S} {r t : rx_I} {x y : Int32} (hR : rx_gR ρ sr) (hI : rx_gI ρ r x) (hJ : rx_gI ρ t y) : rx_gI ρ (rx_add sr r t) (x + y) := by
  rcases t with d | t
  · exact rx_addc_ok hR hI hJ
  · rcases r with d | r
    · show rx_gI ρ (rx_addc sr (.inr t) d) (x + y)
      rw [Int32.add_comm]
      exact rx_addc_ok hR hJ hI
    · exact rx_top_ok ρ _
theorem rx_sub_ok {ρ : Nat → Int} {sr : rx_S} {r t : rx_I} {x y : Int32} (hR : rx_gR ρ sr) (hI : rx_gI ρ r x) (hJ : rx_gI ρ t y) : rx_gI ρ (rx_sub sr r t) (x - y) := by
  rcases t with d | t
  · have hd : y.toInt = d := hJ
    rcases r with n | q | q
    · show (x - y).toInt = _
      have hn : x.toInt = n := hI
      rw [← rx_ofI hn, ← rx_ofI hd]
    · show rx_gI ρ (cond (rx_fit sr (.inr (.inl q)) (-d)) _ _) _
      cases hf : rx_fit sr (.inr (.inl q)) (-d) with
      | false => exact rx_top_ok ρ _
      | true =>
        obtain ⟨h1, h2⟩ := rx_fit_ok hR hI hf
        have e : x.toInt = ρ q.1 + q.2 := hI
        show (x - y).toInt = ρ q.1 + (q.2 - d)
        rw [rx_subT (by omega) (by omega)]
        omega
    · exact rx_top_ok ρ _
  · exact rx_top_ok ρ _
theorem rx_few_ok {ρ : Nat → Int} {sr : rx_S} {r : rx_I} {q : Nat × Int × Nat} (hR : rx_gR ρ sr) (h : rx_few sr r = some q) : ∃ i : Nat, i < q.2.2 ∧ ρ q.1 = q.2.1 + Int.ofNat i := by
  rcases r with n | u | u
  · cases h
  · unfold rx_few at h
    dsimp only at h
    cases hq : rx_at sr u.1 with
    | none => rw [hq] at h; cases h
    | some w =>
      rw [hq] at h
      obtain ⟨-, h⟩ := rx_cnd h
      cases h
      rw [rx_at_eq] at hq
      obtain ⟨h1, h2⟩ := hR _ _ hq
      refine ⟨(ρ u.1 - w.1).toNat, ?_, ?_⟩
      · show (ρ u.1 - w.1).toNat < (w.2 - w.1).toNat + 1
        omega
      · show ρ u.1 = w.1 + (((ρ u.1 - w.1).toNat : Nat) : Int)
        omega
  · cases h
theorem rx_gR_set {ρ : Nat → Int} {sr : rx_S} {k : Nat} {w : Int × Int} (hR : rx_gR ρ sr) (hw : w.1 ≤ ρ k ∧ ρ k ≤ w.2) : rx_gR ρ (rx_set w sr k) := by
  intro j u hj
  rw [rx_set_eq] at hj
  by_cases e : j = k
  · subst e
    have hl : j < sr.length := by
      have := (List.getElem?_eq_some_iff.mp hj).1
      rwa [List.length_set] at this
    rw [List.getElem?_set_self hl] at hj
    cases hj
    exact hw
  · rw [List.getElem?_set_ne (Ne.symm e)] at hj
    exact hR j u hj
theorem rx_alu_ok {ρ : Nat → Int} {sr : rx_S} {f : Int32 → Int32 → Int32} {sp r t v : rx_I} {x y : Int32} (hR : rx_gR ρ sr) (hI : rx_gI ρ r x) (hJ : rx_gI ρ t y) (hs : rx_gI ρ sp (f x y)) (h : rx_alu f sp sr r t = .inl v) : rx_gI ρ v (f x y) := by
  have h1 := rx_norm_ok hR hI
  have h2 := rx_norm_ok hR hJ
  unfold rx_alu at h
  split at h
  · rename_i n en
    rw [en] at h1
    split at h
    · rename_i k ek
      rw [ek] at h2
      cases h
      show (f x y).toInt = _
      have e1 : x.toInt = n := h1
      have e2 : y.toInt = k := h2
      rw [← rx_ofI e1, ← rx_ofI e2]
    · split at h
      · cases h
      · cases h; exact hs
  · split at h
    · cases h
    · split at h
      · cases h; exact hs
      · split at h
        · cases h
        · cases h; exact hs
theorem rx_alu_sp {ρ : Nat → Int} {sr : rx_S} {f : Int32 → Int32 → Int32} {sp r t : rx_I} {q : Nat × Int × Nat} (hR : rx_gR ρ sr) (h : rx_alu f sp sr r t = .inr q) : ∃ i : Nat, i < q.2.2 ∧ ρ q.1 = q.2.1 + Int.ofNat i := by
  unfold rx_alu at h
  split at h
  · split at h
    · cases h
    · split at h
      · rename_i u eu
        cases h
        exact rx_few_ok hR eu
      · cases h
  · split at h
    · rename_i u eu
      cases h
      exact rx_few_ok hR eu
    · split at h
      · cases h
      · split at h
        · rename_i u eu
          cases h
          exact rx_few_ok hR eu
        · cases h
theorem rx_up_ok {ρ : Nat → Int} {sr : rx_S} {r : rx_I} {x : Int32} {h : Int} (hR : rx_gR ρ sr) (hI : rx_gI ρ r x) (hx : x.toInt ≤ h) : rx_gR ρ (rx_up sr r h) := by
  rcases r with n | q | q
  · exact hR
  · unfold rx_up
    dsimp only
    cases hq : rx_at sr q.1 with
    | none => exact hR
    | some w =>
      dsimp only
      cases hc : rx_le w.2 (h - q.2) with
      | true => exact hR
      | false =>
        rw [rx_at_eq] at hq
        obtain ⟨h1, h2⟩ := hR _ _ hq
        have e : x.toInt = ρ q.1 + q.2 := hI
        exact rx_gR_set hR ⟨h1, by show ρ q.1 ≤ h - q.2; omega⟩
  · exact hR
theorem rx_dn_ok {ρ : Nat → Int} {sr : rx_S} {r : rx_I} {x : Int32} {h : Int} (hR : rx_gR ρ sr) (hI : rx_gI ρ r x) (hx : h ≤ x.toInt) : rx_gR ρ (rx_dn sr r h) := by
  rcases r with n | q | q
  · exact hR
  · unfold rx_dn
    dsimp only
    cases hq : rx_at sr q.1 with
    | none => exact hR
    | some w =>
      dsimp only
      cases hc : rx_le (h - q.2) w.1 with
      | true => exact hR
      | false =>
        rw [rx_at_eq] at hq
        obtain ⟨h1, h2⟩ := hR _ _ hq
        have e : x.toInt = ρ q.1 + q.2 := hI
        exact rx_gR_set hR ⟨by show h - q.2 ≤ ρ q.1; omega, h2⟩
  · exact hR
/-- the relation that a number stands for -/
def rx_is (k : Nat) (x y : Int) : Prop := match k with
  | 0 => x < y
  | 1 => x ≤ y
  | 2 => y < x
  | 3 => y ≤ x
  | _ => x = y
theorem rx_rel0_ok {ρ : Nat → Int} {sr : rx_S} {r t : rx_I} {x y : Int32} {u w : Int × Int} {k : Nat} (hR : rx_gR ρ sr) (hI : rx_gI ρ r x) (hJ : rx_gI ρ t y) (hu : u.1 ≤ x.toInt ∧ x.toInt ≤ u.2) (hw : w.1 ≤ y.toInt ∧ y.toInt ≤ w.2) (hk : rx_is k x.toInt y.toInt) : ∃ z, rx_rel0 k sr r t u w = some z ∧ rx_gR ρ z := by
  obtain ⟨u1, u2⟩ := hu
  obtain ⟨w1, w2⟩ := hw
  match k, hk with
  | 0, hk =>
    have hk : x.toInt < y.toInt := hk
    unfold rx_rel0
    cases hc : rx_le w.2 u.1 with
    | true => have := rx_le_t hc; omega
    | false => exact ⟨_, rfl, rx_up_ok (rx_dn_ok hR hJ (by omega)) hI (by omega)⟩
  | 1, hk =>
    have hk : x.toInt ≤ y.toInt := hk
    unfold rx_rel0
    cases hc : rx_le u.1 w.2 with
    | false => have := rx_le_f hc; omega
    | true => exact ⟨_, rfl, rx_up_ok (rx_dn_ok hR hJ (by omega)) hI (by omega)⟩
  | 2, hk =>
    have hk : y.toInt < x.toInt := hk
    unfold rx_rel0
    cases hc : rx_le u.2 w.1 with
    | true => have := rx_le_t hc; omega
    | false => exact ⟨_, rfl, rx_up_ok (rx_dn_ok hR hI (by omega)) hJ (by omega)⟩
  | 3, hk =>
    have hk : y.toInt ≤ x.toInt := hk
    unfold rx_rel0
    cases hc : rx_le w.1 u.2 with
    | false => have := rx_le_f hc; omega
    | true => exact ⟨_, rfl, rx_up_ok (rx_dn_ok hR hI (by omega)) hJ (by omega)⟩
  | n + 4, hk =>
    have hk : x.toInt = y.toInt := hk
    have e1 : rx_le u.1 w.2 = true := (rx_le_iff _ _).mpr (by omega)
    have e2 : rx_le w.1 u.2 = true := (rx_le_iff _ _).mpr (by omega)
    unfold rx_rel0
    rw [e1, e2]
    exact ⟨_, rfl, rx_up_ok (rx_dn_ok (rx_up_ok (rx_dn_ok hR hI (by omega)) hI (by omega)) hJ (by omega)) hJ (by omega)⟩
/-- two of one symbol: their numbers decide -/
theorem rx_rel0_c {sr : rx_S} {a b : Int} {k : Nat} (hk : rx_is k a b) : rx_rel0 k sr (rx_c a) (rx_c b) (a, a) (b, b) = some sr := by
  match k, hk with
  | 0, hk =>
    have hk : a < b := hk
    unfold rx_rel0
    cases hc : rx_le (b, b).2 (a, a).1 with
    | true => have h : b ≤ a := rx_le_t hc; omega
    | false => rfl
  | 1, hk =>
    have hk : a ≤ b := hk
    unfold rx_rel0
    cases hc : rx_le (a, a).1 (b, b).2 with
    | false => have h : b < a := rx_le_f hc; omega
    | true => rfl
  | 2, hk =>
    have hk : b < a := hk
    unfold rx_rel0
    cases hc : rx_le (a, a).2 (b, b).1 with
    | true => have h : a ≤ b := rx_le_t hc; omega
    | false => rfl
  | 3, hk =>
    have hk : b ≤ a := hk
    unfold rx_rel0
    cases hc : rx_le (b, b).1 (a, a).2 with
    | false => have h : a < b := rx_le_f hc; omega
    | true => rfl
  | n + 4, hk =>
    have hk : a = b := hk
    have e1 : rx_le (a, a).1 (b, b).2 = true := (rx_le_iff _ _).mpr (by show a ≤ b; omega)
    have e2 : rx_le (b, b).1 (a, a).2 = true := (rx_le_iff _ _).mpr (by show b ≤ a; omega)
    unfold rx_rel0
    rw [e1, e2]
    rfl
theorem rx_rel_ok {ρ : Nat → Int} {sr : rx_S} {r t : rx_I} {x y : Int32} {k : Nat} (hR : rx_gR ρ sr) (hI : rx_gI ρ r x) (hJ : rx_gI ρ t y) (hk : rx_is k x.toInt y.toInt) : ∃ z, rx_rel k sr r t = some z ∧ rx_gR ρ z := by
  unfold rx_rel
  split
  · rename_i u w eu ew
    have hu := rx_rg_ok hR hI eu
    have hw := rx_rg_ok hR hJ ew
    split
    · rename_i p q
      cases hb : Nat.beq p.1 q.1 with
      | false => exact rx_rel0_ok hR hI hJ hu hw hk
      | true =>
        have e := rx_beq hb
        have e1 : x.toInt = ρ p.1 + p.2 := hI
        have e2 : y.toInt = ρ q.1 + q.2 := hJ
        rw [e] at e1
        refine ⟨sr, rx_rel0_c ?_, hR⟩
        match k, hk with
        | 0, hk => have hk : x.toInt < y.toInt := hk; show p.2 < q.2; omega
        | 1, hk => have hk : x.toInt ≤ y.toInt := hk; show p.2 ≤ q.2; omega
        | 2, hk => have hk : y.toInt < x.toInt := hk; show q.2 < p.2; omega
        | 3, hk => have hk : y.toInt ≤ x.toInt := hk; show q.2 ≤ p.2; omega
        | n + 4, hk => have hk : x.toInt = y.toInt := hk; show p.2 = q.2; omega
    · exact rx_rel0_ok hR hI hJ hu hw hk
  · exact ⟨sr, rfl, hR⟩
/-- a condition by its number -/
def rx_cd6 (c : Nat) (x y : Int) : Prop := match c with
  | 0 => x = y
  | 1 => ¬ x = y
  | 2 => x < y
  | 3 => y ≤ x
  | 4 => y < x
  | _ => x ≤ y
theorem rx_cases_ok (c : Nat) (x y : Int) : ∃ q ∈ rx_cases c, rx_is q.1 x y ∧ (q.2 = true ↔ rx_cd6 c x y) := by
  match c with
  | 0 =>
    rcases Int.lt_trichotomy x y with h | h | h
    · exact ⟨(0, false), by simp [rx_cases], h, by simp [rx_cd6]; omega⟩
    · exact ⟨(4, true), by simp [rx_cases], h, by simp [rx_cd6]; omega⟩
    · exact ⟨(2, false), by simp [rx_cases], h, by simp [rx_cd6]; omega⟩
  | 1 =>
    rcases Int.lt_trichotomy x y with h | h | h
    · exact ⟨(0, true), by simp [rx_cases], h, by simp [rx_cd6]; omega⟩
    · exact ⟨(4, false), by simp [rx_cases], h, by simp [rx_cd6]; omega⟩
    · exact ⟨(2, true), by simp [rx_cases], h, by simp [rx_cd6]; omega⟩
  | 2 =>
    rcases (show x < y ∨ y ≤ x by omega) with h | h
    · exact ⟨(0, true), by simp [rx_cases], h, by simp [rx_cd6]; omega⟩
    · exact ⟨(3, false), by simp [rx_cases], h, by simp [rx_cd6]; omega⟩
  | 3 =>
    rcases (show x < y ∨ y ≤ x by omega) with h | h
    · exact ⟨(0, false), by simp [rx_cases], h, by simp [rx_cd6]; omega⟩
    · exact ⟨(3, true), by simp [rx_cases], h, by simp [rx_cd6]; omega⟩
  | 4 =>
    rcases (show y < x ∨ x ≤ y by omega) with h | h
    · exact ⟨(2, true), by simp [rx_cases], h, by simp [rx_cd6]; omega⟩
    · exact ⟨(1, false), by simp [rx_cases], h, by simp [rx_cd6]; omega⟩
  | n + 5 =>
    rcases (show y < x ∨ x ≤ y by omega) with h | h
    · exact ⟨(2, false), by simp [rx_cases], h, by simp [rx_cd6]; omega⟩
    · exact ⟨(1, true), by simp [rx_cases], h, by simp [rx_cd6]; omega⟩
theorem rx_ieq_iff (a b : Int) : rx_ieq a b = true ↔ a = b := by
  cases a <;> cases b <;> simp only [rx_ieq, Nat.beq_eq, Int.ofNat_eq_natCast, Bool.false_eq_true, false_iff] <;> omega
theorem rx_cmp_iff (c : Nat) (x y : Int) : rx_cmp c x y = true ↔ rx_cd6 c x y := by
  have h1 := rx_ieq_iff x y
  have h2 := rx_le_iff x y
  have h3 := rx_le_iff y x
  match c with
  | 0 => exact h1
  | 1 => show (!(rx_ieq x y)) = true ↔ ¬ x = y; rw [← h1]; simp
  | 2 => show (!(rx_le y x)) = true ↔ x < y; rw [show x < y ↔ ¬ y ≤ x by omega, ← h3]; simp
  | 3 => exact h3
  | 4 => show (!(rx_le x y)) = true ↔ y < x; rw [show y < x ↔ ¬ x ≤ y by omega, ← h2]; simp
  | n + 5 => exact h2
theorem rx_brs_ok {ρ : Nat → Int} {sr : rx_S} {r t : rx_I} {x y : Int32} {pc n tg : Nat} (hR : rx_gR ρ sr) (hI : rx_gI ρ r x) (hJ : rx_gI ρ t y) : ∀ (l : List (Nat × Bool)) (q : Nat × Bool), q ∈ l → rx_is q.1 x.toInt y.toInt → ∃ z, (cond q.2 tg (Nat.add pc n), z) ∈ rx_brs pc n tg sr r t l ∧ rx_gR ρ z := by
  intro l
  induction l with
  | nil => intro q h; cases h
  | cons a l ih =>
    intro q hq hk
    show ∃ z, _ ∈ (match rx_rel a.1 sr r t with | none => rx_brs pc n tg sr r t l | some z => (cond a.2 tg (Nat.add pc n), z) :: rx_brs pc n tg sr r t l) ∧ _
    rcases List.mem_cons.mp hq with h | h
    · subst h
      obtain ⟨z, e, hz⟩ := rx_rel_ok hR hI hJ hk
      rw [e]
      exact ⟨z, List.mem_cons_self, hz⟩
    · obtain ⟨z, h1, hz⟩ := ih q h hk
      refine ⟨z, ?_, hz⟩
      split
      · exact h1
      · exact List.mem_cons_of_mem _ h1
theorem rx_all_ok {α : Type} {f : α → Option (List rx_A)} : ∀ {l : List α} {os : List rx_A}, rx_all f l = some os → ∀ a ∈ l, ∃ r, f a = some r ∧ ∀ o ∈ r, o ∈ os := by
  intro l
  induction l with
  | nil => intro os _ a h; cases h
  | cons b t ih =>
    intro os h a ha
    cases t with
    | nil =>
      have h : f b = some os := h
      rcases List.mem_cons.mp ha with e | e
      · subst e
        exact ⟨os, h, fun o ho => ho⟩
      · cases e
    | cons b2 t2 =>
      have h : (match f b with | none => none | some r => match rx_all f (b2 :: t2) with | none => none | some r2 => some (r ++ r2)) = some os := h
      cases h1 : f b with
      | none => rw [h1] at h; cases h
      | some r =>
        rw [h1] at h
        cases h2 : rx_all f (b2 :: t2) with
        | none => rw [h2] at h; cases h
        | some r2 =>
          rw [h2] at h
          have e4 : r ++ r2 = os := Option.some.inj h
          rcases List.mem_cons.mp ha with e | e
          · rw [e]
            exact ⟨r, h1, fun o ho => e4 ▸ List.mem_append_left r2 ho⟩
          · obtain ⟨r3, e3, h3⟩ := ih h2 a e
            exact ⟨r3, e3, fun o ho => e4 ▸ List.mem_append_right r (h3 o ho)⟩
theorem rx_tgt_ok {pc t : Nat} {off : Int} (h : rx_tgt pc off = some t) : (pc : Int) + off = (t : Int) := by
  unfold rx_tgt at h
  split at h
  · rename_i u e
    cases h
    exact e
  · cases h
end
section
/-! values, cells, worlds: what the known things say of the machine's -/
def rx_gV (ρ : Nat → Int) (b : Nat) (as : List Nat) (r : rx_V) (v : Value) : Prop := match r with
  | .inl i => ∃ x : Int32, v = .int x ∧ rx_gI ρ i x
  | .inr (.inl none) => v = .null
  | .inr (.inl (some k)) => ∃ a : Nat, as[k]? = some a ∧ v = .ref a
  | .inr (.inr (.inl none)) => ∃ x : Int64, v = .long x
  | .inr (.inr (.inl (some n))) => ∃ x : Int64, v = .long x ∧ x.toInt = n
  | .inr (.inr (.inr _)) => v = .ref b
def rx_gL (ρ : Nat → Int) (b : Nat) (as : List Nat) : List rx_V → List Value → Prop
  | [], [] => True
  | r :: rs, v :: vs => rx_gV ρ b as r v ∧ rx_gL ρ b as rs vs
  | _, _ => False
def rx_gN (ρ : Nat → Int) (b : Nat) (as : List Nat) : List (Nat × rx_V) → List (Nat × Value) → Prop
  | [], [] => True
  | r :: rs, v :: vs => r.1 = v.1 ∧ rx_gV ρ b as r.2 v.2 ∧ rx_gN ρ b as rs vs
  | _, _ => False
def rx_gO (as : List Nat) (r : Option Nat) (o : Option Nat) : Prop := match r with
  | none => o = none
  | some k => ∃ a : Nat, as[k]? = some a ∧ o = some a
def rx_tys (cc : Nat → ClassId) : List (ClassId × FieldType) := [(cc 0, .int), (cc 1, .byte), (cc 2, .boolean), (cc 3, .long), (cc 4, .object "MirrorLies$Hour"), (cc 5, .array .int)]
def rx_gC (ρ : Nat → Int) (b : Nat) (cc : Nat → ClassId) (as : List Nat) (c : rx_C) (e : va_E) : Prop := match c with
  | .inl w => ∃ fs : List Value, e = .inr (w.1, fs) ∧ rx_gL ρ b as w.2 fs
  | .inr (.inl w) => ∃ f : Nat → Int32, e = .inl (cc w.1.1, w.1.2, .inl f) ∧ ∀ j, j < w.1.2 → rx_gI ρ (rx_look w.2.1 w.2.2 j) (f j)
  | .inr (.inr (.inl w)) => ∃ f : Nat → Int64, e = .inl (cc w.1, w.2, .inr (.inl f))
  | .inr (.inr (.inr w)) => ∃ f : Nat → Option Nat, e = .inl (cc w.1, w.2.length, .inr (.inr (.inr (.inr f)))) ∧ ∀ (j : Nat) (r : Option Nat), w.2[j]? = some r → rx_gO as r (f j)
def rx_gH (ρ : Nat → Int) (b : Nat) (cc : Nat → ClassId) (rh : rx_H) (ws : va_W) : Prop := ws.length = rh.2 ∧ ∀ (k : Nat) (c : rx_C), k < rh.2 → rx_hget rh k = some c → ∃ q : Nat × va_E, ws[k]? = some q ∧ rx_gC ρ b cc (ws.map Prod.fst) c q.2
def rx_ext (as as' : List Nat) : Prop := ∃ t : List Nat, as' = as ++ t
theorem rx_ext.rf (as : List Nat) : rx_ext as as := ⟨[], by simp⟩
theorem rx_ext.tr {a b c : List Nat} (h1 : rx_ext a b) (h2 : rx_ext b c) : rx_ext a c := by
  obtain ⟨t, rfl⟩ := h1
  obtain ⟨u, rfl⟩ := h2
  exact ⟨t ++ u, by rw [List.append_assoc]⟩
theorem rx_ext.at {as as' : List Nat} (h : rx_ext as as') {k a : Nat} (hk : as[k]? = some a) : as'[k]? = some a := by
  obtain ⟨t, rfl⟩ := h
  have hl := (List.getElem?_eq_some_iff.mp hk).1
  rw [List.getElem?_append_left hl]
  exact hk
theorem rx_gV.ex {ρ : Nat → Int} {b : Nat} {as as' : List Nat} (h : rx_ext as as') {r : rx_V} {v : Value} (hv : rx_gV ρ b as r v) : rx_gV ρ b as' r v := by
  rcases r with i | (_ | k) | (_ | n) | u
  · exact hv
  · exact hv
  · obtain ⟨a, h1, h2⟩ := hv
    exact ⟨a, h.at h1, h2⟩
  · exact hv
  · exact hv
  · exact hv
theorem rx_gL.ex {ρ : Nat → Int} {b : Nat} {as as' : List Nat} (h : rx_ext as as') : ∀ {rs : List rx_V} {vs : List Value}, rx_gL ρ b as rs vs → rx_gL ρ b as' rs vs
  | [], [], _ => trivial
  | _ :: _, _ :: _, hv => ⟨rx_gV.ex h hv.1, rx_gL.ex h hv.2⟩
  | [], _ :: _, hv => hv.elim
  | _ :: _, [], hv => hv.elim
theorem rx_gN.ex {ρ : Nat → Int} {b : Nat} {as as' : List Nat} (h : rx_ext as as') : ∀ {rs : List (Nat × rx_V)} {vs : List (Nat × Value)}, rx_gN ρ b as rs vs → rx_gN ρ b as' rs vs
  | [], [], _ => trivial
  | _ :: _, _ :: _, hv => ⟨hv.1, rx_gV.ex h hv.2.1, rx_gN.ex h hv.2.2⟩
  | [], _ :: _, hv => hv.elim
  | _ :: _, [], hv => hv.elim
theorem rx_gC.ex {ρ : Nat → Int} {b : Nat} {cc : Nat → ClassId} {as as' : List Nat} (h : rx_ext as as') {c : rx_C} {e : va_E} (hv : rx_gC ρ b cc as c e) : rx_gC ρ b cc as' c e := by
  rcases c with w | w | w | w
  · obtain ⟨fs, h1, h2⟩ := hv
    exact ⟨fs, h1, rx_gL.ex h h2⟩
  · exact hv
  · exact hv
  · obtain ⟨f, h1, h2⟩ := hv
    refine ⟨f, h1, fun j r hj => ?_⟩
    have h3 := h2 j r hj
    cases r with
    | none => exact h3
    | some k =>
      obtain ⟨a, h4, h5⟩ := h3
      exact ⟨a, h.at h4, h5⟩
theorem rx_gL.cons {ρ : Nat → Int} {b : Nat} {as : List Nat} {r : rx_V} {rs : List rx_V} {st : List Value} (h : rx_gL ρ b as (r :: rs) st) : ∃ (v : Value) (vs : List Value), st = v :: vs ∧ rx_gV ρ b as r v ∧ rx_gL ρ b as rs vs := by
  cases st with
  | nil => exact h.elim
  | cons v vs => exact ⟨v, vs, rfl, h.1, h.2⟩
theorem rx_gL.nil {ρ : Nat → Int} {b : Nat} {as : List Nat} {st : List Value} (h : rx_gL ρ b as [] st) : st = [] := by
  cases st with
  | nil => rfl
  | cons v vs => exact h.elim
theorem rx_gL.at {ρ : Nat → Int} {b : Nat} {as : List Nat} : ∀ {rs : List rx_V} {vs : List Value} {k : Nat} {r : rx_V}, rx_gL ρ b as rs vs → rs[k]? = some r → ∃ v, vs[k]? = some v ∧ rx_gV ρ b as r v
  | [], _, k, r, _, hk => by simp at hk
  | r0 :: rs, [], k, r, h, _ => h.elim
  | r0 :: rs, v :: vs, 0, r, h, hk => by
    rw [List.getElem?_cons_zero] at hk
    cases hk
    exact ⟨v, rfl, h.1⟩
  | r0 :: rs, v :: vs, k + 1, r, h, hk => by
    rw [List.getElem?_cons_succ] at hk
    obtain ⟨w, h1, h2⟩ := rx_gL.at h.2 hk
    exact ⟨w, by rw [List.getElem?_cons_succ]; exact h1, h2⟩
theorem rx_gL.len {ρ : Nat → Int} {b : Nat} {as : List Nat} : ∀ {rs : List rx_V} {vs : List Value}, rx_gL ρ b as rs vs → vs.length = rs.length
  | [], [], _ => rfl
  | _ :: _, _ :: _, h => by rw [List.length_cons, List.length_cons, rx_gL.len h.2]
  | [], _ :: _, h => h.elim
  | _ :: _, [], h => h.elim
theorem rx_gL.set {ρ : Nat → Int} {b : Nat} {as : List Nat} {r : rx_V} {v : Value} (hv : rx_gV ρ b as r v) : ∀ {rs : List rx_V} {vs : List Value} (k : Nat), rx_gL ρ b as rs vs → rx_gL ρ b as (rs.set k r) (vs.set k v)
  | [], [], _, _ => trivial
  | _ :: _, _ :: _, 0, h => ⟨hv, h.2⟩
  | _ :: _, _ :: _, k + 1, h => ⟨h.1, rx_gL.set hv k h.2⟩
  | [], _ :: _, _, h => h.elim
  | _ :: _, [], _, h => h.elim
theorem rx_cat_ok {ρ : Nat → Int} {b : Nat} {as : List Nat} {r : rx_V} {v : Value} (h : rx_gV ρ b as r v) : v.category = rx_cat r := by
  rcases r with i | (_ | k) | (_ | n) | u
  · obtain ⟨x, rfl, -⟩ := h; rfl
  · cases h; rfl
  · obtain ⟨a, -, rfl⟩ := h; rfl
  · obtain ⟨x, rfl⟩ := h; rfl
  · obtain ⟨x, rfl, -⟩ := h; rfl
  · cases h; rfl
theorem rx_sum_ok {ρ : Nat → Int} {b : Nat} {as : List Nat} : ∀ {rs : List rx_V} {vs : List Value}, rx_gL ρ b as rs vs → (vs.map fun v => v.category).sum = rx_sum rs
  | [], [], _ => rfl
  | r :: rs, v :: vs, h => by
    rw [List.map_cons, List.sum_cons, rx_cat_ok h.1, rx_sum_ok h.2]
    rfl
  | [], _ :: _, h => h.elim
  | _ :: _, [], h => h.elim
/-- a local's value -/
theorem rx_gN.get {ρ : Nat → Int} {b : Nat} {as : List Nat} {k : Nat} {r : rx_V} : ∀ {loc : List (Nat × rx_V)} {lv : List (Nat × Value)}, rx_gN ρ b as loc lv → rx_key loc k = some r → ∃ (i : Nat) (v : Value), lv[i]? = some (k, v) ∧ rx_gV ρ b as r v
  | [], _, _, hk => by cases hk
  | q :: loc, [], h, _ => h.elim
  | q :: loc, u :: lv, h, hk => by
    rw [rx_key_cons] at hk
    cases hb : Nat.beq q.1 k with
    | true =>
      rw [hb] at hk
      cases hk
      exact ⟨0, u.2, by rw [List.getElem?_cons_zero, ← rx_beq hb, h.1], h.2.1⟩
    | false =>
      rw [hb] at hk
      obtain ⟨i, v, h1, h2⟩ := rx_gN.get h.2.2 hk
      exact ⟨i + 1, v, by rw [List.getElem?_cons_succ]; exact h1, h2⟩
theorem rx_beqq (a b : Nat) : (a == b) = Nat.beq a b := by
  rw [Bool.eq_iff_iff]
  simp
theorem rx_drop_cons (q : Nat × rx_V) (t : rx_L) (i : Nat) : rx_drop (q :: t) i = cond (Nat.beq q.1 i || (Nat.beq (Nat.succ q.1) i && Nat.beq (rx_cat q.2) 2)) (rx_drop t i) (q :: rx_drop t i) := rfl
theorem rx_gN.drop {ρ : Nat → Int} {b : Nat} {as : List Nat} (i : Nat) : ∀ {loc : List (Nat × rx_V)} {lv : List (Nat × Value)}, rx_gN ρ b as loc lv → rx_gN ρ b as (rx_drop loc i) (lv.filter (fun q => !(q.1 == i) && !(q.1 + 1 == i && q.2.category == 2)))
  | [], [], _ => trivial
  | q :: loc, u :: lv, h => by
    have ih := rx_gN.drop i h.2.2
    have hc := rx_cat_ok h.2.1
    have he := h.1
    rw [rx_drop_cons, List.filter_cons]
    have key : (!(u.1 == i) && !(u.1 + 1 == i && u.2.category == 2)) = !(Nat.beq q.1 i || (Nat.beq (Nat.succ q.1) i && Nat.beq (rx_cat q.2) 2)) := by
      rw [hc, ← he]
      rw [rx_beqq, rx_beqq, rx_beqq]
      show (!(Nat.beq q.1 i) && !(Nat.beq (Nat.succ q.1) i && Nat.beq (rx_cat q.2) 2)) = _
      cases Nat.beq q.1 i <;> cases Nat.beq (Nat.succ q.1) i <;> cases Nat.beq (rx_cat q.2) 2 <;> rfl
    rw [key]
    cases (Nat.beq q.1 i || (Nat.beq (Nat.succ q.1) i && Nat.beq (rx_cat q.2) 2)) with
    | true => exact ih
    | false => exact ⟨h.1, h.2.1, ih⟩
  | [], _ :: _, h => h.elim
  | _ :: _, [], h => h.elim
/-! the world -/
def rx_xw (s : State) : Prop := (∀ (a : String) (i : Nat) (x : MethodName) (h : String), Jvm.Cond.methodLinkNest a i x h ∈ lw_tbl → va_Nw (.methodLinkNest a i x h) s) ∧ va_AO "MirrorLies$Hour" s ∧ va_Nw (.arrayOver (.array .int)) s
def rx_wd (D : va_G) (cc : Nat → ClassId) (A : Nat → Prop) (s : State) (H : Heap) (locs : List Loc) (ws : va_W) : Prop := va_K D rx_cls (rx_tys cc) s ∧ va_P D rx_cls ws H ∧ va_D A ws ∧ va_S A s.heap H locs ∧ (∀ q : Nat, s.heap.size ≤ q → A q) ∧ rx_xw s
def rx_st (ρ : Nat → Int) (b : Nat) (cc : Nat → ClassId) (as0 : List Nat) (nL : Nat) (loc : rx_L) (stk : List rx_V) (sr : rx_S) (rh : rx_H) (ls : Array Slot) (st : List Value) (ws : va_W) : Prop :=
  rx_gR ρ sr ∧ rx_gH ρ b cc rh ws ∧ (∃ lv : List (Nat × Value), lv_has ls nL lv ∧ rx_gN ρ b (ws.map Prod.fst) loc lv) ∧ rx_gL ρ b (ws.map Prod.fst) stk st ∧ rx_ext as0 (ws.map Prod.fst)
def rx_fr (p : Program) (R : Room) (s : State) (m : MethodId) (args : Array Value) (meth : Method) (c : Code) (mi : Nat) : Prop := CallFix p m c (rx_by mi) (rx_ml mi) s args rx_tt (rx_y mi).cls ∧ R = rx_room mi ∧ (mi = 0 ∨ meth.name = (rx_y mi).name)
def rx_scr (ρ : Nat → Int) (b L : Nat) (xs : Nat → Int32) (A : Nat → Prop) (s : State) (mi : Nat) : Prop := mi = 0 → va_X b L xs s s.heap ∧ b < s.heap.size ∧ ¬ A b ∧ (∀ k : Nat, k < 6 → ρ k = (xs k).toInt) ∧ ρ 6 = (L : Int) ∧ L ≤ 6
def rx_goal (mi pc : Nat) (loc : rx_L) (stk : List rx_V) (sr : rx_S) (rh : rx_H) (ce sl : Nat) (outs : List rx_A) : Prop :=
  ∀ (p : Program) (l : Launch) (e : Env) (R : Room) (s : State) (m : MethodId) (args : Array Value) (below : List Frame) (meth : Method) (c : Code) (D : va_G) (cc : Nat → ClassId) (A : Nat → Prop) (ρ : Nat → Int) (b L : Nat) (xs : Nat → Int32) (as0 : List Nat) (Q : State → Prop),
    rx_fr p R s m args meth c mi → rx_scr ρ b L xs A s mi →
    (∀ o ∈ outs, ∀ (H : Heap) (locs : List Loc) (ws : va_W) (ls : Array Slot) (st : List Value), rx_wd D cc A s H locs ws → rx_st ρ b cc as0 (rx_ml mi) o.2.2.1 o.2.2.2.1 o.2.2.2.2.1 o.2.2.2.2.2.1 ls st ws → W p l e R s m args below meth c H locs o.2.2.2.2.2.2.1 o.2.2.2.2.2.2.2 Q (F0 m o.2.1 ls st)) →
    ∀ (H : Heap) (locs : List Loc) (ws : va_W) (ls : Array Slot) (st : List Value), rx_wd D cc A s H locs ws → rx_st ρ b cc as0 (rx_ml mi) loc stk sr rh ls st ws → W p l e R s m args below meth c H locs ce sl Q (F0 m pc ls st)
def rx_snd (f : rx_F) : Prop := ∀ (mi pc : Nat) (loc : rx_L) (stk : List rx_V) (sr : rx_S) (rh : rx_H) (ce sl : Nat) (outs : List rx_A), f mi pc loc stk sr rh ce sl = some outs → rx_goal mi pc loc stk sr rh ce sl outs
def rx_hok (t : Nat) (h : rx_F → rx_Q → rx_F) : Prop := ∀ (ih : rx_F), rx_snd ih → ∀ (q : rx_Q) (mi pc : Nat) (loc : rx_L) (stk : List rx_V) (sr : rx_S) (rh : rx_H) (ce sl : Nat) (outs : List rx_A), q.1 = t → rx_chk mi pc q = true → h ih q mi pc loc stk sr rh ce sl = some outs → rx_goal mi pc loc stk sr rh ce sl outs
theorem rx_d0 {mi pc : Nat} {q : rx_Q} (h : rx_chk mi pc q = true) : decode (rx_by mi) pc = .ok (rx_ins q, q.2.1) ∧ (q.1 = 38 ∨ q.2.1 = (rx_at rx_lens q.1).getD 0) ∧ rx_lnk mi pc q = true := by
  unfold rx_chk at h
  obtain ⟨h1, h3⟩ := rx_and h
  obtain ⟨h1, h2⟩ := rx_and h1
  refine ⟨of_decide_eq_true h1, ?_, h3⟩
  rw [Bool.or_eq_true] at h2
  rcases h2 with h2 | h2
  · exact Or.inl (rx_beq h2)
  · exact Or.inr (rx_beq h2)
theorem rx_d1 {mi pc : Nat} {q : rx_Q} (h : rx_chk mi pc q = true) {t : Nat} (hq : q.1 = t) {I : Instr} {n : Nat} (hI : rx_ins q = I) (hn : (rx_at rx_lens t).getD 0 = n) (ht : t ≠ 38) : decode (rx_by mi) pc = .ok (I, n) ∧ q.2.1 = n := by
  obtain ⟨h1, h2, -⟩ := rx_d0 h
  have e : q.2.1 = n := by
    rcases h2 with h2 | h2
    · exact absurd (hq.symm.trans h2) ht
    · rw [h2, hq]; exact hn
  rw [hI, e] at h1
  exact ⟨h1, e⟩
theorem rx_mem0_ok {k : Nat} {w : Jvm.Cond} (h : rx_mem0 k w = true) : w ∈ lw_tbl := by
  have h := of_decide_eq_true h
  rw [rx_at_eq] at h
  exact List.mem_of_getElem? h
theorem rx_mem_ok {k : Nat} {w : Jvm.Cond} (h : rx_mem k w = true) : w ∈ rx_tt := by
  obtain ⟨h1, h2⟩ := rx_and h
  exact List.mem_filter.mpr ⟨rx_mem0_ok h1, h2⟩
/-- a step that leaves heap and locals as they are -/
def rx_W1 (mi pc pc2 : Nat) (ls : Array Slot) (st st2 : List Value) : Prop := ∀ (p : Program) (l : Launch) (e : Env) (R : Room) (s : State) (m : MethodId) (args : Array Value) (below : List Frame) (meth : Method) (c : Code) (H : Heap) (locs : List Loc) (ce sl : Nat) (Q : State → Prop), rx_fr p R s m args meth c mi → W p l e R s m args below meth c H locs ce sl Q (F0 m pc2 ls st2) → W p l e R s m args below meth c H locs ce sl Q (F0 m pc ls st)
theorem rx_pure {ih : rx_F} (hih : rx_snd ih) {mi pc pc2 : Nat} {loc : rx_L} {stk stk2 : List rx_V} {sr : rx_S} {rh : rx_H} {ce sl : Nat} {outs : List rx_A} (h : ih mi pc2 loc stk2 sr rh ce sl = some outs)
    (hstep : ∀ (ρ : Nat → Int) (b : Nat) (as : List Nat) (ls : Array Slot) (st : List Value), rx_gR ρ sr → (∀ (k : Nat) (r : rx_V), rx_key loc k = some r → ∃ v, ls[k]? = some (.val v) ∧ rx_gV ρ b as r v) → rx_gL ρ b as stk st → ∃ st2, rx_W1 mi pc pc2 ls st st2 ∧ rx_gL ρ b as stk2 st2) : rx_goal mi pc loc stk sr rh ce sl outs := by
  intro p l e R s m args below meth c D cc A ρ b L xs as0 Q hF hsc hK H locs ws ls st hW hS
  obtain ⟨hR, hH, ⟨lv, hlv, hN⟩, hL, hX⟩ := hS
  obtain ⟨st2, h1, h2⟩ := hstep ρ b _ ls st hR (fun k r hk => by
    obtain ⟨i, v, e1, e2⟩ := hN.get hk
    exact ⟨v, lv_at hlv i e1, e2⟩) hL
  exact h1 p l e R s m args below meth c H locs ce sl Q hF (hih _ _ _ _ _ _ _ _ _ h p l e R s m args below meth c D cc A ρ b L xs as0 Q hF hsc hK H locs ws ls st2 hW ⟨hR, hH, ⟨lv, hlv, hN⟩, h2, hX⟩)
end
section
theorem rx_lay_ok {P : List Nat} {C : String} {T : u_T} {N : Nat} (h : rx_lay P C T N = true) : ∀ w ∈ u_ws C T N, w ∈ rx_tt := by
  intro w hw
  obtain ⟨k, hk, rfl⟩ := List.mem_map.mp hw
  have h1 := List.all_eq_true.mp h k hk
  split at h1
  · exact rx_mem_ok h1
  · cases h1
theorem rx_cls_ok : ∀ (ci : Nat) (C : String) (T : u_T) (N : Nat), rx_cls[ci]? = some (C, T, N) → ∃ ty : Nat → FieldType, rx_Ys[ci]? = some ty ∧ (∀ w ∈ u_ws C T N, w ∈ rx_tt) ∧ (∀ k, k < N → parseFieldDescriptor (T k).2.2.1 = some (ty k) ∧ rx_tok (ty k) = true) ∧ (∀ a, a < N → ∀ b, b < N → a ≠ b → (T a).2.1 ≠ (T b).2.1) ∧ Jvm.Cond.instantiable C N ∈ rx_tt ∧ Jvm.Cond.initialized C ∈ rx_tt := by
  intro ci C T N h
  match ci, h with
  | 0, h => cases h; exact ⟨rx_Y0, rfl, rx_lay_ok rx_la_0, rx_ty_0, rx_nm_0, rx_mem_ok (rx_and rx_ci_0).1, rx_mem_ok (rx_and rx_ci_0).2⟩
  | 1, h => cases h; exact ⟨rx_Y1, rfl, rx_lay_ok rx_la_1, rx_ty_1, rx_nm_1, rx_mem_ok (rx_and rx_ci_1).1, rx_mem_ok (rx_and rx_ci_1).2⟩
  | 2, h => cases h; exact ⟨rx_Y2, rfl, rx_lay_ok rx_la_2, rx_ty_2, rx_nm_2, rx_mem_ok (rx_and rx_ci_2).1, rx_mem_ok (rx_and rx_ci_2).2⟩
  | 3, h => cases h; exact ⟨rx_Y3, rfl, rx_lay_ok rx_la_3, rx_ty_3, rx_nm_3, rx_mem_ok (rx_and rx_ci_3).1, rx_mem_ok (rx_and rx_ci_3).2⟩
  | 4, h => cases h; exact ⟨rx_Y4, rfl, rx_lay_ok rx_la_4, rx_ty_4, rx_nm_4, rx_mem_ok (rx_and rx_ci_4).1, rx_mem_ok (rx_and rx_ci_4).2⟩
  | 5, h => cases h; exact ⟨rx_Y5, rfl, rx_lay_ok rx_la_5, rx_ty_5, rx_nm_5, rx_mem_ok (rx_and rx_ci_5).1, rx_mem_ok (rx_and rx_ci_5).2⟩
  | 6, h => cases h; exact ⟨rx_Y6, rfl, rx_lay_ok rx_la_6, rx_ty_6, rx_nm_6, rx_mem_ok (rx_and rx_ci_6).1, rx_mem_ok (rx_and rx_ci_6).2⟩
  | 7, h => cases h; exact ⟨rx_Y7, rfl, rx_lay_ok rx_la_7, rx_ty_7, rx_nm_7, rx_mem_ok (rx_and rx_ci_7).1, rx_mem_ok (rx_and rx_ci_7).2⟩
  | 8, h => cases h; exact ⟨rx_Y8, rfl, rx_lay_ok rx_la_8, rx_ty_8, rx_nm_8, rx_mem_ok (rx_and rx_ci_8).1, rx_mem_ok (rx_and rx_ci_8).2⟩
  | 9, h => cases h; exact ⟨rx_Y9, rfl, rx_lay_ok rx_la_9, rx_ty_9, rx_nm_9, rx_mem_ok (rx_and rx_ci_9).1, rx_mem_ok (rx_and rx_ci_9).2⟩
  | 10, h => cases h; exact ⟨rx_Y10, rfl, rx_lay_ok rx_la_10, rx_ty_10, rx_nm_10, rx_mem_ok (rx_and rx_ci_10).1, rx_mem_ok (rx_and rx_ci_10).2⟩
  | 11, h => cases h; exact ⟨rx_Y11, rfl, rx_lay_ok rx_la_11, rx_ty_11, rx_nm_11, rx_mem_ok (rx_and rx_ci_11).1, rx_mem_ok (rx_and rx_ci_11).2⟩
  | 12, h => cases h; exact ⟨rx_Y12, rfl, rx_lay_ok rx_la_12, rx_ty_12, rx_nm_12, rx_mem_ok (rx_and rx_ci_12).1, rx_mem_ok (rx_and rx_ci_12).2⟩
  | n + 13, h => exact absurd h (by simp [rx_cls])
end
section
/-! rows that leave the heap as it is -/
theorem rx_f4v {k : Nat} (h : k < 4) : ((rx_f4 k : Fin 4) : Nat) = k := Nat.mod_eq_of_lt h
theorem rx_ld_goal {r : Bool} {ih : rx_F} (hih : rx_snd ih) {q : rx_Q} {mi pc : Nat} {loc : rx_L} {stk : List rx_V} {sr : rx_S} {rh : rx_H} {ce sl : Nat} {outs : List rx_A} (h : rx_ld r ih q mi pc loc stk sr rh ce sl = some outs)
    (sI : r = false → ∀ (ls : Array Slot) (x : Int32) (st : List Value), ls[q.2.2.1]? = some (.val (.int x)) → rx_W1 mi pc (pc + q.2.1) ls st (.int x :: st))
    (sR : r = true → ∀ (ls : Array Slot) (x : Nat) (st : List Value), ls[q.2.2.1]? = some (.val (.ref x)) → rx_W1 mi pc (pc + q.2.1) ls st (.ref x :: st)) : rx_goal mi pc loc stk sr rh ce sl outs := by
  unfold rx_ld at h
  split at h
  · rename_i v hk
    cases r with
    | true => cases h
    | false =>
      have h : ih mi (pc + q.2.1) loc (.inl v :: stk) sr rh ce sl = some outs := h
      refine rx_pure hih h (fun ρ b as ls st hR hl hL => ?_)
      obtain ⟨w, e1, x, rfl, hx⟩ := hl _ _ hk
      exact ⟨.int x :: st, sI rfl ls x st e1, ⟨x, rfl, hx⟩, hL⟩
  · rename_i o hk
    cases r with
    | false => cases h
    | true =>
      have h : ih mi (pc + q.2.1) loc (.inr (.inl (some o)) :: stk) sr rh ce sl = some outs := h
      refine rx_pure hih h (fun ρ b as ls st hR hl hL => ?_)
      obtain ⟨w, e1, a, e2, rfl⟩ := hl _ _ hk
      exact ⟨.ref a :: st, sR rfl ls a st e1, ⟨a, e2, rfl⟩, hL⟩
  · rename_i u hk
    cases r with
    | false => cases h
    | true =>
      have h : ih mi (pc + q.2.1) loc (.inr (.inr (.inr u)) :: stk) sr rh ce sl = some outs := h
      refine rx_pure hih h (fun ρ b as ls st hR hl hL => ?_)
      obtain ⟨w, e1, e2⟩ := hl _ _ hk
      have e2 : w = .ref b := e2
      subst e2
      exact ⟨.ref b :: st, sR rfl ls b st e1, rfl, hL⟩
  · cases h
theorem rx_ok_0 : rx_hok 0 (rx_ld true) := by
  intro ih hih q mi pc loc stk sr rh ce sl outs hq hc h
  obtain ⟨hd, hn⟩ := rx_d1 hc hq (I := .aload_n (rx_f4 q.2.2.1)) (n := 1) (by unfold rx_ins; rw [hq]; rfl) rfl (by decide)
  have h4 : Nat.blt q.2.2.1 4 = true := by
    have := (rx_d0 hc).2.2
    unfold rx_lnk at this
    rw [hq] at this
    exact this
  refine rx_ld_goal hih h (fun e => by cases e) (fun _ ls x st e1 p l e R s m args below meth c H locs ce sl Q hF k => ?_)
  rw [hn] at k
  exact lv_aload_n hF.1.1 hF.1.2.1 hd (rx_f4v (rx_blt h4)) e1 k
theorem rx_ok_1 : rx_hok 1 (rx_ld false) := by
  intro ih hih q mi pc loc stk sr rh ce sl outs hq hc h
  obtain ⟨hd, hn⟩ := rx_d1 hc hq (I := .iload_n (rx_f4 q.2.2.1)) (n := 1) (by unfold rx_ins; rw [hq]; rfl) rfl (by decide)
  have h4 : Nat.blt q.2.2.1 4 = true := by
    have := (rx_d0 hc).2.2
    unfold rx_lnk at this
    rw [hq] at this
    exact this
  refine rx_ld_goal hih h (fun _ ls x st e1 p l e R s m args below meth c H locs ce sl Q hF k => ?_) (fun e => by cases e)
  rw [hn] at k
  exact lv_iload_n hF.1.1 hF.1.2.1 hd (rx_f4v (rx_blt h4)) e1 k
theorem rx_ok_22 : rx_hok 22 (rx_ld false) := by
  intro ih hih q mi pc loc stk sr rh ce sl outs hq hc h
  obtain ⟨hd, hn⟩ := rx_d1 hc hq (I := .iload q.2.2.1) (n := 2) (by unfold rx_ins; rw [hq]; rfl) rfl (by decide)
  refine rx_ld_goal hih h (fun _ ls x st e1 p l e R s m args below meth c H locs ce sl Q hF k => ?_) (fun e => by cases e)
  rw [hn] at k
  exact lv_iload hF.1.1 hF.1.2.1 hd e1 k
theorem rx_ok_47 : rx_hok 47 (rx_ld true) := by
  intro ih hih q mi pc loc stk sr rh ce sl outs hq hc h
  obtain ⟨hd, hn⟩ := rx_d1 hc hq (I := .aload q.2.2.1) (n := 2) (by unfold rx_ins; rw [hq]; rfl) rfl (by decide)
  refine rx_ld_goal hih h (fun e => by cases e) (fun _ ls x st e1 p l e R s m args below meth c H locs ce sl Q hF k => ?_)
  rw [hn] at k
  exact lv_aload hF.1.1 hF.1.2.1 hd e1 k
/-! constants -/
theorem rx_cst_goal {ih : rx_F} (hih : rx_snd ih) {q : rx_Q} {mi pc : Nat} {loc : rx_L} {stk : List rx_V} {sr : rx_S} {rh : rx_H} {ce sl : Nat} {outs : List rx_A} (h : rx_cst ih q mi pc loc stk sr rh ce sl = some outs) (x : Int32) (hx : x.toInt = q.2.2.2.2.1)
    (sC : ∀ (ls : Array Slot) (st : List Value), rx_W1 mi pc (pc + q.2.1) ls st (.int x :: st)) : rx_goal mi pc loc stk sr rh ce sl outs := by
  have h : ih mi (pc + q.2.1) loc (.inl (.inl q.2.2.2.2.1) :: stk) sr rh ce sl = some outs := h
  exact rx_pure hih h (fun ρ b as ls st hR hl hL => ⟨.int x :: st, sC ls st, ⟨x, rfl, hx⟩, hL⟩)
theorem rx_ok_3 : rx_hok 3 rx_cst := by
  intro ih hih q mi pc loc stk sr rh ce sl outs hq hc h
  obtain ⟨hd, hn⟩ := rx_d1 hc hq (I := .iconst q.2.2.2.2.1) (n := 1) (by unfold rx_ins; rw [hq]; rfl) rfl (by decide)
  have h4 : decide ((Int32.ofInt q.2.2.2.2.1).toInt = q.2.2.2.2.1) = true := by
    have := (rx_d0 hc).2.2
    unfold rx_lnk at this
    rw [hq] at this
    exact this
  refine rx_cst_goal hih h (Int32.ofInt q.2.2.2.2.1) (of_decide_eq_true h4) (fun ls st p l e R s m args below meth c H locs ce sl Q hF k => ?_)
  rw [hn] at k
  exact lv_iconst hF.1.1 hF.1.2.1 hd rfl k
theorem rx_ok_20 : rx_hok 20 rx_cst := by
  intro ih hih q mi pc loc stk sr rh ce sl outs hq hc h
  obtain ⟨hd, hn⟩ := rx_d1 hc hq (I := .sipush q.2.2.2.2.1) (n := 3) (by unfold rx_ins; rw [hq]; rfl) rfl (by decide)
  have h4 : decide ((Int16.ofInt q.2.2.2.2.1).toInt32.toInt = q.2.2.2.2.1) = true := by
    have := (rx_d0 hc).2.2
    unfold rx_lnk at this
    rw [hq] at this
    exact this
  refine rx_cst_goal hih h ((Int16.ofInt q.2.2.2.2.1).toInt32) (of_decide_eq_true h4) (fun ls st p l e R s m args below meth c H locs ce sl Q hF k => ?_)
  rw [hn] at k
  exact lv_sipush hF.1.1 hF.1.2.1 hd rfl k
theorem rx_ok_21 : rx_hok 21 rx_cst := by
  intro ih hih q mi pc loc stk sr rh ce sl outs hq hc h
  obtain ⟨hd, hn⟩ := rx_d1 hc hq (I := .bipush q.2.2.2.2.1) (n := 2) (by unfold rx_ins; rw [hq]; rfl) rfl (by decide)
  have h4 : decide ((Int8.ofInt q.2.2.2.2.1).toInt32.toInt = q.2.2.2.2.1) = true := by
    have := (rx_d0 hc).2.2
    unfold rx_lnk at this
    rw [hq] at this
    exact this
  refine rx_cst_goal hih h ((Int8.ofInt q.2.2.2.2.1).toInt32) (of_decide_eq_true h4) (fun ls st p l e R s m args below meth c H locs ce sl Q hF k => ?_)
  rw [hn] at k
  exact lv_bipush hF.1.1 hF.1.2.1 hd rfl k
theorem rx_ok_30 : rx_hok 30 rx_cst := by
  intro ih hih q mi pc loc stk sr rh ce sl outs hq hc h
  obtain ⟨hd, hn⟩ := rx_d1 hc hq (I := .ldc_w q.2.2.2.2.2.2.2.1) (n := 3) (by unfold rx_ins; rw [hq]; rfl) rfl (by decide)
  have h4 : (decide ((Int32.ofInt q.2.2.2.2.1).toInt = q.2.2.2.2.1) && rx_mem q.2.2.2.2.2.2.1 (.constant (rx_y mi).cls q.2.2.2.2.2.2.2.1 (Int32.ofInt q.2.2.2.2.1))) = true := by
    have := (rx_d0 hc).2.2
    unfold rx_lnk at this
    rw [hq] at this
    exact this
  obtain ⟨h5, h6⟩ := rx_and h4
  refine rx_cst_goal hih h (Int32.ofInt q.2.2.2.2.1) (of_decide_eq_true h5) (fun ls st p l e R s m args below meth c H locs ce sl Q hF k => ?_)
  rw [hn] at k
  exact lv_ldcw hF.1.1 hF.1.2.1 hF.1.2.2.2.1 (hF.1.2.2.2.2 _ (rx_mem_ok h6)) hd k
/-! stores -/
def rx_W2 (mi pc pc2 i : Nat) (v : Value) (st rest : List Value) : Prop := ∀ (p : Program) (l : Launch) (e : Env) (R : Room) (s : State) (m : MethodId) (args : Array Value) (below : List Frame) (meth : Method) (c : Code) (H : Heap) (locs : List Loc) (ce sl : Nat) (Q : State → Prop) (ls : Array Slot) (lv : List (Nat × Value)), rx_fr p R s m args meth c mi → lv_has ls (rx_ml mi) lv → i < rx_ml mi → (∀ ls2 : Array Slot, lv_has ls2 (rx_ml mi) ((i, v) :: lv.filter (fun q => !(q.1 == i) && !(q.1 + 1 == i && q.2.category == 2))) → W p l e R s m args below meth c H locs ce sl Q (F0 m pc2 ls2 rest)) → W p l e R s m args below meth c H locs ce sl Q (F0 m pc ls st)
theorem rx_sto_core {ih : rx_F} (hih : rx_snd ih) {mi pc pc2 i : Nat} {loc : rx_L} {r : rx_V} {rest : List rx_V} {sr : rx_S} {rh : rx_H} {ce sl : Nat} {outs : List rx_A} (hi : Nat.blt i (rx_ml mi) = true) (h : ih mi pc2 (rx_store loc i r) rest sr rh ce sl = some outs)
    (sW : ∀ (ρ : Nat → Int) (b : Nat) (as : List Nat) (v : Value) (st : List Value), rx_gV ρ b as r v → rx_W2 mi pc pc2 i v (v :: st) st) : rx_goal mi pc loc (r :: rest) sr rh ce sl outs := by
  intro p l e R s m args below meth c D cc A ρ b L xs as0 Q hF hsc hK H locs ws ls st hW hS
  obtain ⟨hR, hH, ⟨lv, hlv, hN⟩, hL, hX⟩ := hS
  obtain ⟨v, vs, rfl, hv, hL1⟩ := hL.cons
  exact sW ρ b _ v vs hv p l e R s m args below meth c H locs ce sl Q ls lv hF hlv (rx_blt hi) (fun ls2 h2 => hih _ _ _ _ _ _ _ _ _ h p l e R s m args below meth c D cc A ρ b L xs as0 Q hF hsc hK H locs ws ls2 vs hW ⟨hR, hH, ⟨_, h2, rfl, hv, hN.drop i⟩, hL1, hX⟩)
theorem rx_sto_goal {r : Bool} {ih : rx_F} (hih : rx_snd ih) {q : rx_Q} {mi pc : Nat} {loc : rx_L} {stk : List rx_V} {sr : rx_S} {rh : rx_H} {ce sl : Nat} {outs : List rx_A} (h : rx_sto r ih q mi pc loc stk sr rh ce sl = some outs)
    (sI : r = false → ∀ (x : Int32) (st : List Value), rx_W2 mi pc (pc + q.2.1) q.2.2.1 (.int x) (.int x :: st) st)
    (sR : r = true → ∀ (x : Nat) (st : List Value), rx_W2 mi pc (pc + q.2.1) q.2.2.1 (.ref x) (.ref x :: st) st) : rx_goal mi pc loc stk sr rh ce sl outs := by
  unfold rx_sto at h
  split at h
  · rename_i v rest
    obtain ⟨h1, h2⟩ := rx_cnd h
    obtain ⟨h3, h4⟩ := rx_and h1
    have hr : r = false := by
      cases r
      · rfl
      · cases h3
    refine rx_sto_core hih h4 h2 (fun ρ b as v st hv => ?_)
    obtain ⟨x, rfl, -⟩ := hv
    exact sI hr x st
  · rename_i o rest
    obtain ⟨h1, h2⟩ := rx_cnd h
    obtain ⟨h3, h4⟩ := rx_and h1
    refine rx_sto_core hih h4 h2 (fun ρ b as v st hv => ?_)
    obtain ⟨x, -, rfl⟩ := hv
    exact sR h3 x st
  · cases h
theorem rx_ok_11 : rx_hok 11 (rx_sto false) := by
  intro ih hih q mi pc loc stk sr rh ce sl outs hq hc h
  obtain ⟨hd, hn⟩ := rx_d1 hc hq (I := .istore_n (rx_f4 q.2.2.1)) (n := 1) (by unfold rx_ins; rw [hq]; rfl) rfl (by decide)
  have h4 : Nat.blt q.2.2.1 4 = true := by
    have := (rx_d0 hc).2.2
    unfold rx_lnk at this
    rw [hq] at this
    exact this
  refine rx_sto_goal hih h (fun _ x st p l e R s m args below meth c H locs ce sl Q ls lv hF hlv hi k => ?_) (fun e => by cases e)
  rw [hn] at k
  exact lv_istore_n hF.1.1 hF.1.2.1 hd (rx_f4v (rx_blt h4)) hlv hi rfl k
theorem rx_ok_25 : rx_hok 25 (rx_sto false) := by
  intro ih hih q mi pc loc stk sr rh ce sl outs hq hc h
  obtain ⟨hd, hn⟩ := rx_d1 hc hq (I := .istore q.2.2.1) (n := 2) (by unfold rx_ins; rw [hq]; rfl) rfl (by decide)
  refine rx_sto_goal hih h (fun _ x st p l e R s m args below meth c H locs ce sl Q ls lv hF hlv hi k => ?_) (fun e => by cases e)
  rw [hn] at k
  exact lv_istore hF.1.1 hF.1.2.1 hd hlv hi rfl k
theorem rx_ok_46 : rx_hok 46 (rx_sto true) := by
  intro ih hih q mi pc loc stk sr rh ce sl outs hq hc h
  obtain ⟨hd, hn⟩ := rx_d1 hc hq (I := .astore_n (rx_f4 q.2.2.1)) (n := 1) (by unfold rx_ins; rw [hq]; rfl) rfl (by decide)
  have h4 : Nat.blt q.2.2.1 4 = true := by
    have := (rx_d0 hc).2.2
    unfold rx_lnk at this
    rw [hq] at this
    exact this
  refine rx_sto_goal hih h (fun e => by cases e) (fun _ x st p l e R s m args below meth c H locs ce sl Q ls lv hF hlv hi k => ?_)
  rw [hn] at k
  exact lv_astore_n hF.1.1 hF.1.2.1 hd (rx_f4v (rx_blt h4)) hlv hi rfl k
theorem rx_ok_48 : rx_hok 48 (rx_sto true) := by
  intro ih hih q mi pc loc stk sr rh ce sl outs hq hc h
  obtain ⟨hd, hn⟩ := rx_d1 hc hq (I := .astore q.2.2.1) (n := 2) (by unfold rx_ins; rw [hq]; rfl) rfl (by decide)
  refine rx_sto_goal hih h (fun e => by cases e) (fun _ x st p l e R s m args below meth c H locs ce sl Q ls lv hF hlv hi k => ?_)
  rw [hn] at k
  exact lv_astore hF.1.1 hF.1.2.1 hd hlv hi rfl k
theorem rx_ok_7 : rx_hok 7 rx_iinc := by
  intro ih hih q mi pc loc stk sr rh ce sl outs hq hc h
  obtain ⟨hd, hn⟩ := rx_d1 hc hq (I := .iinc q.2.2.1 q.2.2.2.2.1) (n := 3) (by unfold rx_ins; rw [hq]; rfl) rfl (by decide)
  have h4 : decide ((Int32.ofInt q.2.2.2.2.1).toInt = q.2.2.2.2.1) = true := by
    have := (rx_d0 hc).2.2
    unfold rx_lnk at this
    rw [hq] at this
    exact this
  unfold rx_iinc at h
  split at h
  · rename_i v hk
    obtain ⟨hi, h⟩ := rx_cnd h
    intro p l e R s m args below meth c D cc A ρ b L xs as0 Q hF hsc hK H locs ws ls st hW hS
    obtain ⟨hR, hH, ⟨lv, hlv, hN⟩, hL, hX⟩ := hS
    obtain ⟨i, w, e1, x, rfl, hx⟩ := hN.get hk
    refine lv_iinc hF.1.1 hF.1.2.1 hd hlv e1 rfl (rx_blt hi) rfl (fun ls2 h2 => ?_)
    have k := hih _ _ _ _ _ _ _ _ _ h p l e R s m args below meth c D cc A ρ b L xs as0 Q hF hsc hK H locs ws ls2 st hW ⟨hR, hH, ⟨_, h2, rfl, ⟨_, rfl, rx_addc_ok hR hx (of_decide_eq_true h4)⟩, hN.drop _⟩, hL, hX⟩
    have e9 : Nat.add pc q.2.1 = pc + 3 := by rw [hn]
    rw [e9] at k
    exact k
  · cases h
/-! arithmetic -/
theorem rx_ok_12 : rx_hok 12 rx_hadd := by
  intro ih hih q mi pc loc stk sr rh ce sl outs hq hc h
  obtain ⟨hd, hn⟩ := rx_d1 hc hq (I := .iadd) (n := 1) (by unfold rx_ins; rw [hq]; rfl) rfl (by decide)
  unfold rx_hadd at h
  split at h
  · rename_i y v rest
    refine rx_pure hih h (fun ρ b as ls st hR hl hL => ?_)
    obtain ⟨_, _, rfl, ⟨yy, rfl, hy⟩, hL1⟩ := hL.cons
    obtain ⟨_, st, rfl, ⟨xx, rfl, hx⟩, hL2⟩ := hL1.cons
    refine ⟨.int (xx + yy) :: st, fun p l e R s m args below meth c H locs ce sl Q hF k => ?_, ⟨_, rfl, rx_add_ok hR hx hy⟩, hL2⟩
    rw [hn] at k
    exact lv_iadd hF.1.1 hF.1.2.1 hd k
  · cases h
theorem rx_ok_23 : rx_hok 23 rx_hsub := by
  intro ih hih q mi pc loc stk sr rh ce sl outs hq hc h
  obtain ⟨hd, hn⟩ := rx_d1 hc hq (I := .isub) (n := 1) (by unfold rx_ins; rw [hq]; rfl) rfl (by decide)
  unfold rx_hsub at h
  split at h
  · rename_i y v rest
    refine rx_pure hih h (fun ρ b as ls st hR hl hL => ?_)
    obtain ⟨_, _, rfl, ⟨yy, rfl, hy⟩, hL1⟩ := hL.cons
    obtain ⟨_, st, rfl, ⟨xx, rfl, hx⟩, hL2⟩ := hL1.cons
    refine ⟨.int (xx - yy) :: st, fun p l e R s m args below meth c H locs ce sl Q hF k => ?_, ⟨_, rfl, rx_sub_ok hR hx hy⟩, hL2⟩
    rw [hn] at k
    exact lv_isub hF.1.1 hF.1.2.1 hd k
  · cases h
theorem rx_split_goal {f : rx_S → Option (List rx_A)} {mi pc : Nat} {loc : rx_L} {stk : List rx_V} {sr : rx_S} {rh : rx_H} {ce sl : Nat} {outs : List rx_A} {q : Nat × Int × Nat} (h : rx_split f sr q = some outs) (hf : ∀ (s2 : rx_S) (o2 : List rx_A), f s2 = some o2 → rx_goal mi pc loc stk s2 rh ce sl o2) (hq : ∀ ρ : Nat → Int, rx_gR ρ sr → ∃ i : Nat, i < q.2.2 ∧ ρ q.1 = q.2.1 + Int.ofNat i) : rx_goal mi pc loc stk sr rh ce sl outs := by
  intro p l e R s m args below meth c D cc A ρ b L xs as0 Q hF hsc hK H locs ws ls st hW hS
  obtain ⟨i, hi, ei⟩ := hq ρ hS.1
  obtain ⟨r, hr, hsub⟩ := rx_all_ok h i (List.mem_range.mpr hi)
  refine hf _ _ hr p l e R s m args below meth c D cc A ρ b L xs as0 Q hF hsc (fun o ho => hK o (hsub o ho)) H locs ws ls st hW ⟨rx_gR_set hS.1 ?_, hS.2⟩
  exact ⟨Int.le_of_eq ei.symm, Int.le_of_eq ei⟩
theorem rx_bin_goal {ih : rx_F} (hih : rx_snd ih) {f : Int32 → Int32 → Int32} {sp u v : rx_I} {mi pc n : Nat} {loc : rx_L} {rest : List rx_V} {sr : rx_S} {rh : rx_H} {ce sl : Nat} {outs : List rx_A} (h : rx_bin ih mi pc loc (.inl v :: .inl u :: rest) rest sr rh ce sl n (rx_alu f sp sr u v) = some outs)
    (hs : ∀ (ρ : Nat → Int) (x y : Int32), rx_gI ρ u x → rx_gI ρ v y → rx_gI ρ sp (f x y))
    (s2 : ∀ (ρ : Nat → Int) (ls : Array Slot) (x y : Int32) (st : List Value), rx_gR ρ sr → rx_gI ρ v y → (st.map fun v => v.category).sum = rx_sum rest → rx_W1 mi pc (pc + n) ls (.int y :: .int x :: st) (.int (f x y) :: st)) : rx_goal mi pc loc (.inl v :: .inl u :: rest) sr rh ce sl outs := by
  unfold rx_bin at h
  split at h
  · rename_i w hw
    refine rx_pure hih h (fun ρ b as ls st hR hl hL => ?_)
    obtain ⟨_, _, rfl, ⟨yy, rfl, hy⟩, hL1⟩ := hL.cons
    obtain ⟨_, st, rfl, ⟨xx, rfl, hx⟩, hL2⟩ := hL1.cons
    exact ⟨.int (f xx yy) :: st, s2 ρ ls xx yy st hR hy (rx_sum_ok hL2), ⟨_, rfl, rx_alu_ok hR hx hy (hs ρ xx yy hx hy) hw⟩, hL2⟩
  · rename_i w hw
    exact rx_split_goal h (fun s3 o3 h3 => hih _ _ _ _ _ _ _ _ _ h3) (fun ρ hR => rx_alu_sp hR hw)
theorem rx_b2_goal {ih : rx_F} (hih : rx_snd ih) {f : Int32 → Int32 → Int32} {sp : rx_I → rx_I} {q : rx_Q} {mi pc : Nat} {loc : rx_L} {stk : List rx_V} {sr : rx_S} {rh : rx_H} {ce sl : Nat} {outs : List rx_A} (h : rx_b2 f sp ih q mi pc loc stk sr rh ce sl = some outs)
    (hs : ∀ (ρ : Nat → Int) (v : rx_I) (x y : Int32), rx_gI ρ v y → rx_gI ρ (sp v) (f x y))
    (s2 : ∀ (ls : Array Slot) (x y : Int32) (st : List Value), rx_W1 mi pc (pc + q.2.1) ls (.int y :: .int x :: st) (.int (f x y) :: st)) : rx_goal mi pc loc stk sr rh ce sl outs := by
  unfold rx_b2 at h
  split at h
  · rename_i v u rest
    exact rx_bin_goal hih h (fun ρ x y _ hy => hs ρ v x y hy) (fun ρ ls x y st _ _ _ => s2 ls x y st)
  · cases h
theorem rx_ok_17 : rx_hok 17 (rx_b2 (fun u v => u <<< (v &&& 31)) (fun _ => rx_top)) := by
  intro ih hih q mi pc loc stk sr rh ce sl outs hq hc h
  obtain ⟨hd, hn⟩ := rx_d1 hc hq (I := .ishl) (n := 1) (by unfold rx_ins; rw [hq]; rfl) rfl (by decide)
  refine rx_b2_goal hih h (fun ρ v x y _ => rx_top_ok ρ _) (fun ls x y st p l e R s m args below meth c H locs ce sl Q hF k => ?_)
  rw [hn] at k
  exact lv_ishl hF.1.1 hF.1.2.1 hd k
theorem rx_ok_19 : rx_hok 19 (rx_b2 (fun u v => u >>> (v &&& 31)) (fun _ => rx_top)) := by
  intro ih hih q mi pc loc stk sr rh ce sl outs hq hc h
  obtain ⟨hd, hn⟩ := rx_d1 hc hq (I := .ishr) (n := 1) (by unfold rx_ins; rw [hq]; rfl) rfl (by decide)
  refine rx_b2_goal hih h (fun ρ v x y _ => rx_top_ok ρ _) (fun ls x y st p l e R s m args below meth c H locs ce sl Q hF k => ?_)
  rw [hn] at k
  exact lv_ishr hF.1.1 hF.1.2.1 hd k
theorem rx_ok_28 : rx_hok 28 (rx_b2 (fun u v => u * v) (fun _ => rx_top)) := by
  intro ih hih q mi pc loc stk sr rh ce sl outs hq hc h
  obtain ⟨hd, hn⟩ := rx_d1 hc hq (I := .imul) (n := 1) (by unfold rx_ins; rw [hq]; rfl) rfl (by decide)
  refine rx_b2_goal hih h (fun ρ v x y _ => rx_top_ok ρ _) (fun ls x y st p l e R s m args below meth c H locs ce sl Q hF k => ?_)
  rw [hn] at k
  exact lv_imul hF.1.1 hF.1.2.1 hd k
theorem rx_ok_29 : rx_hok 29 (rx_b2 (fun u v => (u.toUInt32 >>> (v.toUInt32 &&& Int32.toUInt32 31)).toInt32) (fun _ => rx_top)) := by
  intro ih hih q mi pc loc stk sr rh ce sl outs hq hc h
  obtain ⟨hd, hn⟩ := rx_d1 hc hq (I := .iushr) (n := 1) (by unfold rx_ins; rw [hq]; rfl) rfl (by decide)
  refine rx_b2_goal hih h (fun ρ v x y _ => rx_top_ok ρ _) (fun ls x y st p l e R s m args below meth c H locs ce sl Q hF k => ?_)
  rw [hn] at k
  exact lv_iushr hF.1.1 hF.1.2.1 hd rfl k
theorem rx_ok_49 : rx_hok 49 (rx_b2 (fun u v => u ||| v) (fun _ => rx_top)) := by
  intro ih hih q mi pc loc stk sr rh ce sl outs hq hc h
  obtain ⟨hd, hn⟩ := rx_d1 hc hq (I := .ior) (n := 1) (by unfold rx_ins; rw [hq]; rfl) rfl (by decide)
  refine rx_b2_goal hih h (fun ρ v x y _ => rx_top_ok ρ _) (fun ls x y st p l e R s m args below meth c H locs ce sl Q hF k => ?_)
  rw [hn] at k
  exact lv_ior hF.1.1 hF.1.2.1 hd k
theorem rx_ok_50 : rx_hok 50 (rx_b2 (fun u v => u ^^^ v) (fun _ => rx_top)) := by
  intro ih hih q mi pc loc stk sr rh ce sl outs hq hc h
  obtain ⟨hd, hn⟩ := rx_d1 hc hq (I := .ixor) (n := 1) (by unfold rx_ins; rw [hq]; rfl) rfl (by decide)
  refine rx_b2_goal hih h (fun ρ v x y _ => rx_top_ok ρ _) (fun ls x y st p l e R s m args below meth c H locs ce sl Q hF k => ?_)
  rw [hn] at k
  exact lv_ixor hF.1.1 hF.1.2.1 hd k
theorem rx_andb (x y : Int32) (h : 0 ≤ y.toInt) : 0 ≤ (x &&& y).toInt ∧ (x &&& y).toInt ≤ y.toInt := by
  have e1 : (x &&& y).toInt = (x.toBitVec &&& y.toBitVec).toInt := rfl
  have e2 : y.toInt = y.toBitVec.toInt := rfl
  rw [e2] at h ⊢
  rw [e1]
  have a := BitVec.toInt_eq_toNat_cond y.toBitVec
  have d := BitVec.toInt_eq_toNat_cond (x.toBitVec &&& y.toBitVec)
  have hn : (x.toBitVec &&& y.toBitVec).toNat ≤ y.toBitVec.toNat := by
    rw [BitVec.toNat_and]
    exact Nat.and_le_right
  have hy := y.toBitVec.isLt
  split at a <;> split at d <;> omega
theorem rx_mask_ok (ρ : Nat → Int) (v : rx_I) (x y : Int32) (h : rx_gI ρ v y) : rx_gI ρ (rx_mask v) (x &&& y) := by
  unfold rx_mask
  split
  · rename_i n
    have e : y.toInt = Int.ofNat n := h
    obtain ⟨h1, h2⟩ := rx_andb x y (by rw [e]; exact Int.natCast_nonneg n)
    exact ⟨h1, by rw [e] at h2; exact h2⟩
  · exact rx_top_ok ρ _
theorem rx_ok_18 : rx_hok 18 (rx_b2 (fun u v => u &&& v) rx_mask) := by
  intro ih hih q mi pc loc stk sr rh ce sl outs hq hc h
  obtain ⟨hd, hn⟩ := rx_d1 hc hq (I := .iand) (n := 1) (by unfold rx_ins; rw [hq]; rfl) rfl (by decide)
  refine rx_b2_goal hih h (fun ρ v x y hy => rx_mask_ok ρ v x y hy) (fun ls x y st p l e R s m args below meth c H locs ce sl Q hF k => ?_)
  rw [hn] at k
  exact lv_iand hF.1.1 hF.1.2.1 hd k
theorem rx_in_ok {ρ : Nat → Int} {sr : rx_S} {r : rx_I} {x : Int32} {lo hi : Int} (hR : rx_gR ρ sr) (hI : rx_gI ρ r x) (h : rx_in sr r lo hi = true) : lo ≤ x.toInt ∧ x.toInt ≤ hi := by
  unfold rx_in at h
  split at h
  · rename_i w hw
    obtain ⟨h1, h2⟩ := rx_and h
    have h1 := rx_le_t h1
    have h2 := rx_le_t h2
    obtain ⟨c1, c2⟩ := rx_rg_ok hR hI hw
    omega
  · cases h
theorem rx_dvb_goal {ih : rx_F} (hih : rx_snd ih) {f : Int32 → Int32 → Int32} {q : rx_Q} {mi pc : Nat} {loc : rx_L} {stk : List rx_V} {sr : rx_S} {rh : rx_H} {ce sl : Nat} {outs : List rx_A} (h : rx_dvb f ih q mi pc loc stk sr rh ce sl = some outs)
    (s2 : ∀ (ls : Array Slot) (x y : Int32) (st : List Value), ¬ y = 0 → rx_W1 mi pc (pc + q.2.1) ls (.int y :: .int x :: st) (.int (f x y) :: st)) : rx_goal mi pc loc stk sr rh ce sl outs := by
  unfold rx_dvb at h
  split at h
  · rename_i v u rest
    obtain ⟨h1, h⟩ := rx_cnd h
    refine rx_bin_goal hih h (fun ρ x y _ hy => rx_top_ok ρ _) (fun ρ ls x y st hR hy _ => s2 ls x y st (fun e => ?_))
    have := (rx_in_ok hR hy h1).1
    rw [e] at this
    exact absurd this (by decide)
  · cases h
theorem rx_ok_31 : rx_hok 31 (rx_dvb (fun u v => u - u / v * v)) := by
  intro ih hih q mi pc loc stk sr rh ce sl outs hq hc h
  obtain ⟨hd, hn⟩ := rx_d1 hc hq (I := .irem) (n := 1) (by unfold rx_ins; rw [hq]; rfl) rfl (by decide)
  refine rx_dvb_goal hih h (fun ls x y st hne p l e R s m args below meth c H locs ce sl Q hF k => ?_)
  rw [hn] at k
  exact lv_irem hF.1.1 hF.1.2.1 hd hne k
theorem rx_ok_36 : rx_hok 36 (rx_dvb (fun u v => u / v)) := by
  intro ih hih q mi pc loc stk sr rh ce sl outs hq hc h
  obtain ⟨hd, hn⟩ := rx_d1 hc hq (I := .idiv) (n := 1) (by unfold rx_ins; rw [hq]; rfl) rfl (by decide)
  refine rx_dvb_goal hih h (fun ls x y st hne p l e R s m args below meth c H locs ce sl Q hF k => ?_)
  rw [hn] at k
  exact lv_idiv hF.1.1 hF.1.2.1 hd hne k
theorem rx_ok_37 : rx_hok 37 rx_i2b := by
  intro ih hih q mi pc loc stk sr rh ce sl outs hq hc h
  obtain ⟨hd, hn⟩ := rx_d1 hc hq (I := .i2b) (n := 1) (by unfold rx_ins; rw [hq]; rfl) rfl (by decide)
  unfold rx_i2b at h
  split at h
  · rename_i v rest
    split at h
    · rename_i z hz
      refine rx_pure hih h (fun ρ b as ls st hR hl hL => ?_)
      obtain ⟨_, st, rfl, ⟨xx, rfl, hx⟩, hL1⟩ := hL.cons
      have h1 := rx_norm_ok hR hx
      rw [hz] at h1
      have h1 : xx.toInt = z := h1
      refine ⟨.int xx.toInt8.toInt32 :: st, fun p l e R s m args below meth c H locs ce sl Q hF k => ?_, ⟨_, rfl, by show _ = _; rw [← rx_ofI h1]⟩, hL1⟩
      rw [hn] at k
      exact lv_i2b hF.1.1 hF.1.2.1 hd rfl k
    · refine rx_pure hih h (fun ρ b as ls st hR hl hL => ?_)
      obtain ⟨_, st, rfl, ⟨xx, rfl, hx⟩, hL1⟩ := hL.cons
      refine ⟨.int xx.toInt8.toInt32 :: st, fun p l e R s m args below meth c H locs ce sl Q hF k => ?_, ⟨_, rfl, ?_⟩, hL1⟩
      · rw [hn] at k
        exact lv_i2b hF.1.1 hF.1.2.1 hd rfl k
      · show (-128 : Int) ≤ _ ∧ _ ≤ (127 : Int)
        rw [Int8.toInt_toInt32]
        have h1 := xx.toInt8.le_toInt
        have h2 := xx.toInt8.toInt_lt
        omega
  · cases h
theorem rx_ok_16 : rx_hok 16 rx_dup := by
  intro ih hih q mi pc loc stk sr rh ce sl outs hq hc h
  obtain ⟨hd, hn⟩ := rx_d1 hc hq (I := .dup) (n := 1) (by unfold rx_ins; rw [hq]; rfl) rfl (by decide)
  unfold rx_dup at h
  split at h
  · rename_i v rest
    obtain ⟨h1, h⟩ := rx_cnd h
    refine rx_pure hih h (fun ρ b as ls st hR hl hL => ?_)
    obtain ⟨w, st, rfl, hw, hL1⟩ := hL.cons
    refine ⟨w :: w :: st, fun p l e R s m args below meth c H locs ce sl Q hF k => ?_, hw, hw, hL1⟩
    rw [hn] at k
    exact lv_dup hF.1.1 hF.1.2.1 hd ((rx_cat_ok hw).trans (rx_beq h1)) k
  · cases h
theorem rx_ok_45 : rx_hok 45 rx_dup2 := by
  intro ih hih q mi pc loc stk sr rh ce sl outs hq hc h
  obtain ⟨hd, hn⟩ := rx_d1 hc hq (I := .dup2) (n := 1) (by unfold rx_ins; rw [hq]; rfl) rfl (by decide)
  unfold rx_dup2 at h
  split at h
  · rename_i v u rest
    obtain ⟨h1, h⟩ := rx_cnd h
    obtain ⟨h1, h2⟩ := rx_and h1
    refine rx_pure hih h (fun ρ b as ls st hR hl hL => ?_)
    obtain ⟨w, st, rfl, hw, hL1⟩ := hL.cons
    obtain ⟨w2, st, rfl, hw2, hL2⟩ := hL1.cons
    refine ⟨w :: w2 :: w :: w2 :: st, fun p l e R s m args below meth c H locs ce sl Q hF k => ?_, hw, hw2, hw, hw2, hL2⟩
    rw [hn] at k
    exact lv_dup2_11 hF.1.1 hF.1.2.1 hd ((rx_cat_ok hw).trans (rx_beq h1)) ((rx_cat_ok hw2).trans (rx_beq h2)) k
  · cases h
theorem rx_ok_5 : rx_hok 5 rx_goto := by
  intro ih hih q mi pc loc stk sr rh ce sl outs hq hc h
  obtain ⟨hd, hn⟩ := rx_d1 hc hq (I := .goto q.2.2.2.2.1) (n := 3) (by unfold rx_ins; rw [hq]; rfl) rfl (by decide)
  unfold rx_goto at h
  split at h
  · rename_i t ht
    exact rx_pure hih h (fun ρ b as ls st hR hl hL => ⟨st, fun p l e R s m args below meth c H locs ce sl Q hF k => lv_goto hF.1.1 hF.1.2.1 hd (rx_tgt_ok ht) k, hL⟩)
  · cases h
theorem rx_mm_goal {ih : rx_F} (hih : rx_snd ih) {f : Int32 → Int32 → Int32} {q : rx_Q} {mi pc : Nat} {loc : rx_L} {stk : List rx_V} {sr : rx_S} {rh : rx_H} {ce sl : Nat} {outs : List rx_A} (h : rx_mm f ih q mi pc loc stk sr rh ce sl = some outs)
    (s2 : ∀ (p : Program) (l : Launch) (e : Env) (R : Room) (s : State) (m : MethodId) (args : Array Value) (below : List Frame) (meth : Method) (c : Code) (H : Heap) (locs : List Loc) (Q : State → Prop) (ls : Array Slot) (x y : Int32) (st : List Value), rx_fr p R s m args meth c mi → ls.size = rx_ml mi → 1 ≤ R.frames → (st.map fun v => v.category).sum + 13 ≤ R.locals → ce ≤ R.cells → sl ≤ R.slots → W p l e R s m args below meth c H locs ce sl Q (F0 m (pc + q.2.1) ls (.int (f x y) :: st)) → W p l e R s m args below meth c H locs ce sl Q (F0 m pc ls (.int y :: .int x :: st))) : rx_goal mi pc loc stk sr rh ce sl outs := by
  unfold rx_mm at h
  split at h
  · rename_i v u rest
    obtain ⟨h1, h⟩ := rx_cnd h
    obtain ⟨h1, g4⟩ := rx_and h1
    obtain ⟨h1, g3⟩ := rx_and h1
    obtain ⟨g1, g2⟩ := rx_and h1
    unfold rx_bin at h
    split at h
    · rename_i w hw
      intro p l e R s m args below meth c D cc A ρ b L xs as0 Q hF hsc hK H locs ws ls st hW hS
      obtain ⟨hR, hH, ⟨lv, hlv, hN⟩, hL, hX⟩ := hS
      obtain ⟨_, _, rfl, ⟨yy, rfl, hy⟩, hL1⟩ := hL.cons
      obtain ⟨_, st, rfl, ⟨xx, rfl, hx⟩, hL2⟩ := hL1.cons
      have hRm : R = rx_room mi := hF.2.1
      exact s2 p l e R s m args below meth c H locs Q ls xx yy st hF hlv.1 (by rw [hRm]; exact rx_ble g1) (by rw [hRm, rx_sum_ok hL2]; exact rx_ble g2) (by rw [hRm]; exact rx_ble g3) (by rw [hRm]; exact rx_ble g4) (hih _ _ _ _ _ _ _ _ _ h p l e R s m args below meth c D cc A ρ b L xs as0 Q hF hsc hK H locs ws ls _ hW ⟨hR, hH, ⟨lv, hlv, hN⟩, ⟨⟨_, rfl, rx_alu_ok hR hx hy (rx_top_ok ρ _) hw⟩, hL2⟩, hX⟩)
    · rename_i w hw
      exact rx_split_goal h (fun s3 o3 h3 => hih _ _ _ _ _ _ _ _ _ h3) (fun ρ hR => rx_alu_sp hR hw)
  · cases h
theorem rx_ok_51 : rx_hok 51 (rx_mm (fun u v => if v < u then v else u)) := by
  intro ih hih q mi pc loc stk sr rh ce sl outs hq hc h
  obtain ⟨hd, hn⟩ := rx_d1 hc hq (I := .invokestatic q.2.2.2.2.2.2.2.1) (n := 3) (by unfold rx_ins; rw [hq]; rfl) rfl (by decide)
  have h4 : rx_mem q.2.2.2.2.2.2.1 (.methodLink (rx_y mi).cls q.2.2.2.2.2.2.2.1 Lib.Math.min.name) = true := by
    have := (rx_d0 hc).2.2
    unfold rx_lnk at this
    rw [hq] at this
    exact this
  refine rx_mm_goal hih h (fun p l e R s m args below meth c H locs Q ls x y st hF hz a1 a2 a3 a4 k => ?_)
  rw [hn] at k
  have ht := hF.1.2.2.2.2
  exact va_mmin hF.1.1 hF.1.2.1 (hF.1.2.2.1.trans hz.symm) hF.1.2.2.2.1 (ht _ (rx_mem_ok h4)) (ht _ (rx_mem_ok rx_w6)) (ht _ (rx_mem_ok rx_w10)) (ht _ (rx_mem_ok rx_w7)) a1 a2 a3 a4 hd k
theorem rx_ok_52 : rx_hok 52 (rx_mm (fun u v => if u < v then v else u)) := by
  intro ih hih q mi pc loc stk sr rh ce sl outs hq hc h
  obtain ⟨hd, hn⟩ := rx_d1 hc hq (I := .invokestatic q.2.2.2.2.2.2.2.1) (n := 3) (by unfold rx_ins; rw [hq]; rfl) rfl (by decide)
  have h4 : rx_mem q.2.2.2.2.2.2.1 (.methodLink (rx_y mi).cls q.2.2.2.2.2.2.2.1 Lib.Math.max.name) = true := by
    have := (rx_d0 hc).2.2
    unfold rx_lnk at this
    rw [hq] at this
    exact this
  refine rx_mm_goal hih h (fun p l e R s m args below meth c H locs Q ls x y st hF hz a1 a2 a3 a4 k => ?_)
  rw [hn] at k
  have ht := hF.1.2.2.2.2
  exact va_mmax hF.1.1 hF.1.2.1 (hF.1.2.2.1.trans hz.symm) hF.1.2.2.2.1 (ht _ (rx_mem_ok h4)) (ht _ (rx_mem_ok rx_w8)) (ht _ (rx_mem_ok rx_w10)) (ht _ (rx_mem_ok rx_w9)) a1 a2 a3 a4 hd k
end
section
/-! jumps -/
def rx_c6i (c : Nat) (x y : Int32) : Prop := match c with
  | 0 => x = y
  | 1 => ¬ x = y
  | 2 => x < y
  | 3 => y ≤ x
  | 4 => y < x
  | _ => x ≤ y
theorem rx_c6_iff (c : Nat) (x y : Int32) : rx_c6i c x y ↔ rx_cd6 c x.toInt y.toInt := by
  match c with
  | 0 => exact Int32.toInt_inj.symm
  | 1 => exact not_congr Int32.toInt_inj.symm
  | 2 => exact Int32.lt_iff_toInt_lt
  | 3 => exact Int32.le_iff_toInt_le
  | 4 => exact Int32.lt_iff_toInt_lt
  | n + 5 => exact Int32.le_iff_toInt_le
def rx_W3 (mi pc t n : Nat) (cnd : Prop) (ls : Array Slot) (st rest : List Value) : Prop := ∀ (p : Program) (l : Launch) (e : Env) (R : Room) (s : State) (m : MethodId) (args : Array Value) (below : List Frame) (meth : Method) (c : Code) (H : Heap) (locs : List Loc) (ce sl : Nat) (Q : State → Prop), rx_fr p R s m args meth c mi → (cnd → W p l e R s m args below meth c H locs ce sl Q (F0 m t ls rest)) → (¬ cnd → W p l e R s m args below meth c H locs ce sl Q (F0 m (pc + n) ls rest)) → W p l e R s m args below meth c H locs ce sl Q (F0 m pc ls st)
theorem rx_br_goal {ih : rx_F} (hih : rx_snd ih) {q : rx_Q} {mi pc : Nat} {loc : rx_L} {stk rest : List rx_V} {sr : rx_S} {rh : rx_H} {ce sl : Nat} {v w : rx_I} {outs : List rx_A} (h : rx_br ih q mi pc loc rest sr rh ce sl v w = some outs)
    (conc : ∀ (ρ : Nat → Int) (b : Nat) (as : List Nat) (st : List Value), rx_gL ρ b as stk st → ∃ (x y : Int32) (st2 : List Value), rx_gI ρ v x ∧ rx_gI ρ w y ∧ rx_gL ρ b as rest st2 ∧ ∀ t : Nat, (pc : Int) + q.2.2.2.2.1 = (t : Int) → ∀ ls : Array Slot, rx_W3 mi pc t q.2.1 (rx_c6i q.2.2.2.1 x y) ls st st2) : rx_goal mi pc loc stk sr rh ce sl outs := by
  unfold rx_br at h
  split at h
  · rename_i t ht
    have ht := rx_tgt_ok ht
    intro p l e R s m args below meth c D cc A ρ b L xs as0 Q hF hsc hK H locs ws ls st hW hS
    obtain ⟨hR, hH, hN, hL, hX⟩ := hS
    obtain ⟨x, y, st2, hx, hy, hL2, sW⟩ := conc ρ b _ st hL
    refine sW t ht ls p l e R s m args below meth c H locs ce sl Q hF (fun hc => ?_) (fun hc => ?_)
    · have hc := (rx_c6_iff _ _ _).mp hc
      split at h
      · rename_i a d
        have e1 : x.toInt = a := hx
        have e2 : y.toInt = d := hy
        rw [e1, e2] at hc
        rw [(rx_cmp_iff _ _ _).mpr hc] at h
        exact hih _ _ _ _ _ _ _ _ _ h p l e R s m args below meth c D cc A ρ b L xs as0 Q hF hsc hK H locs ws ls st2 hW ⟨hR, hH, hN, hL2, hX⟩
      · obtain ⟨z, hm, hz, hi⟩ := rx_cases_ok q.2.2.2.1 x.toInt y.toInt
        obtain ⟨u, hu, hgu⟩ := rx_brs_ok (pc := pc) (n := q.2.1) (tg := t) hR hx hy _ z hm hz
        obtain ⟨r, hr, hsub⟩ := rx_all_ok h _ hu
        rw [hi.mpr hc] at hr
        exact hih _ _ _ _ _ _ _ _ _ hr p l e R s m args below meth c D cc A ρ b L xs as0 Q hF hsc (fun o ho => hK o (hsub o ho)) H locs ws ls st2 hW ⟨hgu, hH, hN, hL2, hX⟩
    · have hc := fun k => hc ((rx_c6_iff _ _ _).mpr k)
      split at h
      · rename_i a d
        have e1 : x.toInt = a := hx
        have e2 : y.toInt = d := hy
        rw [e1, e2] at hc
        cases hb : rx_cmp q.2.2.2.1 a d with
        | true => exact absurd ((rx_cmp_iff _ _ _).mp hb) hc
        | false =>
          rw [hb] at h
          exact hih _ _ _ _ _ _ _ _ _ h p l e R s m args below meth c D cc A ρ b L xs as0 Q hF hsc hK H locs ws ls st2 hW ⟨hR, hH, hN, hL2, hX⟩
      · obtain ⟨z, hm, hz, hi⟩ := rx_cases_ok q.2.2.2.1 x.toInt y.toInt
        obtain ⟨u, hu, hgu⟩ := rx_brs_ok (pc := pc) (n := q.2.1) (tg := t) hR hx hy _ z hm hz
        obtain ⟨r, hr, hsub⟩ := rx_all_ok h _ hu
        have hz2 : z.2 = false := by
          cases hz2 : z.2 with
          | false => rfl
          | true => exact absurd (hi.mp hz2) hc
        rw [hz2] at hr
        exact hih _ _ _ _ _ _ _ _ _ hr p l e R s m args below meth c D cc A ρ b L xs as0 Q hF hsc (fun o ho => hK o (hsub o ho)) H locs ws ls st2 hW ⟨hgu, hH, hN, hL2, hX⟩
  · cases h
theorem rx_icmp {mi pc t : Nat} {off : Int} (b : Nat) (hd : decode (rx_by mi) pc = .ok (.if_icmp (rx_cond b) off, 3)) (ht : (pc : Int) + off = (t : Int)) (ls : Array Slot) (x y : Int32) (st : List Value) : rx_W3 mi pc t 3 (rx_c6i b x y) ls (.int y :: .int x :: st) st := by
  intro p l e R s m args below meth c H locs ce sl Q hF kt kf
  match b, hd, kt, kf with
  | 0, hd, kt, kf => exact lv_icmp_eq hF.1.1 hF.1.2.1 hd ht kt kf
  | 1, hd, kt, kf => exact lv_icmp_ne hF.1.1 hF.1.2.1 hd ht kt (fun e => kf (fun k => k e))
  | 2, hd, kt, kf => exact lv_icmp_lt hF.1.1 hF.1.2.1 hd ht kt kf
  | 3, hd, kt, kf => exact lv_icmp_ge hF.1.1 hF.1.2.1 hd ht kt kf
  | 4, hd, kt, kf => exact lv_icmp_gt hF.1.1 hF.1.2.1 hd ht kt kf
  | n + 5, hd, kt, kf => exact lv_icmp_le hF.1.1 hF.1.2.1 hd ht kt kf
theorem rx_ific {mi pc t : Nat} {off : Int} (b : Nat) (hd : decode (rx_by mi) pc = .ok (.ifCond (rx_cond b) off, 3)) (ht : (pc : Int) + off = (t : Int)) (ls : Array Slot) (x : Int32) (st : List Value) : rx_W3 mi pc t 3 (rx_c6i b x 0) ls (.int x :: st) st := by
  intro p l e R s m args below meth c H locs ce sl Q hF kt kf
  match b, hd, kt, kf with
  | 0, hd, kt, kf => exact lv_if_eq hF.1.1 hF.1.2.1 hd ht kt kf
  | 1, hd, kt, kf => exact lv_if_ne hF.1.1 hF.1.2.1 hd ht kt (fun e => kf (fun k => k e))
  | 2, hd, kt, kf => exact lv_if_lt hF.1.1 hF.1.2.1 hd ht kt kf
  | 3, hd, kt, kf => exact lv_if_ge hF.1.1 hF.1.2.1 hd ht kt kf
  | 4, hd, kt, kf => exact lv_if_gt hF.1.1 hF.1.2.1 hd ht kt kf
  | n + 5, hd, kt, kf => exact lv_if_le hF.1.1 hF.1.2.1 hd ht kt kf
theorem rx_ok_4 : rx_hok 4 rx_if2 := by
  intro ih hih q mi pc loc stk sr rh ce sl outs hq hc h
  obtain ⟨hd, hn⟩ := rx_d1 hc hq (I := .if_icmp (rx_cond q.2.2.2.1) q.2.2.2.2.1) (n := 3) (by unfold rx_ins; rw [hq]; rfl) rfl (by decide)
  unfold rx_if2 at h
  split at h
  · rename_i w v rest
    refine rx_br_goal hih h (fun ρ b as st hL => ?_)
    obtain ⟨_, _, rfl, ⟨yy, rfl, hy⟩, hL1⟩ := hL.cons
    obtain ⟨_, st, rfl, ⟨xx, rfl, hx⟩, hL2⟩ := hL1.cons
    refine ⟨xx, yy, st, hx, hy, hL2, fun t ht ls => ?_⟩
    rw [hn]
    exact rx_icmp _ hd ht ls xx yy st
  · cases h
theorem rx_ok_14 : rx_hok 14 rx_if0 := by
  intro ih hih q mi pc loc stk sr rh ce sl outs hq hc h
  obtain ⟨hd, hn⟩ := rx_d1 hc hq (I := .ifCond (rx_cond q.2.2.2.1) q.2.2.2.2.1) (n := 3) (by unfold rx_ins; rw [hq]; rfl) rfl (by decide)
  unfold rx_if0 at h
  split at h
  · rename_i v rest
    refine rx_br_goal hih h (fun ρ b as st hL => ?_)
    obtain ⟨_, st, rfl, ⟨xx, rfl, hx⟩, hL1⟩ := hL.cons
    refine ⟨xx, 0, st, hx, Int32.toInt_zero, hL1, fun t ht ls => ?_⟩
    rw [hn]
    exact rx_ific _ hd ht ls xx st
  · cases h
theorem rx_relc_ok {ρ : Nat → Int} {sr : rx_S} {r : rx_I} {x : Int32} {n : Int} {k : Nat} (hR : rx_gR ρ sr) (hI : rx_gI ρ r x) (hk : rx_is k x.toInt n) : ∃ z, rx_rel k sr r (rx_c n) = some z ∧ rx_gR ρ z := by
  have main : ∀ u : Int × Int, u.1 ≤ x.toInt ∧ x.toInt ≤ u.2 → ∃ z, rx_rel0 k sr r (rx_c n) u (n, n) = some z ∧ rx_gR ρ z := by
    intro u hu
    obtain ⟨u1, u2⟩ := hu
    match k, hk with
    | 0, hk =>
      have hk : x.toInt < n := hk
      unfold rx_rel0
      cases hc : rx_le (n, n).2 u.1 with
      | true => have hc : n ≤ u.1 := rx_le_t hc; omega
      | false => exact ⟨_, rfl, rx_up_ok (show rx_gR ρ (rx_dn sr (rx_c n) (u.1 + 1)) from hR) hI (by show _ ≤ n - 1; omega)⟩
    | 1, hk =>
      have hk : x.toInt ≤ n := hk
      unfold rx_rel0
      cases hc : rx_le u.1 (n, n).2 with
      | false => have hc : n < u.1 := rx_le_f hc; omega
      | true => exact ⟨_, rfl, rx_up_ok (show rx_gR ρ (rx_dn sr (rx_c n) u.1) from hR) hI (by show _ ≤ n; omega)⟩
    | 2, hk =>
      have hk : n < x.toInt := hk
      unfold rx_rel0
      cases hc : rx_le u.2 (n, n).1 with
      | true => have hc : u.2 ≤ n := rx_le_t hc; omega
      | false => exact ⟨_, rfl, (show rx_gR ρ (rx_up (rx_dn sr r (n + 1)) (rx_c n) (u.2 - 1)) from rx_dn_ok hR hI (by omega))⟩
    | 3, hk =>
      have hk : n ≤ x.toInt := hk
      unfold rx_rel0
      cases hc : rx_le (n, n).1 u.2 with
      | false => have hc : u.2 < n := rx_le_f hc; omega
      | true => exact ⟨_, rfl, (show rx_gR ρ (rx_up (rx_dn sr r n) (rx_c n) u.2) from rx_dn_ok hR hI (by omega))⟩
    | j + 4, hk =>
      have hk : x.toInt = n := hk
      have e1 : rx_le u.1 (n, n).2 = true := (rx_le_iff _ _).mpr (by show u.1 ≤ n; omega)
      have e2 : rx_le (n, n).1 u.2 = true := (rx_le_iff _ _).mpr (by show n ≤ u.2; omega)
      unfold rx_rel0
      rw [e1, e2]
      have z := rx_up_ok (rx_dn_ok hR hI (show n ≤ x.toInt by omega)) hI (show x.toInt ≤ n by omega)
      exact ⟨_, rfl, z⟩
  cases hu : rx_rg sr r with
  | none =>
    refine ⟨sr, ?_, hR⟩
    unfold rx_rel
    rw [hu]
  | some u =>
    obtain ⟨z, h1, h2⟩ := main u (rx_rg_ok hR hI hu)
    refine ⟨z, ?_, h2⟩
    unfold rx_rel
    rw [hu]
    rcases r with a | a | a <;> exact h1
theorem rx_ok_38 : rx_hok 38 rx_sw := by
  intro ih hih q mi pc loc stk sr rh ce sl outs hq hc h
  obtain ⟨hd, -, hl⟩ := rx_d0 hc
  have hI : rx_ins q = .tableswitch q.2.2.2.2.1 (Int.ofNat q.2.2.1) (Int.ofNat q.2.2.2.2.2.1) q.2.2.2.2.2.2.2.2.toArray := by unfold rx_ins; rw [hq]; rfl
  rw [hI] at hd
  have hl : (Nat.beq (Nat.add q.2.2.2.2.2.1 1) (Nat.add q.2.2.1 q.2.2.2.2.2.2.2.2.length) && q.2.2.2.2.2.2.2.2.all (fun o => (rx_tgt pc o).isSome)) = true := by
    unfold rx_lnk at hl
    rw [hq] at hl
    exact hl
  obtain ⟨hl1, hl2⟩ := rx_and hl
  have hl1 : q.2.2.2.2.2.1 + 1 = q.2.2.1 + q.2.2.2.2.2.2.2.2.length := rx_beq hl1
  unfold rx_sw at h
  split at h
  · rename_i v rest
    split at h
    · cases h
    · rename_i td htd
      have htd := rx_tgt_ok htd
      intro p l e R s m args below meth c D cc A ρ b L xs as0 Q hF hsc hK H locs ws ls st hW hS
      obtain ⟨hR, hH, hN, hL, hX⟩ := hS
      obtain ⟨_, st, rfl, ⟨xx, rfl, hx⟩, hL1⟩ := hL.cons
      have go : ∀ (t : Nat) (z : rx_S) (r : List rx_A), ih mi t loc rest z rh ce sl = some r → (∀ o ∈ r, o ∈ outs) → rx_gR ρ z → W p l e R s m args below meth c H locs ce sl Q (F0 m t ls st) := fun t z r hr hsub hz =>
        hih _ _ _ _ _ _ _ _ _ hr p l e R s m args below meth c D cc A ρ b L xs as0 Q hF hsc (fun o ho => hK o (hsub o ho)) H locs ws ls st hW ⟨hz, hH, hN, hL1, hX⟩
      by_cases c1 : xx.toInt < Int.ofNat q.2.2.1
      · refine lv_tableOut hF.1.1 hF.1.2.1 hd (Or.inl c1) htd ?_
        obtain ⟨z, e1, hz⟩ := rx_relc_ok (k := 0) hR hx c1
        obtain ⟨r, hr, hsub⟩ := rx_all_ok h (td, z) (by rw [e1]; exact List.mem_append_left _ List.mem_cons_self)
        exact go td z r hr hsub hz
      · by_cases c2 : Int.ofNat q.2.2.2.2.2.1 < xx.toInt
        · refine lv_tableOut hF.1.1 hF.1.2.1 hd (Or.inr c2) htd ?_
          obtain ⟨z, e1, hz⟩ := rx_relc_ok (k := 2) hR hx c2
          obtain ⟨r, hr, hsub⟩ := rx_all_ok h (td, z) (by rw [e1]; exact List.mem_append_right _ (List.mem_append_left _ List.mem_cons_self))
          exact go td z r hr hsub hz
        · have b1 : (q.2.2.1 : Int) ≤ xx.toInt := Int.not_lt.mp c1
          have b2 : xx.toInt ≤ (q.2.2.2.2.2.1 : Int) := Int.not_lt.mp c2
          have hk : (xx.toInt - Int.ofNat q.2.2.1).toNat < q.2.2.2.2.2.2.2.2.length := by
            show (xx.toInt - (q.2.2.1 : Int)).toNat < _
            omega
          generalize hj : (xx.toInt - Int.ofNat q.2.2.1).toNat = j at hk
          have hoff : q.2.2.2.2.2.2.2.2[j]? = some q.2.2.2.2.2.2.2.2[j] := List.getElem?_eq_getElem hk
          have ht := List.all_eq_true.mp hl2 _ (List.getElem_mem hk)
          obtain ⟨t, ht⟩ := Option.isSome_iff_exists.mp ht
          refine lv_tableIn (off := q.2.2.2.2.2.2.2.2[j]) hF.1.1 hF.1.2.1 hd c1 c2 (by rw [hj, List.getElem?_toArray]; exact hoff) (rx_tgt_ok ht) ?_
          have e9 : xx.toInt = Int.ofNat (q.2.2.1 + j) := by
            show xx.toInt = ((q.2.2.1 + j : Nat) : Int)
            have hj : (xx.toInt - (q.2.2.1 : Int)).toNat = j := hj
            omega
          obtain ⟨z, e1, hz⟩ := rx_relc_ok (k := 4) (n := Int.ofNat (q.2.2.1 + j)) hR hx e9
          obtain ⟨r, hr, hsub⟩ := rx_all_ok h (t, z) (List.mem_append_right _ (List.mem_append_right _ (List.mem_filterMap.mpr ⟨j, List.mem_range.mpr hk, by
            rw [rx_at_eq, hoff]
            dsimp only
            rw [ht]
            dsimp only
            rw [e1]⟩)))
          exact go t z r hr hsub hz
  · cases h
end
section
/-! the heap -/
theorem rx_gH.lt {ρ : Nat → Int} {b : Nat} {cc : Nat → ClassId} {rh : rx_H} {ws : va_W} (h : rx_gH ρ b cc rh ws) {k a : Nat} (hk : (ws.map Prod.fst)[k]? = some a) : k < rh.2 := by
  have := (List.getElem?_eq_some_iff.mp hk).1
  rw [List.length_map, h.1] at this
  exact this
/-- a cell, by a reference to it -/
theorem rx_gH.cell {ρ : Nat → Int} {b : Nat} {cc : Nat → ClassId} {rh : rx_H} {ws : va_W} (h : rx_gH ρ b cc rh ws) {k a : Nat} {c : rx_C} (hk : (ws.map Prod.fst)[k]? = some a) (hc : rx_hget rh k = some c) : ∃ e : va_E, ws[k]? = some (a, e) ∧ rx_gC ρ b cc (ws.map Prod.fst) c e := by
  obtain ⟨q, h1, h2⟩ := h.2 k c (h.lt hk) hc
  rw [List.getElem?_map, h1] at hk
  have hk : q.1 = a := Option.some.inj hk
  obtain ⟨q1, q2⟩ := q
  cases hk
  exact ⟨q2, h1, h2⟩
theorem rx_hget_lt {rh : rx_H} {k : Nat} {c : rx_C} (h : rx_hget rh k = some c) : k < 256 := by
  unfold rx_hget at h
  exact rx_blt (rx_cnd h).1
theorem rx_map_set {ws : va_W} {k a : Nat} {e e2 : va_E} (h : ws[k]? = some (a, e)) : (ws.set k (a, e2)).map Prod.fst = ws.map Prod.fst := by
  apply List.ext_getElem?
  intro j
  rw [List.getElem?_map, List.getElem?_map]
  by_cases hj : j = k
  · subst hj
    rw [List.getElem?_set_self (List.getElem?_eq_some_iff.mp h).1, h]
    rfl
  · rw [List.getElem?_set_ne (Ne.symm hj)]
theorem rx_gH.set {ρ : Nat → Int} {b : Nat} {cc : Nat → ClassId} {rh : rx_H} {ws : va_W} (h : rx_gH ρ b cc rh ws) {k a : Nat} {c0 c : rx_C} {e e2 : va_E} (hc : rx_hget rh k = some c0) (hk : ws[k]? = some (a, e)) (he : rx_gC ρ b cc (ws.map Prod.fst) c e2) : rx_gH ρ b cc (rx_hset rh k c) (ws.set k (a, e2)) := by
  refine ⟨by rw [List.length_set]; exact h.1, fun j d hj hd => ?_⟩
  rw [rx_map_set hk]
  rw [rx_hget_set c (rx_hget_lt hc) j] at hd
  by_cases e9 : j = k
  · rw [if_pos e9] at hd
    cases hd
    subst e9
    exact ⟨(a, e2), List.getElem?_set_self (List.getElem?_eq_some_iff.mp hk).1, he⟩
  · rw [if_neg e9] at hd
    obtain ⟨q, h1, h2⟩ := h.2 j d hj hd
    exact ⟨q, by rw [List.getElem?_set_ne (Ne.symm e9)]; exact h1, h2⟩
theorem rx_gH.push {ρ : Nat → Int} {b : Nat} {cc : Nat → ClassId} {rh : rx_H} {ws : va_W} (h : rx_gH ρ b cc rh ws) {a : Nat} {c : rx_C} {e : va_E} (hz : rh.2 < 256) (he : rx_gC ρ b cc ((ws ++ [(a, e)]).map Prod.fst) c e) : rx_gH ρ b cc (rx_hpush rh c) (ws ++ [(a, e)]) := by
  refine ⟨by rw [List.length_append, h.1]; rfl, fun j d hj hd => ?_⟩
  have hj : j < rh.2 + 1 := hj
  rw [rx_hget_push c hz j] at hd
  by_cases e9 : j = rh.2
  · rw [if_pos e9] at hd
    cases hd
    refine ⟨(a, e), ?_, he⟩
    rw [e9, ← h.1, List.getElem?_append_right (Nat.le_refl _), Nat.sub_self]
    rfl
  · rw [if_neg e9] at hd
    obtain ⟨q, h1, h2⟩ := h.2 j d (by omega) hd
    have hl := (List.getElem?_eq_some_iff.mp h1).1
    refine ⟨q, by rw [List.getElem?_append_left hl]; exact h1, rx_gC.ex ⟨[a], by rw [List.map_append]; rfl⟩ h2⟩
theorem rx_ext_push (ws : va_W) (a : Nat) (e : va_E) : rx_ext (ws.map Prod.fst) ((ws ++ [(a, e)]).map Prod.fst) := ⟨[a], by rw [List.map_append]; rfl⟩
theorem rx_new_at {ρ : Nat → Int} {b : Nat} {cc : Nat → ClassId} {rh : rx_H} {ws : va_W} (h : rx_gH ρ b cc rh ws) (a : Nat) (e : va_E) : ((ws ++ [(a, e)]).map Prod.fst)[rh.2]? = some a := by
  rw [List.map_append, List.getElem?_append_right (by rw [List.length_map, h.1]; exact Nat.le_refl _), List.length_map, h.1, Nat.sub_self]
  rfl
theorem rx_ok_2 : rx_hok 2 rx_getf := by
  intro ih hih q mi pc loc stk sr rh ce sl outs hq hc h
  obtain ⟨hd, hn⟩ := rx_d1 hc hq (I := .getfield q.2.2.2.2.2.2.2.1) (n := 3) (by unfold rx_ins; rw [hq]; rfl) rfl (by decide)
  have hl : (match rx_at rx_cls q.2.2.1 with
    | some (_, T, N) => Nat.blt q.2.2.2.1 N && rx_mem q.2.2.2.2.2.2.1 (.fieldLink (rx_y mi).cls q.2.2.2.2.2.2.2.1 (T q.2.2.2.1).1 (T q.2.2.2.1).2.1 (T q.2.2.2.1).2.2.1)
    | none => false) = true := by
    have := (rx_d0 hc).2.2
    unfold rx_lnk at this
    rw [hq] at this
    exact this
  unfold rx_getf at h
  split at h
  · rename_i o rest
    split at h
    · rename_i w hw
      obtain ⟨hci, h⟩ := rx_cnd h
      have hci := rx_beq hci
      split at h
      · rename_i v hv
        intro p l e R s m args below meth c D cc A ρ b L xs as0 Q hF hsc hK H locs ws ls st hW hS
        obtain ⟨hR, hH, hN, hL, hX⟩ := hS
        obtain ⟨_, st, rfl, ⟨a, ha, rfl⟩, hL1⟩ := hL.cons
        obtain ⟨ee, e1, fs, rfl, hfs⟩ := hH.cell ha hw
        rw [rx_at_eq] at hv
        obtain ⟨vv, e2, hvv⟩ := hfs.at hv
        rw [rx_at_eq] at hl
        cases hcl : rx_cls[q.2.2.1]? with
        | none => rw [hcl] at hl; cases hl
        | some z =>
          obtain ⟨C, T, N⟩ := z
          rw [hcl] at hl
          obtain ⟨g1, g2⟩ := rx_and hl
          obtain ⟨ty, -, k1, k2, k3, -⟩ := rx_cls_ok _ _ _ _ hcl
          have ht := hF.1.2.2.2.2
          have k := hih _ _ _ _ _ _ _ _ _ h p l e R s m args below meth c D cc A ρ b L xs as0 Q hF hsc hK H locs ws ls (vv :: st) hW ⟨hR, hH, hN, ⟨hvv, hL1⟩, hX⟩
          have e9 : Nat.add pc q.2.1 = pc + 3 := by rw [hn]
          rw [e9] at k
          exact va_get hF.1.1 hF.1.2.1 ht k1 hF.1.2.2.2.1 hW.1 hW.2.1 o e1 (by rw [hci]; exact hcl) q.2.2.2.1 (rx_blt g1) (ht _ (rx_mem_ok g2)) (fun x hx => hx) e2 hd k
      · cases h
    · cases h
  · cases h
end
section
theorem rx_ok_6 : rx_hok 6 rx_ret := by
  intro ih hih q mi pc loc stk sr rh ce sl outs hq hc h
  have h : some [(mi, pc, loc, stk, sr, rh, ce, sl)] = some outs := h
  cases h
  intro p l e R s m args below meth c D cc A ρ b L xs as0 Q hF hsc hK H locs ws ls st hW hS
  exact hK _ List.mem_cons_self H locs ws ls st hW hS
theorem rx_ok_26 : rx_hok 26 rx_ret := by
  intro ih hih q mi pc loc stk sr rh ce sl outs hq hc h
  have h : some [(mi, pc, loc, stk, sr, rh, ce, sl)] = some outs := h
  cases h
  intro p l e R s m args below meth c D cc A ρ b L xs as0 Q hF hsc hK H locs ws ls st hW hS
  exact hK _ List.mem_cons_self H locs ws ls st hW hS
theorem rx_01 {x : Int32} (h1 : 0 ≤ x.toInt) (h2 : x.toInt ≤ 1) : x = 0 ∨ x = 1 := by
  rcases (show x.toInt = 0 ∨ x.toInt = 1 by omega) with h | h
  · exact Or.inl (Int32.toInt_inj.mp (by rw [h]; rfl))
  · exact Or.inr (Int32.toInt_inj.mp (by rw [h]; rfl))
theorem rx_takes_ok {ρ : Nat → Int} {b : Nat} {as : List Nat} {sr : rx_S} {k : Nat} {r : rx_V} {v : Value} {t : FieldType} (hR : rx_gR ρ sr) (hv : rx_gV ρ b as r v) (h : rx_takes k sr r = true) (hk : rx_kty k t = true) : narrow t v = v ∧ fits t v = true := by
  unfold rx_takes at h
  split at h
  · obtain ⟨x, rfl, -⟩ := hv
    unfold rx_kty at hk
    split at hk <;> first | exact ⟨rfl, rfl⟩ | (rename_i e; cases e) | cases hk
  · rename_i i
    obtain ⟨x, rfl, hx⟩ := hv
    have h01 : x = 0 ∨ x = 1 := by
      have hin : rx_in sr i 0 1 = true := h
      obtain ⟨a1, a2⟩ := rx_in_ok hR hx hin
      exact rx_01 a1 a2
    cases t with
    | boolean => rcases h01 with rfl | rfl <;> exact ⟨rfl, rfl⟩
    | _ => cases hk
  · obtain ⟨a, -, rfl⟩ := hv
    cases t with
    | object n => exact ⟨rfl, rfl⟩
    | array n => exact ⟨rfl, rfl⟩
    | _ => cases hk
  · cases h
theorem rx_ok_15 : rx_hok 15 rx_putf := by
  intro ih hih q mi pc loc stk sr rh ce sl outs hq hc h
  obtain ⟨hd, hn⟩ := rx_d1 hc hq (I := .putfield q.2.2.2.2.2.2.2.1) (n := 3) (by unfold rx_ins; rw [hq]; rfl) rfl (by decide)
  have hl : (match rx_at rx_cls q.2.2.1, rx_at rx_Ys q.2.2.1 with
    | some (_, T, N), some ty => Nat.blt q.2.2.2.1 N && rx_mem q.2.2.2.2.2.2.1 (.fieldLink (rx_y mi).cls q.2.2.2.2.2.2.2.1 (T q.2.2.2.1).1 (T q.2.2.2.1).2.1 (T q.2.2.2.1).2.2.1) && rx_kty (q.2.2.2.2.2.1 % 10) (ty q.2.2.2.1) && (cond (T q.2.2.2.1).2.2.2 (decide ((rx_y mi).name = "<init>") && decide ((T q.2.2.2.1).1 = (rx_y mi).cls)) true)
    | _, _ => false) = true := by
    have := (rx_d0 hc).2.2
    unfold rx_lnk at this
    rw [hq] at this
    exact this
  unfold rx_putf at h
  split at h
  · rename_i v o rest
    split at h
    · rename_i w hw
      obtain ⟨h1, h⟩ := rx_cnd h
      obtain ⟨hci, htk⟩ := rx_and h1
      have hci := rx_beq hci
      split at h
      · rename_i v0 hv0
        intro p l e R s m args below meth c D cc A ρ b L xs as0 Q hF hsc hK H locs ws ls st hW hS
        obtain ⟨hR, hH, hN, hL, hX⟩ := hS
        obtain ⟨vv, s1, rfl, hvv, hL1⟩ := hL.cons
        obtain ⟨_, st, rfl, ⟨a, ha, rfl⟩, hL2⟩ := hL1.cons
        obtain ⟨ee, e1, fs, rfl, hfs⟩ := hH.cell ha hw
        rw [rx_at_eq] at hv0
        rw [rx_at_eq, rx_at_eq] at hl
        cases hcl : rx_cls[q.2.2.1]? with
        | none => rw [hcl] at hl; cases hl
        | some z =>
          obtain ⟨C, T, N⟩ := z
          obtain ⟨ty, hY, k1, k2, k3, -⟩ := rx_cls_ok _ _ _ _ hcl
          rw [hcl, hY] at hl
          obtain ⟨hl, g4⟩ := rx_and hl
          obtain ⟨hl, g3⟩ := rx_and hl
          obtain ⟨g1, g2⟩ := rx_and hl
          have g1 := rx_blt g1
          obtain ⟨n1, n2⟩ := rx_takes_ok hR hvv htk g3
          have ht := hF.1.2.2.2.2
          have hlen : q.2.2.2.1 < fs.length := by
            rw [hfs.len]
            exact (List.getElem?_eq_some_iff.mp hv0).1
          have hcl2 : rx_cls[w.1]? = some (C, T, N) := by rw [hci]; exact hcl
          have kk : ∀ (H1 : Heap) (locs1 : List Loc), va_P D rx_cls (ws.set o (a, .inr (w.1, fs.set q.2.2.2.1 vv))) H1 → va_D A (ws.set o (a, .inr (w.1, fs.set q.2.2.2.1 vv))) → va_S A s.heap H1 locs1 → W p l e R s m args below meth c H1 locs1 ce sl Q (F0 m (pc + 3) ls st) := by
            intro H1 locs1 hP1 hD1 hS1
            have em : (ws.set o (a, (.inr (w.1, fs.set q.2.2.2.1 vv) : va_E))).map Prod.fst = ws.map Prod.fst := rx_map_set e1
            have k := hih _ _ _ _ _ _ _ _ _ h p l e R s m args below meth c D cc A ρ b L xs as0 Q hF hsc hK H1 locs1 (ws.set o (a, .inr (w.1, fs.set q.2.2.2.1 vv))) ls st ⟨hW.1, hP1, hD1, hS1, hW.2.2.2.2⟩ ⟨hR, hH.set hw e1 ⟨_, rfl, by rw [rx_set_eq]; exact hfs.set hvv _⟩, by rw [em]; exact hN, by rw [em]; exact hL2, by rw [em]; exact hX⟩
            have e9 : Nat.add pc q.2.1 = pc + 3 := by rw [hn]
            rw [e9] at k
            exact k
          cases hfin : (T q.2.2.2.1).2.2.2 with
          | false => exact va_put hF.1.1 hF.1.2.1 ht k1 ty (fun k hk => (k2 k hk).1) k3 hF.1.2.2.2.1 hW.1 hW.2.1 hW.2.2.1 hW.2.2.2.1 o e1 hcl2 q.2.2.2.1 g1 (ht _ (rx_mem_ok g2)) (fun x hx => hx) hfin (k2 _ g1).1 n1 n2 hlen hd kk
          | true =>
            rw [hfin] at g4
            obtain ⟨g5, g6⟩ := rx_and g4
            have hname : meth.name = "<init>" := by
              rcases hF.2.2 with h0 | h0
              · subst h0
                exact absurd (of_decide_eq_true g5) (by show ¬ ("law" = "<init>"); decide)
              · exact h0.trans (of_decide_eq_true g5)
            exact va_putF hF.1.1 hF.1.2.1 ht k1 ty (fun k hk => (k2 k hk).1) k3 hF.1.2.2.2.1 hW.1 hW.2.1 hW.2.2.1 hW.2.2.2.1 o e1 hcl2 q.2.2.2.1 g1 (ht _ (rx_mem_ok g2)) (fun x hx => hx) hfin hname (of_decide_eq_true g6) (k2 _ g1).1 n1 n2 hlen hd kk
      · cases h
    · cases h
  · cases h
/-! places of arrays -/
theorem rx_tnc {x : Int32} {j : Nat} (h : x.toInt = Int.ofNat j) : x.toNatClampNeg = j := by
  show x.toInt.toNat = j
  rw [h]
  rfl
theorem rx_vin {x : Int32} {j n : Nat} (h : x.toInt = Int.ofNat j) (hj : j < n) : vp_in x n := vp_in_iff.mpr (by
  have h : x.toInt = (j : Int) := h
  omega)
theorem rx_exact_goal {sr : rx_S} {r : rx_I} {f : rx_S → Option (List rx_A)} {k : Nat → Option (List rx_A)} {mi pc : Nat} {loc : rx_L} {stk : List rx_V} {rh : rx_H} {ce sl : Nat} {outs : List rx_A} (h : rx_exact sr r f k = some outs) (hf : ∀ (s2 : rx_S) (o2 : List rx_A), f s2 = some o2 → rx_goal mi pc loc stk s2 rh ce sl o2)
    (hk : ∀ j : Nat, k j = some outs → (∀ (ρ : Nat → Int) (x : Int32), rx_gR ρ sr → rx_gI ρ r x → x.toInt = Int.ofNat j) → rx_goal mi pc loc stk sr rh ce sl outs) : rx_goal mi pc loc stk sr rh ce sl outs := by
  unfold rx_exact at h
  split at h
  · rename_i n hn
    refine hk n h (fun ρ x hR hx => ?_)
    have h1 := rx_norm_ok hR hx
    rw [hn] at h1
    exact h1
  · cases h
  · split at h
    · rename_i q hq
      exact rx_split_goal h hf (fun ρ hR => rx_few_ok hR hq)
    · cases h
/-- rx_look behind a write -/
theorem rx_look_ovr {ρ : Nat → Int} {d : rx_I} {ov : List (Nat × rx_I)} {j i : Nat} {r : rx_I} {x y : Int32} (hr : rx_gI ρ r x) (hi : i ≠ j → rx_gI ρ (rx_look d ov i) y) : rx_gI ρ (rx_look d (rx_ovr d ov j r) i) (if i = j then x else y) := by
  have keyf : ∀ l : List (Nat × rx_I), rx_key (List.rec (motive := fun _ => List (Nat × rx_I)) [] (fun q _ ih => cond (Nat.beq q.1 j) ih (q :: ih)) l) i = if i = j then none else rx_key l i := by
    intro l
    induction l with
    | nil => show none = _; split <;> rfl
    | cons q t ih =>
      show rx_key (cond (Nat.beq q.1 j) _ (q :: _)) i = _
      rw [rx_key_cons]
      cases hb : Nat.beq q.1 j with
      | true =>
        have e := rx_beq hb
        refine Eq.trans ih ?_
        by_cases e9 : i = j
        · rw [if_pos e9, if_pos e9]
        · rw [if_neg e9, if_neg e9]
          cases hb2 : Nat.beq q.1 i with
          | true => exact absurd ((rx_beq hb2).symm.trans e) e9
          | false => rfl
      | false =>
        show rx_key (q :: _) i = _
        rw [rx_key_cons, ih]
        by_cases e9 : i = j
        · rw [if_pos e9]
          cases hb2 : Nat.beq q.1 i with
          | true => exact absurd ((rx_beq hb2).trans e9) (rx_bne hb)
          | false => rw [if_pos e9]; rfl
        · rw [if_neg e9, if_neg e9]
  unfold rx_ovr
  cases hc : rx_isc r d with
  | true =>
    show rx_gI ρ (rx_look d (List.rec (motive := fun _ => List (Nat × rx_I)) [] (fun q _ ih => cond (Nat.beq q.1 j) ih (q :: ih)) ov) i) _
    unfold rx_look
    rw [keyf ov]
    by_cases e9 : i = j
    · rw [if_pos e9, if_pos e9]
      unfold rx_isc at hc
      split at hc
      · have e := rx_beq hc
        subst e
        exact hr
      · cases hc
    · rw [if_neg e9, if_neg e9]
      exact hi e9
  | false =>
    show rx_gI ρ (rx_look d (rx_put ov j r) i) _
    have hput : rx_key (rx_put ov j r) i = if i = j then some r else rx_key ov i := by
      unfold rx_put
      split
      · rw [rx_key_cons]
        by_cases e9 : i = j
        · rw [if_pos e9, e9]
          cases hb : Nat.beq (j, r).1 j with
          | true => rfl
          | false => exact absurd rfl (rx_bne hb)
        · rw [if_neg e9]
          cases hb : Nat.beq (j, r).1 i with
          | true => exact absurd (rx_beq hb).symm e9
          | false => rfl
      · rename_i q t
        have hd : ∀ t2 : List (Nat × rx_I), rx_key ((j, r) :: t2) i = if i = j then some r else rx_key t2 i := by
          intro t2
          rw [rx_key_cons]
          by_cases e9 : i = j
          · rw [if_pos e9, e9]
            cases hb : Nat.beq (j, r).1 j with
            | true => rfl
            | false => exact absurd rfl (rx_bne hb)
          · rw [if_neg e9]
            cases hb : Nat.beq (j, r).1 i with
            | true => exact absurd (rx_beq hb).symm e9
            | false => rfl
        cases hb : Nat.beq q.1 j with
        | true =>
          show rx_key ((j, r) :: t) i = _
          rw [hd t]
          by_cases e9 : i = j
          · rw [if_pos e9, if_pos e9]
          · rw [if_neg e9, if_neg e9, rx_key_cons]
            cases hb2 : Nat.beq q.1 i with
            | true => exact absurd ((rx_beq hb2).symm.trans (rx_beq hb)) e9
            | false => rfl
        | false => exact hd (q :: t)
    unfold rx_look
    rw [hput]
    by_cases e9 : i = j
    · rw [if_pos e9, if_pos e9]
      exact hr
    · rw [if_neg e9, if_neg e9]
      exact hi e9
theorem rx_byte {x : Int32} (h1 : -128 ≤ x.toInt) (h2 : x.toInt ≤ 127) : vp_nar .byte x = x := by
  rw [vp_nar_byte]
  apply Int32.toInt_inj.mp
  rw [Int8.toInt_toInt32, Int32.toInt_toInt8]
  exact Int.bmod_eq_of_le_mul_two (by omega) (by omega)
theorem rx_bool {x : Int32} (h1 : 0 ≤ x.toInt) (h2 : x.toInt ≤ 1) : vp_nar .boolean x = x := by
  rcases rx_01 h1 h2 with rfl | rfl <;> rfl
/-! arrays -/
theorem rx_ald_goal {tk : Nat → Bool} {ih : rx_F} (hih : rx_snd ih) {q : rx_Q} {mi pc : Nat} {loc : rx_L} {stk : List rx_V} {sr : rx_S} {rh : rx_H} {ce sl : Nat} {outs : List rx_A} (h : rx_ald tk ih q mi pc loc stk sr rh ce sl = some outs)
    (sA : ∀ (p : Program) (l : Launch) (e : Env) (R : Room) (s : State) (m : MethodId) (args : Array Value) (below : List Frame) (meth : Method) (c : Code) (D : va_G) (cc : Nat → ClassId) (H : Heap) (locs : List Loc) (Q : State → Prop) (ls : Array Slot) (ws : va_W) (o a t n : Nat) (f : Nat → Int32) (i : Int32) (st : List Value), rx_fr p R s m args meth c mi → va_K D rx_cls (rx_tys cc) s → va_P D rx_cls ws H → ws[o]? = some (a, .inl (cc t, n, .inl f)) → tk t = true → vp_in i n → W p l e R s m args below meth c H locs ce sl Q (F0 m (pc + q.2.1) ls (.int (f i.toNatClampNeg) :: st)) → W p l e R s m args below meth c H locs ce sl Q (F0 m pc ls (.int i :: .ref a :: st)))
    (sX : tk 0 = true → ∀ (p : Program) (l : Launch) (e : Env) (R : Room) (s : State) (m : MethodId) (args : Array Value) (below : List Frame) (meth : Method) (c : Code) (A : Nat → Prop) (H : Heap) (locs : List Loc) (Q : State → Prop) (ls : Array Slot) (b L : Nat) (xs : Nat → Int32) (i : Int32) (st : List Value), rx_fr p R s m args meth c mi → va_X b L xs s s.heap → b < s.heap.size → ¬ A b → va_S A s.heap H locs → vp_in i L → W p l e R s m args below meth c H locs ce sl Q (F0 m (pc + q.2.1) ls (.int (xs i.toNatClampNeg) :: st)) → W p l e R s m args below meth c H locs ce sl Q (F0 m pc ls (.int i :: .ref b :: st))) : rx_goal mi pc loc stk sr rh ce sl outs := by
  unfold rx_ald at h
  split at h
  · rename_i r o rest
    refine rx_exact_goal h (fun s2 o2 h2 => hih _ _ _ _ _ _ _ _ _ h2) (fun j h hj => ?_)
    split at h
    · rename_i w hw
      obtain ⟨h1, h⟩ := rx_cnd h
      obtain ⟨h1, g3⟩ := rx_and h1
      obtain ⟨g1, g2⟩ := rx_and h1
      intro p l e R s m args below meth c D cc A ρ b L xs as0 Q hF hsc hK H locs ws ls st hW hS
      obtain ⟨hR, hH, hN, hL, hX⟩ := hS
      obtain ⟨_, s1, rfl, ⟨xx, rfl, hx⟩, hL1⟩ := hL.cons
      obtain ⟨_, st, rfl, ⟨a, ha, rfl⟩, hL2⟩ := hL1.cons
      obtain ⟨ee, e1, f, rfl, hf⟩ := hH.cell ha hw
      have ej := hj ρ xx hR hx
      exact sA p l e R s m args below meth c D cc H locs Q ls ws o a _ _ f xx st hF hW.1 hW.2.1 e1 g1 (rx_vin ej (rx_blt g2)) (hih _ _ _ _ _ _ _ _ _ h p l e R s m args below meth c D cc A ρ b L xs as0 Q hF hsc hK H locs ws ls _ hW ⟨hR, hH, hN, ⟨⟨_, rfl, by rw [rx_tnc ej]; exact hf j (rx_blt g2)⟩, hL2⟩, hX⟩)
    · cases h
  · rename_i j u rest
    obtain ⟨h1, h⟩ := rx_cnd h
    obtain ⟨h1, g3⟩ := rx_and h1
    obtain ⟨g1, g2⟩ := rx_and h1
    split at h
    · rename_i w hw
      obtain ⟨g4, h⟩ := rx_cnd h
      have g4 : Int.ofNat j + 1 ≤ w.1 := rx_le_t g4
      intro p l e R s m args below meth c D cc A ρ b L xs as0 Q hF hsc hK H locs ws ls st hW hS
      obtain ⟨hR, hH, hN, hL, hX⟩ := hS
      obtain ⟨_, s1, rfl, ⟨xx, rfl, hx⟩, hL1⟩ := hL.cons
      obtain ⟨bb, st, rfl, hbb, hL2⟩ := hL1.cons
      have hbb : bb = .ref b := hbb
      subst hbb
      have hx : xx.toInt = Int.ofNat j := hx
      obtain ⟨x1, x2, x3, x4, x5, x6⟩ := hsc (rx_beq g1)
      rw [rx_at_eq] at hw
      obtain ⟨r1, r2⟩ := hR _ _ hw
      have g4 : (j : Int) + 1 ≤ w.1 := g4
      have hjL : j < L := by omega
      have k := hih _ _ _ _ _ _ _ _ _ h p l e R s m args below meth c D cc A ρ b L xs as0 Q hF hsc hK H locs ws ls (.int (xs xx.toNatClampNeg) :: st) hW ⟨hR, hH, hN, ⟨⟨_, rfl, by
        show (xs xx.toNatClampNeg).toInt = ρ j + 0
        rw [rx_tnc hx, x4 j (rx_blt g3)]
        omega⟩, hL2⟩, hX⟩
      exact sX g2 p l e R s m args below meth c A H locs Q ls b L xs xx st hF x1 x2 x3 hW.2.2.2.1 (rx_vin hx hjL) k
    · cases h
  · cases h
theorem rx_ok_9 : rx_hok 9 (rx_ald (fun t => Nat.beq t 0)) := by
  intro ih hih q mi pc loc stk sr rh ce sl outs hq hc h
  obtain ⟨hd, hn⟩ := rx_d1 hc hq (I := .iaload) (n := 1) (by unfold rx_ins; rw [hq]; rfl) rfl (by decide)
  refine rx_ald_goal hih h (fun p l e R s m args below meth c D cc H locs Q ls ws o a t n f i st hF hK hP e1 htk hin k => ?_) (fun _ p l e R s m args below meth c A H locs Q ls b L xs i st hF x1 x2 x3 hS hin k => ?_)
  · rw [hn] at k
    have ht := rx_beq htk
    subst ht
    exact va_iald hF.1.1 hF.1.2.1 hK hP o 0 e1 rfl hin hd k
  · rw [hn] at k
    exact va_sld hF.1.1 hF.1.2.1 x1 x2 x3 hS hin hd k
theorem rx_ok_39 : rx_hok 39 (rx_ald (fun t => Nat.beq t 1 || Nat.beq t 2)) := by
  intro ih hih q mi pc loc stk sr rh ce sl outs hq hc h
  obtain ⟨hd, hn⟩ := rx_d1 hc hq (I := .baload) (n := 1) (by unfold rx_ins; rw [hq]; rfl) rfl (by decide)
  refine rx_ald_goal hih h (fun p l e R s m args below meth c D cc H locs Q ls ws o a t n f i st hF hK hP e1 htk hin k => ?_) (fun e => by cases e)
  rw [hn] at k
  rw [Bool.or_eq_true] at htk
  rcases htk with ht | ht
  · have ht := rx_beq ht
    subst ht
    exact va_bald hF.1.1 hF.1.2.1 hK hP o 1 e1 rfl hin hd k
  · have ht := rx_beq ht
    subst ht
    exact va_zald hF.1.1 hF.1.2.1 hK hP o 2 e1 rfl hin hd k
theorem rx_ast_goal {tk : rx_S → Nat → rx_I → Bool} {ih : rx_F} (hih : rx_snd ih) {q : rx_Q} {mi pc : Nat} {loc : rx_L} {stk : List rx_V} {sr : rx_S} {rh : rx_H} {ce sl : Nat} {outs : List rx_A} (h : rx_ast tk ih q mi pc loc stk sr rh ce sl = some outs)
    (sA : ∀ (p : Program) (l : Launch) (e : Env) (R : Room) (s : State) (m : MethodId) (args : Array Value) (below : List Frame) (meth : Method) (c : Code) (D : va_G) (cc : Nat → ClassId) (A : Nat → Prop) (H : Heap) (locs : List Loc) (Q : State → Prop) (ls : Array Slot) (ws : va_W) (o a t n : Nat) (f : Nat → Int32) (i x : Int32) (v : rx_I) (ρ : Nat → Int) (st : List Value), rx_fr p R s m args meth c mi → rx_wd D cc A s H locs ws → ws[o]? = some (a, .inl (cc t, n, .inl f)) → rx_gR ρ sr → rx_gI ρ v x → tk sr t v = true → vp_in i n → (∀ (H1 : Heap) (locs1 : List Loc), va_P D rx_cls (ws.set o (a, .inl (cc t, n, .inl (upd f i.toNatClampNeg x)))) H1 → va_D A (ws.set o (a, .inl (cc t, n, .inl (upd f i.toNatClampNeg x)))) → va_S A s.heap H1 locs1 → W p l e R s m args below meth c H1 locs1 ce sl Q (F0 m (pc + q.2.1) ls st)) → W p l e R s m args below meth c H locs ce sl Q (F0 m pc ls (.int x :: .int i :: .ref a :: st))) : rx_goal mi pc loc stk sr rh ce sl outs := by
  unfold rx_ast at h
  split at h
  · rename_i v r o rest
    refine rx_exact_goal h (fun s2 o2 h2 => hih _ _ _ _ _ _ _ _ _ h2) (fun j h hj => ?_)
    split at h
    · rename_i w hw
      obtain ⟨h1, h⟩ := rx_cnd h
      obtain ⟨h1, g3⟩ := rx_and h1
      obtain ⟨g1, g2⟩ := rx_and h1
      intro p l e R s m args below meth c D cc A ρ b L xs as0 Q hF hsc hK H locs ws ls st hW hS
      obtain ⟨hR, hH, hN, hL, hX⟩ := hS
      obtain ⟨_, s0, rfl, ⟨vv, rfl, hv⟩, hL0⟩ := hL.cons
      obtain ⟨_, s1, rfl, ⟨xx, rfl, hx⟩, hL1⟩ := hL0.cons
      obtain ⟨_, st, rfl, ⟨a, ha, rfl⟩, hL2⟩ := hL1.cons
      obtain ⟨ee, e1, f, rfl, hf⟩ := hH.cell ha hw
      have ej := hj ρ xx hR hx
      refine sA p l e R s m args below meth c D cc A H locs Q ls ws o a _ _ f xx vv v ρ st hF hW e1 hR hv g1 (rx_vin ej (rx_blt g2)) (fun H1 locs1 hP1 hD1 hS1 => ?_)
      have em : (ws.set o (a, (.inl (cc w.1.1, w.1.2, .inl (upd f xx.toNatClampNeg vv)) : va_E))).map Prod.fst = ws.map Prod.fst := rx_map_set e1
      refine hih _ _ _ _ _ _ _ _ _ h p l e R s m args below meth c D cc A ρ b L xs as0 Q hF hsc hK H1 locs1 _ ls st ⟨hW.1, hP1, hD1, hS1, hW.2.2.2.2⟩ ⟨hR, hH.set hw e1 ⟨_, rfl, fun i hi => ?_⟩, by rw [em]; exact hN, by rw [em]; exact hL2, by rw [em]; exact hX⟩
      rw [rx_tnc ej]
      exact rx_look_ovr hv (fun _ => hf i hi)
    · cases h
  · cases h
theorem rx_ok_10 : rx_hok 10 (rx_ast (fun _ t _ => Nat.beq t 0)) := by
  intro ih hih q mi pc loc stk sr rh ce sl outs hq hc h
  obtain ⟨hd, hn⟩ := rx_d1 hc hq (I := .iastore) (n := 1) (by unfold rx_ins; rw [hq]; rfl) rfl (by decide)
  refine rx_ast_goal hih h (fun p l e R s m args below meth c D cc A H locs Q ls ws o a t n f i x v ρ st hF hW e1 hR hv htk hin k => ?_)
  rw [hn] at k
  have ht := rx_beq htk
  subst ht
  exact va_iast hF.1.1 hF.1.2.1 hW.1 hW.2.1 hW.2.2.1 hW.2.2.2.1 o 0 e1 rfl hin hd k
theorem rx_ok_13 : rx_hok 13 (rx_ast (fun sr t v => (Nat.beq t 1 && rx_in sr v (-128) 127) || (Nat.beq t 2 && rx_in sr v 0 1))) := by
  intro ih hih q mi pc loc stk sr rh ce sl outs hq hc h
  obtain ⟨hd, hn⟩ := rx_d1 hc hq (I := .bastore) (n := 1) (by unfold rx_ins; rw [hq]; rfl) rfl (by decide)
  refine rx_ast_goal hih h (fun p l e R s m args below meth c D cc A H locs Q ls ws o a t n f i x v ρ st hF hW e1 hR hv htk hin k => ?_)
  rw [hn] at k
  rw [Bool.or_eq_true] at htk
  rcases htk with ht | ht
  · obtain ⟨ht, hr⟩ := rx_and ht
    have ht := rx_beq ht
    subst ht
    obtain ⟨a1, a2⟩ := rx_in_ok hR hv hr
    refine va_bast hF.1.1 hF.1.2.1 hW.1 hW.2.1 hW.2.2.1 hW.2.2.2.1 o 1 e1 rfl hin hd ?_
    rw [rx_byte a1 a2]
    exact k
  · obtain ⟨ht, hr⟩ := rx_and ht
    have ht := rx_beq ht
    subst ht
    obtain ⟨a1, a2⟩ := rx_in_ok hR hv hr
    refine va_zast hF.1.1 hF.1.2.1 hW.1 hW.2.1 hW.2.2.1 hW.2.2.2.1 o 2 e1 rfl hin hd ?_
    rw [rx_bool a1 a2]
    exact k
end
section
/-! making cells -/
theorem rx_st_push {ρ : Nat → Int} {b : Nat} {cc : Nat → ClassId} {as0 : List Nat} {nL : Nat} {loc : rx_L} {stk stk2 : List rx_V} {sr : rx_S} {rh : rx_H} {ls : Array Slot} {st st2 : List Value} {ws : va_W} (hS : rx_st ρ b cc as0 nL loc stk sr rh ls st ws) (hL2 : rx_gL ρ b (ws.map Prod.fst) stk2 st2) (hz : rh.2 < 256) {c : rx_C} {e : va_E} {a : Nat} (he : rx_gC ρ b cc ((ws ++ [(a, e)]).map Prod.fst) c e) : rx_st ρ b cc as0 nL loc (.inr (.inl (some rh.2)) :: stk2) sr (rx_hpush rh c) ls (.ref a :: st2) (ws ++ [(a, e)]) := by
  obtain ⟨hR, hH, ⟨lv, hlv, hN⟩, hL, hX⟩ := hS
  have hx := rx_ext_push ws a e
  exact ⟨hR, hH.push hz he, ⟨lv, hlv, rx_gN.ex hx hN⟩, ⟨⟨a, rx_new_at hH a e, rfl⟩, rx_gL.ex hx hL2⟩, hX.tr hx⟩
theorem rx_dv_ok {t : FieldType} (ρ : Nat → Int) (b : Nat) (as : List Nat) (h : rx_tok t = true) : rx_gV ρ b as (rx_dv t) (defaultValue t) := by
  cases t with
  | float => cases h
  | double => cases h
  | long => exact ⟨0, rfl, rfl⟩
  | object n => exact rfl
  | array n => exact rfl
  | _ => exact ⟨0, rfl, rfl⟩
theorem rx_dvs {ρ : Nat → Int} {b : Nat} {as : List Nat} {ty : Nat → FieldType} : ∀ l : List Nat, (∀ k ∈ l, rx_tok (ty k) = true) → rx_gL ρ b as (l.map (fun k => rx_dv (ty k))) (l.map (fun k => defaultValue (ty k)))
  | [], _ => trivial
  | a :: t, h => ⟨rx_dv_ok ρ b as (h a List.mem_cons_self), rx_dvs t (fun k hk => h k (List.mem_cons_of_mem _ hk))⟩
theorem rx_ok_40 : rx_hok 40 rx_new := by
  intro ih hih q mi pc loc stk sr rh ce sl outs hq hc h
  obtain ⟨hd, hn⟩ := rx_d1 hc hq (I := .new q.2.2.2.2.2.2.2.1) (n := 3) (by unfold rx_ins; rw [hq]; rfl) rfl (by decide)
  have hl : (match rx_at rx_cls q.2.2.1 with
    | some (C, _, _) => rx_mem q.2.2.2.2.2.2.1 (.classLink (rx_y mi).cls q.2.2.2.2.2.2.2.1 C)
    | none => false) = true := by
    have := (rx_d0 hc).2.2
    unfold rx_lnk at this
    rw [hq] at this
    exact this
  unfold rx_new at h
  split at h
  · rename_i w ty hw hty
    rw [hw] at hl
    obtain ⟨C, T, N⟩ := w
    rw [rx_at_eq] at hw hty
    obtain ⟨ty2, hY, k1, k2, k3, k4, k5⟩ := rx_cls_ok _ _ _ _ hw
    have ety : ty = ty2 := Option.some.inj (hty.symm.trans hY)
    subst ety
    obtain ⟨h1, h⟩ := rx_cnd h
    obtain ⟨h1, g3⟩ := rx_and h1
    obtain ⟨g1, g2⟩ := rx_and h1
    intro p l e R s m args below meth c D cc A ρ b L xs as0 Q hF hsc hK H locs ws ls st hW hS
    have ht := hF.1.2.2.2.2
    have hRm : R = rx_room mi := hF.2.1
    refine va_new (ci := q.2.2.1) (fs := (List.range N).map (fun k => defaultValue (ty k))) hF.1.1 hF.1.2.1 ht k1 ty (fun k hk => (k2 k hk).1) hF.1.2.2.2.1 (ht _ (rx_mem_ok hl)) (ht _ k4) (ht _ k5) hW.1 hW.2.1 hW.2.2.1 hW.2.2.2.1 hW.2.2.2.2.1 hw (fun j hj => ?_) (by rw [hRm]; exact rx_ble g1) (by rw [hRm]; exact rx_ble g2) hd (fun a H1 hP1 hD1 hS1 => ?_)
    · show _ = List.getD _ _ _
      rw [List.getD_eq_getElem?_getD, List.getElem?_map, List.getElem?_range hj]
      rfl
    · have k := hih _ _ _ _ _ _ _ _ _ h p l e R s m args below meth c D cc A ρ b L xs as0 Q hF hsc hK H1 locs _ ls (.ref a :: st) ⟨hW.1, hP1, hD1, hS1, hW.2.2.2.2⟩ (rx_st_push hS hS.2.2.2.1 (rx_blt g3) ⟨_, rfl, rx_dvs _ (fun k hk => (k2 k (List.mem_range.mp hk)).2)⟩)
      have e9 : Nat.add pc q.2.1 = pc + 3 := by rw [hn]
      rw [e9] at k
      exact k
  · cases h
theorem rx_nneg {x : Int32} {z : Nat} (h : x.toInt = Int.ofNat z) : ¬ x < 0 := by
  have h : x.toInt = (z : Int) := h
  rw [Int32.lt_iff_toInt_lt, Int32.toInt_zero]
  omega
theorem rx_newa_i {ih : rx_F} (hih : rx_snd ih) {q : rx_Q} {mi pc z : Nat} {loc : rx_L} {rest : List rx_V} {sr : rx_S} {rh : rx_H} {ce sl : Nat} {outs : List rx_A} (t : Nat) (ty : FieldType) (hta : newarray.typeOf (rx_aty t) = ty) (hdf : defaultValue ty = .int 0) (hb8 : componentBytes ty ≤ 8) (haw : Jvm.Cond.arrayClass ty ∈ rx_tt) (hty : ∀ cc : Nat → ClassId, (rx_tys cc)[t]? = some (cc t, ty)) (hra : ∀ (s : State) (c1 c2 : ClassId), va_RA s c1 ty → va_RA s c2 ty → c1 = c2)
    (hd : decode (rx_by mi) pc = .ok (.newarray (rx_aty t), 2)) (g1 : Nat.ble (ce + 1) (rx_room mi).cells = true) (g2 : Nat.ble (sl + z) (rx_room mi).slots = true) (g3 : Nat.ble z 100000 = true) (g4 : Nat.blt rh.2 256 = true)
    (h : ih mi (pc + 2) loc (.inr (.inl (some rh.2)) :: rest) sr (rx_hpush rh (.inr (.inl ((t, z), .inl (.ofNat 0), [])))) (ce + 1) (sl + z) = some outs) : rx_goal mi pc loc (.inl (.inl (.ofNat z)) :: rest) sr rh ce sl outs := by
  intro p l e R s m args below meth c D cc A ρ b L xs as0 Q hF hsc hK H locs ws ls st hW hS
  obtain ⟨_, s1, rfl, ⟨xx, rfl, hx⟩, hL1⟩ := hS.2.2.2.1.cons
  have hx : xx.toInt = Int.ofNat z := hx
  have ht := hF.1.2.2.2.2
  have hRm : R = rx_room mi := hF.2.1
  have hz := rx_ble g3
  refine va_newa (atype := rx_aty t) (N' := z) (a0 := (z, .inl (fun _ => 0))) hF.1.1 hF.1.2.1 (by rw [hta]; exact ht _ haw) hta hW.1 hW.2.1 hW.2.2.1 hW.2.2.2.1 hW.2.2.2.2.1 (fun cA => by rw [vp_cell_i, hdf]) (rx_nneg hx) (rx_tnc hx) ?_ (by rw [hRm]; exact rx_ble g1) (by rw [hRm]; exact rx_ble g2) hd (fun a cA H1 hK1 hP1 hD1 hS1 => ?_)
  · exact Nat.le_trans (Nat.mul_le_mul hz hb8) (by decide)
  · have ec : cA = cc t := hra s cA (cc t) (hK1.2 6 (cA, ty) rfl).2 (hW.1.2 t (cc t, ty) (hty cc)).2
    subst ec
    exact hih _ _ _ _ _ _ _ _ _ h p l e R s m args below meth c D cc A ρ b L xs as0 Q hF hsc hK H1 locs _ ls (.ref a :: s1) ⟨hW.1, hP1, hD1, hS1, hW.2.2.2.2⟩ (rx_st_push hS hL1 (rx_blt g4) ⟨_, rfl, fun j hj => rfl⟩)
theorem rx_ok_32 : rx_hok 32 rx_newa := by
  intro ih hih q mi pc loc stk sr rh ce sl outs hq hc h
  obtain ⟨hd, hn⟩ := rx_d1 hc hq (I := .newarray (rx_aty q.2.2.1)) (n := 2) (by unfold rx_ins; rw [hq]; rfl) rfl (by decide)
  have hl : Nat.ble q.2.2.1 3 = true := by
    have := (rx_d0 hc).2.2
    unfold rx_lnk at this
    rw [hq] at this
    exact this
  have hl := rx_ble hl
  unfold rx_newa at h
  split at h
  · rename_i z rest
    obtain ⟨h1, h⟩ := rx_cnd h
    obtain ⟨h1, g4⟩ := rx_and h1
    obtain ⟨h1, g3⟩ := rx_and h1
    obtain ⟨g1, g2⟩ := rx_and h1
    have e9 : Nat.add pc q.2.1 = pc + 2 := by rw [hn]
    rw [e9] at h
    generalize q.2.2.1 = t at hd hl h
    match t, hl, hd, h with
    | 0, _, hd, h => exact rx_newa_i hih (q := q) 0 .int rfl rfl (by decide) (rx_mem_ok rx_aw_0) (fun _ => rfl) (fun s c1 c2 a1 a2 => Option.some.inj (a1.symm.trans a2)) hd g1 g2 g3 g4 h
    | 1, _, hd, h => exact rx_newa_i hih (q := q) 1 .byte rfl rfl (by decide) (rx_mem_ok rx_aw_1) (fun _ => rfl) (fun s c1 c2 a1 a2 => Option.some.inj (a1.symm.trans a2)) hd g1 g2 g3 g4 h
    | 2, _, hd, h => exact rx_newa_i hih (q := q) 2 .boolean rfl rfl (by decide) (rx_mem_ok rx_aw_2) (fun _ => rfl) (fun s c1 c2 a1 a2 => Option.some.inj (a1.symm.trans a2)) hd g1 g2 g3 g4 h
    | 3, _, hd, h =>
      intro p l e R s m args below meth c D cc A ρ b L xs as0 Q hF hsc hK H locs ws ls st hW hS
      obtain ⟨_, s1, rfl, ⟨xx, rfl, hx⟩, hL1⟩ := hS.2.2.2.1.cons
      have hx : xx.toInt = Int.ofNat z := hx
      have ht := hF.1.2.2.2.2
      have hRm : R = rx_room mi := hF.2.1
      have hz := rx_ble g3
      refine va_newa (atype := .long) (ty := .long) (N' := z) (a0 := (z, .inr (.inl (fun _ => 0)))) hF.1.1 hF.1.2.1 (ht _ (rx_mem_ok rx_aw_3)) rfl hW.1 hW.2.1 hW.2.2.1 hW.2.2.2.1 hW.2.2.2.2.1 (fun cA => rfl) (rx_nneg hx) (rx_tnc hx) ?_ (by rw [hRm]; exact rx_ble g1) (by rw [hRm]; exact rx_ble g2) hd (fun a cA H1 hK1 hP1 hD1 hS1 => ?_)
      · exact Nat.le_trans (Nat.mul_le_mul hz (show componentBytes .long ≤ 8 by decide)) (by decide)
      · have a1 : s.vm.findClass ("[" ++ FieldType.long.toString) = some cA := (hK1.2 6 (cA, .long) rfl).2
        have a2 : s.vm.findClass ("[" ++ FieldType.long.toString) = some (cc 3) := (hW.1.2 3 (cc 3, .long) rfl).2
        have ec : cA = cc 3 := Option.some.inj (a1.symm.trans a2)
        subst ec
        exact hih _ _ _ _ _ _ _ _ _ h p l e R s m args below meth c D cc A ρ b L xs as0 Q hF hsc hK H1 locs _ ls (.ref a :: s1) ⟨hW.1, hP1, hD1, hS1, hW.2.2.2.2⟩ (rx_st_push hS hL1 (rx_blt g4) ⟨_, rfl⟩)
    | n + 4, hl, _, _ => omega
  · cases h
theorem rx_ok_41 : rx_hok 41 rx_newr := by
  intro ih hih q mi pc loc stk sr rh ce sl outs hq hc h
  obtain ⟨hd, hn⟩ := rx_d1 hc hq (I := .anewarray q.2.2.2.2.2.2.2.1) (n := 3) (by unfold rx_ins; rw [hq]; rfl) rfl (by decide)
  have hl : rx_mem q.2.2.2.2.2.2.1 (.classLink (rx_y mi).cls q.2.2.2.2.2.2.2.1 "MirrorLies$Hour") = true := by
    have := (rx_d0 hc).2.2
    unfold rx_lnk at this
    rw [hq] at this
    exact this
  unfold rx_newr at h
  split at h
  · rename_i z rest
    obtain ⟨h1, h⟩ := rx_cnd h
    obtain ⟨h1, g4⟩ := rx_and h1
    obtain ⟨h1, g3⟩ := rx_and h1
    obtain ⟨g1, g2⟩ := rx_and h1
    have e9 : Nat.add pc q.2.1 = pc + 3 := by rw [hn]
    rw [e9] at h
    intro p l e R s m args below meth c D cc A ρ b L xs as0 Q hF hsc hK H locs ws ls st hW hS
    obtain ⟨_, s1, rfl, ⟨xx, rfl, hx⟩, hL1⟩ := hS.2.2.2.1.cons
    have hx : xx.toInt = Int.ofNat z := hx
    have ht := hF.1.2.2.2.2
    have hRm : R = rx_room mi := hF.2.1
    have hz := rx_ble g3
    refine va_newq (N' := z) hF.1.1 hF.1.2.1 hF.1.2.2.2.1 (ht _ (rx_mem_ok hl)) hW.2.2.2.2.2.2.1 hW.1 hW.2.1 hW.2.2.1 hW.2.2.2.1 hW.2.2.2.2.1 (rx_nneg hx) (rx_tnc hx) (by omega) (by rw [hRm]; exact rx_ble g1) (by rw [hRm]; exact rx_ble g2) hd (fun a cA H1 hK1 hP1 hD1 hS1 => ?_)
    obtain ⟨_, _, -, -, -, a1⟩ := (hK1.2 6 (cA, .object "MirrorLies$Hour") rfl).2
    obtain ⟨_, _, -, -, -, a2⟩ := (hW.1.2 4 (cc 4, .object "MirrorLies$Hour") rfl).2
    have ec : cA = cc 4 := Option.some.inj (a1.symm.trans a2)
    subst ec
    exact hih _ _ _ _ _ _ _ _ _ h p l e R s m args below meth c D cc A ρ b L xs as0 Q hF hsc hK H1 locs _ ls (.ref a :: s1) ⟨hW.1, hP1, hD1, hS1, hW.2.2.2.2⟩ (rx_st_push hS hL1 (rx_blt g4) ⟨fun _ => none, by rw [List.length_replicate], fun j r hj => by
      have hl := (List.getElem?_eq_some_iff.mp hj).1
      rw [List.length_replicate] at hl
      rw [List.getElem?_replicate, if_pos hl] at hj
      cases hj
      exact rfl⟩)
  · cases h
theorem rx_ok_27 : rx_hok 27 rx_alen := by
  intro ih hih q mi pc loc stk sr rh ce sl outs hq hc h
  obtain ⟨hd, hn⟩ := rx_d1 hc hq (I := .arraylength) (n := 1) (by unfold rx_ins; rw [hq]; rfl) rfl (by decide)
  have e9 : Nat.add pc q.2.1 = pc + 1 := by rw [hn]
  unfold rx_alen at h
  split at h
  · rename_i o rest
    split at h
    · rename_i w hw
      obtain ⟨h1, h⟩ := rx_cnd h
      obtain ⟨g1, g2⟩ := rx_and h1
      rw [e9] at h
      have g1 := rx_ble g1
      intro p l e R s m args below meth c D cc A ρ b L xs as0 Q hF hsc hK H locs ws ls st hW hS
      obtain ⟨hR, hH, hN, hL, hX⟩ := hS
      obtain ⟨_, st, rfl, ⟨a, ha, rfl⟩, hL1⟩ := hL.cons
      obtain ⟨ee, e1, f, rfl, hf⟩ := hH.cell ha hw
      obtain ⟨ty, hty⟩ : ∃ ty, (rx_tys cc)[w.1.1]? = some (cc w.1.1, ty) := by
        generalize w.1.1 = t at g2
        match t, rx_blt g2 with
        | 0, _ => exact ⟨_, rfl⟩
        | 1, _ => exact ⟨_, rfl⟩
        | 2, _ => exact ⟨_, rfl⟩
        | n + 3, h => omega
      exact va_alen hF.1.1 hF.1.2.1 hW.1 hW.2.1 o w.1.1 e1 hty rfl hd (hih _ _ _ _ _ _ _ _ _ h p l e R s m args below meth c D cc A ρ b L xs as0 Q hF hsc hK H locs ws ls _ hW ⟨hR, hH, hN, ⟨⟨_, rfl, nI_toInt (by show w.1.2 < _; omega)⟩, hL1⟩, hX⟩)
    · cases h
  · rename_i u rest
    obtain ⟨g1, h⟩ := rx_cnd h
    rw [e9] at h
    intro p l e R s m args below meth c D cc A ρ b L xs as0 Q hF hsc hK H locs ws ls st hW hS
    obtain ⟨hR, hH, hN, hL, hX⟩ := hS
    obtain ⟨bb, st, rfl, hbb, hL1⟩ := hL.cons
    have hbb : bb = .ref b := hbb
    subst hbb
    obtain ⟨x1, x2, x3, x4, x5, x6⟩ := hsc (rx_beq g1)
    refine va_slen hF.1.1 hF.1.2.1 x1 x2 x3 hW.2.2.2.1 hd (hih _ _ _ _ _ _ _ _ _ h p l e R s m args below meth c D cc A ρ b L xs as0 Q hF hsc hK H locs ws ls _ hW ⟨hR, hH, hN, ⟨⟨_, rfl, ?_⟩, hL1⟩, hX⟩)
    show (nI L).toInt = ρ 6 + 0
    rw [nI_toInt (by omega), x5]
    omega
  · cases h
theorem rx_ok_44 : rx_hok 44 rx_aald := by
  intro ih hih q mi pc loc stk sr rh ce sl outs hq hc h
  obtain ⟨hd, hn⟩ := rx_d1 hc hq (I := .aaload) (n := 1) (by unfold rx_ins; rw [hq]; rfl) rfl (by decide)
  have e9 : Nat.add pc q.2.1 = pc + 1 := by rw [hn]
  unfold rx_aald at h
  split at h
  · rename_i r o rest
    refine rx_exact_goal h (fun s2 o2 h2 => hih _ _ _ _ _ _ _ _ _ h2) (fun j h hj => ?_)
    split at h
    · rename_i w hw
      obtain ⟨h1, h⟩ := rx_cnd h
      obtain ⟨g1, g2⟩ := rx_and h1
      have g1 := rx_beq g1
      split at h
      · rename_i k hk
        rw [e9] at h
        rw [rx_at_eq] at hk
        intro p l e R s m args below meth c D cc A ρ b L xs as0 Q hF hsc hK H locs ws ls st hW hS
        obtain ⟨hR, hH, hN, hL, hX⟩ := hS
        obtain ⟨_, s1, rfl, ⟨xx, rfl, hx⟩, hL1⟩ := hL.cons
        obtain ⟨_, st, rfl, ⟨a, ha, rfl⟩, hL2⟩ := hL1.cons
        obtain ⟨ee, e1, f, rfl, hf⟩ := hH.cell ha hw
        have ej := hj ρ xx hR hx
        obtain ⟨a2, ea, ef⟩ := hf j _ hk
        have hjl := (List.getElem?_eq_some_iff.mp hk).1
        refine va_aldq (C := "MirrorLies$Hour") hF.1.1 hF.1.2.1 hW.1 hW.2.1 o 4 e1 (by rw [g1]; rfl) (rx_vin ej hjl) hd ?_
        rw [rx_tnc ej, ef]
        exact hih _ _ _ _ _ _ _ _ _ h p l e R s m args below meth c D cc A ρ b L xs as0 Q hF hsc hK H locs ws ls _ hW ⟨hR, hH, hN, ⟨⟨a2, ea, rfl⟩, hL2⟩, hX⟩
      · cases h
    · cases h
  · cases h
theorem rx_ok_43 : rx_hok 43 rx_aast := by
  intro ih hih q mi pc loc stk sr rh ce sl outs hq hc h
  obtain ⟨hd, hn⟩ := rx_d1 hc hq (I := .aastore) (n := 1) (by unfold rx_ins; rw [hq]; rfl) rfl (by decide)
  have e9 : Nat.add pc q.2.1 = pc + 1 := by rw [hn]
  unfold rx_aast at h
  split at h
  · rename_i v j o rest
    split at h
    · rename_i w u hw hu
      obtain ⟨h1, h⟩ := rx_cnd h
      obtain ⟨h1, g4⟩ := rx_and h1
      obtain ⟨h1, g3⟩ := rx_and h1
      obtain ⟨g1, g2⟩ := rx_and h1
      have g1 := rx_beq g1
      have g2 := rx_beq g2
      rw [e9] at h
      intro p l e R s m args below meth c D cc A ρ b L xs as0 Q hF hsc hK H locs ws ls st hW hS
      obtain ⟨hR, hH, hN, hL, hX⟩ := hS
      obtain ⟨_, s0, rfl, ⟨av, hav, rfl⟩, hL0⟩ := hL.cons
      obtain ⟨_, s1, rfl, ⟨xx, rfl, hx⟩, hL1⟩ := hL0.cons
      obtain ⟨_, st, rfl, ⟨a, ha, rfl⟩, hL2⟩ := hL1.cons
      have ej : xx.toInt = Int.ofNat j := hx
      obtain ⟨ee, e1, f, rfl, hf⟩ := hH.cell ha hw
      obtain ⟨ev, e2, fs, rfl, hfs⟩ := hH.cell hav hu
      refine va_astq (r := ("MirrorLies$Hour", rx_T2, 5)) hF.1.1 hF.1.2.1 hW.1 hW.2.1 hW.2.2.1 hW.2.2.2.1 o 4 v u.1 e1 (by rw [g1]; rfl) e2 (by rw [g2]; rfl) (rx_vin ej (rx_blt g3)) hd (fun H1 locs1 hP1 hD1 hS1 => ?_)
      have em : (ws.set o (a, (.inl (cc w.1, w.2.length, .inr (.inr (.inr (.inr (va_up f xx.toNatClampNeg (some av)))))) : va_E))).map Prod.fst = ws.map Prod.fst := rx_map_set e1
      refine hih _ _ _ _ _ _ _ _ _ h p l e R s m args below meth c D cc A ρ b L xs as0 Q hF hsc hK H1 locs1 _ ls st ⟨hW.1, hP1, hD1, hS1, hW.2.2.2.2⟩ ⟨hR, hH.set hw e1 ⟨_, by rw [rx_set_eq, List.length_set], fun i r hi => ?_⟩, by rw [em]; exact hN, by rw [em]; exact hL2, by rw [em]; exact hX⟩
      rw [rx_set_eq] at hi
      rw [rx_tnc ej]
      by_cases e8 : i = j
      · subst e8
        have hl : i < w.2.length := rx_blt g3
        rw [List.getElem?_set_self hl] at hi
        cases hi
        exact ⟨av, hav, by simp [va_up]⟩
      · rw [List.getElem?_set_ne (Ne.symm e8)] at hi
        have h3 := hf i r hi
        have e7 : va_up f j (some av) i = f i := by simp [va_up, e8]
        rw [e7]
        exact h3
    · cases h
  · cases h
theorem rx_ok_34 : rx_hok 34 rx_obj := by
  intro ih hih q mi pc loc stk sr rh ce sl outs hq hc h
  obtain ⟨hd, hn⟩ := rx_d1 hc hq (I := .invokespecial q.2.2.2.2.2.2.2.1) (n := 3) (by unfold rx_ins; rw [hq]; rfl) rfl (by decide)
  have hl : rx_mem q.2.2.2.2.2.2.1 (.methodLink (rx_y mi).cls q.2.2.2.2.2.2.2.1 objectInit) = true := by
    have := (rx_d0 hc).2.2
    unfold rx_lnk at this
    rw [hq] at this
    exact this
  have e9 : Nat.add pc q.2.1 = pc + 3 := by rw [hn]
  unfold rx_obj at h
  split at h
  · rename_i o rest
    obtain ⟨h1, h⟩ := rx_cnd h
    obtain ⟨g1, g2⟩ := rx_and h1
    rw [e9] at h
    intro p l e R s m args below meth c D cc A ρ b L xs as0 Q hF hsc hK H locs ws ls st hW hS
    obtain ⟨hR, hH, ⟨lv, hlv, hN⟩, hL, hX⟩ := hS
    obtain ⟨_, st, rfl, ⟨a, ha, rfl⟩, hL1⟩ := hL.cons
    have ht := hF.1.2.2.2.2
    have hRm : R = rx_room mi := hF.2.1
    refine W.objInit hF.1.1 hF.1.2.1 hF.1.2.2.2.1 (ht _ (rx_mem_ok hl)) (ht _ (rx_mem_ok rx_w1)) (ht _ (rx_mem_ok rx_w2)) (g := F0 m pc ls (.ref a :: st)) rfl (hlv.1.trans hF.1.2.2.1.symm) rfl hd (by rw [hRm]; exact rx_ble g1) ?_ (hih _ _ _ _ _ _ _ _ _ h p l e R s m args below meth c D cc A ρ b L xs as0 Q hF hsc hK H locs ws ls st hW ⟨hR, hH, ⟨lv, hlv, hN⟩, hL1, hX⟩)
    have g2 := rx_ble g2
    show 2 * 0 + _ + 12 ≤ _
    rw [hRm, rx_sum_ok hL1]
    omega
  · cases h
theorem rx_nfw : nativeFrameWords "java/lang/System" "arraycopy" 5 + 11 ≤ 92 := by decide +kernel
theorem rx_ok_35 : rx_hok 35 rx_copy := by
  intro ih hih q mi pc loc stk sr rh ce sl outs hq hc h
  obtain ⟨hd, hn⟩ := rx_d1 hc hq (I := .invokestatic q.2.2.2.2.2.2.2.1) (n := 3) (by unfold rx_ins; rw [hq]; rfl) rfl (by decide)
  have hl : rx_mem q.2.2.2.2.2.2.1 (.methodLink (rx_y mi).cls q.2.2.2.2.2.2.2.1 arraycopyName) = true := by
    have := (rx_d0 hc).2.2
    unfold rx_lnk at this
    rw [hq] at this
    exact this
  have e9 : Nat.add pc q.2.1 = pc + 3 := by rw [hn]
  unfold rx_copy at h
  split at h
  · rename_i z z2 d z3 o rest
    split at h
    · rename_i w u hw hu
      obtain ⟨h1, h⟩ := rx_cnd h
      obtain ⟨h1, g10⟩ := rx_and h1
      obtain ⟨h1, g9⟩ := rx_and h1
      obtain ⟨h1, g8⟩ := rx_and h1
      obtain ⟨h1, g7⟩ := rx_and h1
      obtain ⟨h1, g6⟩ := rx_and h1
      obtain ⟨h1, g5⟩ := rx_and h1
      obtain ⟨h1, g4⟩ := rx_and h1
      obtain ⟨h1, g3⟩ := rx_and h1
      obtain ⟨g1, g2⟩ := rx_and h1
      have g1 := rx_beq g1
      have g2 := rx_beq g2
      have g3 := rx_beq g3
      have g4 := rx_beq g4
      have g5 := rx_beq g5
      have g6 := rx_beq g6
      have g8 := rx_ble g8
      have g10 := rx_ble g10
      rw [e9] at h
      intro p l e R s m args below meth c D cc A ρ b L xs as0 Q hF hsc hK H locs ws ls st hW hS
      obtain ⟨hR, hH, ⟨lv, hlv, hN⟩, hL, hX⟩ := hS
      obtain ⟨_, s0, rfl, ⟨nn, rfl, hnn⟩, hL0⟩ := hL.cons
      obtain ⟨_, s1, rfl, ⟨dp, rfl, hdp⟩, hL1⟩ := hL0.cons
      obtain ⟨_, s2, rfl, ⟨ad, had, rfl⟩, hL2⟩ := hL1.cons
      obtain ⟨_, s3, rfl, ⟨sp, rfl, hsp⟩, hL3⟩ := hL2.cons
      obtain ⟨_, st, rfl, ⟨ao, hao, rfl⟩, hL4⟩ := hL3.cons
      have hnn : nn.toInt = Int.ofNat z := hnn
      have hdp : dp.toInt = Int.ofNat z2 := hdp
      have hsp : sp.toInt = Int.ofNat z3 := hsp
      obtain ⟨eo, e1, f, rfl, hf⟩ := hH.cell hao hw
      obtain ⟨ed, e2, g, rfl, hg⟩ := hH.cell had hu
      have ht := hF.1.2.2.2.2
      have hRm : R = rx_room mi := hF.2.1
      have c1 : sp.toNatClampNeg = 0 := (rx_tnc hsp).trans g2
      have c2 : dp.toNatClampNeg = 0 := (rx_tnc hdp).trans g1
      have c3 : nn.toNatClampNeg = z := rx_tnc hnn
      refine va_copyi (ty := .int) hF.1.1 hF.1.2.1 (hF.1.2.2.1.trans hlv.1.symm) hF.1.2.2.2.1 (ht _ (rx_mem_ok hl)) (ht _ (rx_mem_ok rx_w3)) (ht _ (rx_mem_ok rx_w4)) (ht _ (rx_mem_ok rx_w5)) hW.1 hW.2.1 hW.2.2.1 hW.2.2.2.1 o d 0 0 e1 e2 (by rw [g3]; rfl) (by rw [g4]; rfl) rfl (rx_nneg hsp) (rx_nneg hdp) (rx_nneg hnn) (by rw [c1, c3, g5]; omega) (by rw [c2, c3, g6]; omega) (fun i hi => rfl) (by rw [hRm]; exact rx_ble g9) ?_ hd (fun H1 locs1 hP1 hD1 hS1 => ?_)
      · have := rx_nfw
        rw [hRm, rx_sum_ok hL4]
        omega
      · have em : (ws.set d (ad, (.inl (cc u.1.1, u.1.2, .inl (va_cpy f g sp.toNatClampNeg dp.toNatClampNeg nn.toNatClampNeg)) : va_E))).map Prod.fst = ws.map Prod.fst := rx_map_set e2
        refine hih _ _ _ _ _ _ _ _ _ h p l e R s m args below meth c D cc A ρ b L xs as0 Q hF hsc hK H1 locs1 _ ls st ⟨hW.1, hP1, hD1, hS1, hW.2.2.2.2⟩ ⟨hR, hH.set hu e2 ⟨_, rfl, fun i hi => ?_⟩, by rw [em]; exact ⟨lv, hlv, hN⟩, by rw [em]; exact hL4, by rw [em]; exact hX⟩
        have hi : i < u.1.2 := hi
        rw [c1, c2, c3, sb_cpy0 (by rw [g6]; exact hi)]
        exact hf i (by rw [← g5, g6]; exact hi)
    · cases h
  · cases h
end
section
def va_AOA (ty : FieldType) (s : State) : Prop := va_Nw (.arrayOver (.array ty)) s
theorem va_AOA.use {ty : FieldType} {A : Array Value} {s : State} (h : va_AOA ty s) : (Jvm.Cond.arrayOver (.array ty)).before A s = true := h
/-! ===== BEGIN new T[n][m]: the outer array a place, the inner ones among the pooled ===== -/
/-- f, but v at every address of l -/
def vr_up {α : Type} (f : Nat → α) (l : List Nat) (v : α) : Nat → α := fun a => if a ∈ l then v else f a
theorem vr_up_in {α : Type} {f : Nat → α} {l : List Nat} {v : α} {a : Nat} (h : a ∈ l) : vr_up f l v a = v := if_pos h
theorem vr_up_ne {α : Type} {f : Nat → α} {l : List Nat} {v : α} {a : Nat} (h : a ∉ l) : vr_up f l v a = f a := if_neg h
theorem vr_rows {L l : List Nat} {f : Nat → va_E} {e : va_E} (h : ∀ a, a ∈ l → a ∉ L) : va_pl L f ++ l.map (fun a => (a, e)) = va_pl (L ++ l) (vr_up f l e) := by
  unfold va_pl
  rw [List.map_append]
  congr 1
  · apply List.map_congr_left
    intro a ha
    rw [vr_up_ne (fun q => h a q ha)]
  · apply List.map_congr_left
    intro a ha
    rw [vr_up_in ha]
theorem vr_lay {X rows : va_W} {x : Nat × va_E} {pl : va_W} {D : va_G} {cl : List vw_C} {H : Heap} (hP : va_P D cl (((X ++ pl) ++ [x]) ++ rows) H) : va_P D cl ((X ++ [x]) ++ (pl ++ rows)) H := by
  rw [List.append_assoc (X ++ pl)] at hP
  have h := va_P.swap hP
  rw [← List.append_assoc X] at h
  have h2 := va_P.swap h
  rw [List.append_assoc (X ++ [x])] at h2
  exact h2
theorem vr_layD {X rows : va_W} {x : Nat × va_E} {pl : va_W} {A : Nat → Prop} (hD : va_D A (((X ++ pl) ++ [x]) ++ rows)) : va_D A ((X ++ [x]) ++ (pl ++ rows)) := by
  rw [List.append_assoc (X ++ pl)] at hD
  have h := va_D.swap hD
  rw [← List.append_assoc X] at h
  have h2 := va_D.swap h
  rw [List.append_assoc (X ++ [x])] at h2
  exact h2
theorem vr_outer (c : ClassId) (N h0 : Nat) : ∀ i : Nat, Jvm.Free.Multi.outerC c N h0 i = arrV c N (fun j => va_rf (if j < i then some (h0 + 1 + j) else none))
  | 0 => by
    show ({ cls := c, slots := Array.replicate N .null, vm := .none } : Cell) = _
    rw [arrV_new]
    refine congrArg (arrV c N) (funext fun j => ?_)
    simp [va_rf]
  | i + 1 => by
    show (Jvm.Free.Multi.outerC c N h0 i).setSlot i (.ref (h0 + 1 + i)) = _
    rw [vr_outer c N h0 i, arrV_store]
    refine congrArg (arrV c N) (funext fun j => ?_)
    by_cases e : j = i
    · subst e
      simp [updV, va_rf]
    · by_cases h : j < i
      · simp [updV, e, h, Nat.lt_succ_of_lt h]
      · simp [updV, e, h, show ¬ j < i + 1 by omega]
section VGM
variable {p : Program} {l : Launch} {e : Env} {R : Room} {s : State} {m : MethodId} {args : Array Value} {below : List Frame} {meth : Method} {c : Code} {H : Heap} {locs : List Loc} {cells slots : Nat} {Q : State → Prop}
variable {cc : ByteArray} {pc : Nat} {ls : Array Slot} {rest : List Value} {D : va_G} {cl : List vw_C} {A : Nat → Prop} {a : Nat} {tys : List (ClassId × FieldType)} {ws : va_W} {H0 : Heap}
theorem va_mna {X : va_W} {L : List Nat} {f : Nat → va_E} {cc : ByteArray} (hexec : p.tables.exec = Jvm.exec) (hb : c.code = cc) {own : String} {index : Nat} {ty : FieldType} {cy : ClassId} (hown : s.vm.findClass own = some m.cls) (hclink : (Cond.classLink own index ("[" ++ (FieldType.array ty).toString)).before args s = true) (hover : va_AOA ty s) (harr : (Cond.arrayClass ty).before args s = true) (hcy : s.vm.findClass (FieldType.array ty).toString = some cy)
    (hK : va_K D cl tys s) (hP : va_P D cl (X ++ va_pl L f) H) (hD : va_D A (X ++ va_pl L f)) (hS : va_S A H0 H locs) (hA : ∀ q, H0.size ≤ q → A q) {n k : Int32} {N' K' : Nat} {z : vp_A} (hn : ¬ n < 0) (hk : ¬ k < 0) (hN : n.toNatClampNeg = N') (hM : k.toNatClampNeg = K')
    (hb1 : N' * 4 ≤ 536870912) (hb2 : K' * componentBytes ty ≤ 536870912) (hb3 : K' ≤ 536870912) (hdf : fits ty (defaultValue ty) = true) (hdd : (defaultValue ty).isDefault = true) (hcells : cells + (1 + N') ≤ R.cells) (hslots : slots + (N' + N' * K') ≤ R.slots) (hz : ∀ c : ClassId, Jvm.Free.Multi.innerC c K' (defaultValue ty) = vp_cell c z) (hdg : decode cc pc = .ok (.multianewarray index 2, 4))
    (kk : ∀ (q : Nat) (r : Nat → Nat) (cA : ClassId) (H1 : Heap), (∀ i j : Nat, i < N' → j < N' → r i = r j → i = j) → (∀ i : Nat, i < N' → r i ∉ L) → va_K D cl (tys ++ [(cA, .array ty)]) s →
      va_P D cl ((X ++ [(q, .inl (cA, N', .inr (.inr (.inr (.inr (fun i => if i < N' then some (r i) else none))))))]) ++ va_pl (L ++ (List.range N').map r) (vr_up f ((List.range N').map r) (.inl (cy, z)))) H1 → va_D A ((X ++ [(q, .inl (cA, N', .inr (.inr (.inr (.inr (fun i => if i < N' then some (r i) else none))))))]) ++ va_pl (L ++ (List.range N').map r) (vr_up f ((List.range N').map r) (.inl (cy, z)))) → va_S A H0 H1 locs →
      W p l e R s m args below meth c H1 locs (cells + 1 + N') (slots + N' + N' * K') Q (F0 m (pc + 4) ls (.ref q :: rest))) : W p l e R s m args below meth c H locs cells slots Q (F0 m pc ls (.int k :: .int n :: rest)) := by
  subst hN
  subst hM
  intro T hT Xs
  obtain ⟨vm₁, cA, comp, -, fA, fC, hO, -, X', step⟩ := Xs.multianewarray2F hexec hown hclink (va_AOA.use hover) harr (g := F0 m pc ls (.int k :: .int n :: rest)) rfl (by rw [hb]; exact hdg) rfl hn hk hb1 hb2 hb3 hdf hdd hcells hslots
  have ec : some cy = some comp := hcy.symm.trans fC
  cases ec
  generalize hF : Jvm.Free.Multi.fill (T.setVm vm₁) cA cy n.toNatClampNeg k.toNatClampNeg (defaultValue ty) n.toNatClampNeg = F at X' step
  have hTh : (T.setVm vm₁).heap = H := hT
  obtain ⟨f1, f2, -, -⟩ := Jvm.Free.Multi.fill_facts (T.setVm vm₁) cA cy n.toNatClampNeg k.toNatClampNeg (defaultValue ty) n.toNatClampNeg
  rw [hF, hTh] at f1 f2
  have hold : ∀ x : Nat, x < H.size → F.heap[x]? = H[x]? := fun x hx => by
    have := Jvm.Free.Multi.fill_old (T.setVm vm₁) cA cy n.toNatClampNeg k.toNatClampNeg (defaultValue ty) (a := x) (by rw [hTh]; exact hx) n.toNatClampNeg
    rw [hF, hTh] at this
    exact this
  have hrow : ∀ j : Nat, j < n.toNatClampNeg → F.heap[H.size + 1 + j]? = some (vp_cell cy z) := fun j hj => by
    have := Jvm.Free.Multi.fill_inner (T.setVm vm₁) cA cy n.toNatClampNeg k.toNatClampNeg (defaultValue ty) n.toNatClampNeg j hj
    rw [hF, hTh, hz] at this
    exact this
  have hout : Jvm.Free.Multi.outerC cA n.toNatClampNeg H.size n.toNatClampNeg = vp_cell cA (n.toNatClampNeg, .inr (.inr (.inr (.inr (fun i => if i < n.toNatClampNeg then some (H.size + 1 + i) else none))))) := by
    rw [vp_cell_q]
    exact vr_outer cA n.toNatClampNeg H.size n.toNatClampNeg
  rw [hout] at f2
  have hlt : ∀ a, a ∈ L → a < H.size := fun a ha => by
    obtain ⟨k9, hk9⟩ := va_pl_get (X := X) (f := f) ha
    exact (hP k9 _ hk9).lt
  have hnl : ∀ i : Nat, i < n.toNatClampNeg → H.size + 1 + i ∉ L := fun i _ h => by
    have := hlt _ h
    omega
  have hnm : ∀ a, a ∈ (List.range n.toNatClampNeg).map (fun i => H.size + 1 + i) → a ∉ L := fun a ha h => by
    obtain ⟨i, -, rfl⟩ := List.mem_map.mp ha
    have := hlt _ h
    omega
  have hP0 : va_P D cl (X ++ va_pl L f) F.heap := hP.kept (fun k9 x hx => hold x.1 ((hP k9 x hx).lt))
  have hP1 : va_P D cl ((X ++ va_pl L f) ++ [(H.size, .inl (cA, n.toNatClampNeg, .inr (.inr (.inr (.inr (fun i => if i < n.toNatClampNeg then some (H.size + 1 + i) else none))))))]) F.heap := hP0.app (fun k9 x hx => by
    have h0 : k9 < 1 := (List.getElem?_eq_some_iff.mp hx).1
    rw [show k9 = 0 by omega] at hx
    cases hx
    exact f2)
  have hP2 : va_P D cl (((X ++ va_pl L f) ++ [(H.size, .inl (cA, n.toNatClampNeg, .inr (.inr (.inr (.inr (fun i => if i < n.toNatClampNeg then some (H.size + 1 + i) else none))))))]) ++ ((List.range n.toNatClampNeg).map (fun i => H.size + 1 + i)).map (fun a => (a, .inl (cy, z)))) F.heap := hP1.app (fun k9 x hx => by
    obtain ⟨a, ha, rfl⟩ := List.mem_map.mp (List.mem_of_getElem? hx)
    obtain ⟨i, hi, rfl⟩ := List.mem_map.mp ha
    exact hrow i (List.mem_range.mp hi))
  have hD2 : va_D A (((X ++ va_pl L f) ++ [(H.size, .inl (cA, n.toNatClampNeg, .inr (.inr (.inr (.inr (fun i => if i < n.toNatClampNeg then some (H.size + 1 + i) else none))))))]) ++ ((List.range n.toNatClampNeg).map (fun i => H.size + 1 + i)).map (fun a => (a, .inl (cy, z)))) := by
    have hD1 := hD.push (e := .inl (cA, n.toNatClampNeg, .inr (.inr (.inr (.inr (fun i => if i < n.toNatClampNeg then some (H.size + 1 + i) else none)))))) hP rfl (hA _ hS.1)
    generalize hW1 : (X ++ va_pl L f) ++ [(H.size, .inl (cA, n.toNatClampNeg, .inr (.inr (.inr (.inr (fun i => if i < n.toNatClampNeg then some (H.size + 1 + i) else none))))))] = W1 at hD1 hP1 ⊢
    have hle : ∀ (k9 : Nat) (x : Nat × va_E), W1[k9]? = some x → x.1 ≤ H.size := fun k9 x hx => by
      rw [← hW1] at hx
      by_cases hl : k9 < (X ++ va_pl L f).length
      · rw [List.getElem?_append_left hl] at hx
        exact Nat.le_of_lt ((hP k9 x hx).lt)
      · rw [List.getElem?_append_right (by omega)] at hx
        have h0 : k9 - (X ++ va_pl L f).length < 1 := (List.getElem?_eq_some_iff.mp hx).1
        rw [show k9 - (X ++ va_pl L f).length = 0 by omega] at hx
        cases hx
        exact Nat.le_refl _
    have hr : ∀ (k9 : Nat) (x : Nat × va_E), (((List.range n.toNatClampNeg).map (fun i => H.size + 1 + i)).map (fun a => ((a, .inl (cy, z)) : Nat × va_E)))[k9]? = some x → x.1 = H.size + 1 + k9 := fun k9 x hx => by
      rw [List.getElem?_map, List.getElem?_map] at hx
      by_cases h9 : k9 < n.toNatClampNeg
      · rw [List.getElem?_range h9] at hx
        cases hx
        rfl
      · have hn0 : (List.range n.toNatClampNeg)[k9]? = none := List.getElem?_eq_none (by rw [List.length_range]; omega)
        rw [hn0] at hx
        cases hx
    refine ⟨fun i j x y hi hj hxy => ?_, fun k9 x hx => ?_⟩
    · by_cases h1 : i < W1.length <;> by_cases h2 : j < W1.length
      · rw [List.getElem?_append_left h1] at hi
        rw [List.getElem?_append_left h2] at hj
        exact hD1.1 i j x y hi hj hxy
      · rw [List.getElem?_append_left h1] at hi
        rw [List.getElem?_append_right (by omega)] at hj
        have := hle _ _ hi
        have := hr _ _ hj
        omega
      · rw [List.getElem?_append_right (by omega)] at hi
        rw [List.getElem?_append_left h2] at hj
        have := hle _ _ hj
        have := hr _ _ hi
        omega
      · rw [List.getElem?_append_right (by omega)] at hi hj
        have := hr _ _ hi
        have := hr _ _ hj
        omega
    · by_cases h1 : k9 < W1.length
      · rw [List.getElem?_append_left h1] at hx
        exact hD1.2 k9 x hx
      · rw [List.getElem?_append_right (by omega)] at hx
        have := hr _ _ hx
        exact hA _ (by have := hS.1; omega)
  have hAr : ArrOfT s cA (.array ty) := fun N9 z9 => by
    obtain ⟨-, k9, hk9, cm9, hkk9⟩ := (hO 0 0 0).1
    exact ⟨(fun q hq => by cases hq), k9, hk9, cm9, hkk9⟩
  have hK2 : va_K D cl (tys ++ [(cA, .array ty)]) s := ⟨hK.1, fun k9 x hx => by
    by_cases hl : k9 < tys.length
    · rw [List.getElem?_append_left hl] at hx
      exact hK.2 k9 x hx
    · rw [List.getElem?_append_right (by omega)] at hx
      have h0 : k9 - tys.length < 1 := (List.getElem?_eq_some_iff.mp hx).1
      rw [show k9 - tys.length = 0 by omega] at hx
      cases hx
      exact ⟨hAr, fA⟩⟩
  obtain ⟨t, a1, b1⟩ := kk H.size (fun i => H.size + 1 + i) cA F.heap (fun i j _ _ h => by have h9 : H.size + 1 + i = H.size + 1 + j := h; omega) hnl hK2 (by rw [← vr_rows hnm]; exact vr_lay hP2) (by rw [← vr_rows hnm]; exact vr_layD hD2) ⟨by rw [f1]; have := hS.1; omega, fun x h1 h2 => (hold x (Nat.lt_of_lt_of_le h1 hS.1)).trans (hS.2.1 x h1 h2), hS.2.2⟩ F rfl X'
  refine ⟨t, step t ?_, b1⟩
  have e : T.heap.size = H.size := by rw [hT]
  rw [e]
  exact a1
end VGM
/-! ===== END ===== -/
end
section
theorem rx_pushn_s (rh : rx_H) (c : rx_C) (z : Nat) : rx_pushn rh c (z + 1) = rx_pushn (rx_hpush rh c) c z := rfl
theorem rx_pushn_2 (c : rx_C) : ∀ (z : Nat) (rh : rx_H), (rx_pushn rh c z).2 = rh.2 + z
  | 0, rh => rfl
  | z + 1, rh => by
    rw [rx_pushn_s, rx_pushn_2 c z]
    show rh.2 + 1 + z = _
    omega
theorem rx_hget_pushn (c : rx_C) : ∀ (z : Nat) (rh : rx_H), rh.2 + z ≤ 256 → ∀ j : Nat, rx_hget (rx_pushn rh c z) j = if rh.2 ≤ j ∧ j < rh.2 + z then some c else rx_hget rh j
  | 0, rh, _, j => by
    rw [if_neg (by omega)]
    rfl
  | z + 1, rh, h, j => by
    have e2 : (rx_hpush rh c).2 = rh.2 + 1 := rfl
    rw [rx_pushn_s, rx_hget_pushn c z (rx_hpush rh c) (by rw [e2]; omega) j, rx_hget_push c (by omega) j, e2]
    by_cases h1 : j = rh.2
    · rw [if_neg (by omega), if_pos h1, if_pos (by omega)]
    · rw [if_neg h1]
      by_cases h2 : rh.2 ≤ j ∧ j < rh.2 + (z + 1)
      · rw [if_pos h2, if_pos (by omega)]
      · rw [if_neg h2, if_neg (by omega)]
theorem rx_ok_42 : rx_hok 42 rx_newm := by
  intro ih hih q mi pc loc stk sr rh ce sl outs hq hc h
  obtain ⟨hd, hn⟩ := rx_d1 hc hq (I := .multianewarray q.2.2.2.2.2.2.2.1 2) (n := 4) (by unfold rx_ins; rw [hq]; rfl) rfl (by decide)
  have hl : rx_mem q.2.2.2.2.2.2.1 (.classLink (rx_y mi).cls q.2.2.2.2.2.2.2.1 ("[" ++ (FieldType.array .int).toString)) = true := by
    have := (rx_d0 hc).2.2
    unfold rx_lnk at this
    rw [hq] at this
    exact this
  have e9 : Nat.add pc q.2.1 = pc + 4 := by rw [hn]
  unfold rx_newm at h
  split at h
  · rename_i k z rest
    obtain ⟨h1, h⟩ := rx_cnd h
    obtain ⟨h1, g5⟩ := rx_and h1
    obtain ⟨h1, g4⟩ := rx_and h1
    obtain ⟨h1, g3⟩ := rx_and h1
    obtain ⟨g1, g2⟩ := rx_and h1
    have g3 := rx_ble g3
    have g4 := rx_ble g4
    have g5 : rh.2 + 1 + z ≤ 256 := rx_ble g5
    rw [e9] at h
    intro p l e R s m args below meth c D cc A ρ b L xs as0 Q hF hsc hK H locs ws ls st hW hS
    obtain ⟨hR, hH, ⟨lv, hlv, hN⟩, hL, hX⟩ := hS
    obtain ⟨_, s1, rfl, ⟨xk, rfl, hxk⟩, hL1⟩ := hL.cons
    obtain ⟨_, st, rfl, ⟨xz, rfl, hxz⟩, hL2⟩ := hL1.cons
    have hxk : xk.toInt = Int.ofNat k := hxk
    have hxz : xz.toInt = Int.ofNat z := hxz
    have ht := hF.1.2.2.2.2
    have hRm : R = rx_room mi := hF.2.1
    have hc0 : s.vm.findClass ("[" ++ FieldType.int.toString) = some (cc 0) := (hW.1.2 0 (cc 0, .int) rfl).2
    have hP0 : va_P D rx_cls (ws ++ va_pl [] (fun _ => (.inr (0, []) : va_E))) H := by
      show va_P D rx_cls (ws ++ []) H
      rw [List.append_nil]
      exact hW.2.1
    have hD0 : va_D A (ws ++ va_pl [] (fun _ => (.inr (0, []) : va_E))) := by
      show va_D A (ws ++ [])
      rw [List.append_nil]
      exact hW.2.2.1
    refine va_mna (ty := .int) (cy := cc 0) (N' := z) (K' := k) (z := (k, .inl (fun _ => 0))) hF.1.1 hF.1.2.1 hF.1.2.2.2.1 (ht _ (rx_mem_ok hl)) hW.2.2.2.2.2.2.2 (ht _ (rx_mem_ok rx_aw_0)) hc0 hW.1 hP0 hD0 hW.2.2.2.1 hW.2.2.2.2.1 (rx_nneg hxz) (rx_nneg hxk) (rx_tnc hxz) (rx_tnc hxk) (by omega) (Nat.le_trans (Nat.mul_le_mul g4 (show componentBytes .int ≤ 8 by decide)) (by decide)) (by omega) rfl rfl (by rw [hRm]; exact rx_ble g1) (by rw [hRm]; exact rx_ble g2) (fun c1 => by rw [vp_cell_i, ← arrV_new]; rfl) hd (fun a r cA H1 hinj hnot hK1 hP1 hD1 hS1 => ?_)
    have a1 : s.vm.findClass ("[" ++ (FieldType.array .int).toString) = some cA := (hK1.2 6 (cA, .array .int) rfl).2
    have a2 : s.vm.findClass ("[" ++ (FieldType.array .int).toString) = some (cc 5) := (hW.1.2 5 (cc 5, .array .int) rfl).2
    have ec : cA = cc 5 := Option.some.inj (a1.symm.trans a2)
    subst ec
    have erow : va_pl ([] ++ (List.range z).map r) (vr_up (fun _ => (.inr (0, []) : va_E)) ((List.range z).map r) (.inl (cc 0, (k, .inl (fun _ => 0))))) = (List.range z).map (fun i => (r i, (.inl (cc 0, (k, .inl (fun _ => 0))) : va_E))) := by
      rw [List.nil_append]
      unfold va_pl
      rw [List.map_map]
      apply List.map_congr_left
      intro i hi
      show (r i, vr_up _ _ _ (r i)) = _
      rw [vr_up_in (List.mem_map.mpr ⟨i, hi, rfl⟩)]
    rw [erow] at hP1 hD1
    generalize hRW : (List.range z).map (fun i => (r i, (.inl (cc 0, (k, .inl (fun _ => 0))) : va_E))) = RW at hP1 hD1
    have hRWat : ∀ i : Nat, i < z → RW[i]? = some (r i, .inl (cc 0, (k, .inl (fun _ => 0)))) := fun i hi => by
      rw [← hRW, List.getElem?_map, List.getElem?_range hi]
      rfl
    have hRWlen : RW.length = z := by rw [← hRW, List.length_map, List.length_range]
    generalize hout : (.inl (cc 5, z, .inr (.inr (.inr (.inr (fun i => if i < z then some (r i) else none))))) : va_E) = out at hP1 hD1
    have hx : rx_ext (ws.map Prod.fst) (((ws ++ [(a, out)]) ++ RW).map Prod.fst) := ⟨[a] ++ RW.map Prod.fst, by rw [List.map_append, List.map_append, List.append_assoc]; rfl⟩
    have hwl : ws.length = rh.2 := hH.1
    have hat0 : ((ws ++ [(a, out)]) ++ RW)[rh.2]? = some (a, out) := by
      rw [List.append_assoc, List.getElem?_append_right (by omega), hwl, Nat.sub_self]
      rfl
    have hatR : ∀ i : Nat, i < z → ((ws ++ [(a, out)]) ++ RW)[rh.2 + 1 + i]? = some (r i, .inl (cc 0, (k, .inl (fun _ => 0)))) := fun i hi => by
      rw [List.getElem?_append_right (by rw [List.length_append, hwl]; show rh.2 + 1 ≤ _; omega), List.length_append, hwl]
      show RW[rh.2 + 1 + i - (rh.2 + 1)]? = _
      rw [show rh.2 + 1 + i - (rh.2 + 1) = i by omega]
      exact hRWat i hi
    have hH2 : rx_gH ρ b cc (rx_pushn (rx_hpush rh (.inr (.inr (.inr (5, rx_rows rh.2 z))))) (rx_blank 0 k) z) ((ws ++ [(a, out)]) ++ RW) := by
      refine ⟨by rw [rx_pushn_2, List.length_append, List.length_append, hRWlen, hwl]; rfl, fun j d hj hd2 => ?_⟩
      rw [rx_pushn_2] at hj
      have hj : j < rh.2 + 1 + z := hj
      rw [rx_hget_pushn _ z _ (by show rh.2 + 1 + z ≤ 256; exact g5) j] at hd2
      have ep : (rx_hpush rh (.inr (.inr (.inr (5, rx_rows rh.2 z))))).2 = rh.2 + 1 := rfl
      rw [ep, rx_hget_push _ (by omega) j] at hd2
      by_cases h3 : rh.2 + 1 ≤ j ∧ j < rh.2 + 1 + z
      · rw [if_pos h3] at hd2
        cases hd2
        have hi := hatR (j - (rh.2 + 1)) (by omega)
        rw [show rh.2 + 1 + (j - (rh.2 + 1)) = j by omega] at hi
        exact ⟨_, hi, ⟨fun _ => 0, rfl, fun i hi => rfl⟩⟩
      · rw [if_neg h3] at hd2
        by_cases h4 : j = rh.2
        · rw [if_pos h4] at hd2
          cases hd2
          subst h4
          refine ⟨_, hat0, ⟨fun i => if i < z then some (r i) else none, ?_, fun i o hi => ?_⟩⟩
          · show out = _
            rw [← hout]
            show _ = (.inl (cc 5, (rx_rows rh.2 z).length, _) : va_E)
            unfold rx_rows
            rw [List.length_map, List.length_range]
          · have hi : (rx_rows rh.2 z)[i]? = some o := hi
            have hil := (List.getElem?_eq_some_iff.mp hi).1
            unfold rx_rows at hi hil
            rw [List.length_map, List.length_range] at hil
            rw [List.getElem?_map, List.getElem?_range hil] at hi
            cases hi
            refine ⟨r i, ?_, if_pos hil⟩
            rw [List.getElem?_map, hatR i hil]
            rfl
        · rw [if_neg h4] at hd2
          obtain ⟨qq, h5, h6⟩ := hH.2 j d (by omega) hd2
          have hl5 := (List.getElem?_eq_some_iff.mp h5).1
          refine ⟨qq, ?_, rx_gC.ex hx h6⟩
          rw [List.append_assoc, List.getElem?_append_left hl5]
          exact h5
    exact hih _ _ _ _ _ _ _ _ _ h p l e R s m args below meth c D cc A ρ b L xs as0 Q hF hsc hK H1 locs _ ls (.ref a :: st) ⟨hW.1, hP1, hD1, hS1, hW.2.2.2.2⟩ ⟨hR, hH2, ⟨lv, hlv, rx_gN.ex hx hN⟩, ⟨⟨a, by rw [List.getElem?_map, hat0]; rfl, rfl⟩, rx_gL.ex hx hL2⟩, hX.tr hx⟩
  · cases h
end
section
/-! calls -/
noncomputable def rx_ws (mj : Nat) : List Jvm.Cond := .code (rx_y mj) (rx_by mj) (rx_ml mj) (rx_rt mj) :: rx_tt
theorem rx_ao_alike {s U : State} (hal : s.vm.Alike U.vm) (h : va_Nw (.arrayOver (.array .int)) s) : va_Nw (.arrayOver (.array .int)) U := by
  have h1 : (Jvm.Cond.arrayOver (.array .int)).before #[] (s.setVm U.vm) = true := by
    rw [Jvm.Cond.arrayOver_setVmC hal]
    exact h
  exact h1
theorem rx_xw.moved {s U : State} (hW : s.WarmedH U.vm) (h : rx_xw s) : rx_xw U :=
  ⟨fun a i x h9 hm => va_Nw.warmM hW (h.1 a i x h9 hm), va_AO.moved hW.alike h.2.1, rx_ao_alike hW.alike h.2.2⟩
theorem rx_xw.same {s U : State} (hv : s.vm = U.vm) (h : rx_xw s) : rx_xw U :=
  ⟨fun a i x h9 hm => va_Nw.same rfl hv (h.1 a i x h9 hm), va_AO.moved (by rw [hv]; exact Vm.Alike.refl _) h.2.1, rx_ao_alike (by rw [hv]; exact Vm.Alike.refl _) h.2.2⟩
theorem rx_gL.app {ρ : Nat → Int} {b : Nat} {as : List Nat} : ∀ {r1 r2 : List rx_V} {v1 v2 : List Value}, rx_gL ρ b as r1 v1 → rx_gL ρ b as r2 v2 → rx_gL ρ b as (r1 ++ r2) (v1 ++ v2)
  | [], _, [], _, _, h => h
  | _ :: _, _, _ :: _, _, h1, h2 => ⟨h1.1, rx_gL.app h1.2 h2⟩
  | [], _, _ :: _, _, h, _ => h.elim
  | _ :: _, _, [], _, h, _ => h.elim
theorem rx_gL.split {ρ : Nat → Int} {b : Nat} {as : List Nat} : ∀ {r1 r2 : List rx_V} {st : List Value}, rx_gL ρ b as (r1 ++ r2) st → ∃ v1 v2, st = v1 ++ v2 ∧ rx_gL ρ b as r1 v1 ∧ rx_gL ρ b as r2 v2
  | [], r2, st, h => ⟨[], st, rfl, trivial, h⟩
  | r :: r1, r2, st, h => by
    obtain ⟨v, vs, rfl, hv, hL⟩ := rx_gL.cons h
    obtain ⟨v1, v2, rfl, h1, h2⟩ := rx_gL.split hL
    exact ⟨v :: v1, v2, rfl, ⟨hv, h1⟩, h2⟩
theorem rx_gL.rev {ρ : Nat → Int} {b : Nat} {as : List Nat} : ∀ {r1 : List rx_V} {v1 : List Value}, rx_gL ρ b as r1 v1 → rx_gL ρ b as r1.reverse v1.reverse
  | [], [], _ => trivial
  | r :: r1, v :: v1, h => by
    rw [List.reverse_cons, List.reverse_cons]
    exact rx_gL.app (rx_gL.rev h.2) ⟨h.1, trivial⟩
  | [], _ :: _, h => h.elim
  | _ :: _, [], h => h.elim
theorem rx_pop_ok : ∀ (k : Nat) {l acc a r : List rx_V}, rx_pop k l acc = some (a, r) → ∃ t : List rx_V, l = t ++ r ∧ a = t.reverse ++ acc ∧ t.length = k
  | 0, l, acc, a, r, h => by
    have h : some (acc, l) = some (a, r) := h
    cases h
    exact ⟨[], rfl, rfl, rfl⟩
  | k + 1, [], acc, a, r, h => by cases h
  | k + 1, v :: l, acc, a, r, h => by
    have h : rx_pop k l (v :: acc) = some (a, r) := h
    obtain ⟨t, h1, h2, h3⟩ := rx_pop_ok k h
    exact ⟨v :: t, by rw [h1]; rfl, by rw [h2, List.reverse_cons, List.append_assoc]; rfl, by rw [List.length_cons, h3]⟩
theorem rx_args_ok {ρ : Nat → Int} {b : Nat} {as : List Nat} : ∀ (i : Nat) {rs : List rx_V} {vs : List Value}, rx_gL ρ b as rs vs → rx_gN ρ b as (rx_args i rs) (lv_args i vs)
  | _, [], [], _ => trivial
  | i, r :: rs, v :: vs, h => by
    refine ⟨rfl, h.1, ?_⟩
    have hc := rx_cat_ok h.1
    have e : (if v.category = 2 then i + 2 else i + 1) = i + rx_cat r := by
      rw [hc]
      rcases r with x | (_ | k) | (_ | n) | u <;> rfl
    rw [e]
    exact rx_args_ok (i + rx_cat r) h.2
  | _, [], _ :: _, h => h.elim
  | _, _ :: _, [], h => h.elim
theorem rx_sl_len {ρ : Nat → Int} {b : Nat} {as : List Nat} : ∀ {rs : List rx_V} {vs : List Value}, rx_gL ρ b as rs vs → (lg_sl vs).length = rx_sum rs
  | [], [], _ => rfl
  | r :: rs, v :: vs, h => by
    have hc := rx_cat_ok h.1
    have ih := rx_sl_len h.2
    have e : lg_sl (v :: vs) = (if v.category = 2 then [Slot.val v, Slot.second] else [Slot.val v]) ++ lg_sl vs := rfl
    rw [e, List.length_append, ih]
    show _ = rx_cat r + rx_sum rs
    rw [hc]
    rcases r with x | (_ | k) | (_ | n) | u <;> rfl
  | [], _ :: _, h => h.elim
  | _ :: _, [], h => h.elim
/-- the words of a method, out of its row -/
theorem rx_mw_ok {mj : Nat} (h : rx_mw mj = true) : Jvm.Cond.code (rx_y mj) (rx_by mj) (rx_ml mj) (rx_rt mj) ∈ rx_tt ∧ Jvm.Cond.initialized (rx_y mj).cls ∈ rx_tt ∧ plainName (rx_y mj).cls = true ∧ ((rx_y mj).cls ≠ "java/lang/invoke/MethodHandle" ∧ (rx_y mj).cls ≠ "java/lang/invoke/VarHandle" ∧ (parseMethodDescriptor (rx_y mj).desc).map (fun d => d.parameters.length) = some (rx_w mj).2.2.2.2.2) ∧ ((rx_w mj).2.2.2.2.1 = 0 → Jvm.Cond.instanceMethod (rx_y mj) ∈ rx_tt ∧ Jvm.Cond.selects (rx_y mj).cls (rx_y mj) (rx_y mj) ∈ rx_tt) ∧ ((rx_w mj).2.2.2.2.1 = 1 → Jvm.Cond.static (rx_y mj) ∈ rx_tt) ∧ ((rx_w mj).2.2.2.2.1 = 2 → Jvm.Cond.instanceMethod (rx_y mj) ∈ rx_tt ∧ (rx_y mj).name = "<init>" ∧ rx_rt mj = none) := by
  unfold rx_mw at h
  obtain ⟨h, h7⟩ := rx_and h
  obtain ⟨h, h6⟩ := rx_and h
  obtain ⟨h, h5⟩ := rx_and h
  obtain ⟨h, h4⟩ := rx_and h
  obtain ⟨h, h3⟩ := rx_and h
  obtain ⟨h1, h2⟩ := rx_and h
  refine ⟨rx_mem_ok h1, rx_mem_ok h2, h3, ⟨of_decide_eq_true h4, of_decide_eq_true h5, of_decide_eq_true h6⟩, fun e => ?_, fun e => ?_, fun e => ?_⟩
  · rw [e] at h7
    obtain ⟨a, d⟩ := rx_and h7
    exact ⟨rx_mem_ok a, rx_mem_ok d⟩
  · rw [e] at h7
    exact rx_mem_ok h7
  · rw [e] at h7
    obtain ⟨h7, d⟩ := rx_and h7
    obtain ⟨a, g⟩ := rx_and h7
    exact ⟨rx_mem_ok a, of_decide_eq_true g, of_decide_eq_true d⟩
theorem rx_goodin {mj : Nat} (h : Jvm.Cond.code (rx_y mj) (rx_by mj) (rx_ml mj) (rx_rt mj) ∈ rx_tt) : GoodIn rx_tt (rx_ws mj) := by
  intro w hw
  rcases List.mem_cons.mp hw with e | e
  · subst e
    exact ⟨h, good_of_word (List.mem_filter.mp h).2⟩
  · exact ⟨e, good_of_word (List.mem_filter.mp e).2⟩
def rx_Pc (D : va_G) (cc : Nat → ClassId) (ws : va_W) (sz : Nat) (av : List Value) : Array Value → State → Prop := va_Pc av (fun U => U.heap.size = sz ∧ va_P D rx_cls ws U.heap ∧ va_K D rx_cls (rx_tys cc) U ∧ va_D (fun _ => True) ws ∧ rx_xw U)
def rx_Qc (ρ : Nat → Int) (b : Nat) (D : va_G) (cc : Nat → ClassId) (ws : va_W) (sz mj : Nat) (os : List rx_A) : Array Value → State → Outcome → State → Prop := fun _ st oc t => ∃ o ∈ os, ∃ (rv : List rx_V) (v : Option Value) (ws2 : va_W), rx_back mj o = some rv ∧ oc = .returned v ∧ rx_gL ρ b (ws2.map Prod.fst) rv v.toList ∧ rx_gR ρ o.2.2.2.2.1 ∧ rx_gH ρ b cc o.2.2.2.2.2.1 ws2 ∧ va_P D rx_cls ws2 t.heap ∧ va_D (va_A ws sz) ws2 ∧ rx_ext (ws.map Prod.fst) (ws2.map Prod.fst) ∧ va_F (va_A ws sz) st t
set_option maxHeartbeats 4000000 in
theorem rx_met {ih : rx_F} (hih : rx_snd ih) (hT : ∀ (mi pc : Nat) (q : rx_Q), rx_fetch mi pc = some q → rx_chk mi pc q = true) {mj : Nat} {as : List rx_V} {sr : rx_S} {rh : rx_H} {os : List rx_A} (hrun : ih mj 0 (rx_args 0 as) [] sr rh 0 0 = some os) (hmj : 1 ≤ mj) (hmw : rx_mw mj = true) (hsum : rx_sum as ≤ rx_ml mj) (hback : ∀ o ∈ os, ∃ v, rx_back mj o = some v ∧ o.2.2.2.2.2.2.1 ≤ rx_mc mj ∧ o.2.2.2.2.2.2.2 ≤ rx_ms mj)
    (l : Launch) (D : va_G) (cc : Nat → ClassId) (ρ : Nat → Int) (b : Nat) (ws : va_W) (av : List Value) (sz : Nat) (hR : rx_gR ρ sr) (hH : rx_gH ρ b cc rh ws) (hL : rx_gL ρ b (ws.map Prod.fst) as av) :
    Met l (rx_y mj) (rx_ws mj) (rx_room mj) (rx_Pc D cc ws sz av) (rx_Qc ρ b D cc ws sz mj os) (rx_mc mj) (rx_ms mj) (va_A ws sz) := by
  obtain ⟨w1, w2, w3, w4, -⟩ := rx_mw_ok hmw
  refine Met.ofW (cc := rx_by mj) (maxL := rx_ml mj) (ret := rx_rt mj) w3 rfl ?_
  intro p e s m args below meth c s₁ B hml hv
  obtain ⟨rfl, hsz, hP, hK, hD0, hxw⟩ := hv
  have hr := B.returns
  have hlocks := B.notSynchronized
  have hF : rx_fr p (rx_room mj) s m av.toArray meth c mj := ⟨⟨B.exec, B.bytes, hml, findClass_of_methodNamed B.named, fun w hw => atoms_spec (ws := rx_ws mj) B.pre w (List.mem_cons_of_mem _ hw)⟩, rfl, Or.inr (name_of_methodNamed B.named B.method).1⟩
  subst hsz
  have hD := hD0.self (sz := s.heap.size)
  have hA : ∀ q : Nat, s.heap.size ≤ q → va_A ws s.heap.size q := fun q h => Or.inr h
  have hl := lv_entry av (n := rx_ml mj) (by rw [rx_sl_len hL]; exact hsum)
  rw [lg_entry_eq]
  generalize (lg_sl av ++ List.replicate (rx_ml mj - (lg_sl av).length) Slot.unset).toArray = ls at hl ⊢
  refine hih _ _ _ _ _ _ _ _ _ hrun p l e (rx_room mj) s m av.toArray below meth c D cc (va_A ws s.heap.size) ρ b 0 (fun _ => 0) (ws.map Prod.fst) _ hF (fun h0 => absurd h0 (by omega)) ?_ s.heap [] ws ls [] ⟨hK, hP, hD, va_S.rf, hA, hxw⟩ ⟨hR, hH, ⟨_, hl, rx_args_ok 0 hL⟩, trivial, rx_ext.rf _⟩
  intro o ho H locs ws2 ls2 st2 hW hS
  obtain ⟨rv, hb, c1, c2⟩ := hback o ho
  obtain ⟨hR2, hH2, hN2, hL2, hX2⟩ := hS
  have hroom1 : (rx_room mj).cells = rx_mc mj := by
    cases mj with
    | zero => omega
    | succ k => rfl
  refine W.widen c1 c2 ?_
  have hend : ∀ (v : Option Value), rx_gL ρ b (ws2.map Prod.fst) rv v.toList → ∀ t : State, t.heap = H → s.WarmedH t.vm → rx_Qc ρ b D cc ws s.heap.size mj os av.toArray s (.returned v) t := fun v hv t ht hWt => ⟨o, ho, rv, v, ws2, hb, rfl, hv, hR2, hH2, by rw [ht]; exact hW.2.1, hW.2.2.1, hX2, hW.2.2.2.1.F ht⟩
  have hfree : ∀ q ∈ locs, va_A ws s.heap.size q.base := hW.2.2.2.1.2.2
  unfold rx_back at hb
  split at hb
  · rename_i q hq es
    rw [es] at hL2
    have hL2 := rx_gL.nil hL2
    subst hL2
    split at hb
    · rename_i hrt
      obtain ⟨g1, hb⟩ := rx_cnd hb
      cases hb
      have hd := (rx_d1 (hT _ _ _ hq) (rx_beq g1) (I := .return_) (n := 1) (by unfold rx_ins; rw [rx_beq g1]; rfl) rfl (by decide)).1
      exact W.vret hF.1.1 hF.1.2.1 (hr.trans hrt) (hend none trivial) hfree hd hlocks
    · cases hb
  · rename_i q r hq es
    rw [es] at hL2
    obtain ⟨_, s1, rfl, ⟨x, rfl, hx⟩, hL3⟩ := hL2.cons
    have hL3 := rx_gL.nil hL3
    subst hL3
    split at hb
    · rename_i hrt
      obtain ⟨g1, hb⟩ := rx_cnd hb
      cases hb
      have hd := (rx_d1 (hT _ _ _ hq) (rx_beq g1) (I := .ireturn) (n := 1) (by unfold rx_ins; rw [rx_beq g1]; rfl) rfl (by decide)).1
      exact W.iret hF.1.1 hF.1.2.1 (hr.trans hrt) (hend (some (.int x)) ⟨⟨x, rfl, hx⟩, trivial⟩) hfree hd hlocks
    · rename_i hrt
      obtain ⟨g1, hb⟩ := rx_cnd hb
      obtain ⟨g1, g2⟩ := rx_and g1
      cases hb
      have hd := (rx_d1 (hT _ _ _ hq) (rx_beq g1) (I := .ireturn) (n := 1) (by unfold rx_ins; rw [rx_beq g1]; rfl) rfl (by decide)).1
      have h01 := rx_takes_ok (r := .inl r) (t := .boolean) (as := ws2.map Prod.fst) (b := b) (v := .int x) hR2 ⟨x, rfl, hx⟩ g2 rfl
      exact W.zret hF.1.1 hF.1.2.1 (hr.trans hrt) h01.1 (hend (some (.int x)) ⟨⟨x, rfl, hx⟩, trivial⟩) hfree hd hlocks
    · cases hb
  · cases hb
theorem rx_blind {D : va_G} {cc : Nat → ClassId} {ws : va_W} {sz : Nat} {av : List Value} : FrameBlind (rx_Pc D cc ws sz av) := by
  intro a U g mk q
  obtain ⟨q0, q1, qP, qK, qD, qx⟩ := q
  exact ⟨q0, q1, qP, va_K.moved (u := U) (U := U.calling g mk a) (Vm.Alike.refl U.vm) qK, qD, rx_xw.same (U := U.calling g mk a) rfl qx⟩
/-- behind a call -/
theorem rx_call_goal {ih : rx_F} (hih : rx_snd ih) (hT : ∀ (mi pc : Nat) (q : rx_Q), rx_fetch mi pc = some q → rx_chk mi pc q = true) {mi pc mj : Nat} {loc : rx_L} {stk rest as : List rx_V} {sr : rx_S} {rh : rx_H} {ce sl : Nat} {outs : List rx_A} (h : rx_call ih mi pc loc rest sr rh ce sl 3 mj as = some outs) (hmw : rx_mw mj = true)
    (hcall : ∀ (p : Program) (l : Launch) (e : Env) (R : Room) (s : State) (m : MethodId) (args : Array Value) (below : List Frame) (meth : Method) (c : Code) (D : va_G) (cc : Nat → ClassId) (A : Nat → Prop) (ρ : Nat → Int) (b : Nat) (os : List rx_A) (H : Heap) (locs : List Loc) (ws : va_W) (ls : Array Slot) (st : List Value), rx_fr p R s m args meth c mi → rx_wd D cc A s H locs ws → rx_gH ρ b cc rh ws → rx_gL ρ b (ws.map Prod.fst) stk st → ls.size = rx_ml mi → (rx_room mj).frames + 1 ≤ R.frames → 8 + (rx_ml mj + 11) + (rx_room mj).locals ≤ R.locals → ce + rx_mc mj ≤ R.cells → sl + rx_ms mj ≤ R.slots → rx_sum rest ≤ 8 →
      (∀ av : List Value, rx_gL ρ b (ws.map Prod.fst) as av → Met l (rx_y mj) (rx_ws mj) (rx_room mj) (rx_Pc D cc ws H.size av) (rx_Qc ρ b D cc ws H.size mj os) (rx_mc mj) (rx_ms mj) (va_A ws H.size)) →
      ∃ (a : Array Value) (st2 : List Value), rx_gL ρ b (ws.map Prod.fst) rest st2 ∧ va_Run p l e R s m args below meth c H locs ce sl (rx_mc mj) (rx_ms mj) (F0 m pc ls st) st2 (rx_Qc ρ b D cc ws H.size mj os a) (va_A ws H.size)) : rx_goal mi pc loc stk sr rh ce sl outs := by
  unfold rx_call at h
  obtain ⟨h1, h⟩ := rx_cnd h
  obtain ⟨h1, g7⟩ := rx_and h1
  obtain ⟨h1, g6⟩ := rx_and h1
  obtain ⟨h1, g5⟩ := rx_and h1
  obtain ⟨h1, g4⟩ := rx_and h1
  obtain ⟨h1, g3⟩ := rx_and h1
  obtain ⟨g1, g2⟩ := rx_and h1
  have g6 := rx_ble g6
  split at h
  · cases h
  · rename_i os hrun
    have hback : ∀ o ∈ os, ∃ v, rx_back mj o = some v ∧ o.2.2.2.2.2.2.1 ≤ rx_mc mj ∧ o.2.2.2.2.2.2.2 ≤ rx_ms mj := fun o ho => by
      obtain ⟨r, hr, -⟩ := rx_all_ok h o ho
      cases hv : rx_back mj o with
      | none => rw [hv] at hr; cases hr
      | some v =>
        rw [hv] at hr
        obtain ⟨k1, -⟩ := rx_cnd hr
        obtain ⟨k1, k2⟩ := rx_and k1
        exact ⟨v, rfl, rx_ble k1, rx_ble k2⟩
    intro p l e R s m args below meth c D cc A ρ b L xs as0 Q hF hsc hK H locs ws ls st hW hS
    obtain ⟨hR, hH, ⟨lv, hlv, hN⟩, hL, hX⟩ := hS
    have hRm : R = rx_room mi := hF.2.1
    have f1 : (rx_room mj).frames = rx_lv mj := by
      cases mj with
      | zero => omega
      | succ k => rfl
    have f2 : (rx_room mj).locals = 100 * rx_lv mj := by
      cases mj with
      | zero => omega
      | succ k => rfl
    obtain ⟨a, st2, hL2, hrn⟩ := hcall p l e R s m args below meth c D cc A ρ b os H locs ws ls st hF hW hH hL hlv.1 (by rw [f1, hRm]; exact rx_ble g1) (by rw [f2, hRm]; exact rx_ble g2) (by rw [hRm]; exact rx_ble g3) (by rw [hRm]; exact rx_ble g4) (rx_ble g5) (fun av hav => rx_met hih hT hrun g6 hmw (rx_ble g7) hback l D cc ρ b ws av H.size hR hH hav)
    intro T hTh X
    obtain ⟨v, st₀, t, T2, Lc, h0, X2, hLc, e1, e2, ⟨o, ho, rv, v2, ws2, q1, q2, q3, q4, q5, q6, q7, q8, q9⟩, step⟩ := hrn T hTh X
    cases q2
    obtain ⟨r, hr, hsub⟩ := rx_all_ok h o ho
    rw [q1] at hr
    obtain ⟨-, hr⟩ := rx_cnd hr
    have hAA : ∀ q : Nat, va_A ws H.size q → A q := fun q hq => by
      rcases hq with ⟨k, e9, hk⟩ | hq
      · exact hW.2.2.1.2 k (q, e9) hk
      · exact hW.2.2.2.2.1 q (Nat.le_trans hW.2.2.2.1.1 hq)
    have hS2 : va_S A s.heap t.heap (locs ++ Lc) := by
      obtain ⟨z1, z2⟩ := q9
      rw [h0] at z1 z2
      refine ⟨Nat.le_trans hW.2.2.2.1.1 z1, fun x hx hnA => ?_, fun lc hlc => ?_⟩
      · rw [z2 x (Nat.lt_of_lt_of_le hx hW.2.2.2.1.1) (fun z => hnA (hAA x z))]
        exact hW.2.2.2.1.2.1 x hx hnA
      · rcases List.mem_append.mp hlc with z | z
        · exact hW.2.2.2.1.2.2 lc z
        · exact hAA _ (hLc lc z)
    have k := hih _ _ _ _ _ _ _ _ _ hr p l e R s m args below meth c D cc A ρ b L xs as0 Q hF hsc (fun o2 ho2 => hK o2 (hsub o2 ho2)) t.heap (locs ++ Lc) ws2 ls (v.toList ++ st2) ⟨hW.1, q6, q7.weaken (fun _ _ _ z => hAA _ z), hS2, hW.2.2.2.2⟩ ⟨q4, q5, ⟨lv, hlv, rx_gN.ex q8 hN⟩, rx_gL.app q3 (rx_gL.ex q8 hL2), hX.tr q8⟩
    obtain ⟨t2, b1, b2⟩ := k T2 e1 X2
    exact ⟨t2, step t2 b1, b2⟩
theorem rx_pre {p : Program} {R : Room} {s : State} {m : MethodId} {args : Array Value} {meth : Method} {c : Code} {D : va_G} {cc : Nat → ClassId} {A : Nat → Prop} {H : Heap} {locs : List Loc} {ws : va_W} (hW : rx_wd D cc A s H locs ws) (av : List Value) : ∀ U : State, U.heap = H → s.WarmedH U.vm → rx_Pc D cc ws H.size av av.toArray U := fun U hU hWm => ⟨rfl, by rw [hU], by rw [hU]; exact hW.2.1, va_K.moved hWm.alike hW.1, hW.2.2.1.weaken (fun _ _ _ _ => trivial), hW.2.2.2.2.2.moved hWm⟩
theorem rx_room_cs {mj : Nat} (h : 1 ≤ mj) : (rx_room mj).cells = rx_mc mj ∧ (rx_room mj).slots = rx_ms mj := by
  cases mj with
  | zero => omega
  | succ k => exact ⟨rfl, rfl⟩
def rx_hokT (t : Nat) (h : rx_F → rx_Q → rx_F) : Prop := (∀ (mi pc : Nat) (q : rx_Q), rx_fetch mi pc = some q → rx_chk mi pc q = true) → (∀ a : Nat, (rx_w a).2.2.2.2.1 ≠ 9 → rx_mw a = true ∧ 1 ≤ a) → rx_hok t h
theorem rx_ok_24 : rx_hokT 24 rx_invS := by
  intro hT hM ih hih q mi pc loc stk sr rh ce sl outs hq hc h
  obtain ⟨hd, hn⟩ := rx_d1 hc hq (I := .invokestatic q.2.2.2.2.2.2.2.1) (n := 3) (by unfold rx_ins; rw [hq]; rfl) rfl (by decide)
  have hl : (rx_mem q.2.2.2.2.2.2.1 (.methodLink (rx_y mi).cls q.2.2.2.2.2.2.2.1 (rx_y q.2.2.1)) && Nat.beq (rx_w q.2.2.1).2.2.2.2.1 1 && Nat.beq (rx_w q.2.2.1).2.2.2.2.2 q.2.2.2.2.2.1) = true := by
    have := (rx_d0 hc).2.2
    unfold rx_lnk at this
    rw [hq] at this
    exact this
  obtain ⟨hl, g3⟩ := rx_and hl
  obtain ⟨g1, g2⟩ := rx_and hl
  have g2 := rx_beq g2
  have g3 := rx_beq g3
  obtain ⟨hmw, hmj⟩ := hM q.2.2.1 (by rw [g2]; decide)
  obtain ⟨w1, w2, w3, w4, -, w6, -⟩ := rx_mw_ok hmw
  unfold rx_invS at h
  split at h
  · rename_i w hw
    obtain ⟨as, rest⟩ := w
    rw [hn] at h
    obtain ⟨t, ht1, ht2, ht3⟩ := rx_pop_ok _ hw
    rw [List.append_nil] at ht2
    refine rx_call_goal hih hT h hmw (fun p l e R s m args below meth c D cc A ρ b os H locs ws ls st hF hW hH hL hz f1 f2 f3 f4 f5 hM2 => ?_)
    rw [ht1] at hL
    obtain ⟨ts, st2, rfl, hLt, hLr⟩ := rx_gL.split hL
    have hav : rx_gL ρ b (ws.map Prod.fst) as ts.reverse := by rw [ht2]; exact rx_gL.rev hLt
    have hts := hF.1.2.2.2.2
    refine ⟨ts.reverse.toArray, st2, hLr, va_runS (As := ts.reverse) hF.1 (hM2 _ hav) ⟨callB_of q.2.2.2.2.2.1 hts (rx_goodin w1) rfl (rx_room_cs hmj).1 (rx_room_cs hmj).2 (hts _ w2) (hts _ (rx_mem_ok g1)) (by rw [← g3]; exact w4) ⟨f1, f2⟩, hts _ (w6 g2)⟩ ⟨rx_blind, rx_pre (p := p) (R := R) (m := m) (args := args) (meth := meth) (c := c) hW _⟩ rfl ?_ hz (by rw [List.reverse_reverse]) ?_ hd ⟨f3, f4⟩⟩
    · rw [List.length_reverse, rx_gL.len hLt, ht3]
    · have := rx_sum_ok hLr
      exact lv_room (m := m) (pc := pc) (ls := ls) (rest := ts ++ st2) (by rw [this]; exact f5)
  · cases h
theorem rx_ok_8 : rx_hokT 8 rx_invV := by
  intro hT hM ih hih q mi pc loc stk sr rh ce sl outs hq hc h
  obtain ⟨hd, hn⟩ := rx_d1 hc hq (I := .invokevirtual q.2.2.2.2.2.2.2.1) (n := 3) (by unfold rx_ins; rw [hq]; rfl) rfl (by decide)
  have hl : (rx_mem q.2.2.2.2.2.2.1 (.methodLink (rx_y mi).cls q.2.2.2.2.2.2.2.1 (rx_y q.2.2.1)) && Nat.beq (rx_w q.2.2.1).2.2.2.2.1 0 && Nat.beq (rx_w q.2.2.1).2.2.2.2.2 q.2.2.2.2.2.1 && (match rx_at rx_cls (Nat.div q.2.2.2.1 (nat_lit 10)) with
    | some (C, _, _) => decide ((rx_y q.2.2.1).cls = C)
    | none => false)) = true := by
    have := (rx_d0 hc).2.2
    unfold rx_lnk at this
    rw [hq] at this
    exact this
  obtain ⟨hl, g4⟩ := rx_and hl
  obtain ⟨hl, g3⟩ := rx_and hl
  obtain ⟨g1, g2⟩ := rx_and hl
  have g2 := rx_beq g2
  have g3 := rx_beq g3
  obtain ⟨hmw, hmj⟩ := hM q.2.2.1 (by rw [g2]; decide)
  obtain ⟨w1, w2, w3, w4, w5, -, -⟩ := rx_mw_ok hmw
  obtain ⟨w5, w6⟩ := w5 g2
  unfold rx_invV at h
  split at h
  · rename_i w hw
    obtain ⟨as, rest⟩ := w
    rw [hn] at h
    dsimp only at h
    split at h
    · rename_i o rest2
      split at h
      · rename_i u hu
        obtain ⟨hci, h⟩ := rx_cnd h
        have hci := rx_beq hci
        obtain ⟨t, ht1, ht2, ht3⟩ := rx_pop_ok _ hw
        rw [List.append_nil] at ht2
        refine rx_call_goal hih hT h hmw (fun p l e R s m args below meth c D cc A ρ b os H locs ws ls st hF hW hH hL hz f1 f2 f3 f4 f5 hM2 => ?_)
        rw [ht1] at hL
        obtain ⟨ts, st2, rfl, hLt, hLr⟩ := rx_gL.split hL
        obtain ⟨_, st3, rfl, ⟨a, ha, rfl⟩, hLr3⟩ := hLr.cons
        have hav : rx_gL ρ b (ws.map Prod.fst) (.inr (.inl (some o)) :: as) (.ref a :: ts.reverse) := ⟨⟨a, ha, rfl⟩, by rw [ht2]; exact rx_gL.rev hLt⟩
        obtain ⟨ee, e1, fs, rfl, hfs⟩ := hH.cell ha hu
        rw [rx_at_eq] at g4
        cases hcl : rx_cls[Nat.div q.2.2.2.1 (nat_lit 10)]? with
        | none => rw [hcl] at g4; cases g4
        | some z =>
          obtain ⟨C, Tt, N⟩ := z
          rw [hcl] at g4
          have g4 : (rx_y q.2.2.1).cls = C := of_decide_eq_true g4
          have hts := hF.1.2.2.2.2
          have hrec := va_recv hW.1 hW.2.1 (ci := u.1) (q := (C, Tt, N)) (q0 := o) (by rw [hci]; exact hcl) e1
          refine ⟨(Value.ref a :: ts.reverse).toArray, st3, hLr3, va_runV (As := ts.reverse) (C := (rx_y q.2.2.1).cls) hF.1 (hM2 _ hav) ⟨callB_of q.2.2.2.2.2.1 hts (rx_goodin w1) rfl (rx_room_cs hmj).1 (rx_room_cs hmj).2 (hts _ w2) (hts _ (rx_mem_ok g1)) (by rw [← g3]; exact w4) ⟨f1, f2⟩, hts _ w5, hts _ w6⟩ ⟨rx_blind, by rw [g4]; exact hrec, rx_pre (p := p) (R := R) (m := m) (args := args) (meth := meth) (c := c) hW _⟩ rfl ?_ hz (by rw [List.reverse_reverse]) ?_ hd ⟨f3, f4⟩⟩
          · rw [List.length_reverse, rx_gL.len hLt, ht3]
          · have := rx_sum_ok hLr3
            exact lv_room (m := m) (pc := pc) (ls := ls) (rest := ts ++ .ref a :: st3) (by rw [this]; exact f5)
      · cases h
    · cases h
  · cases h
theorem rx_ok_33 : rx_hokT 33 rx_invV := by
  intro hT hM ih hih q mi pc loc stk sr rh ce sl outs hq hc h
  obtain ⟨hd, hn⟩ := rx_d1 hc hq (I := .invokespecial q.2.2.2.2.2.2.2.1) (n := 3) (by unfold rx_ins; rw [hq]; rfl) rfl (by decide)
  have hl : (Nat.beq (rx_w q.2.2.1).2.2.2.2.1 2 && Nat.beq (rx_w q.2.2.1).2.2.2.2.2 q.2.2.2.2.2.1 && (rx_mem q.2.2.2.2.2.2.1 (.methodLink (rx_y mi).cls q.2.2.2.2.2.2.2.1 (rx_y q.2.2.1)) || rx_mem0 q.2.2.2.2.2.2.1 (.methodLinkNest (rx_y mi).cls q.2.2.2.2.2.2.2.1 (rx_y q.2.2.1) "MirrorLies"))) = true := by
    have := (rx_d0 hc).2.2
    unfold rx_lnk at this
    rw [hq] at this
    exact this
  obtain ⟨hl, g1⟩ := rx_and hl
  obtain ⟨g2, g3⟩ := rx_and hl
  have g2 := rx_beq g2
  have g3 := rx_beq g3
  obtain ⟨hmw, hmj⟩ := hM q.2.2.1 (by rw [g2]; decide)
  obtain ⟨w1, w2, w3, w4, -, -, w7⟩ := rx_mw_ok hmw
  obtain ⟨w5, w6, w8⟩ := w7 g2
  unfold rx_invV at h
  split at h
  · rename_i w hw
    obtain ⟨as, rest⟩ := w
    rw [hn] at h
    dsimp only at h
    split at h
    · rename_i o rest2
      split at h
      · rename_i u hu
        obtain ⟨hci, h⟩ := rx_cnd h
        obtain ⟨t, ht1, ht2, ht3⟩ := rx_pop_ok _ hw
        rw [List.append_nil] at ht2
        refine rx_call_goal hih hT h hmw (fun p l e R s m args below meth c D cc A ρ b os H locs ws ls st hF hW hH hL hz f1 f2 f3 f4 f5 hM2 => ?_)
        rw [ht1] at hL
        obtain ⟨ts, st2, rfl, hLt, hLr⟩ := rx_gL.split hL
        obtain ⟨_, st3, rfl, ⟨a, ha, rfl⟩, hLr3⟩ := hLr.cons
        have hav : rx_gL ρ b (ws.map Prod.fst) (.inr (.inl (some o)) :: as) (.ref a :: ts.reverse) := ⟨⟨a, ha, rfl⟩, by rw [ht2]; exact rx_gL.rev hLt⟩
        have hts := hF.1.2.2.2.2
        have hlen : ts.reverse.length = q.2.2.2.2.2.1 := by rw [List.length_reverse, rx_gL.len hLt, ht3]
        have hrm := lv_room (m := m) (pc := pc) (ls := ls) (rest := ts ++ .ref a :: st3) (st := st3) (by rw [rx_sum_ok hLr3]; exact f5)
        rw [Bool.or_eq_true] at g1
        have hw' : rx_ws q.2.2.1 = .code (rx_y q.2.2.1) (rx_by q.2.2.1) (rx_ml q.2.2.1) none :: rx_tt := by
          unfold rx_ws
          rw [w8]
        rcases g1 with g1 | g1
        · exact ⟨(Value.ref a :: ts.reverse).toArray, st3, hLr3, va_runI (As := ts.reverse) hF.1 (hM2 _ hav) ⟨callB_of q.2.2.2.2.2.1 hts (rx_goodin w1) hw' (rx_room_cs hmj).1 (rx_room_cs hmj).2 (hts _ w2) (hts _ (rx_mem_ok g1)) (by rw [← g3]; exact w4) ⟨f1, f2⟩, w6, hts _ w5⟩ ⟨rx_blind, rx_pre (p := p) (R := R) (m := m) (args := args) (meth := meth) (c := c) hW _⟩ rfl hlen hz (by rw [List.reverse_reverse]) hrm hd ⟨f3, f4⟩⟩
        · exact ⟨(Value.ref a :: ts.reverse).toArray, st3, hLr3, va_runIN (As := ts.reverse) hF.1 (hM2 _ hav) ⟨va_cnB q.2.2.2.2.2.1 hts (rx_goodin w1) hw' (rx_room_cs hmj).1 (rx_room_cs hmj).2 (hW.2.2.2.2.2.1 _ _ _ _ (rx_mem0_ok g1)) (hts _ w2) (by rw [← g3]; exact w4) ⟨f1, f2⟩, w6, hts _ w5⟩ ⟨rx_blind, rx_pre (p := p) (R := R) (m := m) (args := args) (meth := meth) (c := c) hW _⟩ rfl hlen hz (by rw [List.reverse_reverse]) hrm hd ⟨f3, f4⟩⟩
      · cases h
    · cases h
  · cases h
end
section
/-! all rows, the run -/
def rx_ks : List Nat := [0, 1, 2, 3, 4, 5, 6, 7, 8, 9, 10, 11, 12, 13, 14, 15, 16, 17, 18, 19, 20, 21, 22, 23, 24, 25, 26, 27, 28, 29, 30, 31, 32, 33, 34, 35, 36, 37, 38, 39, 40, 41, 42, 43, 44, 45, 46, 47, 48, 49, 50, 51, 52, 53, 54, 55, 56, 57, 58, 59, 60, 61, 62, 63, 64, 65, 66, 67, 68, 69, 70, 71, 72, 73, 74, 75, 76, 77, 78, 79, 80, 81, 82, 83, 84, 85, 86, 87, 88, 89, 90, 91, 92, 93, 94, 95, 96, 97, 98, 99, 100, 101, 102, 103, 104, 105, 106, 107, 108, 109, 110, 111, 112, 113, 114, 115, 116, 117, 118, 119, 120, 121, 122, 123, 124, 125, 126, 127, 128, 129, 130, 131, 132, 133, 134, 135, 136, 137, 138, 139, 140, 141, 142, 143, 144, 145, 146, 147, 148, 149, 150, 151, 152, 153, 154, 155, 156, 157, 158, 159, 160, 161, 162, 163, 164, 165, 166, 167, 168, 169, 170, 171, 172, 173, 174, 175, 176, 177, 178, 179, 180, 181, 182, 183, 184]
theorem rx_ks_in : ∀ k, k < 185 → k ∈ rx_ks := by decide +kernel
set_option maxRecDepth 100000 in
theorem rx_mc_ks : ∀ k ∈ rx_ks, rx_mchk k = true := List.forall_mem_cons.mpr ⟨rx_mc_0, List.forall_mem_cons.mpr ⟨rx_mc_1, List.forall_mem_cons.mpr ⟨rx_mc_2, List.forall_mem_cons.mpr ⟨rx_mc_3, List.forall_mem_cons.mpr ⟨rx_mc_4, List.forall_mem_cons.mpr ⟨rx_mc_5, List.forall_mem_cons.mpr ⟨rx_mc_6, List.forall_mem_cons.mpr ⟨rx_mc_7, List.forall_mem_cons.mpr ⟨rx_mc_8, List.forall_mem_cons.mpr ⟨rx_mc_9, List.forall_mem_cons.mpr ⟨rx_mc_10, List.forall_mem_cons.mpr ⟨rx_mc_11, List.forall_mem_cons.mpr ⟨rx_mc_12, List.forall_mem_cons.mpr ⟨rx_mc_13, List.forall_mem_cons.mpr ⟨rx_mc_14, List.forall_mem_cons.mpr ⟨rx_mc_15, List.forall_mem_cons.mpr ⟨rx_mc_16, List.forall_mem_cons.mpr ⟨rx_mc_17, List.forall_mem_cons.mpr ⟨rx_mc_18, List.forall_mem_cons.mpr ⟨rx_mc_19, List.forall_mem_cons.mpr ⟨rx_mc_20, List.forall_mem_cons.mpr ⟨rx_mc_21, List.forall_mem_cons.mpr ⟨rx_mc_22, List.forall_mem_cons.mpr ⟨rx_mc_23, List.forall_mem_cons.mpr ⟨rx_mc_24, List.forall_mem_cons.mpr ⟨rx_mc_25, List.forall_mem_cons.mpr ⟨rx_mc_26, List.forall_mem_cons.mpr ⟨rx_mc_27, List.forall_mem_cons.mpr ⟨rx_mc_28, List.forall_mem_cons.mpr ⟨rx_mc_29, List.forall_mem_cons.mpr ⟨rx_mc_30, List.forall_mem_cons.mpr ⟨rx_mc_31, List.forall_mem_cons.mpr ⟨rx_mc_32, List.forall_mem_cons.mpr ⟨rx_mc_33, List.forall_mem_cons.mpr ⟨rx_mc_34, List.forall_mem_cons.mpr ⟨rx_mc_35, List.forall_mem_cons.mpr ⟨rx_mc_36, List.forall_mem_cons.mpr ⟨rx_mc_37, List.forall_mem_cons.mpr ⟨rx_mc_38, List.forall_mem_cons.mpr ⟨rx_mc_39, List.forall_mem_cons.mpr ⟨rx_mc_40, List.forall_mem_cons.mpr ⟨rx_mc_41, List.forall_mem_cons.mpr ⟨rx_mc_42, List.forall_mem_cons.mpr ⟨rx_mc_43, List.forall_mem_cons.mpr ⟨rx_mc_44, List.forall_mem_cons.mpr ⟨rx_mc_45, List.forall_mem_cons.mpr ⟨rx_mc_46, List.forall_mem_cons.mpr ⟨rx_mc_47, List.forall_mem_cons.mpr ⟨rx_mc_48, List.forall_mem_cons.mpr ⟨rx_mc_49, List.forall_mem_cons.mpr ⟨rx_mc_50, List.forall_mem_cons.mpr ⟨rx_mc_51, List.forall_mem_cons.mpr ⟨rx_mc_52, List.forall_mem_cons.mpr ⟨rx_mc_53, List.forall_mem_cons.mpr ⟨rx_mc_54, List.forall_mem_cons.mpr ⟨rx_mc_55, List.forall_mem_cons.mpr ⟨rx_mc_56, List.forall_mem_cons.mpr ⟨rx_mc_57, List.forall_mem_cons.mpr ⟨rx_mc_58, List.forall_mem_cons.mpr ⟨rx_mc_59, List.forall_mem_cons.mpr ⟨rx_mc_60, List.forall_mem_cons.mpr ⟨rx_mc_61, List.forall_mem_cons.mpr ⟨rx_mc_62, List.forall_mem_cons.mpr ⟨rx_mc_63, List.forall_mem_cons.mpr ⟨rx_mc_64, List.forall_mem_cons.mpr ⟨rx_mc_65, List.forall_mem_cons.mpr ⟨rx_mc_66, List.forall_mem_cons.mpr ⟨rx_mc_67, List.forall_mem_cons.mpr ⟨rx_mc_68, List.forall_mem_cons.mpr ⟨rx_mc_69, List.forall_mem_cons.mpr ⟨rx_mc_70, List.forall_mem_cons.mpr ⟨rx_mc_71, List.forall_mem_cons.mpr ⟨rx_mc_72, List.forall_mem_cons.mpr ⟨rx_mc_73, List.forall_mem_cons.mpr ⟨rx_mc_74, List.forall_mem_cons.mpr ⟨rx_mc_75, List.forall_mem_cons.mpr ⟨rx_mc_76, List.forall_mem_cons.mpr ⟨rx_mc_77, List.forall_mem_cons.mpr ⟨rx_mc_78, List.forall_mem_cons.mpr ⟨rx_mc_79, List.forall_mem_cons.mpr ⟨rx_mc_80, List.forall_mem_cons.mpr ⟨rx_mc_81, List.forall_mem_cons.mpr ⟨rx_mc_82, List.forall_mem_cons.mpr ⟨rx_mc_83, List.forall_mem_cons.mpr ⟨rx_mc_84, List.forall_mem_cons.mpr ⟨rx_mc_85, List.forall_mem_cons.mpr ⟨rx_mc_86, List.forall_mem_cons.mpr ⟨rx_mc_87, List.forall_mem_cons.mpr ⟨rx_mc_88, List.forall_mem_cons.mpr ⟨rx_mc_89, List.forall_mem_cons.mpr ⟨rx_mc_90, List.forall_mem_cons.mpr ⟨rx_mc_91, List.forall_mem_cons.mpr ⟨rx_mc_92, List.forall_mem_cons.mpr ⟨rx_mc_93, List.forall_mem_cons.mpr ⟨rx_mc_94, List.forall_mem_cons.mpr ⟨rx_mc_95, List.forall_mem_cons.mpr ⟨rx_mc_96, List.forall_mem_cons.mpr ⟨rx_mc_97, List.forall_mem_cons.mpr ⟨rx_mc_98, List.forall_mem_cons.mpr ⟨rx_mc_99, List.forall_mem_cons.mpr ⟨rx_mc_100, List.forall_mem_cons.mpr ⟨rx_mc_101, List.forall_mem_cons.mpr ⟨rx_mc_102, List.forall_mem_cons.mpr ⟨rx_mc_103, List.forall_mem_cons.mpr ⟨rx_mc_104, List.forall_mem_cons.mpr ⟨rx_mc_105, List.forall_mem_cons.mpr ⟨rx_mc_106, List.forall_mem_cons.mpr ⟨rx_mc_107, List.forall_mem_cons.mpr ⟨rx_mc_108, List.forall_mem_cons.mpr ⟨rx_mc_109, List.forall_mem_cons.mpr ⟨rx_mc_110, List.forall_mem_cons.mpr ⟨rx_mc_111, List.forall_mem_cons.mpr ⟨rx_mc_112, List.forall_mem_cons.mpr ⟨rx_mc_113, List.forall_mem_cons.mpr ⟨rx_mc_114, List.forall_mem_cons.mpr ⟨rx_mc_115, List.forall_mem_cons.mpr ⟨rx_mc_116, List.forall_mem_cons.mpr ⟨rx_mc_117, List.forall_mem_cons.mpr ⟨rx_mc_118, List.forall_mem_cons.mpr ⟨rx_mc_119, List.forall_mem_cons.mpr ⟨rx_mc_120, List.forall_mem_cons.mpr ⟨rx_mc_121, List.forall_mem_cons.mpr ⟨rx_mc_122, List.forall_mem_cons.mpr ⟨rx_mc_123, List.forall_mem_cons.mpr ⟨rx_mc_124, List.forall_mem_cons.mpr ⟨rx_mc_125, List.forall_mem_cons.mpr ⟨rx_mc_126, List.forall_mem_cons.mpr ⟨rx_mc_127, List.forall_mem_cons.mpr ⟨rx_mc_128, List.forall_mem_cons.mpr ⟨rx_mc_129, List.forall_mem_cons.mpr ⟨rx_mc_130, List.forall_mem_cons.mpr ⟨rx_mc_131, List.forall_mem_cons.mpr ⟨rx_mc_132, List.forall_mem_cons.mpr ⟨rx_mc_133, List.forall_mem_cons.mpr ⟨rx_mc_134, List.forall_mem_cons.mpr ⟨rx_mc_135, List.forall_mem_cons.mpr ⟨rx_mc_136, List.forall_mem_cons.mpr ⟨rx_mc_137, List.forall_mem_cons.mpr ⟨rx_mc_138, List.forall_mem_cons.mpr ⟨rx_mc_139, List.forall_mem_cons.mpr ⟨rx_mc_140, List.forall_mem_cons.mpr ⟨rx_mc_141, List.forall_mem_cons.mpr ⟨rx_mc_142, List.forall_mem_cons.mpr ⟨rx_mc_143, List.forall_mem_cons.mpr ⟨rx_mc_144, List.forall_mem_cons.mpr ⟨rx_mc_145, List.forall_mem_cons.mpr ⟨rx_mc_146, List.forall_mem_cons.mpr ⟨rx_mc_147, List.forall_mem_cons.mpr ⟨rx_mc_148, List.forall_mem_cons.mpr ⟨rx_mc_149, List.forall_mem_cons.mpr ⟨rx_mc_150, List.forall_mem_cons.mpr ⟨rx_mc_151, List.forall_mem_cons.mpr ⟨rx_mc_152, List.forall_mem_cons.mpr ⟨rx_mc_153, List.forall_mem_cons.mpr ⟨rx_mc_154, List.forall_mem_cons.mpr ⟨rx_mc_155, List.forall_mem_cons.mpr ⟨rx_mc_156, List.forall_mem_cons.mpr ⟨rx_mc_157, List.forall_mem_cons.mpr ⟨rx_mc_158, List.forall_mem_cons.mpr ⟨rx_mc_159, List.forall_mem_cons.mpr ⟨rx_mc_160, List.forall_mem_cons.mpr ⟨rx_mc_161, List.forall_mem_cons.mpr ⟨rx_mc_162, List.forall_mem_cons.mpr ⟨rx_mc_163, List.forall_mem_cons.mpr ⟨rx_mc_164, List.forall_mem_cons.mpr ⟨rx_mc_165, List.forall_mem_cons.mpr ⟨rx_mc_166, List.forall_mem_cons.mpr ⟨rx_mc_167, List.forall_mem_cons.mpr ⟨rx_mc_168, List.forall_mem_cons.mpr ⟨rx_mc_169, List.forall_mem_cons.mpr ⟨rx_mc_170, List.forall_mem_cons.mpr ⟨rx_mc_171, List.forall_mem_cons.mpr ⟨rx_mc_172, List.forall_mem_cons.mpr ⟨rx_mc_173, List.forall_mem_cons.mpr ⟨rx_mc_174, List.forall_mem_cons.mpr ⟨rx_mc_175, List.forall_mem_cons.mpr ⟨rx_mc_176, List.forall_mem_cons.mpr ⟨rx_mc_177, List.forall_mem_cons.mpr ⟨rx_mc_178, List.forall_mem_cons.mpr ⟨rx_mc_179, List.forall_mem_cons.mpr ⟨rx_mc_180, List.forall_mem_cons.mpr ⟨rx_mc_181, List.forall_mem_cons.mpr ⟨rx_mc_182, List.forall_mem_cons.mpr ⟨rx_mc_183, List.forall_mem_cons.mpr ⟨rx_mc_184, fun _ h => absurd h List.not_mem_nil⟩⟩⟩⟩⟩⟩⟩⟩⟩⟩⟩⟩⟩⟩⟩⟩⟩⟩⟩⟩⟩⟩⟩⟩⟩⟩⟩⟩⟩⟩⟩⟩⟩⟩⟩⟩⟩⟩⟩⟩⟩⟩⟩⟩⟩⟩⟩⟩⟩⟩⟩⟩⟩⟩⟩⟩⟩⟩⟩⟩⟩⟩⟩⟩⟩⟩⟩⟩⟩⟩⟩⟩⟩⟩⟩⟩⟩⟩⟩⟩⟩⟩⟩⟩⟩⟩⟩⟩⟩⟩⟩⟩⟩⟩⟩⟩⟩⟩⟩⟩⟩⟩⟩⟩⟩⟩⟩⟩⟩⟩⟩⟩⟩⟩⟩⟩⟩⟩⟩⟩⟩⟩⟩⟩⟩⟩⟩⟩⟩⟩⟩⟩⟩⟩⟩⟩⟩⟩⟩⟩⟩⟩⟩⟩⟩⟩⟩⟩⟩⟩⟩⟩⟩⟩⟩⟩⟩⟩⟩⟩⟩⟩⟩⟩⟩⟩⟩⟩⟩⟩⟩⟩⟩⟩⟩⟩⟩⟩⟩⟩⟩⟩⟩⟩⟩
def rx_ks1 : List Nat := [1, 2, 3, 4, 5, 6, 7, 8, 9, 10, 11, 12, 13, 14, 15, 16, 17, 18, 19, 20, 21, 22, 23, 24, 25, 26, 27, 28, 29, 30, 31, 32, 33, 34, 35, 36, 37, 38, 39, 40, 41, 42, 43, 44, 45, 46, 47, 48, 49, 50, 51, 52, 53, 54, 55, 56, 57, 58, 59, 60, 61, 62, 63, 64, 65, 66, 67, 68, 69, 70, 71, 72, 73, 74, 75, 76, 77, 78, 79, 80, 81, 82, 83, 84, 85, 86, 87, 88, 89, 90, 91, 92, 93, 94, 95, 96, 97, 98, 99, 100, 101, 102, 103, 104, 105, 106, 107, 108, 109, 110, 111, 112, 113, 114, 115, 116, 117, 118, 119, 120, 121, 122, 123, 124, 125, 126, 127, 128, 129, 130, 131, 132, 133, 134, 135, 136, 137, 138, 139, 140, 141, 142, 143, 144, 145, 146, 147, 148, 149, 150, 151, 152, 153, 154, 155, 156, 157, 158, 159, 160, 161, 162, 163, 164, 165, 166, 167, 168, 169, 170, 171, 172, 173, 174, 175, 176, 177, 178, 179, 180, 181, 182, 183, 184]
theorem rx_ks1_in : ∀ k, k < 185 → k ≠ 0 → k ∈ rx_ks1 := by decide +kernel
set_option maxRecDepth 100000 in
theorem rx_mw_ks : ∀ k ∈ rx_ks1, rx_mw k = true := List.forall_mem_cons.mpr ⟨rx_mw_1, List.forall_mem_cons.mpr ⟨rx_mw_2, List.forall_mem_cons.mpr ⟨rx_mw_3, List.forall_mem_cons.mpr ⟨rx_mw_4, List.forall_mem_cons.mpr ⟨rx_mw_5, List.forall_mem_cons.mpr ⟨rx_mw_6, List.forall_mem_cons.mpr ⟨rx_mw_7, List.forall_mem_cons.mpr ⟨rx_mw_8, List.forall_mem_cons.mpr ⟨rx_mw_9, List.forall_mem_cons.mpr ⟨rx_mw_10, List.forall_mem_cons.mpr ⟨rx_mw_11, List.forall_mem_cons.mpr ⟨rx_mw_12, List.forall_mem_cons.mpr ⟨rx_mw_13, List.forall_mem_cons.mpr ⟨rx_mw_14, List.forall_mem_cons.mpr ⟨rx_mw_15, List.forall_mem_cons.mpr ⟨rx_mw_16, List.forall_mem_cons.mpr ⟨rx_mw_17, List.forall_mem_cons.mpr ⟨rx_mw_18, List.forall_mem_cons.mpr ⟨rx_mw_19, List.forall_mem_cons.mpr ⟨rx_mw_20, List.forall_mem_cons.mpr ⟨rx_mw_21, List.forall_mem_cons.mpr ⟨rx_mw_22, List.forall_mem_cons.mpr ⟨rx_mw_23, List.forall_mem_cons.mpr ⟨rx_mw_24, List.forall_mem_cons.mpr ⟨rx_mw_25, List.forall_mem_cons.mpr ⟨rx_mw_26, List.forall_mem_cons.mpr ⟨rx_mw_27, List.forall_mem_cons.mpr ⟨rx_mw_28, List.forall_mem_cons.mpr ⟨rx_mw_29, List.forall_mem_cons.mpr ⟨rx_mw_30, List.forall_mem_cons.mpr ⟨rx_mw_31, List.forall_mem_cons.mpr ⟨rx_mw_32, List.forall_mem_cons.mpr ⟨rx_mw_33, List.forall_mem_cons.mpr ⟨rx_mw_34, List.forall_mem_cons.mpr ⟨rx_mw_35, List.forall_mem_cons.mpr ⟨rx_mw_36, List.forall_mem_cons.mpr ⟨rx_mw_37, List.forall_mem_cons.mpr ⟨rx_mw_38, List.forall_mem_cons.mpr ⟨rx_mw_39, List.forall_mem_cons.mpr ⟨rx_mw_40, List.forall_mem_cons.mpr ⟨rx_mw_41, List.forall_mem_cons.mpr ⟨rx_mw_42, List.forall_mem_cons.mpr ⟨rx_mw_43, List.forall_mem_cons.mpr ⟨rx_mw_44, List.forall_mem_cons.mpr ⟨rx_mw_45, List.forall_mem_cons.mpr ⟨rx_mw_46, List.forall_mem_cons.mpr ⟨rx_mw_47, List.forall_mem_cons.mpr ⟨rx_mw_48, List.forall_mem_cons.mpr ⟨rx_mw_49, List.forall_mem_cons.mpr ⟨rx_mw_50, List.forall_mem_cons.mpr ⟨rx_mw_51, List.forall_mem_cons.mpr ⟨rx_mw_52, List.forall_mem_cons.mpr ⟨rx_mw_53, List.forall_mem_cons.mpr ⟨rx_mw_54, List.forall_mem_cons.mpr ⟨rx_mw_55, List.forall_mem_cons.mpr ⟨rx_mw_56, List.forall_mem_cons.mpr ⟨rx_mw_57, List.forall_mem_cons.mpr ⟨rx_mw_58, List.forall_mem_cons.mpr ⟨rx_mw_59, List.forall_mem_cons.mpr ⟨rx_mw_60, List.forall_mem_cons.mpr ⟨rx_mw_61, List.forall_mem_cons.mpr ⟨rx_mw_62, List.forall_mem_cons.mpr ⟨rx_mw_63, List.forall_mem_cons.mpr ⟨rx_mw_64, List.forall_mem_cons.mpr ⟨rx_mw_65, List.forall_mem_cons.mpr ⟨rx_mw_66, List.forall_mem_cons.mpr ⟨rx_mw_67, List.forall_mem_cons.mpr ⟨rx_mw_68, List.forall_mem_cons.mpr ⟨rx_mw_69, List.forall_mem_cons.mpr ⟨rx_mw_70, List.forall_mem_cons.mpr ⟨rx_mw_71, List.forall_mem_cons.mpr ⟨rx_mw_72, List.forall_mem_cons.mpr ⟨rx_mw_73, List.forall_mem_cons.mpr ⟨rx_mw_74, List.forall_mem_cons.mpr ⟨rx_mw_75, List.forall_mem_cons.mpr ⟨rx_mw_76, List.forall_mem_cons.mpr ⟨rx_mw_77, List.forall_mem_cons.mpr ⟨rx_mw_78, List.forall_mem_cons.mpr ⟨rx_mw_79, List.forall_mem_cons.mpr ⟨rx_mw_80, List.forall_mem_cons.mpr ⟨rx_mw_81, List.forall_mem_cons.mpr ⟨rx_mw_82, List.forall_mem_cons.mpr ⟨rx_mw_83, List.forall_mem_cons.mpr ⟨rx_mw_84, List.forall_mem_cons.mpr ⟨rx_mw_85, List.forall_mem_cons.mpr ⟨rx_mw_86, List.forall_mem_cons.mpr ⟨rx_mw_87, List.forall_mem_cons.mpr ⟨rx_mw_88, List.forall_mem_cons.mpr ⟨rx_mw_89, List.forall_mem_cons.mpr ⟨rx_mw_90, List.forall_mem_cons.mpr ⟨rx_mw_91, List.forall_mem_cons.mpr ⟨rx_mw_92, List.forall_mem_cons.mpr ⟨rx_mw_93, List.forall_mem_cons.mpr ⟨rx_mw_94, List.forall_mem_cons.mpr ⟨rx_mw_95, List.forall_mem_cons.mpr ⟨rx_mw_96, List.forall_mem_cons.mpr ⟨rx_mw_97, List.forall_mem_cons.mpr ⟨rx_mw_98, List.forall_mem_cons.mpr ⟨rx_mw_99, List.forall_mem_cons.mpr ⟨rx_mw_100, List.forall_mem_cons.mpr ⟨rx_mw_101, List.forall_mem_cons.mpr ⟨rx_mw_102, List.forall_mem_cons.mpr ⟨rx_mw_103, List.forall_mem_cons.mpr ⟨rx_mw_104, List.forall_mem_cons.mpr ⟨rx_mw_105, List.forall_mem_cons.mpr ⟨rx_mw_106, List.forall_mem_cons.mpr ⟨rx_mw_107, List.forall_mem_cons.mpr ⟨rx_mw_108, List.forall_mem_cons.mpr ⟨rx_mw_109, List.forall_mem_cons.mpr ⟨rx_mw_110, List.forall_mem_cons.mpr ⟨rx_mw_111, List.forall_mem_cons.mpr ⟨rx_mw_112, List.forall_mem_cons.mpr ⟨rx_mw_113, List.forall_mem_cons.mpr ⟨rx_mw_114, List.forall_mem_cons.mpr ⟨rx_mw_115, List.forall_mem_cons.mpr ⟨rx_mw_116, List.forall_mem_cons.mpr ⟨rx_mw_117, List.forall_mem_cons.mpr ⟨rx_mw_118, List.forall_mem_cons.mpr ⟨rx_mw_119, List.forall_mem_cons.mpr ⟨rx_mw_120, List.forall_mem_cons.mpr ⟨rx_mw_121, List.forall_mem_cons.mpr ⟨rx_mw_122, List.forall_mem_cons.mpr ⟨rx_mw_123, List.forall_mem_cons.mpr ⟨rx_mw_124, List.forall_mem_cons.mpr ⟨rx_mw_125, List.forall_mem_cons.mpr ⟨rx_mw_126, List.forall_mem_cons.mpr ⟨rx_mw_127, List.forall_mem_cons.mpr ⟨rx_mw_128, List.forall_mem_cons.mpr ⟨rx_mw_129, List.forall_mem_cons.mpr ⟨rx_mw_130, List.forall_mem_cons.mpr ⟨rx_mw_131, List.forall_mem_cons.mpr ⟨rx_mw_132, List.forall_mem_cons.mpr ⟨rx_mw_133, List.forall_mem_cons.mpr ⟨rx_mw_134, List.forall_mem_cons.mpr ⟨rx_mw_135, List.forall_mem_cons.mpr ⟨rx_mw_136, List.forall_mem_cons.mpr ⟨rx_mw_137, List.forall_mem_cons.mpr ⟨rx_mw_138, List.forall_mem_cons.mpr ⟨rx_mw_139, List.forall_mem_cons.mpr ⟨rx_mw_140, List.forall_mem_cons.mpr ⟨rx_mw_141, List.forall_mem_cons.mpr ⟨rx_mw_142, List.forall_mem_cons.mpr ⟨rx_mw_143, List.forall_mem_cons.mpr ⟨rx_mw_144, List.forall_mem_cons.mpr ⟨rx_mw_145, List.forall_mem_cons.mpr ⟨rx_mw_146, List.forall_mem_cons.mpr ⟨rx_mw_147, List.forall_mem_cons.mpr ⟨rx_mw_148, List.forall_mem_cons.mpr ⟨rx_mw_149, List.forall_mem_cons.mpr ⟨rx_mw_150, List.forall_mem_cons.mpr ⟨rx_mw_151, List.forall_mem_cons.mpr ⟨rx_mw_152, List.forall_mem_cons.mpr ⟨rx_mw_153, List.forall_mem_cons.mpr ⟨rx_mw_154, List.forall_mem_cons.mpr ⟨rx_mw_155, List.forall_mem_cons.mpr ⟨rx_mw_156, List.forall_mem_cons.mpr ⟨rx_mw_157, List.forall_mem_cons.mpr ⟨rx_mw_158, List.forall_mem_cons.mpr ⟨rx_mw_159, List.forall_mem_cons.mpr ⟨rx_mw_160, List.forall_mem_cons.mpr ⟨rx_mw_161, List.forall_mem_cons.mpr ⟨rx_mw_162, List.forall_mem_cons.mpr ⟨rx_mw_163, List.forall_mem_cons.mpr ⟨rx_mw_164, List.forall_mem_cons.mpr ⟨rx_mw_165, List.forall_mem_cons.mpr ⟨rx_mw_166, List.forall_mem_cons.mpr ⟨rx_mw_167, List.forall_mem_cons.mpr ⟨rx_mw_168, List.forall_mem_cons.mpr ⟨rx_mw_169, List.forall_mem_cons.mpr ⟨rx_mw_170, List.forall_mem_cons.mpr ⟨rx_mw_171, List.forall_mem_cons.mpr ⟨rx_mw_172, List.forall_mem_cons.mpr ⟨rx_mw_173, List.forall_mem_cons.mpr ⟨rx_mw_174, List.forall_mem_cons.mpr ⟨rx_mw_175, List.forall_mem_cons.mpr ⟨rx_mw_176, List.forall_mem_cons.mpr ⟨rx_mw_177, List.forall_mem_cons.mpr ⟨rx_mw_178, List.forall_mem_cons.mpr ⟨rx_mw_179, List.forall_mem_cons.mpr ⟨rx_mw_180, List.forall_mem_cons.mpr ⟨rx_mw_181, List.forall_mem_cons.mpr ⟨rx_mw_182, List.forall_mem_cons.mpr ⟨rx_mw_183, List.forall_mem_cons.mpr ⟨rx_mw_184, fun _ h => absurd h List.not_mem_nil⟩⟩⟩⟩⟩⟩⟩⟩⟩⟩⟩⟩⟩⟩⟩⟩⟩⟩⟩⟩⟩⟩⟩⟩⟩⟩⟩⟩⟩⟩⟩⟩⟩⟩⟩⟩⟩⟩⟩⟩⟩⟩⟩⟩⟩⟩⟩⟩⟩⟩⟩⟩⟩⟩⟩⟩⟩⟩⟩⟩⟩⟩⟩⟩⟩⟩⟩⟩⟩⟩⟩⟩⟩⟩⟩⟩⟩⟩⟩⟩⟩⟩⟩⟩⟩⟩⟩⟩⟩⟩⟩⟩⟩⟩⟩⟩⟩⟩⟩⟩⟩⟩⟩⟩⟩⟩⟩⟩⟩⟩⟩⟩⟩⟩⟩⟩⟩⟩⟩⟩⟩⟩⟩⟩⟩⟩⟩⟩⟩⟩⟩⟩⟩⟩⟩⟩⟩⟩⟩⟩⟩⟩⟩⟩⟩⟩⟩⟩⟩⟩⟩⟩⟩⟩⟩⟩⟩⟩⟩⟩⟩⟩⟩⟩⟩⟩⟩⟩⟩⟩⟩⟩⟩⟩⟩⟩⟩⟩⟩⟩⟩⟩⟩⟩
theorem rx_at2_none {α : Type} (l : List (List α)) (k : Nat) (h : ∀ c, l[k / 16]? = some c → c.length ≤ k % 16) : rx_at2 l k = none := by
  unfold rx_at2
  rw [rx_at_eq]
  show (match l[k / 16]? with | none => none | some c => rx_at c (k % 16)) = none
  cases hc : l[k / 16]? with
  | none => rfl
  | some c =>
    show rx_at c (k % 16) = none
    rw [rx_at_eq]
    exact List.getElem?_eq_none (h c hc)
theorem rx_last {α : Type} (l : List (List α)) (hl : l.length = 12) (h11 : ∀ c, l[11]? = some c → c.length = 9) {k : Nat} (hk : 185 ≤ k) : ∀ c, l[k / 16]? = some c → c.length ≤ k % 16 := by
  intro c hc
  have h1 := (List.getElem?_eq_some_iff.mp hc).1
  have h2 : k / 16 = 11 := by omega
  rw [h2] at hc
  rw [h11 c hc]
  omega
theorem rx_tab_none {k : Nat} (hk : 185 ≤ k) : rx_at2 rx_tab k = none := rx_at2_none _ _ (rx_last _ rfl (fun c hc => by cases hc; rfl) hk)
theorem rx_wl_none {k : Nat} (hk : 185 ≤ k) : rx_at2 rx_wl k = none := rx_at2_none _ _ (rx_last _ rfl (fun c hc => by cases hc; rfl) hk)
theorem rx_mchk_all (mi : Nat) : rx_mchk mi = true := by
  by_cases h : mi < 185
  · exact rx_mc_ks mi (rx_ks_in mi h)
  · have e : rx_cd mi = [] := by
      unfold rx_cd rx_m
      rw [rx_tab_none (Nat.not_lt.mp h)]
      rfl
    unfold rx_mchk
    rw [e]
    rfl
theorem rx_hT : ∀ (mi pc : Nat) (q : rx_Q), rx_fetch mi pc = some q → rx_chk mi pc q = true := by
  intro mi pc q h
  unfold rx_fetch at h
  split at h
  · cases h
  · rename_i l hl
    rw [rx_at_eq] at hl
    have h1 := List.all_eq_true.mp (rx_mchk_all mi) l (List.mem_of_getElem? hl)
    exact List.all_eq_true.mp h1 (pc, q) (rx_key_mem h)
theorem rx_hM : ∀ a : Nat, (rx_w a).2.2.2.2.1 ≠ 9 → rx_mw a = true ∧ 1 ≤ a := by
  intro a h
  by_cases h1 : a < 185
  · by_cases h0 : a = 0
    · subst h0
      exact absurd rfl h
    · exact ⟨rx_mw_ks a (rx_ks1_in a h1 h0), by omega⟩
  · refine absurd ?_ h
    unfold rx_w
    rw [rx_wl_none (Nat.not_lt.mp h1)]
    rfl
theorem rx_hs_ok : ∀ (t : Nat) (h : rx_F → rx_Q → rx_F), rx_hs[t]? = some h → rx_hok t h := by
  intro t h e
  match t, e with
  | 0, e => cases e; exact rx_ok_0
  | 1, e => cases e; exact rx_ok_1
  | 2, e => cases e; exact rx_ok_2
  | 3, e => cases e; exact rx_ok_3
  | 4, e => cases e; exact rx_ok_4
  | 5, e => cases e; exact rx_ok_5
  | 6, e => cases e; exact rx_ok_6
  | 7, e => cases e; exact rx_ok_7
  | 8, e => cases e; exact rx_ok_8 rx_hT rx_hM
  | 9, e => cases e; exact rx_ok_9
  | 10, e => cases e; exact rx_ok_10
  | 11, e => cases e; exact rx_ok_11
  | 12, e => cases e; exact rx_ok_12
  | 13, e => cases e; exact rx_ok_13
  | 14, e => cases e; exact rx_ok_14
  | 15, e => cases e; exact rx_ok_15
  | 16, e => cases e; exact rx_ok_16
  | 17, e => cases e; exact rx_ok_17
  | 18, e => cases e; exact rx_ok_18
  | 19, e => cases e; exact rx_ok_19
  | 20, e => cases e; exact rx_ok_20
  | 21, e => cases e; exact rx_ok_21
  | 22, e => cases e; exact rx_ok_22
  | 23, e => cases e; exact rx_ok_23
  | 24, e => cases e; exact rx_ok_24 rx_hT rx_hM
  | 25, e => cases e; exact rx_ok_25
  | 26, e => cases e; exact rx_ok_26
  | 27, e => cases e; exact rx_ok_27
  | 28, e => cases e; exact rx_ok_28
  | 29, e => cases e; exact rx_ok_29
  | 30, e => cases e; exact rx_ok_30
  | 31, e => cases e; exact rx_ok_31
  | 32, e => cases e; exact rx_ok_32
  | 33, e => cases e; exact rx_ok_33 rx_hT rx_hM
  | 34, e => cases e; exact rx_ok_34
  | 35, e => cases e; exact rx_ok_35
  | 36, e => cases e; exact rx_ok_36
  | 37, e => cases e; exact rx_ok_37
  | 38, e => cases e; exact rx_ok_38
  | 39, e => cases e; exact rx_ok_39
  | 40, e => cases e; exact rx_ok_40
  | 41, e => cases e; exact rx_ok_41
  | 42, e => cases e; exact rx_ok_42
  | 43, e => cases e; exact rx_ok_43
  | 44, e => cases e; exact rx_ok_44
  | 45, e => cases e; exact rx_ok_45
  | 46, e => cases e; exact rx_ok_46
  | 47, e => cases e; exact rx_ok_47
  | 48, e => cases e; exact rx_ok_48
  | 49, e => cases e; exact rx_ok_49
  | 50, e => cases e; exact rx_ok_50
  | 51, e => cases e; exact rx_ok_51
  | 52, e => cases e; exact rx_ok_52
  | n + 53, e => exact absurd e (by simp [rx_hs])
theorem rx_step_ok (stp : Nat) {ih : rx_F} (hih : rx_snd ih) : rx_snd (rx_step stp ih) := by
  intro mi pc loc stk sr rh ce sl outs h
  unfold rx_step at h
  cases hb : (Nat.beq mi 0 && Nat.beq pc stp) with
  | true =>
    rw [hb] at h
    have h : some [(mi, pc, loc, stk, sr, rh, ce, sl)] = some outs := h
    cases h
    intro p l e R s m args below meth c D cc A ρ b L xs as0 Q hF hsc hK H locs ws ls st hW hS
    exact hK _ List.mem_cons_self H locs ws ls st hW hS
  | false =>
    rw [hb] at h
    have h : (match rx_fetch mi pc with | none => none | some q => rx_ex ih q mi pc loc stk sr rh ce sl) = some outs := h
    cases hf : rx_fetch mi pc with
    | none => rw [hf] at h; cases h
    | some q =>
      rw [hf] at h
      have h : rx_ex ih q mi pc loc stk sr rh ce sl = some outs := h
      unfold rx_ex at h
      cases hh : rx_at rx_hs q.1 with
      | none => rw [hh] at h; cases h
      | some f =>
        rw [hh] at h
        rw [rx_at_eq] at hh
        exact rx_hs_ok q.1 f hh ih hih q mi pc loc stk sr rh ce sl outs rfl (rx_hT mi pc q hf) h
theorem rx_run_ok (stp : Nat) : ∀ k : Nat, rx_snd (rx_run stp k)
  | 0 => fun mi pc loc stk sr rh ce sl outs h => by cases h
  | k + 1 => rx_step_ok stp (rx_run_ok stp k)
end
section
-- ===== end of PART A; then your names; then what follows =====
/-! THE CLAIM OUT OF ONE WALK OF THE LAW'S BODY. Your part is whole_start (and what it stands on); all else here is the same for every law, but numbers. -/
def R_law : String := "MirrorLiesLaw"
def lw_P (b : Addr) (xs : List Int32) (args : Array Value) (s : State) : Prop := args = #[.ref b] ∧ s.IntsAt b xs ∧ xs.length ≤ 6 ∧ (Jvm.Cond.and given_1 narrow_1).before args s = true
def lw_Q (_ : Array Value) (s : State) (o : Outcome) (t : State) : Prop := o = .returned (some (.int 1)) ∧ Framed s o t [] 600000 7302250
def lw_Z (below : List Frame) (a : Array Value) (s : State) : State → Prop := fun t => ∃ o, t.status = .running ∧ Ended t below o ∧ lw_Q a s o t
/-- the law's own end, with 1 on the stack, nothing written that was there before, its room as the claim has it -/
theorem lw_ret {p : Program} {l : Launch} {e : Env} {s : State} {m : MethodId} {below : List Frame} {meth : Method} {c : Code} {b : Nat} (hx : p.tables.exec = Jvm.exec) (hb : c.code = code) (hr : meth.sig.returnType = ret) (hlocks : meth.locks = false) {pc : Nat} {H : Heap} {ls : Array Slot} (hdg : decode code pc = .ok (.ireturn, 1)) : W p l e room_1 s m #[Value.ref b] below meth c H [] 600000 7302250 (lw_Z below #[Value.ref b] s) (F0 m pc ls [.int 1]) := by
  intro T hT X
  obtain ⟨fs, hret, hrun, hended, hW, hframe⟩ := X.leave (v := some (.int 1)) (hlocks := hlocks) (fun h => by rw [hr] at h; cases h)
  have hmeth' : T.vm.method? m = some meth := X.method'
  refine ⟨T.setFrames fs, ?_, .returned (some (.int 1)), hrun, hended, rfl, ⟨_, rfl⟩, hW, hframe⟩
  jvm_step X.here [X.here.top, hx, hb, hdg, hmeth', hr, ret, narrow_b1]
  (try refine ⟨rfl, ?_⟩); (try refine ⟨rfl, ?_⟩)
  first | (intro acts; rw [hret _ acts rfl rfl rfl]) | rw [hret _ _ rfl rfl rfl]
  exact Steps.refl _
/-- what holds at the law's entry: the machine, the code, the tables' words (any of lw_tbl by 'hts w (by decide +kernel)'), the script of L ints xs at the cell b, what the Statement gives of the start (any of its parts by flat_of_before) -/
def lw_At (p : Program) (s : State) (m : MethodId) (meth : Method) (c : Code) (b L : Nat) (xs : Nat → Int32) : Prop :=
  p.tables.exec = Jvm.exec ∧ c.code = code ∧ meth.sig.returnType = ret ∧ c.maxLocals = 4 ∧ s.vm.findClass R_law = some m.cls ∧ (∀ w ∈ lw_tbl, w.before #[Value.ref b] s = true) ∧ va_X b L xs s s.heap ∧ b < s.heap.size ∧ meth.locks = false ∧ (Jvm.Cond.and given_1 narrow_1).before #[Value.ref b] s = true
end
section
/-! the law -/
theorem rx_endW {p : Program} {l : Launch} {e : Env} {s : State} {m : MethodId} {below : List Frame} {meth : Method} {c : Code} {b : Nat} {D : va_G} {cc : Nat → ClassId} {ρ : Nat → Int} {as0 : List Nat} (hF : rx_fr p room_1 s m #[Value.ref b] meth c 0) (hr : meth.sig.returnType = ret) (hlocks : meth.locks = false) (hb : c.code = code) {o : rx_A} (hfin : rx_fin1 o = true) (H : Heap) (locs : List Loc) (ws : va_W) (ls : Array Slot) (st : List Value) (hW : rx_wd D cc (fun q : Nat => s.heap.size ≤ q) s H locs ws) (hS : rx_st ρ b cc as0 (rx_ml 0) o.2.2.1 o.2.2.2.1 o.2.2.2.2.1 o.2.2.2.2.2.1 ls st ws) : W p l e room_1 s m #[Value.ref b] below meth c H locs o.2.2.2.2.2.2.1 o.2.2.2.2.2.2.2 (lw_Z below #[Value.ref b] s) (F0 m o.2.1 ls st) := by
  unfold rx_fin1 at hfin
  split at hfin
  · rename_i q n hq es
    obtain ⟨hfin, g4⟩ := rx_and hfin
    obtain ⟨hfin, g3⟩ := rx_and hfin
    obtain ⟨g1, g2⟩ := rx_and hfin
    have g1 := rx_beq g1
    subst g1
    have hL := hS.2.2.2.1
    rw [es] at hL
    obtain ⟨_, s1, rfl, ⟨x, rfl, hx⟩, hL1⟩ := hL.cons
    have hL1 := rx_gL.nil hL1
    subst hL1
    have hx : x.toInt = Int.ofNat 1 := hx
    have hx1 : x = 1 := Int32.toInt_inj.mp (by rw [hx]; rfl)
    subst hx1
    have hd := (rx_d1 (rx_hT _ _ _ hq) (rx_beq g2) (I := .ireturn) (n := 1) (by unfold rx_ins; rw [rx_beq g2]; rfl) rfl (by decide)).1
    have hd : decode code o.2.1 = .ok (.ireturn, 1) := hd
    exact va_forget (fun q hq => hW.2.2.2.1.2.2 q hq) (W.widen (rx_ble g3) (rx_ble g4) (lw_ret hF.1.1 hb hr hlocks hd))
  · cases hfin
def rx_caseW (pc : Nat) (sr : rx_S) : Prop := ∀ (p : Program) (l : Launch) (e : Env) (s : State) (m : MethodId) (below : List Frame) (meth : Method) (c : Code) (b : Nat) (D : va_G) (cc : Nat → ClassId) (ρ : Nat → Int) (L : Nat) (xs : Nat → Int32) (as0 : List Nat), rx_fr p room_1 s m #[Value.ref b] meth c 0 → meth.sig.returnType = ret → meth.locks = false → c.code = code → rx_scr ρ b L xs (fun q : Nat => s.heap.size ≤ q) s 0 → ∀ (H : Heap) (locs : List Loc) (ws : va_W) (ls : Array Slot) (st : List Value), rx_wd D cc (fun q : Nat => s.heap.size ≤ q) s H locs ws → rx_st ρ b cc as0 (rx_ml 0) rx_l0 [] sr rx_h0 ls st ws → W p l e room_1 s m #[Value.ref b] below meth c H locs 148 26053 (lw_Z below #[Value.ref b] s) (F0 m pc ls st)
theorem rx_caseW_of {pc : Nat} {sr : rx_S} {N : Nat} (h : rx_fin (rx_run 33 N 0 pc rx_l0 [] sr rx_h0 148 26053) = true) : rx_caseW pc sr := by
  unfold rx_fin at h
  split at h
  · rename_i os hos
    intro p l e s m below meth c b D cc ρ L xs as0 hF hr hlocks hb hsc H locs ws ls st hW hS
    exact rx_run_ok 33 N _ _ _ _ _ _ _ _ _ hos p l e room_1 s m #[Value.ref b] below meth c D cc _ ρ b L xs as0 _ hF hsc (fun o ho H locs ws ls st hW hS => rx_endW hF hr hlocks hb (List.all_eq_true.mp h o ho) H locs ws ls st hW hS) H locs ws ls st hW hS
  · cases h
theorem rx_case_272 : rx_caseW 272 rx_sr1 := rx_caseW_of rx_run_272
theorem rx_case_335 : rx_caseW 335 rx_sr1 := rx_caseW_of rx_run_335
theorem rx_case_358 : rx_caseW 358 rx_sr1 := rx_caseW_of rx_run_358
theorem rx_case_371 : rx_caseW 371 rx_sr1 := rx_caseW_of rx_run_371
theorem rx_case_394 : rx_caseW 394 rx_sr1 := rx_caseW_of rx_run_394
theorem rx_case_417 : rx_caseW 417 rx_sr1 := rx_caseW_of rx_run_417
theorem rx_case_450 : rx_caseW 450 rx_sr1 := rx_caseW_of rx_run_450
theorem rx_case_483 : rx_caseW 483 rx_sr1 := rx_caseW_of rx_run_483
theorem rx_case_516 : rx_caseW 516 rx_sr1 := rx_caseW_of rx_run_516
theorem rx_case_549 : rx_caseW 549 rx_sr1 := rx_caseW_of rx_run_549
theorem rx_case_572 : rx_caseW 572 rx_sr1 := rx_caseW_of rx_run_572
theorem rx_case_595 : rx_caseW 595 rx_sr1 := rx_caseW_of rx_run_595
theorem rx_case_628 : rx_caseW 628 rx_sr1 := rx_caseW_of rx_run_628
theorem rx_case_641 : rx_caseW 641 rx_sr1 := rx_caseW_of rx_run_641
theorem rx_case_654 : rx_caseW 654 rx_sr1 := rx_caseW_of rx_run_654
theorem rx_case_667 : rx_caseW 667 rx_sr1 := rx_caseW_of rx_run_667
theorem rx_case_730 : rx_caseW 730 rx_sr1 := rx_caseW_of rx_run_730
theorem rx_case_773 : rx_caseW 773 rx_sr1 := rx_caseW_of rx_run_773
theorem rx_case_826 : rx_caseW 826 rx_sr1 := rx_caseW_of rx_run_826
theorem rx_case_849 : rx_caseW 849 rx_sr1 := rx_caseW_of rx_run_849
theorem rx_case_872 : rx_caseW 872 rx_sr1 := rx_caseW_of rx_run_872
theorem rx_case_905 : rx_caseW 905 rx_sr1 := rx_caseW_of rx_run_905
theorem rx_case_938 : rx_caseW 938 rx_sr1 := rx_caseW_of rx_run_938
theorem rx_case_961 : rx_caseW 961 rx_sr1 := rx_caseW_of rx_run_961
theorem rx_case_994 : rx_caseW 994 rx_sr1 := rx_caseW_of rx_run_994
theorem rx_case_1027 : rx_caseW 1027 rx_sr1 := rx_caseW_of rx_run_1027
theorem rx_case_1040 : rx_caseW 1040 rx_sr1 := rx_caseW_of rx_run_1040
theorem rx_case_1063 : rx_caseW 1063 rx_sr1 := rx_caseW_of rx_run_1063
theorem rx_case_1076 : rx_caseW 1076 rx_sr1 := rx_caseW_of rx_run_1076
theorem rx_case_1109 : rx_caseW 1109 rx_sr1 := rx_caseW_of rx_run_1109
theorem rx_case_1142 : rx_caseW 1142 rx_sr1 := rx_caseW_of rx_run_1142
theorem rx_case_1175 : rx_caseW 1175 rx_sr1 := rx_caseW_of rx_run_1175
theorem rx_case_1218 : rx_caseW 1218 rx_sr1 := rx_caseW_of rx_run_1218
theorem rx_case_1251 : rx_caseW 1251 rx_sr1 := rx_caseW_of rx_run_1251
theorem rx_case_1284 : rx_caseW 1284 rx_sr1 := rx_caseW_of rx_run_1284
theorem rx_case_1307 : rx_caseW 1307 rx_sr1 := rx_caseW_of rx_run_1307
theorem rx_case_1340 : rx_caseW 1340 rx_sr1 := rx_caseW_of rx_run_1340
theorem rx_case_1353 : rx_caseW 1353 rx_sr1 := rx_caseW_of rx_run_1353
theorem rx_case_1376 : rx_caseW 1376 rx_sr1 := rx_caseW_of rx_run_1376
theorem rx_case_1409 : rx_caseW 1409 rx_sr1 := rx_caseW_of rx_run_1409
theorem rx_case_1432 : rx_caseW 1432 rx_sr1 := rx_caseW_of rx_run_1432
theorem rx_case_1465 : rx_caseW 1465 rx_sr1 := rx_caseW_of rx_run_1465
theorem rx_case_1488 : rx_caseW 1488 rx_sr1 := rx_caseW_of rx_run_1488
theorem rx_case_1511 : rx_caseW 1511 rx_sr1 := rx_caseW_of rx_run_1511
theorem rx_case_1544 : rx_caseW 1544 rx_sr1 := rx_caseW_of rx_run_1544
theorem rx_case_1567 : rx_caseW 1567 rx_sr1 := rx_caseW_of rx_run_1567
theorem rx_case_1600 : rx_caseW 1600 rx_sr1 := rx_caseW_of rx_run_1600
theorem rx_case_1676 : rx_caseW 1676 rx_sr1 := rx_caseW_of rx_run_1676
theorem rx_case_1709 : rx_caseW 1709 rx_sr1 := rx_caseW_of rx_run_1709
theorem rx_case_1752 : rx_caseW 1752 rx_sr1 := rx_caseW_of rx_run_1752
theorem rx_case_1785 : rx_caseW 1785 rx_sr1 := rx_caseW_of rx_run_1785
theorem rx_case_1818 : rx_caseW 1818 rx_sr1 := rx_caseW_of rx_run_1818
theorem rx_case_1851 : rx_caseW 1851 rx_sr1 := rx_caseW_of rx_run_1851
theorem rx_case_1874 : rx_caseW 1874 rx_sr1 := rx_caseW_of rx_run_1874
theorem rx_case_1897 : rx_caseW 1897 rx_sr1 := rx_caseW_of rx_run_1897
theorem rx_case_1920 : rx_caseW 1920 rx_sr1 := rx_caseW_of rx_run_1920
theorem rx_case_1633 : rx_caseW 1633 rx_sr1 := by
  intro p l e s m below meth c b D cc ρ L xs as0 hF hr hlocks hb hsc H locs ws ls st hW hS
  obtain ⟨hR, hrest⟩ := hS
  have h1 := hR 1 (rx_lo, rx_hi) rfl
  have key : ∀ (sr : rx_S) (w : Int × Int), rx_set w rx_sr1 1 = sr → rx_caseW 1633 sr → w.1 ≤ ρ 1 ∧ ρ 1 ≤ w.2 → W p l e room_1 s m #[Value.ref b] below meth c H locs 148 26053 (lw_Z below #[Value.ref b] s) (F0 m 1633 ls st) := fun sr w e1 hc hw => hc p l e s m below meth c b D cc ρ L xs as0 hF hr hlocks hb hsc H locs ws ls st hW ⟨e1 ▸ rx_gR_set hR hw, hrest⟩
  rcases (show ρ 1 ≤ -1 ∨ ρ 1 = 0 ∨ ρ 1 = 1 ∨ ρ 1 = 2 ∨ ρ 1 = 3 ∨ ρ 1 = 4 ∨ ρ 1 = 5 ∨ 6 ≤ ρ 1 by omega) with h | h | h | h | h | h | h | h
  · exact key rx_sr1_0 (rx_lo, -1) rfl (rx_caseW_of rx_run_1633_0) ⟨h1.1, h⟩
  · exact key rx_sr1_1 (0, 0) rfl (rx_caseW_of rx_run_1633_1) ⟨Int.le_of_eq h.symm, Int.le_of_eq h⟩
  · exact key rx_sr1_2 (1, 1) rfl (rx_caseW_of rx_run_1633_2) ⟨Int.le_of_eq h.symm, Int.le_of_eq h⟩
  · exact key rx_sr1_3 (2, 2) rfl (rx_caseW_of rx_run_1633_3) ⟨Int.le_of_eq h.symm, Int.le_of_eq h⟩
  · exact key rx_sr1_4 (3, 3) rfl (rx_caseW_of rx_run_1633_4) ⟨Int.le_of_eq h.symm, Int.le_of_eq h⟩
  · exact key rx_sr1_5 (4, 4) rfl (rx_caseW_of rx_run_1633_5) ⟨Int.le_of_eq h.symm, Int.le_of_eq h⟩
  · exact key rx_sr1_6 (5, 5) rfl (rx_caseW_of rx_run_1633_6) ⟨Int.le_of_eq h.symm, Int.le_of_eq h⟩
  · exact key rx_sr1_7 (6, rx_hi) rfl (rx_caseW_of rx_run_1633_7) ⟨h, h1.2⟩
theorem rx_d33 : decode code 33 = .ok (.tableswitch 1887 0 55 #[239, 302, 325, 338, 361, 384, 417, 450, 483, 516, 539, 562, 595, 608, 621, 634, 697, 740, 793, 816, 839, 872, 905, 928, 961, 994, 1007, 1030, 1043, 1076, 1109, 1142, 1185, 1218, 1251, 1274, 1307, 1320, 1343, 1376, 1399, 1432, 1455, 1478, 1511, 1534, 1567, 1600, 1643, 1676, 1719, 1752, 1785, 1818, 1841, 1864], 239) := by decide +kernel
set_option maxHeartbeats 4000000 in
theorem rx_swW {p : Program} {l : Launch} {e : Env} {s : State} {m : MethodId} {below : List Frame} {meth : Method} {c : Code} {b : Nat} {H : Heap} {locs : List Loc} {ls : Array Slot} {x : Int32} (hx : p.tables.exec = Jvm.exec) (hb : c.code = code) (h0 : 0 ≤ x.toInt) (h63 : x.toInt ≤ 63) (K : ∀ t : Nat, rx_caseW t rx_sr1 → W p l e room_1 s m #[Value.ref b] below meth c H locs 148 26053 (lw_Z below #[Value.ref b] s) (F0 m t ls [])) : W p l e room_1 s m #[Value.ref b] below meth c H locs 148 26053 (lw_Z below #[Value.ref b] s) (F0 m 33 ls [.int x]) := by
  by_cases h55 : 55 < x.toInt
  · exact lv_tableOut (tgt := 1920) hx hb rx_d33 (Or.inr h55) (by decide) (K _ rx_case_1920)
  · obtain ⟨j, hj, ej⟩ : ∃ j : Nat, j < 56 ∧ x.toInt = (j : Int) := ⟨x.toInt.toNat, by omega, by omega⟩
    have c1 : ¬ x.toInt < 0 := by omega
    match j, hj, ej with
    | 0, _, ej => exact lv_tableIn (off := 239) (tgt := 272) hx hb rx_d33 c1 h55 (by rw [ej]; rfl) (by decide) (K _ rx_case_272)
    | 1, _, ej => exact lv_tableIn (off := 302) (tgt := 335) hx hb rx_d33 c1 h55 (by rw [ej]; rfl) (by decide) (K _ rx_case_335)
    | 2, _, ej => exact lv_tableIn (off := 325) (tgt := 358) hx hb rx_d33 c1 h55 (by rw [ej]; rfl) (by decide) (K _ rx_case_358)
    | 3, _, ej => exact lv_tableIn (off := 338) (tgt := 371) hx hb rx_d33 c1 h55 (by rw [ej]; rfl) (by decide) (K _ rx_case_371)
    | 4, _, ej => exact lv_tableIn (off := 361) (tgt := 394) hx hb rx_d33 c1 h55 (by rw [ej]; rfl) (by decide) (K _ rx_case_394)
    | 5, _, ej => exact lv_tableIn (off := 384) (tgt := 417) hx hb rx_d33 c1 h55 (by rw [ej]; rfl) (by decide) (K _ rx_case_417)
    | 6, _, ej => exact lv_tableIn (off := 417) (tgt := 450) hx hb rx_d33 c1 h55 (by rw [ej]; rfl) (by decide) (K _ rx_case_450)
    | 7, _, ej => exact lv_tableIn (off := 450) (tgt := 483) hx hb rx_d33 c1 h55 (by rw [ej]; rfl) (by decide) (K _ rx_case_483)
    | 8, _, ej => exact lv_tableIn (off := 483) (tgt := 516) hx hb rx_d33 c1 h55 (by rw [ej]; rfl) (by decide) (K _ rx_case_516)
    | 9, _, ej => exact lv_tableIn (off := 516) (tgt := 549) hx hb rx_d33 c1 h55 (by rw [ej]; rfl) (by decide) (K _ rx_case_549)
    | 10, _, ej => exact lv_tableIn (off := 539) (tgt := 572) hx hb rx_d33 c1 h55 (by rw [ej]; rfl) (by decide) (K _ rx_case_572)
    | 11, _, ej => exact lv_tableIn (off := 562) (tgt := 595) hx hb rx_d33 c1 h55 (by rw [ej]; rfl) (by decide) (K _ rx_case_595)
    | 12, _, ej => exact lv_tableIn (off := 595) (tgt := 628) hx hb rx_d33 c1 h55 (by rw [ej]; rfl) (by decide) (K _ rx_case_628)
    | 13, _, ej => exact lv_tableIn (off := 608) (tgt := 641) hx hb rx_d33 c1 h55 (by rw [ej]; rfl) (by decide) (K _ rx_case_641)
    | 14, _, ej => exact lv_tableIn (off := 621) (tgt := 654) hx hb rx_d33 c1 h55 (by rw [ej]; rfl) (by decide) (K _ rx_case_654)
    | 15, _, ej => exact lv_tableIn (off := 634) (tgt := 667) hx hb rx_d33 c1 h55 (by rw [ej]; rfl) (by decide) (K _ rx_case_667)
    | 16, _, ej => exact lv_tableIn (off := 697) (tgt := 730) hx hb rx_d33 c1 h55 (by rw [ej]; rfl) (by decide) (K _ rx_case_730)
    | 17, _, ej => exact lv_tableIn (off := 740) (tgt := 773) hx hb rx_d33 c1 h55 (by rw [ej]; rfl) (by decide) (K _ rx_case_773)
    | 18, _, ej => exact lv_tableIn (off := 793) (tgt := 826) hx hb rx_d33 c1 h55 (by rw [ej]; rfl) (by decide) (K _ rx_case_826)
    | 19, _, ej => exact lv_tableIn (off := 816) (tgt := 849) hx hb rx_d33 c1 h55 (by rw [ej]; rfl) (by decide) (K _ rx_case_849)
    | 20, _, ej => exact lv_tableIn (off := 839) (tgt := 872) hx hb rx_d33 c1 h55 (by rw [ej]; rfl) (by decide) (K _ rx_case_872)
    | 21, _, ej => exact lv_tableIn (off := 872) (tgt := 905) hx hb rx_d33 c1 h55 (by rw [ej]; rfl) (by decide) (K _ rx_case_905)
    | 22, _, ej => exact lv_tableIn (off := 905) (tgt := 938) hx hb rx_d33 c1 h55 (by rw [ej]; rfl) (by decide) (K _ rx_case_938)
    | 23, _, ej => exact lv_tableIn (off := 928) (tgt := 961) hx hb rx_d33 c1 h55 (by rw [ej]; rfl) (by decide) (K _ rx_case_961)
    | 24, _, ej => exact lv_tableIn (off := 961) (tgt := 994) hx hb rx_d33 c1 h55 (by rw [ej]; rfl) (by decide) (K _ rx_case_994)
    | 25, _, ej => exact lv_tableIn (off := 994) (tgt := 1027) hx hb rx_d33 c1 h55 (by rw [ej]; rfl) (by decide) (K _ rx_case_1027)
    | 26, _, ej => exact lv_tableIn (off := 1007) (tgt := 1040) hx hb rx_d33 c1 h55 (by rw [ej]; rfl) (by decide) (K _ rx_case_1040)
    | 27, _, ej => exact lv_tableIn (off := 1030) (tgt := 1063) hx hb rx_d33 c1 h55 (by rw [ej]; rfl) (by decide) (K _ rx_case_1063)
    | 28, _, ej => exact lv_tableIn (off := 1043) (tgt := 1076) hx hb rx_d33 c1 h55 (by rw [ej]; rfl) (by decide) (K _ rx_case_1076)
    | 29, _, ej => exact lv_tableIn (off := 1076) (tgt := 1109) hx hb rx_d33 c1 h55 (by rw [ej]; rfl) (by decide) (K _ rx_case_1109)
    | 30, _, ej => exact lv_tableIn (off := 1109) (tgt := 1142) hx hb rx_d33 c1 h55 (by rw [ej]; rfl) (by decide) (K _ rx_case_1142)
    | 31, _, ej => exact lv_tableIn (off := 1142) (tgt := 1175) hx hb rx_d33 c1 h55 (by rw [ej]; rfl) (by decide) (K _ rx_case_1175)
    | 32, _, ej => exact lv_tableIn (off := 1185) (tgt := 1218) hx hb rx_d33 c1 h55 (by rw [ej]; rfl) (by decide) (K _ rx_case_1218)
    | 33, _, ej => exact lv_tableIn (off := 1218) (tgt := 1251) hx hb rx_d33 c1 h55 (by rw [ej]; rfl) (by decide) (K _ rx_case_1251)
    | 34, _, ej => exact lv_tableIn (off := 1251) (tgt := 1284) hx hb rx_d33 c1 h55 (by rw [ej]; rfl) (by decide) (K _ rx_case_1284)
    | 35, _, ej => exact lv_tableIn (off := 1274) (tgt := 1307) hx hb rx_d33 c1 h55 (by rw [ej]; rfl) (by decide) (K _ rx_case_1307)
    | 36, _, ej => exact lv_tableIn (off := 1307) (tgt := 1340) hx hb rx_d33 c1 h55 (by rw [ej]; rfl) (by decide) (K _ rx_case_1340)
    | 37, _, ej => exact lv_tableIn (off := 1320) (tgt := 1353) hx hb rx_d33 c1 h55 (by rw [ej]; rfl) (by decide) (K _ rx_case_1353)
    | 38, _, ej => exact lv_tableIn (off := 1343) (tgt := 1376) hx hb rx_d33 c1 h55 (by rw [ej]; rfl) (by decide) (K _ rx_case_1376)
    | 39, _, ej => exact lv_tableIn (off := 1376) (tgt := 1409) hx hb rx_d33 c1 h55 (by rw [ej]; rfl) (by decide) (K _ rx_case_1409)
    | 40, _, ej => exact lv_tableIn (off := 1399) (tgt := 1432) hx hb rx_d33 c1 h55 (by rw [ej]; rfl) (by decide) (K _ rx_case_1432)
    | 41, _, ej => exact lv_tableIn (off := 1432) (tgt := 1465) hx hb rx_d33 c1 h55 (by rw [ej]; rfl) (by decide) (K _ rx_case_1465)
    | 42, _, ej => exact lv_tableIn (off := 1455) (tgt := 1488) hx hb rx_d33 c1 h55 (by rw [ej]; rfl) (by decide) (K _ rx_case_1488)
    | 43, _, ej => exact lv_tableIn (off := 1478) (tgt := 1511) hx hb rx_d33 c1 h55 (by rw [ej]; rfl) (by decide) (K _ rx_case_1511)
    | 44, _, ej => exact lv_tableIn (off := 1511) (tgt := 1544) hx hb rx_d33 c1 h55 (by rw [ej]; rfl) (by decide) (K _ rx_case_1544)
    | 45, _, ej => exact lv_tableIn (off := 1534) (tgt := 1567) hx hb rx_d33 c1 h55 (by rw [ej]; rfl) (by decide) (K _ rx_case_1567)
    | 46, _, ej => exact lv_tableIn (off := 1567) (tgt := 1600) hx hb rx_d33 c1 h55 (by rw [ej]; rfl) (by decide) (K _ rx_case_1600)
    | 47, _, ej => exact lv_tableIn (off := 1600) (tgt := 1633) hx hb rx_d33 c1 h55 (by rw [ej]; rfl) (by decide) (K _ rx_case_1633)
    | 48, _, ej => exact lv_tableIn (off := 1643) (tgt := 1676) hx hb rx_d33 c1 h55 (by rw [ej]; rfl) (by decide) (K _ rx_case_1676)
    | 49, _, ej => exact lv_tableIn (off := 1676) (tgt := 1709) hx hb rx_d33 c1 h55 (by rw [ej]; rfl) (by decide) (K _ rx_case_1709)
    | 50, _, ej => exact lv_tableIn (off := 1719) (tgt := 1752) hx hb rx_d33 c1 h55 (by rw [ej]; rfl) (by decide) (K _ rx_case_1752)
    | 51, _, ej => exact lv_tableIn (off := 1752) (tgt := 1785) hx hb rx_d33 c1 h55 (by rw [ej]; rfl) (by decide) (K _ rx_case_1785)
    | 52, _, ej => exact lv_tableIn (off := 1785) (tgt := 1818) hx hb rx_d33 c1 h55 (by rw [ej]; rfl) (by decide) (K _ rx_case_1818)
    | 53, _, ej => exact lv_tableIn (off := 1818) (tgt := 1851) hx hb rx_d33 c1 h55 (by rw [ej]; rfl) (by decide) (K _ rx_case_1851)
    | 54, _, ej => exact lv_tableIn (off := 1841) (tgt := 1874) hx hb rx_d33 c1 h55 (by rw [ej]; rfl) (by decide) (K _ rx_case_1874)
    | 55, _, ej => exact lv_tableIn (off := 1864) (tgt := 1897) hx hb rx_d33 c1 h55 (by rw [ej]; rfl) (by decide) (K _ rx_case_1897)
    | n + 56, hj, _ => omega
end
section
set_option maxHeartbeats 4000000 in
/-- THE LAW, from its entry -/
theorem whole_start {p : Program} {e : Env} {s : State} {m : MethodId} {below : List Frame} {meth : Method} {c : Code} (l : Launch) {b L : Nat} {xs : Nat → Int32} (hL : L ≤ 6) (C0 : lw_At p s m meth c b L xs) : W p l e room_1 s m #[Value.ref b] below meth c s.heap [] 0 0 (lw_Z below #[Value.ref b] s) (entryFrame m ([Value.ref b] : List Value).toArray 4) := by
  obtain ⟨hx, hb, hr, hml, hown, hts, hX, hbl, hlocks, hgv⟩ := id C0
  have htt : ∀ w ∈ rx_tt, w.before #[Value.ref b] s = true := fun w hw => hts w (List.mem_filter.mp hw).1
  have hF : rx_fr p room_1 s m #[Value.ref b] meth c 0 := ⟨⟨hx, hb, hml, hown, htt⟩, rfl, Or.inl rfl⟩
  have hk : ∀ ci : Nat, ∃ (cC : ClassId) (iS : Nat → Nat), ∀ (C : String) (T : u_T) (N : Nat), rx_cls[ci]? = some (C, T, N) → u_Kn s C T N cC iS := by
    intro ci
    cases hc : rx_cls[ci]? with
    | none => exact ⟨0, fun _ => 0, fun C T N h => by cases h⟩
    | some z =>
      obtain ⟨C, T, N⟩ := z
      obtain ⟨ty, -, k1, -, -, k4, -⟩ := rx_cls_ok ci C T N hc
      obtain ⟨cC, iS, h1⟩ := u_known htt k1 (htt _ k4)
      refine ⟨cC, iS, fun C2 T2 N2 h2 => ?_⟩
      cases h2
      exact h1
  obtain ⟨c0, k0, p0, a01, a02, a03⟩ := Jvm.Cond.arrayClass_spec (htt _ (rx_mem_ok rx_aw_0))
  obtain ⟨c1, k1, p1, a11, a12, a13⟩ := Jvm.Cond.arrayClass_spec (htt _ (rx_mem_ok rx_aw_1))
  obtain ⟨c2, k2, p2, a21, a22, a23⟩ := Jvm.Cond.arrayClass_spec (htt _ (rx_mem_ok rx_aw_2))
  obtain ⟨c3, k3, p3, a31, a32, a33⟩ := Jvm.Cond.arrayClass_spec (htt _ (rx_mem_ok rx_aw_3))
  obtain ⟨p4, c4, k4, a40, -, a42, a43, a41⟩ := Jvm.Cond.arrayOver_spec (hts _ (rx_mem0_ok rx_w11))
  obtain ⟨p5, c5, k5, a50, a52, a53, a51⟩ := Jvm.Cond.arrayOver_specA (hts _ (rx_mem0_ok rx_w12))
  have arr : ∀ (cA : ClassId) (kA : Class) (comp : ClassId) (ty : FieldType), s.vm.classes[cA]? = some kA → kA.kind = .array comp ty → ArrOfT s cA ty := fun cA kA comp ty h2 h3 => fun n z => ⟨fun k h => (by cases h), kA, h2, comp, h3⟩
  generalize hcc : (fun k : Nat => match k with | 0 => c0 | 1 => c1 | 2 => c2 | 3 => c3 | 4 => c4 | _ => c5 : Nat → ClassId) = cc
  have e0 : cc 0 = c0 := (congrFun hcc 0).symm
  have e1 : cc 1 = c1 := (congrFun hcc 1).symm
  have e2 : cc 2 = c2 := (congrFun hcc 2).symm
  have e3 : cc 3 = c3 := (congrFun hcc 3).symm
  have e4 : cc 4 = c4 := (congrFun hcc 4).symm
  have e5 : cc 5 = c5 := (congrFun hcc 5).symm
  have hK : va_K (fun ci => Classical.choose (hk ci), fun ci => Classical.choose (Classical.choose_spec (hk ci))) rx_cls (rx_tys cc) s := by
    refine ⟨fun ci q hq => ?_, fun k q hq => ?_⟩
    · obtain ⟨C, T, N⟩ := q
      exact Classical.choose_spec (Classical.choose_spec (hk ci)) C T N hq
    · match k, hq with
      | 0, hq => cases hq; rw [e0]; exact ⟨arr _ _ _ _ a02 a03, a01⟩
      | 1, hq => cases hq; rw [e1]; exact ⟨arr _ _ _ _ a12 a13, a11⟩
      | 2, hq => cases hq; rw [e2]; exact ⟨arr _ _ _ _ a22 a23, a21⟩
      | 3, hq => cases hq; rw [e3]; exact ⟨arr _ _ _ _ a32 a33, a31⟩
      | 4, hq => cases hq; rw [e4]; exact ⟨arr _ _ _ _ a42 a43, k4, p4, a42, a43, a40, a41⟩
      | 5, hq => cases hq; rw [e5]; exact ⟨arr _ _ _ _ a52 a53, a51⟩
      | n + 6, hq => exact absurd hq (by simp [rx_tys])
  generalize ((fun ci => Classical.choose (hk ci), fun ci => Classical.choose (Classical.choose_spec (hk ci))) : va_G) = D at hK
  have hxw : rx_xw s := ⟨fun a i x h9 hm => va_Nw.of rfl (hts _ hm), va_AO.of (hts _ (rx_mem0_ok rx_w11)), hts _ (rx_mem0_ok rx_w12)⟩
  have hS : va_S (fun q : Nat => s.heap.size ≤ q) s.heap s.heap [] := va_S.rf
  have hP : va_P D rx_cls [] s.heap := fun k q h => by simp at h
  have hD : va_D (fun q : Nat => s.heap.size ≤ q) [] := ⟨fun i j p q h => by simp at h, fun k q h => by simp at h⟩
  have hl := lv_entry ([.ref b]) (n := 4) (Nat.le_of_ble_eq_true rfl)
  rw [lg_entry_eq]
  generalize (lg_sl ([.ref b]) ++ List.replicate (4 - (lg_sl ([.ref b])).length) Slot.unset).toArray = ls at hl ⊢
  generalize hρ : (fun k : Nat => if k = 6 then (L : Int) else (xs k).toInt) = ρ
  have hsc : rx_scr ρ b L xs (fun q : Nat => s.heap.size ≤ q) s 0 := fun _ => ⟨hX, hbl, Nat.not_le.mpr hbl, fun k hk6 => by rw [← hρ]; exact if_neg (by omega), by rw [← hρ]; exact if_pos rfl, hL⟩
  obtain ⟨-, -, -, x4, x5, -⟩ := hsc rfl
  have hR : rx_gR ρ rx_sr0 := by
    intro k w hw
    match k, hw with
    | 0, hw => cases hw; rw [x4 0 (by omega)]; exact rx_bds _
    | 1, hw => cases hw; rw [x4 1 (by omega)]; exact rx_bds _
    | 2, hw => cases hw; rw [x4 2 (by omega)]; exact rx_bds _
    | 3, hw => cases hw; rw [x4 3 (by omega)]; exact rx_bds _
    | 4, hw => cases hw; rw [x4 4 (by omega)]; exact rx_bds _
    | 5, hw => cases hw; rw [x4 5 (by omega)]; exact rx_bds _
    | 6, hw => cases hw; rw [x5]; exact ⟨Int.natCast_nonneg L, by show (L : Int) ≤ 6; omega⟩
    | n + 7, hw => exact absurd hw (by simp [rx_sr0])
  have hmid := rx_run_0
  unfold rx_mid at hmid
  split at hmid
  · rename_i os hos
    refine rx_run_ok 33 3000 _ _ _ _ _ _ _ _ _ hos p l e room_1 s m #[Value.ref b] below meth c D cc (fun q : Nat => s.heap.size ≤ q) ρ b L xs [] _ hF hsc ?_ s.heap [] [] ls [] ⟨hK, hP, hD, hS, fun _ h => h, hxw⟩ ⟨hR, ⟨rfl, fun k c9 hk9 _ => absurd hk9 (Nat.not_lt_zero k)⟩, ⟨_, hl, rfl, rfl, trivial⟩, trivial, rx_ext.rf _⟩
    intro o ho H locs ws ls2 st hW hS2
    have h1 := List.all_eq_true.mp hmid o ho
    rw [Bool.or_eq_true] at h1
    rcases h1 with h1 | h1
    · exact rx_endW hF hr hlocks hb h1 H locs ws ls2 st hW hS2
    · unfold rx_mid1 at h1
      obtain ⟨h1, g7⟩ := rx_and h1
      obtain ⟨h1, g6⟩ := rx_and h1
      obtain ⟨h1, g5⟩ := rx_and h1
      obtain ⟨h1, g4⟩ := rx_and h1
      obtain ⟨h1, g3⟩ := rx_and h1
      obtain ⟨g1, g2⟩ := rx_and h1
      have g2 := @of_decide_eq_true _ (rx_qL _ _) g2
      have g3 := of_decide_eq_true g3
      have g4 := of_decide_eq_true g4
      have g5 := @of_decide_eq_true _ (rx_qH _ _) g5
      rw [g2, g3, g4, g5] at hS2
      rw [rx_beq g1, rx_beq g6, rx_beq g7]
      obtain ⟨q1, q2, q3, q4, q5⟩ := hS2
      obtain ⟨_, s1, rfl, ⟨x, rfl, hxx⟩, hL1⟩ := q4.cons
      have hL1 := rx_gL.nil hL1
      subst hL1
      have hxx : (0 : Int) ≤ x.toInt ∧ x.toInt ≤ 63 := hxx
      exact rx_swW hx hb hxx.1 hxx.2 (fun t ht => ht p l e s m below meth c b D cc ρ L xs [] hF hr hlocks hb hsc H locs ws ls2 [] hW ⟨q1, q2, q3, trivial, q5⟩)
  · cases hmid
end
section
-- ===== YOUR PART ENDS =====
set_option maxHeartbeats 4000000 in
theorem lw_walk (l : Launch) (b : Addr) (xs : List Int32) : MetFree l x (headSpec (Jvm.Cond.code x code maxLocals ret :: tables_1) room_1) (lw_P b xs) (fun _ _ _ _ _ => True) lw_Q := by
  refine MetFree.of_bodyS (code := code) (maxLocals := maxLocals) (ret := ret) (by decide) ?_ ?_
  · intro args s m h hn
    obtain ⟨meth, c, h1, h2, h3, h4, h5, h6, -, -⟩ := Cond.code_spec hn (atoms_spec (ws := Jvm.Cond.code x code maxLocals ret :: tables_1) h _ List.mem_cons_self)
    exact ⟨meth, c, h1, h2, h3, h4, h5, h6⟩
  · intro p e s m args below meth c s₁ B hml0 hP _
    obtain ⟨rfl, hx, hbd, hgv⟩ := hP
    obtain ⟨scr, harrAt, hlist, hof, hsmall⟩ := hx
    obtain ⟨hcb, hkn, -, -⟩ := State.arrayAt?_spec harrAt
    have hown : s.vm.findClass R_law = some m.cls := findClass_of_methodNamed B.named
    have hts0 : ∀ c ∈ (Jvm.Cond.code x code maxLocals ret :: tables_1), c.before #[Value.ref b] s = true := atoms_spec (ws := Jvm.Cond.code x code maxLocals ret :: tables_1) B.pre
    have hts : ∀ w ∈ lw_tbl, w.before #[Value.ref b] s = true := k2_hts_sels lw_privs (fun w hw => hts0 w (List.mem_cons_of_mem _ hw)) lw_privs_ok
    have hml : c.maxLocals = 4 := B.maxLocals_eq (hts0 _ List.mem_cons_self)
    have X₀ : Stand p l e room_1 s m #[Value.ref b] below meth c s₁ [] 0 0 := Stand.of_body B
    have hh0 : s₁.heap = s.heap := by rw [B.state]; rfl
    have hsz : scr.slots.size = xs.length := by rw [← Array.length_toList, hlist, List.length_map]
    have hval : ∀ j : Nat, j < xs.length → scr.slots[j]? = some (.int (xs.getD j 0)) := fun j hj => by
      rw [← Array.getElem?_toList, hlist]
      simp [hj]
    have hbl : b < s.heap.size := (Array.getElem?_eq_some_iff.mp hcb).1
    have hX : va_X b xs.length (fun j => xs.getD j 0) s s.heap := ⟨scr, hcb, hof, hkn, hsz, hval⟩
    have K : W p l e room_1 s m #[Value.ref b] below meth c s₁.heap [] 0 0 (lw_Z below #[Value.ref b] s) (entryFrame m ([Value.ref b] : List Value).toArray 4) := by
      rw [hh0]
      exact whole_start l hbd ⟨B.exec, B.bytes, B.returns, hml, hown, hts, hX, hbl, B.notSynchronized, hgv⟩
    obtain ⟨t, a1, o, b1, b2, b3⟩ := K s₁ rfl X₀
    exact ⟨t, o, a1, b1, b2, b3⟩
theorem lw_pre_spec {args : Array Value} {s : State} (h : (Jvm.Cond.and given_1 narrow_1).before args s = true) (hr : rest_1_c.before args s = true) : ∃ (b : Addr) (xs : List Int32), lw_P b xs args s := by
  have hs := flat_of_before _ h
  have hq := flat_of_before _ hr
  have hc : (Cond.count 1).before args s = true := hs _ (by decide +kernel)
  have harr : (Cond.arrayOf (.arg 0) .int).before args s = true := hs _ (by decide +kernel)
  have hle : (Cond.le (.length (.arg 0)) (.int 6)).before args s = true := hs _ (by decide +kernel)
  have hlen : (Cond.isInt (.length (.arg 0))).before args s = true := hq _ (by decide +kernel)
  have hall : (Cond.all (.arg 0) (.isInt (.elem (.arg 0) (.index 0)))).before args s = true := hq _ (by decide +kernel)
  obtain ⟨b, xs, hb, hx⟩ := State.ints_of_pre rfl harr hlen hall
  have hsm : xs.length < 2 ^ 31 := hx.choose_spec.2.2.2
  have hev : (Term.length (.arg 0)).eval args s none [] s = some (.int xs.length.toInt32) := hx.length_eval hb
  have hv := Cond.le_ints hev (show (Term.int 6).eval args s none [] s = some (.int 6) from rfl)
  have hd : xs.length.toInt32 ≤ 6 := by
    simpa [Cond.before, Cond.holds, hv] using hle
  have hN : xs.length ≤ 6 := (Int32.ofNat_le_ofNat hsm (by decide)).mp (show Int32.ofNat xs.length ≤ Int32.ofNat 6 from hd)
  exact ⟨b, xs, Cond.one_arg hc (show args[0]? = some (.ref b) from hb), hx, hN, h⟩
theorem lw_comes (l : Launch) : Comes l x (Jvm.Cond.code x code maxLocals ret :: tables_1) room_1 (fun tb e args s => Calls_1 tb e args s ∧ rest_1 tb e args s ∧ Pre_1 tb e args s)
    (fun _ _ args s o t => lw_Q args s o t) := by
  intro p e ha hc hk s m args below hf hfit hheap happ hpre
  obtain ⟨b, xs, hP⟩ := lw_pre_spec hpre.2.2 hpre.2.1
  obtain ⟨k, o, h1, h2, h3, hQ⟩ := lw_walk l b xs p e ha hc hk s m args below hf ((Spec.applies_iff_loose hf).mp happ).1 hP trivial
  exact ⟨k, o, h1, h2, h3, hQ⟩
theorem lw_frame {s t : State} {o : Outcome} {args : Array Value} (h : Framed s o t [] 600000 7302250) :
    Framed s o t (fieldLocs frame_1_writes args s ++ arrayLocs frame_1_arrays args s ++ staticLocs frame_1_statics s) 600000 7302250 := h
theorem lw_limb (L : Cond) (hL : ∀ (args : Array Value) (s t : State), L.after args s (.returned (some (.int 1))) t = true) :
    ArmFor flags0 classFile x code maxLocals ret World_1 tables_1 room_1 Calls_1 rest_1 Pre_1
      (fun tb e a s o t => postC L tb e a s o t ∧ Framed s o t (fieldLocs frame_1_writes a s ++ arrayLocs frame_1_arrays a s ++ staticLocs frame_1_statics s) 600000 7302250) := by
  intro l _ _ _ p e ha hc hk s m args below hf hfit hheap happ hpre
  obtain ⟨k, o, h1, h2, h3, rfl, hF⟩ := lw_comes l p e ha hc hk s m args below hf hfit hheap happ hpre
  exact ⟨k, _, h1, h2, h3, hL args s _, lw_frame hF⟩
theorem i_vc : Claimed_1_1 ∧ Claimed_1_2 := ⟨lw_limb limb_1_1 (fun args s t => by simp [limb_1_1, Cond.after, Cond.holds, Cond.value]), lw_limb limb_1_2 (fun args s t => Cond.after_iff.mpr (by
  first | (rw [show limb_1_2 = Cond.eq .result (.int 1) from rfl, Cond.eq_ints (x := 1) (y := 1) rfl rfl]; simp; done) | (simp [limb_1_2, Cond.value, Term.eval]; done)))⟩
end
