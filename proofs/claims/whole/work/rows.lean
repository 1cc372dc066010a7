section
-- ===== PART A: goes FIRST, ahead of the names: the tables' words, and 'selects' of the private methods out of them =====
/-- a private method of a class that the tables say can be made, by its rows of tables_1 -/
def lw_okq (q : MethodName × Nat) : Prop := (q.1.cls ≠ "java/lang/invoke/MethodHandle" ∧ q.1.cls ≠ "java/lang/invoke/VarHandle") ∧ Cond.instantiable q.1.cls q.2 ∈ tables_1 ∧ Cond.privateMethod q.1 ∈ tables_1 ∧ Cond.instanceMethod q.1 ∈ tables_1
theorem lw_p0 : lw_okq (⟨"BlessedPins", "isFaultOrNone", "(I)Z"⟩, 4) := ⟨⟨by decide +kernel, by decide +kernel⟩, List.mem_of_getElem? (i := 18) (by decide +kernel), List.mem_of_getElem? (i := 397) (by decide +kernel), List.mem_of_getElem? (i := 398) (by decide +kernel)⟩
theorem lw_p1 : lw_okq (⟨"BlessedPins", "reachedNow", "()I"⟩, 4) := ⟨⟨by decide +kernel, by decide +kernel⟩, List.mem_of_getElem? (i := 18) (by decide +kernel), List.mem_of_getElem? (i := 628) (by decide +kernel), List.mem_of_getElem? (i := 629) (by decide +kernel)⟩
theorem lw_p2 : lw_okq (⟨"BlessedPinsModel", "checksNet", "(I)I"⟩, 15) := ⟨⟨by decide +kernel, by decide +kernel⟩, List.mem_of_getElem? (i := 801) (by decide +kernel), List.mem_of_getElem? (i := 862) (by decide +kernel), List.mem_of_getElem? (i := 863) (by decide +kernel)⟩
theorem lw_p3 : lw_okq (⟨"BlessedPinsModel", "netOf", "(I)I"⟩, 15) := ⟨⟨by decide +kernel, by decide +kernel⟩, List.mem_of_getElem? (i := 801) (by decide +kernel), List.mem_of_getElem? (i := 877) (by decide +kernel), List.mem_of_getElem? (i := 878) (by decide +kernel)⟩
theorem lw_p4 : lw_okq (⟨"BlessedPinsModel", "records", "()V"⟩, 15) := ⟨⟨by decide +kernel, by decide +kernel⟩, List.mem_of_getElem? (i := 801) (by decide +kernel), List.mem_of_getElem? (i := 882) (by decide +kernel), List.mem_of_getElem? (i := 883) (by decide +kernel)⟩
theorem lw_p5 : lw_okq (⟨"BlessedPinsModel", "addsNet", "(I)I"⟩, 15) := ⟨⟨by decide +kernel, by decide +kernel⟩, List.mem_of_getElem? (i := 801) (by decide +kernel), List.mem_of_getElem? (i := 886) (by decide +kernel), List.mem_of_getElem? (i := 887) (by decide +kernel)⟩
theorem lw_p6 : lw_okq (⟨"BlessedPinsModel", "checksChip", "(III)I"⟩, 15) := ⟨⟨by decide +kernel, by decide +kernel⟩, List.mem_of_getElem? (i := 801) (by decide +kernel), List.mem_of_getElem? (i := 894) (by decide +kernel), List.mem_of_getElem? (i := 895) (by decide +kernel)⟩
theorem lw_p7 : lw_okq (⟨"BlessedPinsModel", "chipOf", "(I)I"⟩, 15) := ⟨⟨by decide +kernel, by decide +kernel⟩, List.mem_of_getElem? (i := 801) (by decide +kernel), List.mem_of_getElem? (i := 898) (by decide +kernel), List.mem_of_getElem? (i := 899) (by decide +kernel)⟩
theorem lw_p8 : lw_okq (⟨"BlessedPinsModel", "roleOf", "(II)I"⟩, 15) := ⟨⟨by decide +kernel, by decide +kernel⟩, List.mem_of_getElem? (i := 801) (by decide +kernel), List.mem_of_getElem? (i := 902) (by decide +kernel), List.mem_of_getElem? (i := 903) (by decide +kernel)⟩
theorem lw_p9 : lw_okq (⟨"BlessedPinsModel", "addsChip", "(III)I"⟩, 15) := ⟨⟨by decide +kernel, by decide +kernel⟩, List.mem_of_getElem? (i := 801) (by decide +kernel), List.mem_of_getElem? (i := 906) (by decide +kernel), List.mem_of_getElem? (i := 907) (by decide +kernel)⟩
theorem lw_p10 : lw_okq (⟨"BlessedPinsModel", "checksFault", "(III)I"⟩, 15) := ⟨⟨by decide +kernel, by decide +kernel⟩, List.mem_of_getElem? (i := 801) (by decide +kernel), List.mem_of_getElem? (i := 914) (by decide +kernel), List.mem_of_getElem? (i := 915) (by decide +kernel)⟩
theorem lw_p11 : lw_okq (⟨"BlessedPinsModel", "manyOf", "(I)I"⟩, 15) := ⟨⟨by decide +kernel, by decide +kernel⟩, List.mem_of_getElem? (i := 801) (by decide +kernel), List.mem_of_getElem? (i := 918) (by decide +kernel), List.mem_of_getElem? (i := 919) (by decide +kernel)⟩
theorem lw_p12 : lw_okq (⟨"BlessedPinsModel", "addsFault", "(III)I"⟩, 15) := ⟨⟨by decide +kernel, by decide +kernel⟩, List.mem_of_getElem? (i := 801) (by decide +kernel), List.mem_of_getElem? (i := 922) (by decide +kernel), List.mem_of_getElem? (i := 923) (by decide +kernel)⟩
theorem lw_p13 : lw_okq (⟨"BlessedPinsModel", "touchedNow", "()I"⟩, 15) := ⟨⟨by decide +kernel, by decide +kernel⟩, List.mem_of_getElem? (i := 801) (by decide +kernel), List.mem_of_getElem? (i := 938) (by decide +kernel), List.mem_of_getElem? (i := 939) (by decide +kernel)⟩
theorem lw_p14 : lw_okq (⟨"BlessedPinsModel", "weekday", "()I"⟩, 15) := ⟨⟨by decide +kernel, by decide +kernel⟩, List.mem_of_getElem? (i := 801) (by decide +kernel), List.mem_of_getElem? (i := 942) (by decide +kernel), List.mem_of_getElem? (i := 943) (by decide +kernel)⟩
theorem lw_p15 : lw_okq (⟨"BlessedPinsModel", "touchedOn", "(I)I"⟩, 15) := ⟨⟨by decide +kernel, by decide +kernel⟩, List.mem_of_getElem? (i := 801) (by decide +kernel), List.mem_of_getElem? (i := 946) (by decide +kernel), List.mem_of_getElem? (i := 947) (by decide +kernel)⟩
def lw_privs_1 : List (MethodName × Nat) := [(⟨"BlessedPins", "isFaultOrNone", "(I)Z"⟩, 4), (⟨"BlessedPins", "reachedNow", "()I"⟩, 4), (⟨"BlessedPinsModel", "checksNet", "(I)I"⟩, 15), (⟨"BlessedPinsModel", "netOf", "(I)I"⟩, 15), (⟨"BlessedPinsModel", "records", "()V"⟩, 15), (⟨"BlessedPinsModel", "addsNet", "(I)I"⟩, 15), (⟨"BlessedPinsModel", "checksChip", "(III)I"⟩, 15), (⟨"BlessedPinsModel", "chipOf", "(I)I"⟩, 15), (⟨"BlessedPinsModel", "roleOf", "(II)I"⟩, 15), (⟨"BlessedPinsModel", "addsChip", "(III)I"⟩, 15), (⟨"BlessedPinsModel", "checksFault", "(III)I"⟩, 15), (⟨"BlessedPinsModel", "manyOf", "(I)I"⟩, 15), (⟨"BlessedPinsModel", "addsFault", "(III)I"⟩, 15), (⟨"BlessedPinsModel", "touchedNow", "()I"⟩, 15), (⟨"BlessedPinsModel", "weekday", "()I"⟩, 15), (⟨"BlessedPinsModel", "touchedOn", "(I)I"⟩, 15)]
theorem lw_r1 : ∀ q ∈ lw_privs_1, lw_okq q := List.forall_mem_cons.mpr ⟨lw_p0, List.forall_mem_cons.mpr ⟨lw_p1, List.forall_mem_cons.mpr ⟨lw_p2, List.forall_mem_cons.mpr ⟨lw_p3, List.forall_mem_cons.mpr ⟨lw_p4, List.forall_mem_cons.mpr ⟨lw_p5, List.forall_mem_cons.mpr ⟨lw_p6, List.forall_mem_cons.mpr ⟨lw_p7, List.forall_mem_cons.mpr ⟨lw_p8, List.forall_mem_cons.mpr ⟨lw_p9, List.forall_mem_cons.mpr ⟨lw_p10, List.forall_mem_cons.mpr ⟨lw_p11, List.forall_mem_cons.mpr ⟨lw_p12, List.forall_mem_cons.mpr ⟨lw_p13, List.forall_mem_cons.mpr ⟨lw_p14, List.forall_mem_cons.mpr ⟨lw_p15, fun _ h => absurd h List.not_mem_nil⟩⟩⟩⟩⟩⟩⟩⟩⟩⟩⟩⟩⟩⟩⟩⟩
theorem lw_p16 : lw_okq (⟨"BlessedPinsModel", "isFault", "(I)Z"⟩, 15) := ⟨⟨by decide +kernel, by decide +kernel⟩, List.mem_of_getElem? (i := 801) (by decide +kernel), List.mem_of_getElem? (i := 954) (by decide +kernel), List.mem_of_getElem? (i := 955) (by decide +kernel)⟩
theorem lw_p17 : lw_okq (⟨"BlessedPinsModel", "isFaultOrNone", "(I)Z"⟩, 15) := ⟨⟨by decide +kernel, by decide +kernel⟩, List.mem_of_getElem? (i := 801) (by decide +kernel), List.mem_of_getElem? (i := 965) (by decide +kernel), List.mem_of_getElem? (i := 966) (by decide +kernel)⟩
theorem lw_p18 : lw_okq (⟨"BlessedPinsModel", "reachedBy", "(II)I"⟩, 15) := ⟨⟨by decide +kernel, by decide +kernel⟩, List.mem_of_getElem? (i := 801) (by decide +kernel), List.mem_of_getElem? (i := 969) (by decide +kernel), List.mem_of_getElem? (i := 970) (by decide +kernel)⟩
theorem lw_p19 : lw_okq (⟨"BlessedPinsModel", "scannedBy", "(II)I"⟩, 15) := ⟨⟨by decide +kernel, by decide +kernel⟩, List.mem_of_getElem? (i := 801) (by decide +kernel), List.mem_of_getElem? (i := 973) (by decide +kernel), List.mem_of_getElem? (i := 974) (by decide +kernel)⟩
theorem lw_p20 : lw_okq (⟨"BlessedPinsModel", "along", "(IIZ)I"⟩, 15) := ⟨⟨by decide +kernel, by decide +kernel⟩, List.mem_of_getElem? (i := 801) (by decide +kernel), List.mem_of_getElem? (i := 977) (by decide +kernel), List.mem_of_getElem? (i := 978) (by decide +kernel)⟩
theorem lw_p21 : lw_okq (⟨"BlessedPinsModel", "comesTo", "(IIIIZ)Z"⟩, 15) := ⟨⟨by decide +kernel, by decide +kernel⟩, List.mem_of_getElem? (i := 801) (by decide +kernel), List.mem_of_getElem? (i := 981) (by decide +kernel), List.mem_of_getElem? (i := 982) (by decide +kernel)⟩
theorem lw_p22 : lw_okq (⟨"BlessedPinsModel", "hasFault", "(III)Z"⟩, 15) := ⟨⟨by decide +kernel, by decide +kernel⟩, List.mem_of_getElem? (i := 801) (by decide +kernel), List.mem_of_getElem? (i := 985) (by decide +kernel), List.mem_of_getElem? (i := 986) (by decide +kernel)⟩
theorem lw_p23 : lw_okq (⟨"BlessedPinsModel", "areLinked", "(III)Z"⟩, 15) := ⟨⟨by decide +kernel, by decide +kernel⟩, List.mem_of_getElem? (i := 801) (by decide +kernel), List.mem_of_getElem? (i := 989) (by decide +kernel), List.mem_of_getElem? (i := 990) (by decide +kernel)⟩
theorem lw_p24 : lw_okq (⟨"BlessedPinsModel", "readsBy", "(IIII)I"⟩, 15) := ⟨⟨by decide +kernel, by decide +kernel⟩, List.mem_of_getElem? (i := 801) (by decide +kernel), List.mem_of_getElem? (i := 1001) (by decide +kernel), List.mem_of_getElem? (i := 1002) (by decide +kernel)⟩
theorem lw_p25 : lw_okq (⟨"BlessedPinsModel", "readsOne", "(IIII)I"⟩, 15) := ⟨⟨by decide +kernel, by decide +kernel⟩, List.mem_of_getElem? (i := 801) (by decide +kernel), List.mem_of_getElem? (i := 1005) (by decide +kernel), List.mem_of_getElem? (i := 1006) (by decide +kernel)⟩
theorem lw_p26 : lw_okq (⟨"BlessedPinsModel", "areJoined", "(III)Z"⟩, 15) := ⟨⟨by decide +kernel, by decide +kernel⟩, List.mem_of_getElem? (i := 801) (by decide +kernel), List.mem_of_getElem? (i := 1009) (by decide +kernel), List.mem_of_getElem? (i := 1010) (by decide +kernel)⟩
theorem lw_p27 : lw_okq (⟨"BlessedPinsModel", "alikeDays", "(II)I"⟩, 15) := ⟨⟨by decide +kernel, by decide +kernel⟩, List.mem_of_getElem? (i := 801) (by decide +kernel), List.mem_of_getElem? (i := 1017) (by decide +kernel), List.mem_of_getElem? (i := 1018) (by decide +kernel)⟩
theorem lw_p28 : lw_okq (⟨"BlessedPinsModel", "measuresOne", "(III)V"⟩, 15) := ⟨⟨by decide +kernel, by decide +kernel⟩, List.mem_of_getElem? (i := 801) (by decide +kernel), List.mem_of_getElem? (i := 1024) (by decide +kernel), List.mem_of_getElem? (i := 1025) (by decide +kernel)⟩
theorem lw_p29 : lw_okq (⟨"BlessedPinsModel", "isLike", "(II)Z"⟩, 15) := ⟨⟨by decide +kernel, by decide +kernel⟩, List.mem_of_getElem? (i := 801) (by decide +kernel), List.mem_of_getElem? (i := 1028) (by decide +kernel), List.mem_of_getElem? (i := 1029) (by decide +kernel)⟩
theorem lw_p30 : lw_okq (⟨"BlessedPinsModel", "measures", "(I)V"⟩, 15) := ⟨⟨by decide +kernel, by decide +kernel⟩, List.mem_of_getElem? (i := 801) (by decide +kernel), List.mem_of_getElem? (i := 1044) (by decide +kernel), List.mem_of_getElem? (i := 1045) (by decide +kernel)⟩
theorem lw_p31 : lw_okq (⟨"BlessedPinsModel", "isBoard", "(I)Z"⟩, 15) := ⟨⟨by decide +kernel, by decide +kernel⟩, List.mem_of_getElem? (i := 801) (by decide +kernel), List.mem_of_getElem? (i := 1048) (by decide +kernel), List.mem_of_getElem? (i := 1049) (by decide +kernel)⟩
def lw_privs_2 : List (MethodName × Nat) := [(⟨"BlessedPinsModel", "isFault", "(I)Z"⟩, 15), (⟨"BlessedPinsModel", "isFaultOrNone", "(I)Z"⟩, 15), (⟨"BlessedPinsModel", "reachedBy", "(II)I"⟩, 15), (⟨"BlessedPinsModel", "scannedBy", "(II)I"⟩, 15), (⟨"BlessedPinsModel", "along", "(IIZ)I"⟩, 15), (⟨"BlessedPinsModel", "comesTo", "(IIIIZ)Z"⟩, 15), (⟨"BlessedPinsModel", "hasFault", "(III)Z"⟩, 15), (⟨"BlessedPinsModel", "areLinked", "(III)Z"⟩, 15), (⟨"BlessedPinsModel", "readsBy", "(IIII)I"⟩, 15), (⟨"BlessedPinsModel", "readsOne", "(IIII)I"⟩, 15), (⟨"BlessedPinsModel", "areJoined", "(III)Z"⟩, 15), (⟨"BlessedPinsModel", "alikeDays", "(II)I"⟩, 15), (⟨"BlessedPinsModel", "measuresOne", "(III)V"⟩, 15), (⟨"BlessedPinsModel", "isLike", "(II)Z"⟩, 15), (⟨"BlessedPinsModel", "measures", "(I)V"⟩, 15), (⟨"BlessedPinsModel", "isBoard", "(I)Z"⟩, 15)]
theorem lw_r2 : ∀ q ∈ lw_privs_2, lw_okq q := List.forall_mem_cons.mpr ⟨lw_p16, List.forall_mem_cons.mpr ⟨lw_p17, List.forall_mem_cons.mpr ⟨lw_p18, List.forall_mem_cons.mpr ⟨lw_p19, List.forall_mem_cons.mpr ⟨lw_p20, List.forall_mem_cons.mpr ⟨lw_p21, List.forall_mem_cons.mpr ⟨lw_p22, List.forall_mem_cons.mpr ⟨lw_p23, List.forall_mem_cons.mpr ⟨lw_p24, List.forall_mem_cons.mpr ⟨lw_p25, List.forall_mem_cons.mpr ⟨lw_p26, List.forall_mem_cons.mpr ⟨lw_p27, List.forall_mem_cons.mpr ⟨lw_p28, List.forall_mem_cons.mpr ⟨lw_p29, List.forall_mem_cons.mpr ⟨lw_p30, List.forall_mem_cons.mpr ⟨lw_p31, fun _ h => absurd h List.not_mem_nil⟩⟩⟩⟩⟩⟩⟩⟩⟩⟩⟩⟩⟩⟩⟩⟩
theorem lw_p32 : lw_okq (⟨"BlessedPinsModel", "likeSet", "(I)I"⟩, 15) := ⟨⟨by decide +kernel, by decide +kernel⟩, List.mem_of_getElem? (i := 801) (by decide +kernel), List.mem_of_getElem? (i := 1052) (by decide +kernel), List.mem_of_getElem? (i := 1053) (by decide +kernel)⟩
theorem lw_p33 : lw_okq (⟨"BlessedPinsModel", "findsLikes", "()V"⟩, 15) := ⟨⟨by decide +kernel, by decide +kernel⟩, List.mem_of_getElem? (i := 801) (by decide +kernel), List.mem_of_getElem? (i := 1064) (by decide +kernel), List.mem_of_getElem? (i := 1065) (by decide +kernel)⟩
theorem lw_p34 : lw_okq (⟨"BlessedPinsModel", "doesAll", "(II)Z"⟩, 15) := ⟨⟨by decide +kernel, by decide +kernel⟩, List.mem_of_getElem? (i := 801) (by decide +kernel), List.mem_of_getElem? (i := 1068) (by decide +kernel), List.mem_of_getElem? (i := 1069) (by decide +kernel)⟩
theorem lw_p35 : lw_okq (⟨"BlessedPinsModel", "areApart", "(III)Z"⟩, 15) := ⟨⟨by decide +kernel, by decide +kernel⟩, List.mem_of_getElem? (i := 801) (by decide +kernel), List.mem_of_getElem? (i := 1072) (by decide +kernel), List.mem_of_getElem? (i := 1073) (by decide +kernel)⟩
theorem lw_p36 : lw_okq (⟨"BlessedPinsModel", "wantedSet", "(II)I"⟩, 15) := ⟨⟨by decide +kernel, by decide +kernel⟩, List.mem_of_getElem? (i := 801) (by decide +kernel), List.mem_of_getElem? (i := 1080) (by decide +kernel), List.mem_of_getElem? (i := 1081) (by decide +kernel)⟩
theorem lw_p37 : lw_okq (⟨"BlessedPinsModel", "isTold", "(II)Z"⟩, 15) := ⟨⟨by decide +kernel, by decide +kernel⟩, List.mem_of_getElem? (i := 801) (by decide +kernel), List.mem_of_getElem? (i := 1084) (by decide +kernel), List.mem_of_getElem? (i := 1085) (by decide +kernel)⟩
theorem lw_p38 : lw_okq (⟨"BlessedPinsModel", "worstOn", "(I)I"⟩, 15) := ⟨⟨by decide +kernel, by decide +kernel⟩, List.mem_of_getElem? (i := 801) (by decide +kernel), List.mem_of_getElem? (i := 1125) (by decide +kernel), List.mem_of_getElem? (i := 1126) (by decide +kernel)⟩
theorem lw_p39 : lw_okq (⟨"BlessedPinsModel", "inDrawer", "(I)I"⟩, 15) := ⟨⟨by decide +kernel, by decide +kernel⟩, List.mem_of_getElem? (i := 801) (by decide +kernel), List.mem_of_getElem? (i := 1133) (by decide +kernel), List.mem_of_getElem? (i := 1134) (by decide +kernel)⟩
theorem lw_p40 : lw_okq (⟨"BlessedPinsModel", "triesAll", "()V"⟩, 15) := ⟨⟨by decide +kernel, by decide +kernel⟩, List.mem_of_getElem? (i := 801) (by decide +kernel), List.mem_of_getElem? (i := 1153) (by decide +kernel), List.mem_of_getElem? (i := 1154) (by decide +kernel)⟩
theorem lw_p41 : lw_okq (⟨"BlessedPinsModel", "goesThrough", "()V"⟩, 15) := ⟨⟨by decide +kernel, by decide +kernel⟩, List.mem_of_getElem? (i := 801) (by decide +kernel), List.mem_of_getElem? (i := 1157) (by decide +kernel), List.mem_of_getElem? (i := 1158) (by decide +kernel)⟩
theorem lw_p42 : lw_okq (⟨"BlessedPinsModel", "passesSpaces", "()V"⟩, 15) := ⟨⟨by decide +kernel, by decide +kernel⟩, List.mem_of_getElem? (i := 801) (by decide +kernel), List.mem_of_getElem? (i := 1161) (by decide +kernel), List.mem_of_getElem? (i := 1162) (by decide +kernel)⟩
theorem lw_p43 : lw_okq (⟨"BlessedPinsModel", "isHere", "(II)Z"⟩, 15) := ⟨⟨by decide +kernel, by decide +kernel⟩, List.mem_of_getElem? (i := 801) (by decide +kernel), List.mem_of_getElem? (i := 1165) (by decide +kernel), List.mem_of_getElem? (i := 1166) (by decide +kernel)⟩
theorem lw_p44 : lw_okq (⟨"BlessedPinsModel", "reasonOf", "()I"⟩, 15) := ⟨⟨by decide +kernel, by decide +kernel⟩, List.mem_of_getElem? (i := 801) (by decide +kernel), List.mem_of_getElem? (i := 1169) (by decide +kernel), List.mem_of_getElem? (i := 1170) (by decide +kernel)⟩
theorem lw_p45 : lw_okq (⟨"BlessedPinsModel", "readsCommand", "()Z"⟩, 15) := ⟨⟨by decide +kernel, by decide +kernel⟩, List.mem_of_getElem? (i := 801) (by decide +kernel), List.mem_of_getElem? (i := 1173) (by decide +kernel), List.mem_of_getElem? (i := 1174) (by decide +kernel)⟩
theorem lw_p46 : lw_okq (⟨"BlessedPinsModel", "readsWord", "()I"⟩, 15) := ⟨⟨by decide +kernel, by decide +kernel⟩, List.mem_of_getElem? (i := 801) (by decide +kernel), List.mem_of_getElem? (i := 1177) (by decide +kernel), List.mem_of_getElem? (i := 1178) (by decide +kernel)⟩
theorem lw_p47 : lw_okq (⟨"BlessedPinsModel", "isEnded", "()Z"⟩, 15) := ⟨⟨by decide +kernel, by decide +kernel⟩, List.mem_of_getElem? (i := 801) (by decide +kernel), List.mem_of_getElem? (i := 1181) (by decide +kernel), List.mem_of_getElem? (i := 1182) (by decide +kernel)⟩
def lw_privs_3 : List (MethodName × Nat) := [(⟨"BlessedPinsModel", "likeSet", "(I)I"⟩, 15), (⟨"BlessedPinsModel", "findsLikes", "()V"⟩, 15), (⟨"BlessedPinsModel", "doesAll", "(II)Z"⟩, 15), (⟨"BlessedPinsModel", "areApart", "(III)Z"⟩, 15), (⟨"BlessedPinsModel", "wantedSet", "(II)I"⟩, 15), (⟨"BlessedPinsModel", "isTold", "(II)Z"⟩, 15), (⟨"BlessedPinsModel", "worstOn", "(I)I"⟩, 15), (⟨"BlessedPinsModel", "inDrawer", "(I)I"⟩, 15), (⟨"BlessedPinsModel", "triesAll", "()V"⟩, 15), (⟨"BlessedPinsModel", "goesThrough", "()V"⟩, 15), (⟨"BlessedPinsModel", "passesSpaces", "()V"⟩, 15), (⟨"BlessedPinsModel", "isHere", "(II)Z"⟩, 15), (⟨"BlessedPinsModel", "reasonOf", "()I"⟩, 15), (⟨"BlessedPinsModel", "readsCommand", "()Z"⟩, 15), (⟨"BlessedPinsModel", "readsWord", "()I"⟩, 15), (⟨"BlessedPinsModel", "isEnded", "()Z"⟩, 15)]
theorem lw_r3 : ∀ q ∈ lw_privs_3, lw_okq q := List.forall_mem_cons.mpr ⟨lw_p32, List.forall_mem_cons.mpr ⟨lw_p33, List.forall_mem_cons.mpr ⟨lw_p34, List.forall_mem_cons.mpr ⟨lw_p35, List.forall_mem_cons.mpr ⟨lw_p36, List.forall_mem_cons.mpr ⟨lw_p37, List.forall_mem_cons.mpr ⟨lw_p38, List.forall_mem_cons.mpr ⟨lw_p39, List.forall_mem_cons.mpr ⟨lw_p40, List.forall_mem_cons.mpr ⟨lw_p41, List.forall_mem_cons.mpr ⟨lw_p42, List.forall_mem_cons.mpr ⟨lw_p43, List.forall_mem_cons.mpr ⟨lw_p44, List.forall_mem_cons.mpr ⟨lw_p45, List.forall_mem_cons.mpr ⟨lw_p46, List.forall_mem_cons.mpr ⟨lw_p47, fun _ h => absurd h List.not_mem_nil⟩⟩⟩⟩⟩⟩⟩⟩⟩⟩⟩⟩⟩⟩⟩⟩
theorem lw_p48 : lw_okq (⟨"BlessedPinsModel", "readsNumber", "()I"⟩, 15) := ⟨⟨by decide +kernel, by decide +kernel⟩, List.mem_of_getElem? (i := 801) (by decide +kernel), List.mem_of_getElem? (i := 1185) (by decide +kernel), List.mem_of_getElem? (i := 1186) (by decide +kernel)⟩
theorem lw_p49 : lw_okq (⟨"BlessedPinsModel", "commandKind", "()I"⟩, 15) := ⟨⟨by decide +kernel, by decide +kernel⟩, List.mem_of_getElem? (i := 801) (by decide +kernel), List.mem_of_getElem? (i := 1189) (by decide +kernel), List.mem_of_getElem? (i := 1190) (by decide +kernel)⟩
theorem lw_p50 : lw_okq (⟨"BlessedPinsModel", "isOfForm", "(I)Z"⟩, 15) := ⟨⟨by decide +kernel, by decide +kernel⟩, List.mem_of_getElem? (i := 801) (by decide +kernel), List.mem_of_getElem? (i := 1196) (by decide +kernel), List.mem_of_getElem? (i := 1197) (by decide +kernel)⟩
theorem lw_p51 : lw_okq (⟨"BlessedPinsModel", "areUnlike", "(I)Z"⟩, 15) := ⟨⟨by decide +kernel, by decide +kernel⟩, List.mem_of_getElem? (i := 801) (by decide +kernel), List.mem_of_getElem? (i := 1200) (by decide +kernel), List.mem_of_getElem? (i := 1201) (by decide +kernel)⟩
theorem lw_p52 : lw_okq (⟨"BlessedPinsModel", "areThere", "(I)Z"⟩, 15) := ⟨⟨by decide +kernel, by decide +kernel⟩, List.mem_of_getElem? (i := 801) (by decide +kernel), List.mem_of_getElem? (i := 1204) (by decide +kernel), List.mem_of_getElem? (i := 1205) (by decide +kernel)⟩
theorem lw_p53 : lw_okq (⟨"BlessedPinsModel", "does", "(I)I"⟩, 15) := ⟨⟨by decide +kernel, by decide +kernel⟩, List.mem_of_getElem? (i := 801) (by decide +kernel), List.mem_of_getElem? (i := 1208) (by decide +kernel), List.mem_of_getElem? (i := 1209) (by decide +kernel)⟩
theorem lw_p54 : lw_okq (⟨"BlessedPinsModel", "numberSet", "(I)I"⟩, 15) := ⟨⟨by decide +kernel, by decide +kernel⟩, List.mem_of_getElem? (i := 801) (by decide +kernel), List.mem_of_getElem? (i := 1212) (by decide +kernel), List.mem_of_getElem? (i := 1213) (by decide +kernel)⟩
def lw_privs_4 : List (MethodName × Nat) := [(⟨"BlessedPinsModel", "readsNumber", "()I"⟩, 15), (⟨"BlessedPinsModel", "commandKind", "()I"⟩, 15), (⟨"BlessedPinsModel", "isOfForm", "(I)Z"⟩, 15), (⟨"BlessedPinsModel", "areUnlike", "(I)Z"⟩, 15), (⟨"BlessedPinsModel", "areThere", "(I)Z"⟩, 15), (⟨"BlessedPinsModel", "does", "(I)I"⟩, 15), (⟨"BlessedPinsModel", "numberSet", "(I)I"⟩, 15)]
theorem lw_r4 : ∀ q ∈ lw_privs_4, lw_okq q := List.forall_mem_cons.mpr ⟨lw_p48, List.forall_mem_cons.mpr ⟨lw_p49, List.forall_mem_cons.mpr ⟨lw_p50, List.forall_mem_cons.mpr ⟨lw_p51, List.forall_mem_cons.mpr ⟨lw_p52, List.forall_mem_cons.mpr ⟨lw_p53, List.forall_mem_cons.mpr ⟨lw_p54, fun _ h => absurd h List.not_mem_nil⟩⟩⟩⟩⟩⟩⟩
def lw_privs : List (MethodName × Nat) := lw_privs_1 ++ (lw_privs_2 ++ (lw_privs_3 ++ (lw_privs_4)))
def lw_tbl : List Cond := k2_sels lw_privs ++ tables_1
theorem lw_privs_ok : ∀ q ∈ lw_privs, lw_okq q := by
  show ∀ q ∈ lw_privs_1 ++ (lw_privs_2 ++ (lw_privs_3 ++ (lw_privs_4))), lw_okq q
  exact List.forall_mem_append.mpr ⟨lw_r1, List.forall_mem_append.mpr ⟨lw_r2, List.forall_mem_append.mpr ⟨lw_r3, lw_r4⟩⟩⟩
/-- the streams that the claim lets the run draw from -/
abbrev lw_cs : List Choice := [Jvm.Choice.named "NaN.bits"]
theorem lw_bits : nanBits ∈ lw_cs := by first | decide | exact List.mem_cons_self | simp [lw_cs, nanBits]
end
section
def RX0 : String := "BlessedPins$Board"
def TX0 : u_T := fun k => match k with
  | 0 => ("BlessedPins$Board", "nets", "[I", true)
  | 1 => ("BlessedPins$Board", "netOf", "[I", true)
  | 2 => ("BlessedPins$Board", "entries", "[I", true)
  | 3 => ("BlessedPins$Board", "exits", "[I", true)
  | 4 => ("BlessedPins$Board", "cells", "[I", true)
  | 5 => ("BlessedPins$Board", "kinds", "[I", true)
  | 6 => ("BlessedPins$Board", "places", "[I", true)
  | 7 => ("BlessedPins$Board", "seconds", "[I", true)
  | 8 => ("BlessedPins$Board", "blessed", "[I", true)
  | 9 => ("BlessedPins$Board", "netCount", "I", false)
  | 10 => ("BlessedPins$Board", "chipCount", "I", false)
  | 11 => ("BlessedPins$Board", "faultCount", "I", false)
  | 12 => ("BlessedPins$Board", "pinsInNets", "I", false)
  | _ => ("BlessedPins$Board", "pinsOfChips", "I", false)
def tyX0 : Nat → FieldType := fun k => match k with
  | 0 => .array .int
  | 1 => .array .int
  | 2 => .array .int
  | 3 => .array .int
  | 4 => .array .int
  | 5 => .array .int
  | 6 => .array .int
  | 7 => .array .int
  | 8 => .array .int
  | 9 => .int
  | 10 => .int
  | 11 => .int
  | 12 => .int
  | _ => .int
abbrev wsX00 : List Cond := u_ws RX0 TX0 14
theorem nmX0 : ∀ a, a < 14 → ∀ b, b < 14 → a ≠ b → (TX0 a).2.1 ≠ (TX0 b).2.1 := by decide +kernel
theorem tyX0_ok : ∀ k, k < 14 → parseFieldDescriptor (TX0 k).2.2.1 = some (tyX0 k) := by decide +kernel
abbrev cX0_init : ByteArray := prog_2_method_1_code
def yX0_init : MethodName := ⟨RX0, "<init>", "()V"⟩
abbrev cX0_copyFrom : ByteArray := prog_2_method_2_code
def yX0_copyFrom : MethodName := ⟨RX0, "copyFrom", "(LBlessedPins$Board;)V"⟩
abbrev cX0_refusalOfNet : ByteArray := prog_2_method_3_code
def yX0_refusalOfNet : MethodName := ⟨RX0, "refusalOfNet", "(I)I"⟩
abbrev cX0_addNet : ByteArray := prog_2_method_4_code
def yX0_addNet : MethodName := ⟨RX0, "addNet", "(I)I"⟩
abbrev cX0_refusalOfChip : ByteArray := prog_2_method_5_code
def yX0_refusalOfChip : MethodName := ⟨RX0, "refusalOfChip", "(III)I"⟩
abbrev cX0_addChip : ByteArray := prog_2_method_6_code
def yX0_addChip : MethodName := ⟨RX0, "addChip", "(III)I"⟩
abbrev cX0_refusalOfFault : ByteArray := prog_2_method_7_code
def yX0_refusalOfFault : MethodName := ⟨RX0, "refusalOfFault", "(III)I"⟩
abbrev cX0_placesFor : ByteArray := prog_2_method_8_code
def yX0_placesFor : MethodName := ⟨RX0, "placesFor", "(I)I"⟩
abbrev cX0_addFault : ByteArray := prog_2_method_9_code
def yX0_addFault : MethodName := ⟨RX0, "addFault", "(III)I"⟩
abbrev cX0_setBlessing : ByteArray := prog_2_method_10_code
def yX0_setBlessing : MethodName := ⟨RX0, "setBlessing", "(II)I"⟩
abbrev cX0_blessedOn : ByteArray := prog_2_method_11_code
def yX0_blessedOn : MethodName := ⟨RX0, "blessedOn", "(I)I"⟩
abbrev cX0_chipWith : ByteArray := prog_2_method_12_code
def yX0_chipWith : MethodName := ⟨RX0, "chipWith", "(I)I"⟩
abbrev cX0_roleOf : ByteArray := prog_2_method_13_code
def yX0_roleOf : MethodName := ⟨RX0, "roleOf", "(I)I"⟩
abbrev cX0_isFault : ByteArray := prog_2_method_14_code
def yX0_isFault : MethodName := ⟨RX0, "isFault", "(I)Z"⟩
abbrev cX0_allSuspects : ByteArray := prog_2_method_15_code
def yX0_allSuspects : MethodName := ⟨RX0, "allSuspects", "()I"⟩
abbrev cX0_suffers : ByteArray := prog_2_method_16_code
def yX0_suffers : MethodName := ⟨RX0, "suffers", "(III)Z"⟩
abbrev cX0_shortedWith : ByteArray := prog_2_method_17_code
def yX0_shortedWith : MethodName := ⟨RX0, "shortedWith", "(II)I"⟩
def RX1 : String := "BlessedPins$History"
def TX1 : u_T := fun k => match k with
  | 0 => ("BlessedPins$History", "states", "[LBlessedPins$State;", true)
  | _ => ("BlessedPins$History", "size", "I", false)
def tyX1 : Nat → FieldType := fun k => match k with
  | 0 => .array (.object "BlessedPins$State")
  | _ => .int
abbrev wsX10 : List Cond := u_ws RX1 TX1 2
theorem nmX1 : ∀ a, a < 2 → ∀ b, b < 2 → a ≠ b → (TX1 a).2.1 ≠ (TX1 b).2.1 := by decide +kernel
theorem tyX1_ok : ∀ k, k < 2 → parseFieldDescriptor (TX1 k).2.2.1 = some (tyX1 k) := by decide +kernel
abbrev cX1_init : ByteArray := prog_3_method_1_code
def yX1_init : MethodName := ⟨RX1, "<init>", "()V"⟩
abbrev cX1_keep : ByteArray := prog_3_method_2_code
def yX1_keep : MethodName := ⟨RX1, "keep", "(LBlessedPins$State;)V"⟩
abbrev cX1_dropOldest : ByteArray := prog_3_method_3_code
def yX1_dropOldest : MethodName := ⟨RX1, "dropOldest", "()V"⟩
abbrev cX1_restore : ByteArray := prog_3_method_4_code
def yX1_restore : MethodName := ⟨RX1, "restore", "(LBlessedPins$State;)V"⟩
def RX2 : String := "BlessedPins$Meter"
def TX2 : u_T := fun k => match k with
  | 0 => ("BlessedPins$Meter", "board", "LBlessedPins$Board;", true)
  | 1 => ("BlessedPins$Meter", "supposed", "[LBlessedPins$SuspectBoard;", true)
  | 2 => ("BlessedPins$Meter", "firstLike", "[[I", true)
  | 3 => ("BlessedPins$Meter", "daysWanted", "[I", true)
  | _ => ("BlessedPins$Meter", "daysWantedCount", "I", false)
def tyX2 : Nat → FieldType := fun k => match k with
  | 0 => .object "BlessedPins$Board"
  | 1 => .array (.object "BlessedPins$SuspectBoard")
  | 2 => .array (.array .int)
  | 3 => .array .int
  | _ => .int
abbrev wsX20 : List Cond := u_ws RX2 TX2 5
theorem nmX2 : ∀ a, a < 5 → ∀ b, b < 5 → a ≠ b → (TX2 a).2.1 ≠ (TX2 b).2.1 := by decide +kernel
theorem tyX2_ok : ∀ k, k < 5 → parseFieldDescriptor (TX2 k).2.2.1 = some (tyX2 k) := by decide +kernel
abbrev cX2_init : ByteArray := prog_4_method_1_code
def yX2_init : MethodName := ⟨RX2, "<init>", "(LBlessedPins$Board;)V"⟩
abbrev cX2_suppose : ByteArray := prog_4_method_2_code
def yX2_suppose : MethodName := ⟨RX2, "suppose", "(I)LBlessedPins$SuspectBoard;"⟩
abbrev cX2_supposeAll : ByteArray := prog_4_method_3_code
def yX2_supposeAll : MethodName := ⟨RX2, "supposeAll", "(I)V"⟩
abbrev cX2_probeAll : ByteArray := prog_4_method_4_code
def yX2_probeAll : MethodName := ⟨RX2, "probeAll", "(II)V"⟩
abbrev cX2_probedLike : ByteArray := prog_4_method_5_code
def yX2_probedLike : MethodName := ⟨RX2, "probedLike", "(II)I"⟩
abbrev cX2_leftBy : ByteArray := prog_4_method_6_code
def yX2_leftBy : MethodName := ⟨RX2, "leftBy", "(III)I"⟩
abbrev cX2_measureWeek : ByteArray := prog_4_method_7_code
def yX2_measureWeek : MethodName := ⟨RX2, "measureWeek", "()V"⟩
abbrev cX2_firstProbedLike : ByteArray := prog_4_method_8_code
def yX2_firstProbedLike : MethodName := ⟨RX2, "firstProbedLike", "(II)I"⟩
abbrev cX2_daysAlike : ByteArray := prog_4_method_9_code
def yX2_daysAlike : MethodName := ⟨RX2, "daysAlike", "(II)I"⟩
abbrev cX2_daysUnlike : ByteArray := prog_4_method_10_code
def yX2_daysUnlike : MethodName := ⟨RX2, "daysUnlike", "(II)I"⟩
abbrev cX2_suspectsLike : ByteArray := prog_4_method_11_code
def yX2_suspectsLike : MethodName := ⟨RX2, "suspectsLike", "(II)I"⟩
abbrev cX2_unlikeOutcomes : ByteArray := prog_4_method_12_code
def yX2_unlikeOutcomes : MethodName := ⟨RX2, "unlikeOutcomes", "(I)I"⟩
abbrev cX2_worstOn : ByteArray := prog_4_method_13_code
def yX2_worstOn : MethodName := ⟨RX2, "worstOn", "(II)I"⟩
abbrev cX2_fewestDaysFor : ByteArray := prog_4_method_14_code
def yX2_fewestDaysFor : MethodName := ⟨RX2, "fewestDaysFor", "(Z)I"⟩
abbrev cX2_collectDaysWanted : ByteArray := prog_4_method_15_code
def yX2_collectDaysWanted : MethodName := ⟨RX2, "collectDaysWanted", "(Z)V"⟩
abbrev cX2_suffice : ByteArray := prog_4_method_16_code
def yX2_suffice : MethodName := ⟨RX2, "suffice", "(I)Z"⟩
abbrev cX2_fewestPinsTelling : ByteArray := prog_4_method_17_code
def yX2_fewestPinsTelling : MethodName := ⟨RX2, "fewestPinsTelling", "(II)I"⟩
abbrev cX2_tells : ByteArray := prog_4_method_18_code
def yX2_tells : MethodName := ⟨RX2, "tells", "(II)Z"⟩
def RX3 : String := "BlessedPins$Program"
def TX3 : u_T := fun k => match k with
  | 0 => ("BlessedPins$Program", "trial", "LBlessedPins$Board;", true)
  | 1 => ("BlessedPins$Program", "text", "[C", true)
  | 2 => ("BlessedPins$Program", "numbers", "[I", true)
  | 3 => ("BlessedPins$Program", "length", "I", false)
  | 4 => ("BlessedPins$Program", "word", "I", false)
  | 5 => ("BlessedPins$Program", "many", "I", false)
  | 6 => ("BlessedPins$Program", "commands", "I", false)
  | 7 => ("BlessedPins$Program", "faultAt", "I", false)
  | _ => ("BlessedPins$Program", "reason", "I", false)
def tyX3 : Nat → FieldType := fun k => match k with
  | 0 => .object "BlessedPins$Board"
  | 1 => .array .char
  | 2 => .array .int
  | 3 => .int
  | 4 => .int
  | 5 => .int
  | 6 => .int
  | 7 => .int
  | _ => .int
abbrev wsX30 : List Cond := u_ws RX3 TX3 9
theorem nmX3 : ∀ a, a < 9 → ∀ b, b < 9 → a ≠ b → (TX3 a).2.1 ≠ (TX3 b).2.1 := by decide +kernel
theorem tyX3_ok : ∀ k, k < 9 → parseFieldDescriptor (TX3 k).2.2.1 = some (tyX3 k) := by decide +kernel
abbrev cX3_init : ByteArray := prog_5_method_1_code
def yX3_init : MethodName := ⟨RX3, "<init>", "()V"⟩
abbrev cX3_append : ByteArray := prog_5_method_2_code
def yX3_append : MethodName := ⟨RX3, "append", "(C)V"⟩
abbrev cX3_tryOn : ByteArray := prog_5_method_3_code
def yX3_tryOn : MethodName := ⟨RX3, "tryOn", "(LBlessedPins$Board;)V"⟩
abbrev cX3_skipSpaces : ByteArray := prog_5_method_4_code
def yX3_skipSpaces : MethodName := ⟨RX3, "skipSpaces", "(II)I"⟩
abbrev cX3_endOfCommand : ByteArray := prog_5_method_5_code
def yX3_endOfCommand : MethodName := ⟨RX3, "endOfCommand", "(I)I"⟩
abbrev cX3_endOfToken : ByteArray := prog_5_method_6_code
def yX3_endOfToken : MethodName := ⟨RX3, "endOfToken", "(II)I"⟩
abbrev cX3_perform : ByteArray := prog_5_method_7_code
def yX3_perform : MethodName := ⟨RX3, "perform", "(II)I"⟩
abbrev cX3_parse : ByteArray := prog_5_method_8_code
def yX3_parse : MethodName := ⟨RX3, "parse", "(II)Z"⟩
abbrev cX3_wordBetween : ByteArray := prog_5_method_9_code
def yX3_wordBetween : MethodName := ⟨RX3, "wordBetween", "(II)I"⟩
abbrev cX3_spelling : ByteArray := prog_5_method_10_code
def yX3_spelling : MethodName := ⟨RX3, "spelling", "(I)Ljava/lang/String;"⟩
abbrev cX3_isWritten : ByteArray := prog_5_method_11_code
def yX3_isWritten : MethodName := ⟨RX3, "isWritten", "(Ljava/lang/String;II)Z"⟩
abbrev cX3_numberBetween : ByteArray := prog_5_method_12_code
def yX3_numberBetween : MethodName := ⟨RX3, "numberBetween", "(II)I"⟩
abbrev cX3_areUnlike : ByteArray := prog_5_method_13_code
def yX3_areUnlike : MethodName := ⟨RX3, "areUnlike", "()Z"⟩
abbrev cX3_rangeOfNumber : ByteArray := prog_5_method_14_code
def yX3_rangeOfNumber : MethodName := ⟨RX3, "rangeOfNumber", "(I)I"⟩
abbrev cX3_doCommand : ByteArray := prog_5_method_15_code
def yX3_doCommand : MethodName := ⟨RX3, "doCommand", "()I"⟩
abbrev cX3_doNet : ByteArray := prog_5_method_16_code
def yX3_doNet : MethodName := ⟨RX3, "doNet", "()I"⟩
abbrev cX3_doChip : ByteArray := prog_5_method_17_code
def yX3_doChip : MethodName := ⟨RX3, "doChip", "()I"⟩
abbrev cX3_doFault : ByteArray := prog_5_method_18_code
def yX3_doFault : MethodName := ⟨RX3, "doFault", "(III)I"⟩
abbrev cX3_setFrom : ByteArray := prog_5_method_19_code
def yX3_setFrom : MethodName := ⟨RX3, "setFrom", "(I)I"⟩
def RX4 : String := "BlessedPins$State"
def TX4 : u_T := fun k => match k with
  | 0 => ("BlessedPins$State", "board", "LBlessedPins$Board;", true)
  | 1 => ("BlessedPins$State", "drawers", "[I", true)
  | 2 => ("BlessedPins$State", "day", "I", false)
  | 3 => ("BlessedPins$State", "planted", "I", false)
  | 4 => ("BlessedPins$State", "suspected", "I", false)
  | 5 => ("BlessedPins$State", "vouchersLeft", "I", false)
  | 6 => ("BlessedPins$State", "vouched", "I", false)
  | _ => ("BlessedPins$State", "tests", "I", false)
def tyX4 : Nat → FieldType := fun k => match k with
  | 0 => .object "BlessedPins$Board"
  | 1 => .array .int
  | 2 => .int
  | 3 => .int
  | 4 => .int
  | 5 => .int
  | 6 => .int
  | _ => .int
abbrev wsX40 : List Cond := u_ws RX4 TX4 8
theorem nmX4 : ∀ a, a < 8 → ∀ b, b < 8 → a ≠ b → (TX4 a).2.1 ≠ (TX4 b).2.1 := by decide +kernel
theorem tyX4_ok : ∀ k, k < 8 → parseFieldDescriptor (TX4 k).2.2.1 = some (tyX4 k) := by decide +kernel
abbrev cX4_init : ByteArray := prog_6_method_1_code
def yX4_init : MethodName := ⟨RX4, "<init>", "(LBlessedPins$Board;)V"⟩
abbrev cX4_copyFrom : ByteArray := prog_6_method_2_code
def yX4_copyFrom : MethodName := ⟨RX4, "copyFrom", "(LBlessedPins$State;)V"⟩
abbrev cX4_weekday : ByteArray := prog_6_method_3_code
def yX4_weekday : MethodName := ⟨RX4, "weekday", "()I"⟩
abbrev cX4_touchedNow : ByteArray := prog_6_method_4_code
def yX4_touchedNow : MethodName := ⟨RX4, "touchedNow", "()I"⟩
abbrev cX4_filedIn : ByteArray := prog_6_method_5_code
def yX4_filedIn : MethodName := ⟨RX4, "filedIn", "(I)I"⟩
def RX5 : String := "BlessedPins$SuspectBoard"
def TX5 : u_T := fun k => match k with
  | 0 => ("BlessedPins$SuspectBoard", "board", "LBlessedPins$Board;", true)
  | 1 => ("BlessedPins$SuspectBoard", "suspect", "I", true)
  | 2 => ("BlessedPins$SuspectBoard", "linking", "[I", true)
  | 3 => ("BlessedPins$SuspectBoard", "following", "[I", true)
  | 4 => ("BlessedPins$SuspectBoard", "steady", "I", false)
  | 5 => ("BlessedPins$SuspectBoard", "deadChips", "I", false)
  | _ => ("BlessedPins$SuspectBoard", "inReach", "I", false)
def tyX5 : Nat → FieldType := fun k => match k with
  | 0 => .object "BlessedPins$Board"
  | 1 => .int
  | 2 => .array .int
  | 3 => .array .int
  | 4 => .int
  | 5 => .int
  | _ => .int
abbrev wsX50 : List Cond := u_ws RX5 TX5 7
theorem nmX5 : ∀ a, a < 7 → ∀ b, b < 7 → a ≠ b → (TX5 a).2.1 ≠ (TX5 b).2.1 := by decide +kernel
theorem tyX5_ok : ∀ k, k < 7 → parseFieldDescriptor (TX5 k).2.2.1 = some (tyX5 k) := by decide +kernel
abbrev cX5_init : ByteArray := prog_7_method_1_code
def yX5_init : MethodName := ⟨RX5, "<init>", "(LBlessedPins$Board;I)V"⟩
abbrev cX5_setUp : ByteArray := prog_7_method_2_code
def yX5_setUp : MethodName := ⟨RX5, "setUp", "()V"⟩
abbrev cX5_linkingNet : ByteArray := prog_7_method_3_code
def yX5_linkingNet : MethodName := ⟨RX5, "linkingNet", "(I)I"⟩
abbrev cX5_followers : ByteArray := prog_7_method_4_code
def yX5_followers : MethodName := ⟨RX5, "followers", "(I)I"⟩
abbrev cX5_scannedChips : ByteArray := prog_7_method_5_code
def yX5_scannedChips : MethodName := ⟨RX5, "scannedChips", "(I)I"⟩
abbrev cX5_spread : ByteArray := prog_7_method_6_code
def yX5_spread : MethodName := ⟨RX5, "spread", "(I[I[I)I"⟩
abbrev cX5_probe : ByteArray := prog_7_method_7_code
def yX5_probe : MethodName := ⟨RX5, "probe", "(I)V"⟩
abbrev cX5_pinsAtOne : ByteArray := prog_7_method_8_code
def yX5_pinsAtOne : MethodName := ⟨RX5, "pinsAtOne", "(II)I"⟩
abbrev cX5_sameOutcome : ByteArray := prog_7_method_9_code
def yX5_sameOutcome : MethodName := ⟨RX5, "sameOutcome", "(LBlessedPins$SuspectBoard;)Z"⟩
def RX6 : String := "BlessedPins"
def TX6 : u_T := fun k => match k with
  | 0 => ("BlessedPins", "state", "LBlessedPins$State;", true)
  | 1 => ("BlessedPins", "meter", "LBlessedPins$Meter;", true)
  | 2 => ("BlessedPins", "history", "LBlessedPins$History;", true)
  | _ => ("BlessedPins", "program", "LBlessedPins$Program;", true)
def tyX6 : Nat → FieldType := fun k => match k with
  | 0 => .object "BlessedPins$State"
  | 1 => .object "BlessedPins$Meter"
  | 2 => .object "BlessedPins$History"
  | _ => .object "BlessedPins$Program"
abbrev wsX60 : List Cond := u_ws RX6 TX6 4
theorem nmX6 : ∀ a, a < 4 → ∀ b, b < 4 → a ≠ b → (TX6 a).2.1 ≠ (TX6 b).2.1 := by decide +kernel
theorem tyX6_ok : ∀ k, k < 4 → parseFieldDescriptor (TX6 k).2.2.1 = some (tyX6 k) := by decide +kernel
abbrev cX6_init : ByteArray := prog_1_method_1_code
def yX6_init : MethodName := ⟨RX6, "<init>", "()V"⟩
abbrev cX6_net : ByteArray := prog_1_method_2_code
def yX6_net : MethodName := ⟨RX6, "net", "(I)I"⟩
abbrev cX6_chip : ByteArray := prog_1_method_3_code
def yX6_chip : MethodName := ⟨RX6, "chip", "(III)I"⟩
abbrev cX6_fault : ByteArray := prog_1_method_4_code
def yX6_fault : MethodName := ⟨RX6, "fault", "(III)I"⟩
abbrev cX6_bless : ByteArray := prog_1_method_5_code
def yX6_bless : MethodName := ⟨RX6, "bless", "(II)I"⟩
abbrev cX6_pinOf : ByteArray := prog_1_method_6_code
def yX6_pinOf : MethodName := ⟨RX6, "pinOf", "(II)I"⟩
abbrev cX6_faultOf : ByteArray := prog_1_method_7_code
def yX6_faultOf : MethodName := ⟨RX6, "faultOf", "(II)I"⟩
abbrev cX6_reached : ByteArray := prog_1_method_8_code
def yX6_reached : MethodName := ⟨RX6, "reached", "(II)I"⟩
abbrev cX6_scanned : ByteArray := prog_1_method_9_code
def yX6_scanned : MethodName := ⟨RX6, "scanned", "(II)I"⟩
abbrev cX6_reads : ByteArray := prog_1_method_10_code
def yX6_reads : MethodName := ⟨RX6, "reads", "(IIII)I"⟩
abbrev cX6_daysOf : ByteArray := prog_1_method_11_code
def yX6_daysOf : MethodName := ⟨RX6, "daysOf", "(I)I"⟩
abbrev cX6_alike : ByteArray := prog_1_method_12_code
def yX6_alike : MethodName := ⟨RX6, "alike", "(II)I"⟩
abbrev cX6_twin : ByteArray := prog_1_method_13_code
def yX6_twin : MethodName := ⟨RX6, "twin", "(I)I"⟩
abbrev cX6_outcomes : ByteArray := prog_1_method_14_code
def yX6_outcomes : MethodName := ⟨RX6, "outcomes", "(I)I"⟩
abbrev cX6_likes : ByteArray := prog_1_method_15_code
def yX6_likes : MethodName := ⟨RX6, "likes", "(II)I"⟩
abbrev cX6_fewestDays : ByteArray := prog_1_method_16_code
def yX6_fewestDays : MethodName := ⟨RX6, "fewestDays", "(II)I"⟩
abbrev cX6_wanted : ByteArray := prog_1_method_17_code
def yX6_wanted : MethodName := ⟨RX6, "wanted", "(III)I"⟩
abbrev cX6_share : ByteArray := prog_1_method_18_code
def yX6_share : MethodName := ⟨RX6, "share", "(I)I"⟩
abbrev cX6_plant : ByteArray := prog_1_method_19_code
def yX6_plant : MethodName := ⟨RX6, "plant", "(I)I"⟩
abbrev cX6_test : ByteArray := prog_1_method_20_code
def yX6_test : MethodName := ⟨RX6, "test", "()I"⟩
abbrev cX6_vouch : ByteArray := prog_1_method_21_code
def yX6_vouch : MethodName := ⟨RX6, "vouch", "(I)I"⟩
abbrev cX6_vouchers : ByteArray := prog_1_method_22_code
def yX6_vouchers : MethodName := ⟨RX6, "vouchers", "(I)I"⟩
abbrev cX6_pass : ByteArray := prog_1_method_23_code
def yX6_pass : MethodName := ⟨RX6, "pass", "(I)I"⟩
abbrev cX6_suspects : ByteArray := prog_1_method_24_code
def yX6_suspects : MethodName := ⟨RX6, "suspects", "()I"⟩
abbrev cX6_bestDay : ByteArray := prog_1_method_25_code
def yX6_bestDay : MethodName := ⟨RX6, "bestDay", "(I)I"⟩
abbrev cX6_file : ByteArray := prog_1_method_26_code
def yX6_file : MethodName := ⟨RX6, "file", "(II)I"⟩
abbrev cX6_count : ByteArray := prog_1_method_27_code
def yX6_count : MethodName := ⟨RX6, "count", "(I)I"⟩
abbrev cX6_undo : ByteArray := prog_1_method_28_code
def yX6_undo : MethodName := ⟨RX6, "undo", "()I"⟩
abbrev cX6_type : ByteArray := prog_1_method_29_code
def yX6_type : MethodName := ⟨RX6, "type", "(I)I"⟩
abbrev cX6_clearText : ByteArray := prog_1_method_30_code
def yX6_clearText : MethodName := ⟨RX6, "clearText", "()I"⟩
abbrev cX6_place : ByteArray := prog_1_method_31_code
def yX6_place : MethodName := ⟨RX6, "place", "(I)I"⟩
abbrev cX6_run : ByteArray := prog_1_method_32_code
def yX6_run : MethodName := ⟨RX6, "run", "()I"⟩
abbrev cX6_reachedNow : ByteArray := prog_1_method_33_code
def yX6_reachedNow : MethodName := ⟨RX6, "reachedNow", "()I"⟩
abbrev cX6_isFaultOrNone : ByteArray := prog_1_method_34_code
def yX6_isFaultOrNone : MethodName := ⟨RX6, "isFaultOrNone", "(I)Z"⟩
abbrev cX6_suspectFor : ByteArray := prog_1_method_35_code
def yX6_suspectFor : MethodName := ⟨RX6, "suspectFor", "(I)I"⟩
abbrev cX6_foundOrNot : ByteArray := prog_1_method_36_code
def yX6_foundOrNot : MethodName := ⟨RX6, "foundOrNot", "(I)I"⟩
abbrev cX6_sizeOrSet : ByteArray := prog_1_method_37_code
def yX6_sizeOrSet : MethodName := ⟨RX6, "sizeOrSet", "(II)I"⟩
abbrev cX6_isPin : ByteArray := prog_1_method_38_code
def yX6_isPin : MethodName := ⟨RX6, "isPin", "(I)Z"⟩
abbrev cX6_isDay : ByteArray := prog_1_method_39_code
def yX6_isDay : MethodName := ⟨RX6, "isDay", "(I)Z"⟩
abbrev cX6_isZeroOrOne : ByteArray := prog_1_method_40_code
def yX6_isZeroOrOne : MethodName := ⟨RX6, "isZeroOrOne", "(I)Z"⟩
abbrev cX6_hasBit : ByteArray := prog_1_method_41_code
def yX6_hasBit : MethodName := ⟨RX6, "hasBit", "(II)Z"⟩
abbrev cX6_bitsOf : ByteArray := prog_1_method_42_code
def yX6_bitsOf : MethodName := ⟨RX6, "bitsOf", "(F)I"⟩
def RX7 : String := "BlessedPinsModel"
def TX7 : u_T := fun k => match k with
  | 0 => ("BlessedPinsModel", "now", "[I", true)
  | 1 => ("BlessedPinsModel", "past", "[I", true)
  | 2 => ("BlessedPinsModel", "kept", "[I", true)
  | 3 => ("BlessedPinsModel", "states", "I", false)
  | 4 => ("BlessedPinsModel", "outcome", "[I", true)
  | 5 => ("BlessedPinsModel", "likeOn", "[I", true)
  | 6 => ("BlessedPinsModel", "text", "[I", true)
  | 7 => ("BlessedPinsModel", "length", "I", false)
  | 8 => ("BlessedPinsModel", "at", "I", false)
  | 9 => ("BlessedPinsModel", "word", "I", false)
  | 10 => ("BlessedPinsModel", "many", "I", false)
  | 11 => ("BlessedPinsModel", "numbers", "[I", true)
  | 12 => ("BlessedPinsModel", "commands", "I", false)
  | 13 => ("BlessedPinsModel", "faultPlace", "I", false)
  | _ => ("BlessedPinsModel", "faultReason", "I", false)
def tyX7 : Nat → FieldType := fun k => match k with
  | 0 => .array .int
  | 1 => .array .int
  | 2 => .array .int
  | 3 => .int
  | 4 => .array .int
  | 5 => .array .int
  | 6 => .array .int
  | 7 => .int
  | 8 => .int
  | 9 => .int
  | 10 => .int
  | 11 => .array .int
  | 12 => .int
  | 13 => .int
  | _ => .int
abbrev wsX70 : List Cond := u_ws RX7 TX7 15
theorem nmX7 : ∀ a, a < 15 → ∀ b, b < 15 → a ≠ b → (TX7 a).2.1 ≠ (TX7 b).2.1 := by decide +kernel
theorem tyX7_ok : ∀ k, k < 15 → parseFieldDescriptor (TX7 k).2.2.1 = some (tyX7 k) := by decide +kernel
abbrev cX7_init : ByteArray := prog_9_method_1_code
def yX7_init : MethodName := ⟨RX7, "<init>", "()V"⟩
abbrev cX7_isIn : ByteArray := prog_9_method_2_code
def yX7_isIn : MethodName := ⟨RX7, "isIn", "(III)Z"⟩
abbrev cX7_has : ByteArray := prog_9_method_3_code
def yX7_has : MethodName := ⟨RX7, "has", "(II)Z"⟩
abbrev cX7_ones : ByteArray := prog_9_method_4_code
def yX7_ones : MethodName := ⟨RX7, "ones", "(I)I"⟩
abbrev cX7_records : ByteArray := prog_9_method_5_code
def yX7_records : MethodName := ⟨RX7, "records", "()V"⟩
abbrev cX7_undo : ByteArray := prog_9_method_6_code
def yX7_undo : MethodName := ⟨RX7, "undo", "()I"⟩
abbrev cX7_netOf : ByteArray := prog_9_method_7_code
def yX7_netOf : MethodName := ⟨RX7, "netOf", "(I)I"⟩
abbrev cX7_roleOf : ByteArray := prog_9_method_8_code
def yX7_roleOf : MethodName := ⟨RX7, "roleOf", "(II)I"⟩
abbrev cX7_chipOf : ByteArray := prog_9_method_9_code
def yX7_chipOf : MethodName := ⟨RX7, "chipOf", "(I)I"⟩
abbrev cX7_checksNet : ByteArray := prog_9_method_10_code
def yX7_checksNet : MethodName := ⟨RX7, "checksNet", "(I)I"⟩
abbrev cX7_addsNet : ByteArray := prog_9_method_11_code
def yX7_addsNet : MethodName := ⟨RX7, "addsNet", "(I)I"⟩
abbrev cX7_net : ByteArray := prog_9_method_12_code
def yX7_net : MethodName := ⟨RX7, "net", "(I)I"⟩
abbrev cX7_checksChip : ByteArray := prog_9_method_13_code
def yX7_checksChip : MethodName := ⟨RX7, "checksChip", "(III)I"⟩
abbrev cX7_addsChip : ByteArray := prog_9_method_14_code
def yX7_addsChip : MethodName := ⟨RX7, "addsChip", "(III)I"⟩
abbrev cX7_chip : ByteArray := prog_9_method_15_code
def yX7_chip : MethodName := ⟨RX7, "chip", "(III)I"⟩
abbrev cX7_manyOf : ByteArray := prog_9_method_16_code
def yX7_manyOf : MethodName := ⟨RX7, "manyOf", "(I)I"⟩
abbrev cX7_checksFault : ByteArray := prog_9_method_17_code
def yX7_checksFault : MethodName := ⟨RX7, "checksFault", "(III)I"⟩
abbrev cX7_addsFault : ByteArray := prog_9_method_18_code
def yX7_addsFault : MethodName := ⟨RX7, "addsFault", "(III)I"⟩
abbrev cX7_fault : ByteArray := prog_9_method_19_code
def yX7_fault : MethodName := ⟨RX7, "fault", "(III)I"⟩
abbrev cX7_bless : ByteArray := prog_9_method_20_code
def yX7_bless : MethodName := ⟨RX7, "bless", "(II)I"⟩
abbrev cX7_weekday : ByteArray := prog_9_method_21_code
def yX7_weekday : MethodName := ⟨RX7, "weekday", "()I"⟩
abbrev cX7_touchedOn : ByteArray := prog_9_method_22_code
def yX7_touchedOn : MethodName := ⟨RX7, "touchedOn", "(I)I"⟩
abbrev cX7_touchedNow : ByteArray := prog_9_method_23_code
def yX7_touchedNow : MethodName := ⟨RX7, "touchedNow", "()I"⟩
abbrev cX7_orMissing : ByteArray := prog_9_method_24_code
def yX7_orMissing : MethodName := ⟨RX7, "orMissing", "(I)I"⟩
abbrev cX7_pinOf : ByteArray := prog_9_method_25_code
def yX7_pinOf : MethodName := ⟨RX7, "pinOf", "(II)I"⟩
abbrev cX7_isFault : ByteArray := prog_9_method_26_code
def yX7_isFault : MethodName := ⟨RX7, "isFault", "(I)Z"⟩
abbrev cX7_isFaultOrNone : ByteArray := prog_9_method_27_code
def yX7_isFaultOrNone : MethodName := ⟨RX7, "isFaultOrNone", "(I)Z"⟩
abbrev cX7_faultOf : ByteArray := prog_9_method_28_code
def yX7_faultOf : MethodName := ⟨RX7, "faultOf", "(II)I"⟩
abbrev cX7_hasFault : ByteArray := prog_9_method_29_code
def yX7_hasFault : MethodName := ⟨RX7, "hasFault", "(III)Z"⟩
abbrev cX7_areLinked : ByteArray := prog_9_method_30_code
def yX7_areLinked : MethodName := ⟨RX7, "areLinked", "(III)Z"⟩
abbrev cX7_comesTo : ByteArray := prog_9_method_31_code
def yX7_comesTo : MethodName := ⟨RX7, "comesTo", "(IIIIZ)Z"⟩
abbrev cX7_along : ByteArray := prog_9_method_32_code
def yX7_along : MethodName := ⟨RX7, "along", "(IIZ)I"⟩
abbrev cX7_scannedBy : ByteArray := prog_9_method_33_code
def yX7_scannedBy : MethodName := ⟨RX7, "scannedBy", "(II)I"⟩
abbrev cX7_reachedBy : ByteArray := prog_9_method_34_code
def yX7_reachedBy : MethodName := ⟨RX7, "reachedBy", "(II)I"⟩
abbrev cX7_areJoined : ByteArray := prog_9_method_35_code
def yX7_areJoined : MethodName := ⟨RX7, "areJoined", "(III)Z"⟩
abbrev cX7_readsOne : ByteArray := prog_9_method_36_code
def yX7_readsOne : MethodName := ⟨RX7, "readsOne", "(IIII)I"⟩
abbrev cX7_readsBy : ByteArray := prog_9_method_37_code
def yX7_readsBy : MethodName := ⟨RX7, "readsBy", "(IIII)I"⟩
abbrev cX7_measuresOne : ByteArray := prog_9_method_38_code
def yX7_measuresOne : MethodName := ⟨RX7, "measuresOne", "(III)V"⟩
abbrev cX7_isBoard : ByteArray := prog_9_method_39_code
def yX7_isBoard : MethodName := ⟨RX7, "isBoard", "(I)Z"⟩
abbrev cX7_slotOf : ByteArray := prog_9_method_40_code
def yX7_slotOf : MethodName := ⟨RX7, "slotOf", "(I)I"⟩
abbrev cX7_measures : ByteArray := prog_9_method_41_code
def yX7_measures : MethodName := ⟨RX7, "measures", "(I)V"⟩
abbrev cX7_isLike : ByteArray := prog_9_method_42_code
def yX7_isLike : MethodName := ⟨RX7, "isLike", "(II)Z"⟩
abbrev cX7_likeSet : ByteArray := prog_9_method_43_code
def yX7_likeSet : MethodName := ⟨RX7, "likeSet", "(I)I"⟩
abbrev cX7_isDay : ByteArray := prog_9_method_44_code
def yX7_isDay : MethodName := ⟨RX7, "isDay", "(I)Z"⟩
abbrev cX7_reached : ByteArray := prog_9_method_45_code
def yX7_reached : MethodName := ⟨RX7, "reached", "(II)I"⟩
abbrev cX7_scanned : ByteArray := prog_9_method_46_code
def yX7_scanned : MethodName := ⟨RX7, "scanned", "(II)I"⟩
abbrev cX7_reads : ByteArray := prog_9_method_47_code
def yX7_reads : MethodName := ⟨RX7, "reads", "(IIII)I"⟩
abbrev cX7_alikeDays : ByteArray := prog_9_method_48_code
def yX7_alikeDays : MethodName := ⟨RX7, "alikeDays", "(II)I"⟩
abbrev cX7_daysOf : ByteArray := prog_9_method_49_code
def yX7_daysOf : MethodName := ⟨RX7, "daysOf", "(I)I"⟩
abbrev cX7_alike : ByteArray := prog_9_method_50_code
def yX7_alike : MethodName := ⟨RX7, "alike", "(II)I"⟩
abbrev cX7_twin : ByteArray := prog_9_method_51_code
def yX7_twin : MethodName := ⟨RX7, "twin", "(I)I"⟩
abbrev cX7_outcomes : ByteArray := prog_9_method_52_code
def yX7_outcomes : MethodName := ⟨RX7, "outcomes", "(I)I"⟩
abbrev cX7_likes : ByteArray := prog_9_method_53_code
def yX7_likes : MethodName := ⟨RX7, "likes", "(II)I"⟩
abbrev cX7_findsLikes : ByteArray := prog_9_method_54_code
def yX7_findsLikes : MethodName := ⟨RX7, "findsLikes", "()V"⟩
abbrev cX7_areApart : ByteArray := prog_9_method_55_code
def yX7_areApart : MethodName := ⟨RX7, "areApart", "(III)Z"⟩
abbrev cX7_doesAll : ByteArray := prog_9_method_56_code
def yX7_doesAll : MethodName := ⟨RX7, "doesAll", "(II)Z"⟩
abbrev cX7_fewestDays : ByteArray := prog_9_method_57_code
def yX7_fewestDays : MethodName := ⟨RX7, "fewestDays", "(II)I"⟩
abbrev cX7_isTold : ByteArray := prog_9_method_58_code
def yX7_isTold : MethodName := ⟨RX7, "isTold", "(II)Z"⟩
abbrev cX7_wantedSet : ByteArray := prog_9_method_59_code
def yX7_wantedSet : MethodName := ⟨RX7, "wantedSet", "(II)I"⟩
abbrev cX7_wanted : ByteArray := prog_9_method_60_code
def yX7_wanted : MethodName := ⟨RX7, "wanted", "(III)I"⟩
abbrev cX7_floatBits : ByteArray := prog_9_method_61_code
def yX7_floatBits : MethodName := ⟨RX7, "floatBits", "(II)I"⟩
abbrev cX7_share : ByteArray := prog_9_method_62_code
def yX7_share : MethodName := ⟨RX7, "share", "(I)I"⟩
abbrev cX7_plant : ByteArray := prog_9_method_63_code
def yX7_plant : MethodName := ⟨RX7, "plant", "(I)I"⟩
abbrev cX7_test : ByteArray := prog_9_method_64_code
def yX7_test : MethodName := ⟨RX7, "test", "()I"⟩
abbrev cX7_vouch : ByteArray := prog_9_method_65_code
def yX7_vouch : MethodName := ⟨RX7, "vouch", "(I)I"⟩
abbrev cX7_vouchers : ByteArray := prog_9_method_66_code
def yX7_vouchers : MethodName := ⟨RX7, "vouchers", "(I)I"⟩
abbrev cX7_pass : ByteArray := prog_9_method_67_code
def yX7_pass : MethodName := ⟨RX7, "pass", "(I)I"⟩
abbrev cX7_suspects : ByteArray := prog_9_method_68_code
def yX7_suspects : MethodName := ⟨RX7, "suspects", "()I"⟩
abbrev cX7_worstOn : ByteArray := prog_9_method_69_code
def yX7_worstOn : MethodName := ⟨RX7, "worstOn", "(I)I"⟩
abbrev cX7_bestDay : ByteArray := prog_9_method_70_code
def yX7_bestDay : MethodName := ⟨RX7, "bestDay", "(I)I"⟩
abbrev cX7_inDrawer : ByteArray := prog_9_method_71_code
def yX7_inDrawer : MethodName := ⟨RX7, "inDrawer", "(I)I"⟩
abbrev cX7_file : ByteArray := prog_9_method_72_code
def yX7_file : MethodName := ⟨RX7, "file", "(II)I"⟩
abbrev cX7_count : ByteArray := prog_9_method_73_code
def yX7_count : MethodName := ⟨RX7, "count", "(I)I"⟩
abbrev cX7_type : ByteArray := prog_9_method_74_code
def yX7_type : MethodName := ⟨RX7, "type", "(I)I"⟩
abbrev cX7_clearText : ByteArray := prog_9_method_75_code
def yX7_clearText : MethodName := ⟨RX7, "clearText", "()I"⟩
abbrev cX7_isHere : ByteArray := prog_9_method_76_code
def yX7_isHere : MethodName := ⟨RX7, "isHere", "(II)Z"⟩
abbrev cX7_passesSpaces : ByteArray := prog_9_method_77_code
def yX7_passesSpaces : MethodName := ⟨RX7, "passesSpaces", "()V"⟩
abbrev cX7_isEnded : ByteArray := prog_9_method_78_code
def yX7_isEnded : MethodName := ⟨RX7, "isEnded", "()Z"⟩
abbrev cX7_readsWord : ByteArray := prog_9_method_79_code
def yX7_readsWord : MethodName := ⟨RX7, "readsWord", "()I"⟩
abbrev cX7_readsNumber : ByteArray := prog_9_method_80_code
def yX7_readsNumber : MethodName := ⟨RX7, "readsNumber", "()I"⟩
abbrev cX7_readsCommand : ByteArray := prog_9_method_81_code
def yX7_readsCommand : MethodName := ⟨RX7, "readsCommand", "()Z"⟩
abbrev cX7_codeOf : ByteArray := prog_9_method_82_code
def yX7_codeOf : MethodName := ⟨RX7, "codeOf", "(IIIII)I"⟩
abbrev cX7_commandKind : ByteArray := prog_9_method_83_code
def yX7_commandKind : MethodName := ⟨RX7, "commandKind", "()I"⟩
abbrev cX7_areUnlike : ByteArray := prog_9_method_84_code
def yX7_areUnlike : MethodName := ⟨RX7, "areUnlike", "(I)Z"⟩
abbrev cX7_isOfForm : ByteArray := prog_9_method_85_code
def yX7_isOfForm : MethodName := ⟨RX7, "isOfForm", "(I)Z"⟩
abbrev cX7_areThere : ByteArray := prog_9_method_86_code
def yX7_areThere : MethodName := ⟨RX7, "areThere", "(I)Z"⟩
abbrev cX7_numberSet : ByteArray := prog_9_method_87_code
def yX7_numberSet : MethodName := ⟨RX7, "numberSet", "(I)I"⟩
abbrev cX7_does : ByteArray := prog_9_method_88_code
def yX7_does : MethodName := ⟨RX7, "does", "(I)I"⟩
abbrev cX7_reasonOf : ByteArray := prog_9_method_89_code
def yX7_reasonOf : MethodName := ⟨RX7, "reasonOf", "()I"⟩
abbrev cX7_goesThrough : ByteArray := prog_9_method_90_code
def yX7_goesThrough : MethodName := ⟨RX7, "goesThrough", "()V"⟩
abbrev cX7_triesAll : ByteArray := prog_9_method_91_code
def yX7_triesAll : MethodName := ⟨RX7, "triesAll", "()V"⟩
abbrev cX7_place : ByteArray := prog_9_method_92_code
def yX7_place : MethodName := ⟨RX7, "place", "(I)I"⟩
abbrev cX7_run : ByteArray := prog_9_method_93_code
def yX7_run : MethodName := ⟨RX7, "run", "()I"⟩
def RJx145de : String := "java/io/Serializable"
def RJx9f9b0 : String := "java/lang/CharSequence"
def RJxb160c : String := "java/lang/Comparable"
def RJ6 : String := "java/lang/Integer"
abbrev cJ6_bitCount_0f7a4 : ByteArray := prog_10_method_49_code
def yJ6_bitCount_0f7a4 : MethodName := ⟨RJ6, "bitCount", "(I)I"⟩
def RJ9 : String := "java/lang/Math"
abbrev cJ9_max_7cf53 : ByteArray := prog_11_method_65_code
def yJ9_max_7cf53 : MethodName := ⟨RJ9, "max", "(II)I"⟩
abbrev cJ9_min_7cf53 : ByteArray := prog_11_method_69_code
def yJ9_min_7cf53 : MethodName := ⟨RJ9, "min", "(II)I"⟩
def RJ0 : String := "java/lang/String"
abbrev cJ0_length_8abf5 : ByteArray := prog_12_method_54_code
def yJ0_length_8abf5 : MethodName := ⟨RJ0, "length", "()I"⟩
abbrev cJ0_charAt_5068e : ByteArray := prog_12_method_56_code
def yJ0_charAt_5068e : MethodName := ⟨RJ0, "charAt", "(I)C"⟩
abbrev cJ0_coder_7d493 : ByteArray := prog_12_method_152_code
def yJ0_coder_7d493 : MethodName := ⟨RJ0, "coder", "()B"⟩
abbrev cJ0_isLatin1_aae02 : ByteArray := prog_12_method_154_code
def yJ0_isLatin1_aae02 : MethodName := ⟨RJ0, "isLatin1", "()Z"⟩
abbrev cJ0_checkIndex_df160 : ByteArray := prog_12_method_155_code
def yJ0_checkIndex_df160 : MethodName := ⟨RJ0, "checkIndex", "(II)V"⟩
def RJ1 : String := "java/lang/StringLatin1"
abbrev cJ1_charAt_3b067 : ByteArray := prog_13_method_2_code
def yJ1_charAt_3b067 : MethodName := ⟨RJ1, "charAt", "([BI)C"⟩
def RJ2 : String := "java/lang/StringUTF16"
abbrev cJ2_getChar_3b067 : ByteArray := prog_14_method_5_code
def yJ2_getChar_3b067 : MethodName := ⟨RJ2, "getChar", "([BI)C"⟩
abbrev cJ2_length_9d52b : ByteArray := prog_14_method_6_code
def yJ2_length_9d52b : MethodName := ⟨RJ2, "length", "([B)I"⟩
abbrev cJ2_charAt_3b067 : ByteArray := prog_14_method_83_code
def yJ2_charAt_3b067 : MethodName := ⟨RJ2, "charAt", "([BI)C"⟩
abbrev cJ2_checkIndex_2214a : ByteArray := prog_14_method_91_code
def yJ2_checkIndex_2214a : MethodName := ⟨RJ2, "checkIndex", "(I[B)V"⟩
def RJ10 : String := "java/lang/System"
def RJxfd54e : String := "java/lang/constant/Constable"
def RJx3cf43 : String := "java/lang/constant/ConstantDesc"
def RJ7 : String := "java/util/Arrays"
abbrev cJ7_fill_53178 : ByteArray := prog_16_method_103_code
def yJ7_fill_53178 : MethodName := ⟨RJ7, "fill", "([II)V"⟩
def RJ3 : String := "jdk/internal/util/Preconditions"
abbrev cJ3_checkIndex_8e157 : ByteArray := prog_17_method_11_code
def yJ3_checkIndex_8e157 : MethodName := ⟨RJ3, "checkIndex", "(IILjava/util/function/BiFunction;)I"⟩
def RL : String := "BlessedPinsLaw"
abbrev cL_law : ByteArray := code
def yL_law : MethodName := ⟨RL, "law", "([I)Z"⟩
abbrev vwCl : List vw_C := [(RX0, TX0, 14), (RX1, TX1, 2), (RX2, TX2, 5), (RX3, TX3, 9), (RX4, TX4, 8), (RX5, TX5, 7), (RX6, TX6, 4), (RX7, TX7, 15)]
end
section
theorem dX0_init_0 : decode cX0_init 0 = .ok (.aload_n 0, 1) := by decide +kernel
theorem dX0_init_1 : decode cX0_init 1 = .ok (.invokespecial 3, 3) := by decide +kernel
theorem dX0_init_4 : decode cX0_init 4 = .ok (.aload_n 0, 1) := by decide +kernel
theorem dX0_init_5 : decode cX0_init 5 = .ok (.bipush 8, 2) := by decide +kernel
theorem dX0_init_7 : decode cX0_init 7 = .ok (.newarray .int, 2) := by decide +kernel
theorem dX0_init_9 : decode cX0_init 9 = .ok (.putfield 9, 3) := by decide +kernel
theorem dX0_init_12 : decode cX0_init 12 = .ok (.aload_n 0, 1) := by decide +kernel
theorem dX0_init_13 : decode cX0_init 13 = .ok (.bipush 16, 2) := by decide +kernel
theorem dX0_init_15 : decode cX0_init 15 = .ok (.newarray .int, 2) := by decide +kernel
theorem dX0_init_17 : decode cX0_init 17 = .ok (.putfield 15, 3) := by decide +kernel
theorem dX0_init_20 : decode cX0_init 20 = .ok (.aload_n 0, 1) := by decide +kernel
theorem dX0_init_21 : decode cX0_init 21 = .ok (.iconst 5, 1) := by decide +kernel
theorem dX0_init_22 : decode cX0_init 22 = .ok (.newarray .int, 2) := by decide +kernel
theorem dX0_init_24 : decode cX0_init 24 = .ok (.putfield 18, 3) := by decide +kernel
theorem dX0_init_27 : decode cX0_init 27 = .ok (.aload_n 0, 1) := by decide +kernel
theorem dX0_init_28 : decode cX0_init 28 = .ok (.iconst 5, 1) := by decide +kernel
theorem dX0_init_29 : decode cX0_init 29 = .ok (.newarray .int, 2) := by decide +kernel
theorem dX0_init_31 : decode cX0_init 31 = .ok (.putfield 21, 3) := by decide +kernel
theorem dX0_init_34 : decode cX0_init 34 = .ok (.aload_n 0, 1) := by decide +kernel
theorem dX0_init_35 : decode cX0_init 35 = .ok (.iconst 5, 1) := by decide +kernel
theorem dX0_init_36 : decode cX0_init 36 = .ok (.newarray .int, 2) := by decide +kernel
theorem dX0_init_38 : decode cX0_init 38 = .ok (.putfield 24, 3) := by decide +kernel
theorem dX0_init_41 : decode cX0_init 41 = .ok (.aload_n 0, 1) := by decide +kernel
theorem dX0_init_42 : decode cX0_init 42 = .ok (.bipush 10, 2) := by decide +kernel
theorem dX0_init_44 : decode cX0_init 44 = .ok (.newarray .int, 2) := by decide +kernel
theorem dX0_init_46 : decode cX0_init 46 = .ok (.putfield 27, 3) := by decide +kernel
theorem dX0_init_49 : decode cX0_init 49 = .ok (.aload_n 0, 1) := by decide +kernel
theorem dX0_init_50 : decode cX0_init 50 = .ok (.bipush 10, 2) := by decide +kernel
theorem dX0_init_52 : decode cX0_init 52 = .ok (.newarray .int, 2) := by decide +kernel
theorem dX0_init_54 : decode cX0_init 54 = .ok (.putfield 30, 3) := by decide +kernel
theorem dX0_init_57 : decode cX0_init 57 = .ok (.aload_n 0, 1) := by decide +kernel
theorem dX0_init_58 : decode cX0_init 58 = .ok (.bipush 10, 2) := by decide +kernel
theorem dX0_init_60 : decode cX0_init 60 = .ok (.newarray .int, 2) := by decide +kernel
theorem dX0_init_62 : decode cX0_init 62 = .ok (.putfield 33, 3) := by decide +kernel
theorem dX0_init_65 : decode cX0_init 65 = .ok (.aload_n 0, 1) := by decide +kernel
theorem dX0_init_66 : decode cX0_init 66 = .ok (.bipush 16, 2) := by decide +kernel
theorem dX0_init_68 : decode cX0_init 68 = .ok (.newarray .int, 2) := by decide +kernel
theorem dX0_init_70 : decode cX0_init 70 = .ok (.putfield 36, 3) := by decide +kernel
theorem dX0_init_73 : decode cX0_init 73 = .ok (.aload_n 0, 1) := by decide +kernel
theorem dX0_init_74 : decode cX0_init 74 = .ok (.getfield 15, 3) := by decide +kernel
theorem dX0_init_77 : decode cX0_init 77 = .ok (.iconst (-1), 1) := by decide +kernel
theorem dX0_init_78 : decode cX0_init 78 = .ok (.invokestatic 39, 3) := by decide +kernel
theorem dX0_init_81 : decode cX0_init 81 = .ok (.return_, 1) := by decide +kernel
theorem dX0_copyFrom_0 : decode cX0_copyFrom 0 = .ok (.aload_n 1, 1) := by decide +kernel
theorem dX0_copyFrom_1 : decode cX0_copyFrom 1 = .ok (.getfield 9, 3) := by decide +kernel
theorem dX0_copyFrom_4 : decode cX0_copyFrom 4 = .ok (.iconst 0, 1) := by decide +kernel
theorem dX0_copyFrom_5 : decode cX0_copyFrom 5 = .ok (.aload_n 0, 1) := by decide +kernel
theorem dX0_copyFrom_6 : decode cX0_copyFrom 6 = .ok (.getfield 9, 3) := by decide +kernel
theorem dX0_copyFrom_9 : decode cX0_copyFrom 9 = .ok (.iconst 0, 1) := by decide +kernel
theorem dX0_copyFrom_10 : decode cX0_copyFrom 10 = .ok (.bipush 8, 2) := by decide +kernel
theorem dX0_copyFrom_12 : decode cX0_copyFrom 12 = .ok (.invokestatic 45, 3) := by decide +kernel
theorem dX0_copyFrom_15 : decode cX0_copyFrom 15 = .ok (.aload_n 1, 1) := by decide +kernel
theorem dX0_copyFrom_16 : decode cX0_copyFrom 16 = .ok (.getfield 15, 3) := by decide +kernel
theorem dX0_copyFrom_19 : decode cX0_copyFrom 19 = .ok (.iconst 0, 1) := by decide +kernel
theorem dX0_copyFrom_20 : decode cX0_copyFrom 20 = .ok (.aload_n 0, 1) := by decide +kernel
theorem dX0_copyFrom_21 : decode cX0_copyFrom 21 = .ok (.getfield 15, 3) := by decide +kernel
theorem dX0_copyFrom_24 : decode cX0_copyFrom 24 = .ok (.iconst 0, 1) := by decide +kernel
theorem dX0_copyFrom_25 : decode cX0_copyFrom 25 = .ok (.bipush 16, 2) := by decide +kernel
theorem dX0_copyFrom_27 : decode cX0_copyFrom 27 = .ok (.invokestatic 45, 3) := by decide +kernel
theorem dX0_copyFrom_30 : decode cX0_copyFrom 30 = .ok (.aload_n 1, 1) := by decide +kernel
theorem dX0_copyFrom_31 : decode cX0_copyFrom 31 = .ok (.getfield 18, 3) := by decide +kernel
theorem dX0_copyFrom_34 : decode cX0_copyFrom 34 = .ok (.iconst 0, 1) := by decide +kernel
theorem dX0_copyFrom_35 : decode cX0_copyFrom 35 = .ok (.aload_n 0, 1) := by decide +kernel
theorem dX0_copyFrom_36 : decode cX0_copyFrom 36 = .ok (.getfield 18, 3) := by decide +kernel
theorem dX0_copyFrom_39 : decode cX0_copyFrom 39 = .ok (.iconst 0, 1) := by decide +kernel
theorem dX0_copyFrom_40 : decode cX0_copyFrom 40 = .ok (.iconst 5, 1) := by decide +kernel
theorem dX0_copyFrom_41 : decode cX0_copyFrom 41 = .ok (.invokestatic 45, 3) := by decide +kernel
theorem dX0_copyFrom_44 : decode cX0_copyFrom 44 = .ok (.aload_n 1, 1) := by decide +kernel
theorem dX0_copyFrom_45 : decode cX0_copyFrom 45 = .ok (.getfield 21, 3) := by decide +kernel
theorem dX0_copyFrom_48 : decode cX0_copyFrom 48 = .ok (.iconst 0, 1) := by decide +kernel
theorem dX0_copyFrom_49 : decode cX0_copyFrom 49 = .ok (.aload_n 0, 1) := by decide +kernel
theorem dX0_copyFrom_50 : decode cX0_copyFrom 50 = .ok (.getfield 21, 3) := by decide +kernel
theorem dX0_copyFrom_53 : decode cX0_copyFrom 53 = .ok (.iconst 0, 1) := by decide +kernel
theorem dX0_copyFrom_54 : decode cX0_copyFrom 54 = .ok (.iconst 5, 1) := by decide +kernel
theorem dX0_copyFrom_55 : decode cX0_copyFrom 55 = .ok (.invokestatic 45, 3) := by decide +kernel
theorem dX0_copyFrom_58 : decode cX0_copyFrom 58 = .ok (.aload_n 1, 1) := by decide +kernel
theorem dX0_copyFrom_59 : decode cX0_copyFrom 59 = .ok (.getfield 24, 3) := by decide +kernel
theorem dX0_copyFrom_62 : decode cX0_copyFrom 62 = .ok (.iconst 0, 1) := by decide +kernel
theorem dX0_copyFrom_63 : decode cX0_copyFrom 63 = .ok (.aload_n 0, 1) := by decide +kernel
theorem dX0_copyFrom_64 : decode cX0_copyFrom 64 = .ok (.getfield 24, 3) := by decide +kernel
theorem dX0_copyFrom_67 : decode cX0_copyFrom 67 = .ok (.iconst 0, 1) := by decide +kernel
theorem dX0_copyFrom_68 : decode cX0_copyFrom 68 = .ok (.iconst 5, 1) := by decide +kernel
theorem dX0_copyFrom_69 : decode cX0_copyFrom 69 = .ok (.invokestatic 45, 3) := by decide +kernel
theorem dX0_copyFrom_72 : decode cX0_copyFrom 72 = .ok (.aload_n 1, 1) := by decide +kernel
theorem dX0_copyFrom_73 : decode cX0_copyFrom 73 = .ok (.getfield 27, 3) := by decide +kernel
theorem dX0_copyFrom_76 : decode cX0_copyFrom 76 = .ok (.iconst 0, 1) := by decide +kernel
theorem dX0_copyFrom_77 : decode cX0_copyFrom 77 = .ok (.aload_n 0, 1) := by decide +kernel
theorem dX0_copyFrom_78 : decode cX0_copyFrom 78 = .ok (.getfield 27, 3) := by decide +kernel
theorem dX0_copyFrom_81 : decode cX0_copyFrom 81 = .ok (.iconst 0, 1) := by decide +kernel
theorem dX0_copyFrom_82 : decode cX0_copyFrom 82 = .ok (.bipush 10, 2) := by decide +kernel
theorem dX0_copyFrom_84 : decode cX0_copyFrom 84 = .ok (.invokestatic 45, 3) := by decide +kernel
theorem dX0_copyFrom_87 : decode cX0_copyFrom 87 = .ok (.aload_n 1, 1) := by decide +kernel
theorem dX0_copyFrom_88 : decode cX0_copyFrom 88 = .ok (.getfield 30, 3) := by decide +kernel
theorem dX0_copyFrom_91 : decode cX0_copyFrom 91 = .ok (.iconst 0, 1) := by decide +kernel
theorem dX0_copyFrom_92 : decode cX0_copyFrom 92 = .ok (.aload_n 0, 1) := by decide +kernel
theorem dX0_copyFrom_93 : decode cX0_copyFrom 93 = .ok (.getfield 30, 3) := by decide +kernel
theorem dX0_copyFrom_96 : decode cX0_copyFrom 96 = .ok (.iconst 0, 1) := by decide +kernel
theorem dX0_copyFrom_97 : decode cX0_copyFrom 97 = .ok (.bipush 10, 2) := by decide +kernel
theorem dX0_copyFrom_99 : decode cX0_copyFrom 99 = .ok (.invokestatic 45, 3) := by decide +kernel
theorem dX0_copyFrom_102 : decode cX0_copyFrom 102 = .ok (.aload_n 1, 1) := by decide +kernel
theorem dX0_copyFrom_103 : decode cX0_copyFrom 103 = .ok (.getfield 33, 3) := by decide +kernel
theorem dX0_copyFrom_106 : decode cX0_copyFrom 106 = .ok (.iconst 0, 1) := by decide +kernel
theorem dX0_copyFrom_107 : decode cX0_copyFrom 107 = .ok (.aload_n 0, 1) := by decide +kernel
theorem dX0_copyFrom_108 : decode cX0_copyFrom 108 = .ok (.getfield 33, 3) := by decide +kernel
theorem dX0_copyFrom_111 : decode cX0_copyFrom 111 = .ok (.iconst 0, 1) := by decide +kernel
theorem dX0_copyFrom_112 : decode cX0_copyFrom 112 = .ok (.bipush 10, 2) := by decide +kernel
theorem dX0_copyFrom_114 : decode cX0_copyFrom 114 = .ok (.invokestatic 45, 3) := by decide +kernel
theorem dX0_copyFrom_117 : decode cX0_copyFrom 117 = .ok (.aload_n 1, 1) := by decide +kernel
theorem dX0_copyFrom_118 : decode cX0_copyFrom 118 = .ok (.getfield 36, 3) := by decide +kernel
theorem dX0_copyFrom_121 : decode cX0_copyFrom 121 = .ok (.iconst 0, 1) := by decide +kernel
theorem dX0_copyFrom_122 : decode cX0_copyFrom 122 = .ok (.aload_n 0, 1) := by decide +kernel
theorem dX0_copyFrom_123 : decode cX0_copyFrom 123 = .ok (.getfield 36, 3) := by decide +kernel
theorem dX0_copyFrom_126 : decode cX0_copyFrom 126 = .ok (.iconst 0, 1) := by decide +kernel
theorem dX0_copyFrom_127 : decode cX0_copyFrom 127 = .ok (.bipush 16, 2) := by decide +kernel
theorem dX0_copyFrom_129 : decode cX0_copyFrom 129 = .ok (.invokestatic 45, 3) := by decide +kernel
theorem dX0_copyFrom_132 : decode cX0_copyFrom 132 = .ok (.aload_n 0, 1) := by decide +kernel
theorem dX0_copyFrom_133 : decode cX0_copyFrom 133 = .ok (.aload_n 1, 1) := by decide +kernel
theorem dX0_copyFrom_134 : decode cX0_copyFrom 134 = .ok (.getfield 51, 3) := by decide +kernel
theorem dX0_copyFrom_137 : decode cX0_copyFrom 137 = .ok (.putfield 51, 3) := by decide +kernel
theorem dX0_copyFrom_140 : decode cX0_copyFrom 140 = .ok (.aload_n 0, 1) := by decide +kernel
theorem dX0_copyFrom_141 : decode cX0_copyFrom 141 = .ok (.aload_n 1, 1) := by decide +kernel
theorem dX0_copyFrom_142 : decode cX0_copyFrom 142 = .ok (.getfield 55, 3) := by decide +kernel
theorem dX0_copyFrom_145 : decode cX0_copyFrom 145 = .ok (.putfield 55, 3) := by decide +kernel
theorem dX0_copyFrom_148 : decode cX0_copyFrom 148 = .ok (.aload_n 0, 1) := by decide +kernel
theorem dX0_copyFrom_149 : decode cX0_copyFrom 149 = .ok (.aload_n 1, 1) := by decide +kernel
theorem dX0_copyFrom_150 : decode cX0_copyFrom 150 = .ok (.getfield 58, 3) := by decide +kernel
theorem dX0_copyFrom_153 : decode cX0_copyFrom 153 = .ok (.putfield 58, 3) := by decide +kernel
theorem dX0_copyFrom_156 : decode cX0_copyFrom 156 = .ok (.aload_n 0, 1) := by decide +kernel
theorem dX0_copyFrom_157 : decode cX0_copyFrom 157 = .ok (.aload_n 1, 1) := by decide +kernel
theorem dX0_copyFrom_158 : decode cX0_copyFrom 158 = .ok (.getfield 61, 3) := by decide +kernel
theorem dX0_copyFrom_161 : decode cX0_copyFrom 161 = .ok (.putfield 61, 3) := by decide +kernel
theorem dX0_copyFrom_164 : decode cX0_copyFrom 164 = .ok (.aload_n 0, 1) := by decide +kernel
theorem dX0_copyFrom_165 : decode cX0_copyFrom 165 = .ok (.aload_n 1, 1) := by decide +kernel
theorem dX0_copyFrom_166 : decode cX0_copyFrom 166 = .ok (.getfield 64, 3) := by decide +kernel
theorem dX0_copyFrom_169 : decode cX0_copyFrom 169 = .ok (.putfield 64, 3) := by decide +kernel
theorem dX0_copyFrom_172 : decode cX0_copyFrom 172 = .ok (.return_, 1) := by decide +kernel
theorem dX0_refusalOfNet_0 : decode cX0_refusalOfNet 0 = .ok (.iload_n 1, 1) := by decide +kernel
theorem dX0_refusalOfNet_1 : decode cX0_refusalOfNet 1 = .ok (.invokestatic 67, 3) := by decide +kernel
theorem dX0_refusalOfNet_4 : decode cX0_refusalOfNet 4 = .ok (.istore_n 2, 1) := by decide +kernel
theorem dX0_refusalOfNet_5 : decode cX0_refusalOfNet 5 = .ok (.iload_n 1, 1) := by decide +kernel
theorem dX0_refusalOfNet_6 : decode cX0_refusalOfNet 6 = .ok (.ldc 73, 2) := by decide +kernel
theorem dX0_refusalOfNet_8 : decode cX0_refusalOfNet 8 = .ok (.iand, 1) := by decide +kernel
theorem dX0_refusalOfNet_9 : decode cX0_refusalOfNet 9 = .ok (.ifCond .ne 13, 3) := by decide +kernel
theorem dX0_refusalOfNet_12 : decode cX0_refusalOfNet 12 = .ok (.iload_n 2, 1) := by decide +kernel
theorem dX0_refusalOfNet_13 : decode cX0_refusalOfNet 13 = .ok (.iconst 2, 1) := by decide +kernel
theorem dX0_refusalOfNet_14 : decode cX0_refusalOfNet 14 = .ok (.if_icmp .lt 8, 3) := by decide +kernel
theorem dX0_refusalOfNet_17 : decode cX0_refusalOfNet 17 = .ok (.iload_n 2, 1) := by decide +kernel
theorem dX0_refusalOfNet_18 : decode cX0_refusalOfNet 18 = .ok (.iconst 5, 1) := by decide +kernel
theorem dX0_refusalOfNet_19 : decode cX0_refusalOfNet 19 = .ok (.if_icmp .le 6, 3) := by decide +kernel
theorem dX0_refusalOfNet_22 : decode cX0_refusalOfNet 22 = .ok (.ldc 74, 2) := by decide +kernel
theorem dX0_refusalOfNet_24 : decode cX0_refusalOfNet 24 = .ok (.ireturn, 1) := by decide +kernel
theorem dX0_refusalOfNet_25 : decode cX0_refusalOfNet 25 = .ok (.iload_n 1, 1) := by decide +kernel
theorem dX0_refusalOfNet_26 : decode cX0_refusalOfNet 26 = .ok (.aload_n 0, 1) := by decide +kernel
theorem dX0_refusalOfNet_27 : decode cX0_refusalOfNet 27 = .ok (.getfield 61, 3) := by decide +kernel
theorem dX0_refusalOfNet_30 : decode cX0_refusalOfNet 30 = .ok (.iand, 1) := by decide +kernel
theorem dX0_refusalOfNet_31 : decode cX0_refusalOfNet 31 = .ok (.ifCond .eq 6, 3) := by decide +kernel
theorem dX0_refusalOfNet_34 : decode cX0_refusalOfNet 34 = .ok (.ldc 75, 2) := by decide +kernel
theorem dX0_refusalOfNet_36 : decode cX0_refusalOfNet 36 = .ok (.ireturn, 1) := by decide +kernel
theorem dX0_refusalOfNet_37 : decode cX0_refusalOfNet 37 = .ok (.aload_n 0, 1) := by decide +kernel
theorem dX0_refusalOfNet_38 : decode cX0_refusalOfNet 38 = .ok (.getfield 51, 3) := by decide +kernel
theorem dX0_refusalOfNet_41 : decode cX0_refusalOfNet 41 = .ok (.bipush 8, 2) := by decide +kernel
theorem dX0_refusalOfNet_43 : decode cX0_refusalOfNet 43 = .ok (.if_icmp .lt 8, 3) := by decide +kernel
theorem dX0_refusalOfNet_46 : decode cX0_refusalOfNet 46 = .ok (.ldc 76, 2) := by decide +kernel
theorem dX0_refusalOfNet_48 : decode cX0_refusalOfNet 48 = .ok (.goto 4, 3) := by decide +kernel
theorem dX0_refusalOfNet_51 : decode cX0_refusalOfNet 51 = .ok (.iconst 0, 1) := by decide +kernel
theorem dX0_refusalOfNet_52 : decode cX0_refusalOfNet 52 = .ok (.ireturn, 1) := by decide +kernel
theorem dX0_addNet_0 : decode cX0_addNet 0 = .ok (.aload_n 0, 1) := by decide +kernel
theorem dX0_addNet_1 : decode cX0_addNet 1 = .ok (.getfield 9, 3) := by decide +kernel
theorem dX0_addNet_4 : decode cX0_addNet 4 = .ok (.aload_n 0, 1) := by decide +kernel
theorem dX0_addNet_5 : decode cX0_addNet 5 = .ok (.getfield 51, 3) := by decide +kernel
theorem dX0_addNet_8 : decode cX0_addNet 8 = .ok (.iload_n 1, 1) := by decide +kernel
theorem dX0_addNet_9 : decode cX0_addNet 9 = .ok (.iastore, 1) := by decide +kernel
theorem dX0_addNet_10 : decode cX0_addNet 10 = .ok (.aload_n 0, 1) := by decide +kernel
theorem dX0_addNet_11 : decode cX0_addNet 11 = .ok (.dup, 1) := by decide +kernel
theorem dX0_addNet_12 : decode cX0_addNet 12 = .ok (.getfield 61, 3) := by decide +kernel
theorem dX0_addNet_15 : decode cX0_addNet 15 = .ok (.iload_n 1, 1) := by decide +kernel
theorem dX0_addNet_16 : decode cX0_addNet 16 = .ok (.ior, 1) := by decide +kernel
theorem dX0_addNet_17 : decode cX0_addNet 17 = .ok (.putfield 61, 3) := by decide +kernel
theorem dX0_addNet_20 : decode cX0_addNet 20 = .ok (.iconst 0, 1) := by decide +kernel
theorem dX0_addNet_21 : decode cX0_addNet 21 = .ok (.istore_n 2, 1) := by decide +kernel
theorem dX0_addNet_22 : decode cX0_addNet 22 = .ok (.iload_n 2, 1) := by decide +kernel
theorem dX0_addNet_23 : decode cX0_addNet 23 = .ok (.bipush 16, 2) := by decide +kernel
theorem dX0_addNet_25 : decode cX0_addNet 25 = .ok (.if_icmp .ge 27, 3) := by decide +kernel
theorem dX0_addNet_28 : decode cX0_addNet 28 = .ok (.iload_n 1, 1) := by decide +kernel
theorem dX0_addNet_29 : decode cX0_addNet 29 = .ok (.iload_n 2, 1) := by decide +kernel
theorem dX0_addNet_30 : decode cX0_addNet 30 = .ok (.invokestatic 77, 3) := by decide +kernel
theorem dX0_addNet_33 : decode cX0_addNet 33 = .ok (.ifCond .eq 13, 3) := by decide +kernel
theorem dX0_addNet_36 : decode cX0_addNet 36 = .ok (.aload_n 0, 1) := by decide +kernel
theorem dX0_addNet_37 : decode cX0_addNet 37 = .ok (.getfield 15, 3) := by decide +kernel
theorem dX0_addNet_40 : decode cX0_addNet 40 = .ok (.iload_n 2, 1) := by decide +kernel
theorem dX0_addNet_41 : decode cX0_addNet 41 = .ok (.aload_n 0, 1) := by decide +kernel
theorem dX0_addNet_42 : decode cX0_addNet 42 = .ok (.getfield 51, 3) := by decide +kernel
theorem dX0_addNet_45 : decode cX0_addNet 45 = .ok (.iastore, 1) := by decide +kernel
theorem dX0_addNet_46 : decode cX0_addNet 46 = .ok (.iinc 2 1, 3) := by decide +kernel
theorem dX0_addNet_49 : decode cX0_addNet 49 = .ok (.goto (-27), 3) := by decide +kernel
theorem dX0_addNet_52 : decode cX0_addNet 52 = .ok (.aload_n 0, 1) := by decide +kernel
theorem dX0_addNet_53 : decode cX0_addNet 53 = .ok (.dup, 1) := by decide +kernel
theorem dX0_addNet_54 : decode cX0_addNet 54 = .ok (.getfield 51, 3) := by decide +kernel
theorem dX0_addNet_57 : decode cX0_addNet 57 = .ok (.iconst 1, 1) := by decide +kernel
theorem dX0_addNet_58 : decode cX0_addNet 58 = .ok (.iadd, 1) := by decide +kernel
theorem dX0_addNet_59 : decode cX0_addNet 59 = .ok (.putfield 51, 3) := by decide +kernel
theorem dX0_addNet_62 : decode cX0_addNet 62 = .ok (.aload_n 0, 1) := by decide +kernel
theorem dX0_addNet_63 : decode cX0_addNet 63 = .ok (.getfield 51, 3) := by decide +kernel
theorem dX0_addNet_66 : decode cX0_addNet 66 = .ok (.iconst 1, 1) := by decide +kernel
theorem dX0_addNet_67 : decode cX0_addNet 67 = .ok (.isub, 1) := by decide +kernel
theorem dX0_addNet_68 : decode cX0_addNet 68 = .ok (.ireturn, 1) := by decide +kernel
theorem dX0_refusalOfChip_0 : decode cX0_refusalOfChip 0 = .ok (.iload_n 1, 1) := by decide +kernel
theorem dX0_refusalOfChip_1 : decode cX0_refusalOfChip 1 = .ok (.invokestatic 81, 3) := by decide +kernel
theorem dX0_refusalOfChip_4 : decode cX0_refusalOfChip 4 = .ok (.ifCond .eq 15, 3) := by decide +kernel
theorem dX0_refusalOfChip_7 : decode cX0_refusalOfChip 7 = .ok (.iload_n 2, 1) := by decide +kernel
theorem dX0_refusalOfChip_8 : decode cX0_refusalOfChip 8 = .ok (.invokestatic 81, 3) := by decide +kernel
theorem dX0_refusalOfChip_11 : decode cX0_refusalOfChip 11 = .ok (.ifCond .eq 8, 3) := by decide +kernel
theorem dX0_refusalOfChip_14 : decode cX0_refusalOfChip 14 = .ok (.iload_n 1, 1) := by decide +kernel
theorem dX0_refusalOfChip_15 : decode cX0_refusalOfChip 15 = .ok (.iload_n 2, 1) := by decide +kernel
theorem dX0_refusalOfChip_16 : decode cX0_refusalOfChip 16 = .ok (.if_icmp .ne 6, 3) := by decide +kernel
theorem dX0_refusalOfChip_19 : decode cX0_refusalOfChip 19 = .ok (.ldc 74, 2) := by decide +kernel
theorem dX0_refusalOfChip_21 : decode cX0_refusalOfChip 21 = .ok (.ireturn, 1) := by decide +kernel
theorem dX0_refusalOfChip_22 : decode cX0_refusalOfChip 22 = .ok (.iload_n 3, 1) := by decide +kernel
theorem dX0_refusalOfChip_23 : decode cX0_refusalOfChip 23 = .ok (.ldc 73, 2) := by decide +kernel
theorem dX0_refusalOfChip_25 : decode cX0_refusalOfChip 25 = .ok (.iand, 1) := by decide +kernel
theorem dX0_refusalOfChip_26 : decode cX0_refusalOfChip 26 = .ok (.ifCond .ne 27, 3) := by decide +kernel
theorem dX0_refusalOfChip_29 : decode cX0_refusalOfChip 29 = .ok (.iload_n 3, 1) := by decide +kernel
theorem dX0_refusalOfChip_30 : decode cX0_refusalOfChip 30 = .ok (.invokestatic 67, 3) := by decide +kernel
theorem dX0_refusalOfChip_33 : decode cX0_refusalOfChip 33 = .ok (.iconst 5, 1) := by decide +kernel
theorem dX0_refusalOfChip_34 : decode cX0_refusalOfChip 34 = .ok (.if_icmp .gt 19, 3) := by decide +kernel
theorem dX0_refusalOfChip_37 : decode cX0_refusalOfChip 37 = .ok (.iload_n 3, 1) := by decide +kernel
theorem dX0_refusalOfChip_38 : decode cX0_refusalOfChip 38 = .ok (.iload_n 1, 1) := by decide +kernel
theorem dX0_refusalOfChip_39 : decode cX0_refusalOfChip 39 = .ok (.invokestatic 77, 3) := by decide +kernel
theorem dX0_refusalOfChip_42 : decode cX0_refusalOfChip 42 = .ok (.ifCond .ne 11, 3) := by decide +kernel
theorem dX0_refusalOfChip_45 : decode cX0_refusalOfChip 45 = .ok (.iload_n 3, 1) := by decide +kernel
theorem dX0_refusalOfChip_46 : decode cX0_refusalOfChip 46 = .ok (.iload_n 2, 1) := by decide +kernel
theorem dX0_refusalOfChip_47 : decode cX0_refusalOfChip 47 = .ok (.invokestatic 77, 3) := by decide +kernel
theorem dX0_refusalOfChip_50 : decode cX0_refusalOfChip 50 = .ok (.ifCond .eq 6, 3) := by decide +kernel
theorem dX0_refusalOfChip_53 : decode cX0_refusalOfChip 53 = .ok (.ldc 74, 2) := by decide +kernel
theorem dX0_refusalOfChip_55 : decode cX0_refusalOfChip 55 = .ok (.ireturn, 1) := by decide +kernel
theorem dX0_refusalOfChip_56 : decode cX0_refusalOfChip 56 = .ok (.iconst 1, 1) := by decide +kernel
theorem dX0_refusalOfChip_57 : decode cX0_refusalOfChip 57 = .ok (.iload_n 1, 1) := by decide +kernel
theorem dX0_refusalOfChip_58 : decode cX0_refusalOfChip 58 = .ok (.ishl, 1) := by decide +kernel
theorem dX0_refusalOfChip_59 : decode cX0_refusalOfChip 59 = .ok (.iconst 1, 1) := by decide +kernel
theorem dX0_refusalOfChip_60 : decode cX0_refusalOfChip 60 = .ok (.iload_n 2, 1) := by decide +kernel
theorem dX0_refusalOfChip_61 : decode cX0_refusalOfChip 61 = .ok (.ishl, 1) := by decide +kernel
theorem dX0_refusalOfChip_62 : decode cX0_refusalOfChip 62 = .ok (.ior, 1) := by decide +kernel
theorem dX0_refusalOfChip_63 : decode cX0_refusalOfChip 63 = .ok (.iload_n 3, 1) := by decide +kernel
theorem dX0_refusalOfChip_64 : decode cX0_refusalOfChip 64 = .ok (.ior, 1) := by decide +kernel
theorem dX0_refusalOfChip_65 : decode cX0_refusalOfChip 65 = .ok (.aload_n 0, 1) := by decide +kernel
theorem dX0_refusalOfChip_66 : decode cX0_refusalOfChip 66 = .ok (.getfield 64, 3) := by decide +kernel
theorem dX0_refusalOfChip_69 : decode cX0_refusalOfChip 69 = .ok (.iand, 1) := by decide +kernel
theorem dX0_refusalOfChip_70 : decode cX0_refusalOfChip 70 = .ok (.ifCond .eq 6, 3) := by decide +kernel
theorem dX0_refusalOfChip_73 : decode cX0_refusalOfChip 73 = .ok (.ldc 75, 2) := by decide +kernel
theorem dX0_refusalOfChip_75 : decode cX0_refusalOfChip 75 = .ok (.ireturn, 1) := by decide +kernel
theorem dX0_refusalOfChip_76 : decode cX0_refusalOfChip 76 = .ok (.aload_n 0, 1) := by decide +kernel
theorem dX0_refusalOfChip_77 : decode cX0_refusalOfChip 77 = .ok (.getfield 55, 3) := by decide +kernel
theorem dX0_refusalOfChip_80 : decode cX0_refusalOfChip 80 = .ok (.iconst 5, 1) := by decide +kernel
theorem dX0_refusalOfChip_81 : decode cX0_refusalOfChip 81 = .ok (.if_icmp .lt 8, 3) := by decide +kernel
theorem dX0_refusalOfChip_84 : decode cX0_refusalOfChip 84 = .ok (.ldc 76, 2) := by decide +kernel
theorem dX0_refusalOfChip_86 : decode cX0_refusalOfChip 86 = .ok (.goto 4, 3) := by decide +kernel
theorem dX0_refusalOfChip_89 : decode cX0_refusalOfChip 89 = .ok (.iconst 0, 1) := by decide +kernel
theorem dX0_refusalOfChip_90 : decode cX0_refusalOfChip 90 = .ok (.ireturn, 1) := by decide +kernel
theorem dX0_addChip_0 : decode cX0_addChip 0 = .ok (.aload_n 0, 1) := by decide +kernel
theorem dX0_addChip_1 : decode cX0_addChip 1 = .ok (.getfield 18, 3) := by decide +kernel
theorem dX0_addChip_4 : decode cX0_addChip 4 = .ok (.aload_n 0, 1) := by decide +kernel
theorem dX0_addChip_5 : decode cX0_addChip 5 = .ok (.getfield 55, 3) := by decide +kernel
theorem dX0_addChip_8 : decode cX0_addChip 8 = .ok (.iload_n 1, 1) := by decide +kernel
theorem dX0_addChip_9 : decode cX0_addChip 9 = .ok (.iastore, 1) := by decide +kernel
theorem dX0_addChip_10 : decode cX0_addChip 10 = .ok (.aload_n 0, 1) := by decide +kernel
theorem dX0_addChip_11 : decode cX0_addChip 11 = .ok (.getfield 21, 3) := by decide +kernel
theorem dX0_addChip_14 : decode cX0_addChip 14 = .ok (.aload_n 0, 1) := by decide +kernel
theorem dX0_addChip_15 : decode cX0_addChip 15 = .ok (.getfield 55, 3) := by decide +kernel
theorem dX0_addChip_18 : decode cX0_addChip 18 = .ok (.iload_n 2, 1) := by decide +kernel
theorem dX0_addChip_19 : decode cX0_addChip 19 = .ok (.iastore, 1) := by decide +kernel
theorem dX0_addChip_20 : decode cX0_addChip 20 = .ok (.aload_n 0, 1) := by decide +kernel
theorem dX0_addChip_21 : decode cX0_addChip 21 = .ok (.getfield 24, 3) := by decide +kernel
theorem dX0_addChip_24 : decode cX0_addChip 24 = .ok (.aload_n 0, 1) := by decide +kernel
theorem dX0_addChip_25 : decode cX0_addChip 25 = .ok (.getfield 55, 3) := by decide +kernel
theorem dX0_addChip_28 : decode cX0_addChip 28 = .ok (.iload_n 3, 1) := by decide +kernel
theorem dX0_addChip_29 : decode cX0_addChip 29 = .ok (.iastore, 1) := by decide +kernel
theorem dX0_addChip_30 : decode cX0_addChip 30 = .ok (.aload_n 0, 1) := by decide +kernel
theorem dX0_addChip_31 : decode cX0_addChip 31 = .ok (.dup, 1) := by decide +kernel
theorem dX0_addChip_32 : decode cX0_addChip 32 = .ok (.getfield 64, 3) := by decide +kernel
theorem dX0_addChip_35 : decode cX0_addChip 35 = .ok (.iconst 1, 1) := by decide +kernel
theorem dX0_addChip_36 : decode cX0_addChip 36 = .ok (.iload_n 1, 1) := by decide +kernel
theorem dX0_addChip_37 : decode cX0_addChip 37 = .ok (.ishl, 1) := by decide +kernel
theorem dX0_addChip_38 : decode cX0_addChip 38 = .ok (.iconst 1, 1) := by decide +kernel
theorem dX0_addChip_39 : decode cX0_addChip 39 = .ok (.iload_n 2, 1) := by decide +kernel
theorem dX0_addChip_40 : decode cX0_addChip 40 = .ok (.ishl, 1) := by decide +kernel
theorem dX0_addChip_41 : decode cX0_addChip 41 = .ok (.ior, 1) := by decide +kernel
theorem dX0_addChip_42 : decode cX0_addChip 42 = .ok (.iload_n 3, 1) := by decide +kernel
theorem dX0_addChip_43 : decode cX0_addChip 43 = .ok (.ior, 1) := by decide +kernel
theorem dX0_addChip_44 : decode cX0_addChip 44 = .ok (.ior, 1) := by decide +kernel
theorem dX0_addChip_45 : decode cX0_addChip 45 = .ok (.putfield 64, 3) := by decide +kernel
theorem dX0_addChip_48 : decode cX0_addChip 48 = .ok (.aload_n 0, 1) := by decide +kernel
theorem dX0_addChip_49 : decode cX0_addChip 49 = .ok (.dup, 1) := by decide +kernel
theorem dX0_addChip_50 : decode cX0_addChip 50 = .ok (.getfield 55, 3) := by decide +kernel
theorem dX0_addChip_53 : decode cX0_addChip 53 = .ok (.iconst 1, 1) := by decide +kernel
theorem dX0_addChip_54 : decode cX0_addChip 54 = .ok (.iadd, 1) := by decide +kernel
theorem dX0_addChip_55 : decode cX0_addChip 55 = .ok (.putfield 55, 3) := by decide +kernel
theorem dX0_addChip_58 : decode cX0_addChip 58 = .ok (.aload_n 0, 1) := by decide +kernel
theorem dX0_addChip_59 : decode cX0_addChip 59 = .ok (.getfield 55, 3) := by decide +kernel
theorem dX0_addChip_62 : decode cX0_addChip 62 = .ok (.iconst 1, 1) := by decide +kernel
theorem dX0_addChip_63 : decode cX0_addChip 63 = .ok (.isub, 1) := by decide +kernel
theorem dX0_addChip_64 : decode cX0_addChip 64 = .ok (.ireturn, 1) := by decide +kernel
theorem dX0_refusalOfFault_0 : decode cX0_refusalOfFault 0 = .ok (.iload_n 1, 1) := by decide +kernel
theorem dX0_refusalOfFault_1 : decode cX0_refusalOfFault 1 = .ok (.ifCond .lt 21, 3) := by decide +kernel
theorem dX0_refusalOfFault_4 : decode cX0_refusalOfFault 4 = .ok (.iload_n 1, 1) := by decide +kernel
theorem dX0_refusalOfFault_5 : decode cX0_refusalOfFault 5 = .ok (.iconst 5, 1) := by decide +kernel
theorem dX0_refusalOfFault_6 : decode cX0_refusalOfFault 6 = .ok (.if_icmp .ge 16, 3) := by decide +kernel
theorem dX0_refusalOfFault_9 : decode cX0_refusalOfFault 9 = .ok (.iload_n 2, 1) := by decide +kernel
theorem dX0_refusalOfFault_10 : decode cX0_refusalOfFault 10 = .ok (.ifCond .lt 12, 3) := by decide +kernel
theorem dX0_refusalOfFault_13 : decode cX0_refusalOfFault 13 = .ok (.iload_n 2, 1) := by decide +kernel
theorem dX0_refusalOfFault_14 : decode cX0_refusalOfFault 14 = .ok (.aload_n 0, 1) := by decide +kernel
theorem dX0_refusalOfFault_15 : decode cX0_refusalOfFault 15 = .ok (.iload_n 1, 1) := by decide +kernel
theorem dX0_refusalOfFault_16 : decode cX0_refusalOfFault 16 = .ok (.invokevirtual 85, 3) := by decide +kernel
theorem dX0_refusalOfFault_19 : decode cX0_refusalOfFault 19 = .ok (.if_icmp .lt 6, 3) := by decide +kernel
theorem dX0_refusalOfFault_22 : decode cX0_refusalOfFault 22 = .ok (.ldc 74, 2) := by decide +kernel
theorem dX0_refusalOfFault_24 : decode cX0_refusalOfFault 24 = .ok (.ireturn, 1) := by decide +kernel
theorem dX0_refusalOfFault_25 : decode cX0_refusalOfFault 25 = .ok (.iload_n 1, 1) := by decide +kernel
theorem dX0_refusalOfFault_26 : decode cX0_refusalOfFault 26 = .ok (.iconst 1, 1) := by decide +kernel
theorem dX0_refusalOfFault_27 : decode cX0_refusalOfFault 27 = .ok (.if_icmp .ne 24, 3) := by decide +kernel
theorem dX0_refusalOfFault_30 : decode cX0_refusalOfFault 30 = .ok (.iload_n 3, 1) := by decide +kernel
theorem dX0_refusalOfFault_31 : decode cX0_refusalOfFault 31 = .ok (.iload_n 2, 1) := by decide +kernel
theorem dX0_refusalOfFault_32 : decode cX0_refusalOfFault 32 = .ok (.if_icmp .le 15, 3) := by decide +kernel
theorem dX0_refusalOfFault_35 : decode cX0_refusalOfFault 35 = .ok (.iload_n 3, 1) := by decide +kernel
theorem dX0_refusalOfFault_36 : decode cX0_refusalOfFault 36 = .ok (.aload_n 0, 1) := by decide +kernel
theorem dX0_refusalOfFault_37 : decode cX0_refusalOfFault 37 = .ok (.getfield 51, 3) := by decide +kernel
theorem dX0_refusalOfFault_40 : decode cX0_refusalOfFault 40 = .ok (.if_icmp .ge 7, 3) := by decide +kernel
theorem dX0_refusalOfFault_43 : decode cX0_refusalOfFault 43 = .ok (.iconst 1, 1) := by decide +kernel
theorem dX0_refusalOfFault_44 : decode cX0_refusalOfFault 44 = .ok (.goto 16, 3) := by decide +kernel
theorem dX0_refusalOfFault_47 : decode cX0_refusalOfFault 47 = .ok (.iconst 0, 1) := by decide +kernel
theorem dX0_refusalOfFault_48 : decode cX0_refusalOfFault 48 = .ok (.goto 12, 3) := by decide +kernel
theorem dX0_refusalOfFault_51 : decode cX0_refusalOfFault 51 = .ok (.iload_n 3, 1) := by decide +kernel
theorem dX0_refusalOfFault_52 : decode cX0_refusalOfFault 52 = .ok (.ifCond .ne 7, 3) := by decide +kernel
theorem dX0_refusalOfFault_55 : decode cX0_refusalOfFault 55 = .ok (.iconst 1, 1) := by decide +kernel
theorem dX0_refusalOfFault_56 : decode cX0_refusalOfFault 56 = .ok (.goto 4, 3) := by decide +kernel
theorem dX0_refusalOfFault_59 : decode cX0_refusalOfFault 59 = .ok (.iconst 0, 1) := by decide +kernel
theorem dX0_refusalOfFault_60 : decode cX0_refusalOfFault 60 = .ok (.istore 4, 2) := by decide +kernel
theorem dX0_refusalOfFault_62 : decode cX0_refusalOfFault 62 = .ok (.iload 4, 2) := by decide +kernel
theorem dX0_refusalOfFault_64 : decode cX0_refusalOfFault 64 = .ok (.ifCond .ne 6, 3) := by decide +kernel
theorem dX0_refusalOfFault_67 : decode cX0_refusalOfFault 67 = .ok (.ldc 74, 2) := by decide +kernel
theorem dX0_refusalOfFault_69 : decode cX0_refusalOfFault 69 = .ok (.ireturn, 1) := by decide +kernel
theorem dX0_refusalOfFault_70 : decode cX0_refusalOfFault 70 = .ok (.iconst 0, 1) := by decide +kernel
theorem dX0_refusalOfFault_71 : decode cX0_refusalOfFault 71 = .ok (.istore 5, 2) := by decide +kernel
theorem dX0_refusalOfFault_73 : decode cX0_refusalOfFault 73 = .ok (.iload 5, 2) := by decide +kernel
theorem dX0_refusalOfFault_75 : decode cX0_refusalOfFault 75 = .ok (.aload_n 0, 1) := by decide +kernel
theorem dX0_refusalOfFault_76 : decode cX0_refusalOfFault 76 = .ok (.getfield 58, 3) := by decide +kernel
theorem dX0_refusalOfFault_79 : decode cX0_refusalOfFault 79 = .ok (.if_icmp .ge 45, 3) := by decide +kernel
theorem dX0_refusalOfFault_82 : decode cX0_refusalOfFault 82 = .ok (.aload_n 0, 1) := by decide +kernel
theorem dX0_refusalOfFault_83 : decode cX0_refusalOfFault 83 = .ok (.getfield 27, 3) := by decide +kernel
theorem dX0_refusalOfFault_86 : decode cX0_refusalOfFault 86 = .ok (.iload 5, 2) := by decide +kernel
theorem dX0_refusalOfFault_88 : decode cX0_refusalOfFault 88 = .ok (.iaload, 1) := by decide +kernel
theorem dX0_refusalOfFault_89 : decode cX0_refusalOfFault 89 = .ok (.iload_n 1, 1) := by decide +kernel
theorem dX0_refusalOfFault_90 : decode cX0_refusalOfFault 90 = .ok (.if_icmp .ne 28, 3) := by decide +kernel
theorem dX0_refusalOfFault_93 : decode cX0_refusalOfFault 93 = .ok (.aload_n 0, 1) := by decide +kernel
theorem dX0_refusalOfFault_94 : decode cX0_refusalOfFault 94 = .ok (.getfield 30, 3) := by decide +kernel
theorem dX0_refusalOfFault_97 : decode cX0_refusalOfFault 97 = .ok (.iload 5, 2) := by decide +kernel
theorem dX0_refusalOfFault_99 : decode cX0_refusalOfFault 99 = .ok (.iaload, 1) := by decide +kernel
theorem dX0_refusalOfFault_100 : decode cX0_refusalOfFault 100 = .ok (.iload_n 2, 1) := by decide +kernel
theorem dX0_refusalOfFault_101 : decode cX0_refusalOfFault 101 = .ok (.if_icmp .ne 17, 3) := by decide +kernel
theorem dX0_refusalOfFault_104 : decode cX0_refusalOfFault 104 = .ok (.aload_n 0, 1) := by decide +kernel
theorem dX0_refusalOfFault_105 : decode cX0_refusalOfFault 105 = .ok (.getfield 33, 3) := by decide +kernel
theorem dX0_refusalOfFault_108 : decode cX0_refusalOfFault 108 = .ok (.iload 5, 2) := by decide +kernel
theorem dX0_refusalOfFault_110 : decode cX0_refusalOfFault 110 = .ok (.iaload, 1) := by decide +kernel
theorem dX0_refusalOfFault_111 : decode cX0_refusalOfFault 111 = .ok (.iload_n 3, 1) := by decide +kernel
theorem dX0_refusalOfFault_112 : decode cX0_refusalOfFault 112 = .ok (.if_icmp .ne 6, 3) := by decide +kernel
theorem dX0_refusalOfFault_115 : decode cX0_refusalOfFault 115 = .ok (.ldc 75, 2) := by decide +kernel
theorem dX0_refusalOfFault_117 : decode cX0_refusalOfFault 117 = .ok (.ireturn, 1) := by decide +kernel
theorem dX0_refusalOfFault_118 : decode cX0_refusalOfFault 118 = .ok (.iinc 5 1, 3) := by decide +kernel
theorem dX0_refusalOfFault_121 : decode cX0_refusalOfFault 121 = .ok (.goto (-48), 3) := by decide +kernel
theorem dX0_refusalOfFault_124 : decode cX0_refusalOfFault 124 = .ok (.aload_n 0, 1) := by decide +kernel
theorem dX0_refusalOfFault_125 : decode cX0_refusalOfFault 125 = .ok (.getfield 58, 3) := by decide +kernel
theorem dX0_refusalOfFault_128 : decode cX0_refusalOfFault 128 = .ok (.bipush 10, 2) := by decide +kernel
theorem dX0_refusalOfFault_130 : decode cX0_refusalOfFault 130 = .ok (.if_icmp .lt 8, 3) := by decide +kernel
theorem dX0_refusalOfFault_133 : decode cX0_refusalOfFault 133 = .ok (.ldc 76, 2) := by decide +kernel
theorem dX0_refusalOfFault_135 : decode cX0_refusalOfFault 135 = .ok (.goto 4, 3) := by decide +kernel
theorem dX0_refusalOfFault_138 : decode cX0_refusalOfFault 138 = .ok (.iconst 0, 1) := by decide +kernel
theorem dX0_refusalOfFault_139 : decode cX0_refusalOfFault 139 = .ok (.ireturn, 1) := by decide +kernel
theorem dX0_placesFor_0 : decode cX0_placesFor 0 = .ok (.iload_n 1, 1) := by decide +kernel
theorem dX0_placesFor_1 : decode cX0_placesFor 1 = .ok (.ifCond .ne 6, 3) := by decide +kernel
theorem dX0_placesFor_4 : decode cX0_placesFor 4 = .ok (.bipush 16, 2) := by decide +kernel
theorem dX0_placesFor_6 : decode cX0_placesFor 6 = .ok (.ireturn, 1) := by decide +kernel
theorem dX0_placesFor_7 : decode cX0_placesFor 7 = .ok (.iload_n 1, 1) := by decide +kernel
theorem dX0_placesFor_8 : decode cX0_placesFor 8 = .ok (.iconst 4, 1) := by decide +kernel
theorem dX0_placesFor_9 : decode cX0_placesFor 9 = .ok (.if_icmp .ne 10, 3) := by decide +kernel
theorem dX0_placesFor_12 : decode cX0_placesFor 12 = .ok (.aload_n 0, 1) := by decide +kernel
theorem dX0_placesFor_13 : decode cX0_placesFor 13 = .ok (.getfield 55, 3) := by decide +kernel
theorem dX0_placesFor_16 : decode cX0_placesFor 16 = .ok (.goto 7, 3) := by decide +kernel
theorem dX0_placesFor_19 : decode cX0_placesFor 19 = .ok (.aload_n 0, 1) := by decide +kernel
theorem dX0_placesFor_20 : decode cX0_placesFor 20 = .ok (.getfield 51, 3) := by decide +kernel
theorem dX0_placesFor_23 : decode cX0_placesFor 23 = .ok (.ireturn, 1) := by decide +kernel
theorem dX0_addFault_0 : decode cX0_addFault 0 = .ok (.aload_n 0, 1) := by decide +kernel
theorem dX0_addFault_1 : decode cX0_addFault 1 = .ok (.getfield 27, 3) := by decide +kernel
theorem dX0_addFault_4 : decode cX0_addFault 4 = .ok (.aload_n 0, 1) := by decide +kernel
theorem dX0_addFault_5 : decode cX0_addFault 5 = .ok (.getfield 58, 3) := by decide +kernel
theorem dX0_addFault_8 : decode cX0_addFault 8 = .ok (.iload_n 1, 1) := by decide +kernel
theorem dX0_addFault_9 : decode cX0_addFault 9 = .ok (.iastore, 1) := by decide +kernel
theorem dX0_addFault_10 : decode cX0_addFault 10 = .ok (.aload_n 0, 1) := by decide +kernel
theorem dX0_addFault_11 : decode cX0_addFault 11 = .ok (.getfield 30, 3) := by decide +kernel
theorem dX0_addFault_14 : decode cX0_addFault 14 = .ok (.aload_n 0, 1) := by decide +kernel
theorem dX0_addFault_15 : decode cX0_addFault 15 = .ok (.getfield 58, 3) := by decide +kernel
theorem dX0_addFault_18 : decode cX0_addFault 18 = .ok (.iload_n 2, 1) := by decide +kernel
theorem dX0_addFault_19 : decode cX0_addFault 19 = .ok (.iastore, 1) := by decide +kernel
theorem dX0_addFault_20 : decode cX0_addFault 20 = .ok (.aload_n 0, 1) := by decide +kernel
theorem dX0_addFault_21 : decode cX0_addFault 21 = .ok (.getfield 33, 3) := by decide +kernel
theorem dX0_addFault_24 : decode cX0_addFault 24 = .ok (.aload_n 0, 1) := by decide +kernel
theorem dX0_addFault_25 : decode cX0_addFault 25 = .ok (.getfield 58, 3) := by decide +kernel
theorem dX0_addFault_28 : decode cX0_addFault 28 = .ok (.iload_n 3, 1) := by decide +kernel
theorem dX0_addFault_29 : decode cX0_addFault 29 = .ok (.iastore, 1) := by decide +kernel
theorem dX0_addFault_30 : decode cX0_addFault 30 = .ok (.aload_n 0, 1) := by decide +kernel
theorem dX0_addFault_31 : decode cX0_addFault 31 = .ok (.dup, 1) := by decide +kernel
theorem dX0_addFault_32 : decode cX0_addFault 32 = .ok (.getfield 58, 3) := by decide +kernel
theorem dX0_addFault_35 : decode cX0_addFault 35 = .ok (.iconst 1, 1) := by decide +kernel
theorem dX0_addFault_36 : decode cX0_addFault 36 = .ok (.iadd, 1) := by decide +kernel
theorem dX0_addFault_37 : decode cX0_addFault 37 = .ok (.putfield 58, 3) := by decide +kernel
theorem dX0_addFault_40 : decode cX0_addFault 40 = .ok (.aload_n 0, 1) := by decide +kernel
theorem dX0_addFault_41 : decode cX0_addFault 41 = .ok (.getfield 58, 3) := by decide +kernel
theorem dX0_addFault_44 : decode cX0_addFault 44 = .ok (.iconst 1, 1) := by decide +kernel
theorem dX0_addFault_45 : decode cX0_addFault 45 = .ok (.isub, 1) := by decide +kernel
theorem dX0_addFault_46 : decode cX0_addFault 46 = .ok (.ireturn, 1) := by decide +kernel
theorem dX0_setBlessing_0 : decode cX0_setBlessing 0 = .ok (.aload_n 0, 1) := by decide +kernel
theorem dX0_setBlessing_1 : decode cX0_setBlessing 1 = .ok (.getfield 36, 3) := by decide +kernel
theorem dX0_setBlessing_4 : decode cX0_setBlessing 4 = .ok (.iload_n 1, 1) := by decide +kernel
theorem dX0_setBlessing_5 : decode cX0_setBlessing 5 = .ok (.iaload, 1) := by decide +kernel
theorem dX0_setBlessing_6 : decode cX0_setBlessing 6 = .ok (.istore_n 3, 1) := by decide +kernel
theorem dX0_setBlessing_7 : decode cX0_setBlessing 7 = .ok (.aload_n 0, 1) := by decide +kernel
theorem dX0_setBlessing_8 : decode cX0_setBlessing 8 = .ok (.getfield 36, 3) := by decide +kernel
theorem dX0_setBlessing_11 : decode cX0_setBlessing 11 = .ok (.iload_n 1, 1) := by decide +kernel
theorem dX0_setBlessing_12 : decode cX0_setBlessing 12 = .ok (.iload_n 2, 1) := by decide +kernel
theorem dX0_setBlessing_13 : decode cX0_setBlessing 13 = .ok (.iastore, 1) := by decide +kernel
theorem dX0_setBlessing_14 : decode cX0_setBlessing 14 = .ok (.iload_n 3, 1) := by decide +kernel
theorem dX0_setBlessing_15 : decode cX0_setBlessing 15 = .ok (.ireturn, 1) := by decide +kernel
theorem dX0_blessedOn_0 : decode cX0_blessedOn 0 = .ok (.iconst 0, 1) := by decide +kernel
theorem dX0_blessedOn_1 : decode cX0_blessedOn 1 = .ok (.istore_n 2, 1) := by decide +kernel
theorem dX0_blessedOn_2 : decode cX0_blessedOn 2 = .ok (.iconst 0, 1) := by decide +kernel
theorem dX0_blessedOn_3 : decode cX0_blessedOn 3 = .ok (.istore_n 3, 1) := by decide +kernel
theorem dX0_blessedOn_4 : decode cX0_blessedOn 4 = .ok (.iload_n 3, 1) := by decide +kernel
theorem dX0_blessedOn_5 : decode cX0_blessedOn 5 = .ok (.bipush 16, 2) := by decide +kernel
theorem dX0_blessedOn_7 : decode cX0_blessedOn 7 = .ok (.if_icmp .ge 28, 3) := by decide +kernel
theorem dX0_blessedOn_10 : decode cX0_blessedOn 10 = .ok (.aload_n 0, 1) := by decide +kernel
theorem dX0_blessedOn_11 : decode cX0_blessedOn 11 = .ok (.getfield 36, 3) := by decide +kernel
theorem dX0_blessedOn_14 : decode cX0_blessedOn 14 = .ok (.iload_n 3, 1) := by decide +kernel
theorem dX0_blessedOn_15 : decode cX0_blessedOn 15 = .ok (.iaload, 1) := by decide +kernel
theorem dX0_blessedOn_16 : decode cX0_blessedOn 16 = .ok (.iload_n 1, 1) := by decide +kernel
theorem dX0_blessedOn_17 : decode cX0_blessedOn 17 = .ok (.invokestatic 77, 3) := by decide +kernel
theorem dX0_blessedOn_20 : decode cX0_blessedOn 20 = .ok (.ifCond .eq 9, 3) := by decide +kernel
theorem dX0_blessedOn_23 : decode cX0_blessedOn 23 = .ok (.iload_n 2, 1) := by decide +kernel
theorem dX0_blessedOn_24 : decode cX0_blessedOn 24 = .ok (.iconst 1, 1) := by decide +kernel
theorem dX0_blessedOn_25 : decode cX0_blessedOn 25 = .ok (.iload_n 3, 1) := by decide +kernel
theorem dX0_blessedOn_26 : decode cX0_blessedOn 26 = .ok (.ishl, 1) := by decide +kernel
theorem dX0_blessedOn_27 : decode cX0_blessedOn 27 = .ok (.ior, 1) := by decide +kernel
theorem dX0_blessedOn_28 : decode cX0_blessedOn 28 = .ok (.istore_n 2, 1) := by decide +kernel
theorem dX0_blessedOn_29 : decode cX0_blessedOn 29 = .ok (.iinc 3 1, 3) := by decide +kernel
theorem dX0_blessedOn_32 : decode cX0_blessedOn 32 = .ok (.goto (-28), 3) := by decide +kernel
theorem dX0_blessedOn_35 : decode cX0_blessedOn 35 = .ok (.iload_n 2, 1) := by decide +kernel
theorem dX0_blessedOn_36 : decode cX0_blessedOn 36 = .ok (.ireturn, 1) := by decide +kernel
theorem dX0_chipWith_0 : decode cX0_chipWith 0 = .ok (.iconst 0, 1) := by decide +kernel
theorem dX0_chipWith_1 : decode cX0_chipWith 1 = .ok (.istore_n 2, 1) := by decide +kernel
theorem dX0_chipWith_2 : decode cX0_chipWith 2 = .ok (.iload_n 2, 1) := by decide +kernel
theorem dX0_chipWith_3 : decode cX0_chipWith 3 = .ok (.aload_n 0, 1) := by decide +kernel
theorem dX0_chipWith_4 : decode cX0_chipWith 4 = .ok (.getfield 55, 3) := by decide +kernel
theorem dX0_chipWith_7 : decode cX0_chipWith 7 = .ok (.if_icmp .ge 44, 3) := by decide +kernel
theorem dX0_chipWith_10 : decode cX0_chipWith 10 = .ok (.aload_n 0, 1) := by decide +kernel
theorem dX0_chipWith_11 : decode cX0_chipWith 11 = .ok (.getfield 18, 3) := by decide +kernel
theorem dX0_chipWith_14 : decode cX0_chipWith 14 = .ok (.iload_n 2, 1) := by decide +kernel
theorem dX0_chipWith_15 : decode cX0_chipWith 15 = .ok (.iaload, 1) := by decide +kernel
theorem dX0_chipWith_16 : decode cX0_chipWith 16 = .ok (.iload_n 1, 1) := by decide +kernel
theorem dX0_chipWith_17 : decode cX0_chipWith 17 = .ok (.if_icmp .eq 26, 3) := by decide +kernel
theorem dX0_chipWith_20 : decode cX0_chipWith 20 = .ok (.aload_n 0, 1) := by decide +kernel
theorem dX0_chipWith_21 : decode cX0_chipWith 21 = .ok (.getfield 21, 3) := by decide +kernel
theorem dX0_chipWith_24 : decode cX0_chipWith 24 = .ok (.iload_n 2, 1) := by decide +kernel
theorem dX0_chipWith_25 : decode cX0_chipWith 25 = .ok (.iaload, 1) := by decide +kernel
theorem dX0_chipWith_26 : decode cX0_chipWith 26 = .ok (.iload_n 1, 1) := by decide +kernel
theorem dX0_chipWith_27 : decode cX0_chipWith 27 = .ok (.if_icmp .eq 16, 3) := by decide +kernel
theorem dX0_chipWith_30 : decode cX0_chipWith 30 = .ok (.aload_n 0, 1) := by decide +kernel
theorem dX0_chipWith_31 : decode cX0_chipWith 31 = .ok (.getfield 24, 3) := by decide +kernel
theorem dX0_chipWith_34 : decode cX0_chipWith 34 = .ok (.iload_n 2, 1) := by decide +kernel
theorem dX0_chipWith_35 : decode cX0_chipWith 35 = .ok (.iaload, 1) := by decide +kernel
theorem dX0_chipWith_36 : decode cX0_chipWith 36 = .ok (.iload_n 1, 1) := by decide +kernel
theorem dX0_chipWith_37 : decode cX0_chipWith 37 = .ok (.invokestatic 77, 3) := by decide +kernel
theorem dX0_chipWith_40 : decode cX0_chipWith 40 = .ok (.ifCond .eq 5, 3) := by decide +kernel
theorem dX0_chipWith_43 : decode cX0_chipWith 43 = .ok (.iload_n 2, 1) := by decide +kernel
theorem dX0_chipWith_44 : decode cX0_chipWith 44 = .ok (.ireturn, 1) := by decide +kernel
theorem dX0_chipWith_45 : decode cX0_chipWith 45 = .ok (.iinc 2 1, 3) := by decide +kernel
theorem dX0_chipWith_48 : decode cX0_chipWith 48 = .ok (.goto (-46), 3) := by decide +kernel
theorem dX0_chipWith_51 : decode cX0_chipWith 51 = .ok (.iconst (-1), 1) := by decide +kernel
theorem dX0_chipWith_52 : decode cX0_chipWith 52 = .ok (.ireturn, 1) := by decide +kernel
theorem dX0_roleOf_0 : decode cX0_roleOf 0 = .ok (.aload_n 0, 1) := by decide +kernel
theorem dX0_roleOf_1 : decode cX0_roleOf 1 = .ok (.iload_n 1, 1) := by decide +kernel
theorem dX0_roleOf_2 : decode cX0_roleOf 2 = .ok (.invokevirtual 88, 3) := by decide +kernel
theorem dX0_roleOf_5 : decode cX0_roleOf 5 = .ok (.istore_n 2, 1) := by decide +kernel
theorem dX0_roleOf_6 : decode cX0_roleOf 6 = .ok (.iload_n 2, 1) := by decide +kernel
theorem dX0_roleOf_7 : decode cX0_roleOf 7 = .ok (.iconst (-1), 1) := by decide +kernel
theorem dX0_roleOf_8 : decode cX0_roleOf 8 = .ok (.if_icmp .ne 5, 3) := by decide +kernel
theorem dX0_roleOf_11 : decode cX0_roleOf 11 = .ok (.iconst (-1), 1) := by decide +kernel
theorem dX0_roleOf_12 : decode cX0_roleOf 12 = .ok (.ireturn, 1) := by decide +kernel
theorem dX0_roleOf_13 : decode cX0_roleOf 13 = .ok (.aload_n 0, 1) := by decide +kernel
theorem dX0_roleOf_14 : decode cX0_roleOf 14 = .ok (.getfield 18, 3) := by decide +kernel
theorem dX0_roleOf_17 : decode cX0_roleOf 17 = .ok (.iload_n 2, 1) := by decide +kernel
theorem dX0_roleOf_18 : decode cX0_roleOf 18 = .ok (.iaload, 1) := by decide +kernel
theorem dX0_roleOf_19 : decode cX0_roleOf 19 = .ok (.iload_n 1, 1) := by decide +kernel
theorem dX0_roleOf_20 : decode cX0_roleOf 20 = .ok (.if_icmp .ne 5, 3) := by decide +kernel
theorem dX0_roleOf_23 : decode cX0_roleOf 23 = .ok (.iconst 0, 1) := by decide +kernel
theorem dX0_roleOf_24 : decode cX0_roleOf 24 = .ok (.ireturn, 1) := by decide +kernel
theorem dX0_roleOf_25 : decode cX0_roleOf 25 = .ok (.aload_n 0, 1) := by decide +kernel
theorem dX0_roleOf_26 : decode cX0_roleOf 26 = .ok (.getfield 21, 3) := by decide +kernel
theorem dX0_roleOf_29 : decode cX0_roleOf 29 = .ok (.iload_n 2, 1) := by decide +kernel
theorem dX0_roleOf_30 : decode cX0_roleOf 30 = .ok (.iaload, 1) := by decide +kernel
theorem dX0_roleOf_31 : decode cX0_roleOf 31 = .ok (.iload_n 1, 1) := by decide +kernel
theorem dX0_roleOf_32 : decode cX0_roleOf 32 = .ok (.if_icmp .ne 7, 3) := by decide +kernel
theorem dX0_roleOf_35 : decode cX0_roleOf 35 = .ok (.iconst 1, 1) := by decide +kernel
theorem dX0_roleOf_36 : decode cX0_roleOf 36 = .ok (.goto 4, 3) := by decide +kernel
theorem dX0_roleOf_39 : decode cX0_roleOf 39 = .ok (.iconst 2, 1) := by decide +kernel
theorem dX0_roleOf_40 : decode cX0_roleOf 40 = .ok (.ireturn, 1) := by decide +kernel
theorem dX0_isFault_0 : decode cX0_isFault 0 = .ok (.iload_n 1, 1) := by decide +kernel
theorem dX0_isFault_1 : decode cX0_isFault 1 = .ok (.ifCond .lt 15, 3) := by decide +kernel
theorem dX0_isFault_4 : decode cX0_isFault 4 = .ok (.iload_n 1, 1) := by decide +kernel
theorem dX0_isFault_5 : decode cX0_isFault 5 = .ok (.aload_n 0, 1) := by decide +kernel
theorem dX0_isFault_6 : decode cX0_isFault 6 = .ok (.getfield 58, 3) := by decide +kernel
theorem dX0_isFault_9 : decode cX0_isFault 9 = .ok (.if_icmp .ge 7, 3) := by decide +kernel
theorem dX0_isFault_12 : decode cX0_isFault 12 = .ok (.iconst 1, 1) := by decide +kernel
theorem dX0_isFault_13 : decode cX0_isFault 13 = .ok (.goto 4, 3) := by decide +kernel
theorem dX0_isFault_16 : decode cX0_isFault 16 = .ok (.iconst 0, 1) := by decide +kernel
theorem dX0_isFault_17 : decode cX0_isFault 17 = .ok (.ireturn, 1) := by decide +kernel
theorem dX0_allSuspects_0 : decode cX0_allSuspects 0 = .ok (.sipush 1024, 3) := by decide +kernel
theorem dX0_allSuspects_3 : decode cX0_allSuspects 3 = .ok (.iconst 1, 1) := by decide +kernel
theorem dX0_allSuspects_4 : decode cX0_allSuspects 4 = .ok (.aload_n 0, 1) := by decide +kernel
theorem dX0_allSuspects_5 : decode cX0_allSuspects 5 = .ok (.getfield 58, 3) := by decide +kernel
theorem dX0_allSuspects_8 : decode cX0_allSuspects 8 = .ok (.ishl, 1) := by decide +kernel
theorem dX0_allSuspects_9 : decode cX0_allSuspects 9 = .ok (.iconst 1, 1) := by decide +kernel
theorem dX0_allSuspects_10 : decode cX0_allSuspects 10 = .ok (.isub, 1) := by decide +kernel
theorem dX0_allSuspects_11 : decode cX0_allSuspects 11 = .ok (.ior, 1) := by decide +kernel
theorem dX0_allSuspects_12 : decode cX0_allSuspects 12 = .ok (.ireturn, 1) := by decide +kernel
theorem dX0_suffers_0 : decode cX0_suffers 0 = .ok (.aload_n 0, 1) := by decide +kernel
theorem dX0_suffers_1 : decode cX0_suffers 1 = .ok (.iload_n 1, 1) := by decide +kernel
theorem dX0_suffers_2 : decode cX0_suffers 2 = .ok (.invokevirtual 91, 3) := by decide +kernel
theorem dX0_suffers_5 : decode cX0_suffers 5 = .ok (.ifCond .eq 27, 3) := by decide +kernel
theorem dX0_suffers_8 : decode cX0_suffers 8 = .ok (.aload_n 0, 1) := by decide +kernel
theorem dX0_suffers_9 : decode cX0_suffers 9 = .ok (.getfield 27, 3) := by decide +kernel
theorem dX0_suffers_12 : decode cX0_suffers 12 = .ok (.iload_n 1, 1) := by decide +kernel
theorem dX0_suffers_13 : decode cX0_suffers 13 = .ok (.iaload, 1) := by decide +kernel
theorem dX0_suffers_14 : decode cX0_suffers 14 = .ok (.iload_n 2, 1) := by decide +kernel
theorem dX0_suffers_15 : decode cX0_suffers 15 = .ok (.if_icmp .ne 17, 3) := by decide +kernel
theorem dX0_suffers_18 : decode cX0_suffers 18 = .ok (.aload_n 0, 1) := by decide +kernel
theorem dX0_suffers_19 : decode cX0_suffers 19 = .ok (.getfield 30, 3) := by decide +kernel
theorem dX0_suffers_22 : decode cX0_suffers 22 = .ok (.iload_n 1, 1) := by decide +kernel
theorem dX0_suffers_23 : decode cX0_suffers 23 = .ok (.iaload, 1) := by decide +kernel
theorem dX0_suffers_24 : decode cX0_suffers 24 = .ok (.iload_n 3, 1) := by decide +kernel
theorem dX0_suffers_25 : decode cX0_suffers 25 = .ok (.if_icmp .ne 7, 3) := by decide +kernel
theorem dX0_suffers_28 : decode cX0_suffers 28 = .ok (.iconst 1, 1) := by decide +kernel
theorem dX0_suffers_29 : decode cX0_suffers 29 = .ok (.goto 4, 3) := by decide +kernel
theorem dX0_suffers_32 : decode cX0_suffers 32 = .ok (.iconst 0, 1) := by decide +kernel
theorem dX0_suffers_33 : decode cX0_suffers 33 = .ok (.ireturn, 1) := by decide +kernel
theorem dX0_shortedWith_0 : decode cX0_shortedWith 0 = .ok (.aload_n 0, 1) := by decide +kernel
theorem dX0_shortedWith_1 : decode cX0_shortedWith 1 = .ok (.iload_n 1, 1) := by decide +kernel
theorem dX0_shortedWith_2 : decode cX0_shortedWith 2 = .ok (.invokevirtual 91, 3) := by decide +kernel
theorem dX0_shortedWith_5 : decode cX0_shortedWith 5 = .ok (.ifCond .eq 13, 3) := by decide +kernel
theorem dX0_shortedWith_8 : decode cX0_shortedWith 8 = .ok (.aload_n 0, 1) := by decide +kernel
theorem dX0_shortedWith_9 : decode cX0_shortedWith 9 = .ok (.getfield 27, 3) := by decide +kernel
theorem dX0_shortedWith_12 : decode cX0_shortedWith 12 = .ok (.iload_n 1, 1) := by decide +kernel
theorem dX0_shortedWith_13 : decode cX0_shortedWith 13 = .ok (.iaload, 1) := by decide +kernel
theorem dX0_shortedWith_14 : decode cX0_shortedWith 14 = .ok (.iconst 1, 1) := by decide +kernel
theorem dX0_shortedWith_15 : decode cX0_shortedWith 15 = .ok (.if_icmp .eq 5, 3) := by decide +kernel
theorem dX0_shortedWith_18 : decode cX0_shortedWith 18 = .ok (.iconst (-1), 1) := by decide +kernel
theorem dX0_shortedWith_19 : decode cX0_shortedWith 19 = .ok (.ireturn, 1) := by decide +kernel
theorem dX0_shortedWith_20 : decode cX0_shortedWith 20 = .ok (.aload_n 0, 1) := by decide +kernel
theorem dX0_shortedWith_21 : decode cX0_shortedWith 21 = .ok (.getfield 30, 3) := by decide +kernel
theorem dX0_shortedWith_24 : decode cX0_shortedWith 24 = .ok (.iload_n 1, 1) := by decide +kernel
theorem dX0_shortedWith_25 : decode cX0_shortedWith 25 = .ok (.iaload, 1) := by decide +kernel
theorem dX0_shortedWith_26 : decode cX0_shortedWith 26 = .ok (.iload_n 2, 1) := by decide +kernel
theorem dX0_shortedWith_27 : decode cX0_shortedWith 27 = .ok (.if_icmp .ne 10, 3) := by decide +kernel
theorem dX0_shortedWith_30 : decode cX0_shortedWith 30 = .ok (.aload_n 0, 1) := by decide +kernel
theorem dX0_shortedWith_31 : decode cX0_shortedWith 31 = .ok (.getfield 33, 3) := by decide +kernel
theorem dX0_shortedWith_34 : decode cX0_shortedWith 34 = .ok (.iload_n 1, 1) := by decide +kernel
theorem dX0_shortedWith_35 : decode cX0_shortedWith 35 = .ok (.iaload, 1) := by decide +kernel
theorem dX0_shortedWith_36 : decode cX0_shortedWith 36 = .ok (.ireturn, 1) := by decide +kernel
theorem dX0_shortedWith_37 : decode cX0_shortedWith 37 = .ok (.aload_n 0, 1) := by decide +kernel
theorem dX0_shortedWith_38 : decode cX0_shortedWith 38 = .ok (.getfield 33, 3) := by decide +kernel
theorem dX0_shortedWith_41 : decode cX0_shortedWith 41 = .ok (.iload_n 1, 1) := by decide +kernel
theorem dX0_shortedWith_42 : decode cX0_shortedWith 42 = .ok (.iaload, 1) := by decide +kernel
theorem dX0_shortedWith_43 : decode cX0_shortedWith 43 = .ok (.iload_n 2, 1) := by decide +kernel
theorem dX0_shortedWith_44 : decode cX0_shortedWith 44 = .ok (.if_icmp .ne 12, 3) := by decide +kernel
theorem dX0_shortedWith_47 : decode cX0_shortedWith 47 = .ok (.aload_n 0, 1) := by decide +kernel
theorem dX0_shortedWith_48 : decode cX0_shortedWith 48 = .ok (.getfield 30, 3) := by decide +kernel
theorem dX0_shortedWith_51 : decode cX0_shortedWith 51 = .ok (.iload_n 1, 1) := by decide +kernel
theorem dX0_shortedWith_52 : decode cX0_shortedWith 52 = .ok (.iaload, 1) := by decide +kernel
theorem dX0_shortedWith_53 : decode cX0_shortedWith 53 = .ok (.goto 4, 3) := by decide +kernel
theorem dX0_shortedWith_56 : decode cX0_shortedWith 56 = .ok (.iconst (-1), 1) := by decide +kernel
theorem dX0_shortedWith_57 : decode cX0_shortedWith 57 = .ok (.ireturn, 1) := by decide +kernel
theorem dX1_init_0 : decode cX1_init 0 = .ok (.aload_n 0, 1) := by decide +kernel
theorem dX1_init_1 : decode cX1_init 1 = .ok (.invokespecial 3, 3) := by decide +kernel
theorem dX1_init_4 : decode cX1_init 4 = .ok (.aload_n 0, 1) := by decide +kernel
theorem dX1_init_5 : decode cX1_init 5 = .ok (.iconst 4, 1) := by decide +kernel
theorem dX1_init_6 : decode cX1_init 6 = .ok (.anewarray 9, 3) := by decide +kernel
theorem dX1_init_9 : decode cX1_init 9 = .ok (.putfield 11, 3) := by decide +kernel
theorem dX1_init_12 : decode cX1_init 12 = .ok (.iconst 0, 1) := by decide +kernel
theorem dX1_init_13 : decode cX1_init 13 = .ok (.istore_n 1, 1) := by decide +kernel
theorem dX1_init_14 : decode cX1_init 14 = .ok (.iload_n 1, 1) := by decide +kernel
theorem dX1_init_15 : decode cX1_init 15 = .ok (.iconst 4, 1) := by decide +kernel
theorem dX1_init_16 : decode cX1_init 16 = .ok (.if_icmp .ge 29, 3) := by decide +kernel
theorem dX1_init_19 : decode cX1_init 19 = .ok (.aload_n 0, 1) := by decide +kernel
theorem dX1_init_20 : decode cX1_init 20 = .ok (.getfield 11, 3) := by decide +kernel
theorem dX1_init_23 : decode cX1_init 23 = .ok (.iload_n 1, 1) := by decide +kernel
theorem dX1_init_24 : decode cX1_init 24 = .ok (.new 9, 3) := by decide +kernel
theorem dX1_init_27 : decode cX1_init 27 = .ok (.dup, 1) := by decide +kernel
theorem dX1_init_28 : decode cX1_init 28 = .ok (.new 17, 3) := by decide +kernel
theorem dX1_init_31 : decode cX1_init 31 = .ok (.dup, 1) := by decide +kernel
theorem dX1_init_32 : decode cX1_init 32 = .ok (.invokespecial 19, 3) := by decide +kernel
theorem dX1_init_35 : decode cX1_init 35 = .ok (.invokespecial 20, 3) := by decide +kernel
theorem dX1_init_38 : decode cX1_init 38 = .ok (.aastore, 1) := by decide +kernel
theorem dX1_init_39 : decode cX1_init 39 = .ok (.iinc 1 1, 3) := by decide +kernel
theorem dX1_init_42 : decode cX1_init 42 = .ok (.goto (-28), 3) := by decide +kernel
theorem dX1_init_45 : decode cX1_init 45 = .ok (.return_, 1) := by decide +kernel
theorem dX1_keep_0 : decode cX1_keep 0 = .ok (.aload_n 0, 1) := by decide +kernel
theorem dX1_keep_1 : decode cX1_keep 1 = .ok (.getfield 23, 3) := by decide +kernel
theorem dX1_keep_4 : decode cX1_keep 4 = .ok (.iconst 4, 1) := by decide +kernel
theorem dX1_keep_5 : decode cX1_keep 5 = .ok (.if_icmp .lt 7, 3) := by decide +kernel
theorem dX1_keep_8 : decode cX1_keep 8 = .ok (.aload_n 0, 1) := by decide +kernel
theorem dX1_keep_9 : decode cX1_keep 9 = .ok (.invokevirtual 27, 3) := by decide +kernel
theorem dX1_keep_12 : decode cX1_keep 12 = .ok (.aload_n 0, 1) := by decide +kernel
theorem dX1_keep_13 : decode cX1_keep 13 = .ok (.getfield 11, 3) := by decide +kernel
theorem dX1_keep_16 : decode cX1_keep 16 = .ok (.aload_n 0, 1) := by decide +kernel
theorem dX1_keep_17 : decode cX1_keep 17 = .ok (.getfield 23, 3) := by decide +kernel
theorem dX1_keep_20 : decode cX1_keep 20 = .ok (.aaload, 1) := by decide +kernel
theorem dX1_keep_21 : decode cX1_keep 21 = .ok (.aload_n 1, 1) := by decide +kernel
theorem dX1_keep_22 : decode cX1_keep 22 = .ok (.invokevirtual 30, 3) := by decide +kernel
theorem dX1_keep_25 : decode cX1_keep 25 = .ok (.aload_n 0, 1) := by decide +kernel
theorem dX1_keep_26 : decode cX1_keep 26 = .ok (.dup, 1) := by decide +kernel
theorem dX1_keep_27 : decode cX1_keep 27 = .ok (.getfield 23, 3) := by decide +kernel
theorem dX1_keep_30 : decode cX1_keep 30 = .ok (.iconst 1, 1) := by decide +kernel
theorem dX1_keep_31 : decode cX1_keep 31 = .ok (.iadd, 1) := by decide +kernel
theorem dX1_keep_32 : decode cX1_keep 32 = .ok (.putfield 23, 3) := by decide +kernel
theorem dX1_keep_35 : decode cX1_keep 35 = .ok (.return_, 1) := by decide +kernel
theorem dX1_dropOldest_0 : decode cX1_dropOldest 0 = .ok (.aload_n 0, 1) := by decide +kernel
theorem dX1_dropOldest_1 : decode cX1_dropOldest 1 = .ok (.getfield 11, 3) := by decide +kernel
theorem dX1_dropOldest_4 : decode cX1_dropOldest 4 = .ok (.iconst 0, 1) := by decide +kernel
theorem dX1_dropOldest_5 : decode cX1_dropOldest 5 = .ok (.aaload, 1) := by decide +kernel
theorem dX1_dropOldest_6 : decode cX1_dropOldest 6 = .ok (.astore_n 1, 1) := by decide +kernel
theorem dX1_dropOldest_7 : decode cX1_dropOldest 7 = .ok (.iconst 1, 1) := by decide +kernel
theorem dX1_dropOldest_8 : decode cX1_dropOldest 8 = .ok (.istore_n 2, 1) := by decide +kernel
theorem dX1_dropOldest_9 : decode cX1_dropOldest 9 = .ok (.iload_n 2, 1) := by decide +kernel
theorem dX1_dropOldest_10 : decode cX1_dropOldest 10 = .ok (.iconst 4, 1) := by decide +kernel
theorem dX1_dropOldest_11 : decode cX1_dropOldest 11 = .ok (.if_icmp .ge 23, 3) := by decide +kernel
theorem dX1_dropOldest_14 : decode cX1_dropOldest 14 = .ok (.aload_n 0, 1) := by decide +kernel
theorem dX1_dropOldest_15 : decode cX1_dropOldest 15 = .ok (.getfield 11, 3) := by decide +kernel
theorem dX1_dropOldest_18 : decode cX1_dropOldest 18 = .ok (.iload_n 2, 1) := by decide +kernel
theorem dX1_dropOldest_19 : decode cX1_dropOldest 19 = .ok (.iconst 1, 1) := by decide +kernel
theorem dX1_dropOldest_20 : decode cX1_dropOldest 20 = .ok (.isub, 1) := by decide +kernel
theorem dX1_dropOldest_21 : decode cX1_dropOldest 21 = .ok (.aload_n 0, 1) := by decide +kernel
theorem dX1_dropOldest_22 : decode cX1_dropOldest 22 = .ok (.getfield 11, 3) := by decide +kernel
theorem dX1_dropOldest_25 : decode cX1_dropOldest 25 = .ok (.iload_n 2, 1) := by decide +kernel
theorem dX1_dropOldest_26 : decode cX1_dropOldest 26 = .ok (.aaload, 1) := by decide +kernel
theorem dX1_dropOldest_27 : decode cX1_dropOldest 27 = .ok (.aastore, 1) := by decide +kernel
theorem dX1_dropOldest_28 : decode cX1_dropOldest 28 = .ok (.iinc 2 1, 3) := by decide +kernel
theorem dX1_dropOldest_31 : decode cX1_dropOldest 31 = .ok (.goto (-22), 3) := by decide +kernel
theorem dX1_dropOldest_34 : decode cX1_dropOldest 34 = .ok (.aload_n 0, 1) := by decide +kernel
theorem dX1_dropOldest_35 : decode cX1_dropOldest 35 = .ok (.getfield 11, 3) := by decide +kernel
theorem dX1_dropOldest_38 : decode cX1_dropOldest 38 = .ok (.iconst 3, 1) := by decide +kernel
theorem dX1_dropOldest_39 : decode cX1_dropOldest 39 = .ok (.aload_n 1, 1) := by decide +kernel
theorem dX1_dropOldest_40 : decode cX1_dropOldest 40 = .ok (.aastore, 1) := by decide +kernel
theorem dX1_dropOldest_41 : decode cX1_dropOldest 41 = .ok (.aload_n 0, 1) := by decide +kernel
theorem dX1_dropOldest_42 : decode cX1_dropOldest 42 = .ok (.iconst 3, 1) := by decide +kernel
theorem dX1_dropOldest_43 : decode cX1_dropOldest 43 = .ok (.putfield 23, 3) := by decide +kernel
theorem dX1_dropOldest_46 : decode cX1_dropOldest 46 = .ok (.return_, 1) := by decide +kernel
theorem dX1_restore_0 : decode cX1_restore 0 = .ok (.aload_n 0, 1) := by decide +kernel
theorem dX1_restore_1 : decode cX1_restore 1 = .ok (.getfield 23, 3) := by decide +kernel
theorem dX1_restore_4 : decode cX1_restore 4 = .ok (.ifCond .le 26, 3) := by decide +kernel
theorem dX1_restore_7 : decode cX1_restore 7 = .ok (.aload_n 0, 1) := by decide +kernel
theorem dX1_restore_8 : decode cX1_restore 8 = .ok (.dup, 1) := by decide +kernel
theorem dX1_restore_9 : decode cX1_restore 9 = .ok (.getfield 23, 3) := by decide +kernel
theorem dX1_restore_12 : decode cX1_restore 12 = .ok (.iconst 1, 1) := by decide +kernel
theorem dX1_restore_13 : decode cX1_restore 13 = .ok (.isub, 1) := by decide +kernel
theorem dX1_restore_14 : decode cX1_restore 14 = .ok (.putfield 23, 3) := by decide +kernel
theorem dX1_restore_17 : decode cX1_restore 17 = .ok (.aload_n 1, 1) := by decide +kernel
theorem dX1_restore_18 : decode cX1_restore 18 = .ok (.aload_n 0, 1) := by decide +kernel
theorem dX1_restore_19 : decode cX1_restore 19 = .ok (.getfield 11, 3) := by decide +kernel
theorem dX1_restore_22 : decode cX1_restore 22 = .ok (.aload_n 0, 1) := by decide +kernel
theorem dX1_restore_23 : decode cX1_restore 23 = .ok (.getfield 23, 3) := by decide +kernel
theorem dX1_restore_26 : decode cX1_restore 26 = .ok (.aaload, 1) := by decide +kernel
theorem dX1_restore_27 : decode cX1_restore 27 = .ok (.invokevirtual 30, 3) := by decide +kernel
theorem dX1_restore_30 : decode cX1_restore 30 = .ok (.return_, 1) := by decide +kernel
theorem dX2_init_0 : decode cX2_init 0 = .ok (.aload_n 0, 1) := by decide +kernel
theorem dX2_init_1 : decode cX2_init 1 = .ok (.invokespecial 3, 3) := by decide +kernel
theorem dX2_init_4 : decode cX2_init 4 = .ok (.aload_n 0, 1) := by decide +kernel
theorem dX2_init_5 : decode cX2_init 5 = .ok (.bipush 11, 2) := by decide +kernel
theorem dX2_init_7 : decode cX2_init 7 = .ok (.anewarray 9, 3) := by decide +kernel
theorem dX2_init_10 : decode cX2_init 10 = .ok (.putfield 11, 3) := by decide +kernel
theorem dX2_init_13 : decode cX2_init 13 = .ok (.aload_n 0, 1) := by decide +kernel
theorem dX2_init_14 : decode cX2_init 14 = .ok (.bipush 7, 2) := by decide +kernel
theorem dX2_init_16 : decode cX2_init 16 = .ok (.bipush 11, 2) := by decide +kernel
theorem dX2_init_18 : decode cX2_init 18 = .ok (.multianewarray 17 2, 4) := by decide +kernel
theorem dX2_init_22 : decode cX2_init 22 = .ok (.putfield 19, 3) := by decide +kernel
theorem dX2_init_25 : decode cX2_init 25 = .ok (.aload_n 0, 1) := by decide +kernel
theorem dX2_init_26 : decode cX2_init 26 = .ok (.bipush 55, 2) := by decide +kernel
theorem dX2_init_28 : decode cX2_init 28 = .ok (.newarray .int, 2) := by decide +kernel
theorem dX2_init_30 : decode cX2_init 30 = .ok (.putfield 22, 3) := by decide +kernel
theorem dX2_init_33 : decode cX2_init 33 = .ok (.aload_n 0, 1) := by decide +kernel
theorem dX2_init_34 : decode cX2_init 34 = .ok (.aload_n 1, 1) := by decide +kernel
theorem dX2_init_35 : decode cX2_init 35 = .ok (.putfield 26, 3) := by decide +kernel
theorem dX2_init_38 : decode cX2_init 38 = .ok (.iconst 0, 1) := by decide +kernel
theorem dX2_init_39 : decode cX2_init 39 = .ok (.istore_n 2, 1) := by decide +kernel
theorem dX2_init_40 : decode cX2_init 40 = .ok (.iload_n 2, 1) := by decide +kernel
theorem dX2_init_41 : decode cX2_init 41 = .ok (.bipush 11, 2) := by decide +kernel
theorem dX2_init_43 : decode cX2_init 43 = .ok (.if_icmp .ge 24, 3) := by decide +kernel
theorem dX2_init_46 : decode cX2_init 46 = .ok (.aload_n 0, 1) := by decide +kernel
theorem dX2_init_47 : decode cX2_init 47 = .ok (.getfield 11, 3) := by decide +kernel
theorem dX2_init_50 : decode cX2_init 50 = .ok (.iload_n 2, 1) := by decide +kernel
theorem dX2_init_51 : decode cX2_init 51 = .ok (.new 9, 3) := by decide +kernel
theorem dX2_init_54 : decode cX2_init 54 = .ok (.dup, 1) := by decide +kernel
theorem dX2_init_55 : decode cX2_init 55 = .ok (.aload_n 1, 1) := by decide +kernel
theorem dX2_init_56 : decode cX2_init 56 = .ok (.iload_n 2, 1) := by decide +kernel
theorem dX2_init_57 : decode cX2_init 57 = .ok (.invokespecial 30, 3) := by decide +kernel
theorem dX2_init_60 : decode cX2_init 60 = .ok (.aastore, 1) := by decide +kernel
theorem dX2_init_61 : decode cX2_init 61 = .ok (.iinc 2 1, 3) := by decide +kernel
theorem dX2_init_64 : decode cX2_init 64 = .ok (.goto (-24), 3) := by decide +kernel
theorem dX2_init_67 : decode cX2_init 67 = .ok (.return_, 1) := by decide +kernel
theorem dX2_suppose_0 : decode cX2_suppose 0 = .ok (.aload_n 0, 1) := by decide +kernel
theorem dX2_suppose_1 : decode cX2_suppose 1 = .ok (.getfield 11, 3) := by decide +kernel
theorem dX2_suppose_4 : decode cX2_suppose 4 = .ok (.iload_n 1, 1) := by decide +kernel
theorem dX2_suppose_5 : decode cX2_suppose 5 = .ok (.aaload, 1) := by decide +kernel
theorem dX2_suppose_6 : decode cX2_suppose 6 = .ok (.invokevirtual 33, 3) := by decide +kernel
theorem dX2_suppose_9 : decode cX2_suppose 9 = .ok (.aload_n 0, 1) := by decide +kernel
theorem dX2_suppose_10 : decode cX2_suppose 10 = .ok (.getfield 11, 3) := by decide +kernel
theorem dX2_suppose_13 : decode cX2_suppose 13 = .ok (.iload_n 1, 1) := by decide +kernel
theorem dX2_suppose_14 : decode cX2_suppose 14 = .ok (.aaload, 1) := by decide +kernel
theorem dX2_suppose_15 : decode cX2_suppose 15 = .ok (.areturn, 1) := by decide +kernel
theorem dX2_supposeAll_0 : decode cX2_supposeAll 0 = .ok (.iconst 0, 1) := by decide +kernel
theorem dX2_supposeAll_1 : decode cX2_supposeAll 1 = .ok (.istore_n 2, 1) := by decide +kernel
theorem dX2_supposeAll_2 : decode cX2_supposeAll 2 = .ok (.iload_n 2, 1) := by decide +kernel
theorem dX2_supposeAll_3 : decode cX2_supposeAll 3 = .ok (.bipush 11, 2) := by decide +kernel
theorem dX2_supposeAll_5 : decode cX2_supposeAll 5 = .ok (.if_icmp .ge 26, 3) := by decide +kernel
theorem dX2_supposeAll_8 : decode cX2_supposeAll 8 = .ok (.iload_n 1, 1) := by decide +kernel
theorem dX2_supposeAll_9 : decode cX2_supposeAll 9 = .ok (.iload_n 2, 1) := by decide +kernel
theorem dX2_supposeAll_10 : decode cX2_supposeAll 10 = .ok (.invokestatic 36, 3) := by decide +kernel
theorem dX2_supposeAll_13 : decode cX2_supposeAll 13 = .ok (.ifCond .eq 12, 3) := by decide +kernel
theorem dX2_supposeAll_16 : decode cX2_supposeAll 16 = .ok (.aload_n 0, 1) := by decide +kernel
theorem dX2_supposeAll_17 : decode cX2_supposeAll 17 = .ok (.getfield 11, 3) := by decide +kernel
theorem dX2_supposeAll_20 : decode cX2_supposeAll 20 = .ok (.iload_n 2, 1) := by decide +kernel
theorem dX2_supposeAll_21 : decode cX2_supposeAll 21 = .ok (.aaload, 1) := by decide +kernel
theorem dX2_supposeAll_22 : decode cX2_supposeAll 22 = .ok (.invokevirtual 33, 3) := by decide +kernel
theorem dX2_supposeAll_25 : decode cX2_supposeAll 25 = .ok (.iinc 2 1, 3) := by decide +kernel
theorem dX2_supposeAll_28 : decode cX2_supposeAll 28 = .ok (.goto (-26), 3) := by decide +kernel
theorem dX2_supposeAll_31 : decode cX2_supposeAll 31 = .ok (.return_, 1) := by decide +kernel
theorem dX2_probeAll_0 : decode cX2_probeAll 0 = .ok (.iconst 0, 1) := by decide +kernel
theorem dX2_probeAll_1 : decode cX2_probeAll 1 = .ok (.istore_n 3, 1) := by decide +kernel
theorem dX2_probeAll_2 : decode cX2_probeAll 2 = .ok (.iload_n 3, 1) := by decide +kernel
theorem dX2_probeAll_3 : decode cX2_probeAll 3 = .ok (.bipush 11, 2) := by decide +kernel
theorem dX2_probeAll_5 : decode cX2_probeAll 5 = .ok (.if_icmp .ge 27, 3) := by decide +kernel
theorem dX2_probeAll_8 : decode cX2_probeAll 8 = .ok (.iload_n 1, 1) := by decide +kernel
theorem dX2_probeAll_9 : decode cX2_probeAll 9 = .ok (.iload_n 3, 1) := by decide +kernel
theorem dX2_probeAll_10 : decode cX2_probeAll 10 = .ok (.invokestatic 36, 3) := by decide +kernel
theorem dX2_probeAll_13 : decode cX2_probeAll 13 = .ok (.ifCond .eq 13, 3) := by decide +kernel
theorem dX2_probeAll_16 : decode cX2_probeAll 16 = .ok (.aload_n 0, 1) := by decide +kernel
theorem dX2_probeAll_17 : decode cX2_probeAll 17 = .ok (.getfield 11, 3) := by decide +kernel
theorem dX2_probeAll_20 : decode cX2_probeAll 20 = .ok (.iload_n 3, 1) := by decide +kernel
theorem dX2_probeAll_21 : decode cX2_probeAll 21 = .ok (.aaload, 1) := by decide +kernel
theorem dX2_probeAll_22 : decode cX2_probeAll 22 = .ok (.iload_n 2, 1) := by decide +kernel
theorem dX2_probeAll_23 : decode cX2_probeAll 23 = .ok (.invokevirtual 40, 3) := by decide +kernel
theorem dX2_probeAll_26 : decode cX2_probeAll 26 = .ok (.iinc 3 1, 3) := by decide +kernel
theorem dX2_probeAll_29 : decode cX2_probeAll 29 = .ok (.goto (-27), 3) := by decide +kernel
theorem dX2_probeAll_32 : decode cX2_probeAll 32 = .ok (.return_, 1) := by decide +kernel
theorem dX2_probedLike_0 : decode cX2_probedLike 0 = .ok (.iconst 0, 1) := by decide +kernel
theorem dX2_probedLike_1 : decode cX2_probedLike 1 = .ok (.istore_n 3, 1) := by decide +kernel
theorem dX2_probedLike_2 : decode cX2_probedLike 2 = .ok (.iconst 0, 1) := by decide +kernel
theorem dX2_probedLike_3 : decode cX2_probedLike 3 = .ok (.istore 4, 2) := by decide +kernel
theorem dX2_probedLike_5 : decode cX2_probedLike 5 = .ok (.iload 4, 2) := by decide +kernel
theorem dX2_probedLike_7 : decode cX2_probedLike 7 = .ok (.bipush 11, 2) := by decide +kernel
theorem dX2_probedLike_9 : decode cX2_probedLike 9 = .ok (.if_icmp .ge 44, 3) := by decide +kernel
theorem dX2_probedLike_12 : decode cX2_probedLike 12 = .ok (.iload_n 2, 1) := by decide +kernel
theorem dX2_probedLike_13 : decode cX2_probedLike 13 = .ok (.iload 4, 2) := by decide +kernel
theorem dX2_probedLike_15 : decode cX2_probedLike 15 = .ok (.invokestatic 36, 3) := by decide +kernel
theorem dX2_probedLike_18 : decode cX2_probedLike 18 = .ok (.ifCond .eq 29, 3) := by decide +kernel
theorem dX2_probedLike_21 : decode cX2_probedLike 21 = .ok (.aload_n 0, 1) := by decide +kernel
theorem dX2_probedLike_22 : decode cX2_probedLike 22 = .ok (.getfield 11, 3) := by decide +kernel
theorem dX2_probedLike_25 : decode cX2_probedLike 25 = .ok (.iload_n 1, 1) := by decide +kernel
theorem dX2_probedLike_26 : decode cX2_probedLike 26 = .ok (.aaload, 1) := by decide +kernel
theorem dX2_probedLike_27 : decode cX2_probedLike 27 = .ok (.aload_n 0, 1) := by decide +kernel
theorem dX2_probedLike_28 : decode cX2_probedLike 28 = .ok (.getfield 11, 3) := by decide +kernel
theorem dX2_probedLike_31 : decode cX2_probedLike 31 = .ok (.iload 4, 2) := by decide +kernel
theorem dX2_probedLike_33 : decode cX2_probedLike 33 = .ok (.aaload, 1) := by decide +kernel
theorem dX2_probedLike_34 : decode cX2_probedLike 34 = .ok (.invokevirtual 44, 3) := by decide +kernel
theorem dX2_probedLike_37 : decode cX2_probedLike 37 = .ok (.ifCond .eq 10, 3) := by decide +kernel
theorem dX2_probedLike_40 : decode cX2_probedLike 40 = .ok (.iload_n 3, 1) := by decide +kernel
theorem dX2_probedLike_41 : decode cX2_probedLike 41 = .ok (.iconst 1, 1) := by decide +kernel
theorem dX2_probedLike_42 : decode cX2_probedLike 42 = .ok (.iload 4, 2) := by decide +kernel
theorem dX2_probedLike_44 : decode cX2_probedLike 44 = .ok (.ishl, 1) := by decide +kernel
theorem dX2_probedLike_45 : decode cX2_probedLike 45 = .ok (.ior, 1) := by decide +kernel
theorem dX2_probedLike_46 : decode cX2_probedLike 46 = .ok (.istore_n 3, 1) := by decide +kernel
theorem dX2_probedLike_47 : decode cX2_probedLike 47 = .ok (.iinc 4 1, 3) := by decide +kernel
theorem dX2_probedLike_50 : decode cX2_probedLike 50 = .ok (.goto (-45), 3) := by decide +kernel
theorem dX2_probedLike_53 : decode cX2_probedLike 53 = .ok (.iload_n 3, 1) := by decide +kernel
theorem dX2_probedLike_54 : decode cX2_probedLike 54 = .ok (.ireturn, 1) := by decide +kernel
theorem dX2_leftBy_0 : decode cX2_leftBy 0 = .ok (.aload_n 0, 1) := by decide +kernel
theorem dX2_leftBy_1 : decode cX2_leftBy 1 = .ok (.iload_n 3, 1) := by decide +kernel
theorem dX2_leftBy_2 : decode cX2_leftBy 2 = .ok (.iconst 1, 1) := by decide +kernel
theorem dX2_leftBy_3 : decode cX2_leftBy 3 = .ok (.iload_n 2, 1) := by decide +kernel
theorem dX2_leftBy_4 : decode cX2_leftBy 4 = .ok (.ishl, 1) := by decide +kernel
theorem dX2_leftBy_5 : decode cX2_leftBy 5 = .ok (.ior, 1) := by decide +kernel
theorem dX2_leftBy_6 : decode cX2_leftBy 6 = .ok (.invokevirtual 48, 3) := by decide +kernel
theorem dX2_leftBy_9 : decode cX2_leftBy 9 = .ok (.aload_n 0, 1) := by decide +kernel
theorem dX2_leftBy_10 : decode cX2_leftBy 10 = .ok (.iload_n 3, 1) := by decide +kernel
theorem dX2_leftBy_11 : decode cX2_leftBy 11 = .ok (.iconst 1, 1) := by decide +kernel
theorem dX2_leftBy_12 : decode cX2_leftBy 12 = .ok (.iload_n 2, 1) := by decide +kernel
theorem dX2_leftBy_13 : decode cX2_leftBy 13 = .ok (.ishl, 1) := by decide +kernel
theorem dX2_leftBy_14 : decode cX2_leftBy 14 = .ok (.ior, 1) := by decide +kernel
theorem dX2_leftBy_15 : decode cX2_leftBy 15 = .ok (.iload_n 1, 1) := by decide +kernel
theorem dX2_leftBy_16 : decode cX2_leftBy 16 = .ok (.invokevirtual 51, 3) := by decide +kernel
theorem dX2_leftBy_19 : decode cX2_leftBy 19 = .ok (.aload_n 0, 1) := by decide +kernel
theorem dX2_leftBy_20 : decode cX2_leftBy 20 = .ok (.iload_n 2, 1) := by decide +kernel
theorem dX2_leftBy_21 : decode cX2_leftBy 21 = .ok (.iload_n 3, 1) := by decide +kernel
theorem dX2_leftBy_22 : decode cX2_leftBy 22 = .ok (.invokevirtual 55, 3) := by decide +kernel
theorem dX2_leftBy_25 : decode cX2_leftBy 25 = .ok (.ireturn, 1) := by decide +kernel
theorem dX2_measureWeek_0 : decode cX2_measureWeek 0 = .ok (.aload_n 0, 1) := by decide +kernel
theorem dX2_measureWeek_1 : decode cX2_measureWeek 1 = .ok (.getfield 26, 3) := by decide +kernel
theorem dX2_measureWeek_4 : decode cX2_measureWeek 4 = .ok (.invokevirtual 59, 3) := by decide +kernel
theorem dX2_measureWeek_7 : decode cX2_measureWeek 7 = .ok (.istore_n 1, 1) := by decide +kernel
theorem dX2_measureWeek_8 : decode cX2_measureWeek 8 = .ok (.aload_n 0, 1) := by decide +kernel
theorem dX2_measureWeek_9 : decode cX2_measureWeek 9 = .ok (.iload_n 1, 1) := by decide +kernel
theorem dX2_measureWeek_10 : decode cX2_measureWeek 10 = .ok (.invokevirtual 48, 3) := by decide +kernel
theorem dX2_measureWeek_13 : decode cX2_measureWeek 13 = .ok (.iconst 0, 1) := by decide +kernel
theorem dX2_measureWeek_14 : decode cX2_measureWeek 14 = .ok (.istore_n 2, 1) := by decide +kernel
theorem dX2_measureWeek_15 : decode cX2_measureWeek 15 = .ok (.iload_n 2, 1) := by decide +kernel
theorem dX2_measureWeek_16 : decode cX2_measureWeek 16 = .ok (.bipush 7, 2) := by decide +kernel
theorem dX2_measureWeek_18 : decode cX2_measureWeek 18 = .ok (.if_icmp .ge 62, 3) := by decide +kernel
theorem dX2_measureWeek_21 : decode cX2_measureWeek 21 = .ok (.aload_n 0, 1) := by decide +kernel
theorem dX2_measureWeek_22 : decode cX2_measureWeek 22 = .ok (.iload_n 1, 1) := by decide +kernel
theorem dX2_measureWeek_23 : decode cX2_measureWeek 23 = .ok (.aload_n 0, 1) := by decide +kernel
theorem dX2_measureWeek_24 : decode cX2_measureWeek 24 = .ok (.getfield 26, 3) := by decide +kernel
theorem dX2_measureWeek_27 : decode cX2_measureWeek 27 = .ok (.iload_n 2, 1) := by decide +kernel
theorem dX2_measureWeek_28 : decode cX2_measureWeek 28 = .ok (.invokevirtual 65, 3) := by decide +kernel
theorem dX2_measureWeek_31 : decode cX2_measureWeek 31 = .ok (.invokevirtual 51, 3) := by decide +kernel
theorem dX2_measureWeek_34 : decode cX2_measureWeek 34 = .ok (.iconst 0, 1) := by decide +kernel
theorem dX2_measureWeek_35 : decode cX2_measureWeek 35 = .ok (.istore_n 3, 1) := by decide +kernel
theorem dX2_measureWeek_36 : decode cX2_measureWeek 36 = .ok (.iload_n 3, 1) := by decide +kernel
theorem dX2_measureWeek_37 : decode cX2_measureWeek 37 = .ok (.bipush 11, 2) := by decide +kernel
theorem dX2_measureWeek_39 : decode cX2_measureWeek 39 = .ok (.if_icmp .ge 35, 3) := by decide +kernel
theorem dX2_measureWeek_42 : decode cX2_measureWeek 42 = .ok (.aload_n 0, 1) := by decide +kernel
theorem dX2_measureWeek_43 : decode cX2_measureWeek 43 = .ok (.getfield 19, 3) := by decide +kernel
theorem dX2_measureWeek_46 : decode cX2_measureWeek 46 = .ok (.iload_n 2, 1) := by decide +kernel
theorem dX2_measureWeek_47 : decode cX2_measureWeek 47 = .ok (.aaload, 1) := by decide +kernel
theorem dX2_measureWeek_48 : decode cX2_measureWeek 48 = .ok (.iload_n 3, 1) := by decide +kernel
theorem dX2_measureWeek_49 : decode cX2_measureWeek 49 = .ok (.iload_n 1, 1) := by decide +kernel
theorem dX2_measureWeek_50 : decode cX2_measureWeek 50 = .ok (.iload_n 3, 1) := by decide +kernel
theorem dX2_measureWeek_51 : decode cX2_measureWeek 51 = .ok (.invokestatic 36, 3) := by decide +kernel
theorem dX2_measureWeek_54 : decode cX2_measureWeek 54 = .ok (.ifCond .eq 12, 3) := by decide +kernel
theorem dX2_measureWeek_57 : decode cX2_measureWeek 57 = .ok (.aload_n 0, 1) := by decide +kernel
theorem dX2_measureWeek_58 : decode cX2_measureWeek 58 = .ok (.iload_n 3, 1) := by decide +kernel
theorem dX2_measureWeek_59 : decode cX2_measureWeek 59 = .ok (.iload_n 1, 1) := by decide +kernel
theorem dX2_measureWeek_60 : decode cX2_measureWeek 60 = .ok (.invokevirtual 69, 3) := by decide +kernel
theorem dX2_measureWeek_63 : decode cX2_measureWeek 63 = .ok (.goto 4, 3) := by decide +kernel
theorem dX2_measureWeek_66 : decode cX2_measureWeek 66 = .ok (.iconst (-1), 1) := by decide +kernel
theorem dX2_measureWeek_67 : decode cX2_measureWeek 67 = .ok (.iastore, 1) := by decide +kernel
theorem dX2_measureWeek_68 : decode cX2_measureWeek 68 = .ok (.iinc 3 1, 3) := by decide +kernel
theorem dX2_measureWeek_71 : decode cX2_measureWeek 71 = .ok (.goto (-35), 3) := by decide +kernel
theorem dX2_measureWeek_74 : decode cX2_measureWeek 74 = .ok (.iinc 2 1, 3) := by decide +kernel
theorem dX2_measureWeek_77 : decode cX2_measureWeek 77 = .ok (.goto (-62), 3) := by decide +kernel
theorem dX2_measureWeek_80 : decode cX2_measureWeek 80 = .ok (.return_, 1) := by decide +kernel
theorem dX2_firstProbedLike_0 : decode cX2_firstProbedLike 0 = .ok (.iconst 0, 1) := by decide +kernel
theorem dX2_firstProbedLike_1 : decode cX2_firstProbedLike 1 = .ok (.istore_n 3, 1) := by decide +kernel
theorem dX2_firstProbedLike_2 : decode cX2_firstProbedLike 2 = .ok (.iload_n 3, 1) := by decide +kernel
theorem dX2_firstProbedLike_3 : decode cX2_firstProbedLike 3 = .ok (.iload_n 1, 1) := by decide +kernel
theorem dX2_firstProbedLike_4 : decode cX2_firstProbedLike 4 = .ok (.if_icmp .ge 37, 3) := by decide +kernel
theorem dX2_firstProbedLike_7 : decode cX2_firstProbedLike 7 = .ok (.iload_n 2, 1) := by decide +kernel
theorem dX2_firstProbedLike_8 : decode cX2_firstProbedLike 8 = .ok (.iload_n 3, 1) := by decide +kernel
theorem dX2_firstProbedLike_9 : decode cX2_firstProbedLike 9 = .ok (.invokestatic 36, 3) := by decide +kernel
theorem dX2_firstProbedLike_12 : decode cX2_firstProbedLike 12 = .ok (.ifCond .eq 23, 3) := by decide +kernel
theorem dX2_firstProbedLike_15 : decode cX2_firstProbedLike 15 = .ok (.aload_n 0, 1) := by decide +kernel
theorem dX2_firstProbedLike_16 : decode cX2_firstProbedLike 16 = .ok (.getfield 11, 3) := by decide +kernel
theorem dX2_firstProbedLike_19 : decode cX2_firstProbedLike 19 = .ok (.iload_n 1, 1) := by decide +kernel
theorem dX2_firstProbedLike_20 : decode cX2_firstProbedLike 20 = .ok (.aaload, 1) := by decide +kernel
theorem dX2_firstProbedLike_21 : decode cX2_firstProbedLike 21 = .ok (.aload_n 0, 1) := by decide +kernel
theorem dX2_firstProbedLike_22 : decode cX2_firstProbedLike 22 = .ok (.getfield 11, 3) := by decide +kernel
theorem dX2_firstProbedLike_25 : decode cX2_firstProbedLike 25 = .ok (.iload_n 3, 1) := by decide +kernel
theorem dX2_firstProbedLike_26 : decode cX2_firstProbedLike 26 = .ok (.aaload, 1) := by decide +kernel
theorem dX2_firstProbedLike_27 : decode cX2_firstProbedLike 27 = .ok (.invokevirtual 44, 3) := by decide +kernel
theorem dX2_firstProbedLike_30 : decode cX2_firstProbedLike 30 = .ok (.ifCond .eq 5, 3) := by decide +kernel
theorem dX2_firstProbedLike_33 : decode cX2_firstProbedLike 33 = .ok (.iload_n 3, 1) := by decide +kernel
theorem dX2_firstProbedLike_34 : decode cX2_firstProbedLike 34 = .ok (.ireturn, 1) := by decide +kernel
theorem dX2_firstProbedLike_35 : decode cX2_firstProbedLike 35 = .ok (.iinc 3 1, 3) := by decide +kernel
theorem dX2_firstProbedLike_38 : decode cX2_firstProbedLike 38 = .ok (.goto (-36), 3) := by decide +kernel
theorem dX2_firstProbedLike_41 : decode cX2_firstProbedLike 41 = .ok (.iload_n 1, 1) := by decide +kernel
theorem dX2_firstProbedLike_42 : decode cX2_firstProbedLike 42 = .ok (.ireturn, 1) := by decide +kernel
theorem dX2_daysAlike_0 : decode cX2_daysAlike 0 = .ok (.iconst 0, 1) := by decide +kernel
theorem dX2_daysAlike_1 : decode cX2_daysAlike 1 = .ok (.istore_n 3, 1) := by decide +kernel
theorem dX2_daysAlike_2 : decode cX2_daysAlike 2 = .ok (.iconst 0, 1) := by decide +kernel
theorem dX2_daysAlike_3 : decode cX2_daysAlike 3 = .ok (.istore 4, 2) := by decide +kernel
theorem dX2_daysAlike_5 : decode cX2_daysAlike 5 = .ok (.iload 4, 2) := by decide +kernel
theorem dX2_daysAlike_7 : decode cX2_daysAlike 7 = .ok (.bipush 7, 2) := by decide +kernel
theorem dX2_daysAlike_9 : decode cX2_daysAlike 9 = .ok (.if_icmp .ge 37, 3) := by decide +kernel
theorem dX2_daysAlike_12 : decode cX2_daysAlike 12 = .ok (.aload_n 0, 1) := by decide +kernel
theorem dX2_daysAlike_13 : decode cX2_daysAlike 13 = .ok (.getfield 19, 3) := by decide +kernel
theorem dX2_daysAlike_16 : decode cX2_daysAlike 16 = .ok (.iload 4, 2) := by decide +kernel
theorem dX2_daysAlike_18 : decode cX2_daysAlike 18 = .ok (.aaload, 1) := by decide +kernel
theorem dX2_daysAlike_19 : decode cX2_daysAlike 19 = .ok (.iload_n 1, 1) := by decide +kernel
theorem dX2_daysAlike_20 : decode cX2_daysAlike 20 = .ok (.iaload, 1) := by decide +kernel
theorem dX2_daysAlike_21 : decode cX2_daysAlike 21 = .ok (.aload_n 0, 1) := by decide +kernel
theorem dX2_daysAlike_22 : decode cX2_daysAlike 22 = .ok (.getfield 19, 3) := by decide +kernel
theorem dX2_daysAlike_25 : decode cX2_daysAlike 25 = .ok (.iload 4, 2) := by decide +kernel
theorem dX2_daysAlike_27 : decode cX2_daysAlike 27 = .ok (.aaload, 1) := by decide +kernel
theorem dX2_daysAlike_28 : decode cX2_daysAlike 28 = .ok (.iload_n 2, 1) := by decide +kernel
theorem dX2_daysAlike_29 : decode cX2_daysAlike 29 = .ok (.iaload, 1) := by decide +kernel
theorem dX2_daysAlike_30 : decode cX2_daysAlike 30 = .ok (.if_icmp .ne 10, 3) := by decide +kernel
theorem dX2_daysAlike_33 : decode cX2_daysAlike 33 = .ok (.iload_n 3, 1) := by decide +kernel
theorem dX2_daysAlike_34 : decode cX2_daysAlike 34 = .ok (.iconst 1, 1) := by decide +kernel
theorem dX2_daysAlike_35 : decode cX2_daysAlike 35 = .ok (.iload 4, 2) := by decide +kernel
theorem dX2_daysAlike_37 : decode cX2_daysAlike 37 = .ok (.ishl, 1) := by decide +kernel
theorem dX2_daysAlike_38 : decode cX2_daysAlike 38 = .ok (.ior, 1) := by decide +kernel
theorem dX2_daysAlike_39 : decode cX2_daysAlike 39 = .ok (.istore_n 3, 1) := by decide +kernel
theorem dX2_daysAlike_40 : decode cX2_daysAlike 40 = .ok (.iinc 4 1, 3) := by decide +kernel
theorem dX2_daysAlike_43 : decode cX2_daysAlike 43 = .ok (.goto (-38), 3) := by decide +kernel
theorem dX2_daysAlike_46 : decode cX2_daysAlike 46 = .ok (.iload_n 3, 1) := by decide +kernel
theorem dX2_daysAlike_47 : decode cX2_daysAlike 47 = .ok (.ireturn, 1) := by decide +kernel
theorem dX2_daysUnlike_0 : decode cX2_daysUnlike 0 = .ok (.bipush 127, 2) := by decide +kernel
theorem dX2_daysUnlike_2 : decode cX2_daysUnlike 2 = .ok (.aload_n 0, 1) := by decide +kernel
theorem dX2_daysUnlike_3 : decode cX2_daysUnlike 3 = .ok (.iload_n 1, 1) := by decide +kernel
theorem dX2_daysUnlike_4 : decode cX2_daysUnlike 4 = .ok (.iload_n 2, 1) := by decide +kernel
theorem dX2_daysUnlike_5 : decode cX2_daysUnlike 5 = .ok (.invokevirtual 72, 3) := by decide +kernel
theorem dX2_daysUnlike_8 : decode cX2_daysUnlike 8 = .ok (.iconst (-1), 1) := by decide +kernel
theorem dX2_daysUnlike_9 : decode cX2_daysUnlike 9 = .ok (.ixor, 1) := by decide +kernel
theorem dX2_daysUnlike_10 : decode cX2_daysUnlike 10 = .ok (.iand, 1) := by decide +kernel
theorem dX2_daysUnlike_11 : decode cX2_daysUnlike 11 = .ok (.ireturn, 1) := by decide +kernel
theorem dX2_suspectsLike_0 : decode cX2_suspectsLike 0 = .ok (.iconst 0, 1) := by decide +kernel
theorem dX2_suspectsLike_1 : decode cX2_suspectsLike 1 = .ok (.istore_n 3, 1) := by decide +kernel
theorem dX2_suspectsLike_2 : decode cX2_suspectsLike 2 = .ok (.iconst 0, 1) := by decide +kernel
theorem dX2_suspectsLike_3 : decode cX2_suspectsLike 3 = .ok (.istore 4, 2) := by decide +kernel
theorem dX2_suspectsLike_5 : decode cX2_suspectsLike 5 = .ok (.iload 4, 2) := by decide +kernel
theorem dX2_suspectsLike_7 : decode cX2_suspectsLike 7 = .ok (.bipush 11, 2) := by decide +kernel
theorem dX2_suspectsLike_9 : decode cX2_suspectsLike 9 = .ok (.if_icmp .ge 36, 3) := by decide +kernel
theorem dX2_suspectsLike_12 : decode cX2_suspectsLike 12 = .ok (.aload_n 0, 1) := by decide +kernel
theorem dX2_suspectsLike_13 : decode cX2_suspectsLike 13 = .ok (.getfield 19, 3) := by decide +kernel
theorem dX2_suspectsLike_16 : decode cX2_suspectsLike 16 = .ok (.iload_n 1, 1) := by decide +kernel
theorem dX2_suspectsLike_17 : decode cX2_suspectsLike 17 = .ok (.aaload, 1) := by decide +kernel
theorem dX2_suspectsLike_18 : decode cX2_suspectsLike 18 = .ok (.iload 4, 2) := by decide +kernel
theorem dX2_suspectsLike_20 : decode cX2_suspectsLike 20 = .ok (.iaload, 1) := by decide +kernel
theorem dX2_suspectsLike_21 : decode cX2_suspectsLike 21 = .ok (.aload_n 0, 1) := by decide +kernel
theorem dX2_suspectsLike_22 : decode cX2_suspectsLike 22 = .ok (.getfield 19, 3) := by decide +kernel
theorem dX2_suspectsLike_25 : decode cX2_suspectsLike 25 = .ok (.iload_n 1, 1) := by decide +kernel
theorem dX2_suspectsLike_26 : decode cX2_suspectsLike 26 = .ok (.aaload, 1) := by decide +kernel
theorem dX2_suspectsLike_27 : decode cX2_suspectsLike 27 = .ok (.iload_n 2, 1) := by decide +kernel
theorem dX2_suspectsLike_28 : decode cX2_suspectsLike 28 = .ok (.iaload, 1) := by decide +kernel
theorem dX2_suspectsLike_29 : decode cX2_suspectsLike 29 = .ok (.if_icmp .ne 10, 3) := by decide +kernel
theorem dX2_suspectsLike_32 : decode cX2_suspectsLike 32 = .ok (.iload_n 3, 1) := by decide +kernel
theorem dX2_suspectsLike_33 : decode cX2_suspectsLike 33 = .ok (.iconst 1, 1) := by decide +kernel
theorem dX2_suspectsLike_34 : decode cX2_suspectsLike 34 = .ok (.iload 4, 2) := by decide +kernel
theorem dX2_suspectsLike_36 : decode cX2_suspectsLike 36 = .ok (.ishl, 1) := by decide +kernel
theorem dX2_suspectsLike_37 : decode cX2_suspectsLike 37 = .ok (.ior, 1) := by decide +kernel
theorem dX2_suspectsLike_38 : decode cX2_suspectsLike 38 = .ok (.istore_n 3, 1) := by decide +kernel
theorem dX2_suspectsLike_39 : decode cX2_suspectsLike 39 = .ok (.iinc 4 1, 3) := by decide +kernel
theorem dX2_suspectsLike_42 : decode cX2_suspectsLike 42 = .ok (.goto (-37), 3) := by decide +kernel
theorem dX2_suspectsLike_45 : decode cX2_suspectsLike 45 = .ok (.iload_n 3, 1) := by decide +kernel
theorem dX2_suspectsLike_46 : decode cX2_suspectsLike 46 = .ok (.ireturn, 1) := by decide +kernel
theorem dX2_unlikeOutcomes_0 : decode cX2_unlikeOutcomes 0 = .ok (.iconst 0, 1) := by decide +kernel
theorem dX2_unlikeOutcomes_1 : decode cX2_unlikeOutcomes 1 = .ok (.istore_n 2, 1) := by decide +kernel
theorem dX2_unlikeOutcomes_2 : decode cX2_unlikeOutcomes 2 = .ok (.iconst 0, 1) := by decide +kernel
theorem dX2_unlikeOutcomes_3 : decode cX2_unlikeOutcomes 3 = .ok (.istore_n 3, 1) := by decide +kernel
theorem dX2_unlikeOutcomes_4 : decode cX2_unlikeOutcomes 4 = .ok (.iload_n 3, 1) := by decide +kernel
theorem dX2_unlikeOutcomes_5 : decode cX2_unlikeOutcomes 5 = .ok (.bipush 11, 2) := by decide +kernel
theorem dX2_unlikeOutcomes_7 : decode cX2_unlikeOutcomes 7 = .ok (.if_icmp .ge 24, 3) := by decide +kernel
theorem dX2_unlikeOutcomes_10 : decode cX2_unlikeOutcomes 10 = .ok (.aload_n 0, 1) := by decide +kernel
theorem dX2_unlikeOutcomes_11 : decode cX2_unlikeOutcomes 11 = .ok (.getfield 19, 3) := by decide +kernel
theorem dX2_unlikeOutcomes_14 : decode cX2_unlikeOutcomes 14 = .ok (.iload_n 1, 1) := by decide +kernel
theorem dX2_unlikeOutcomes_15 : decode cX2_unlikeOutcomes 15 = .ok (.aaload, 1) := by decide +kernel
theorem dX2_unlikeOutcomes_16 : decode cX2_unlikeOutcomes 16 = .ok (.iload_n 3, 1) := by decide +kernel
theorem dX2_unlikeOutcomes_17 : decode cX2_unlikeOutcomes 17 = .ok (.iaload, 1) := by decide +kernel
theorem dX2_unlikeOutcomes_18 : decode cX2_unlikeOutcomes 18 = .ok (.iload_n 3, 1) := by decide +kernel
theorem dX2_unlikeOutcomes_19 : decode cX2_unlikeOutcomes 19 = .ok (.if_icmp .ne 6, 3) := by decide +kernel
theorem dX2_unlikeOutcomes_22 : decode cX2_unlikeOutcomes 22 = .ok (.iinc 2 1, 3) := by decide +kernel
theorem dX2_unlikeOutcomes_25 : decode cX2_unlikeOutcomes 25 = .ok (.iinc 3 1, 3) := by decide +kernel
theorem dX2_unlikeOutcomes_28 : decode cX2_unlikeOutcomes 28 = .ok (.goto (-24), 3) := by decide +kernel
theorem dX2_unlikeOutcomes_31 : decode cX2_unlikeOutcomes 31 = .ok (.iload_n 2, 1) := by decide +kernel
theorem dX2_unlikeOutcomes_32 : decode cX2_unlikeOutcomes 32 = .ok (.ireturn, 1) := by decide +kernel
theorem dX2_worstOn_0 : decode cX2_worstOn 0 = .ok (.iconst 0, 1) := by decide +kernel
theorem dX2_worstOn_1 : decode cX2_worstOn 1 = .ok (.istore_n 3, 1) := by decide +kernel
theorem dX2_worstOn_2 : decode cX2_worstOn 2 = .ok (.iconst 0, 1) := by decide +kernel
theorem dX2_worstOn_3 : decode cX2_worstOn 3 = .ok (.istore 4, 2) := by decide +kernel
theorem dX2_worstOn_5 : decode cX2_worstOn 5 = .ok (.iload 4, 2) := by decide +kernel
theorem dX2_worstOn_7 : decode cX2_worstOn 7 = .ok (.bipush 11, 2) := by decide +kernel
theorem dX2_worstOn_9 : decode cX2_worstOn 9 = .ok (.if_icmp .ge 35, 3) := by decide +kernel
theorem dX2_worstOn_12 : decode cX2_worstOn 12 = .ok (.iload_n 2, 1) := by decide +kernel
theorem dX2_worstOn_13 : decode cX2_worstOn 13 = .ok (.iload 4, 2) := by decide +kernel
theorem dX2_worstOn_15 : decode cX2_worstOn 15 = .ok (.invokestatic 36, 3) := by decide +kernel
theorem dX2_worstOn_18 : decode cX2_worstOn 18 = .ok (.ifCond .eq 20, 3) := by decide +kernel
theorem dX2_worstOn_21 : decode cX2_worstOn 21 = .ok (.iload_n 3, 1) := by decide +kernel
theorem dX2_worstOn_22 : decode cX2_worstOn 22 = .ok (.aload_n 0, 1) := by decide +kernel
theorem dX2_worstOn_23 : decode cX2_worstOn 23 = .ok (.iload_n 1, 1) := by decide +kernel
theorem dX2_worstOn_24 : decode cX2_worstOn 24 = .ok (.iload 4, 2) := by decide +kernel
theorem dX2_worstOn_26 : decode cX2_worstOn 26 = .ok (.invokevirtual 75, 3) := by decide +kernel
theorem dX2_worstOn_29 : decode cX2_worstOn 29 = .ok (.iload_n 2, 1) := by decide +kernel
theorem dX2_worstOn_30 : decode cX2_worstOn 30 = .ok (.iand, 1) := by decide +kernel
theorem dX2_worstOn_31 : decode cX2_worstOn 31 = .ok (.invokestatic 78, 3) := by decide +kernel
theorem dX2_worstOn_34 : decode cX2_worstOn 34 = .ok (.invokestatic 83, 3) := by decide +kernel
theorem dX2_worstOn_37 : decode cX2_worstOn 37 = .ok (.istore_n 3, 1) := by decide +kernel
theorem dX2_worstOn_38 : decode cX2_worstOn 38 = .ok (.iinc 4 1, 3) := by decide +kernel
theorem dX2_worstOn_41 : decode cX2_worstOn 41 = .ok (.goto (-36), 3) := by decide +kernel
theorem dX2_worstOn_44 : decode cX2_worstOn 44 = .ok (.iload_n 3, 1) := by decide +kernel
theorem dX2_worstOn_45 : decode cX2_worstOn 45 = .ok (.ireturn, 1) := by decide +kernel
theorem dX2_fewestDaysFor_0 : decode cX2_fewestDaysFor 0 = .ok (.aload_n 0, 1) := by decide +kernel
theorem dX2_fewestDaysFor_1 : decode cX2_fewestDaysFor 1 = .ok (.iload_n 1, 1) := by decide +kernel
theorem dX2_fewestDaysFor_2 : decode cX2_fewestDaysFor 2 = .ok (.invokevirtual 88, 3) := by decide +kernel
theorem dX2_fewestDaysFor_5 : decode cX2_fewestDaysFor 5 = .ok (.bipush 127, 2) := by decide +kernel
theorem dX2_fewestDaysFor_7 : decode cX2_fewestDaysFor 7 = .ok (.istore_n 2, 1) := by decide +kernel
theorem dX2_fewestDaysFor_8 : decode cX2_fewestDaysFor 8 = .ok (.iconst 0, 1) := by decide +kernel
theorem dX2_fewestDaysFor_9 : decode cX2_fewestDaysFor 9 = .ok (.istore_n 3, 1) := by decide +kernel
theorem dX2_fewestDaysFor_10 : decode cX2_fewestDaysFor 10 = .ok (.iload_n 3, 1) := by decide +kernel
theorem dX2_fewestDaysFor_11 : decode cX2_fewestDaysFor 11 = .ok (.bipush 127, 2) := by decide +kernel
theorem dX2_fewestDaysFor_13 : decode cX2_fewestDaysFor 13 = .ok (.if_icmp .ge 30, 3) := by decide +kernel
theorem dX2_fewestDaysFor_16 : decode cX2_fewestDaysFor 16 = .ok (.iload_n 3, 1) := by decide +kernel
theorem dX2_fewestDaysFor_17 : decode cX2_fewestDaysFor 17 = .ok (.invokestatic 78, 3) := by decide +kernel
theorem dX2_fewestDaysFor_20 : decode cX2_fewestDaysFor 20 = .ok (.iload_n 2, 1) := by decide +kernel
theorem dX2_fewestDaysFor_21 : decode cX2_fewestDaysFor 21 = .ok (.invokestatic 78, 3) := by decide +kernel
theorem dX2_fewestDaysFor_24 : decode cX2_fewestDaysFor 24 = .ok (.if_icmp .ge 13, 3) := by decide +kernel
theorem dX2_fewestDaysFor_27 : decode cX2_fewestDaysFor 27 = .ok (.aload_n 0, 1) := by decide +kernel
theorem dX2_fewestDaysFor_28 : decode cX2_fewestDaysFor 28 = .ok (.iload_n 3, 1) := by decide +kernel
theorem dX2_fewestDaysFor_29 : decode cX2_fewestDaysFor 29 = .ok (.invokevirtual 92, 3) := by decide +kernel
theorem dX2_fewestDaysFor_32 : decode cX2_fewestDaysFor 32 = .ok (.ifCond .eq 5, 3) := by decide +kernel
theorem dX2_fewestDaysFor_35 : decode cX2_fewestDaysFor 35 = .ok (.iload_n 3, 1) := by decide +kernel
theorem dX2_fewestDaysFor_36 : decode cX2_fewestDaysFor 36 = .ok (.istore_n 2, 1) := by decide +kernel
theorem dX2_fewestDaysFor_37 : decode cX2_fewestDaysFor 37 = .ok (.iinc 3 1, 3) := by decide +kernel
theorem dX2_fewestDaysFor_40 : decode cX2_fewestDaysFor 40 = .ok (.goto (-30), 3) := by decide +kernel
theorem dX2_fewestDaysFor_43 : decode cX2_fewestDaysFor 43 = .ok (.iload_n 2, 1) := by decide +kernel
theorem dX2_fewestDaysFor_44 : decode cX2_fewestDaysFor 44 = .ok (.ireturn, 1) := by decide +kernel
theorem dX2_collectDaysWanted_0 : decode cX2_collectDaysWanted 0 = .ok (.aload_n 0, 1) := by decide +kernel
theorem dX2_collectDaysWanted_1 : decode cX2_collectDaysWanted 1 = .ok (.getfield 26, 3) := by decide +kernel
theorem dX2_collectDaysWanted_4 : decode cX2_collectDaysWanted 4 = .ok (.invokevirtual 59, 3) := by decide +kernel
theorem dX2_collectDaysWanted_7 : decode cX2_collectDaysWanted 7 = .ok (.istore_n 2, 1) := by decide +kernel
theorem dX2_collectDaysWanted_8 : decode cX2_collectDaysWanted 8 = .ok (.aload_n 0, 1) := by decide +kernel
theorem dX2_collectDaysWanted_9 : decode cX2_collectDaysWanted 9 = .ok (.iconst 0, 1) := by decide +kernel
theorem dX2_collectDaysWanted_10 : decode cX2_collectDaysWanted 10 = .ok (.putfield 96, 3) := by decide +kernel
theorem dX2_collectDaysWanted_13 : decode cX2_collectDaysWanted 13 = .ok (.iconst 1, 1) := by decide +kernel
theorem dX2_collectDaysWanted_14 : decode cX2_collectDaysWanted 14 = .ok (.istore_n 3, 1) := by decide +kernel
theorem dX2_collectDaysWanted_15 : decode cX2_collectDaysWanted 15 = .ok (.iload_n 3, 1) := by decide +kernel
theorem dX2_collectDaysWanted_16 : decode cX2_collectDaysWanted 16 = .ok (.bipush 11, 2) := by decide +kernel
theorem dX2_collectDaysWanted_18 : decode cX2_collectDaysWanted 18 = .ok (.if_icmp .ge 89, 3) := by decide +kernel
theorem dX2_collectDaysWanted_21 : decode cX2_collectDaysWanted 21 = .ok (.iconst 0, 1) := by decide +kernel
theorem dX2_collectDaysWanted_22 : decode cX2_collectDaysWanted 22 = .ok (.istore 4, 2) := by decide +kernel
theorem dX2_collectDaysWanted_24 : decode cX2_collectDaysWanted 24 = .ok (.iload 4, 2) := by decide +kernel
theorem dX2_collectDaysWanted_26 : decode cX2_collectDaysWanted 26 = .ok (.iload_n 3, 1) := by decide +kernel
theorem dX2_collectDaysWanted_27 : decode cX2_collectDaysWanted 27 = .ok (.if_icmp .ge 74, 3) := by decide +kernel
theorem dX2_collectDaysWanted_30 : decode cX2_collectDaysWanted 30 = .ok (.iload_n 2, 1) := by decide +kernel
theorem dX2_collectDaysWanted_31 : decode cX2_collectDaysWanted 31 = .ok (.iload 4, 2) := by decide +kernel
theorem dX2_collectDaysWanted_33 : decode cX2_collectDaysWanted 33 = .ok (.invokestatic 36, 3) := by decide +kernel
theorem dX2_collectDaysWanted_36 : decode cX2_collectDaysWanted 36 = .ok (.ifCond .eq 15, 3) := by decide +kernel
theorem dX2_collectDaysWanted_39 : decode cX2_collectDaysWanted 39 = .ok (.iload_n 2, 1) := by decide +kernel
theorem dX2_collectDaysWanted_40 : decode cX2_collectDaysWanted 40 = .ok (.iload_n 3, 1) := by decide +kernel
theorem dX2_collectDaysWanted_41 : decode cX2_collectDaysWanted 41 = .ok (.invokestatic 36, 3) := by decide +kernel
theorem dX2_collectDaysWanted_44 : decode cX2_collectDaysWanted 44 = .ok (.ifCond .eq 7, 3) := by decide +kernel
theorem dX2_collectDaysWanted_47 : decode cX2_collectDaysWanted 47 = .ok (.iconst 1, 1) := by decide +kernel
theorem dX2_collectDaysWanted_48 : decode cX2_collectDaysWanted 48 = .ok (.goto 4, 3) := by decide +kernel
theorem dX2_collectDaysWanted_51 : decode cX2_collectDaysWanted 51 = .ok (.iconst 0, 1) := by decide +kernel
theorem dX2_collectDaysWanted_52 : decode cX2_collectDaysWanted 52 = .ok (.istore 5, 2) := by decide +kernel
theorem dX2_collectDaysWanted_54 : decode cX2_collectDaysWanted 54 = .ok (.iload 5, 2) := by decide +kernel
theorem dX2_collectDaysWanted_56 : decode cX2_collectDaysWanted 56 = .ok (.ifCond .eq 39, 3) := by decide +kernel
theorem dX2_collectDaysWanted_59 : decode cX2_collectDaysWanted 59 = .ok (.iload_n 1, 1) := by decide +kernel
theorem dX2_collectDaysWanted_60 : decode cX2_collectDaysWanted 60 = .ok (.ifCond .ne 9, 3) := by decide +kernel
theorem dX2_collectDaysWanted_63 : decode cX2_collectDaysWanted 63 = .ok (.iload_n 3, 1) := by decide +kernel
theorem dX2_collectDaysWanted_64 : decode cX2_collectDaysWanted 64 = .ok (.bipush 10, 2) := by decide +kernel
theorem dX2_collectDaysWanted_66 : decode cX2_collectDaysWanted 66 = .ok (.if_icmp .ne 29, 3) := by decide +kernel
theorem dX2_collectDaysWanted_69 : decode cX2_collectDaysWanted 69 = .ok (.aload_n 0, 1) := by decide +kernel
theorem dX2_collectDaysWanted_70 : decode cX2_collectDaysWanted 70 = .ok (.getfield 22, 3) := by decide +kernel
theorem dX2_collectDaysWanted_73 : decode cX2_collectDaysWanted 73 = .ok (.aload_n 0, 1) := by decide +kernel
theorem dX2_collectDaysWanted_74 : decode cX2_collectDaysWanted 74 = .ok (.getfield 96, 3) := by decide +kernel
theorem dX2_collectDaysWanted_77 : decode cX2_collectDaysWanted 77 = .ok (.aload_n 0, 1) := by decide +kernel
theorem dX2_collectDaysWanted_78 : decode cX2_collectDaysWanted 78 = .ok (.iload 4, 2) := by decide +kernel
theorem dX2_collectDaysWanted_80 : decode cX2_collectDaysWanted 80 = .ok (.iload_n 3, 1) := by decide +kernel
theorem dX2_collectDaysWanted_81 : decode cX2_collectDaysWanted 81 = .ok (.invokevirtual 100, 3) := by decide +kernel
theorem dX2_collectDaysWanted_84 : decode cX2_collectDaysWanted 84 = .ok (.iastore, 1) := by decide +kernel
theorem dX2_collectDaysWanted_85 : decode cX2_collectDaysWanted 85 = .ok (.aload_n 0, 1) := by decide +kernel
theorem dX2_collectDaysWanted_86 : decode cX2_collectDaysWanted 86 = .ok (.dup, 1) := by decide +kernel
theorem dX2_collectDaysWanted_87 : decode cX2_collectDaysWanted 87 = .ok (.getfield 96, 3) := by decide +kernel
theorem dX2_collectDaysWanted_90 : decode cX2_collectDaysWanted 90 = .ok (.iconst 1, 1) := by decide +kernel
theorem dX2_collectDaysWanted_91 : decode cX2_collectDaysWanted 91 = .ok (.iadd, 1) := by decide +kernel
theorem dX2_collectDaysWanted_92 : decode cX2_collectDaysWanted 92 = .ok (.putfield 96, 3) := by decide +kernel
theorem dX2_collectDaysWanted_95 : decode cX2_collectDaysWanted 95 = .ok (.iinc 4 1, 3) := by decide +kernel
theorem dX2_collectDaysWanted_98 : decode cX2_collectDaysWanted 98 = .ok (.goto (-74), 3) := by decide +kernel
theorem dX2_collectDaysWanted_101 : decode cX2_collectDaysWanted 101 = .ok (.iinc 3 1, 3) := by decide +kernel
theorem dX2_collectDaysWanted_104 : decode cX2_collectDaysWanted 104 = .ok (.goto (-89), 3) := by decide +kernel
theorem dX2_collectDaysWanted_107 : decode cX2_collectDaysWanted 107 = .ok (.return_, 1) := by decide +kernel
theorem dX2_suffice_0 : decode cX2_suffice 0 = .ok (.iconst 0, 1) := by decide +kernel
theorem dX2_suffice_1 : decode cX2_suffice 1 = .ok (.istore_n 2, 1) := by decide +kernel
theorem dX2_suffice_2 : decode cX2_suffice 2 = .ok (.iload_n 2, 1) := by decide +kernel
theorem dX2_suffice_3 : decode cX2_suffice 3 = .ok (.aload_n 0, 1) := by decide +kernel
theorem dX2_suffice_4 : decode cX2_suffice 4 = .ok (.getfield 96, 3) := by decide +kernel
theorem dX2_suffice_7 : decode cX2_suffice 7 = .ok (.if_icmp .ge 31, 3) := by decide +kernel
theorem dX2_suffice_10 : decode cX2_suffice 10 = .ok (.aload_n 0, 1) := by decide +kernel
theorem dX2_suffice_11 : decode cX2_suffice 11 = .ok (.getfield 22, 3) := by decide +kernel
theorem dX2_suffice_14 : decode cX2_suffice 14 = .ok (.iload_n 2, 1) := by decide +kernel
theorem dX2_suffice_15 : decode cX2_suffice 15 = .ok (.iaload, 1) := by decide +kernel
theorem dX2_suffice_16 : decode cX2_suffice 16 = .ok (.ifCond .eq 16, 3) := by decide +kernel
theorem dX2_suffice_19 : decode cX2_suffice 19 = .ok (.aload_n 0, 1) := by decide +kernel
theorem dX2_suffice_20 : decode cX2_suffice 20 = .ok (.getfield 22, 3) := by decide +kernel
theorem dX2_suffice_23 : decode cX2_suffice 23 = .ok (.iload_n 2, 1) := by decide +kernel
theorem dX2_suffice_24 : decode cX2_suffice 24 = .ok (.iaload, 1) := by decide +kernel
theorem dX2_suffice_25 : decode cX2_suffice 25 = .ok (.iload_n 1, 1) := by decide +kernel
theorem dX2_suffice_26 : decode cX2_suffice 26 = .ok (.iand, 1) := by decide +kernel
theorem dX2_suffice_27 : decode cX2_suffice 27 = .ok (.ifCond .ne 5, 3) := by decide +kernel
theorem dX2_suffice_30 : decode cX2_suffice 30 = .ok (.iconst 0, 1) := by decide +kernel
theorem dX2_suffice_31 : decode cX2_suffice 31 = .ok (.ireturn, 1) := by decide +kernel
theorem dX2_suffice_32 : decode cX2_suffice 32 = .ok (.iinc 2 1, 3) := by decide +kernel
theorem dX2_suffice_35 : decode cX2_suffice 35 = .ok (.goto (-33), 3) := by decide +kernel
theorem dX2_suffice_38 : decode cX2_suffice 38 = .ok (.iconst 1, 1) := by decide +kernel
theorem dX2_suffice_39 : decode cX2_suffice 39 = .ok (.ireturn, 1) := by decide +kernel
theorem dX2_fewestPinsTelling_0 : decode cX2_fewestPinsTelling 0 = .ok (.aload_n 0, 1) := by decide +kernel
theorem dX2_fewestPinsTelling_1 : decode cX2_fewestPinsTelling 1 = .ok (.iload_n 2, 1) := by decide +kernel
theorem dX2_fewestPinsTelling_2 : decode cX2_fewestPinsTelling 2 = .ok (.invokevirtual 103, 3) := by decide +kernel
theorem dX2_fewestPinsTelling_5 : decode cX2_fewestPinsTelling 5 = .ok (.pop, 1) := by decide +kernel
theorem dX2_fewestPinsTelling_6 : decode cX2_fewestPinsTelling 6 = .ok (.aload_n 0, 1) := by decide +kernel
theorem dX2_fewestPinsTelling_7 : decode cX2_fewestPinsTelling 7 = .ok (.bipush 10, 2) := by decide +kernel
theorem dX2_fewestPinsTelling_9 : decode cX2_fewestPinsTelling 9 = .ok (.invokevirtual 103, 3) := by decide +kernel
theorem dX2_fewestPinsTelling_12 : decode cX2_fewestPinsTelling 12 = .ok (.pop, 1) := by decide +kernel
theorem dX2_fewestPinsTelling_13 : decode cX2_fewestPinsTelling 13 = .ok (.aload_n 0, 1) := by decide +kernel
theorem dX2_fewestPinsTelling_14 : decode cX2_fewestPinsTelling 14 = .ok (.iload_n 1, 1) := by decide +kernel
theorem dX2_fewestPinsTelling_15 : decode cX2_fewestPinsTelling 15 = .ok (.iload_n 2, 1) := by decide +kernel
theorem dX2_fewestPinsTelling_16 : decode cX2_fewestPinsTelling 16 = .ok (.invokevirtual 107, 3) := by decide +kernel
theorem dX2_fewestPinsTelling_19 : decode cX2_fewestPinsTelling 19 = .ok (.ifCond .eq 5, 3) := by decide +kernel
theorem dX2_fewestPinsTelling_22 : decode cX2_fewestPinsTelling 22 = .ok (.iconst 0, 1) := by decide +kernel
theorem dX2_fewestPinsTelling_23 : decode cX2_fewestPinsTelling 23 = .ok (.ireturn, 1) := by decide +kernel
theorem dX2_fewestPinsTelling_24 : decode cX2_fewestPinsTelling 24 = .ok (.iconst 0, 1) := by decide +kernel
theorem dX2_fewestPinsTelling_25 : decode cX2_fewestPinsTelling 25 = .ok (.istore_n 3, 1) := by decide +kernel
theorem dX2_fewestPinsTelling_26 : decode cX2_fewestPinsTelling 26 = .ok (.iload_n 3, 1) := by decide +kernel
theorem dX2_fewestPinsTelling_27 : decode cX2_fewestPinsTelling 27 = .ok (.bipush 16, 2) := by decide +kernel
theorem dX2_fewestPinsTelling_29 : decode cX2_fewestPinsTelling 29 = .ok (.if_icmp .ge 26, 3) := by decide +kernel
theorem dX2_fewestPinsTelling_32 : decode cX2_fewestPinsTelling 32 = .ok (.aload_n 0, 1) := by decide +kernel
theorem dX2_fewestPinsTelling_33 : decode cX2_fewestPinsTelling 33 = .ok (.iload_n 1, 1) := by decide +kernel
theorem dX2_fewestPinsTelling_34 : decode cX2_fewestPinsTelling 34 = .ok (.iconst 1, 1) := by decide +kernel
theorem dX2_fewestPinsTelling_35 : decode cX2_fewestPinsTelling 35 = .ok (.iload_n 3, 1) := by decide +kernel
theorem dX2_fewestPinsTelling_36 : decode cX2_fewestPinsTelling 36 = .ok (.ishl, 1) := by decide +kernel
theorem dX2_fewestPinsTelling_37 : decode cX2_fewestPinsTelling 37 = .ok (.ior, 1) := by decide +kernel
theorem dX2_fewestPinsTelling_38 : decode cX2_fewestPinsTelling 38 = .ok (.iload_n 2, 1) := by decide +kernel
theorem dX2_fewestPinsTelling_39 : decode cX2_fewestPinsTelling 39 = .ok (.invokevirtual 107, 3) := by decide +kernel
theorem dX2_fewestPinsTelling_42 : decode cX2_fewestPinsTelling 42 = .ok (.ifCond .eq 7, 3) := by decide +kernel
theorem dX2_fewestPinsTelling_45 : decode cX2_fewestPinsTelling 45 = .ok (.iconst 1, 1) := by decide +kernel
theorem dX2_fewestPinsTelling_46 : decode cX2_fewestPinsTelling 46 = .ok (.iload_n 3, 1) := by decide +kernel
theorem dX2_fewestPinsTelling_47 : decode cX2_fewestPinsTelling 47 = .ok (.ishl, 1) := by decide +kernel
theorem dX2_fewestPinsTelling_48 : decode cX2_fewestPinsTelling 48 = .ok (.ireturn, 1) := by decide +kernel
theorem dX2_fewestPinsTelling_49 : decode cX2_fewestPinsTelling 49 = .ok (.iinc 3 1, 3) := by decide +kernel
theorem dX2_fewestPinsTelling_52 : decode cX2_fewestPinsTelling 52 = .ok (.goto (-26), 3) := by decide +kernel
theorem dX2_fewestPinsTelling_55 : decode cX2_fewestPinsTelling 55 = .ok (.iconst 1, 1) := by decide +kernel
theorem dX2_fewestPinsTelling_56 : decode cX2_fewestPinsTelling 56 = .ok (.istore_n 3, 1) := by decide +kernel
theorem dX2_fewestPinsTelling_57 : decode cX2_fewestPinsTelling 57 = .ok (.iload_n 3, 1) := by decide +kernel
theorem dX2_fewestPinsTelling_58 : decode cX2_fewestPinsTelling 58 = .ok (.bipush 16, 2) := by decide +kernel
theorem dX2_fewestPinsTelling_60 : decode cX2_fewestPinsTelling 60 = .ok (.if_icmp .ge 51, 3) := by decide +kernel
theorem dX2_fewestPinsTelling_63 : decode cX2_fewestPinsTelling 63 = .ok (.iconst 0, 1) := by decide +kernel
theorem dX2_fewestPinsTelling_64 : decode cX2_fewestPinsTelling 64 = .ok (.istore 4, 2) := by decide +kernel
theorem dX2_fewestPinsTelling_66 : decode cX2_fewestPinsTelling 66 = .ok (.iload 4, 2) := by decide +kernel
theorem dX2_fewestPinsTelling_68 : decode cX2_fewestPinsTelling 68 = .ok (.iload_n 3, 1) := by decide +kernel
theorem dX2_fewestPinsTelling_69 : decode cX2_fewestPinsTelling 69 = .ok (.if_icmp .ge 36, 3) := by decide +kernel
theorem dX2_fewestPinsTelling_72 : decode cX2_fewestPinsTelling 72 = .ok (.aload_n 0, 1) := by decide +kernel
theorem dX2_fewestPinsTelling_73 : decode cX2_fewestPinsTelling 73 = .ok (.iload_n 1, 1) := by decide +kernel
theorem dX2_fewestPinsTelling_74 : decode cX2_fewestPinsTelling 74 = .ok (.iconst 1, 1) := by decide +kernel
theorem dX2_fewestPinsTelling_75 : decode cX2_fewestPinsTelling 75 = .ok (.iload_n 3, 1) := by decide +kernel
theorem dX2_fewestPinsTelling_76 : decode cX2_fewestPinsTelling 76 = .ok (.ishl, 1) := by decide +kernel
theorem dX2_fewestPinsTelling_77 : decode cX2_fewestPinsTelling 77 = .ok (.ior, 1) := by decide +kernel
theorem dX2_fewestPinsTelling_78 : decode cX2_fewestPinsTelling 78 = .ok (.iconst 1, 1) := by decide +kernel
theorem dX2_fewestPinsTelling_79 : decode cX2_fewestPinsTelling 79 = .ok (.iload 4, 2) := by decide +kernel
theorem dX2_fewestPinsTelling_81 : decode cX2_fewestPinsTelling 81 = .ok (.ishl, 1) := by decide +kernel
theorem dX2_fewestPinsTelling_82 : decode cX2_fewestPinsTelling 82 = .ok (.ior, 1) := by decide +kernel
theorem dX2_fewestPinsTelling_83 : decode cX2_fewestPinsTelling 83 = .ok (.iload_n 2, 1) := by decide +kernel
theorem dX2_fewestPinsTelling_84 : decode cX2_fewestPinsTelling 84 = .ok (.invokevirtual 107, 3) := by decide +kernel
theorem dX2_fewestPinsTelling_87 : decode cX2_fewestPinsTelling 87 = .ok (.ifCond .eq 12, 3) := by decide +kernel
theorem dX2_fewestPinsTelling_90 : decode cX2_fewestPinsTelling 90 = .ok (.iconst 1, 1) := by decide +kernel
theorem dX2_fewestPinsTelling_91 : decode cX2_fewestPinsTelling 91 = .ok (.iload_n 3, 1) := by decide +kernel
theorem dX2_fewestPinsTelling_92 : decode cX2_fewestPinsTelling 92 = .ok (.ishl, 1) := by decide +kernel
theorem dX2_fewestPinsTelling_93 : decode cX2_fewestPinsTelling 93 = .ok (.iconst 1, 1) := by decide +kernel
theorem dX2_fewestPinsTelling_94 : decode cX2_fewestPinsTelling 94 = .ok (.iload 4, 2) := by decide +kernel
theorem dX2_fewestPinsTelling_96 : decode cX2_fewestPinsTelling 96 = .ok (.ishl, 1) := by decide +kernel
theorem dX2_fewestPinsTelling_97 : decode cX2_fewestPinsTelling 97 = .ok (.ior, 1) := by decide +kernel
theorem dX2_fewestPinsTelling_98 : decode cX2_fewestPinsTelling 98 = .ok (.ireturn, 1) := by decide +kernel
theorem dX2_fewestPinsTelling_99 : decode cX2_fewestPinsTelling 99 = .ok (.iinc 4 1, 3) := by decide +kernel
theorem dX2_fewestPinsTelling_102 : decode cX2_fewestPinsTelling 102 = .ok (.goto (-36), 3) := by decide +kernel
theorem dX2_fewestPinsTelling_105 : decode cX2_fewestPinsTelling 105 = .ok (.iinc 3 1, 3) := by decide +kernel
theorem dX2_fewestPinsTelling_108 : decode cX2_fewestPinsTelling 108 = .ok (.goto (-51), 3) := by decide +kernel
theorem dX2_fewestPinsTelling_111 : decode cX2_fewestPinsTelling 111 = .ok (.iconst (-1), 1) := by decide +kernel
theorem dX2_fewestPinsTelling_112 : decode cX2_fewestPinsTelling 112 = .ok (.ireturn, 1) := by decide +kernel
theorem dX2_tells_0 : decode cX2_tells 0 = .ok (.aload_n 0, 1) := by decide +kernel
theorem dX2_tells_1 : decode cX2_tells 1 = .ok (.getfield 11, 3) := by decide +kernel
theorem dX2_tells_4 : decode cX2_tells 4 = .ok (.iload_n 2, 1) := by decide +kernel
theorem dX2_tells_5 : decode cX2_tells 5 = .ok (.aaload, 1) := by decide +kernel
theorem dX2_tells_6 : decode cX2_tells 6 = .ok (.iload_n 1, 1) := by decide +kernel
theorem dX2_tells_7 : decode cX2_tells 7 = .ok (.invokevirtual 40, 3) := by decide +kernel
theorem dX2_tells_10 : decode cX2_tells 10 = .ok (.aload_n 0, 1) := by decide +kernel
theorem dX2_tells_11 : decode cX2_tells 11 = .ok (.getfield 11, 3) := by decide +kernel
theorem dX2_tells_14 : decode cX2_tells 14 = .ok (.bipush 10, 2) := by decide +kernel
theorem dX2_tells_16 : decode cX2_tells 16 = .ok (.aaload, 1) := by decide +kernel
theorem dX2_tells_17 : decode cX2_tells 17 = .ok (.iload_n 1, 1) := by decide +kernel
theorem dX2_tells_18 : decode cX2_tells 18 = .ok (.invokevirtual 40, 3) := by decide +kernel
theorem dX2_tells_21 : decode cX2_tells 21 = .ok (.aload_n 0, 1) := by decide +kernel
theorem dX2_tells_22 : decode cX2_tells 22 = .ok (.getfield 11, 3) := by decide +kernel
theorem dX2_tells_25 : decode cX2_tells 25 = .ok (.iload_n 2, 1) := by decide +kernel
theorem dX2_tells_26 : decode cX2_tells 26 = .ok (.aaload, 1) := by decide +kernel
theorem dX2_tells_27 : decode cX2_tells 27 = .ok (.aload_n 0, 1) := by decide +kernel
theorem dX2_tells_28 : decode cX2_tells 28 = .ok (.getfield 11, 3) := by decide +kernel
theorem dX2_tells_31 : decode cX2_tells 31 = .ok (.bipush 10, 2) := by decide +kernel
theorem dX2_tells_33 : decode cX2_tells 33 = .ok (.aaload, 1) := by decide +kernel
theorem dX2_tells_34 : decode cX2_tells 34 = .ok (.invokevirtual 44, 3) := by decide +kernel
theorem dX2_tells_37 : decode cX2_tells 37 = .ok (.ifCond .ne 7, 3) := by decide +kernel
theorem dX2_tells_40 : decode cX2_tells 40 = .ok (.iconst 1, 1) := by decide +kernel
theorem dX2_tells_41 : decode cX2_tells 41 = .ok (.goto 4, 3) := by decide +kernel
theorem dX2_tells_44 : decode cX2_tells 44 = .ok (.iconst 0, 1) := by decide +kernel
theorem dX2_tells_45 : decode cX2_tells 45 = .ok (.ireturn, 1) := by decide +kernel
theorem dX3_init_0 : decode cX3_init 0 = .ok (.aload_n 0, 1) := by decide +kernel
theorem dX3_init_1 : decode cX3_init 1 = .ok (.invokespecial 3, 3) := by decide +kernel
theorem dX3_init_4 : decode cX3_init 4 = .ok (.aload_n 0, 1) := by decide +kernel
theorem dX3_init_5 : decode cX3_init 5 = .ok (.new 9, 3) := by decide +kernel
theorem dX3_init_8 : decode cX3_init 8 = .ok (.dup, 1) := by decide +kernel
theorem dX3_init_9 : decode cX3_init 9 = .ok (.invokespecial 11, 3) := by decide +kernel
theorem dX3_init_12 : decode cX3_init 12 = .ok (.putfield 12, 3) := by decide +kernel
theorem dX3_init_15 : decode cX3_init 15 = .ok (.aload_n 0, 1) := by decide +kernel
theorem dX3_init_16 : decode cX3_init 16 = .ok (.bipush 100, 2) := by decide +kernel
theorem dX3_init_18 : decode cX3_init 18 = .ok (.newarray .char, 2) := by decide +kernel
theorem dX3_init_20 : decode cX3_init 20 = .ok (.putfield 18, 3) := by decide +kernel
theorem dX3_init_23 : decode cX3_init 23 = .ok (.aload_n 0, 1) := by decide +kernel
theorem dX3_init_24 : decode cX3_init 24 = .ok (.bipush 8, 2) := by decide +kernel
theorem dX3_init_26 : decode cX3_init 26 = .ok (.newarray .int, 2) := by decide +kernel
theorem dX3_init_28 : decode cX3_init 28 = .ok (.putfield 22, 3) := by decide +kernel
theorem dX3_init_31 : decode cX3_init 31 = .ok (.return_, 1) := by decide +kernel
theorem dX3_append_0 : decode cX3_append 0 = .ok (.aload_n 0, 1) := by decide +kernel
theorem dX3_append_1 : decode cX3_append 1 = .ok (.getfield 26, 3) := by decide +kernel
theorem dX3_append_4 : decode cX3_append 4 = .ok (.bipush 100, 2) := by decide +kernel
theorem dX3_append_6 : decode cX3_append 6 = .ok (.if_icmp .ge 23, 3) := by decide +kernel
theorem dX3_append_9 : decode cX3_append 9 = .ok (.aload_n 0, 1) := by decide +kernel
theorem dX3_append_10 : decode cX3_append 10 = .ok (.getfield 18, 3) := by decide +kernel
theorem dX3_append_13 : decode cX3_append 13 = .ok (.aload_n 0, 1) := by decide +kernel
theorem dX3_append_14 : decode cX3_append 14 = .ok (.getfield 26, 3) := by decide +kernel
theorem dX3_append_17 : decode cX3_append 17 = .ok (.iload_n 1, 1) := by decide +kernel
theorem dX3_append_18 : decode cX3_append 18 = .ok (.castore, 1) := by decide +kernel
theorem dX3_append_19 : decode cX3_append 19 = .ok (.aload_n 0, 1) := by decide +kernel
theorem dX3_append_20 : decode cX3_append 20 = .ok (.dup, 1) := by decide +kernel
theorem dX3_append_21 : decode cX3_append 21 = .ok (.getfield 26, 3) := by decide +kernel
theorem dX3_append_24 : decode cX3_append 24 = .ok (.iconst 1, 1) := by decide +kernel
theorem dX3_append_25 : decode cX3_append 25 = .ok (.iadd, 1) := by decide +kernel
theorem dX3_append_26 : decode cX3_append 26 = .ok (.putfield 26, 3) := by decide +kernel
theorem dX3_append_29 : decode cX3_append 29 = .ok (.return_, 1) := by decide +kernel
theorem dX3_tryOn_0 : decode cX3_tryOn 0 = .ok (.aload_n 0, 1) := by decide +kernel
theorem dX3_tryOn_1 : decode cX3_tryOn 1 = .ok (.getfield 12, 3) := by decide +kernel
theorem dX3_tryOn_4 : decode cX3_tryOn 4 = .ok (.aload_n 1, 1) := by decide +kernel
theorem dX3_tryOn_5 : decode cX3_tryOn 5 = .ok (.invokevirtual 30, 3) := by decide +kernel
theorem dX3_tryOn_8 : decode cX3_tryOn 8 = .ok (.aload_n 0, 1) := by decide +kernel
theorem dX3_tryOn_9 : decode cX3_tryOn 9 = .ok (.iconst 0, 1) := by decide +kernel
theorem dX3_tryOn_10 : decode cX3_tryOn 10 = .ok (.putfield 34, 3) := by decide +kernel
theorem dX3_tryOn_13 : decode cX3_tryOn 13 = .ok (.aload_n 0, 1) := by decide +kernel
theorem dX3_tryOn_14 : decode cX3_tryOn 14 = .ok (.iconst (-1), 1) := by decide +kernel
theorem dX3_tryOn_15 : decode cX3_tryOn 15 = .ok (.putfield 37, 3) := by decide +kernel
theorem dX3_tryOn_18 : decode cX3_tryOn 18 = .ok (.aload_n 0, 1) := by decide +kernel
theorem dX3_tryOn_19 : decode cX3_tryOn 19 = .ok (.iconst 0, 1) := by decide +kernel
theorem dX3_tryOn_20 : decode cX3_tryOn 20 = .ok (.putfield 40, 3) := by decide +kernel
theorem dX3_tryOn_23 : decode cX3_tryOn 23 = .ok (.aload_n 0, 1) := by decide +kernel
theorem dX3_tryOn_24 : decode cX3_tryOn 24 = .ok (.iconst 0, 1) := by decide +kernel
theorem dX3_tryOn_25 : decode cX3_tryOn 25 = .ok (.aload_n 0, 1) := by decide +kernel
theorem dX3_tryOn_26 : decode cX3_tryOn 26 = .ok (.getfield 26, 3) := by decide +kernel
theorem dX3_tryOn_29 : decode cX3_tryOn 29 = .ok (.invokevirtual 43, 3) := by decide +kernel
theorem dX3_tryOn_32 : decode cX3_tryOn 32 = .ok (.istore_n 2, 1) := by decide +kernel
theorem dX3_tryOn_33 : decode cX3_tryOn 33 = .ok (.iload_n 2, 1) := by decide +kernel
theorem dX3_tryOn_34 : decode cX3_tryOn 34 = .ok (.aload_n 0, 1) := by decide +kernel
theorem dX3_tryOn_35 : decode cX3_tryOn 35 = .ok (.getfield 26, 3) := by decide +kernel
theorem dX3_tryOn_38 : decode cX3_tryOn 38 = .ok (.if_icmp .ge 78, 3) := by decide +kernel
theorem dX3_tryOn_41 : decode cX3_tryOn 41 = .ok (.aload_n 0, 1) := by decide +kernel
theorem dX3_tryOn_42 : decode cX3_tryOn 42 = .ok (.getfield 34, 3) := by decide +kernel
theorem dX3_tryOn_45 : decode cX3_tryOn 45 = .ok (.bipush 100, 2) := by decide +kernel
theorem dX3_tryOn_47 : decode cX3_tryOn 47 = .ok (.if_icmp .ge 69, 3) := by decide +kernel
theorem dX3_tryOn_50 : decode cX3_tryOn 50 = .ok (.aload_n 0, 1) := by decide +kernel
theorem dX3_tryOn_51 : decode cX3_tryOn 51 = .ok (.iload_n 2, 1) := by decide +kernel
theorem dX3_tryOn_52 : decode cX3_tryOn 52 = .ok (.invokevirtual 47, 3) := by decide +kernel
theorem dX3_tryOn_55 : decode cX3_tryOn 55 = .ok (.istore_n 3, 1) := by decide +kernel
theorem dX3_tryOn_56 : decode cX3_tryOn 56 = .ok (.aload_n 0, 1) := by decide +kernel
theorem dX3_tryOn_57 : decode cX3_tryOn 57 = .ok (.iload_n 3, 1) := by decide +kernel
theorem dX3_tryOn_58 : decode cX3_tryOn 58 = .ok (.aload_n 0, 1) := by decide +kernel
theorem dX3_tryOn_59 : decode cX3_tryOn 59 = .ok (.getfield 26, 3) := by decide +kernel
theorem dX3_tryOn_62 : decode cX3_tryOn 62 = .ok (.if_icmp .ge 12, 3) := by decide +kernel
theorem dX3_tryOn_65 : decode cX3_tryOn 65 = .ok (.aload_n 0, 1) := by decide +kernel
theorem dX3_tryOn_66 : decode cX3_tryOn 66 = .ok (.iload_n 2, 1) := by decide +kernel
theorem dX3_tryOn_67 : decode cX3_tryOn 67 = .ok (.iload_n 3, 1) := by decide +kernel
theorem dX3_tryOn_68 : decode cX3_tryOn 68 = .ok (.invokevirtual 51, 3) := by decide +kernel
theorem dX3_tryOn_71 : decode cX3_tryOn 71 = .ok (.goto 4, 3) := by decide +kernel
theorem dX3_tryOn_74 : decode cX3_tryOn 74 = .ok (.iconst 1, 1) := by decide +kernel
theorem dX3_tryOn_75 : decode cX3_tryOn 75 = .ok (.putfield 40, 3) := by decide +kernel
theorem dX3_tryOn_78 : decode cX3_tryOn 78 = .ok (.aload_n 0, 1) := by decide +kernel
theorem dX3_tryOn_79 : decode cX3_tryOn 79 = .ok (.getfield 40, 3) := by decide +kernel
theorem dX3_tryOn_82 : decode cX3_tryOn 82 = .ok (.ifCond .eq 9, 3) := by decide +kernel
theorem dX3_tryOn_85 : decode cX3_tryOn 85 = .ok (.aload_n 0, 1) := by decide +kernel
theorem dX3_tryOn_86 : decode cX3_tryOn 86 = .ok (.iload_n 2, 1) := by decide +kernel
theorem dX3_tryOn_87 : decode cX3_tryOn 87 = .ok (.putfield 37, 3) := by decide +kernel
theorem dX3_tryOn_90 : decode cX3_tryOn 90 = .ok (.return_, 1) := by decide +kernel
theorem dX3_tryOn_91 : decode cX3_tryOn 91 = .ok (.aload_n 0, 1) := by decide +kernel
theorem dX3_tryOn_92 : decode cX3_tryOn 92 = .ok (.dup, 1) := by decide +kernel
theorem dX3_tryOn_93 : decode cX3_tryOn 93 = .ok (.getfield 34, 3) := by decide +kernel
theorem dX3_tryOn_96 : decode cX3_tryOn 96 = .ok (.iconst 1, 1) := by decide +kernel
theorem dX3_tryOn_97 : decode cX3_tryOn 97 = .ok (.iadd, 1) := by decide +kernel
theorem dX3_tryOn_98 : decode cX3_tryOn 98 = .ok (.putfield 34, 3) := by decide +kernel
theorem dX3_tryOn_101 : decode cX3_tryOn 101 = .ok (.aload_n 0, 1) := by decide +kernel
theorem dX3_tryOn_102 : decode cX3_tryOn 102 = .ok (.iload_n 3, 1) := by decide +kernel
theorem dX3_tryOn_103 : decode cX3_tryOn 103 = .ok (.iconst 1, 1) := by decide +kernel
theorem dX3_tryOn_104 : decode cX3_tryOn 104 = .ok (.iadd, 1) := by decide +kernel
theorem dX3_tryOn_105 : decode cX3_tryOn 105 = .ok (.aload_n 0, 1) := by decide +kernel
theorem dX3_tryOn_106 : decode cX3_tryOn 106 = .ok (.getfield 26, 3) := by decide +kernel
theorem dX3_tryOn_109 : decode cX3_tryOn 109 = .ok (.invokevirtual 43, 3) := by decide +kernel
theorem dX3_tryOn_112 : decode cX3_tryOn 112 = .ok (.istore_n 2, 1) := by decide +kernel
theorem dX3_tryOn_113 : decode cX3_tryOn 113 = .ok (.goto (-80), 3) := by decide +kernel
theorem dX3_tryOn_116 : decode cX3_tryOn 116 = .ok (.return_, 1) := by decide +kernel
theorem dX3_skipSpaces_0 : decode cX3_skipSpaces 0 = .ok (.iload_n 1, 1) := by decide +kernel
theorem dX3_skipSpaces_1 : decode cX3_skipSpaces 1 = .ok (.istore_n 3, 1) := by decide +kernel
theorem dX3_skipSpaces_2 : decode cX3_skipSpaces 2 = .ok (.iload_n 3, 1) := by decide +kernel
theorem dX3_skipSpaces_3 : decode cX3_skipSpaces 3 = .ok (.iload_n 2, 1) := by decide +kernel
theorem dX3_skipSpaces_4 : decode cX3_skipSpaces 4 = .ok (.if_icmp .ge 20, 3) := by decide +kernel
theorem dX3_skipSpaces_7 : decode cX3_skipSpaces 7 = .ok (.aload_n 0, 1) := by decide +kernel
theorem dX3_skipSpaces_8 : decode cX3_skipSpaces 8 = .ok (.getfield 18, 3) := by decide +kernel
theorem dX3_skipSpaces_11 : decode cX3_skipSpaces 11 = .ok (.iload_n 3, 1) := by decide +kernel
theorem dX3_skipSpaces_12 : decode cX3_skipSpaces 12 = .ok (.caload, 1) := by decide +kernel
theorem dX3_skipSpaces_13 : decode cX3_skipSpaces 13 = .ok (.bipush 32, 2) := by decide +kernel
theorem dX3_skipSpaces_15 : decode cX3_skipSpaces 15 = .ok (.if_icmp .ne 9, 3) := by decide +kernel
theorem dX3_skipSpaces_18 : decode cX3_skipSpaces 18 = .ok (.iinc 3 1, 3) := by decide +kernel
theorem dX3_skipSpaces_21 : decode cX3_skipSpaces 21 = .ok (.goto (-19), 3) := by decide +kernel
theorem dX3_skipSpaces_24 : decode cX3_skipSpaces 24 = .ok (.iload_n 3, 1) := by decide +kernel
theorem dX3_skipSpaces_25 : decode cX3_skipSpaces 25 = .ok (.ireturn, 1) := by decide +kernel
theorem dX3_endOfCommand_0 : decode cX3_endOfCommand 0 = .ok (.iload_n 1, 1) := by decide +kernel
theorem dX3_endOfCommand_1 : decode cX3_endOfCommand 1 = .ok (.istore_n 2, 1) := by decide +kernel
theorem dX3_endOfCommand_2 : decode cX3_endOfCommand 2 = .ok (.iload_n 2, 1) := by decide +kernel
theorem dX3_endOfCommand_3 : decode cX3_endOfCommand 3 = .ok (.aload_n 0, 1) := by decide +kernel
theorem dX3_endOfCommand_4 : decode cX3_endOfCommand 4 = .ok (.getfield 26, 3) := by decide +kernel
theorem dX3_endOfCommand_7 : decode cX3_endOfCommand 7 = .ok (.if_icmp .ge 20, 3) := by decide +kernel
theorem dX3_endOfCommand_10 : decode cX3_endOfCommand 10 = .ok (.aload_n 0, 1) := by decide +kernel
theorem dX3_endOfCommand_11 : decode cX3_endOfCommand 11 = .ok (.getfield 18, 3) := by decide +kernel
theorem dX3_endOfCommand_14 : decode cX3_endOfCommand 14 = .ok (.iload_n 2, 1) := by decide +kernel
theorem dX3_endOfCommand_15 : decode cX3_endOfCommand 15 = .ok (.caload, 1) := by decide +kernel
theorem dX3_endOfCommand_16 : decode cX3_endOfCommand 16 = .ok (.bipush 59, 2) := by decide +kernel
theorem dX3_endOfCommand_18 : decode cX3_endOfCommand 18 = .ok (.if_icmp .eq 9, 3) := by decide +kernel
theorem dX3_endOfCommand_21 : decode cX3_endOfCommand 21 = .ok (.iinc 2 1, 3) := by decide +kernel
theorem dX3_endOfCommand_24 : decode cX3_endOfCommand 24 = .ok (.goto (-22), 3) := by decide +kernel
theorem dX3_endOfCommand_27 : decode cX3_endOfCommand 27 = .ok (.iload_n 2, 1) := by decide +kernel
theorem dX3_endOfCommand_28 : decode cX3_endOfCommand 28 = .ok (.ireturn, 1) := by decide +kernel
theorem dX3_endOfToken_0 : decode cX3_endOfToken 0 = .ok (.iload_n 1, 1) := by decide +kernel
theorem dX3_endOfToken_1 : decode cX3_endOfToken 1 = .ok (.istore_n 3, 1) := by decide +kernel
theorem dX3_endOfToken_2 : decode cX3_endOfToken 2 = .ok (.iload_n 3, 1) := by decide +kernel
theorem dX3_endOfToken_3 : decode cX3_endOfToken 3 = .ok (.iload_n 2, 1) := by decide +kernel
theorem dX3_endOfToken_4 : decode cX3_endOfToken 4 = .ok (.if_icmp .ge 20, 3) := by decide +kernel
theorem dX3_endOfToken_7 : decode cX3_endOfToken 7 = .ok (.aload_n 0, 1) := by decide +kernel
theorem dX3_endOfToken_8 : decode cX3_endOfToken 8 = .ok (.getfield 18, 3) := by decide +kernel
theorem dX3_endOfToken_11 : decode cX3_endOfToken 11 = .ok (.iload_n 3, 1) := by decide +kernel
theorem dX3_endOfToken_12 : decode cX3_endOfToken 12 = .ok (.caload, 1) := by decide +kernel
theorem dX3_endOfToken_13 : decode cX3_endOfToken 13 = .ok (.bipush 32, 2) := by decide +kernel
theorem dX3_endOfToken_15 : decode cX3_endOfToken 15 = .ok (.if_icmp .eq 9, 3) := by decide +kernel
theorem dX3_endOfToken_18 : decode cX3_endOfToken 18 = .ok (.iinc 3 1, 3) := by decide +kernel
theorem dX3_endOfToken_21 : decode cX3_endOfToken 21 = .ok (.goto (-19), 3) := by decide +kernel
theorem dX3_endOfToken_24 : decode cX3_endOfToken 24 = .ok (.iload_n 3, 1) := by decide +kernel
theorem dX3_endOfToken_25 : decode cX3_endOfToken 25 = .ok (.ireturn, 1) := by decide +kernel
theorem dX3_perform_0 : decode cX3_perform 0 = .ok (.aload_n 0, 1) := by decide +kernel
theorem dX3_perform_1 : decode cX3_perform 1 = .ok (.iload_n 1, 1) := by decide +kernel
theorem dX3_perform_2 : decode cX3_perform 2 = .ok (.iload_n 2, 1) := by decide +kernel
theorem dX3_perform_3 : decode cX3_perform 3 = .ok (.invokevirtual 54, 3) := by decide +kernel
theorem dX3_perform_6 : decode cX3_perform 6 = .ok (.ifCond .ne 5, 3) := by decide +kernel
theorem dX3_perform_9 : decode cX3_perform 9 = .ok (.iconst 1, 1) := by decide +kernel
theorem dX3_perform_10 : decode cX3_perform 10 = .ok (.ireturn, 1) := by decide +kernel
theorem dX3_perform_11 : decode cX3_perform 11 = .ok (.iconst 0, 1) := by decide +kernel
theorem dX3_perform_12 : decode cX3_perform 12 = .ok (.istore_n 3, 1) := by decide +kernel
theorem dX3_perform_13 : decode cX3_perform 13 = .ok (.iload_n 3, 1) := by decide +kernel
theorem dX3_perform_14 : decode cX3_perform 14 = .ok (.aload_n 0, 1) := by decide +kernel
theorem dX3_perform_15 : decode cX3_perform 15 = .ok (.getfield 58, 3) := by decide +kernel
theorem dX3_perform_18 : decode cX3_perform 18 = .ok (.if_icmp .ge 25, 3) := by decide +kernel
theorem dX3_perform_21 : decode cX3_perform 21 = .ok (.aload_n 0, 1) := by decide +kernel
theorem dX3_perform_22 : decode cX3_perform 22 = .ok (.getfield 22, 3) := by decide +kernel
theorem dX3_perform_25 : decode cX3_perform 25 = .ok (.iload_n 3, 1) := by decide +kernel
theorem dX3_perform_26 : decode cX3_perform 26 = .ok (.iaload, 1) := by decide +kernel
theorem dX3_perform_27 : decode cX3_perform 27 = .ok (.aload_n 0, 1) := by decide +kernel
theorem dX3_perform_28 : decode cX3_perform 28 = .ok (.iload_n 3, 1) := by decide +kernel
theorem dX3_perform_29 : decode cX3_perform 29 = .ok (.invokevirtual 61, 3) := by decide +kernel
theorem dX3_perform_32 : decode cX3_perform 32 = .ok (.if_icmp .lt 5, 3) := by decide +kernel
theorem dX3_perform_35 : decode cX3_perform 35 = .ok (.iconst 2, 1) := by decide +kernel
theorem dX3_perform_36 : decode cX3_perform 36 = .ok (.ireturn, 1) := by decide +kernel
theorem dX3_perform_37 : decode cX3_perform 37 = .ok (.iinc 3 1, 3) := by decide +kernel
theorem dX3_perform_40 : decode cX3_perform 40 = .ok (.goto (-27), 3) := by decide +kernel
theorem dX3_perform_43 : decode cX3_perform 43 = .ok (.aload_n 0, 1) := by decide +kernel
theorem dX3_perform_44 : decode cX3_perform 44 = .ok (.invokevirtual 64, 3) := by decide +kernel
theorem dX3_perform_47 : decode cX3_perform 47 = .ok (.ifCond .ne 7, 3) := by decide +kernel
theorem dX3_perform_50 : decode cX3_perform 50 = .ok (.iconst 0, 1) := by decide +kernel
theorem dX3_perform_51 : decode cX3_perform 51 = .ok (.goto 4, 3) := by decide +kernel
theorem dX3_perform_54 : decode cX3_perform 54 = .ok (.iconst 3, 1) := by decide +kernel
theorem dX3_perform_55 : decode cX3_perform 55 = .ok (.ireturn, 1) := by decide +kernel
theorem dX3_parse_0 : decode cX3_parse 0 = .ok (.aload_n 0, 1) := by decide +kernel
theorem dX3_parse_1 : decode cX3_parse 1 = .ok (.iload_n 1, 1) := by decide +kernel
theorem dX3_parse_2 : decode cX3_parse 2 = .ok (.iload_n 2, 1) := by decide +kernel
theorem dX3_parse_3 : decode cX3_parse 3 = .ok (.invokevirtual 68, 3) := by decide +kernel
theorem dX3_parse_6 : decode cX3_parse 6 = .ok (.istore_n 3, 1) := by decide +kernel
theorem dX3_parse_7 : decode cX3_parse 7 = .ok (.aload_n 0, 1) := by decide +kernel
theorem dX3_parse_8 : decode cX3_parse 8 = .ok (.aload_n 0, 1) := by decide +kernel
theorem dX3_parse_9 : decode cX3_parse 9 = .ok (.iload_n 1, 1) := by decide +kernel
theorem dX3_parse_10 : decode cX3_parse 10 = .ok (.iload_n 3, 1) := by decide +kernel
theorem dX3_parse_11 : decode cX3_parse 11 = .ok (.invokevirtual 71, 3) := by decide +kernel
theorem dX3_parse_14 : decode cX3_parse 14 = .ok (.putfield 74, 3) := by decide +kernel
theorem dX3_parse_17 : decode cX3_parse 17 = .ok (.aload_n 0, 1) := by decide +kernel
theorem dX3_parse_18 : decode cX3_parse 18 = .ok (.getfield 74, 3) := by decide +kernel
theorem dX3_parse_21 : decode cX3_parse 21 = .ok (.iconst (-1), 1) := by decide +kernel
theorem dX3_parse_22 : decode cX3_parse 22 = .ok (.if_icmp .ne 5, 3) := by decide +kernel
theorem dX3_parse_25 : decode cX3_parse 25 = .ok (.iconst 0, 1) := by decide +kernel
theorem dX3_parse_26 : decode cX3_parse 26 = .ok (.ireturn, 1) := by decide +kernel
theorem dX3_parse_27 : decode cX3_parse 27 = .ok (.aload_n 0, 1) := by decide +kernel
theorem dX3_parse_28 : decode cX3_parse 28 = .ok (.iload_n 3, 1) := by decide +kernel
theorem dX3_parse_29 : decode cX3_parse 29 = .ok (.iload_n 2, 1) := by decide +kernel
theorem dX3_parse_30 : decode cX3_parse 30 = .ok (.invokevirtual 43, 3) := by decide +kernel
theorem dX3_parse_33 : decode cX3_parse 33 = .ok (.istore 4, 2) := by decide +kernel
theorem dX3_parse_35 : decode cX3_parse 35 = .ok (.aload_n 0, 1) := by decide +kernel
theorem dX3_parse_36 : decode cX3_parse 36 = .ok (.iconst 0, 1) := by decide +kernel
theorem dX3_parse_37 : decode cX3_parse 37 = .ok (.putfield 58, 3) := by decide +kernel
theorem dX3_parse_40 : decode cX3_parse 40 = .ok (.aload_n 0, 1) := by decide +kernel
theorem dX3_parse_41 : decode cX3_parse 41 = .ok (.getfield 58, 3) := by decide +kernel
theorem dX3_parse_44 : decode cX3_parse 44 = .ok (.getstatic 77, 3) := by decide +kernel
theorem dX3_parse_47 : decode cX3_parse 47 = .ok (.aload_n 0, 1) := by decide +kernel
theorem dX3_parse_48 : decode cX3_parse 48 = .ok (.getfield 74, 3) := by decide +kernel
theorem dX3_parse_51 : decode cX3_parse 51 = .ok (.iaload, 1) := by decide +kernel
theorem dX3_parse_52 : decode cX3_parse 52 = .ok (.if_icmp .ge 69, 3) := by decide +kernel
theorem dX3_parse_55 : decode cX3_parse 55 = .ok (.iload 4, 2) := by decide +kernel
theorem dX3_parse_57 : decode cX3_parse 57 = .ok (.iload_n 2, 1) := by decide +kernel
theorem dX3_parse_58 : decode cX3_parse 58 = .ok (.if_icmp .ge 63, 3) := by decide +kernel
theorem dX3_parse_61 : decode cX3_parse 61 = .ok (.aload_n 0, 1) := by decide +kernel
theorem dX3_parse_62 : decode cX3_parse 62 = .ok (.iload 4, 2) := by decide +kernel
theorem dX3_parse_64 : decode cX3_parse 64 = .ok (.iload_n 2, 1) := by decide +kernel
theorem dX3_parse_65 : decode cX3_parse 65 = .ok (.invokevirtual 68, 3) := by decide +kernel
theorem dX3_parse_68 : decode cX3_parse 68 = .ok (.istore_n 3, 1) := by decide +kernel
theorem dX3_parse_69 : decode cX3_parse 69 = .ok (.aload_n 0, 1) := by decide +kernel
theorem dX3_parse_70 : decode cX3_parse 70 = .ok (.getfield 22, 3) := by decide +kernel
theorem dX3_parse_73 : decode cX3_parse 73 = .ok (.aload_n 0, 1) := by decide +kernel
theorem dX3_parse_74 : decode cX3_parse 74 = .ok (.getfield 58, 3) := by decide +kernel
theorem dX3_parse_77 : decode cX3_parse 77 = .ok (.aload_n 0, 1) := by decide +kernel
theorem dX3_parse_78 : decode cX3_parse 78 = .ok (.iload 4, 2) := by decide +kernel
theorem dX3_parse_80 : decode cX3_parse 80 = .ok (.iload_n 3, 1) := by decide +kernel
theorem dX3_parse_81 : decode cX3_parse 81 = .ok (.invokevirtual 80, 3) := by decide +kernel
theorem dX3_parse_84 : decode cX3_parse 84 = .ok (.iastore, 1) := by decide +kernel
theorem dX3_parse_85 : decode cX3_parse 85 = .ok (.aload_n 0, 1) := by decide +kernel
theorem dX3_parse_86 : decode cX3_parse 86 = .ok (.getfield 22, 3) := by decide +kernel
theorem dX3_parse_89 : decode cX3_parse 89 = .ok (.aload_n 0, 1) := by decide +kernel
theorem dX3_parse_90 : decode cX3_parse 90 = .ok (.getfield 58, 3) := by decide +kernel
theorem dX3_parse_93 : decode cX3_parse 93 = .ok (.iaload, 1) := by decide +kernel
theorem dX3_parse_94 : decode cX3_parse 94 = .ok (.iconst (-1), 1) := by decide +kernel
theorem dX3_parse_95 : decode cX3_parse 95 = .ok (.if_icmp .ne 5, 3) := by decide +kernel
theorem dX3_parse_98 : decode cX3_parse 98 = .ok (.iconst 0, 1) := by decide +kernel
theorem dX3_parse_99 : decode cX3_parse 99 = .ok (.ireturn, 1) := by decide +kernel
theorem dX3_parse_100 : decode cX3_parse 100 = .ok (.aload_n 0, 1) := by decide +kernel
theorem dX3_parse_101 : decode cX3_parse 101 = .ok (.iload_n 3, 1) := by decide +kernel
theorem dX3_parse_102 : decode cX3_parse 102 = .ok (.iload_n 2, 1) := by decide +kernel
theorem dX3_parse_103 : decode cX3_parse 103 = .ok (.invokevirtual 43, 3) := by decide +kernel
theorem dX3_parse_106 : decode cX3_parse 106 = .ok (.istore 4, 2) := by decide +kernel
theorem dX3_parse_108 : decode cX3_parse 108 = .ok (.aload_n 0, 1) := by decide +kernel
theorem dX3_parse_109 : decode cX3_parse 109 = .ok (.dup, 1) := by decide +kernel
theorem dX3_parse_110 : decode cX3_parse 110 = .ok (.getfield 58, 3) := by decide +kernel
theorem dX3_parse_113 : decode cX3_parse 113 = .ok (.iconst 1, 1) := by decide +kernel
theorem dX3_parse_114 : decode cX3_parse 114 = .ok (.iadd, 1) := by decide +kernel
theorem dX3_parse_115 : decode cX3_parse 115 = .ok (.putfield 58, 3) := by decide +kernel
theorem dX3_parse_118 : decode cX3_parse 118 = .ok (.goto (-78), 3) := by decide +kernel
theorem dX3_parse_121 : decode cX3_parse 121 = .ok (.iload 4, 2) := by decide +kernel
theorem dX3_parse_123 : decode cX3_parse 123 = .ok (.iload_n 2, 1) := by decide +kernel
theorem dX3_parse_124 : decode cX3_parse 124 = .ok (.if_icmp .lt 29, 3) := by decide +kernel
theorem dX3_parse_127 : decode cX3_parse 127 = .ok (.aload_n 0, 1) := by decide +kernel
theorem dX3_parse_128 : decode cX3_parse 128 = .ok (.getfield 58, 3) := by decide +kernel
theorem dX3_parse_131 : decode cX3_parse 131 = .ok (.getstatic 83, 3) := by decide +kernel
theorem dX3_parse_134 : decode cX3_parse 134 = .ok (.aload_n 0, 1) := by decide +kernel
theorem dX3_parse_135 : decode cX3_parse 135 = .ok (.getfield 74, 3) := by decide +kernel
theorem dX3_parse_138 : decode cX3_parse 138 = .ok (.iaload, 1) := by decide +kernel
theorem dX3_parse_139 : decode cX3_parse 139 = .ok (.if_icmp .lt 14, 3) := by decide +kernel
theorem dX3_parse_142 : decode cX3_parse 142 = .ok (.aload_n 0, 1) := by decide +kernel
theorem dX3_parse_143 : decode cX3_parse 143 = .ok (.invokevirtual 86, 3) := by decide +kernel
theorem dX3_parse_146 : decode cX3_parse 146 = .ok (.ifCond .eq 7, 3) := by decide +kernel
theorem dX3_parse_149 : decode cX3_parse 149 = .ok (.iconst 1, 1) := by decide +kernel
theorem dX3_parse_150 : decode cX3_parse 150 = .ok (.goto 4, 3) := by decide +kernel
theorem dX3_parse_153 : decode cX3_parse 153 = .ok (.iconst 0, 1) := by decide +kernel
theorem dX3_parse_154 : decode cX3_parse 154 = .ok (.ireturn, 1) := by decide +kernel
theorem dX3_wordBetween_0 : decode cX3_wordBetween 0 = .ok (.iconst 0, 1) := by decide +kernel
theorem dX3_wordBetween_1 : decode cX3_wordBetween 1 = .ok (.istore_n 3, 1) := by decide +kernel
theorem dX3_wordBetween_2 : decode cX3_wordBetween 2 = .ok (.iload_n 3, 1) := by decide +kernel
theorem dX3_wordBetween_3 : decode cX3_wordBetween 3 = .ok (.bipush 8, 2) := by decide +kernel
theorem dX3_wordBetween_5 : decode cX3_wordBetween 5 = .ok (.if_icmp .ge 24, 3) := by decide +kernel
theorem dX3_wordBetween_8 : decode cX3_wordBetween 8 = .ok (.aload_n 0, 1) := by decide +kernel
theorem dX3_wordBetween_9 : decode cX3_wordBetween 9 = .ok (.iload_n 3, 1) := by decide +kernel
theorem dX3_wordBetween_10 : decode cX3_wordBetween 10 = .ok (.invokestatic 90, 3) := by decide +kernel
theorem dX3_wordBetween_13 : decode cX3_wordBetween 13 = .ok (.iload_n 1, 1) := by decide +kernel
theorem dX3_wordBetween_14 : decode cX3_wordBetween 14 = .ok (.iload_n 2, 1) := by decide +kernel
theorem dX3_wordBetween_15 : decode cX3_wordBetween 15 = .ok (.invokevirtual 94, 3) := by decide +kernel
theorem dX3_wordBetween_18 : decode cX3_wordBetween 18 = .ok (.ifCond .eq 5, 3) := by decide +kernel
theorem dX3_wordBetween_21 : decode cX3_wordBetween 21 = .ok (.iload_n 3, 1) := by decide +kernel
theorem dX3_wordBetween_22 : decode cX3_wordBetween 22 = .ok (.ireturn, 1) := by decide +kernel
theorem dX3_wordBetween_23 : decode cX3_wordBetween 23 = .ok (.iinc 3 1, 3) := by decide +kernel
theorem dX3_wordBetween_26 : decode cX3_wordBetween 26 = .ok (.goto (-24), 3) := by decide +kernel
theorem dX3_wordBetween_29 : decode cX3_wordBetween 29 = .ok (.iconst (-1), 1) := by decide +kernel
theorem dX3_wordBetween_30 : decode cX3_wordBetween 30 = .ok (.ireturn, 1) := by decide +kernel
theorem dX3_spelling_0 : decode cX3_spelling 0 = .ok (.iload_n 0, 1) := by decide +kernel
theorem dX3_spelling_1 : decode cX3_spelling 1 = .ok (.tableswitch 64 0 6 #[43, 46, 49, 52, 55, 58, 61], 43) := by decide +kernel
theorem dX3_spelling_44 : decode cX3_spelling 44 = .ok (.ldc 98, 2) := by decide +kernel
theorem dX3_spelling_46 : decode cX3_spelling 46 = .ok (.areturn, 1) := by decide +kernel
theorem dX3_spelling_47 : decode cX3_spelling 47 = .ok (.ldc 100, 2) := by decide +kernel
theorem dX3_spelling_49 : decode cX3_spelling 49 = .ok (.areturn, 1) := by decide +kernel
theorem dX3_spelling_50 : decode cX3_spelling 50 = .ok (.ldc 102, 2) := by decide +kernel
theorem dX3_spelling_52 : decode cX3_spelling 52 = .ok (.areturn, 1) := by decide +kernel
theorem dX3_spelling_53 : decode cX3_spelling 53 = .ok (.ldc 104, 2) := by decide +kernel
theorem dX3_spelling_55 : decode cX3_spelling 55 = .ok (.areturn, 1) := by decide +kernel
theorem dX3_spelling_56 : decode cX3_spelling 56 = .ok (.ldc 106, 2) := by decide +kernel
theorem dX3_spelling_58 : decode cX3_spelling 58 = .ok (.areturn, 1) := by decide +kernel
theorem dX3_spelling_59 : decode cX3_spelling 59 = .ok (.ldc 108, 2) := by decide +kernel
theorem dX3_spelling_61 : decode cX3_spelling 61 = .ok (.areturn, 1) := by decide +kernel
theorem dX3_spelling_62 : decode cX3_spelling 62 = .ok (.ldc 110, 2) := by decide +kernel
theorem dX3_spelling_64 : decode cX3_spelling 64 = .ok (.areturn, 1) := by decide +kernel
theorem dX3_spelling_65 : decode cX3_spelling 65 = .ok (.ldc 112, 2) := by decide +kernel
theorem dX3_spelling_67 : decode cX3_spelling 67 = .ok (.areturn, 1) := by decide +kernel
theorem dX3_isWritten_0 : decode cX3_isWritten 0 = .ok (.aload_n 1, 1) := by decide +kernel
theorem dX3_isWritten_1 : decode cX3_isWritten 1 = .ok (.invokevirtual 114, 3) := by decide +kernel
theorem dX3_isWritten_4 : decode cX3_isWritten 4 = .ok (.iload_n 3, 1) := by decide +kernel
theorem dX3_isWritten_5 : decode cX3_isWritten 5 = .ok (.iload_n 2, 1) := by decide +kernel
theorem dX3_isWritten_6 : decode cX3_isWritten 6 = .ok (.isub, 1) := by decide +kernel
theorem dX3_isWritten_7 : decode cX3_isWritten 7 = .ok (.if_icmp .eq 5, 3) := by decide +kernel
theorem dX3_isWritten_10 : decode cX3_isWritten 10 = .ok (.iconst 0, 1) := by decide +kernel
theorem dX3_isWritten_11 : decode cX3_isWritten 11 = .ok (.ireturn, 1) := by decide +kernel
theorem dX3_isWritten_12 : decode cX3_isWritten 12 = .ok (.iconst 0, 1) := by decide +kernel
theorem dX3_isWritten_13 : decode cX3_isWritten 13 = .ok (.istore 4, 2) := by decide +kernel
theorem dX3_isWritten_15 : decode cX3_isWritten 15 = .ok (.iload 4, 2) := by decide +kernel
theorem dX3_isWritten_17 : decode cX3_isWritten 17 = .ok (.aload_n 1, 1) := by decide +kernel
theorem dX3_isWritten_18 : decode cX3_isWritten 18 = .ok (.invokevirtual 114, 3) := by decide +kernel
theorem dX3_isWritten_21 : decode cX3_isWritten 21 = .ok (.if_icmp .ge 29, 3) := by decide +kernel
theorem dX3_isWritten_24 : decode cX3_isWritten 24 = .ok (.aload_n 1, 1) := by decide +kernel
theorem dX3_isWritten_25 : decode cX3_isWritten 25 = .ok (.iload 4, 2) := by decide +kernel
theorem dX3_isWritten_27 : decode cX3_isWritten 27 = .ok (.invokevirtual 118, 3) := by decide +kernel
theorem dX3_isWritten_30 : decode cX3_isWritten 30 = .ok (.aload_n 0, 1) := by decide +kernel
theorem dX3_isWritten_31 : decode cX3_isWritten 31 = .ok (.getfield 18, 3) := by decide +kernel
theorem dX3_isWritten_34 : decode cX3_isWritten 34 = .ok (.iload_n 2, 1) := by decide +kernel
theorem dX3_isWritten_35 : decode cX3_isWritten 35 = .ok (.iload 4, 2) := by decide +kernel
theorem dX3_isWritten_37 : decode cX3_isWritten 37 = .ok (.iadd, 1) := by decide +kernel
theorem dX3_isWritten_38 : decode cX3_isWritten 38 = .ok (.caload, 1) := by decide +kernel
theorem dX3_isWritten_39 : decode cX3_isWritten 39 = .ok (.if_icmp .eq 5, 3) := by decide +kernel
theorem dX3_isWritten_42 : decode cX3_isWritten 42 = .ok (.iconst 0, 1) := by decide +kernel
theorem dX3_isWritten_43 : decode cX3_isWritten 43 = .ok (.ireturn, 1) := by decide +kernel
theorem dX3_isWritten_44 : decode cX3_isWritten 44 = .ok (.iinc 4 1, 3) := by decide +kernel
theorem dX3_isWritten_47 : decode cX3_isWritten 47 = .ok (.goto (-32), 3) := by decide +kernel
theorem dX3_isWritten_50 : decode cX3_isWritten 50 = .ok (.iconst 1, 1) := by decide +kernel
theorem dX3_isWritten_51 : decode cX3_isWritten 51 = .ok (.ireturn, 1) := by decide +kernel
theorem dX3_numberBetween_0 : decode cX3_numberBetween 0 = .ok (.iload_n 2, 1) := by decide +kernel
theorem dX3_numberBetween_1 : decode cX3_numberBetween 1 = .ok (.iload_n 1, 1) := by decide +kernel
theorem dX3_numberBetween_2 : decode cX3_numberBetween 2 = .ok (.isub, 1) := by decide +kernel
theorem dX3_numberBetween_3 : decode cX3_numberBetween 3 = .ok (.istore_n 3, 1) := by decide +kernel
theorem dX3_numberBetween_4 : decode cX3_numberBetween 4 = .ok (.iload_n 3, 1) := by decide +kernel
theorem dX3_numberBetween_5 : decode cX3_numberBetween 5 = .ok (.iconst 1, 1) := by decide +kernel
theorem dX3_numberBetween_6 : decode cX3_numberBetween 6 = .ok (.if_icmp .lt 8, 3) := by decide +kernel
theorem dX3_numberBetween_9 : decode cX3_numberBetween 9 = .ok (.iload_n 3, 1) := by decide +kernel
theorem dX3_numberBetween_10 : decode cX3_numberBetween 10 = .ok (.iconst 2, 1) := by decide +kernel
theorem dX3_numberBetween_11 : decode cX3_numberBetween 11 = .ok (.if_icmp .le 5, 3) := by decide +kernel
theorem dX3_numberBetween_14 : decode cX3_numberBetween 14 = .ok (.iconst (-1), 1) := by decide +kernel
theorem dX3_numberBetween_15 : decode cX3_numberBetween 15 = .ok (.ireturn, 1) := by decide +kernel
theorem dX3_numberBetween_16 : decode cX3_numberBetween 16 = .ok (.iconst 0, 1) := by decide +kernel
theorem dX3_numberBetween_17 : decode cX3_numberBetween 17 = .ok (.istore 4, 2) := by decide +kernel
theorem dX3_numberBetween_19 : decode cX3_numberBetween 19 = .ok (.iload_n 1, 1) := by decide +kernel
theorem dX3_numberBetween_20 : decode cX3_numberBetween 20 = .ok (.istore 5, 2) := by decide +kernel
theorem dX3_numberBetween_22 : decode cX3_numberBetween 22 = .ok (.iload 5, 2) := by decide +kernel
theorem dX3_numberBetween_24 : decode cX3_numberBetween 24 = .ok (.iload_n 2, 1) := by decide +kernel
theorem dX3_numberBetween_25 : decode cX3_numberBetween 25 = .ok (.if_icmp .ge 53, 3) := by decide +kernel
theorem dX3_numberBetween_28 : decode cX3_numberBetween 28 = .ok (.aload_n 0, 1) := by decide +kernel
theorem dX3_numberBetween_29 : decode cX3_numberBetween 29 = .ok (.getfield 18, 3) := by decide +kernel
theorem dX3_numberBetween_32 : decode cX3_numberBetween 32 = .ok (.iload 5, 2) := by decide +kernel
theorem dX3_numberBetween_34 : decode cX3_numberBetween 34 = .ok (.caload, 1) := by decide +kernel
theorem dX3_numberBetween_35 : decode cX3_numberBetween 35 = .ok (.bipush 48, 2) := by decide +kernel
theorem dX3_numberBetween_37 : decode cX3_numberBetween 37 = .ok (.if_icmp .lt 15, 3) := by decide +kernel
theorem dX3_numberBetween_40 : decode cX3_numberBetween 40 = .ok (.aload_n 0, 1) := by decide +kernel
theorem dX3_numberBetween_41 : decode cX3_numberBetween 41 = .ok (.getfield 18, 3) := by decide +kernel
theorem dX3_numberBetween_44 : decode cX3_numberBetween 44 = .ok (.iload 5, 2) := by decide +kernel
theorem dX3_numberBetween_46 : decode cX3_numberBetween 46 = .ok (.caload, 1) := by decide +kernel
theorem dX3_numberBetween_47 : decode cX3_numberBetween 47 = .ok (.bipush 57, 2) := by decide +kernel
theorem dX3_numberBetween_49 : decode cX3_numberBetween 49 = .ok (.if_icmp .le 5, 3) := by decide +kernel
theorem dX3_numberBetween_52 : decode cX3_numberBetween 52 = .ok (.iconst (-1), 1) := by decide +kernel
theorem dX3_numberBetween_53 : decode cX3_numberBetween 53 = .ok (.ireturn, 1) := by decide +kernel
theorem dX3_numberBetween_54 : decode cX3_numberBetween 54 = .ok (.iload 4, 2) := by decide +kernel
theorem dX3_numberBetween_56 : decode cX3_numberBetween 56 = .ok (.bipush 10, 2) := by decide +kernel
theorem dX3_numberBetween_58 : decode cX3_numberBetween 58 = .ok (.imul, 1) := by decide +kernel
theorem dX3_numberBetween_59 : decode cX3_numberBetween 59 = .ok (.aload_n 0, 1) := by decide +kernel
theorem dX3_numberBetween_60 : decode cX3_numberBetween 60 = .ok (.getfield 18, 3) := by decide +kernel
theorem dX3_numberBetween_63 : decode cX3_numberBetween 63 = .ok (.iload 5, 2) := by decide +kernel
theorem dX3_numberBetween_65 : decode cX3_numberBetween 65 = .ok (.caload, 1) := by decide +kernel
theorem dX3_numberBetween_66 : decode cX3_numberBetween 66 = .ok (.bipush 48, 2) := by decide +kernel
theorem dX3_numberBetween_68 : decode cX3_numberBetween 68 = .ok (.isub, 1) := by decide +kernel
theorem dX3_numberBetween_69 : decode cX3_numberBetween 69 = .ok (.iadd, 1) := by decide +kernel
theorem dX3_numberBetween_70 : decode cX3_numberBetween 70 = .ok (.istore 4, 2) := by decide +kernel
theorem dX3_numberBetween_72 : decode cX3_numberBetween 72 = .ok (.iinc 5 1, 3) := by decide +kernel
theorem dX3_numberBetween_75 : decode cX3_numberBetween 75 = .ok (.goto (-53), 3) := by decide +kernel
theorem dX3_numberBetween_78 : decode cX3_numberBetween 78 = .ok (.iload 4, 2) := by decide +kernel
theorem dX3_numberBetween_80 : decode cX3_numberBetween 80 = .ok (.ireturn, 1) := by decide +kernel
theorem dX3_areUnlike_0 : decode cX3_areUnlike 0 = .ok (.aload_n 0, 1) := by decide +kernel
theorem dX3_areUnlike_1 : decode cX3_areUnlike 1 = .ok (.getfield 74, 3) := by decide +kernel
theorem dX3_areUnlike_4 : decode cX3_areUnlike 4 = .ok (.bipush 7, 2) := by decide +kernel
theorem dX3_areUnlike_6 : decode cX3_areUnlike 6 = .ok (.if_icmp .ne 7, 3) := by decide +kernel
theorem dX3_areUnlike_9 : decode cX3_areUnlike 9 = .ok (.iconst 1, 1) := by decide +kernel
theorem dX3_areUnlike_10 : decode cX3_areUnlike 10 = .ok (.goto 4, 3) := by decide +kernel
theorem dX3_areUnlike_13 : decode cX3_areUnlike 13 = .ok (.iconst 0, 1) := by decide +kernel
theorem dX3_areUnlike_14 : decode cX3_areUnlike 14 = .ok (.istore_n 1, 1) := by decide +kernel
theorem dX3_areUnlike_15 : decode cX3_areUnlike 15 = .ok (.iload_n 1, 1) := by decide +kernel
theorem dX3_areUnlike_16 : decode cX3_areUnlike 16 = .ok (.istore_n 2, 1) := by decide +kernel
theorem dX3_areUnlike_17 : decode cX3_areUnlike 17 = .ok (.iload_n 2, 1) := by decide +kernel
theorem dX3_areUnlike_18 : decode cX3_areUnlike 18 = .ok (.aload_n 0, 1) := by decide +kernel
theorem dX3_areUnlike_19 : decode cX3_areUnlike 19 = .ok (.getfield 58, 3) := by decide +kernel
theorem dX3_areUnlike_22 : decode cX3_areUnlike 22 = .ok (.if_icmp .ge 44, 3) := by decide +kernel
theorem dX3_areUnlike_25 : decode cX3_areUnlike 25 = .ok (.iload_n 2, 1) := by decide +kernel
theorem dX3_areUnlike_26 : decode cX3_areUnlike 26 = .ok (.iconst 1, 1) := by decide +kernel
theorem dX3_areUnlike_27 : decode cX3_areUnlike 27 = .ok (.iadd, 1) := by decide +kernel
theorem dX3_areUnlike_28 : decode cX3_areUnlike 28 = .ok (.istore_n 3, 1) := by decide +kernel
theorem dX3_areUnlike_29 : decode cX3_areUnlike 29 = .ok (.iload_n 3, 1) := by decide +kernel
theorem dX3_areUnlike_30 : decode cX3_areUnlike 30 = .ok (.aload_n 0, 1) := by decide +kernel
theorem dX3_areUnlike_31 : decode cX3_areUnlike 31 = .ok (.getfield 58, 3) := by decide +kernel
theorem dX3_areUnlike_34 : decode cX3_areUnlike 34 = .ok (.if_icmp .ge 26, 3) := by decide +kernel
theorem dX3_areUnlike_37 : decode cX3_areUnlike 37 = .ok (.aload_n 0, 1) := by decide +kernel
theorem dX3_areUnlike_38 : decode cX3_areUnlike 38 = .ok (.getfield 22, 3) := by decide +kernel
theorem dX3_areUnlike_41 : decode cX3_areUnlike 41 = .ok (.iload_n 2, 1) := by decide +kernel
theorem dX3_areUnlike_42 : decode cX3_areUnlike 42 = .ok (.iaload, 1) := by decide +kernel
theorem dX3_areUnlike_43 : decode cX3_areUnlike 43 = .ok (.aload_n 0, 1) := by decide +kernel
theorem dX3_areUnlike_44 : decode cX3_areUnlike 44 = .ok (.getfield 22, 3) := by decide +kernel
theorem dX3_areUnlike_47 : decode cX3_areUnlike 47 = .ok (.iload_n 3, 1) := by decide +kernel
theorem dX3_areUnlike_48 : decode cX3_areUnlike 48 = .ok (.iaload, 1) := by decide +kernel
theorem dX3_areUnlike_49 : decode cX3_areUnlike 49 = .ok (.if_icmp .ne 5, 3) := by decide +kernel
theorem dX3_areUnlike_52 : decode cX3_areUnlike 52 = .ok (.iconst 0, 1) := by decide +kernel
theorem dX3_areUnlike_53 : decode cX3_areUnlike 53 = .ok (.ireturn, 1) := by decide +kernel
theorem dX3_areUnlike_54 : decode cX3_areUnlike 54 = .ok (.iinc 3 1, 3) := by decide +kernel
theorem dX3_areUnlike_57 : decode cX3_areUnlike 57 = .ok (.goto (-28), 3) := by decide +kernel
theorem dX3_areUnlike_60 : decode cX3_areUnlike 60 = .ok (.iinc 2 1, 3) := by decide +kernel
theorem dX3_areUnlike_63 : decode cX3_areUnlike 63 = .ok (.goto (-46), 3) := by decide +kernel
theorem dX3_areUnlike_66 : decode cX3_areUnlike 66 = .ok (.iconst 1, 1) := by decide +kernel
theorem dX3_areUnlike_67 : decode cX3_areUnlike 67 = .ok (.ireturn, 1) := by decide +kernel
theorem dX3_rangeOfNumber_0 : decode cX3_rangeOfNumber 0 = .ok (.aload_n 0, 1) := by decide +kernel
theorem dX3_rangeOfNumber_1 : decode cX3_rangeOfNumber 1 = .ok (.getfield 74, 3) := by decide +kernel
theorem dX3_rangeOfNumber_4 : decode cX3_rangeOfNumber 4 = .ok (.tableswitch 64 3 7 #[36, 36, 36, 44, 52], 36) := by decide +kernel
theorem dX3_rangeOfNumber_40 : decode cX3_rangeOfNumber 40 = .ok (.aload_n 0, 1) := by decide +kernel
theorem dX3_rangeOfNumber_41 : decode cX3_rangeOfNumber 41 = .ok (.getfield 12, 3) := by decide +kernel
theorem dX3_rangeOfNumber_44 : decode cX3_rangeOfNumber 44 = .ok (.getfield 122, 3) := by decide +kernel
theorem dX3_rangeOfNumber_47 : decode cX3_rangeOfNumber 47 = .ok (.ireturn, 1) := by decide +kernel
theorem dX3_rangeOfNumber_48 : decode cX3_rangeOfNumber 48 = .ok (.aload_n 0, 1) := by decide +kernel
theorem dX3_rangeOfNumber_49 : decode cX3_rangeOfNumber 49 = .ok (.getfield 12, 3) := by decide +kernel
theorem dX3_rangeOfNumber_52 : decode cX3_rangeOfNumber 52 = .ok (.getfield 125, 3) := by decide +kernel
theorem dX3_rangeOfNumber_55 : decode cX3_rangeOfNumber 55 = .ok (.ireturn, 1) := by decide +kernel
theorem dX3_rangeOfNumber_56 : decode cX3_rangeOfNumber 56 = .ok (.iload_n 1, 1) := by decide +kernel
theorem dX3_rangeOfNumber_57 : decode cX3_rangeOfNumber 57 = .ok (.ifCond .ne 8, 3) := by decide +kernel
theorem dX3_rangeOfNumber_60 : decode cX3_rangeOfNumber 60 = .ok (.bipush 16, 2) := by decide +kernel
theorem dX3_rangeOfNumber_62 : decode cX3_rangeOfNumber 62 = .ok (.goto 5, 3) := by decide +kernel
theorem dX3_rangeOfNumber_65 : decode cX3_rangeOfNumber 65 = .ok (.bipush 7, 2) := by decide +kernel
theorem dX3_rangeOfNumber_67 : decode cX3_rangeOfNumber 67 = .ok (.ireturn, 1) := by decide +kernel
theorem dX3_rangeOfNumber_68 : decode cX3_rangeOfNumber 68 = .ok (.bipush 16, 2) := by decide +kernel
theorem dX3_rangeOfNumber_70 : decode cX3_rangeOfNumber 70 = .ok (.ireturn, 1) := by decide +kernel
theorem dX3_doCommand_0 : decode cX3_doCommand 0 = .ok (.aload_n 0, 1) := by decide +kernel
theorem dX3_doCommand_1 : decode cX3_doCommand 1 = .ok (.getfield 74, 3) := by decide +kernel
theorem dX3_doCommand_4 : decode cX3_doCommand 4 = .ok (.tableswitch 142 0 6 #[44, 49, 54, 67, 103, 116, 129], 44) := by decide +kernel
theorem dX3_doCommand_48 : decode cX3_doCommand 48 = .ok (.aload_n 0, 1) := by decide +kernel
theorem dX3_doCommand_49 : decode cX3_doCommand 49 = .ok (.invokevirtual 128, 3) := by decide +kernel
theorem dX3_doCommand_52 : decode cX3_doCommand 52 = .ok (.ireturn, 1) := by decide +kernel
theorem dX3_doCommand_53 : decode cX3_doCommand 53 = .ok (.aload_n 0, 1) := by decide +kernel
theorem dX3_doCommand_54 : decode cX3_doCommand 54 = .ok (.invokevirtual 131, 3) := by decide +kernel
theorem dX3_doCommand_57 : decode cX3_doCommand 57 = .ok (.ireturn, 1) := by decide +kernel
theorem dX3_doCommand_58 : decode cX3_doCommand 58 = .ok (.aload_n 0, 1) := by decide +kernel
theorem dX3_doCommand_59 : decode cX3_doCommand 59 = .ok (.iconst 0, 1) := by decide +kernel
theorem dX3_doCommand_60 : decode cX3_doCommand 60 = .ok (.aload_n 0, 1) := by decide +kernel
theorem dX3_doCommand_61 : decode cX3_doCommand 61 = .ok (.getfield 22, 3) := by decide +kernel
theorem dX3_doCommand_64 : decode cX3_doCommand 64 = .ok (.iconst 0, 1) := by decide +kernel
theorem dX3_doCommand_65 : decode cX3_doCommand 65 = .ok (.iaload, 1) := by decide +kernel
theorem dX3_doCommand_66 : decode cX3_doCommand 66 = .ok (.iconst 0, 1) := by decide +kernel
theorem dX3_doCommand_67 : decode cX3_doCommand 67 = .ok (.invokevirtual 134, 3) := by decide +kernel
theorem dX3_doCommand_70 : decode cX3_doCommand 70 = .ok (.ireturn, 1) := by decide +kernel
theorem dX3_doCommand_71 : decode cX3_doCommand 71 = .ok (.aload_n 0, 1) := by decide +kernel
theorem dX3_doCommand_72 : decode cX3_doCommand 72 = .ok (.iconst 1, 1) := by decide +kernel
theorem dX3_doCommand_73 : decode cX3_doCommand 73 = .ok (.aload_n 0, 1) := by decide +kernel
theorem dX3_doCommand_74 : decode cX3_doCommand 74 = .ok (.getfield 22, 3) := by decide +kernel
theorem dX3_doCommand_77 : decode cX3_doCommand 77 = .ok (.iconst 0, 1) := by decide +kernel
theorem dX3_doCommand_78 : decode cX3_doCommand 78 = .ok (.iaload, 1) := by decide +kernel
theorem dX3_doCommand_79 : decode cX3_doCommand 79 = .ok (.aload_n 0, 1) := by decide +kernel
theorem dX3_doCommand_80 : decode cX3_doCommand 80 = .ok (.getfield 22, 3) := by decide +kernel
theorem dX3_doCommand_83 : decode cX3_doCommand 83 = .ok (.iconst 1, 1) := by decide +kernel
theorem dX3_doCommand_84 : decode cX3_doCommand 84 = .ok (.iaload, 1) := by decide +kernel
theorem dX3_doCommand_85 : decode cX3_doCommand 85 = .ok (.invokestatic 138, 3) := by decide +kernel
theorem dX3_doCommand_88 : decode cX3_doCommand 88 = .ok (.aload_n 0, 1) := by decide +kernel
theorem dX3_doCommand_89 : decode cX3_doCommand 89 = .ok (.getfield 22, 3) := by decide +kernel
theorem dX3_doCommand_92 : decode cX3_doCommand 92 = .ok (.iconst 0, 1) := by decide +kernel
theorem dX3_doCommand_93 : decode cX3_doCommand 93 = .ok (.iaload, 1) := by decide +kernel
theorem dX3_doCommand_94 : decode cX3_doCommand 94 = .ok (.aload_n 0, 1) := by decide +kernel
theorem dX3_doCommand_95 : decode cX3_doCommand 95 = .ok (.getfield 22, 3) := by decide +kernel
theorem dX3_doCommand_98 : decode cX3_doCommand 98 = .ok (.iconst 1, 1) := by decide +kernel
theorem dX3_doCommand_99 : decode cX3_doCommand 99 = .ok (.iaload, 1) := by decide +kernel
theorem dX3_doCommand_100 : decode cX3_doCommand 100 = .ok (.invokestatic 143, 3) := by decide +kernel
theorem dX3_doCommand_103 : decode cX3_doCommand 103 = .ok (.invokevirtual 134, 3) := by decide +kernel
theorem dX3_doCommand_106 : decode cX3_doCommand 106 = .ok (.ireturn, 1) := by decide +kernel
theorem dX3_doCommand_107 : decode cX3_doCommand 107 = .ok (.aload_n 0, 1) := by decide +kernel
theorem dX3_doCommand_108 : decode cX3_doCommand 108 = .ok (.iconst 2, 1) := by decide +kernel
theorem dX3_doCommand_109 : decode cX3_doCommand 109 = .ok (.aload_n 0, 1) := by decide +kernel
theorem dX3_doCommand_110 : decode cX3_doCommand 110 = .ok (.getfield 22, 3) := by decide +kernel
theorem dX3_doCommand_113 : decode cX3_doCommand 113 = .ok (.iconst 0, 1) := by decide +kernel
theorem dX3_doCommand_114 : decode cX3_doCommand 114 = .ok (.iaload, 1) := by decide +kernel
theorem dX3_doCommand_115 : decode cX3_doCommand 115 = .ok (.iconst 0, 1) := by decide +kernel
theorem dX3_doCommand_116 : decode cX3_doCommand 116 = .ok (.invokevirtual 134, 3) := by decide +kernel
theorem dX3_doCommand_119 : decode cX3_doCommand 119 = .ok (.ireturn, 1) := by decide +kernel
theorem dX3_doCommand_120 : decode cX3_doCommand 120 = .ok (.aload_n 0, 1) := by decide +kernel
theorem dX3_doCommand_121 : decode cX3_doCommand 121 = .ok (.iconst 3, 1) := by decide +kernel
theorem dX3_doCommand_122 : decode cX3_doCommand 122 = .ok (.aload_n 0, 1) := by decide +kernel
theorem dX3_doCommand_123 : decode cX3_doCommand 123 = .ok (.getfield 22, 3) := by decide +kernel
theorem dX3_doCommand_126 : decode cX3_doCommand 126 = .ok (.iconst 0, 1) := by decide +kernel
theorem dX3_doCommand_127 : decode cX3_doCommand 127 = .ok (.iaload, 1) := by decide +kernel
theorem dX3_doCommand_128 : decode cX3_doCommand 128 = .ok (.iconst 0, 1) := by decide +kernel
theorem dX3_doCommand_129 : decode cX3_doCommand 129 = .ok (.invokevirtual 134, 3) := by decide +kernel
theorem dX3_doCommand_132 : decode cX3_doCommand 132 = .ok (.ireturn, 1) := by decide +kernel
theorem dX3_doCommand_133 : decode cX3_doCommand 133 = .ok (.aload_n 0, 1) := by decide +kernel
theorem dX3_doCommand_134 : decode cX3_doCommand 134 = .ok (.iconst 4, 1) := by decide +kernel
theorem dX3_doCommand_135 : decode cX3_doCommand 135 = .ok (.aload_n 0, 1) := by decide +kernel
theorem dX3_doCommand_136 : decode cX3_doCommand 136 = .ok (.getfield 22, 3) := by decide +kernel
theorem dX3_doCommand_139 : decode cX3_doCommand 139 = .ok (.iconst 0, 1) := by decide +kernel
theorem dX3_doCommand_140 : decode cX3_doCommand 140 = .ok (.iaload, 1) := by decide +kernel
theorem dX3_doCommand_141 : decode cX3_doCommand 141 = .ok (.iconst 0, 1) := by decide +kernel
theorem dX3_doCommand_142 : decode cX3_doCommand 142 = .ok (.invokevirtual 134, 3) := by decide +kernel
theorem dX3_doCommand_145 : decode cX3_doCommand 145 = .ok (.ireturn, 1) := by decide +kernel
theorem dX3_doCommand_146 : decode cX3_doCommand 146 = .ok (.aload_n 0, 1) := by decide +kernel
theorem dX3_doCommand_147 : decode cX3_doCommand 147 = .ok (.getfield 12, 3) := by decide +kernel
theorem dX3_doCommand_150 : decode cX3_doCommand 150 = .ok (.aload_n 0, 1) := by decide +kernel
theorem dX3_doCommand_151 : decode cX3_doCommand 151 = .ok (.getfield 22, 3) := by decide +kernel
theorem dX3_doCommand_154 : decode cX3_doCommand 154 = .ok (.iconst 0, 1) := by decide +kernel
theorem dX3_doCommand_155 : decode cX3_doCommand 155 = .ok (.iaload, 1) := by decide +kernel
theorem dX3_doCommand_156 : decode cX3_doCommand 156 = .ok (.aload_n 0, 1) := by decide +kernel
theorem dX3_doCommand_157 : decode cX3_doCommand 157 = .ok (.iconst 1, 1) := by decide +kernel
theorem dX3_doCommand_158 : decode cX3_doCommand 158 = .ok (.invokevirtual 146, 3) := by decide +kernel
theorem dX3_doCommand_161 : decode cX3_doCommand 161 = .ok (.invokevirtual 149, 3) := by decide +kernel
theorem dX3_doCommand_164 : decode cX3_doCommand 164 = .ok (.pop, 1) := by decide +kernel
theorem dX3_doCommand_165 : decode cX3_doCommand 165 = .ok (.iconst 0, 1) := by decide +kernel
theorem dX3_doCommand_166 : decode cX3_doCommand 166 = .ok (.ireturn, 1) := by decide +kernel
theorem dX3_doNet_0 : decode cX3_doNet 0 = .ok (.aload_n 0, 1) := by decide +kernel
theorem dX3_doNet_1 : decode cX3_doNet 1 = .ok (.iconst 0, 1) := by decide +kernel
theorem dX3_doNet_2 : decode cX3_doNet 2 = .ok (.invokevirtual 146, 3) := by decide +kernel
theorem dX3_doNet_5 : decode cX3_doNet 5 = .ok (.istore_n 1, 1) := by decide +kernel
theorem dX3_doNet_6 : decode cX3_doNet 6 = .ok (.aload_n 0, 1) := by decide +kernel
theorem dX3_doNet_7 : decode cX3_doNet 7 = .ok (.getfield 12, 3) := by decide +kernel
theorem dX3_doNet_10 : decode cX3_doNet 10 = .ok (.iload_n 1, 1) := by decide +kernel
theorem dX3_doNet_11 : decode cX3_doNet 11 = .ok (.invokevirtual 152, 3) := by decide +kernel
theorem dX3_doNet_14 : decode cX3_doNet 14 = .ok (.istore_n 2, 1) := by decide +kernel
theorem dX3_doNet_15 : decode cX3_doNet 15 = .ok (.iload_n 2, 1) := by decide +kernel
theorem dX3_doNet_16 : decode cX3_doNet 16 = .ok (.ifCond .ne 12, 3) := by decide +kernel
theorem dX3_doNet_19 : decode cX3_doNet 19 = .ok (.aload_n 0, 1) := by decide +kernel
theorem dX3_doNet_20 : decode cX3_doNet 20 = .ok (.getfield 12, 3) := by decide +kernel
theorem dX3_doNet_23 : decode cX3_doNet 23 = .ok (.iload_n 1, 1) := by decide +kernel
theorem dX3_doNet_24 : decode cX3_doNet 24 = .ok (.invokevirtual 155, 3) := by decide +kernel
theorem dX3_doNet_27 : decode cX3_doNet 27 = .ok (.pop, 1) := by decide +kernel
theorem dX3_doNet_28 : decode cX3_doNet 28 = .ok (.iload_n 2, 1) := by decide +kernel
theorem dX3_doNet_29 : decode cX3_doNet 29 = .ok (.ireturn, 1) := by decide +kernel
theorem dX3_doChip_0 : decode cX3_doChip 0 = .ok (.aload_n 0, 1) := by decide +kernel
theorem dX3_doChip_1 : decode cX3_doChip 1 = .ok (.iconst 2, 1) := by decide +kernel
theorem dX3_doChip_2 : decode cX3_doChip 2 = .ok (.invokevirtual 146, 3) := by decide +kernel
theorem dX3_doChip_5 : decode cX3_doChip 5 = .ok (.istore_n 1, 1) := by decide +kernel
theorem dX3_doChip_6 : decode cX3_doChip 6 = .ok (.aload_n 0, 1) := by decide +kernel
theorem dX3_doChip_7 : decode cX3_doChip 7 = .ok (.getfield 12, 3) := by decide +kernel
theorem dX3_doChip_10 : decode cX3_doChip 10 = .ok (.aload_n 0, 1) := by decide +kernel
theorem dX3_doChip_11 : decode cX3_doChip 11 = .ok (.getfield 22, 3) := by decide +kernel
theorem dX3_doChip_14 : decode cX3_doChip 14 = .ok (.iconst 0, 1) := by decide +kernel
theorem dX3_doChip_15 : decode cX3_doChip 15 = .ok (.iaload, 1) := by decide +kernel
theorem dX3_doChip_16 : decode cX3_doChip 16 = .ok (.aload_n 0, 1) := by decide +kernel
theorem dX3_doChip_17 : decode cX3_doChip 17 = .ok (.getfield 22, 3) := by decide +kernel
theorem dX3_doChip_20 : decode cX3_doChip 20 = .ok (.iconst 1, 1) := by decide +kernel
theorem dX3_doChip_21 : decode cX3_doChip 21 = .ok (.iaload, 1) := by decide +kernel
theorem dX3_doChip_22 : decode cX3_doChip 22 = .ok (.iload_n 1, 1) := by decide +kernel
theorem dX3_doChip_23 : decode cX3_doChip 23 = .ok (.invokevirtual 158, 3) := by decide +kernel
theorem dX3_doChip_26 : decode cX3_doChip 26 = .ok (.istore_n 2, 1) := by decide +kernel
theorem dX3_doChip_27 : decode cX3_doChip 27 = .ok (.iload_n 2, 1) := by decide +kernel
theorem dX3_doChip_28 : decode cX3_doChip 28 = .ok (.ifCond .ne 24, 3) := by decide +kernel
theorem dX3_doChip_31 : decode cX3_doChip 31 = .ok (.aload_n 0, 1) := by decide +kernel
theorem dX3_doChip_32 : decode cX3_doChip 32 = .ok (.getfield 12, 3) := by decide +kernel
theorem dX3_doChip_35 : decode cX3_doChip 35 = .ok (.aload_n 0, 1) := by decide +kernel
theorem dX3_doChip_36 : decode cX3_doChip 36 = .ok (.getfield 22, 3) := by decide +kernel
theorem dX3_doChip_39 : decode cX3_doChip 39 = .ok (.iconst 0, 1) := by decide +kernel
theorem dX3_doChip_40 : decode cX3_doChip 40 = .ok (.iaload, 1) := by decide +kernel
theorem dX3_doChip_41 : decode cX3_doChip 41 = .ok (.aload_n 0, 1) := by decide +kernel
theorem dX3_doChip_42 : decode cX3_doChip 42 = .ok (.getfield 22, 3) := by decide +kernel
theorem dX3_doChip_45 : decode cX3_doChip 45 = .ok (.iconst 1, 1) := by decide +kernel
theorem dX3_doChip_46 : decode cX3_doChip 46 = .ok (.iaload, 1) := by decide +kernel
theorem dX3_doChip_47 : decode cX3_doChip 47 = .ok (.iload_n 1, 1) := by decide +kernel
theorem dX3_doChip_48 : decode cX3_doChip 48 = .ok (.invokevirtual 161, 3) := by decide +kernel
theorem dX3_doChip_51 : decode cX3_doChip 51 = .ok (.pop, 1) := by decide +kernel
theorem dX3_doChip_52 : decode cX3_doChip 52 = .ok (.iload_n 2, 1) := by decide +kernel
theorem dX3_doChip_53 : decode cX3_doChip 53 = .ok (.ireturn, 1) := by decide +kernel
theorem dX3_doFault_0 : decode cX3_doFault 0 = .ok (.aload_n 0, 1) := by decide +kernel
theorem dX3_doFault_1 : decode cX3_doFault 1 = .ok (.getfield 12, 3) := by decide +kernel
theorem dX3_doFault_4 : decode cX3_doFault 4 = .ok (.iload_n 1, 1) := by decide +kernel
theorem dX3_doFault_5 : decode cX3_doFault 5 = .ok (.iload_n 2, 1) := by decide +kernel
theorem dX3_doFault_6 : decode cX3_doFault 6 = .ok (.iload_n 3, 1) := by decide +kernel
theorem dX3_doFault_7 : decode cX3_doFault 7 = .ok (.invokevirtual 164, 3) := by decide +kernel
theorem dX3_doFault_10 : decode cX3_doFault 10 = .ok (.istore 4, 2) := by decide +kernel
theorem dX3_doFault_12 : decode cX3_doFault 12 = .ok (.iload 4, 2) := by decide +kernel
theorem dX3_doFault_14 : decode cX3_doFault 14 = .ok (.ifCond .ne 14, 3) := by decide +kernel
theorem dX3_doFault_17 : decode cX3_doFault 17 = .ok (.aload_n 0, 1) := by decide +kernel
theorem dX3_doFault_18 : decode cX3_doFault 18 = .ok (.getfield 12, 3) := by decide +kernel
theorem dX3_doFault_21 : decode cX3_doFault 21 = .ok (.iload_n 1, 1) := by decide +kernel
theorem dX3_doFault_22 : decode cX3_doFault 22 = .ok (.iload_n 2, 1) := by decide +kernel
theorem dX3_doFault_23 : decode cX3_doFault 23 = .ok (.iload_n 3, 1) := by decide +kernel
theorem dX3_doFault_24 : decode cX3_doFault 24 = .ok (.invokevirtual 167, 3) := by decide +kernel
theorem dX3_doFault_27 : decode cX3_doFault 27 = .ok (.pop, 1) := by decide +kernel
theorem dX3_doFault_28 : decode cX3_doFault 28 = .ok (.iload 4, 2) := by decide +kernel
theorem dX3_doFault_30 : decode cX3_doFault 30 = .ok (.ireturn, 1) := by decide +kernel
theorem dX3_setFrom_0 : decode cX3_setFrom 0 = .ok (.iconst 0, 1) := by decide +kernel
theorem dX3_setFrom_1 : decode cX3_setFrom 1 = .ok (.istore_n 2, 1) := by decide +kernel
theorem dX3_setFrom_2 : decode cX3_setFrom 2 = .ok (.iload_n 1, 1) := by decide +kernel
theorem dX3_setFrom_3 : decode cX3_setFrom 3 = .ok (.istore_n 3, 1) := by decide +kernel
theorem dX3_setFrom_4 : decode cX3_setFrom 4 = .ok (.iload_n 3, 1) := by decide +kernel
theorem dX3_setFrom_5 : decode cX3_setFrom 5 = .ok (.aload_n 0, 1) := by decide +kernel
theorem dX3_setFrom_6 : decode cX3_setFrom 6 = .ok (.getfield 58, 3) := by decide +kernel
theorem dX3_setFrom_9 : decode cX3_setFrom 9 = .ok (.if_icmp .ge 20, 3) := by decide +kernel
theorem dX3_setFrom_12 : decode cX3_setFrom 12 = .ok (.iload_n 2, 1) := by decide +kernel
theorem dX3_setFrom_13 : decode cX3_setFrom 13 = .ok (.iconst 1, 1) := by decide +kernel
theorem dX3_setFrom_14 : decode cX3_setFrom 14 = .ok (.aload_n 0, 1) := by decide +kernel
theorem dX3_setFrom_15 : decode cX3_setFrom 15 = .ok (.getfield 22, 3) := by decide +kernel
theorem dX3_setFrom_18 : decode cX3_setFrom 18 = .ok (.iload_n 3, 1) := by decide +kernel
theorem dX3_setFrom_19 : decode cX3_setFrom 19 = .ok (.iaload, 1) := by decide +kernel
theorem dX3_setFrom_20 : decode cX3_setFrom 20 = .ok (.ishl, 1) := by decide +kernel
theorem dX3_setFrom_21 : decode cX3_setFrom 21 = .ok (.ior, 1) := by decide +kernel
theorem dX3_setFrom_22 : decode cX3_setFrom 22 = .ok (.istore_n 2, 1) := by decide +kernel
theorem dX3_setFrom_23 : decode cX3_setFrom 23 = .ok (.iinc 3 1, 3) := by decide +kernel
theorem dX3_setFrom_26 : decode cX3_setFrom 26 = .ok (.goto (-22), 3) := by decide +kernel
theorem dX3_setFrom_29 : decode cX3_setFrom 29 = .ok (.iload_n 2, 1) := by decide +kernel
theorem dX3_setFrom_30 : decode cX3_setFrom 30 = .ok (.ireturn, 1) := by decide +kernel
theorem dX4_init_0 : decode cX4_init 0 = .ok (.aload_n 0, 1) := by decide +kernel
theorem dX4_init_1 : decode cX4_init 1 = .ok (.invokespecial 3, 3) := by decide +kernel
theorem dX4_init_4 : decode cX4_init 4 = .ok (.aload_n 0, 1) := by decide +kernel
theorem dX4_init_5 : decode cX4_init 5 = .ok (.bipush 10, 2) := by decide +kernel
theorem dX4_init_7 : decode cX4_init 7 = .ok (.newarray .int, 2) := by decide +kernel
theorem dX4_init_9 : decode cX4_init 9 = .ok (.putfield 9, 3) := by decide +kernel
theorem dX4_init_12 : decode cX4_init 12 = .ok (.aload_n 0, 1) := by decide +kernel
theorem dX4_init_13 : decode cX4_init 13 = .ok (.bipush 10, 2) := by decide +kernel
theorem dX4_init_15 : decode cX4_init 15 = .ok (.putfield 15, 3) := by decide +kernel
theorem dX4_init_18 : decode cX4_init 18 = .ok (.aload_n 0, 1) := by decide +kernel
theorem dX4_init_19 : decode cX4_init 19 = .ok (.sipush 1024, 3) := by decide +kernel
theorem dX4_init_22 : decode cX4_init 22 = .ok (.putfield 19, 3) := by decide +kernel
theorem dX4_init_25 : decode cX4_init 25 = .ok (.aload_n 0, 1) := by decide +kernel
theorem dX4_init_26 : decode cX4_init 26 = .ok (.iconst 3, 1) := by decide +kernel
theorem dX4_init_27 : decode cX4_init 27 = .ok (.putfield 22, 3) := by decide +kernel
theorem dX4_init_30 : decode cX4_init 30 = .ok (.aload_n 0, 1) := by decide +kernel
theorem dX4_init_31 : decode cX4_init 31 = .ok (.aload_n 1, 1) := by decide +kernel
theorem dX4_init_32 : decode cX4_init 32 = .ok (.putfield 25, 3) := by decide +kernel
theorem dX4_init_35 : decode cX4_init 35 = .ok (.aload_n 0, 1) := by decide +kernel
theorem dX4_init_36 : decode cX4_init 36 = .ok (.getfield 9, 3) := by decide +kernel
theorem dX4_init_39 : decode cX4_init 39 = .ok (.iconst (-1), 1) := by decide +kernel
theorem dX4_init_40 : decode cX4_init 40 = .ok (.invokestatic 29, 3) := by decide +kernel
theorem dX4_init_43 : decode cX4_init 43 = .ok (.return_, 1) := by decide +kernel
theorem dX4_copyFrom_0 : decode cX4_copyFrom 0 = .ok (.aload_n 0, 1) := by decide +kernel
theorem dX4_copyFrom_1 : decode cX4_copyFrom 1 = .ok (.getfield 25, 3) := by decide +kernel
theorem dX4_copyFrom_4 : decode cX4_copyFrom 4 = .ok (.aload_n 1, 1) := by decide +kernel
theorem dX4_copyFrom_5 : decode cX4_copyFrom 5 = .ok (.getfield 25, 3) := by decide +kernel
theorem dX4_copyFrom_8 : decode cX4_copyFrom 8 = .ok (.invokevirtual 35, 3) := by decide +kernel
theorem dX4_copyFrom_11 : decode cX4_copyFrom 11 = .ok (.aload_n 1, 1) := by decide +kernel
theorem dX4_copyFrom_12 : decode cX4_copyFrom 12 = .ok (.getfield 9, 3) := by decide +kernel
theorem dX4_copyFrom_15 : decode cX4_copyFrom 15 = .ok (.iconst 0, 1) := by decide +kernel
theorem dX4_copyFrom_16 : decode cX4_copyFrom 16 = .ok (.aload_n 0, 1) := by decide +kernel
theorem dX4_copyFrom_17 : decode cX4_copyFrom 17 = .ok (.getfield 9, 3) := by decide +kernel
theorem dX4_copyFrom_20 : decode cX4_copyFrom 20 = .ok (.iconst 0, 1) := by decide +kernel
theorem dX4_copyFrom_21 : decode cX4_copyFrom 21 = .ok (.bipush 10, 2) := by decide +kernel
theorem dX4_copyFrom_23 : decode cX4_copyFrom 23 = .ok (.invokestatic 41, 3) := by decide +kernel
theorem dX4_copyFrom_26 : decode cX4_copyFrom 26 = .ok (.aload_n 0, 1) := by decide +kernel
theorem dX4_copyFrom_27 : decode cX4_copyFrom 27 = .ok (.aload_n 1, 1) := by decide +kernel
theorem dX4_copyFrom_28 : decode cX4_copyFrom 28 = .ok (.getfield 47, 3) := by decide +kernel
theorem dX4_copyFrom_31 : decode cX4_copyFrom 31 = .ok (.putfield 47, 3) := by decide +kernel
theorem dX4_copyFrom_34 : decode cX4_copyFrom 34 = .ok (.aload_n 0, 1) := by decide +kernel
theorem dX4_copyFrom_35 : decode cX4_copyFrom 35 = .ok (.aload_n 1, 1) := by decide +kernel
theorem dX4_copyFrom_36 : decode cX4_copyFrom 36 = .ok (.getfield 15, 3) := by decide +kernel
theorem dX4_copyFrom_39 : decode cX4_copyFrom 39 = .ok (.putfield 15, 3) := by decide +kernel
theorem dX4_copyFrom_42 : decode cX4_copyFrom 42 = .ok (.aload_n 0, 1) := by decide +kernel
theorem dX4_copyFrom_43 : decode cX4_copyFrom 43 = .ok (.aload_n 1, 1) := by decide +kernel
theorem dX4_copyFrom_44 : decode cX4_copyFrom 44 = .ok (.getfield 19, 3) := by decide +kernel
theorem dX4_copyFrom_47 : decode cX4_copyFrom 47 = .ok (.putfield 19, 3) := by decide +kernel
theorem dX4_copyFrom_50 : decode cX4_copyFrom 50 = .ok (.aload_n 0, 1) := by decide +kernel
theorem dX4_copyFrom_51 : decode cX4_copyFrom 51 = .ok (.aload_n 1, 1) := by decide +kernel
theorem dX4_copyFrom_52 : decode cX4_copyFrom 52 = .ok (.getfield 22, 3) := by decide +kernel
theorem dX4_copyFrom_55 : decode cX4_copyFrom 55 = .ok (.putfield 22, 3) := by decide +kernel
theorem dX4_copyFrom_58 : decode cX4_copyFrom 58 = .ok (.aload_n 0, 1) := by decide +kernel
theorem dX4_copyFrom_59 : decode cX4_copyFrom 59 = .ok (.aload_n 1, 1) := by decide +kernel
theorem dX4_copyFrom_60 : decode cX4_copyFrom 60 = .ok (.getfield 50, 3) := by decide +kernel
theorem dX4_copyFrom_63 : decode cX4_copyFrom 63 = .ok (.putfield 50, 3) := by decide +kernel
theorem dX4_copyFrom_66 : decode cX4_copyFrom 66 = .ok (.aload_n 0, 1) := by decide +kernel
theorem dX4_copyFrom_67 : decode cX4_copyFrom 67 = .ok (.aload_n 1, 1) := by decide +kernel
end
section
theorem dX4_copyFrom_68 : decode cX4_copyFrom 68 = .ok (.getfield 53, 3) := by decide +kernel
theorem dX4_copyFrom_71 : decode cX4_copyFrom 71 = .ok (.putfield 53, 3) := by decide +kernel
theorem dX4_copyFrom_74 : decode cX4_copyFrom 74 = .ok (.return_, 1) := by decide +kernel
theorem dX4_weekday_0 : decode cX4_weekday 0 = .ok (.aload_n 0, 1) := by decide +kernel
theorem dX4_weekday_1 : decode cX4_weekday 1 = .ok (.getfield 47, 3) := by decide +kernel
theorem dX4_weekday_4 : decode cX4_weekday 4 = .ok (.bipush 7, 2) := by decide +kernel
theorem dX4_weekday_6 : decode cX4_weekday 6 = .ok (.irem, 1) := by decide +kernel
theorem dX4_weekday_7 : decode cX4_weekday 7 = .ok (.ireturn, 1) := by decide +kernel
theorem dX4_touchedNow_0 : decode cX4_touchedNow 0 = .ok (.aload_n 0, 1) := by decide +kernel
theorem dX4_touchedNow_1 : decode cX4_touchedNow 1 = .ok (.getfield 25, 3) := by decide +kernel
theorem dX4_touchedNow_4 : decode cX4_touchedNow 4 = .ok (.aload_n 0, 1) := by decide +kernel
theorem dX4_touchedNow_5 : decode cX4_touchedNow 5 = .ok (.invokevirtual 56, 3) := by decide +kernel
theorem dX4_touchedNow_8 : decode cX4_touchedNow 8 = .ok (.invokevirtual 60, 3) := by decide +kernel
theorem dX4_touchedNow_11 : decode cX4_touchedNow 11 = .ok (.aload_n 0, 1) := by decide +kernel
theorem dX4_touchedNow_12 : decode cX4_touchedNow 12 = .ok (.getfield 50, 3) := by decide +kernel
theorem dX4_touchedNow_15 : decode cX4_touchedNow 15 = .ok (.ior, 1) := by decide +kernel
theorem dX4_touchedNow_16 : decode cX4_touchedNow 16 = .ok (.ireturn, 1) := by decide +kernel
theorem dX4_filedIn_0 : decode cX4_filedIn 0 = .ok (.iconst 0, 1) := by decide +kernel
theorem dX4_filedIn_1 : decode cX4_filedIn 1 = .ok (.istore_n 2, 1) := by decide +kernel
theorem dX4_filedIn_2 : decode cX4_filedIn 2 = .ok (.iconst 0, 1) := by decide +kernel
theorem dX4_filedIn_3 : decode cX4_filedIn 3 = .ok (.istore_n 3, 1) := by decide +kernel
theorem dX4_filedIn_4 : decode cX4_filedIn 4 = .ok (.iload_n 3, 1) := by decide +kernel
theorem dX4_filedIn_5 : decode cX4_filedIn 5 = .ok (.aload_n 0, 1) := by decide +kernel
theorem dX4_filedIn_6 : decode cX4_filedIn 6 = .ok (.getfield 25, 3) := by decide +kernel
theorem dX4_filedIn_9 : decode cX4_filedIn 9 = .ok (.getfield 64, 3) := by decide +kernel
theorem dX4_filedIn_12 : decode cX4_filedIn 12 = .ok (.if_icmp .ge 22, 3) := by decide +kernel
theorem dX4_filedIn_15 : decode cX4_filedIn 15 = .ok (.aload_n 0, 1) := by decide +kernel
theorem dX4_filedIn_16 : decode cX4_filedIn 16 = .ok (.getfield 9, 3) := by decide +kernel
theorem dX4_filedIn_19 : decode cX4_filedIn 19 = .ok (.iload_n 3, 1) := by decide +kernel
theorem dX4_filedIn_20 : decode cX4_filedIn 20 = .ok (.iaload, 1) := by decide +kernel
theorem dX4_filedIn_21 : decode cX4_filedIn 21 = .ok (.iload_n 1, 1) := by decide +kernel
theorem dX4_filedIn_22 : decode cX4_filedIn 22 = .ok (.if_icmp .ne 6, 3) := by decide +kernel
theorem dX4_filedIn_25 : decode cX4_filedIn 25 = .ok (.iinc 2 1, 3) := by decide +kernel
theorem dX4_filedIn_28 : decode cX4_filedIn 28 = .ok (.iinc 3 1, 3) := by decide +kernel
theorem dX4_filedIn_31 : decode cX4_filedIn 31 = .ok (.goto (-27), 3) := by decide +kernel
theorem dX4_filedIn_34 : decode cX4_filedIn 34 = .ok (.iload_n 2, 1) := by decide +kernel
theorem dX4_filedIn_35 : decode cX4_filedIn 35 = .ok (.ireturn, 1) := by decide +kernel
theorem dX5_init_0 : decode cX5_init 0 = .ok (.aload_n 0, 1) := by decide +kernel
theorem dX5_init_1 : decode cX5_init 1 = .ok (.invokespecial 3, 3) := by decide +kernel
theorem dX5_init_4 : decode cX5_init 4 = .ok (.aload_n 0, 1) := by decide +kernel
theorem dX5_init_5 : decode cX5_init 5 = .ok (.bipush 16, 2) := by decide +kernel
theorem dX5_init_7 : decode cX5_init 7 = .ok (.newarray .int, 2) := by decide +kernel
theorem dX5_init_9 : decode cX5_init 9 = .ok (.putfield 9, 3) := by decide +kernel
theorem dX5_init_12 : decode cX5_init 12 = .ok (.aload_n 0, 1) := by decide +kernel
theorem dX5_init_13 : decode cX5_init 13 = .ok (.bipush 16, 2) := by decide +kernel
theorem dX5_init_15 : decode cX5_init 15 = .ok (.newarray .int, 2) := by decide +kernel
theorem dX5_init_17 : decode cX5_init 17 = .ok (.putfield 15, 3) := by decide +kernel
theorem dX5_init_20 : decode cX5_init 20 = .ok (.aload_n 0, 1) := by decide +kernel
theorem dX5_init_21 : decode cX5_init 21 = .ok (.aload_n 1, 1) := by decide +kernel
theorem dX5_init_22 : decode cX5_init 22 = .ok (.putfield 18, 3) := by decide +kernel
theorem dX5_init_25 : decode cX5_init 25 = .ok (.aload_n 0, 1) := by decide +kernel
theorem dX5_init_26 : decode cX5_init 26 = .ok (.iload_n 2, 1) := by decide +kernel
theorem dX5_init_27 : decode cX5_init 27 = .ok (.putfield 22, 3) := by decide +kernel
theorem dX5_init_30 : decode cX5_init 30 = .ok (.return_, 1) := by decide +kernel
theorem dX5_setUp_0 : decode cX5_setUp 0 = .ok (.aload_n 0, 1) := by decide +kernel
theorem dX5_setUp_1 : decode cX5_setUp 1 = .ok (.getfield 18, 3) := by decide +kernel
theorem dX5_setUp_4 : decode cX5_setUp 4 = .ok (.aload_n 0, 1) := by decide +kernel
theorem dX5_setUp_5 : decode cX5_setUp 5 = .ok (.getfield 22, 3) := by decide +kernel
theorem dX5_setUp_8 : decode cX5_setUp 8 = .ok (.invokevirtual 26, 3) := by decide +kernel
theorem dX5_setUp_11 : decode cX5_setUp 11 = .ok (.istore_n 1, 1) := by decide +kernel
theorem dX5_setUp_12 : decode cX5_setUp 12 = .ok (.iload_n 1, 1) := by decide +kernel
theorem dX5_setUp_13 : decode cX5_setUp 13 = .ok (.ifCond .eq 23, 3) := by decide +kernel
theorem dX5_setUp_16 : decode cX5_setUp 16 = .ok (.aload_n 0, 1) := by decide +kernel
theorem dX5_setUp_17 : decode cX5_setUp 17 = .ok (.getfield 18, 3) := by decide +kernel
theorem dX5_setUp_20 : decode cX5_setUp 20 = .ok (.getfield 32, 3) := by decide +kernel
theorem dX5_setUp_23 : decode cX5_setUp 23 = .ok (.aload_n 0, 1) := by decide +kernel
theorem dX5_setUp_24 : decode cX5_setUp 24 = .ok (.getfield 22, 3) := by decide +kernel
theorem dX5_setUp_27 : decode cX5_setUp 27 = .ok (.iaload, 1) := by decide +kernel
theorem dX5_setUp_28 : decode cX5_setUp 28 = .ok (.iconst 3, 1) := by decide +kernel
theorem dX5_setUp_29 : decode cX5_setUp 29 = .ok (.if_icmp .ne 7, 3) := by decide +kernel
theorem dX5_setUp_32 : decode cX5_setUp 32 = .ok (.iconst 1, 1) := by decide +kernel
theorem dX5_setUp_33 : decode cX5_setUp 33 = .ok (.goto 4, 3) := by decide +kernel
theorem dX5_setUp_36 : decode cX5_setUp 36 = .ok (.iconst 0, 1) := by decide +kernel
theorem dX5_setUp_37 : decode cX5_setUp 37 = .ok (.istore_n 2, 1) := by decide +kernel
theorem dX5_setUp_38 : decode cX5_setUp 38 = .ok (.iload_n 1, 1) := by decide +kernel
theorem dX5_setUp_39 : decode cX5_setUp 39 = .ok (.ifCond .eq 23, 3) := by decide +kernel
theorem dX5_setUp_42 : decode cX5_setUp 42 = .ok (.aload_n 0, 1) := by decide +kernel
theorem dX5_setUp_43 : decode cX5_setUp 43 = .ok (.getfield 18, 3) := by decide +kernel
theorem dX5_setUp_46 : decode cX5_setUp 46 = .ok (.getfield 32, 3) := by decide +kernel
theorem dX5_setUp_49 : decode cX5_setUp 49 = .ok (.aload_n 0, 1) := by decide +kernel
theorem dX5_setUp_50 : decode cX5_setUp 50 = .ok (.getfield 22, 3) := by decide +kernel
theorem dX5_setUp_53 : decode cX5_setUp 53 = .ok (.iaload, 1) := by decide +kernel
theorem dX5_setUp_54 : decode cX5_setUp 54 = .ok (.iconst 4, 1) := by decide +kernel
theorem dX5_setUp_55 : decode cX5_setUp 55 = .ok (.if_icmp .ne 7, 3) := by decide +kernel
theorem dX5_setUp_58 : decode cX5_setUp 58 = .ok (.iconst 1, 1) := by decide +kernel
theorem dX5_setUp_59 : decode cX5_setUp 59 = .ok (.goto 4, 3) := by decide +kernel
theorem dX5_setUp_62 : decode cX5_setUp 62 = .ok (.iconst 0, 1) := by decide +kernel
theorem dX5_setUp_63 : decode cX5_setUp 63 = .ok (.istore_n 3, 1) := by decide +kernel
theorem dX5_setUp_64 : decode cX5_setUp 64 = .ok (.aload_n 0, 1) := by decide +kernel
theorem dX5_setUp_65 : decode cX5_setUp 65 = .ok (.iload_n 2, 1) := by decide +kernel
theorem dX5_setUp_66 : decode cX5_setUp 66 = .ok (.ifCond .eq 26, 3) := by decide +kernel
theorem dX5_setUp_69 : decode cX5_setUp 69 = .ok (.aload_n 0, 1) := by decide +kernel
theorem dX5_setUp_70 : decode cX5_setUp 70 = .ok (.getfield 18, 3) := by decide +kernel
theorem dX5_setUp_73 : decode cX5_setUp 73 = .ok (.getfield 35, 3) := by decide +kernel
theorem dX5_setUp_76 : decode cX5_setUp 76 = .ok (.aload_n 0, 1) := by decide +kernel
theorem dX5_setUp_77 : decode cX5_setUp 77 = .ok (.getfield 18, 3) := by decide +kernel
theorem dX5_setUp_80 : decode cX5_setUp 80 = .ok (.getfield 38, 3) := by decide +kernel
theorem dX5_setUp_83 : decode cX5_setUp 83 = .ok (.aload_n 0, 1) := by decide +kernel
theorem dX5_setUp_84 : decode cX5_setUp 84 = .ok (.getfield 22, 3) := by decide +kernel
theorem dX5_setUp_87 : decode cX5_setUp 87 = .ok (.iaload, 1) := by decide +kernel
theorem dX5_setUp_88 : decode cX5_setUp 88 = .ok (.iaload, 1) := by decide +kernel
theorem dX5_setUp_89 : decode cX5_setUp 89 = .ok (.goto 4, 3) := by decide +kernel
theorem dX5_setUp_92 : decode cX5_setUp 92 = .ok (.iconst 0, 1) := by decide +kernel
theorem dX5_setUp_93 : decode cX5_setUp 93 = .ok (.putfield 41, 3) := by decide +kernel
theorem dX5_setUp_96 : decode cX5_setUp 96 = .ok (.aload_n 0, 1) := by decide +kernel
theorem dX5_setUp_97 : decode cX5_setUp 97 = .ok (.iload_n 3, 1) := by decide +kernel
theorem dX5_setUp_98 : decode cX5_setUp 98 = .ok (.ifCond .eq 20, 3) := by decide +kernel
theorem dX5_setUp_101 : decode cX5_setUp 101 = .ok (.iconst 1, 1) := by decide +kernel
theorem dX5_setUp_102 : decode cX5_setUp 102 = .ok (.aload_n 0, 1) := by decide +kernel
theorem dX5_setUp_103 : decode cX5_setUp 103 = .ok (.getfield 18, 3) := by decide +kernel
theorem dX5_setUp_106 : decode cX5_setUp 106 = .ok (.getfield 38, 3) := by decide +kernel
theorem dX5_setUp_109 : decode cX5_setUp 109 = .ok (.aload_n 0, 1) := by decide +kernel
theorem dX5_setUp_110 : decode cX5_setUp 110 = .ok (.getfield 22, 3) := by decide +kernel
theorem dX5_setUp_113 : decode cX5_setUp 113 = .ok (.iaload, 1) := by decide +kernel
theorem dX5_setUp_114 : decode cX5_setUp 114 = .ok (.ishl, 1) := by decide +kernel
theorem dX5_setUp_115 : decode cX5_setUp 115 = .ok (.goto 4, 3) := by decide +kernel
theorem dX5_setUp_118 : decode cX5_setUp 118 = .ok (.iconst 0, 1) := by decide +kernel
theorem dX5_setUp_119 : decode cX5_setUp 119 = .ok (.putfield 44, 3) := by decide +kernel
theorem dX5_setUp_122 : decode cX5_setUp 122 = .ok (.iconst 0, 1) := by decide +kernel
theorem dX5_setUp_123 : decode cX5_setUp 123 = .ok (.istore 4, 2) := by decide +kernel
theorem dX5_setUp_125 : decode cX5_setUp 125 = .ok (.iload 4, 2) := by decide +kernel
theorem dX5_setUp_127 : decode cX5_setUp 127 = .ok (.bipush 16, 2) := by decide +kernel
theorem dX5_setUp_129 : decode cX5_setUp 129 = .ok (.if_icmp .ge 35, 3) := by decide +kernel
theorem dX5_setUp_132 : decode cX5_setUp 132 = .ok (.aload_n 0, 1) := by decide +kernel
theorem dX5_setUp_133 : decode cX5_setUp 133 = .ok (.getfield 9, 3) := by decide +kernel
theorem dX5_setUp_136 : decode cX5_setUp 136 = .ok (.iload 4, 2) := by decide +kernel
theorem dX5_setUp_138 : decode cX5_setUp 138 = .ok (.aload_n 0, 1) := by decide +kernel
theorem dX5_setUp_139 : decode cX5_setUp 139 = .ok (.iload 4, 2) := by decide +kernel
theorem dX5_setUp_141 : decode cX5_setUp 141 = .ok (.invokevirtual 47, 3) := by decide +kernel
theorem dX5_setUp_144 : decode cX5_setUp 144 = .ok (.iastore, 1) := by decide +kernel
theorem dX5_setUp_145 : decode cX5_setUp 145 = .ok (.aload_n 0, 1) := by decide +kernel
theorem dX5_setUp_146 : decode cX5_setUp 146 = .ok (.getfield 15, 3) := by decide +kernel
theorem dX5_setUp_149 : decode cX5_setUp 149 = .ok (.iload 4, 2) := by decide +kernel
theorem dX5_setUp_151 : decode cX5_setUp 151 = .ok (.aload_n 0, 1) := by decide +kernel
theorem dX5_setUp_152 : decode cX5_setUp 152 = .ok (.iload 4, 2) := by decide +kernel
theorem dX5_setUp_154 : decode cX5_setUp 154 = .ok (.invokevirtual 51, 3) := by decide +kernel
theorem dX5_setUp_157 : decode cX5_setUp 157 = .ok (.iastore, 1) := by decide +kernel
theorem dX5_setUp_158 : decode cX5_setUp 158 = .ok (.iinc 4 1, 3) := by decide +kernel
theorem dX5_setUp_161 : decode cX5_setUp 161 = .ok (.goto (-36), 3) := by decide +kernel
theorem dX5_setUp_164 : decode cX5_setUp 164 = .ok (.return_, 1) := by decide +kernel
theorem dX5_linkingNet_0 : decode cX5_linkingNet 0 = .ok (.aload_n 0, 1) := by decide +kernel
theorem dX5_linkingNet_1 : decode cX5_linkingNet 1 = .ok (.getfield 18, 3) := by decide +kernel
theorem dX5_linkingNet_4 : decode cX5_linkingNet 4 = .ok (.getfield 54, 3) := by decide +kernel
theorem dX5_linkingNet_7 : decode cX5_linkingNet 7 = .ok (.iload_n 1, 1) := by decide +kernel
theorem dX5_linkingNet_8 : decode cX5_linkingNet 8 = .ok (.iaload, 1) := by decide +kernel
theorem dX5_linkingNet_9 : decode cX5_linkingNet 9 = .ok (.istore_n 2, 1) := by decide +kernel
theorem dX5_linkingNet_10 : decode cX5_linkingNet 10 = .ok (.iload_n 2, 1) := by decide +kernel
theorem dX5_linkingNet_11 : decode cX5_linkingNet 11 = .ok (.iconst (-1), 1) := by decide +kernel
theorem dX5_linkingNet_12 : decode cX5_linkingNet 12 = .ok (.if_icmp .eq 51, 3) := by decide +kernel
theorem dX5_linkingNet_15 : decode cX5_linkingNet 15 = .ok (.aload_n 0, 1) := by decide +kernel
theorem dX5_linkingNet_16 : decode cX5_linkingNet 16 = .ok (.getfield 18, 3) := by decide +kernel
theorem dX5_linkingNet_19 : decode cX5_linkingNet 19 = .ok (.aload_n 0, 1) := by decide +kernel
theorem dX5_linkingNet_20 : decode cX5_linkingNet 20 = .ok (.getfield 22, 3) := by decide +kernel
theorem dX5_linkingNet_23 : decode cX5_linkingNet 23 = .ok (.iconst 0, 1) := by decide +kernel
theorem dX5_linkingNet_24 : decode cX5_linkingNet 24 = .ok (.iload_n 1, 1) := by decide +kernel
theorem dX5_linkingNet_25 : decode cX5_linkingNet 25 = .ok (.invokevirtual 57, 3) := by decide +kernel
theorem dX5_linkingNet_28 : decode cX5_linkingNet 28 = .ok (.ifCond .ne 35, 3) := by decide +kernel
theorem dX5_linkingNet_31 : decode cX5_linkingNet 31 = .ok (.aload_n 0, 1) := by decide +kernel
theorem dX5_linkingNet_32 : decode cX5_linkingNet 32 = .ok (.getfield 18, 3) := by decide +kernel
theorem dX5_linkingNet_35 : decode cX5_linkingNet 35 = .ok (.aload_n 0, 1) := by decide +kernel
theorem dX5_linkingNet_36 : decode cX5_linkingNet 36 = .ok (.getfield 22, 3) := by decide +kernel
theorem dX5_linkingNet_39 : decode cX5_linkingNet 39 = .ok (.iconst 2, 1) := by decide +kernel
theorem dX5_linkingNet_40 : decode cX5_linkingNet 40 = .ok (.iload_n 2, 1) := by decide +kernel
theorem dX5_linkingNet_41 : decode cX5_linkingNet 41 = .ok (.invokevirtual 57, 3) := by decide +kernel
theorem dX5_linkingNet_44 : decode cX5_linkingNet 44 = .ok (.ifCond .ne 19, 3) := by decide +kernel
theorem dX5_linkingNet_47 : decode cX5_linkingNet 47 = .ok (.aload_n 0, 1) := by decide +kernel
theorem dX5_linkingNet_48 : decode cX5_linkingNet 48 = .ok (.getfield 18, 3) := by decide +kernel
theorem dX5_linkingNet_51 : decode cX5_linkingNet 51 = .ok (.aload_n 0, 1) := by decide +kernel
theorem dX5_linkingNet_52 : decode cX5_linkingNet 52 = .ok (.getfield 22, 3) := by decide +kernel
theorem dX5_linkingNet_55 : decode cX5_linkingNet 55 = .ok (.iconst 3, 1) := by decide +kernel
theorem dX5_linkingNet_56 : decode cX5_linkingNet 56 = .ok (.iload_n 2, 1) := by decide +kernel
theorem dX5_linkingNet_57 : decode cX5_linkingNet 57 = .ok (.invokevirtual 57, 3) := by decide +kernel
theorem dX5_linkingNet_60 : decode cX5_linkingNet 60 = .ok (.ifCond .eq 5, 3) := by decide +kernel
theorem dX5_linkingNet_63 : decode cX5_linkingNet 63 = .ok (.iconst 0, 1) := by decide +kernel
theorem dX5_linkingNet_64 : decode cX5_linkingNet 64 = .ok (.ireturn, 1) := by decide +kernel
theorem dX5_linkingNet_65 : decode cX5_linkingNet 65 = .ok (.iconst 1, 1) := by decide +kernel
theorem dX5_linkingNet_66 : decode cX5_linkingNet 66 = .ok (.iload_n 2, 1) := by decide +kernel
theorem dX5_linkingNet_67 : decode cX5_linkingNet 67 = .ok (.ishl, 1) := by decide +kernel
theorem dX5_linkingNet_68 : decode cX5_linkingNet 68 = .ok (.ireturn, 1) := by decide +kernel
theorem dX5_followers_0 : decode cX5_followers 0 = .ok (.aload_n 0, 1) := by decide +kernel
theorem dX5_followers_1 : decode cX5_followers 1 = .ok (.getfield 18, 3) := by decide +kernel
theorem dX5_followers_4 : decode cX5_followers 4 = .ok (.getfield 54, 3) := by decide +kernel
theorem dX5_followers_7 : decode cX5_followers 7 = .ok (.iload_n 1, 1) := by decide +kernel
theorem dX5_followers_8 : decode cX5_followers 8 = .ok (.iaload, 1) := by decide +kernel
theorem dX5_followers_9 : decode cX5_followers 9 = .ok (.istore_n 2, 1) := by decide +kernel
theorem dX5_followers_10 : decode cX5_followers 10 = .ok (.iload_n 2, 1) := by decide +kernel
theorem dX5_followers_11 : decode cX5_followers 11 = .ok (.iconst (-1), 1) := by decide +kernel
theorem dX5_followers_12 : decode cX5_followers 12 = .ok (.if_icmp .eq 19, 3) := by decide +kernel
theorem dX5_followers_15 : decode cX5_followers 15 = .ok (.aload_n 0, 1) := by decide +kernel
theorem dX5_followers_16 : decode cX5_followers 16 = .ok (.getfield 18, 3) := by decide +kernel
theorem dX5_followers_19 : decode cX5_followers 19 = .ok (.aload_n 0, 1) := by decide +kernel
theorem dX5_followers_20 : decode cX5_followers 20 = .ok (.getfield 22, 3) := by decide +kernel
theorem dX5_followers_23 : decode cX5_followers 23 = .ok (.iconst 0, 1) := by decide +kernel
theorem dX5_followers_24 : decode cX5_followers 24 = .ok (.iload_n 1, 1) := by decide +kernel
theorem dX5_followers_25 : decode cX5_followers 25 = .ok (.invokevirtual 57, 3) := by decide +kernel
theorem dX5_followers_28 : decode cX5_followers 28 = .ok (.ifCond .eq 7, 3) := by decide +kernel
theorem dX5_followers_31 : decode cX5_followers 31 = .ok (.iconst 1, 1) := by decide +kernel
theorem dX5_followers_32 : decode cX5_followers 32 = .ok (.iload_n 1, 1) := by decide +kernel
theorem dX5_followers_33 : decode cX5_followers 33 = .ok (.ishl, 1) := by decide +kernel
theorem dX5_followers_34 : decode cX5_followers 34 = .ok (.ireturn, 1) := by decide +kernel
theorem dX5_followers_35 : decode cX5_followers 35 = .ok (.aload_n 0, 1) := by decide +kernel
theorem dX5_followers_36 : decode cX5_followers 36 = .ok (.getfield 18, 3) := by decide +kernel
theorem dX5_followers_39 : decode cX5_followers 39 = .ok (.aload_n 0, 1) := by decide +kernel
theorem dX5_followers_40 : decode cX5_followers 40 = .ok (.getfield 22, 3) := by decide +kernel
theorem dX5_followers_43 : decode cX5_followers 43 = .ok (.iconst 2, 1) := by decide +kernel
theorem dX5_followers_44 : decode cX5_followers 44 = .ok (.iload_n 2, 1) := by decide +kernel
theorem dX5_followers_45 : decode cX5_followers 45 = .ok (.invokevirtual 57, 3) := by decide +kernel
theorem dX5_followers_48 : decode cX5_followers 48 = .ok (.ifCond .eq 5, 3) := by decide +kernel
theorem dX5_followers_51 : decode cX5_followers 51 = .ok (.iconst 0, 1) := by decide +kernel
theorem dX5_followers_52 : decode cX5_followers 52 = .ok (.ireturn, 1) := by decide +kernel
theorem dX5_followers_53 : decode cX5_followers 53 = .ok (.aload_n 0, 1) := by decide +kernel
theorem dX5_followers_54 : decode cX5_followers 54 = .ok (.getfield 18, 3) := by decide +kernel
theorem dX5_followers_57 : decode cX5_followers 57 = .ok (.aload_n 0, 1) := by decide +kernel
theorem dX5_followers_58 : decode cX5_followers 58 = .ok (.getfield 22, 3) := by decide +kernel
theorem dX5_followers_61 : decode cX5_followers 61 = .ok (.iload_n 2, 1) := by decide +kernel
theorem dX5_followers_62 : decode cX5_followers 62 = .ok (.invokevirtual 61, 3) := by decide +kernel
theorem dX5_followers_65 : decode cX5_followers 65 = .ok (.istore_n 3, 1) := by decide +kernel
theorem dX5_followers_66 : decode cX5_followers 66 = .ok (.iload_n 3, 1) := by decide +kernel
theorem dX5_followers_67 : decode cX5_followers 67 = .ok (.iconst (-1), 1) := by decide +kernel
theorem dX5_followers_68 : decode cX5_followers 68 = .ok (.if_icmp .ne 15, 3) := by decide +kernel
theorem dX5_followers_71 : decode cX5_followers 71 = .ok (.aload_n 0, 1) := by decide +kernel
theorem dX5_followers_72 : decode cX5_followers 72 = .ok (.getfield 18, 3) := by decide +kernel
theorem dX5_followers_75 : decode cX5_followers 75 = .ok (.getfield 35, 3) := by decide +kernel
theorem dX5_followers_78 : decode cX5_followers 78 = .ok (.iload_n 2, 1) := by decide +kernel
theorem dX5_followers_79 : decode cX5_followers 79 = .ok (.iaload, 1) := by decide +kernel
theorem dX5_followers_80 : decode cX5_followers 80 = .ok (.goto 22, 3) := by decide +kernel
theorem dX5_followers_83 : decode cX5_followers 83 = .ok (.aload_n 0, 1) := by decide +kernel
theorem dX5_followers_84 : decode cX5_followers 84 = .ok (.getfield 18, 3) := by decide +kernel
theorem dX5_followers_87 : decode cX5_followers 87 = .ok (.getfield 35, 3) := by decide +kernel
theorem dX5_followers_90 : decode cX5_followers 90 = .ok (.iload_n 2, 1) := by decide +kernel
theorem dX5_followers_91 : decode cX5_followers 91 = .ok (.iaload, 1) := by decide +kernel
theorem dX5_followers_92 : decode cX5_followers 92 = .ok (.aload_n 0, 1) := by decide +kernel
theorem dX5_followers_93 : decode cX5_followers 93 = .ok (.getfield 18, 3) := by decide +kernel
theorem dX5_followers_96 : decode cX5_followers 96 = .ok (.getfield 35, 3) := by decide +kernel
theorem dX5_followers_99 : decode cX5_followers 99 = .ok (.iload_n 3, 1) := by decide +kernel
theorem dX5_followers_100 : decode cX5_followers 100 = .ok (.iaload, 1) := by decide +kernel
theorem dX5_followers_101 : decode cX5_followers 101 = .ok (.ior, 1) := by decide +kernel
theorem dX5_followers_102 : decode cX5_followers 102 = .ok (.istore 4, 2) := by decide +kernel
theorem dX5_followers_104 : decode cX5_followers 104 = .ok (.aload_n 0, 1) := by decide +kernel
theorem dX5_followers_105 : decode cX5_followers 105 = .ok (.getfield 18, 3) := by decide +kernel
theorem dX5_followers_108 : decode cX5_followers 108 = .ok (.aload_n 0, 1) := by decide +kernel
theorem dX5_followers_109 : decode cX5_followers 109 = .ok (.getfield 22, 3) := by decide +kernel
theorem dX5_followers_112 : decode cX5_followers 112 = .ok (.invokevirtual 26, 3) := by decide +kernel
theorem dX5_followers_115 : decode cX5_followers 115 = .ok (.ifCond .eq 39, 3) := by decide +kernel
theorem dX5_followers_118 : decode cX5_followers 118 = .ok (.aload_n 0, 1) := by decide +kernel
theorem dX5_followers_119 : decode cX5_followers 119 = .ok (.getfield 18, 3) := by decide +kernel
theorem dX5_followers_122 : decode cX5_followers 122 = .ok (.getfield 32, 3) := by decide +kernel
theorem dX5_followers_125 : decode cX5_followers 125 = .ok (.aload_n 0, 1) := by decide +kernel
theorem dX5_followers_126 : decode cX5_followers 126 = .ok (.getfield 22, 3) := by decide +kernel
theorem dX5_followers_129 : decode cX5_followers 129 = .ok (.iaload, 1) := by decide +kernel
theorem dX5_followers_130 : decode cX5_followers 130 = .ok (.ifCond .ne 24, 3) := by decide +kernel
theorem dX5_followers_133 : decode cX5_followers 133 = .ok (.iload 4, 2) := by decide +kernel
theorem dX5_followers_135 : decode cX5_followers 135 = .ok (.iconst 1, 1) := by decide +kernel
theorem dX5_followers_136 : decode cX5_followers 136 = .ok (.aload_n 0, 1) := by decide +kernel
theorem dX5_followers_137 : decode cX5_followers 137 = .ok (.getfield 18, 3) := by decide +kernel
theorem dX5_followers_140 : decode cX5_followers 140 = .ok (.getfield 38, 3) := by decide +kernel
theorem dX5_followers_143 : decode cX5_followers 143 = .ok (.aload_n 0, 1) := by decide +kernel
theorem dX5_followers_144 : decode cX5_followers 144 = .ok (.getfield 22, 3) := by decide +kernel
theorem dX5_followers_147 : decode cX5_followers 147 = .ok (.iaload, 1) := by decide +kernel
theorem dX5_followers_148 : decode cX5_followers 148 = .ok (.ishl, 1) := by decide +kernel
theorem dX5_followers_149 : decode cX5_followers 149 = .ok (.iconst (-1), 1) := by decide +kernel
theorem dX5_followers_150 : decode cX5_followers 150 = .ok (.ixor, 1) := by decide +kernel
theorem dX5_followers_151 : decode cX5_followers 151 = .ok (.iand, 1) := by decide +kernel
theorem dX5_followers_152 : decode cX5_followers 152 = .ok (.istore 4, 2) := by decide +kernel
theorem dX5_followers_154 : decode cX5_followers 154 = .ok (.iload 4, 2) := by decide +kernel
theorem dX5_followers_156 : decode cX5_followers 156 = .ok (.ireturn, 1) := by decide +kernel
theorem dX5_scannedChips_0 : decode cX5_scannedChips 0 = .ok (.aload_n 0, 1) := by decide +kernel
theorem dX5_scannedChips_1 : decode cX5_scannedChips 1 = .ok (.iload_n 1, 1) := by decide +kernel
theorem dX5_scannedChips_2 : decode cX5_scannedChips 2 = .ok (.aload_n 0, 1) := by decide +kernel
theorem dX5_scannedChips_3 : decode cX5_scannedChips 3 = .ok (.getfield 18, 3) := by decide +kernel
theorem dX5_scannedChips_6 : decode cX5_scannedChips 6 = .ok (.getfield 65, 3) := by decide +kernel
theorem dX5_scannedChips_9 : decode cX5_scannedChips 9 = .ok (.aload_n 0, 1) := by decide +kernel
theorem dX5_scannedChips_10 : decode cX5_scannedChips 10 = .ok (.getfield 18, 3) := by decide +kernel
theorem dX5_scannedChips_13 : decode cX5_scannedChips 13 = .ok (.getfield 68, 3) := by decide +kernel
theorem dX5_scannedChips_16 : decode cX5_scannedChips 16 = .ok (.invokevirtual 71, 3) := by decide +kernel
theorem dX5_scannedChips_19 : decode cX5_scannedChips 19 = .ok (.istore_n 2, 1) := by decide +kernel
theorem dX5_scannedChips_20 : decode cX5_scannedChips 20 = .ok (.aload_n 0, 1) := by decide +kernel
theorem dX5_scannedChips_21 : decode cX5_scannedChips 21 = .ok (.iload_n 1, 1) := by decide +kernel
theorem dX5_scannedChips_22 : decode cX5_scannedChips 22 = .ok (.aload_n 0, 1) := by decide +kernel
theorem dX5_scannedChips_23 : decode cX5_scannedChips 23 = .ok (.getfield 18, 3) := by decide +kernel
theorem dX5_scannedChips_26 : decode cX5_scannedChips 26 = .ok (.getfield 68, 3) := by decide +kernel
theorem dX5_scannedChips_29 : decode cX5_scannedChips 29 = .ok (.aload_n 0, 1) := by decide +kernel
theorem dX5_scannedChips_30 : decode cX5_scannedChips 30 = .ok (.getfield 18, 3) := by decide +kernel
theorem dX5_scannedChips_33 : decode cX5_scannedChips 33 = .ok (.getfield 65, 3) := by decide +kernel
theorem dX5_scannedChips_36 : decode cX5_scannedChips 36 = .ok (.invokevirtual 71, 3) := by decide +kernel
theorem dX5_scannedChips_39 : decode cX5_scannedChips 39 = .ok (.istore_n 3, 1) := by decide +kernel
theorem dX5_scannedChips_40 : decode cX5_scannedChips 40 = .ok (.iload_n 2, 1) := by decide +kernel
theorem dX5_scannedChips_41 : decode cX5_scannedChips 41 = .ok (.iload_n 3, 1) := by decide +kernel
theorem dX5_scannedChips_42 : decode cX5_scannedChips 42 = .ok (.iand, 1) := by decide +kernel
theorem dX5_scannedChips_43 : decode cX5_scannedChips 43 = .ok (.ireturn, 1) := by decide +kernel
theorem dX5_spread_0 : decode cX5_spread 0 = .ok (.iconst 0, 1) := by decide +kernel
theorem dX5_spread_1 : decode cX5_spread 1 = .ok (.istore 4, 2) := by decide +kernel
theorem dX5_spread_3 : decode cX5_spread 3 = .ok (.iconst 0, 1) := by decide +kernel
theorem dX5_spread_4 : decode cX5_spread 4 = .ok (.istore 5, 2) := by decide +kernel
theorem dX5_spread_6 : decode cX5_spread 6 = .ok (.iconst 0, 1) := by decide +kernel
theorem dX5_spread_7 : decode cX5_spread 7 = .ok (.istore 6, 2) := by decide +kernel
theorem dX5_spread_9 : decode cX5_spread 9 = .ok (.iload 6, 2) := by decide +kernel
theorem dX5_spread_11 : decode cX5_spread 11 = .ok (.aload_n 0, 1) := by decide +kernel
theorem dX5_spread_12 : decode cX5_spread 12 = .ok (.getfield 18, 3) := by decide +kernel
theorem dX5_spread_15 : decode cX5_spread 15 = .ok (.getfield 75, 3) := by decide +kernel
theorem dX5_spread_18 : decode cX5_spread 18 = .ok (.if_icmp .ge 103, 3) := by decide +kernel
theorem dX5_spread_21 : decode cX5_spread 21 = .ok (.iconst 0, 1) := by decide +kernel
theorem dX5_spread_22 : decode cX5_spread 22 = .ok (.istore 7, 2) := by decide +kernel
theorem dX5_spread_24 : decode cX5_spread 24 = .ok (.iload 7, 2) := by decide +kernel
theorem dX5_spread_26 : decode cX5_spread 26 = .ok (.aload_n 0, 1) := by decide +kernel
theorem dX5_spread_27 : decode cX5_spread 27 = .ok (.getfield 18, 3) := by decide +kernel
theorem dX5_spread_30 : decode cX5_spread 30 = .ok (.getfield 75, 3) := by decide +kernel
theorem dX5_spread_33 : decode cX5_spread 33 = .ok (.if_icmp .ge 82, 3) := by decide +kernel
theorem dX5_spread_36 : decode cX5_spread 36 = .ok (.iload_n 1, 1) := by decide +kernel
theorem dX5_spread_37 : decode cX5_spread 37 = .ok (.aload_n 2, 1) := by decide +kernel
theorem dX5_spread_38 : decode cX5_spread 38 = .ok (.iload 7, 2) := by decide +kernel
theorem dX5_spread_40 : decode cX5_spread 40 = .ok (.iaload, 1) := by decide +kernel
theorem dX5_spread_41 : decode cX5_spread 41 = .ok (.invokestatic 78, 3) := by decide +kernel
theorem dX5_spread_44 : decode cX5_spread 44 = .ok (.ifCond .ne 18, 3) := by decide +kernel
theorem dX5_spread_47 : decode cX5_spread 47 = .ok (.aload_n 0, 1) := by decide +kernel
theorem dX5_spread_48 : decode cX5_spread 48 = .ok (.getfield 9, 3) := by decide +kernel
theorem dX5_spread_51 : decode cX5_spread 51 = .ok (.aload_n 2, 1) := by decide +kernel
theorem dX5_spread_52 : decode cX5_spread 52 = .ok (.iload 7, 2) := by decide +kernel
theorem dX5_spread_54 : decode cX5_spread 54 = .ok (.iaload, 1) := by decide +kernel
theorem dX5_spread_55 : decode cX5_spread 55 = .ok (.iaload, 1) := by decide +kernel
theorem dX5_spread_56 : decode cX5_spread 56 = .ok (.iload 5, 2) := by decide +kernel
theorem dX5_spread_58 : decode cX5_spread 58 = .ok (.iand, 1) := by decide +kernel
theorem dX5_spread_59 : decode cX5_spread 59 = .ok (.ifCond .eq 7, 3) := by decide +kernel
theorem dX5_spread_62 : decode cX5_spread 62 = .ok (.iconst 1, 1) := by decide +kernel
theorem dX5_spread_63 : decode cX5_spread 63 = .ok (.goto 4, 3) := by decide +kernel
theorem dX5_spread_66 : decode cX5_spread 66 = .ok (.iconst 0, 1) := by decide +kernel
theorem dX5_spread_67 : decode cX5_spread 67 = .ok (.istore 8, 2) := by decide +kernel
theorem dX5_spread_69 : decode cX5_spread 69 = .ok (.iload 8, 2) := by decide +kernel
theorem dX5_spread_71 : decode cX5_spread 71 = .ok (.ifCond .eq 38, 3) := by decide +kernel
theorem dX5_spread_74 : decode cX5_spread 74 = .ok (.aload_n 0, 1) := by decide +kernel
theorem dX5_spread_75 : decode cX5_spread 75 = .ok (.getfield 44, 3) := by decide +kernel
theorem dX5_spread_78 : decode cX5_spread 78 = .ok (.iload 7, 2) := by decide +kernel
theorem dX5_spread_80 : decode cX5_spread 80 = .ok (.invokestatic 78, 3) := by decide +kernel
theorem dX5_spread_83 : decode cX5_spread 83 = .ok (.ifCond .ne 26, 3) := by decide +kernel
theorem dX5_spread_86 : decode cX5_spread 86 = .ok (.iload 4, 2) := by decide +kernel
theorem dX5_spread_88 : decode cX5_spread 88 = .ok (.iconst 1, 1) := by decide +kernel
theorem dX5_spread_89 : decode cX5_spread 89 = .ok (.iload 7, 2) := by decide +kernel
theorem dX5_spread_91 : decode cX5_spread 91 = .ok (.ishl, 1) := by decide +kernel
theorem dX5_spread_92 : decode cX5_spread 92 = .ok (.ior, 1) := by decide +kernel
theorem dX5_spread_93 : decode cX5_spread 93 = .ok (.istore 4, 2) := by decide +kernel
theorem dX5_spread_95 : decode cX5_spread 95 = .ok (.iload 5, 2) := by decide +kernel
theorem dX5_spread_97 : decode cX5_spread 97 = .ok (.aload_n 0, 1) := by decide +kernel
theorem dX5_spread_98 : decode cX5_spread 98 = .ok (.getfield 9, 3) := by decide +kernel
theorem dX5_spread_101 : decode cX5_spread 101 = .ok (.aload_n 3, 1) := by decide +kernel
theorem dX5_spread_102 : decode cX5_spread 102 = .ok (.iload 7, 2) := by decide +kernel
theorem dX5_spread_104 : decode cX5_spread 104 = .ok (.iaload, 1) := by decide +kernel
theorem dX5_spread_105 : decode cX5_spread 105 = .ok (.iaload, 1) := by decide +kernel
theorem dX5_spread_106 : decode cX5_spread 106 = .ok (.ior, 1) := by decide +kernel
theorem dX5_spread_107 : decode cX5_spread 107 = .ok (.istore 5, 2) := by decide +kernel
theorem dX5_spread_109 : decode cX5_spread 109 = .ok (.iinc 7 1, 3) := by decide +kernel
theorem dX5_spread_112 : decode cX5_spread 112 = .ok (.goto (-88), 3) := by decide +kernel
theorem dX5_spread_115 : decode cX5_spread 115 = .ok (.iinc 6 1, 3) := by decide +kernel
theorem dX5_spread_118 : decode cX5_spread 118 = .ok (.goto (-109), 3) := by decide +kernel
theorem dX5_spread_121 : decode cX5_spread 121 = .ok (.iload 4, 2) := by decide +kernel
theorem dX5_spread_123 : decode cX5_spread 123 = .ok (.ireturn, 1) := by decide +kernel
theorem dX5_probe_0 : decode cX5_probe 0 = .ok (.aload_n 0, 1) := by decide +kernel
theorem dX5_probe_1 : decode cX5_probe 1 = .ok (.iload_n 1, 1) := by decide +kernel
theorem dX5_probe_2 : decode cX5_probe 2 = .ok (.invokevirtual 82, 3) := by decide +kernel
theorem dX5_probe_5 : decode cX5_probe 5 = .ok (.istore_n 2, 1) := by decide +kernel
theorem dX5_probe_6 : decode cX5_probe 6 = .ok (.aload_n 0, 1) := by decide +kernel
theorem dX5_probe_7 : decode cX5_probe 7 = .ok (.iload_n 1, 1) := by decide +kernel
theorem dX5_probe_8 : decode cX5_probe 8 = .ok (.putfield 85, 3) := by decide +kernel
theorem dX5_probe_11 : decode cX5_probe 11 = .ok (.iconst 0, 1) := by decide +kernel
theorem dX5_probe_12 : decode cX5_probe 12 = .ok (.istore_n 3, 1) := by decide +kernel
theorem dX5_probe_13 : decode cX5_probe 13 = .ok (.iload_n 3, 1) := by decide +kernel
theorem dX5_probe_14 : decode cX5_probe 14 = .ok (.aload_n 0, 1) := by decide +kernel
theorem dX5_probe_15 : decode cX5_probe 15 = .ok (.getfield 18, 3) := by decide +kernel
theorem dX5_probe_18 : decode cX5_probe 18 = .ok (.getfield 75, 3) := by decide +kernel
theorem dX5_probe_21 : decode cX5_probe 21 = .ok (.if_icmp .ge 35, 3) := by decide +kernel
theorem dX5_probe_24 : decode cX5_probe 24 = .ok (.iload_n 2, 1) := by decide +kernel
theorem dX5_probe_25 : decode cX5_probe 25 = .ok (.iload_n 3, 1) := by decide +kernel
theorem dX5_probe_26 : decode cX5_probe 26 = .ok (.invokestatic 78, 3) := by decide +kernel
theorem dX5_probe_29 : decode cX5_probe 29 = .ok (.ifCond .eq 21, 3) := by decide +kernel
theorem dX5_probe_32 : decode cX5_probe 32 = .ok (.aload_n 0, 1) := by decide +kernel
theorem dX5_probe_33 : decode cX5_probe 33 = .ok (.dup, 1) := by decide +kernel
theorem dX5_probe_34 : decode cX5_probe 34 = .ok (.getfield 85, 3) := by decide +kernel
theorem dX5_probe_37 : decode cX5_probe 37 = .ok (.aload_n 0, 1) := by decide +kernel
theorem dX5_probe_38 : decode cX5_probe 38 = .ok (.getfield 18, 3) := by decide +kernel
theorem dX5_probe_41 : decode cX5_probe 41 = .ok (.getfield 88, 3) := by decide +kernel
theorem dX5_probe_44 : decode cX5_probe 44 = .ok (.iload_n 3, 1) := by decide +kernel
theorem dX5_probe_45 : decode cX5_probe 45 = .ok (.iaload, 1) := by decide +kernel
theorem dX5_probe_46 : decode cX5_probe 46 = .ok (.ior, 1) := by decide +kernel
theorem dX5_probe_47 : decode cX5_probe 47 = .ok (.putfield 85, 3) := by decide +kernel
theorem dX5_probe_50 : decode cX5_probe 50 = .ok (.iinc 3 1, 3) := by decide +kernel
theorem dX5_probe_53 : decode cX5_probe 53 = .ok (.goto (-40), 3) := by decide +kernel
theorem dX5_probe_56 : decode cX5_probe 56 = .ok (.return_, 1) := by decide +kernel
theorem dX5_pinsAtOne_0 : decode cX5_pinsAtOne 0 = .ok (.iload_n 2, 1) := by decide +kernel
theorem dX5_pinsAtOne_1 : decode cX5_pinsAtOne 1 = .ok (.iconst 1, 1) := by decide +kernel
theorem dX5_pinsAtOne_2 : decode cX5_pinsAtOne 2 = .ok (.if_icmp .ne 17, 3) := by decide +kernel
theorem dX5_pinsAtOne_5 : decode cX5_pinsAtOne 5 = .ok (.aload_n 0, 1) := by decide +kernel
theorem dX5_pinsAtOne_6 : decode cX5_pinsAtOne 6 = .ok (.getfield 15, 3) := by decide +kernel
theorem dX5_pinsAtOne_9 : decode cX5_pinsAtOne 9 = .ok (.iload_n 1, 1) := by decide +kernel
theorem dX5_pinsAtOne_10 : decode cX5_pinsAtOne 10 = .ok (.iaload, 1) := by decide +kernel
theorem dX5_pinsAtOne_11 : decode cX5_pinsAtOne 11 = .ok (.aload_n 0, 1) := by decide +kernel
theorem dX5_pinsAtOne_12 : decode cX5_pinsAtOne 12 = .ok (.getfield 41, 3) := by decide +kernel
theorem dX5_pinsAtOne_15 : decode cX5_pinsAtOne 15 = .ok (.ior, 1) := by decide +kernel
theorem dX5_pinsAtOne_16 : decode cX5_pinsAtOne 16 = .ok (.goto 7, 3) := by decide +kernel
theorem dX5_pinsAtOne_19 : decode cX5_pinsAtOne 19 = .ok (.aload_n 0, 1) := by decide +kernel
theorem dX5_pinsAtOne_20 : decode cX5_pinsAtOne 20 = .ok (.getfield 41, 3) := by decide +kernel
theorem dX5_pinsAtOne_23 : decode cX5_pinsAtOne 23 = .ok (.istore_n 3, 1) := by decide +kernel
theorem dX5_pinsAtOne_24 : decode cX5_pinsAtOne 24 = .ok (.iload_n 3, 1) := by decide +kernel
theorem dX5_pinsAtOne_25 : decode cX5_pinsAtOne 25 = .ok (.aload_n 0, 1) := by decide +kernel
theorem dX5_pinsAtOne_26 : decode cX5_pinsAtOne 26 = .ok (.getfield 85, 3) := by decide +kernel
theorem dX5_pinsAtOne_29 : decode cX5_pinsAtOne 29 = .ok (.iand, 1) := by decide +kernel
theorem dX5_pinsAtOne_30 : decode cX5_pinsAtOne 30 = .ok (.ireturn, 1) := by decide +kernel
theorem dX5_sameOutcome_0 : decode cX5_sameOutcome 0 = .ok (.aload_n 0, 1) := by decide +kernel
theorem dX5_sameOutcome_1 : decode cX5_sameOutcome 1 = .ok (.getfield 85, 3) := by decide +kernel
theorem dX5_sameOutcome_4 : decode cX5_sameOutcome 4 = .ok (.aload_n 1, 1) := by decide +kernel
theorem dX5_sameOutcome_5 : decode cX5_sameOutcome 5 = .ok (.getfield 85, 3) := by decide +kernel
theorem dX5_sameOutcome_8 : decode cX5_sameOutcome 8 = .ok (.if_icmp .ne 24, 3) := by decide +kernel
theorem dX5_sameOutcome_11 : decode cX5_sameOutcome 11 = .ok (.aload_n 0, 1) := by decide +kernel
theorem dX5_sameOutcome_12 : decode cX5_sameOutcome 12 = .ok (.getfield 41, 3) := by decide +kernel
theorem dX5_sameOutcome_15 : decode cX5_sameOutcome 15 = .ok (.aload_n 0, 1) := by decide +kernel
theorem dX5_sameOutcome_16 : decode cX5_sameOutcome 16 = .ok (.getfield 85, 3) := by decide +kernel
theorem dX5_sameOutcome_19 : decode cX5_sameOutcome 19 = .ok (.iand, 1) := by decide +kernel
theorem dX5_sameOutcome_20 : decode cX5_sameOutcome 20 = .ok (.aload_n 1, 1) := by decide +kernel
theorem dX5_sameOutcome_21 : decode cX5_sameOutcome 21 = .ok (.getfield 41, 3) := by decide +kernel
theorem dX5_sameOutcome_24 : decode cX5_sameOutcome 24 = .ok (.aload_n 0, 1) := by decide +kernel
theorem dX5_sameOutcome_25 : decode cX5_sameOutcome 25 = .ok (.getfield 85, 3) := by decide +kernel
theorem dX5_sameOutcome_28 : decode cX5_sameOutcome 28 = .ok (.iand, 1) := by decide +kernel
theorem dX5_sameOutcome_29 : decode cX5_sameOutcome 29 = .ok (.if_icmp .eq 5, 3) := by decide +kernel
theorem dX5_sameOutcome_32 : decode cX5_sameOutcome 32 = .ok (.iconst 0, 1) := by decide +kernel
theorem dX5_sameOutcome_33 : decode cX5_sameOutcome 33 = .ok (.ireturn, 1) := by decide +kernel
theorem dX5_sameOutcome_34 : decode cX5_sameOutcome 34 = .ok (.iconst 0, 1) := by decide +kernel
theorem dX5_sameOutcome_35 : decode cX5_sameOutcome 35 = .ok (.istore_n 2, 1) := by decide +kernel
theorem dX5_sameOutcome_36 : decode cX5_sameOutcome 36 = .ok (.iload_n 2, 1) := by decide +kernel
theorem dX5_sameOutcome_37 : decode cX5_sameOutcome 37 = .ok (.bipush 16, 2) := by decide +kernel
theorem dX5_sameOutcome_39 : decode cX5_sameOutcome 39 = .ok (.if_icmp .ge 37, 3) := by decide +kernel
theorem dX5_sameOutcome_42 : decode cX5_sameOutcome 42 = .ok (.aload_n 0, 1) := by decide +kernel
theorem dX5_sameOutcome_43 : decode cX5_sameOutcome 43 = .ok (.getfield 85, 3) := by decide +kernel
theorem dX5_sameOutcome_46 : decode cX5_sameOutcome 46 = .ok (.iload_n 2, 1) := by decide +kernel
theorem dX5_sameOutcome_47 : decode cX5_sameOutcome 47 = .ok (.invokestatic 78, 3) := by decide +kernel
theorem dX5_sameOutcome_50 : decode cX5_sameOutcome 50 = .ok (.ifCond .eq 20, 3) := by decide +kernel
theorem dX5_sameOutcome_53 : decode cX5_sameOutcome 53 = .ok (.aload_n 0, 1) := by decide +kernel
theorem dX5_sameOutcome_54 : decode cX5_sameOutcome 54 = .ok (.iload_n 2, 1) := by decide +kernel
theorem dX5_sameOutcome_55 : decode cX5_sameOutcome 55 = .ok (.iconst 1, 1) := by decide +kernel
theorem dX5_sameOutcome_56 : decode cX5_sameOutcome 56 = .ok (.invokevirtual 91, 3) := by decide +kernel
theorem dX5_sameOutcome_59 : decode cX5_sameOutcome 59 = .ok (.aload_n 1, 1) := by decide +kernel
theorem dX5_sameOutcome_60 : decode cX5_sameOutcome 60 = .ok (.iload_n 2, 1) := by decide +kernel
theorem dX5_sameOutcome_61 : decode cX5_sameOutcome 61 = .ok (.iconst 1, 1) := by decide +kernel
theorem dX5_sameOutcome_62 : decode cX5_sameOutcome 62 = .ok (.invokevirtual 91, 3) := by decide +kernel
theorem dX5_sameOutcome_65 : decode cX5_sameOutcome 65 = .ok (.if_icmp .eq 5, 3) := by decide +kernel
theorem dX5_sameOutcome_68 : decode cX5_sameOutcome 68 = .ok (.iconst 0, 1) := by decide +kernel
theorem dX5_sameOutcome_69 : decode cX5_sameOutcome 69 = .ok (.ireturn, 1) := by decide +kernel
theorem dX5_sameOutcome_70 : decode cX5_sameOutcome 70 = .ok (.iinc 2 1, 3) := by decide +kernel
theorem dX5_sameOutcome_73 : decode cX5_sameOutcome 73 = .ok (.goto (-37), 3) := by decide +kernel
theorem dX5_sameOutcome_76 : decode cX5_sameOutcome 76 = .ok (.iconst 1, 1) := by decide +kernel
theorem dX5_sameOutcome_77 : decode cX5_sameOutcome 77 = .ok (.ireturn, 1) := by decide +kernel
theorem dX6_init_0 : decode cX6_init 0 = .ok (.aload_n 0, 1) := by decide +kernel
theorem dX6_init_1 : decode cX6_init 1 = .ok (.invokespecial 3, 3) := by decide +kernel
theorem dX6_init_4 : decode cX6_init 4 = .ok (.aload_n 0, 1) := by decide +kernel
theorem dX6_init_5 : decode cX6_init 5 = .ok (.new 9, 3) := by decide +kernel
theorem dX6_init_8 : decode cX6_init 8 = .ok (.dup, 1) := by decide +kernel
theorem dX6_init_9 : decode cX6_init 9 = .ok (.invokespecial 11, 3) := by decide +kernel
theorem dX6_init_12 : decode cX6_init 12 = .ok (.putfield 12, 3) := by decide +kernel
theorem dX6_init_15 : decode cX6_init 15 = .ok (.aload_n 0, 1) := by decide +kernel
theorem dX6_init_16 : decode cX6_init 16 = .ok (.new 16, 3) := by decide +kernel
theorem dX6_init_19 : decode cX6_init 19 = .ok (.dup, 1) := by decide +kernel
theorem dX6_init_20 : decode cX6_init 20 = .ok (.invokespecial 18, 3) := by decide +kernel
theorem dX6_init_23 : decode cX6_init 23 = .ok (.putfield 19, 3) := by decide +kernel
theorem dX6_init_26 : decode cX6_init 26 = .ok (.new 23, 3) := by decide +kernel
theorem dX6_init_29 : decode cX6_init 29 = .ok (.dup, 1) := by decide +kernel
theorem dX6_init_30 : decode cX6_init 30 = .ok (.invokespecial 25, 3) := by decide +kernel
theorem dX6_init_33 : decode cX6_init 33 = .ok (.astore_n 1, 1) := by decide +kernel
theorem dX6_init_34 : decode cX6_init 34 = .ok (.aload_n 0, 1) := by decide +kernel
theorem dX6_init_35 : decode cX6_init 35 = .ok (.new 26, 3) := by decide +kernel
theorem dX6_init_38 : decode cX6_init 38 = .ok (.dup, 1) := by decide +kernel
theorem dX6_init_39 : decode cX6_init 39 = .ok (.aload_n 1, 1) := by decide +kernel
theorem dX6_init_40 : decode cX6_init 40 = .ok (.invokespecial 28, 3) := by decide +kernel
theorem dX6_init_43 : decode cX6_init 43 = .ok (.putfield 31, 3) := by decide +kernel
theorem dX6_init_46 : decode cX6_init 46 = .ok (.aload_n 0, 1) := by decide +kernel
theorem dX6_init_47 : decode cX6_init 47 = .ok (.new 35, 3) := by decide +kernel
theorem dX6_init_50 : decode cX6_init 50 = .ok (.dup, 1) := by decide +kernel
theorem dX6_init_51 : decode cX6_init 51 = .ok (.aload_n 1, 1) := by decide +kernel
theorem dX6_init_52 : decode cX6_init 52 = .ok (.invokespecial 37, 3) := by decide +kernel
theorem dX6_init_55 : decode cX6_init 55 = .ok (.putfield 38, 3) := by decide +kernel
theorem dX6_init_58 : decode cX6_init 58 = .ok (.return_, 1) := by decide +kernel
theorem dX6_net_0 : decode cX6_net 0 = .ok (.aload_n 0, 1) := by decide +kernel
theorem dX6_net_1 : decode cX6_net 1 = .ok (.getfield 31, 3) := by decide +kernel
theorem dX6_net_4 : decode cX6_net 4 = .ok (.getfield 42, 3) := by decide +kernel
theorem dX6_net_7 : decode cX6_net 7 = .ok (.iload_n 1, 1) := by decide +kernel
theorem dX6_net_8 : decode cX6_net 8 = .ok (.invokevirtual 46, 3) := by decide +kernel
theorem dX6_net_11 : decode cX6_net 11 = .ok (.istore_n 2, 1) := by decide +kernel
theorem dX6_net_12 : decode cX6_net 12 = .ok (.iload_n 2, 1) := by decide +kernel
theorem dX6_net_13 : decode cX6_net 13 = .ok (.ifCond .eq 5, 3) := by decide +kernel
theorem dX6_net_16 : decode cX6_net 16 = .ok (.iload_n 2, 1) := by decide +kernel
theorem dX6_net_17 : decode cX6_net 17 = .ok (.ireturn, 1) := by decide +kernel
theorem dX6_net_18 : decode cX6_net 18 = .ok (.aload_n 0, 1) := by decide +kernel
theorem dX6_net_19 : decode cX6_net 19 = .ok (.getfield 12, 3) := by decide +kernel
theorem dX6_net_22 : decode cX6_net 22 = .ok (.aload_n 0, 1) := by decide +kernel
theorem dX6_net_23 : decode cX6_net 23 = .ok (.getfield 31, 3) := by decide +kernel
theorem dX6_net_26 : decode cX6_net 26 = .ok (.invokevirtual 50, 3) := by decide +kernel
theorem dX6_net_29 : decode cX6_net 29 = .ok (.aload_n 0, 1) := by decide +kernel
theorem dX6_net_30 : decode cX6_net 30 = .ok (.getfield 31, 3) := by decide +kernel
theorem dX6_net_33 : decode cX6_net 33 = .ok (.getfield 42, 3) := by decide +kernel
theorem dX6_net_36 : decode cX6_net 36 = .ok (.iload_n 1, 1) := by decide +kernel
theorem dX6_net_37 : decode cX6_net 37 = .ok (.invokevirtual 54, 3) := by decide +kernel
theorem dX6_net_40 : decode cX6_net 40 = .ok (.ireturn, 1) := by decide +kernel
theorem dX6_chip_0 : decode cX6_chip 0 = .ok (.aload_n 0, 1) := by decide +kernel
theorem dX6_chip_1 : decode cX6_chip 1 = .ok (.getfield 31, 3) := by decide +kernel
theorem dX6_chip_4 : decode cX6_chip 4 = .ok (.getfield 42, 3) := by decide +kernel
theorem dX6_chip_7 : decode cX6_chip 7 = .ok (.iload_n 1, 1) := by decide +kernel
theorem dX6_chip_8 : decode cX6_chip 8 = .ok (.iload_n 2, 1) := by decide +kernel
theorem dX6_chip_9 : decode cX6_chip 9 = .ok (.iload_n 3, 1) := by decide +kernel
theorem dX6_chip_10 : decode cX6_chip 10 = .ok (.invokevirtual 57, 3) := by decide +kernel
theorem dX6_chip_13 : decode cX6_chip 13 = .ok (.istore 4, 2) := by decide +kernel
theorem dX6_chip_15 : decode cX6_chip 15 = .ok (.iload 4, 2) := by decide +kernel
theorem dX6_chip_17 : decode cX6_chip 17 = .ok (.ifCond .eq 6, 3) := by decide +kernel
theorem dX6_chip_20 : decode cX6_chip 20 = .ok (.iload 4, 2) := by decide +kernel
theorem dX6_chip_22 : decode cX6_chip 22 = .ok (.ireturn, 1) := by decide +kernel
theorem dX6_chip_23 : decode cX6_chip 23 = .ok (.aload_n 0, 1) := by decide +kernel
theorem dX6_chip_24 : decode cX6_chip 24 = .ok (.getfield 12, 3) := by decide +kernel
theorem dX6_chip_27 : decode cX6_chip 27 = .ok (.aload_n 0, 1) := by decide +kernel
theorem dX6_chip_28 : decode cX6_chip 28 = .ok (.getfield 31, 3) := by decide +kernel
theorem dX6_chip_31 : decode cX6_chip 31 = .ok (.invokevirtual 50, 3) := by decide +kernel
theorem dX6_chip_34 : decode cX6_chip 34 = .ok (.aload_n 0, 1) := by decide +kernel
theorem dX6_chip_35 : decode cX6_chip 35 = .ok (.getfield 31, 3) := by decide +kernel
theorem dX6_chip_38 : decode cX6_chip 38 = .ok (.getfield 42, 3) := by decide +kernel
theorem dX6_chip_41 : decode cX6_chip 41 = .ok (.iload_n 1, 1) := by decide +kernel
theorem dX6_chip_42 : decode cX6_chip 42 = .ok (.iload_n 2, 1) := by decide +kernel
theorem dX6_chip_43 : decode cX6_chip 43 = .ok (.iload_n 3, 1) := by decide +kernel
theorem dX6_chip_44 : decode cX6_chip 44 = .ok (.invokevirtual 61, 3) := by decide +kernel
theorem dX6_chip_47 : decode cX6_chip 47 = .ok (.ireturn, 1) := by decide +kernel
theorem dX6_fault_0 : decode cX6_fault 0 = .ok (.aload_n 0, 1) := by decide +kernel
theorem dX6_fault_1 : decode cX6_fault 1 = .ok (.getfield 31, 3) := by decide +kernel
theorem dX6_fault_4 : decode cX6_fault 4 = .ok (.getfield 42, 3) := by decide +kernel
theorem dX6_fault_7 : decode cX6_fault 7 = .ok (.iload_n 1, 1) := by decide +kernel
theorem dX6_fault_8 : decode cX6_fault 8 = .ok (.iload_n 2, 1) := by decide +kernel
theorem dX6_fault_9 : decode cX6_fault 9 = .ok (.iload_n 3, 1) := by decide +kernel
theorem dX6_fault_10 : decode cX6_fault 10 = .ok (.invokevirtual 64, 3) := by decide +kernel
theorem dX6_fault_13 : decode cX6_fault 13 = .ok (.istore 4, 2) := by decide +kernel
theorem dX6_fault_15 : decode cX6_fault 15 = .ok (.iload 4, 2) := by decide +kernel
theorem dX6_fault_17 : decode cX6_fault 17 = .ok (.ifCond .eq 6, 3) := by decide +kernel
theorem dX6_fault_20 : decode cX6_fault 20 = .ok (.iload 4, 2) := by decide +kernel
theorem dX6_fault_22 : decode cX6_fault 22 = .ok (.ireturn, 1) := by decide +kernel
theorem dX6_fault_23 : decode cX6_fault 23 = .ok (.aload_n 0, 1) := by decide +kernel
theorem dX6_fault_24 : decode cX6_fault 24 = .ok (.getfield 12, 3) := by decide +kernel
theorem dX6_fault_27 : decode cX6_fault 27 = .ok (.aload_n 0, 1) := by decide +kernel
theorem dX6_fault_28 : decode cX6_fault 28 = .ok (.getfield 31, 3) := by decide +kernel
theorem dX6_fault_31 : decode cX6_fault 31 = .ok (.invokevirtual 50, 3) := by decide +kernel
theorem dX6_fault_34 : decode cX6_fault 34 = .ok (.aload_n 0, 1) := by decide +kernel
theorem dX6_fault_35 : decode cX6_fault 35 = .ok (.getfield 31, 3) := by decide +kernel
theorem dX6_fault_38 : decode cX6_fault 38 = .ok (.getfield 42, 3) := by decide +kernel
theorem dX6_fault_41 : decode cX6_fault 41 = .ok (.iload_n 1, 1) := by decide +kernel
theorem dX6_fault_42 : decode cX6_fault 42 = .ok (.iload_n 2, 1) := by decide +kernel
theorem dX6_fault_43 : decode cX6_fault 43 = .ok (.iload_n 3, 1) := by decide +kernel
theorem dX6_fault_44 : decode cX6_fault 44 = .ok (.invokevirtual 67, 3) := by decide +kernel
theorem dX6_fault_47 : decode cX6_fault 47 = .ok (.ireturn, 1) := by decide +kernel
theorem dX6_bless_0 : decode cX6_bless 0 = .ok (.iload_n 1, 1) := by decide +kernel
theorem dX6_bless_1 : decode cX6_bless 1 = .ok (.invokestatic 70, 3) := by decide +kernel
theorem dX6_bless_4 : decode cX6_bless 4 = .ok (.ifCond .eq 10, 3) := by decide +kernel
theorem dX6_bless_7 : decode cX6_bless 7 = .ok (.iload_n 2, 1) := by decide +kernel
theorem dX6_bless_8 : decode cX6_bless 8 = .ok (.bipush (-128), 2) := by decide +kernel
theorem dX6_bless_10 : decode cX6_bless 10 = .ok (.iand, 1) := by decide +kernel
theorem dX6_bless_11 : decode cX6_bless 11 = .ok (.ifCond .eq 6, 3) := by decide +kernel
theorem dX6_bless_14 : decode cX6_bless 14 = .ok (.ldc 74, 2) := by decide +kernel
theorem dX6_bless_16 : decode cX6_bless 16 = .ok (.ireturn, 1) := by decide +kernel
theorem dX6_bless_17 : decode cX6_bless 17 = .ok (.aload_n 0, 1) := by decide +kernel
theorem dX6_bless_18 : decode cX6_bless 18 = .ok (.getfield 12, 3) := by decide +kernel
theorem dX6_bless_21 : decode cX6_bless 21 = .ok (.aload_n 0, 1) := by decide +kernel
theorem dX6_bless_22 : decode cX6_bless 22 = .ok (.getfield 31, 3) := by decide +kernel
theorem dX6_bless_25 : decode cX6_bless 25 = .ok (.invokevirtual 50, 3) := by decide +kernel
theorem dX6_bless_28 : decode cX6_bless 28 = .ok (.aload_n 0, 1) := by decide +kernel
theorem dX6_bless_29 : decode cX6_bless 29 = .ok (.getfield 31, 3) := by decide +kernel
theorem dX6_bless_32 : decode cX6_bless 32 = .ok (.getfield 42, 3) := by decide +kernel
theorem dX6_bless_35 : decode cX6_bless 35 = .ok (.iload_n 1, 1) := by decide +kernel
theorem dX6_bless_36 : decode cX6_bless 36 = .ok (.iload_n 2, 1) := by decide +kernel
theorem dX6_bless_37 : decode cX6_bless 37 = .ok (.invokevirtual 75, 3) := by decide +kernel
theorem dX6_bless_40 : decode cX6_bless 40 = .ok (.ireturn, 1) := by decide +kernel
theorem dX6_pinOf_0 : decode cX6_pinOf 0 = .ok (.iload_n 1, 1) := by decide +kernel
theorem dX6_pinOf_1 : decode cX6_pinOf 1 = .ok (.invokestatic 70, 3) := by decide +kernel
theorem dX6_pinOf_4 : decode cX6_pinOf 4 = .ok (.ifCond .ne 6, 3) := by decide +kernel
theorem dX6_pinOf_7 : decode cX6_pinOf 7 = .ok (.ldc 74, 2) := by decide +kernel
theorem dX6_pinOf_9 : decode cX6_pinOf 9 = .ok (.ireturn, 1) := by decide +kernel
theorem dX6_pinOf_10 : decode cX6_pinOf 10 = .ok (.aload_n 0, 1) := by decide +kernel
theorem dX6_pinOf_11 : decode cX6_pinOf 11 = .ok (.getfield 31, 3) := by decide +kernel
theorem dX6_pinOf_14 : decode cX6_pinOf 14 = .ok (.getfield 42, 3) := by decide +kernel
theorem dX6_pinOf_17 : decode cX6_pinOf 17 = .ok (.astore_n 3, 1) := by decide +kernel
theorem dX6_pinOf_18 : decode cX6_pinOf 18 = .ok (.iload_n 2, 1) := by decide +kernel
theorem dX6_pinOf_19 : decode cX6_pinOf 19 = .ok (.tableswitch 88 0 4 #[33, 43, 52, 61, 68], 33) := by decide +kernel
theorem dX6_pinOf_52 : decode cX6_pinOf 52 = .ok (.aload_n 3, 1) := by decide +kernel
theorem dX6_pinOf_53 : decode cX6_pinOf 53 = .ok (.getfield 79, 3) := by decide +kernel
theorem dX6_pinOf_56 : decode cX6_pinOf 56 = .ok (.iload_n 1, 1) := by decide +kernel
theorem dX6_pinOf_57 : decode cX6_pinOf 57 = .ok (.iaload, 1) := by decide +kernel
theorem dX6_pinOf_58 : decode cX6_pinOf 58 = .ok (.invokestatic 83, 3) := by decide +kernel
theorem dX6_pinOf_61 : decode cX6_pinOf 61 = .ok (.ireturn, 1) := by decide +kernel
theorem dX6_pinOf_62 : decode cX6_pinOf 62 = .ok (.aload_n 3, 1) := by decide +kernel
theorem dX6_pinOf_63 : decode cX6_pinOf 63 = .ok (.iload_n 1, 1) := by decide +kernel
theorem dX6_pinOf_64 : decode cX6_pinOf 64 = .ok (.invokevirtual 86, 3) := by decide +kernel
theorem dX6_pinOf_67 : decode cX6_pinOf 67 = .ok (.invokestatic 83, 3) := by decide +kernel
theorem dX6_pinOf_70 : decode cX6_pinOf 70 = .ok (.ireturn, 1) := by decide +kernel
theorem dX6_pinOf_71 : decode cX6_pinOf 71 = .ok (.aload_n 3, 1) := by decide +kernel
theorem dX6_pinOf_72 : decode cX6_pinOf 72 = .ok (.iload_n 1, 1) := by decide +kernel
theorem dX6_pinOf_73 : decode cX6_pinOf 73 = .ok (.invokevirtual 89, 3) := by decide +kernel
theorem dX6_pinOf_76 : decode cX6_pinOf 76 = .ok (.invokestatic 83, 3) := by decide +kernel
theorem dX6_pinOf_79 : decode cX6_pinOf 79 = .ok (.ireturn, 1) := by decide +kernel
theorem dX6_pinOf_80 : decode cX6_pinOf 80 = .ok (.aload_n 3, 1) := by decide +kernel
theorem dX6_pinOf_81 : decode cX6_pinOf 81 = .ok (.getfield 92, 3) := by decide +kernel
theorem dX6_pinOf_84 : decode cX6_pinOf 84 = .ok (.iload_n 1, 1) := by decide +kernel
theorem dX6_pinOf_85 : decode cX6_pinOf 85 = .ok (.iaload, 1) := by decide +kernel
theorem dX6_pinOf_86 : decode cX6_pinOf 86 = .ok (.ireturn, 1) := by decide +kernel
theorem dX6_pinOf_87 : decode cX6_pinOf 87 = .ok (.aload_n 0, 1) := by decide +kernel
theorem dX6_pinOf_88 : decode cX6_pinOf 88 = .ok (.getfield 31, 3) := by decide +kernel
theorem dX6_pinOf_91 : decode cX6_pinOf 91 = .ok (.invokevirtual 95, 3) := by decide +kernel
theorem dX6_pinOf_94 : decode cX6_pinOf 94 = .ok (.iload_n 1, 1) := by decide +kernel
theorem dX6_pinOf_95 : decode cX6_pinOf 95 = .ok (.invokestatic 99, 3) := by decide +kernel
theorem dX6_pinOf_98 : decode cX6_pinOf 98 = .ok (.ifCond .eq 7, 3) := by decide +kernel
theorem dX6_pinOf_101 : decode cX6_pinOf 101 = .ok (.iconst 1, 1) := by decide +kernel
theorem dX6_pinOf_102 : decode cX6_pinOf 102 = .ok (.goto 4, 3) := by decide +kernel
theorem dX6_pinOf_105 : decode cX6_pinOf 105 = .ok (.iconst 0, 1) := by decide +kernel
theorem dX6_pinOf_106 : decode cX6_pinOf 106 = .ok (.ireturn, 1) := by decide +kernel
theorem dX6_pinOf_107 : decode cX6_pinOf 107 = .ok (.ldc 74, 2) := by decide +kernel
theorem dX6_pinOf_109 : decode cX6_pinOf 109 = .ok (.ireturn, 1) := by decide +kernel
theorem dX6_faultOf_0 : decode cX6_faultOf 0 = .ok (.aload_n 0, 1) := by decide +kernel
theorem dX6_faultOf_1 : decode cX6_faultOf 1 = .ok (.getfield 31, 3) := by decide +kernel
theorem dX6_faultOf_4 : decode cX6_faultOf 4 = .ok (.getfield 42, 3) := by decide +kernel
theorem dX6_faultOf_7 : decode cX6_faultOf 7 = .ok (.astore_n 3, 1) := by decide +kernel
theorem dX6_faultOf_8 : decode cX6_faultOf 8 = .ok (.aload_n 3, 1) := by decide +kernel
theorem dX6_faultOf_9 : decode cX6_faultOf 9 = .ok (.iload_n 1, 1) := by decide +kernel
theorem dX6_faultOf_10 : decode cX6_faultOf 10 = .ok (.invokevirtual 103, 3) := by decide +kernel
theorem dX6_faultOf_13 : decode cX6_faultOf 13 = .ok (.ifCond .ne 6, 3) := by decide +kernel
theorem dX6_faultOf_16 : decode cX6_faultOf 16 = .ok (.ldc 74, 2) := by decide +kernel
theorem dX6_faultOf_18 : decode cX6_faultOf 18 = .ok (.ireturn, 1) := by decide +kernel
theorem dX6_faultOf_19 : decode cX6_faultOf 19 = .ok (.iload_n 2, 1) := by decide +kernel
theorem dX6_faultOf_20 : decode cX6_faultOf 20 = .ok (.tableswitch 81 0 3 #[32, 39, 46, 68], 32) := by decide +kernel
theorem dX6_faultOf_52 : decode cX6_faultOf 52 = .ok (.aload_n 3, 1) := by decide +kernel
theorem dX6_faultOf_53 : decode cX6_faultOf 53 = .ok (.getfield 106, 3) := by decide +kernel
theorem dX6_faultOf_56 : decode cX6_faultOf 56 = .ok (.iload_n 1, 1) := by decide +kernel
theorem dX6_faultOf_57 : decode cX6_faultOf 57 = .ok (.iaload, 1) := by decide +kernel
theorem dX6_faultOf_58 : decode cX6_faultOf 58 = .ok (.ireturn, 1) := by decide +kernel
theorem dX6_faultOf_59 : decode cX6_faultOf 59 = .ok (.aload_n 3, 1) := by decide +kernel
theorem dX6_faultOf_60 : decode cX6_faultOf 60 = .ok (.getfield 109, 3) := by decide +kernel
theorem dX6_faultOf_63 : decode cX6_faultOf 63 = .ok (.iload_n 1, 1) := by decide +kernel
theorem dX6_faultOf_64 : decode cX6_faultOf 64 = .ok (.iaload, 1) := by decide +kernel
theorem dX6_faultOf_65 : decode cX6_faultOf 65 = .ok (.ireturn, 1) := by decide +kernel
theorem dX6_faultOf_66 : decode cX6_faultOf 66 = .ok (.aload_n 3, 1) := by decide +kernel
theorem dX6_faultOf_67 : decode cX6_faultOf 67 = .ok (.getfield 106, 3) := by decide +kernel
theorem dX6_faultOf_70 : decode cX6_faultOf 70 = .ok (.iload_n 1, 1) := by decide +kernel
theorem dX6_faultOf_71 : decode cX6_faultOf 71 = .ok (.iaload, 1) := by decide +kernel
theorem dX6_faultOf_72 : decode cX6_faultOf 72 = .ok (.iconst 1, 1) := by decide +kernel
theorem dX6_faultOf_73 : decode cX6_faultOf 73 = .ok (.if_icmp .ne 12, 3) := by decide +kernel
theorem dX6_faultOf_76 : decode cX6_faultOf 76 = .ok (.aload_n 3, 1) := by decide +kernel
theorem dX6_faultOf_77 : decode cX6_faultOf 77 = .ok (.getfield 112, 3) := by decide +kernel
theorem dX6_faultOf_80 : decode cX6_faultOf 80 = .ok (.iload_n 1, 1) := by decide +kernel
theorem dX6_faultOf_81 : decode cX6_faultOf 81 = .ok (.iaload, 1) := by decide +kernel
theorem dX6_faultOf_82 : decode cX6_faultOf 82 = .ok (.goto 5, 3) := by decide +kernel
theorem dX6_faultOf_85 : decode cX6_faultOf 85 = .ok (.ldc 115, 2) := by decide +kernel
theorem dX6_faultOf_87 : decode cX6_faultOf 87 = .ok (.ireturn, 1) := by decide +kernel
theorem dX6_faultOf_88 : decode cX6_faultOf 88 = .ok (.aload_n 0, 1) := by decide +kernel
theorem dX6_faultOf_89 : decode cX6_faultOf 89 = .ok (.getfield 31, 3) := by decide +kernel
theorem dX6_faultOf_92 : decode cX6_faultOf 92 = .ok (.getfield 116, 3) := by decide +kernel
theorem dX6_faultOf_95 : decode cX6_faultOf 95 = .ok (.iload_n 1, 1) := by decide +kernel
theorem dX6_faultOf_96 : decode cX6_faultOf 96 = .ok (.iaload, 1) := by decide +kernel
theorem dX6_faultOf_97 : decode cX6_faultOf 97 = .ok (.invokestatic 83, 3) := by decide +kernel
theorem dX6_faultOf_100 : decode cX6_faultOf 100 = .ok (.ireturn, 1) := by decide +kernel
theorem dX6_faultOf_101 : decode cX6_faultOf 101 = .ok (.ldc 74, 2) := by decide +kernel
theorem dX6_faultOf_103 : decode cX6_faultOf 103 = .ok (.ireturn, 1) := by decide +kernel
theorem dX6_reached_0 : decode cX6_reached 0 = .ok (.iload_n 1, 1) := by decide +kernel
theorem dX6_reached_1 : decode cX6_reached 1 = .ok (.invokestatic 119, 3) := by decide +kernel
theorem dX6_reached_4 : decode cX6_reached 4 = .ok (.ifCond .eq 11, 3) := by decide +kernel
theorem dX6_reached_7 : decode cX6_reached 7 = .ok (.aload_n 0, 1) := by decide +kernel
theorem dX6_reached_8 : decode cX6_reached 8 = .ok (.iload_n 2, 1) := by decide +kernel
theorem dX6_reached_9 : decode cX6_reached 9 = .ok (.invokevirtual 122, 3) := by decide +kernel
theorem dX6_reached_12 : decode cX6_reached 12 = .ok (.ifCond .ne 6, 3) := by decide +kernel
theorem dX6_reached_15 : decode cX6_reached 15 = .ok (.ldc 74, 2) := by decide +kernel
theorem dX6_reached_17 : decode cX6_reached 17 = .ok (.ireturn, 1) := by decide +kernel
theorem dX6_reached_18 : decode cX6_reached 18 = .ok (.aload_n 0, 1) := by decide +kernel
theorem dX6_reached_19 : decode cX6_reached 19 = .ok (.getfield 38, 3) := by decide +kernel
theorem dX6_reached_22 : decode cX6_reached 22 = .ok (.iload_n 2, 1) := by decide +kernel
theorem dX6_reached_23 : decode cX6_reached 23 = .ok (.invokestatic 125, 3) := by decide +kernel
theorem dX6_reached_26 : decode cX6_reached 26 = .ok (.invokevirtual 128, 3) := by decide +kernel
theorem dX6_reached_29 : decode cX6_reached 29 = .ok (.astore_n 3, 1) := by decide +kernel
theorem dX6_reached_30 : decode cX6_reached 30 = .ok (.aload_n 3, 1) := by decide +kernel
theorem dX6_reached_31 : decode cX6_reached 31 = .ok (.aload_n 0, 1) := by decide +kernel
theorem dX6_reached_32 : decode cX6_reached 32 = .ok (.getfield 31, 3) := by decide +kernel
theorem dX6_reached_35 : decode cX6_reached 35 = .ok (.getfield 42, 3) := by decide +kernel
theorem dX6_reached_38 : decode cX6_reached 38 = .ok (.iload_n 1, 1) := by decide +kernel
theorem dX6_reached_39 : decode cX6_reached 39 = .ok (.invokevirtual 132, 3) := by decide +kernel
theorem dX6_reached_42 : decode cX6_reached 42 = .ok (.invokevirtual 135, 3) := by decide +kernel
theorem dX6_reached_45 : decode cX6_reached 45 = .ok (.aload_n 3, 1) := by decide +kernel
theorem dX6_reached_46 : decode cX6_reached 46 = .ok (.getfield 141, 3) := by decide +kernel
theorem dX6_reached_49 : decode cX6_reached 49 = .ok (.ireturn, 1) := by decide +kernel
theorem dX6_scanned_0 : decode cX6_scanned 0 = .ok (.iload_n 1, 1) := by decide +kernel
theorem dX6_scanned_1 : decode cX6_scanned 1 = .ok (.invokestatic 119, 3) := by decide +kernel
theorem dX6_scanned_4 : decode cX6_scanned 4 = .ok (.ifCond .eq 11, 3) := by decide +kernel
theorem dX6_scanned_7 : decode cX6_scanned 7 = .ok (.aload_n 0, 1) := by decide +kernel
theorem dX6_scanned_8 : decode cX6_scanned 8 = .ok (.iload_n 2, 1) := by decide +kernel
theorem dX6_scanned_9 : decode cX6_scanned 9 = .ok (.invokevirtual 122, 3) := by decide +kernel
theorem dX6_scanned_12 : decode cX6_scanned 12 = .ok (.ifCond .ne 6, 3) := by decide +kernel
theorem dX6_scanned_15 : decode cX6_scanned 15 = .ok (.ldc 74, 2) := by decide +kernel
theorem dX6_scanned_17 : decode cX6_scanned 17 = .ok (.ireturn, 1) := by decide +kernel
theorem dX6_scanned_18 : decode cX6_scanned 18 = .ok (.aload_n 0, 1) := by decide +kernel
theorem dX6_scanned_19 : decode cX6_scanned 19 = .ok (.getfield 38, 3) := by decide +kernel
theorem dX6_scanned_22 : decode cX6_scanned 22 = .ok (.iload_n 2, 1) := by decide +kernel
theorem dX6_scanned_23 : decode cX6_scanned 23 = .ok (.invokestatic 125, 3) := by decide +kernel
theorem dX6_scanned_26 : decode cX6_scanned 26 = .ok (.invokevirtual 128, 3) := by decide +kernel
theorem dX6_scanned_29 : decode cX6_scanned 29 = .ok (.aload_n 0, 1) := by decide +kernel
theorem dX6_scanned_30 : decode cX6_scanned 30 = .ok (.getfield 31, 3) := by decide +kernel
theorem dX6_scanned_33 : decode cX6_scanned 33 = .ok (.getfield 42, 3) := by decide +kernel
theorem dX6_scanned_36 : decode cX6_scanned 36 = .ok (.iload_n 1, 1) := by decide +kernel
theorem dX6_scanned_37 : decode cX6_scanned 37 = .ok (.invokevirtual 132, 3) := by decide +kernel
theorem dX6_scanned_40 : decode cX6_scanned 40 = .ok (.invokevirtual 145, 3) := by decide +kernel
theorem dX6_scanned_43 : decode cX6_scanned 43 = .ok (.ireturn, 1) := by decide +kernel
theorem dX6_reads_0 : decode cX6_reads 0 = .ok (.iload_n 1, 1) := by decide +kernel
theorem dX6_reads_1 : decode cX6_reads 1 = .ok (.invokestatic 119, 3) := by decide +kernel
theorem dX6_reads_4 : decode cX6_reads 4 = .ok (.ifCond .eq 26, 3) := by decide +kernel
theorem dX6_reads_7 : decode cX6_reads 7 = .ok (.aload_n 0, 1) := by decide +kernel
theorem dX6_reads_8 : decode cX6_reads 8 = .ok (.iload_n 2, 1) := by decide +kernel
theorem dX6_reads_9 : decode cX6_reads 9 = .ok (.invokevirtual 122, 3) := by decide +kernel
theorem dX6_reads_12 : decode cX6_reads 12 = .ok (.ifCond .eq 18, 3) := by decide +kernel
theorem dX6_reads_15 : decode cX6_reads 15 = .ok (.iload_n 3, 1) := by decide +kernel
theorem dX6_reads_16 : decode cX6_reads 16 = .ok (.invokestatic 70, 3) := by decide +kernel
theorem dX6_reads_19 : decode cX6_reads 19 = .ok (.ifCond .eq 11, 3) := by decide +kernel
theorem dX6_reads_22 : decode cX6_reads 22 = .ok (.iload 4, 2) := by decide +kernel
theorem dX6_reads_24 : decode cX6_reads 24 = .ok (.invokestatic 148, 3) := by decide +kernel
theorem dX6_reads_27 : decode cX6_reads 27 = .ok (.ifCond .ne 6, 3) := by decide +kernel
theorem dX6_reads_30 : decode cX6_reads 30 = .ok (.ldc 74, 2) := by decide +kernel
theorem dX6_reads_32 : decode cX6_reads 32 = .ok (.ireturn, 1) := by decide +kernel
theorem dX6_reads_33 : decode cX6_reads 33 = .ok (.aload_n 0, 1) := by decide +kernel
theorem dX6_reads_34 : decode cX6_reads 34 = .ok (.getfield 38, 3) := by decide +kernel
theorem dX6_reads_37 : decode cX6_reads 37 = .ok (.iload_n 2, 1) := by decide +kernel
theorem dX6_reads_38 : decode cX6_reads 38 = .ok (.invokestatic 125, 3) := by decide +kernel
theorem dX6_reads_41 : decode cX6_reads 41 = .ok (.invokevirtual 128, 3) := by decide +kernel
theorem dX6_reads_44 : decode cX6_reads 44 = .ok (.astore 5, 2) := by decide +kernel
theorem dX6_reads_46 : decode cX6_reads 46 = .ok (.aload 5, 2) := by decide +kernel
theorem dX6_reads_48 : decode cX6_reads 48 = .ok (.aload_n 0, 1) := by decide +kernel
theorem dX6_reads_49 : decode cX6_reads 49 = .ok (.getfield 31, 3) := by decide +kernel
theorem dX6_reads_52 : decode cX6_reads 52 = .ok (.getfield 42, 3) := by decide +kernel
theorem dX6_reads_55 : decode cX6_reads 55 = .ok (.iload_n 1, 1) := by decide +kernel
theorem dX6_reads_56 : decode cX6_reads 56 = .ok (.invokevirtual 132, 3) := by decide +kernel
theorem dX6_reads_59 : decode cX6_reads 59 = .ok (.invokevirtual 135, 3) := by decide +kernel
theorem dX6_reads_62 : decode cX6_reads 62 = .ok (.aload 5, 2) := by decide +kernel
theorem dX6_reads_64 : decode cX6_reads 64 = .ok (.getfield 141, 3) := by decide +kernel
theorem dX6_reads_67 : decode cX6_reads 67 = .ok (.iload_n 3, 1) := by decide +kernel
theorem dX6_reads_68 : decode cX6_reads 68 = .ok (.invokestatic 99, 3) := by decide +kernel
theorem dX6_reads_71 : decode cX6_reads 71 = .ok (.ifCond .eq 14, 3) := by decide +kernel
theorem dX6_reads_74 : decode cX6_reads 74 = .ok (.aload 5, 2) := by decide +kernel
theorem dX6_reads_76 : decode cX6_reads 76 = .ok (.iload_n 3, 1) := by decide +kernel
theorem dX6_reads_77 : decode cX6_reads 77 = .ok (.iload 4, 2) := by decide +kernel
theorem dX6_reads_79 : decode cX6_reads 79 = .ok (.invokevirtual 151, 3) := by decide +kernel
theorem dX6_reads_82 : decode cX6_reads 82 = .ok (.goto 5, 3) := by decide +kernel
theorem dX6_reads_85 : decode cX6_reads 85 = .ok (.ldc 115, 2) := by decide +kernel
theorem dX6_reads_87 : decode cX6_reads 87 = .ok (.ireturn, 1) := by decide +kernel
theorem dX6_daysOf_0 : decode cX6_daysOf 0 = .ok (.aload_n 0, 1) := by decide +kernel
theorem dX6_daysOf_1 : decode cX6_daysOf 1 = .ok (.getfield 31, 3) := by decide +kernel
theorem dX6_daysOf_4 : decode cX6_daysOf 4 = .ok (.getfield 42, 3) := by decide +kernel
theorem dX6_daysOf_7 : decode cX6_daysOf 7 = .ok (.iload_n 1, 1) := by decide +kernel
theorem dX6_daysOf_8 : decode cX6_daysOf 8 = .ok (.invokevirtual 103, 3) := by decide +kernel
theorem dX6_daysOf_11 : decode cX6_daysOf 11 = .ok (.ifCond .ne 6, 3) := by decide +kernel
theorem dX6_daysOf_14 : decode cX6_daysOf 14 = .ok (.ldc 74, 2) := by decide +kernel
theorem dX6_daysOf_16 : decode cX6_daysOf 16 = .ok (.ireturn, 1) := by decide +kernel
theorem dX6_daysOf_17 : decode cX6_daysOf 17 = .ok (.aload_n 0, 1) := by decide +kernel
theorem dX6_daysOf_18 : decode cX6_daysOf 18 = .ok (.getfield 38, 3) := by decide +kernel
theorem dX6_daysOf_21 : decode cX6_daysOf 21 = .ok (.invokevirtual 154, 3) := by decide +kernel
theorem dX6_daysOf_24 : decode cX6_daysOf 24 = .ok (.aload_n 0, 1) := by decide +kernel
theorem dX6_daysOf_25 : decode cX6_daysOf 25 = .ok (.getfield 38, 3) := by decide +kernel
theorem dX6_daysOf_28 : decode cX6_daysOf 28 = .ok (.iload_n 1, 1) := by decide +kernel
theorem dX6_daysOf_29 : decode cX6_daysOf 29 = .ok (.bipush 10, 2) := by decide +kernel
theorem dX6_daysOf_31 : decode cX6_daysOf 31 = .ok (.invokevirtual 157, 3) := by decide +kernel
theorem dX6_daysOf_34 : decode cX6_daysOf 34 = .ok (.ireturn, 1) := by decide +kernel
theorem dX6_alike_0 : decode cX6_alike 0 = .ok (.aload_n 0, 1) := by decide +kernel
theorem dX6_alike_1 : decode cX6_alike 1 = .ok (.iload_n 1, 1) := by decide +kernel
theorem dX6_alike_2 : decode cX6_alike 2 = .ok (.invokevirtual 122, 3) := by decide +kernel
theorem dX6_alike_5 : decode cX6_alike 5 = .ok (.ifCond .eq 11, 3) := by decide +kernel
theorem dX6_alike_8 : decode cX6_alike 8 = .ok (.aload_n 0, 1) := by decide +kernel
theorem dX6_alike_9 : decode cX6_alike 9 = .ok (.iload_n 2, 1) := by decide +kernel
theorem dX6_alike_10 : decode cX6_alike 10 = .ok (.invokevirtual 122, 3) := by decide +kernel
theorem dX6_alike_13 : decode cX6_alike 13 = .ok (.ifCond .ne 6, 3) := by decide +kernel
theorem dX6_alike_16 : decode cX6_alike 16 = .ok (.ldc 74, 2) := by decide +kernel
theorem dX6_alike_18 : decode cX6_alike 18 = .ok (.ireturn, 1) := by decide +kernel
theorem dX6_alike_19 : decode cX6_alike 19 = .ok (.aload_n 0, 1) := by decide +kernel
theorem dX6_alike_20 : decode cX6_alike 20 = .ok (.getfield 38, 3) := by decide +kernel
theorem dX6_alike_23 : decode cX6_alike 23 = .ok (.invokevirtual 154, 3) := by decide +kernel
theorem dX6_alike_26 : decode cX6_alike 26 = .ok (.aload_n 0, 1) := by decide +kernel
theorem dX6_alike_27 : decode cX6_alike 27 = .ok (.getfield 38, 3) := by decide +kernel
theorem dX6_alike_30 : decode cX6_alike 30 = .ok (.iload_n 1, 1) := by decide +kernel
theorem dX6_alike_31 : decode cX6_alike 31 = .ok (.invokestatic 125, 3) := by decide +kernel
theorem dX6_alike_34 : decode cX6_alike 34 = .ok (.iload_n 2, 1) := by decide +kernel
theorem dX6_alike_35 : decode cX6_alike 35 = .ok (.invokestatic 125, 3) := by decide +kernel
theorem dX6_alike_38 : decode cX6_alike 38 = .ok (.invokevirtual 160, 3) := by decide +kernel
theorem dX6_alike_41 : decode cX6_alike 41 = .ok (.ireturn, 1) := by decide +kernel
theorem dX6_twin_0 : decode cX6_twin 0 = .ok (.aload_n 0, 1) := by decide +kernel
theorem dX6_twin_1 : decode cX6_twin 1 = .ok (.getfield 31, 3) := by decide +kernel
theorem dX6_twin_4 : decode cX6_twin 4 = .ok (.getfield 42, 3) := by decide +kernel
theorem dX6_twin_7 : decode cX6_twin 7 = .ok (.iload_n 1, 1) := by decide +kernel
theorem dX6_twin_8 : decode cX6_twin 8 = .ok (.invokevirtual 103, 3) := by decide +kernel
theorem dX6_twin_11 : decode cX6_twin 11 = .ok (.ifCond .ne 6, 3) := by decide +kernel
theorem dX6_twin_14 : decode cX6_twin 14 = .ok (.ldc 74, 2) := by decide +kernel
theorem dX6_twin_16 : decode cX6_twin 16 = .ok (.ireturn, 1) := by decide +kernel
theorem dX6_twin_17 : decode cX6_twin 17 = .ok (.aload_n 0, 1) := by decide +kernel
theorem dX6_twin_18 : decode cX6_twin 18 = .ok (.getfield 38, 3) := by decide +kernel
theorem dX6_twin_21 : decode cX6_twin 21 = .ok (.invokevirtual 154, 3) := by decide +kernel
theorem dX6_twin_24 : decode cX6_twin 24 = .ok (.iconst 0, 1) := by decide +kernel
theorem dX6_twin_25 : decode cX6_twin 25 = .ok (.istore_n 2, 1) := by decide +kernel
theorem dX6_twin_26 : decode cX6_twin 26 = .ok (.iload_n 2, 1) := by decide +kernel
theorem dX6_twin_27 : decode cX6_twin 27 = .ok (.aload_n 0, 1) := by decide +kernel
theorem dX6_twin_28 : decode cX6_twin 28 = .ok (.getfield 31, 3) := by decide +kernel
theorem dX6_twin_31 : decode cX6_twin 31 = .ok (.getfield 42, 3) := by decide +kernel
theorem dX6_twin_34 : decode cX6_twin 34 = .ok (.getfield 163, 3) := by decide +kernel
theorem dX6_twin_37 : decode cX6_twin 37 = .ok (.if_icmp .ge 30, 3) := by decide +kernel
theorem dX6_twin_40 : decode cX6_twin 40 = .ok (.iload_n 2, 1) := by decide +kernel
theorem dX6_twin_41 : decode cX6_twin 41 = .ok (.iload_n 1, 1) := by decide +kernel
theorem dX6_twin_42 : decode cX6_twin 42 = .ok (.if_icmp .eq 19, 3) := by decide +kernel
theorem dX6_twin_45 : decode cX6_twin 45 = .ok (.aload_n 0, 1) := by decide +kernel
theorem dX6_twin_46 : decode cX6_twin 46 = .ok (.getfield 38, 3) := by decide +kernel
theorem dX6_twin_49 : decode cX6_twin 49 = .ok (.iload_n 1, 1) := by decide +kernel
theorem dX6_twin_50 : decode cX6_twin 50 = .ok (.iload_n 2, 1) := by decide +kernel
theorem dX6_twin_51 : decode cX6_twin 51 = .ok (.invokevirtual 160, 3) := by decide +kernel
theorem dX6_twin_54 : decode cX6_twin 54 = .ok (.bipush 127, 2) := by decide +kernel
theorem dX6_twin_56 : decode cX6_twin 56 = .ok (.if_icmp .ne 5, 3) := by decide +kernel
theorem dX6_twin_59 : decode cX6_twin 59 = .ok (.iload_n 2, 1) := by decide +kernel
theorem dX6_twin_60 : decode cX6_twin 60 = .ok (.ireturn, 1) := by decide +kernel
theorem dX6_twin_61 : decode cX6_twin 61 = .ok (.iinc 2 1, 3) := by decide +kernel
theorem dX6_twin_64 : decode cX6_twin 64 = .ok (.goto (-38), 3) := by decide +kernel
theorem dX6_twin_67 : decode cX6_twin 67 = .ok (.aload_n 0, 1) := by decide +kernel
theorem dX6_twin_68 : decode cX6_twin 68 = .ok (.getfield 38, 3) := by decide +kernel
theorem dX6_twin_71 : decode cX6_twin 71 = .ok (.iload_n 1, 1) := by decide +kernel
theorem dX6_twin_72 : decode cX6_twin 72 = .ok (.bipush 10, 2) := by decide +kernel
theorem dX6_twin_74 : decode cX6_twin 74 = .ok (.invokevirtual 160, 3) := by decide +kernel
theorem dX6_twin_77 : decode cX6_twin 77 = .ok (.bipush 127, 2) := by decide +kernel
theorem dX6_twin_79 : decode cX6_twin 79 = .ok (.if_icmp .ne 7, 3) := by decide +kernel
theorem dX6_twin_82 : decode cX6_twin 82 = .ok (.iconst (-1), 1) := by decide +kernel
theorem dX6_twin_83 : decode cX6_twin 83 = .ok (.goto 5, 3) := by decide +kernel
theorem dX6_twin_86 : decode cX6_twin 86 = .ok (.ldc 115, 2) := by decide +kernel
theorem dX6_twin_88 : decode cX6_twin 88 = .ok (.ireturn, 1) := by decide +kernel
theorem dX6_outcomes_0 : decode cX6_outcomes 0 = .ok (.iload_n 1, 1) := by decide +kernel
theorem dX6_outcomes_1 : decode cX6_outcomes 1 = .ok (.invokestatic 119, 3) := by decide +kernel
theorem dX6_outcomes_4 : decode cX6_outcomes 4 = .ok (.ifCond .ne 6, 3) := by decide +kernel
theorem dX6_outcomes_7 : decode cX6_outcomes 7 = .ok (.ldc 74, 2) := by decide +kernel
theorem dX6_outcomes_9 : decode cX6_outcomes 9 = .ok (.ireturn, 1) := by decide +kernel
theorem dX6_outcomes_10 : decode cX6_outcomes 10 = .ok (.aload_n 0, 1) := by decide +kernel
theorem dX6_outcomes_11 : decode cX6_outcomes 11 = .ok (.getfield 38, 3) := by decide +kernel
theorem dX6_outcomes_14 : decode cX6_outcomes 14 = .ok (.invokevirtual 154, 3) := by decide +kernel
theorem dX6_outcomes_17 : decode cX6_outcomes 17 = .ok (.aload_n 0, 1) := by decide +kernel
theorem dX6_outcomes_18 : decode cX6_outcomes 18 = .ok (.getfield 38, 3) := by decide +kernel
theorem dX6_outcomes_21 : decode cX6_outcomes 21 = .ok (.iload_n 1, 1) := by decide +kernel
theorem dX6_outcomes_22 : decode cX6_outcomes 22 = .ok (.invokevirtual 166, 3) := by decide +kernel
theorem dX6_outcomes_25 : decode cX6_outcomes 25 = .ok (.ireturn, 1) := by decide +kernel
theorem dX6_likes_0 : decode cX6_likes 0 = .ok (.iload_n 1, 1) := by decide +kernel
theorem dX6_likes_1 : decode cX6_likes 1 = .ok (.invokestatic 119, 3) := by decide +kernel
theorem dX6_likes_4 : decode cX6_likes 4 = .ok (.ifCond .eq 11, 3) := by decide +kernel
theorem dX6_likes_7 : decode cX6_likes 7 = .ok (.aload_n 0, 1) := by decide +kernel
theorem dX6_likes_8 : decode cX6_likes 8 = .ok (.iload_n 2, 1) := by decide +kernel
theorem dX6_likes_9 : decode cX6_likes 9 = .ok (.invokevirtual 122, 3) := by decide +kernel
theorem dX6_likes_12 : decode cX6_likes 12 = .ok (.ifCond .ne 6, 3) := by decide +kernel
theorem dX6_likes_15 : decode cX6_likes 15 = .ok (.ldc 74, 2) := by decide +kernel
theorem dX6_likes_17 : decode cX6_likes 17 = .ok (.ireturn, 1) := by decide +kernel
theorem dX6_likes_18 : decode cX6_likes 18 = .ok (.aload_n 0, 1) := by decide +kernel
theorem dX6_likes_19 : decode cX6_likes 19 = .ok (.getfield 38, 3) := by decide +kernel
theorem dX6_likes_22 : decode cX6_likes 22 = .ok (.invokevirtual 154, 3) := by decide +kernel
theorem dX6_likes_25 : decode cX6_likes 25 = .ok (.aload_n 0, 1) := by decide +kernel
theorem dX6_likes_26 : decode cX6_likes 26 = .ok (.getfield 38, 3) := by decide +kernel
theorem dX6_likes_29 : decode cX6_likes 29 = .ok (.iload_n 1, 1) := by decide +kernel
theorem dX6_likes_30 : decode cX6_likes 30 = .ok (.iload_n 2, 1) := by decide +kernel
theorem dX6_likes_31 : decode cX6_likes 31 = .ok (.invokestatic 125, 3) := by decide +kernel
theorem dX6_likes_34 : decode cX6_likes 34 = .ok (.invokevirtual 169, 3) := by decide +kernel
theorem dX6_likes_37 : decode cX6_likes 37 = .ok (.ireturn, 1) := by decide +kernel
theorem dX6_fewestDays_0 : decode cX6_fewestDays 0 = .ok (.iload_n 1, 1) := by decide +kernel
theorem dX6_fewestDays_1 : decode cX6_fewestDays 1 = .ok (.invokestatic 148, 3) := by decide +kernel
theorem dX6_fewestDays_4 : decode cX6_fewestDays 4 = .ok (.ifCond .eq 10, 3) := by decide +kernel
theorem dX6_fewestDays_7 : decode cX6_fewestDays 7 = .ok (.iload_n 2, 1) := by decide +kernel
theorem dX6_fewestDays_8 : decode cX6_fewestDays 8 = .ok (.invokestatic 148, 3) := by decide +kernel
theorem dX6_fewestDays_11 : decode cX6_fewestDays 11 = .ok (.ifCond .ne 6, 3) := by decide +kernel
theorem dX6_fewestDays_14 : decode cX6_fewestDays 14 = .ok (.ldc 74, 2) := by decide +kernel
theorem dX6_fewestDays_16 : decode cX6_fewestDays 16 = .ok (.ireturn, 1) := by decide +kernel
theorem dX6_fewestDays_17 : decode cX6_fewestDays 17 = .ok (.aload_n 0, 1) := by decide +kernel
theorem dX6_fewestDays_18 : decode cX6_fewestDays 18 = .ok (.getfield 38, 3) := by decide +kernel
theorem dX6_fewestDays_21 : decode cX6_fewestDays 21 = .ok (.invokevirtual 154, 3) := by decide +kernel
theorem dX6_fewestDays_24 : decode cX6_fewestDays 24 = .ok (.aload_n 0, 1) := by decide +kernel
theorem dX6_fewestDays_25 : decode cX6_fewestDays 25 = .ok (.getfield 38, 3) := by decide +kernel
theorem dX6_fewestDays_28 : decode cX6_fewestDays 28 = .ok (.iload_n 1, 1) := by decide +kernel
theorem dX6_fewestDays_29 : decode cX6_fewestDays 29 = .ok (.iconst 1, 1) := by decide +kernel
theorem dX6_fewestDays_30 : decode cX6_fewestDays 30 = .ok (.if_icmp .ne 7, 3) := by decide +kernel
theorem dX6_fewestDays_33 : decode cX6_fewestDays 33 = .ok (.iconst 1, 1) := by decide +kernel
theorem dX6_fewestDays_34 : decode cX6_fewestDays 34 = .ok (.goto 4, 3) := by decide +kernel
theorem dX6_fewestDays_37 : decode cX6_fewestDays 37 = .ok (.iconst 0, 1) := by decide +kernel
theorem dX6_fewestDays_38 : decode cX6_fewestDays 38 = .ok (.invokevirtual 172, 3) := by decide +kernel
theorem dX6_fewestDays_41 : decode cX6_fewestDays 41 = .ok (.iload_n 2, 1) := by decide +kernel
theorem dX6_fewestDays_42 : decode cX6_fewestDays 42 = .ok (.invokestatic 176, 3) := by decide +kernel
theorem dX6_fewestDays_45 : decode cX6_fewestDays 45 = .ok (.ireturn, 1) := by decide +kernel
theorem dX6_wanted_0 : decode cX6_wanted 0 = .ok (.aload_n 0, 1) := by decide +kernel
theorem dX6_wanted_1 : decode cX6_wanted 1 = .ok (.getfield 31, 3) := by decide +kernel
theorem dX6_wanted_4 : decode cX6_wanted 4 = .ok (.getfield 42, 3) := by decide +kernel
theorem dX6_wanted_7 : decode cX6_wanted 7 = .ok (.iload_n 1, 1) := by decide +kernel
theorem dX6_wanted_8 : decode cX6_wanted 8 = .ok (.invokevirtual 103, 3) := by decide +kernel
theorem dX6_wanted_11 : decode cX6_wanted 11 = .ok (.ifCond .eq 17, 3) := by decide +kernel
theorem dX6_wanted_14 : decode cX6_wanted 14 = .ok (.iload_n 2, 1) := by decide +kernel
theorem dX6_wanted_15 : decode cX6_wanted 15 = .ok (.invokestatic 119, 3) := by decide +kernel
theorem dX6_wanted_18 : decode cX6_wanted 18 = .ok (.ifCond .eq 10, 3) := by decide +kernel
theorem dX6_wanted_21 : decode cX6_wanted 21 = .ok (.iload_n 3, 1) := by decide +kernel
theorem dX6_wanted_22 : decode cX6_wanted 22 = .ok (.invokestatic 148, 3) := by decide +kernel
theorem dX6_wanted_25 : decode cX6_wanted 25 = .ok (.ifCond .ne 6, 3) := by decide +kernel
theorem dX6_wanted_28 : decode cX6_wanted 28 = .ok (.ldc 74, 2) := by decide +kernel
theorem dX6_wanted_30 : decode cX6_wanted 30 = .ok (.ireturn, 1) := by decide +kernel
theorem dX6_wanted_31 : decode cX6_wanted 31 = .ok (.aload_n 0, 1) := by decide +kernel
theorem dX6_wanted_32 : decode cX6_wanted 32 = .ok (.getfield 38, 3) := by decide +kernel
theorem dX6_wanted_35 : decode cX6_wanted 35 = .ok (.aload_n 0, 1) := by decide +kernel
theorem dX6_wanted_36 : decode cX6_wanted 36 = .ok (.getfield 31, 3) := by decide +kernel
theorem dX6_wanted_39 : decode cX6_wanted 39 = .ok (.getfield 42, 3) := by decide +kernel
theorem dX6_wanted_42 : decode cX6_wanted 42 = .ok (.iload_n 2, 1) := by decide +kernel
theorem dX6_wanted_43 : decode cX6_wanted 43 = .ok (.invokevirtual 132, 3) := by decide +kernel
theorem dX6_wanted_46 : decode cX6_wanted 46 = .ok (.iload_n 1, 1) := by decide +kernel
theorem dX6_wanted_47 : decode cX6_wanted 47 = .ok (.invokevirtual 179, 3) := by decide +kernel
theorem dX6_wanted_50 : decode cX6_wanted 50 = .ok (.istore 4, 2) := by decide +kernel
theorem dX6_wanted_52 : decode cX6_wanted 52 = .ok (.iload 4, 2) := by decide +kernel
theorem dX6_wanted_54 : decode cX6_wanted 54 = .ok (.iconst (-1), 1) := by decide +kernel
theorem dX6_wanted_55 : decode cX6_wanted 55 = .ok (.if_icmp .ne 8, 3) := by decide +kernel
theorem dX6_wanted_58 : decode cX6_wanted 58 = .ok (.ldc 115, 2) := by decide +kernel
theorem dX6_wanted_60 : decode cX6_wanted 60 = .ok (.goto 9, 3) := by decide +kernel
theorem dX6_wanted_63 : decode cX6_wanted 63 = .ok (.iload 4, 2) := by decide +kernel
theorem dX6_wanted_65 : decode cX6_wanted 65 = .ok (.iload_n 3, 1) := by decide +kernel
theorem dX6_wanted_66 : decode cX6_wanted 66 = .ok (.invokestatic 176, 3) := by decide +kernel
theorem dX6_wanted_69 : decode cX6_wanted 69 = .ok (.ireturn, 1) := by decide +kernel
theorem dX6_share_0 : decode cX6_share 0 = .ok (.iload_n 1, 1) := by decide +kernel
theorem dX6_share_1 : decode cX6_share 1 = .ok (.invokestatic 119, 3) := by decide +kernel
theorem dX6_share_4 : decode cX6_share 4 = .ok (.ifCond .ne 6, 3) := by decide +kernel
theorem dX6_share_7 : decode cX6_share 7 = .ok (.ldc 74, 2) := by decide +kernel
theorem dX6_share_9 : decode cX6_share 9 = .ok (.ireturn, 1) := by decide +kernel
theorem dX6_share_10 : decode cX6_share 10 = .ok (.aload_n 0, 1) := by decide +kernel
theorem dX6_share_11 : decode cX6_share 11 = .ok (.getfield 31, 3) := by decide +kernel
theorem dX6_share_14 : decode cX6_share 14 = .ok (.getfield 42, 3) := by decide +kernel
theorem dX6_share_17 : decode cX6_share 17 = .ok (.getfield 163, 3) := by decide +kernel
theorem dX6_share_20 : decode cX6_share 20 = .ok (.istore_n 2, 1) := by decide +kernel
theorem dX6_share_21 : decode cX6_share 21 = .ok (.iload_n 2, 1) := by decide +kernel
theorem dX6_share_22 : decode cX6_share 22 = .ok (.ifCond .ne 8, 3) := by decide +kernel
theorem dX6_share_25 : decode cX6_share 25 = .ok (.fconst 1, 1) := by decide +kernel
theorem dX6_share_26 : decode cX6_share 26 = .ok (.invokestatic 182, 3) := by decide +kernel
theorem dX6_share_29 : decode cX6_share 29 = .ok (.ireturn, 1) := by decide +kernel
theorem dX6_share_30 : decode cX6_share 30 = .ok (.aload_n 0, 1) := by decide +kernel
theorem dX6_share_31 : decode cX6_share 31 = .ok (.getfield 38, 3) := by decide +kernel
theorem dX6_share_34 : decode cX6_share 34 = .ok (.invokevirtual 154, 3) := by decide +kernel
theorem dX6_share_37 : decode cX6_share 37 = .ok (.iload_n 2, 1) := by decide +kernel
theorem dX6_share_38 : decode cX6_share 38 = .ok (.aload_n 0, 1) := by decide +kernel
theorem dX6_share_39 : decode cX6_share 39 = .ok (.getfield 38, 3) := by decide +kernel
theorem dX6_share_42 : decode cX6_share 42 = .ok (.iload_n 1, 1) := by decide +kernel
theorem dX6_share_43 : decode cX6_share 43 = .ok (.bipush 10, 2) := by decide +kernel
theorem dX6_share_45 : decode cX6_share 45 = .ok (.invokevirtual 169, 3) := by decide +kernel
theorem dX6_share_48 : decode cX6_share 48 = .ok (.sipush (-1025), 3) := by decide +kernel
theorem dX6_share_51 : decode cX6_share 51 = .ok (.iand, 1) := by decide +kernel
theorem dX6_share_52 : decode cX6_share 52 = .ok (.invokestatic 186, 3) := by decide +kernel
theorem dX6_share_55 : decode cX6_share 55 = .ok (.isub, 1) := by decide +kernel
theorem dX6_share_56 : decode cX6_share 56 = .ok (.istore_n 3, 1) := by decide +kernel
theorem dX6_share_57 : decode cX6_share 57 = .ok (.iload_n 3, 1) := by decide +kernel
theorem dX6_share_58 : decode cX6_share 58 = .ok (.i2f, 1) := by decide +kernel
theorem dX6_share_59 : decode cX6_share 59 = .ok (.iload_n 2, 1) := by decide +kernel
theorem dX6_share_60 : decode cX6_share 60 = .ok (.i2f, 1) := by decide +kernel
theorem dX6_share_61 : decode cX6_share 61 = .ok (.fdiv, 1) := by decide +kernel
theorem dX6_share_62 : decode cX6_share 62 = .ok (.invokestatic 182, 3) := by decide +kernel
theorem dX6_share_65 : decode cX6_share 65 = .ok (.ireturn, 1) := by decide +kernel
theorem dX6_plant_0 : decode cX6_plant 0 = .ok (.aload_n 0, 1) := by decide +kernel
theorem dX6_plant_1 : decode cX6_plant 1 = .ok (.iload_n 1, 1) := by decide +kernel
theorem dX6_plant_2 : decode cX6_plant 2 = .ok (.invokevirtual 122, 3) := by decide +kernel
theorem dX6_plant_5 : decode cX6_plant 5 = .ok (.ifCond .ne 6, 3) := by decide +kernel
theorem dX6_plant_8 : decode cX6_plant 8 = .ok (.ldc 74, 2) := by decide +kernel
theorem dX6_plant_10 : decode cX6_plant 10 = .ok (.ireturn, 1) := by decide +kernel
theorem dX6_plant_11 : decode cX6_plant 11 = .ok (.aload_n 0, 1) := by decide +kernel
theorem dX6_plant_12 : decode cX6_plant 12 = .ok (.getfield 12, 3) := by decide +kernel
theorem dX6_plant_15 : decode cX6_plant 15 = .ok (.aload_n 0, 1) := by decide +kernel
theorem dX6_plant_16 : decode cX6_plant 16 = .ok (.getfield 31, 3) := by decide +kernel
theorem dX6_plant_19 : decode cX6_plant 19 = .ok (.invokevirtual 50, 3) := by decide +kernel
theorem dX6_plant_22 : decode cX6_plant 22 = .ok (.aload_n 0, 1) := by decide +kernel
theorem dX6_plant_23 : decode cX6_plant 23 = .ok (.getfield 31, 3) := by decide +kernel
theorem dX6_plant_26 : decode cX6_plant 26 = .ok (.iload_n 1, 1) := by decide +kernel
theorem dX6_plant_27 : decode cX6_plant 27 = .ok (.invokestatic 125, 3) := by decide +kernel
theorem dX6_plant_30 : decode cX6_plant 30 = .ok (.putfield 191, 3) := by decide +kernel
theorem dX6_plant_33 : decode cX6_plant 33 = .ok (.aload_n 0, 1) := by decide +kernel
theorem dX6_plant_34 : decode cX6_plant 34 = .ok (.getfield 31, 3) := by decide +kernel
theorem dX6_plant_37 : decode cX6_plant 37 = .ok (.aload_n 0, 1) := by decide +kernel
theorem dX6_plant_38 : decode cX6_plant 38 = .ok (.getfield 31, 3) := by decide +kernel
theorem dX6_plant_41 : decode cX6_plant 41 = .ok (.getfield 42, 3) := by decide +kernel
theorem dX6_plant_44 : decode cX6_plant 44 = .ok (.invokevirtual 194, 3) := by decide +kernel
theorem dX6_plant_47 : decode cX6_plant 47 = .ok (.putfield 197, 3) := by decide +kernel
theorem dX6_plant_50 : decode cX6_plant 50 = .ok (.aload_n 0, 1) := by decide +kernel
theorem dX6_plant_51 : decode cX6_plant 51 = .ok (.getfield 31, 3) := by decide +kernel
theorem dX6_plant_54 : decode cX6_plant 54 = .ok (.getfield 197, 3) := by decide +kernel
theorem dX6_plant_57 : decode cX6_plant 57 = .ok (.invokestatic 186, 3) := by decide +kernel
theorem dX6_plant_60 : decode cX6_plant 60 = .ok (.ireturn, 1) := by decide +kernel
theorem dX6_test_0 : decode cX6_test 0 = .ok (.aload_n 0, 1) := by decide +kernel
theorem dX6_test_1 : decode cX6_test 1 = .ok (.getfield 12, 3) := by decide +kernel
theorem dX6_test_4 : decode cX6_test 4 = .ok (.aload_n 0, 1) := by decide +kernel
theorem dX6_test_5 : decode cX6_test 5 = .ok (.getfield 31, 3) := by decide +kernel
theorem dX6_test_8 : decode cX6_test 8 = .ok (.invokevirtual 50, 3) := by decide +kernel
theorem dX6_test_11 : decode cX6_test 11 = .ok (.aload_n 0, 1) := by decide +kernel
theorem dX6_test_12 : decode cX6_test 12 = .ok (.getfield 31, 3) := by decide +kernel
theorem dX6_test_15 : decode cX6_test 15 = .ok (.dup, 1) := by decide +kernel
theorem dX6_test_16 : decode cX6_test 16 = .ok (.getfield 200, 3) := by decide +kernel
theorem dX6_test_19 : decode cX6_test 19 = .ok (.iconst 1, 1) := by decide +kernel
theorem dX6_test_20 : decode cX6_test 20 = .ok (.iadd, 1) := by decide +kernel
theorem dX6_test_21 : decode cX6_test 21 = .ok (.putfield 200, 3) := by decide +kernel
theorem dX6_test_24 : decode cX6_test 24 = .ok (.aload_n 0, 1) := by decide +kernel
theorem dX6_test_25 : decode cX6_test 25 = .ok (.getfield 31, 3) := by decide +kernel
theorem dX6_test_28 : decode cX6_test 28 = .ok (.aload_n 0, 1) := by decide +kernel
theorem dX6_test_29 : decode cX6_test 29 = .ok (.getfield 38, 3) := by decide +kernel
theorem dX6_test_32 : decode cX6_test 32 = .ok (.aload_n 0, 1) := by decide +kernel
theorem dX6_test_33 : decode cX6_test 33 = .ok (.getfield 31, 3) := by decide +kernel
theorem dX6_test_36 : decode cX6_test 36 = .ok (.invokevirtual 95, 3) := by decide +kernel
theorem dX6_test_39 : decode cX6_test 39 = .ok (.aload_n 0, 1) := by decide +kernel
theorem dX6_test_40 : decode cX6_test 40 = .ok (.getfield 31, 3) := by decide +kernel
theorem dX6_test_43 : decode cX6_test 43 = .ok (.getfield 191, 3) := by decide +kernel
theorem dX6_test_46 : decode cX6_test 46 = .ok (.aload_n 0, 1) := by decide +kernel
theorem dX6_test_47 : decode cX6_test 47 = .ok (.getfield 31, 3) := by decide +kernel
theorem dX6_test_50 : decode cX6_test 50 = .ok (.getfield 197, 3) := by decide +kernel
theorem dX6_test_53 : decode cX6_test 53 = .ok (.invokevirtual 203, 3) := by decide +kernel
theorem dX6_test_56 : decode cX6_test 56 = .ok (.putfield 197, 3) := by decide +kernel
theorem dX6_test_59 : decode cX6_test 59 = .ok (.aload_n 0, 1) := by decide +kernel
theorem dX6_test_60 : decode cX6_test 60 = .ok (.getfield 31, 3) := by decide +kernel
theorem dX6_test_63 : decode cX6_test 63 = .ok (.getfield 197, 3) := by decide +kernel
theorem dX6_test_66 : decode cX6_test 66 = .ok (.invokestatic 186, 3) := by decide +kernel
theorem dX6_test_69 : decode cX6_test 69 = .ok (.ireturn, 1) := by decide +kernel
theorem dX6_vouch_0 : decode cX6_vouch 0 = .ok (.iload_n 1, 1) := by decide +kernel
theorem dX6_vouch_1 : decode cX6_vouch 1 = .ok (.invokestatic 70, 3) := by decide +kernel
theorem dX6_vouch_4 : decode cX6_vouch 4 = .ok (.ifCond .ne 6, 3) := by decide +kernel
theorem dX6_vouch_7 : decode cX6_vouch 7 = .ok (.ldc 74, 2) := by decide +kernel
theorem dX6_vouch_9 : decode cX6_vouch 9 = .ok (.ireturn, 1) := by decide +kernel
theorem dX6_vouch_10 : decode cX6_vouch 10 = .ok (.aload_n 0, 1) := by decide +kernel
theorem dX6_vouch_11 : decode cX6_vouch 11 = .ok (.getfield 31, 3) := by decide +kernel
theorem dX6_vouch_14 : decode cX6_vouch 14 = .ok (.invokevirtual 95, 3) := by decide +kernel
theorem dX6_vouch_17 : decode cX6_vouch 17 = .ok (.iload_n 1, 1) := by decide +kernel
theorem dX6_vouch_18 : decode cX6_vouch 18 = .ok (.invokestatic 99, 3) := by decide +kernel
theorem dX6_vouch_21 : decode cX6_vouch 21 = .ok (.ifCond .eq 6, 3) := by decide +kernel
theorem dX6_vouch_24 : decode cX6_vouch 24 = .ok (.ldc 206, 2) := by decide +kernel
theorem dX6_vouch_26 : decode cX6_vouch 26 = .ok (.ireturn, 1) := by decide +kernel
theorem dX6_vouch_27 : decode cX6_vouch 27 = .ok (.aload_n 0, 1) := by decide +kernel
theorem dX6_vouch_28 : decode cX6_vouch 28 = .ok (.getfield 31, 3) := by decide +kernel
theorem dX6_vouch_31 : decode cX6_vouch 31 = .ok (.getfield 207, 3) := by decide +kernel
theorem dX6_vouch_34 : decode cX6_vouch 34 = .ok (.ifCond .ne 6, 3) := by decide +kernel
theorem dX6_vouch_37 : decode cX6_vouch 37 = .ok (.ldc 210, 2) := by decide +kernel
theorem dX6_vouch_39 : decode cX6_vouch 39 = .ok (.ireturn, 1) := by decide +kernel
theorem dX6_vouch_40 : decode cX6_vouch 40 = .ok (.aload_n 0, 1) := by decide +kernel
theorem dX6_vouch_41 : decode cX6_vouch 41 = .ok (.getfield 12, 3) := by decide +kernel
theorem dX6_vouch_44 : decode cX6_vouch 44 = .ok (.aload_n 0, 1) := by decide +kernel
theorem dX6_vouch_45 : decode cX6_vouch 45 = .ok (.getfield 31, 3) := by decide +kernel
theorem dX6_vouch_48 : decode cX6_vouch 48 = .ok (.invokevirtual 50, 3) := by decide +kernel
theorem dX6_vouch_51 : decode cX6_vouch 51 = .ok (.aload_n 0, 1) := by decide +kernel
theorem dX6_vouch_52 : decode cX6_vouch 52 = .ok (.getfield 31, 3) := by decide +kernel
theorem dX6_vouch_55 : decode cX6_vouch 55 = .ok (.dup, 1) := by decide +kernel
theorem dX6_vouch_56 : decode cX6_vouch 56 = .ok (.getfield 211, 3) := by decide +kernel
theorem dX6_vouch_59 : decode cX6_vouch 59 = .ok (.iconst 1, 1) := by decide +kernel
theorem dX6_vouch_60 : decode cX6_vouch 60 = .ok (.iload_n 1, 1) := by decide +kernel
theorem dX6_vouch_61 : decode cX6_vouch 61 = .ok (.ishl, 1) := by decide +kernel
theorem dX6_vouch_62 : decode cX6_vouch 62 = .ok (.ior, 1) := by decide +kernel
theorem dX6_vouch_63 : decode cX6_vouch 63 = .ok (.putfield 211, 3) := by decide +kernel
theorem dX6_vouch_66 : decode cX6_vouch 66 = .ok (.aload_n 0, 1) := by decide +kernel
theorem dX6_vouch_67 : decode cX6_vouch 67 = .ok (.getfield 31, 3) := by decide +kernel
theorem dX6_vouch_70 : decode cX6_vouch 70 = .ok (.dup, 1) := by decide +kernel
theorem dX6_vouch_71 : decode cX6_vouch 71 = .ok (.getfield 207, 3) := by decide +kernel
theorem dX6_vouch_74 : decode cX6_vouch 74 = .ok (.iconst 1, 1) := by decide +kernel
theorem dX6_vouch_75 : decode cX6_vouch 75 = .ok (.isub, 1) := by decide +kernel
theorem dX6_vouch_76 : decode cX6_vouch 76 = .ok (.putfield 207, 3) := by decide +kernel
theorem dX6_vouch_79 : decode cX6_vouch 79 = .ok (.aload_n 0, 1) := by decide +kernel
theorem dX6_vouch_80 : decode cX6_vouch 80 = .ok (.getfield 31, 3) := by decide +kernel
theorem dX6_vouch_83 : decode cX6_vouch 83 = .ok (.getfield 207, 3) := by decide +kernel
theorem dX6_vouch_86 : decode cX6_vouch 86 = .ok (.ireturn, 1) := by decide +kernel
theorem dX6_vouchers_0 : decode cX6_vouchers 0 = .ok (.iload_n 1, 1) := by decide +kernel
theorem dX6_vouchers_1 : decode cX6_vouchers 1 = .ok (.ifCond .lt 9, 3) := by decide +kernel
theorem dX6_vouchers_4 : decode cX6_vouchers 4 = .ok (.iload_n 1, 1) := by decide +kernel
theorem dX6_vouchers_5 : decode cX6_vouchers 5 = .ok (.bipush 20, 2) := by decide +kernel
theorem dX6_vouchers_7 : decode cX6_vouchers 7 = .ok (.if_icmp .le 6, 3) := by decide +kernel
theorem dX6_vouchers_10 : decode cX6_vouchers 10 = .ok (.ldc 74, 2) := by decide +kernel
theorem dX6_vouchers_12 : decode cX6_vouchers 12 = .ok (.ireturn, 1) := by decide +kernel
theorem dX6_vouchers_13 : decode cX6_vouchers 13 = .ok (.aload_n 0, 1) := by decide +kernel
theorem dX6_vouchers_14 : decode cX6_vouchers 14 = .ok (.getfield 12, 3) := by decide +kernel
theorem dX6_vouchers_17 : decode cX6_vouchers 17 = .ok (.aload_n 0, 1) := by decide +kernel
theorem dX6_vouchers_18 : decode cX6_vouchers 18 = .ok (.getfield 31, 3) := by decide +kernel
theorem dX6_vouchers_21 : decode cX6_vouchers 21 = .ok (.invokevirtual 50, 3) := by decide +kernel
theorem dX6_vouchers_24 : decode cX6_vouchers 24 = .ok (.aload_n 0, 1) := by decide +kernel
theorem dX6_vouchers_25 : decode cX6_vouchers 25 = .ok (.getfield 31, 3) := by decide +kernel
theorem dX6_vouchers_28 : decode cX6_vouchers 28 = .ok (.getfield 207, 3) := by decide +kernel
theorem dX6_vouchers_31 : decode cX6_vouchers 31 = .ok (.istore_n 2, 1) := by decide +kernel
theorem dX6_vouchers_32 : decode cX6_vouchers 32 = .ok (.aload_n 0, 1) := by decide +kernel
theorem dX6_vouchers_33 : decode cX6_vouchers 33 = .ok (.getfield 31, 3) := by decide +kernel
theorem dX6_vouchers_36 : decode cX6_vouchers 36 = .ok (.iload_n 1, 1) := by decide +kernel
theorem dX6_vouchers_37 : decode cX6_vouchers 37 = .ok (.putfield 207, 3) := by decide +kernel
theorem dX6_vouchers_40 : decode cX6_vouchers 40 = .ok (.iload_n 2, 1) := by decide +kernel
theorem dX6_vouchers_41 : decode cX6_vouchers 41 = .ok (.ireturn, 1) := by decide +kernel
theorem dX6_pass_0 : decode cX6_pass 0 = .ok (.iload_n 1, 1) := by decide +kernel
theorem dX6_pass_1 : decode cX6_pass 1 = .ok (.iconst 1, 1) := by decide +kernel
theorem dX6_pass_2 : decode cX6_pass 2 = .ok (.if_icmp .lt 9, 3) := by decide +kernel
theorem dX6_pass_5 : decode cX6_pass 5 = .ok (.iload_n 1, 1) := by decide +kernel
theorem dX6_pass_6 : decode cX6_pass 6 = .ok (.bipush 60, 2) := by decide +kernel
theorem dX6_pass_8 : decode cX6_pass 8 = .ok (.if_icmp .le 6, 3) := by decide +kernel
theorem dX6_pass_11 : decode cX6_pass 11 = .ok (.ldc 74, 2) := by decide +kernel
theorem dX6_pass_13 : decode cX6_pass 13 = .ok (.ireturn, 1) := by decide +kernel
theorem dX6_pass_14 : decode cX6_pass 14 = .ok (.aload_n 0, 1) := by decide +kernel
theorem dX6_pass_15 : decode cX6_pass 15 = .ok (.getfield 31, 3) := by decide +kernel
theorem dX6_pass_18 : decode cX6_pass 18 = .ok (.getfield 214, 3) := by decide +kernel
theorem dX6_pass_21 : decode cX6_pass 21 = .ok (.iload_n 1, 1) := by decide +kernel
theorem dX6_pass_22 : decode cX6_pass 22 = .ok (.iadd, 1) := by decide +kernel
theorem dX6_pass_23 : decode cX6_pass 23 = .ok (.sipush 10000, 3) := by decide +kernel
theorem dX6_pass_26 : decode cX6_pass 26 = .ok (.if_icmp .le 6, 3) := by decide +kernel
theorem dX6_pass_29 : decode cX6_pass 29 = .ok (.ldc 210, 2) := by decide +kernel
theorem dX6_pass_31 : decode cX6_pass 31 = .ok (.ireturn, 1) := by decide +kernel
theorem dX6_pass_32 : decode cX6_pass 32 = .ok (.aload_n 0, 1) := by decide +kernel
theorem dX6_pass_33 : decode cX6_pass 33 = .ok (.getfield 12, 3) := by decide +kernel
theorem dX6_pass_36 : decode cX6_pass 36 = .ok (.aload_n 0, 1) := by decide +kernel
theorem dX6_pass_37 : decode cX6_pass 37 = .ok (.getfield 31, 3) := by decide +kernel
theorem dX6_pass_40 : decode cX6_pass 40 = .ok (.invokevirtual 50, 3) := by decide +kernel
theorem dX6_pass_43 : decode cX6_pass 43 = .ok (.aload_n 0, 1) := by decide +kernel
theorem dX6_pass_44 : decode cX6_pass 44 = .ok (.getfield 31, 3) := by decide +kernel
theorem dX6_pass_47 : decode cX6_pass 47 = .ok (.dup, 1) := by decide +kernel
theorem dX6_pass_48 : decode cX6_pass 48 = .ok (.getfield 214, 3) := by decide +kernel
theorem dX6_pass_51 : decode cX6_pass 51 = .ok (.iload_n 1, 1) := by decide +kernel
theorem dX6_pass_52 : decode cX6_pass 52 = .ok (.iadd, 1) := by decide +kernel
theorem dX6_pass_53 : decode cX6_pass 53 = .ok (.putfield 214, 3) := by decide +kernel
theorem dX6_pass_56 : decode cX6_pass 56 = .ok (.aload_n 0, 1) := by decide +kernel
theorem dX6_pass_57 : decode cX6_pass 57 = .ok (.getfield 31, 3) := by decide +kernel
theorem dX6_pass_60 : decode cX6_pass 60 = .ok (.iconst 0, 1) := by decide +kernel
theorem dX6_pass_61 : decode cX6_pass 61 = .ok (.putfield 211, 3) := by decide +kernel
theorem dX6_pass_64 : decode cX6_pass 64 = .ok (.aload_n 0, 1) := by decide +kernel
theorem dX6_pass_65 : decode cX6_pass 65 = .ok (.getfield 31, 3) := by decide +kernel
theorem dX6_pass_68 : decode cX6_pass 68 = .ok (.invokevirtual 217, 3) := by decide +kernel
theorem dX6_pass_71 : decode cX6_pass 71 = .ok (.ireturn, 1) := by decide +kernel
theorem dX6_suspects_0 : decode cX6_suspects 0 = .ok (.aload_n 0, 1) := by decide +kernel
theorem dX6_suspects_1 : decode cX6_suspects 1 = .ok (.getfield 31, 3) := by decide +kernel
theorem dX6_suspects_4 : decode cX6_suspects 4 = .ok (.getfield 197, 3) := by decide +kernel
theorem dX6_suspects_7 : decode cX6_suspects 7 = .ok (.ireturn, 1) := by decide +kernel
theorem dX6_bestDay_0 : decode cX6_bestDay 0 = .ok (.iload_n 1, 1) := by decide +kernel
theorem dX6_bestDay_1 : decode cX6_bestDay 1 = .ok (.invokestatic 148, 3) := by decide +kernel
theorem dX6_bestDay_4 : decode cX6_bestDay 4 = .ok (.ifCond .ne 6, 3) := by decide +kernel
theorem dX6_bestDay_7 : decode cX6_bestDay 7 = .ok (.ldc 74, 2) := by decide +kernel
theorem dX6_bestDay_9 : decode cX6_bestDay 9 = .ok (.ireturn, 1) := by decide +kernel
theorem dX6_bestDay_10 : decode cX6_bestDay 10 = .ok (.aload_n 0, 1) := by decide +kernel
theorem dX6_bestDay_11 : decode cX6_bestDay 11 = .ok (.getfield 38, 3) := by decide +kernel
theorem dX6_bestDay_14 : decode cX6_bestDay 14 = .ok (.invokevirtual 154, 3) := by decide +kernel
theorem dX6_bestDay_17 : decode cX6_bestDay 17 = .ok (.iconst (-1), 1) := by decide +kernel
theorem dX6_bestDay_18 : decode cX6_bestDay 18 = .ok (.istore_n 2, 1) := by decide +kernel
theorem dX6_bestDay_19 : decode cX6_bestDay 19 = .ok (.bipush 12, 2) := by decide +kernel
theorem dX6_bestDay_21 : decode cX6_bestDay 21 = .ok (.istore_n 3, 1) := by decide +kernel
theorem dX6_bestDay_22 : decode cX6_bestDay 22 = .ok (.iconst 0, 1) := by decide +kernel
theorem dX6_bestDay_23 : decode cX6_bestDay 23 = .ok (.istore 4, 2) := by decide +kernel
theorem dX6_bestDay_25 : decode cX6_bestDay 25 = .ok (.iload 4, 2) := by decide +kernel
theorem dX6_bestDay_27 : decode cX6_bestDay 27 = .ok (.bipush 7, 2) := by decide +kernel
theorem dX6_bestDay_29 : decode cX6_bestDay 29 = .ok (.if_icmp .ge 54, 3) := by decide +kernel
theorem dX6_bestDay_32 : decode cX6_bestDay 32 = .ok (.aload_n 0, 1) := by decide +kernel
theorem dX6_bestDay_33 : decode cX6_bestDay 33 = .ok (.getfield 31, 3) := by decide +kernel
theorem dX6_bestDay_36 : decode cX6_bestDay 36 = .ok (.invokevirtual 217, 3) := by decide +kernel
theorem dX6_bestDay_39 : decode cX6_bestDay 39 = .ok (.iload 4, 2) := by decide +kernel
theorem dX6_bestDay_41 : decode cX6_bestDay 41 = .ok (.iadd, 1) := by decide +kernel
theorem dX6_bestDay_42 : decode cX6_bestDay 42 = .ok (.bipush 7, 2) := by decide +kernel
theorem dX6_bestDay_44 : decode cX6_bestDay 44 = .ok (.irem, 1) := by decide +kernel
theorem dX6_bestDay_45 : decode cX6_bestDay 45 = .ok (.istore 5, 2) := by decide +kernel
theorem dX6_bestDay_47 : decode cX6_bestDay 47 = .ok (.aload_n 0, 1) := by decide +kernel
theorem dX6_bestDay_48 : decode cX6_bestDay 48 = .ok (.getfield 38, 3) := by decide +kernel
theorem dX6_bestDay_51 : decode cX6_bestDay 51 = .ok (.iload 5, 2) := by decide +kernel
theorem dX6_bestDay_53 : decode cX6_bestDay 53 = .ok (.aload_n 0, 1) := by decide +kernel
theorem dX6_bestDay_54 : decode cX6_bestDay 54 = .ok (.getfield 31, 3) := by decide +kernel
theorem dX6_bestDay_57 : decode cX6_bestDay 57 = .ok (.getfield 197, 3) := by decide +kernel
theorem dX6_bestDay_60 : decode cX6_bestDay 60 = .ok (.invokevirtual 220, 3) := by decide +kernel
theorem dX6_bestDay_63 : decode cX6_bestDay 63 = .ok (.istore 6, 2) := by decide +kernel
theorem dX6_bestDay_65 : decode cX6_bestDay 65 = .ok (.iload 6, 2) := by decide +kernel
theorem dX6_bestDay_67 : decode cX6_bestDay 67 = .ok (.iload_n 3, 1) := by decide +kernel
theorem dX6_bestDay_68 : decode cX6_bestDay 68 = .ok (.if_icmp .ge 9, 3) := by decide +kernel
theorem dX6_bestDay_71 : decode cX6_bestDay 71 = .ok (.iload 6, 2) := by decide +kernel
theorem dX6_bestDay_73 : decode cX6_bestDay 73 = .ok (.istore_n 3, 1) := by decide +kernel
theorem dX6_bestDay_74 : decode cX6_bestDay 74 = .ok (.iload 5, 2) := by decide +kernel
theorem dX6_bestDay_76 : decode cX6_bestDay 76 = .ok (.istore_n 2, 1) := by decide +kernel
theorem dX6_bestDay_77 : decode cX6_bestDay 77 = .ok (.iinc 4 1, 3) := by decide +kernel
theorem dX6_bestDay_80 : decode cX6_bestDay 80 = .ok (.goto (-55), 3) := by decide +kernel
theorem dX6_bestDay_83 : decode cX6_bestDay 83 = .ok (.iload_n 1, 1) := by decide +kernel
theorem dX6_bestDay_84 : decode cX6_bestDay 84 = .ok (.ifCond .ne 7, 3) := by decide +kernel
theorem dX6_bestDay_87 : decode cX6_bestDay 87 = .ok (.iload_n 2, 1) := by decide +kernel
theorem dX6_bestDay_88 : decode cX6_bestDay 88 = .ok (.goto 4, 3) := by decide +kernel
theorem dX6_bestDay_91 : decode cX6_bestDay 91 = .ok (.iload_n 3, 1) := by decide +kernel
theorem dX6_bestDay_92 : decode cX6_bestDay 92 = .ok (.ireturn, 1) := by decide +kernel
theorem dX6_file_0 : decode cX6_file 0 = .ok (.aload_n 0, 1) := by decide +kernel
theorem dX6_file_1 : decode cX6_file 1 = .ok (.getfield 31, 3) := by decide +kernel
theorem dX6_file_4 : decode cX6_file 4 = .ok (.getfield 42, 3) := by decide +kernel
theorem dX6_file_7 : decode cX6_file 7 = .ok (.iload_n 1, 1) := by decide +kernel
theorem dX6_file_8 : decode cX6_file 8 = .ok (.invokevirtual 103, 3) := by decide +kernel
theorem dX6_file_11 : decode cX6_file 11 = .ok (.ifCond .eq 12, 3) := by decide +kernel
theorem dX6_file_14 : decode cX6_file 14 = .ok (.iload_n 2, 1) := by decide +kernel
theorem dX6_file_15 : decode cX6_file 15 = .ok (.ifCond .lt 8, 3) := by decide +kernel
theorem dX6_file_18 : decode cX6_file 18 = .ok (.iload_n 2, 1) := by decide +kernel
theorem dX6_file_19 : decode cX6_file 19 = .ok (.iconst 5, 1) := by decide +kernel
theorem dX6_file_20 : decode cX6_file 20 = .ok (.if_icmp .lt 6, 3) := by decide +kernel
theorem dX6_file_23 : decode cX6_file 23 = .ok (.ldc 74, 2) := by decide +kernel
theorem dX6_file_25 : decode cX6_file 25 = .ok (.ireturn, 1) := by decide +kernel
theorem dX6_file_26 : decode cX6_file 26 = .ok (.aload_n 0, 1) := by decide +kernel
theorem dX6_file_27 : decode cX6_file 27 = .ok (.getfield 31, 3) := by decide +kernel
theorem dX6_file_30 : decode cX6_file 30 = .ok (.getfield 116, 3) := by decide +kernel
theorem dX6_file_33 : decode cX6_file 33 = .ok (.iload_n 1, 1) := by decide +kernel
theorem dX6_file_34 : decode cX6_file 34 = .ok (.iaload, 1) := by decide +kernel
theorem dX6_file_35 : decode cX6_file 35 = .ok (.iconst (-1), 1) := by decide +kernel
theorem dX6_file_36 : decode cX6_file 36 = .ok (.if_icmp .ne 19, 3) := by decide +kernel
theorem dX6_file_39 : decode cX6_file 39 = .ok (.aload_n 0, 1) := by decide +kernel
theorem dX6_file_40 : decode cX6_file 40 = .ok (.getfield 31, 3) := by decide +kernel
theorem dX6_file_43 : decode cX6_file 43 = .ok (.getfield 42, 3) := by decide +kernel
theorem dX6_file_46 : decode cX6_file 46 = .ok (.getfield 106, 3) := by decide +kernel
theorem dX6_file_49 : decode cX6_file 49 = .ok (.iload_n 1, 1) := by decide +kernel
theorem dX6_file_50 : decode cX6_file 50 = .ok (.iaload, 1) := by decide +kernel
theorem dX6_file_51 : decode cX6_file 51 = .ok (.iload_n 2, 1) := by decide +kernel
theorem dX6_file_52 : decode cX6_file 52 = .ok (.if_icmp .eq 6, 3) := by decide +kernel
theorem dX6_file_55 : decode cX6_file 55 = .ok (.ldc 206, 2) := by decide +kernel
theorem dX6_file_57 : decode cX6_file 57 = .ok (.ireturn, 1) := by decide +kernel
theorem dX6_file_58 : decode cX6_file 58 = .ok (.aload_n 0, 1) := by decide +kernel
theorem dX6_file_59 : decode cX6_file 59 = .ok (.getfield 31, 3) := by decide +kernel
theorem dX6_file_62 : decode cX6_file 62 = .ok (.iload_n 2, 1) := by decide +kernel
theorem dX6_file_63 : decode cX6_file 63 = .ok (.invokevirtual 223, 3) := by decide +kernel
theorem dX6_file_66 : decode cX6_file 66 = .ok (.iconst 3, 1) := by decide +kernel
theorem dX6_file_67 : decode cX6_file 67 = .ok (.if_icmp .lt 6, 3) := by decide +kernel
theorem dX6_file_70 : decode cX6_file 70 = .ok (.ldc 210, 2) := by decide +kernel
theorem dX6_file_72 : decode cX6_file 72 = .ok (.ireturn, 1) := by decide +kernel
theorem dX6_file_73 : decode cX6_file 73 = .ok (.aload_n 0, 1) := by decide +kernel
theorem dX6_file_74 : decode cX6_file 74 = .ok (.getfield 12, 3) := by decide +kernel
theorem dX6_file_77 : decode cX6_file 77 = .ok (.aload_n 0, 1) := by decide +kernel
theorem dX6_file_78 : decode cX6_file 78 = .ok (.getfield 31, 3) := by decide +kernel
theorem dX6_file_81 : decode cX6_file 81 = .ok (.invokevirtual 50, 3) := by decide +kernel
theorem dX6_file_84 : decode cX6_file 84 = .ok (.aload_n 0, 1) := by decide +kernel
theorem dX6_file_85 : decode cX6_file 85 = .ok (.getfield 31, 3) := by decide +kernel
theorem dX6_file_88 : decode cX6_file 88 = .ok (.getfield 116, 3) := by decide +kernel
theorem dX6_file_91 : decode cX6_file 91 = .ok (.iload_n 1, 1) := by decide +kernel
theorem dX6_file_92 : decode cX6_file 92 = .ok (.iload_n 2, 1) := by decide +kernel
theorem dX6_file_93 : decode cX6_file 93 = .ok (.iastore, 1) := by decide +kernel
theorem dX6_file_94 : decode cX6_file 94 = .ok (.aload_n 0, 1) := by decide +kernel
theorem dX6_file_95 : decode cX6_file 95 = .ok (.getfield 31, 3) := by decide +kernel
theorem dX6_file_98 : decode cX6_file 98 = .ok (.iload_n 2, 1) := by decide +kernel
theorem dX6_file_99 : decode cX6_file 99 = .ok (.invokevirtual 223, 3) := by decide +kernel
theorem dX6_file_102 : decode cX6_file 102 = .ok (.ireturn, 1) := by decide +kernel
theorem dX6_count_0 : decode cX6_count 0 = .ok (.iload_n 1, 1) := by decide +kernel
theorem dX6_count_1 : decode cX6_count 1 = .ok (.tableswitch 188 0 15 #[79, 90, 101, 112, 120, 128, 136, 147, 152, 160, 168, 176, 176, 176, 176, 176], 79) := by decide +kernel
theorem dX6_count_80 : decode cX6_count 80 = .ok (.aload_n 0, 1) := by decide +kernel
theorem dX6_count_81 : decode cX6_count 81 = .ok (.getfield 31, 3) := by decide +kernel
theorem dX6_count_84 : decode cX6_count 84 = .ok (.getfield 42, 3) := by decide +kernel
theorem dX6_count_87 : decode cX6_count 87 = .ok (.getfield 226, 3) := by decide +kernel
theorem dX6_count_90 : decode cX6_count 90 = .ok (.ireturn, 1) := by decide +kernel
theorem dX6_count_91 : decode cX6_count 91 = .ok (.aload_n 0, 1) := by decide +kernel
theorem dX6_count_92 : decode cX6_count 92 = .ok (.getfield 31, 3) := by decide +kernel
theorem dX6_count_95 : decode cX6_count 95 = .ok (.getfield 42, 3) := by decide +kernel
theorem dX6_count_98 : decode cX6_count 98 = .ok (.getfield 229, 3) := by decide +kernel
theorem dX6_count_101 : decode cX6_count 101 = .ok (.ireturn, 1) := by decide +kernel
theorem dX6_count_102 : decode cX6_count 102 = .ok (.aload_n 0, 1) := by decide +kernel
theorem dX6_count_103 : decode cX6_count 103 = .ok (.getfield 31, 3) := by decide +kernel
theorem dX6_count_106 : decode cX6_count 106 = .ok (.getfield 42, 3) := by decide +kernel
theorem dX6_count_109 : decode cX6_count 109 = .ok (.getfield 163, 3) := by decide +kernel
theorem dX6_count_112 : decode cX6_count 112 = .ok (.ireturn, 1) := by decide +kernel
theorem dX6_count_113 : decode cX6_count 113 = .ok (.aload_n 0, 1) := by decide +kernel
theorem dX6_count_114 : decode cX6_count 114 = .ok (.getfield 31, 3) := by decide +kernel
theorem dX6_count_117 : decode cX6_count 117 = .ok (.getfield 214, 3) := by decide +kernel
theorem dX6_count_120 : decode cX6_count 120 = .ok (.ireturn, 1) := by decide +kernel
theorem dX6_count_121 : decode cX6_count 121 = .ok (.aload_n 0, 1) := by decide +kernel
theorem dX6_count_122 : decode cX6_count 122 = .ok (.getfield 31, 3) := by decide +kernel
theorem dX6_count_125 : decode cX6_count 125 = .ok (.invokevirtual 217, 3) := by decide +kernel
theorem dX6_count_128 : decode cX6_count 128 = .ok (.ireturn, 1) := by decide +kernel
theorem dX6_count_129 : decode cX6_count 129 = .ok (.aload_n 0, 1) := by decide +kernel
theorem dX6_count_130 : decode cX6_count 130 = .ok (.getfield 31, 3) := by decide +kernel
theorem dX6_count_133 : decode cX6_count 133 = .ok (.getfield 207, 3) := by decide +kernel
theorem dX6_count_136 : decode cX6_count 136 = .ok (.ireturn, 1) := by decide +kernel
theorem dX6_count_137 : decode cX6_count 137 = .ok (.aload_n 0, 1) := by decide +kernel
theorem dX6_count_138 : decode cX6_count 138 = .ok (.getfield 31, 3) := by decide +kernel
theorem dX6_count_141 : decode cX6_count 141 = .ok (.invokevirtual 95, 3) := by decide +kernel
theorem dX6_count_144 : decode cX6_count 144 = .ok (.invokestatic 186, 3) := by decide +kernel
theorem dX6_count_147 : decode cX6_count 147 = .ok (.ireturn, 1) := by decide +kernel
theorem dX6_count_148 : decode cX6_count 148 = .ok (.aload_n 0, 1) := by decide +kernel
theorem dX6_count_149 : decode cX6_count 149 = .ok (.invokevirtual 232, 3) := by decide +kernel
theorem dX6_count_152 : decode cX6_count 152 = .ok (.ireturn, 1) := by decide +kernel
theorem dX6_count_153 : decode cX6_count 153 = .ok (.aload_n 0, 1) := by decide +kernel
theorem dX6_count_154 : decode cX6_count 154 = .ok (.getfield 31, 3) := by decide +kernel
theorem dX6_count_157 : decode cX6_count 157 = .ok (.getfield 200, 3) := by decide +kernel
theorem dX6_count_160 : decode cX6_count 160 = .ok (.ireturn, 1) := by decide +kernel
theorem dX6_count_161 : decode cX6_count 161 = .ok (.aload_n 0, 1) := by decide +kernel
theorem dX6_count_162 : decode cX6_count 162 = .ok (.getfield 12, 3) := by decide +kernel
theorem dX6_count_165 : decode cX6_count 165 = .ok (.getfield 235, 3) := by decide +kernel
theorem dX6_count_168 : decode cX6_count 168 = .ok (.ireturn, 1) := by decide +kernel
theorem dX6_count_169 : decode cX6_count 169 = .ok (.aload_n 0, 1) := by decide +kernel
theorem dX6_count_170 : decode cX6_count 170 = .ok (.getfield 19, 3) := by decide +kernel
theorem dX6_count_173 : decode cX6_count 173 = .ok (.getfield 238, 3) := by decide +kernel
theorem dX6_count_176 : decode cX6_count 176 = .ok (.ireturn, 1) := by decide +kernel
theorem dX6_count_177 : decode cX6_count 177 = .ok (.aload_n 0, 1) := by decide +kernel
theorem dX6_count_178 : decode cX6_count 178 = .ok (.getfield 31, 3) := by decide +kernel
theorem dX6_count_181 : decode cX6_count 181 = .ok (.iload_n 1, 1) := by decide +kernel
theorem dX6_count_182 : decode cX6_count 182 = .ok (.bipush 11, 2) := by decide +kernel
theorem dX6_count_184 : decode cX6_count 184 = .ok (.isub, 1) := by decide +kernel
theorem dX6_count_185 : decode cX6_count 185 = .ok (.invokevirtual 223, 3) := by decide +kernel
theorem dX6_count_188 : decode cX6_count 188 = .ok (.ireturn, 1) := by decide +kernel
theorem dX6_count_189 : decode cX6_count 189 = .ok (.ldc 74, 2) := by decide +kernel
theorem dX6_count_191 : decode cX6_count 191 = .ok (.ireturn, 1) := by decide +kernel
theorem dX6_undo_0 : decode cX6_undo 0 = .ok (.aload_n 0, 1) := by decide +kernel
theorem dX6_undo_1 : decode cX6_undo 1 = .ok (.getfield 12, 3) := by decide +kernel
theorem dX6_undo_4 : decode cX6_undo 4 = .ok (.getfield 235, 3) := by decide +kernel
theorem dX6_undo_7 : decode cX6_undo 7 = .ok (.ifCond .ne 6, 3) := by decide +kernel
theorem dX6_undo_10 : decode cX6_undo 10 = .ok (.ldc 206, 2) := by decide +kernel
theorem dX6_undo_12 : decode cX6_undo 12 = .ok (.ireturn, 1) := by decide +kernel
theorem dX6_undo_13 : decode cX6_undo 13 = .ok (.aload_n 0, 1) := by decide +kernel
theorem dX6_undo_14 : decode cX6_undo 14 = .ok (.getfield 12, 3) := by decide +kernel
theorem dX6_undo_17 : decode cX6_undo 17 = .ok (.aload_n 0, 1) := by decide +kernel
theorem dX6_undo_18 : decode cX6_undo 18 = .ok (.getfield 31, 3) := by decide +kernel
theorem dX6_undo_21 : decode cX6_undo 21 = .ok (.invokevirtual 241, 3) := by decide +kernel
theorem dX6_undo_24 : decode cX6_undo 24 = .ok (.aload_n 0, 1) := by decide +kernel
theorem dX6_undo_25 : decode cX6_undo 25 = .ok (.getfield 12, 3) := by decide +kernel
theorem dX6_undo_28 : decode cX6_undo 28 = .ok (.getfield 235, 3) := by decide +kernel
theorem dX6_undo_31 : decode cX6_undo 31 = .ok (.ireturn, 1) := by decide +kernel
theorem dX6_type_0 : decode cX6_type 0 = .ok (.iload_n 1, 1) := by decide +kernel
theorem dX6_type_1 : decode cX6_type 1 = .ok (.bipush 32, 2) := by decide +kernel
theorem dX6_type_3 : decode cX6_type 3 = .ok (.if_icmp .lt 9, 3) := by decide +kernel
theorem dX6_type_6 : decode cX6_type 6 = .ok (.iload_n 1, 1) := by decide +kernel
theorem dX6_type_7 : decode cX6_type 7 = .ok (.bipush 126, 2) := by decide +kernel
theorem dX6_type_9 : decode cX6_type 9 = .ok (.if_icmp .le 6, 3) := by decide +kernel
theorem dX6_type_12 : decode cX6_type 12 = .ok (.ldc 74, 2) := by decide +kernel
theorem dX6_type_14 : decode cX6_type 14 = .ok (.ireturn, 1) := by decide +kernel
theorem dX6_type_15 : decode cX6_type 15 = .ok (.aload_n 0, 1) := by decide +kernel
theorem dX6_type_16 : decode cX6_type 16 = .ok (.getfield 19, 3) := by decide +kernel
theorem dX6_type_19 : decode cX6_type 19 = .ok (.getfield 238, 3) := by decide +kernel
theorem dX6_type_22 : decode cX6_type 22 = .ok (.bipush 100, 2) := by decide +kernel
theorem dX6_type_24 : decode cX6_type 24 = .ok (.if_icmp .lt 6, 3) := by decide +kernel
theorem dX6_type_27 : decode cX6_type 27 = .ok (.ldc 210, 2) := by decide +kernel
theorem dX6_type_29 : decode cX6_type 29 = .ok (.ireturn, 1) := by decide +kernel
theorem dX6_type_30 : decode cX6_type 30 = .ok (.aload_n 0, 1) := by decide +kernel
theorem dX6_type_31 : decode cX6_type 31 = .ok (.getfield 19, 3) := by decide +kernel
theorem dX6_type_34 : decode cX6_type 34 = .ok (.iload_n 1, 1) := by decide +kernel
theorem dX6_type_35 : decode cX6_type 35 = .ok (.i2c, 1) := by decide +kernel
theorem dX6_type_36 : decode cX6_type 36 = .ok (.invokevirtual 244, 3) := by decide +kernel
theorem dX6_type_39 : decode cX6_type 39 = .ok (.aload_n 0, 1) := by decide +kernel
theorem dX6_type_40 : decode cX6_type 40 = .ok (.getfield 19, 3) := by decide +kernel
theorem dX6_type_43 : decode cX6_type 43 = .ok (.getfield 238, 3) := by decide +kernel
theorem dX6_type_46 : decode cX6_type 46 = .ok (.ireturn, 1) := by decide +kernel
theorem dX6_clearText_0 : decode cX6_clearText 0 = .ok (.aload_n 0, 1) := by decide +kernel
theorem dX6_clearText_1 : decode cX6_clearText 1 = .ok (.getfield 19, 3) := by decide +kernel
theorem dX6_clearText_4 : decode cX6_clearText 4 = .ok (.getfield 238, 3) := by decide +kernel
theorem dX6_clearText_7 : decode cX6_clearText 7 = .ok (.istore_n 1, 1) := by decide +kernel
theorem dX6_clearText_8 : decode cX6_clearText 8 = .ok (.aload_n 0, 1) := by decide +kernel
theorem dX6_clearText_9 : decode cX6_clearText 9 = .ok (.getfield 19, 3) := by decide +kernel
theorem dX6_clearText_12 : decode cX6_clearText 12 = .ok (.iconst 0, 1) := by decide +kernel
theorem dX6_clearText_13 : decode cX6_clearText 13 = .ok (.putfield 238, 3) := by decide +kernel
theorem dX6_clearText_16 : decode cX6_clearText 16 = .ok (.iload_n 1, 1) := by decide +kernel
theorem dX6_clearText_17 : decode cX6_clearText 17 = .ok (.ireturn, 1) := by decide +kernel
theorem dX6_place_0 : decode cX6_place 0 = .ok (.iload_n 1, 1) := by decide +kernel
theorem dX6_place_1 : decode cX6_place 1 = .ok (.invokestatic 148, 3) := by decide +kernel
theorem dX6_place_4 : decode cX6_place 4 = .ok (.ifCond .ne 6, 3) := by decide +kernel
theorem dX6_place_7 : decode cX6_place 7 = .ok (.ldc 74, 2) := by decide +kernel
theorem dX6_place_9 : decode cX6_place 9 = .ok (.ireturn, 1) := by decide +kernel
theorem dX6_place_10 : decode cX6_place 10 = .ok (.aload_n 0, 1) := by decide +kernel
theorem dX6_place_11 : decode cX6_place 11 = .ok (.getfield 19, 3) := by decide +kernel
theorem dX6_place_14 : decode cX6_place 14 = .ok (.aload_n 0, 1) := by decide +kernel
theorem dX6_place_15 : decode cX6_place 15 = .ok (.getfield 31, 3) := by decide +kernel
theorem dX6_place_18 : decode cX6_place 18 = .ok (.getfield 42, 3) := by decide +kernel
theorem dX6_place_21 : decode cX6_place 21 = .ok (.invokevirtual 248, 3) := by decide +kernel
theorem dX6_place_24 : decode cX6_place 24 = .ok (.aload_n 0, 1) := by decide +kernel
theorem dX6_place_25 : decode cX6_place 25 = .ok (.getfield 19, 3) := by decide +kernel
theorem dX6_place_28 : decode cX6_place 28 = .ok (.getfield 251, 3) := by decide +kernel
theorem dX6_place_31 : decode cX6_place 31 = .ok (.ifCond .ne 6, 3) := by decide +kernel
theorem dX6_place_34 : decode cX6_place 34 = .ok (.ldc 115, 2) := by decide +kernel
theorem dX6_place_36 : decode cX6_place 36 = .ok (.ireturn, 1) := by decide +kernel
theorem dX6_place_37 : decode cX6_place 37 = .ok (.iload_n 1, 1) := by decide +kernel
theorem dX6_place_38 : decode cX6_place 38 = .ok (.ifCond .ne 13, 3) := by decide +kernel
theorem dX6_place_41 : decode cX6_place 41 = .ok (.aload_n 0, 1) := by decide +kernel
theorem dX6_place_42 : decode cX6_place 42 = .ok (.getfield 19, 3) := by decide +kernel
theorem dX6_place_45 : decode cX6_place 45 = .ok (.getfield 254, 3) := by decide +kernel
theorem dX6_place_48 : decode cX6_place 48 = .ok (.goto 10, 3) := by decide +kernel
theorem dX6_place_51 : decode cX6_place 51 = .ok (.aload_n 0, 1) := by decide +kernel
theorem dX6_place_52 : decode cX6_place 52 = .ok (.getfield 19, 3) := by decide +kernel
theorem dX6_place_55 : decode cX6_place 55 = .ok (.getfield 251, 3) := by decide +kernel
theorem dX6_place_58 : decode cX6_place 58 = .ok (.ireturn, 1) := by decide +kernel
theorem dX6_run_0 : decode cX6_run 0 = .ok (.aload_n 0, 1) := by decide +kernel
theorem dX6_run_1 : decode cX6_run 1 = .ok (.getfield 19, 3) := by decide +kernel
theorem dX6_run_4 : decode cX6_run 4 = .ok (.aload_n 0, 1) := by decide +kernel
theorem dX6_run_5 : decode cX6_run 5 = .ok (.getfield 31, 3) := by decide +kernel
theorem dX6_run_8 : decode cX6_run 8 = .ok (.getfield 42, 3) := by decide +kernel
theorem dX6_run_11 : decode cX6_run 11 = .ok (.invokevirtual 248, 3) := by decide +kernel
theorem dX6_run_14 : decode cX6_run 14 = .ok (.aload_n 0, 1) := by decide +kernel
theorem dX6_run_15 : decode cX6_run 15 = .ok (.getfield 19, 3) := by decide +kernel
theorem dX6_run_18 : decode cX6_run 18 = .ok (.getfield 251, 3) := by decide +kernel
theorem dX6_run_21 : decode cX6_run 21 = .ok (.ifCond .eq 6, 3) := by decide +kernel
theorem dX6_run_24 : decode cX6_run 24 = .ok (.ldc 206, 2) := by decide +kernel
theorem dX6_run_26 : decode cX6_run 26 = .ok (.ireturn, 1) := by decide +kernel
theorem dX6_run_27 : decode cX6_run 27 = .ok (.aload_n 0, 1) := by decide +kernel
theorem dX6_run_28 : decode cX6_run 28 = .ok (.getfield 12, 3) := by decide +kernel
theorem dX6_run_31 : decode cX6_run 31 = .ok (.aload_n 0, 1) := by decide +kernel
theorem dX6_run_32 : decode cX6_run 32 = .ok (.getfield 31, 3) := by decide +kernel
theorem dX6_run_35 : decode cX6_run 35 = .ok (.invokevirtual 50, 3) := by decide +kernel
theorem dX6_run_38 : decode cX6_run 38 = .ok (.aload_n 0, 1) := by decide +kernel
theorem dX6_run_39 : decode cX6_run 39 = .ok (.getfield 31, 3) := by decide +kernel
theorem dX6_run_42 : decode cX6_run 42 = .ok (.getfield 42, 3) := by decide +kernel
theorem dX6_run_45 : decode cX6_run 45 = .ok (.aload_n 0, 1) := by decide +kernel
theorem dX6_run_46 : decode cX6_run 46 = .ok (.getfield 19, 3) := by decide +kernel
theorem dX6_run_49 : decode cX6_run 49 = .ok (.getfield 257, 3) := by decide +kernel
theorem dX6_run_52 : decode cX6_run 52 = .ok (.invokevirtual 260, 3) := by decide +kernel
theorem dX6_run_55 : decode cX6_run 55 = .ok (.aload_n 0, 1) := by decide +kernel
theorem dX6_run_56 : decode cX6_run 56 = .ok (.getfield 19, 3) := by decide +kernel
theorem dX6_run_59 : decode cX6_run 59 = .ok (.getfield 263, 3) := by decide +kernel
theorem dX6_run_62 : decode cX6_run 62 = .ok (.ireturn, 1) := by decide +kernel
theorem dX6_reachedNow_0 : decode cX6_reachedNow 0 = .ok (.aload_n 0, 1) := by decide +kernel
theorem dX6_reachedNow_1 : decode cX6_reachedNow 1 = .ok (.getfield 38, 3) := by decide +kernel
theorem dX6_reachedNow_4 : decode cX6_reachedNow 4 = .ok (.bipush 10, 2) := by decide +kernel
theorem dX6_reachedNow_6 : decode cX6_reachedNow 6 = .ok (.invokevirtual 128, 3) := by decide +kernel
theorem dX6_reachedNow_9 : decode cX6_reachedNow 9 = .ok (.astore_n 1, 1) := by decide +kernel
theorem dX6_reachedNow_10 : decode cX6_reachedNow 10 = .ok (.aload_n 1, 1) := by decide +kernel
theorem dX6_reachedNow_11 : decode cX6_reachedNow 11 = .ok (.aload_n 0, 1) := by decide +kernel
theorem dX6_reachedNow_12 : decode cX6_reachedNow 12 = .ok (.getfield 31, 3) := by decide +kernel
theorem dX6_reachedNow_15 : decode cX6_reachedNow 15 = .ok (.invokevirtual 95, 3) := by decide +kernel
theorem dX6_reachedNow_18 : decode cX6_reachedNow 18 = .ok (.invokevirtual 135, 3) := by decide +kernel
theorem dX6_reachedNow_21 : decode cX6_reachedNow 21 = .ok (.aload_n 1, 1) := by decide +kernel
theorem dX6_reachedNow_22 : decode cX6_reachedNow 22 = .ok (.getfield 141, 3) := by decide +kernel
theorem dX6_reachedNow_25 : decode cX6_reachedNow 25 = .ok (.invokestatic 186, 3) := by decide +kernel
theorem dX6_reachedNow_28 : decode cX6_reachedNow 28 = .ok (.ireturn, 1) := by decide +kernel
theorem dX6_isFaultOrNone_0 : decode cX6_isFaultOrNone 0 = .ok (.iload_n 1, 1) := by decide +kernel
theorem dX6_isFaultOrNone_1 : decode cX6_isFaultOrNone 1 = .ok (.iconst (-1), 1) := by decide +kernel
theorem dX6_isFaultOrNone_2 : decode cX6_isFaultOrNone 2 = .ok (.if_icmp .eq 17, 3) := by decide +kernel
theorem dX6_isFaultOrNone_5 : decode cX6_isFaultOrNone 5 = .ok (.aload_n 0, 1) := by decide +kernel
theorem dX6_isFaultOrNone_6 : decode cX6_isFaultOrNone 6 = .ok (.getfield 31, 3) := by decide +kernel
theorem dX6_isFaultOrNone_9 : decode cX6_isFaultOrNone 9 = .ok (.getfield 42, 3) := by decide +kernel
theorem dX6_isFaultOrNone_12 : decode cX6_isFaultOrNone 12 = .ok (.iload_n 1, 1) := by decide +kernel
theorem dX6_isFaultOrNone_13 : decode cX6_isFaultOrNone 13 = .ok (.invokevirtual 103, 3) := by decide +kernel
theorem dX6_isFaultOrNone_16 : decode cX6_isFaultOrNone 16 = .ok (.ifCond .eq 7, 3) := by decide +kernel
theorem dX6_isFaultOrNone_19 : decode cX6_isFaultOrNone 19 = .ok (.iconst 1, 1) := by decide +kernel
theorem dX6_isFaultOrNone_20 : decode cX6_isFaultOrNone 20 = .ok (.goto 4, 3) := by decide +kernel
theorem dX6_isFaultOrNone_23 : decode cX6_isFaultOrNone 23 = .ok (.iconst 0, 1) := by decide +kernel
theorem dX6_isFaultOrNone_24 : decode cX6_isFaultOrNone 24 = .ok (.ireturn, 1) := by decide +kernel
theorem dX6_suspectFor_0 : decode cX6_suspectFor 0 = .ok (.iload_n 0, 1) := by decide +kernel
theorem dX6_suspectFor_1 : decode cX6_suspectFor 1 = .ok (.iconst (-1), 1) := by decide +kernel
theorem dX6_suspectFor_2 : decode cX6_suspectFor 2 = .ok (.if_icmp .ne 8, 3) := by decide +kernel
theorem dX6_suspectFor_5 : decode cX6_suspectFor 5 = .ok (.bipush 10, 2) := by decide +kernel
theorem dX6_suspectFor_7 : decode cX6_suspectFor 7 = .ok (.goto 4, 3) := by decide +kernel
theorem dX6_suspectFor_10 : decode cX6_suspectFor 10 = .ok (.iload_n 0, 1) := by decide +kernel
theorem dX6_suspectFor_11 : decode cX6_suspectFor 11 = .ok (.ireturn, 1) := by decide +kernel
theorem dX6_foundOrNot_0 : decode cX6_foundOrNot 0 = .ok (.iload_n 0, 1) := by decide +kernel
theorem dX6_foundOrNot_1 : decode cX6_foundOrNot 1 = .ok (.iconst (-1), 1) := by decide +kernel
theorem dX6_foundOrNot_2 : decode cX6_foundOrNot 2 = .ok (.if_icmp .ne 8, 3) := by decide +kernel
theorem dX6_foundOrNot_5 : decode cX6_foundOrNot 5 = .ok (.ldc 115, 2) := by decide +kernel
theorem dX6_foundOrNot_7 : decode cX6_foundOrNot 7 = .ok (.goto 4, 3) := by decide +kernel
theorem dX6_foundOrNot_10 : decode cX6_foundOrNot 10 = .ok (.iload_n 0, 1) := by decide +kernel
theorem dX6_foundOrNot_11 : decode cX6_foundOrNot 11 = .ok (.ireturn, 1) := by decide +kernel
theorem dX6_sizeOrSet_0 : decode cX6_sizeOrSet 0 = .ok (.iload_n 1, 1) := by decide +kernel
theorem dX6_sizeOrSet_1 : decode cX6_sizeOrSet 1 = .ok (.ifCond .ne 10, 3) := by decide +kernel
theorem dX6_sizeOrSet_4 : decode cX6_sizeOrSet 4 = .ok (.iload_n 0, 1) := by decide +kernel
theorem dX6_sizeOrSet_5 : decode cX6_sizeOrSet 5 = .ok (.invokestatic 186, 3) := by decide +kernel
theorem dX6_sizeOrSet_8 : decode cX6_sizeOrSet 8 = .ok (.goto 4, 3) := by decide +kernel
theorem dX6_sizeOrSet_11 : decode cX6_sizeOrSet 11 = .ok (.iload_n 0, 1) := by decide +kernel
theorem dX6_sizeOrSet_12 : decode cX6_sizeOrSet 12 = .ok (.ireturn, 1) := by decide +kernel
theorem dX6_isPin_0 : decode cX6_isPin 0 = .ok (.iload_n 0, 1) := by decide +kernel
theorem dX6_isPin_1 : decode cX6_isPin 1 = .ok (.ifCond .lt 13, 3) := by decide +kernel
theorem dX6_isPin_4 : decode cX6_isPin 4 = .ok (.iload_n 0, 1) := by decide +kernel
theorem dX6_isPin_5 : decode cX6_isPin 5 = .ok (.bipush 16, 2) := by decide +kernel
theorem dX6_isPin_7 : decode cX6_isPin 7 = .ok (.if_icmp .ge 7, 3) := by decide +kernel
theorem dX6_isPin_10 : decode cX6_isPin 10 = .ok (.iconst 1, 1) := by decide +kernel
theorem dX6_isPin_11 : decode cX6_isPin 11 = .ok (.goto 4, 3) := by decide +kernel
theorem dX6_isPin_14 : decode cX6_isPin 14 = .ok (.iconst 0, 1) := by decide +kernel
theorem dX6_isPin_15 : decode cX6_isPin 15 = .ok (.ireturn, 1) := by decide +kernel
theorem dX6_isDay_0 : decode cX6_isDay 0 = .ok (.iload_n 0, 1) := by decide +kernel
theorem dX6_isDay_1 : decode cX6_isDay 1 = .ok (.ifCond .lt 13, 3) := by decide +kernel
theorem dX6_isDay_4 : decode cX6_isDay 4 = .ok (.iload_n 0, 1) := by decide +kernel
theorem dX6_isDay_5 : decode cX6_isDay 5 = .ok (.bipush 7, 2) := by decide +kernel
theorem dX6_isDay_7 : decode cX6_isDay 7 = .ok (.if_icmp .ge 7, 3) := by decide +kernel
theorem dX6_isDay_10 : decode cX6_isDay 10 = .ok (.iconst 1, 1) := by decide +kernel
theorem dX6_isDay_11 : decode cX6_isDay 11 = .ok (.goto 4, 3) := by decide +kernel
theorem dX6_isDay_14 : decode cX6_isDay 14 = .ok (.iconst 0, 1) := by decide +kernel
theorem dX6_isDay_15 : decode cX6_isDay 15 = .ok (.ireturn, 1) := by decide +kernel
theorem dX6_isZeroOrOne_0 : decode cX6_isZeroOrOne 0 = .ok (.iload_n 0, 1) := by decide +kernel
theorem dX6_isZeroOrOne_1 : decode cX6_isZeroOrOne 1 = .ok (.ifCond .eq 8, 3) := by decide +kernel
theorem dX6_isZeroOrOne_4 : decode cX6_isZeroOrOne 4 = .ok (.iload_n 0, 1) := by decide +kernel
theorem dX6_isZeroOrOne_5 : decode cX6_isZeroOrOne 5 = .ok (.iconst 1, 1) := by decide +kernel
theorem dX6_isZeroOrOne_6 : decode cX6_isZeroOrOne 6 = .ok (.if_icmp .ne 7, 3) := by decide +kernel
theorem dX6_isZeroOrOne_9 : decode cX6_isZeroOrOne 9 = .ok (.iconst 1, 1) := by decide +kernel
theorem dX6_isZeroOrOne_10 : decode cX6_isZeroOrOne 10 = .ok (.goto 4, 3) := by decide +kernel
theorem dX6_isZeroOrOne_13 : decode cX6_isZeroOrOne 13 = .ok (.iconst 0, 1) := by decide +kernel
theorem dX6_isZeroOrOne_14 : decode cX6_isZeroOrOne 14 = .ok (.ireturn, 1) := by decide +kernel
theorem dX6_hasBit_0 : decode cX6_hasBit 0 = .ok (.iload_n 0, 1) := by decide +kernel
theorem dX6_hasBit_1 : decode cX6_hasBit 1 = .ok (.iload_n 1, 1) := by decide +kernel
theorem dX6_hasBit_2 : decode cX6_hasBit 2 = .ok (.ishr, 1) := by decide +kernel
theorem dX6_hasBit_3 : decode cX6_hasBit 3 = .ok (.iconst 1, 1) := by decide +kernel
theorem dX6_hasBit_4 : decode cX6_hasBit 4 = .ok (.iand, 1) := by decide +kernel
theorem dX6_hasBit_5 : decode cX6_hasBit 5 = .ok (.iconst 1, 1) := by decide +kernel
theorem dX6_hasBit_6 : decode cX6_hasBit 6 = .ok (.if_icmp .ne 7, 3) := by decide +kernel
theorem dX6_hasBit_9 : decode cX6_hasBit 9 = .ok (.iconst 1, 1) := by decide +kernel
theorem dX6_hasBit_10 : decode cX6_hasBit 10 = .ok (.goto 4, 3) := by decide +kernel
theorem dX6_hasBit_13 : decode cX6_hasBit 13 = .ok (.iconst 0, 1) := by decide +kernel
theorem dX6_hasBit_14 : decode cX6_hasBit 14 = .ok (.ireturn, 1) := by decide +kernel
theorem dX6_bitsOf_0 : decode cX6_bitsOf 0 = .ok (.fload_n 0, 1) := by decide +kernel
theorem dX6_bitsOf_1 : decode cX6_bitsOf 1 = .ok (.fconst 0, 1) := by decide +kernel
theorem dX6_bitsOf_2 : decode cX6_bitsOf 2 = .ok (.fcmp .g, 1) := by decide +kernel
theorem dX6_bitsOf_3 : decode cX6_bitsOf 3 = .ok (.ifCond .gt 5, 3) := by decide +kernel
theorem dX6_bitsOf_6 : decode cX6_bitsOf 6 = .ok (.iconst 0, 1) := by decide +kernel
theorem dX6_bitsOf_7 : decode cX6_bitsOf 7 = .ok (.ireturn, 1) := by decide +kernel
theorem dX6_bitsOf_8 : decode cX6_bitsOf 8 = .ok (.fload_n 0, 1) := by decide +kernel
theorem dX6_bitsOf_9 : decode cX6_bitsOf 9 = .ok (.fstore_n 1, 1) := by decide +kernel
theorem dX6_bitsOf_10 : decode cX6_bitsOf 10 = .ok (.bipush 127, 2) := by decide +kernel
theorem dX6_bitsOf_12 : decode cX6_bitsOf 12 = .ok (.istore_n 2, 1) := by decide +kernel
theorem dX6_bitsOf_13 : decode cX6_bitsOf 13 = .ok (.fload_n 1, 1) := by decide +kernel
theorem dX6_bitsOf_14 : decode cX6_bitsOf 14 = .ok (.fconst 1, 1) := by decide +kernel
theorem dX6_bitsOf_15 : decode cX6_bitsOf 15 = .ok (.fcmp .g, 1) := by decide +kernel
theorem dX6_bitsOf_16 : decode cX6_bitsOf 16 = .ok (.ifCond .ge 18, 3) := by decide +kernel
theorem dX6_bitsOf_19 : decode cX6_bitsOf 19 = .ok (.iload_n 2, 1) := by decide +kernel
theorem dX6_bitsOf_20 : decode cX6_bitsOf 20 = .ok (.iconst 1, 1) := by decide +kernel
theorem dX6_bitsOf_21 : decode cX6_bitsOf 21 = .ok (.if_icmp .le 13, 3) := by decide +kernel
theorem dX6_bitsOf_24 : decode cX6_bitsOf 24 = .ok (.fload_n 1, 1) := by decide +kernel
theorem dX6_bitsOf_25 : decode cX6_bitsOf 25 = .ok (.fconst 2, 1) := by decide +kernel
theorem dX6_bitsOf_26 : decode cX6_bitsOf 26 = .ok (.fmul, 1) := by decide +kernel
theorem dX6_bitsOf_27 : decode cX6_bitsOf 27 = .ok (.fstore_n 1, 1) := by decide +kernel
theorem dX6_bitsOf_28 : decode cX6_bitsOf 28 = .ok (.iinc 2 (-1), 3) := by decide +kernel
theorem dX6_bitsOf_31 : decode cX6_bitsOf 31 = .ok (.goto (-18), 3) := by decide +kernel
theorem dX6_bitsOf_34 : decode cX6_bitsOf 34 = .ok (.iload_n 2, 1) := by decide +kernel
theorem dX6_bitsOf_35 : decode cX6_bitsOf 35 = .ok (.bipush 23, 2) := by decide +kernel
theorem dX6_bitsOf_37 : decode cX6_bitsOf 37 = .ok (.ishl, 1) := by decide +kernel
theorem dX6_bitsOf_38 : decode cX6_bitsOf 38 = .ok (.fload_n 1, 1) := by decide +kernel
theorem dX6_bitsOf_39 : decode cX6_bitsOf 39 = .ok (.fconst 1, 1) := by decide +kernel
theorem dX6_bitsOf_40 : decode cX6_bitsOf 40 = .ok (.fsub, 1) := by decide +kernel
theorem dX6_bitsOf_41 : decode cX6_bitsOf 41 = .ok (.ldc_w 266, 3) := by decide +kernel
theorem dX6_bitsOf_44 : decode cX6_bitsOf 44 = .ok (.fmul, 1) := by decide +kernel
theorem dX6_bitsOf_45 : decode cX6_bitsOf 45 = .ok (.f2i, 1) := by decide +kernel
theorem dX6_bitsOf_46 : decode cX6_bitsOf 46 = .ok (.iadd, 1) := by decide +kernel
theorem dX6_bitsOf_47 : decode cX6_bitsOf 47 = .ok (.ireturn, 1) := by decide +kernel
theorem dX7_init_0 : decode cX7_init 0 = .ok (.aload_n 0, 1) := by decide +kernel
theorem dX7_init_1 : decode cX7_init 1 = .ok (.invokespecial 1, 3) := by decide +kernel
theorem dX7_init_4 : decode cX7_init 4 = .ok (.aload_n 0, 1) := by decide +kernel
theorem dX7_init_5 : decode cX7_init 5 = .ok (.bipush 88, 2) := by decide +kernel
theorem dX7_init_7 : decode cX7_init 7 = .ok (.newarray .int, 2) := by decide +kernel
theorem dX7_init_9 : decode cX7_init 9 = .ok (.putfield 7, 3) := by decide +kernel
theorem dX7_init_12 : decode cX7_init 12 = .ok (.aload_n 0, 1) := by decide +kernel
theorem dX7_init_13 : decode cX7_init 13 = .ok (.sipush 352, 3) := by decide +kernel
theorem dX7_init_16 : decode cX7_init 16 = .ok (.newarray .int, 2) := by decide +kernel
theorem dX7_init_18 : decode cX7_init 18 = .ok (.putfield 13, 3) := by decide +kernel
theorem dX7_init_21 : decode cX7_init 21 = .ok (.aload_n 0, 1) := by decide +kernel
theorem dX7_init_22 : decode cX7_init 22 = .ok (.bipush 88, 2) := by decide +kernel
theorem dX7_init_24 : decode cX7_init 24 = .ok (.newarray .int, 2) := by decide +kernel
theorem dX7_init_26 : decode cX7_init 26 = .ok (.putfield 16, 3) := by decide +kernel
theorem dX7_init_29 : decode cX7_init 29 = .ok (.aload_n 0, 1) := by decide +kernel
theorem dX7_init_30 : decode cX7_init 30 = .ok (.sipush 363, 3) := by decide +kernel
theorem dX7_init_33 : decode cX7_init 33 = .ok (.newarray .int, 2) := by decide +kernel
theorem dX7_init_35 : decode cX7_init 35 = .ok (.putfield 19, 3) := by decide +kernel
theorem dX7_init_38 : decode cX7_init 38 = .ok (.aload_n 0, 1) := by decide +kernel
theorem dX7_init_39 : decode cX7_init 39 = .ok (.bipush 77, 2) := by decide +kernel
theorem dX7_init_41 : decode cX7_init 41 = .ok (.newarray .int, 2) := by decide +kernel
theorem dX7_init_43 : decode cX7_init 43 = .ok (.putfield 22, 3) := by decide +kernel
theorem dX7_init_46 : decode cX7_init 46 = .ok (.aload_n 0, 1) := by decide +kernel
theorem dX7_init_47 : decode cX7_init 47 = .ok (.bipush 100, 2) := by decide +kernel
theorem dX7_init_49 : decode cX7_init 49 = .ok (.newarray .int, 2) := by decide +kernel
theorem dX7_init_51 : decode cX7_init 51 = .ok (.putfield 25, 3) := by decide +kernel
theorem dX7_init_54 : decode cX7_init 54 = .ok (.aload_n 0, 1) := by decide +kernel
theorem dX7_init_55 : decode cX7_init 55 = .ok (.bipush 9, 2) := by decide +kernel
theorem dX7_init_57 : decode cX7_init 57 = .ok (.newarray .int, 2) := by decide +kernel
theorem dX7_init_59 : decode cX7_init 59 = .ok (.putfield 28, 3) := by decide +kernel
theorem dX7_init_62 : decode cX7_init 62 = .ok (.aload_n 0, 1) := by decide +kernel
theorem dX7_init_63 : decode cX7_init 63 = .ok (.getfield 7, 3) := by decide +kernel
theorem dX7_init_66 : decode cX7_init 66 = .ok (.iconst 4, 1) := by decide +kernel
theorem dX7_init_67 : decode cX7_init 67 = .ok (.iconst 3, 1) := by decide +kernel
theorem dX7_init_68 : decode cX7_init 68 = .ok (.iastore, 1) := by decide +kernel
theorem dX7_init_69 : decode cX7_init 69 = .ok (.aload_n 0, 1) := by decide +kernel
theorem dX7_init_70 : decode cX7_init 70 = .ok (.getfield 7, 3) := by decide +kernel
theorem dX7_init_73 : decode cX7_init 73 = .ok (.bipush 6, 2) := by decide +kernel
theorem dX7_init_75 : decode cX7_init 75 = .ok (.iconst (-1), 1) := by decide +kernel
theorem dX7_init_76 : decode cX7_init 76 = .ok (.iastore, 1) := by decide +kernel
theorem dX7_init_77 : decode cX7_init 77 = .ok (.aload_n 0, 1) := by decide +kernel
theorem dX7_init_78 : decode cX7_init 78 = .ok (.getfield 7, 3) := by decide +kernel
theorem dX7_init_81 : decode cX7_init 81 = .ok (.bipush 7, 2) := by decide +kernel
theorem dX7_init_83 : decode cX7_init 83 = .ok (.sipush 1024, 3) := by decide +kernel
theorem dX7_init_86 : decode cX7_init 86 = .ok (.iastore, 1) := by decide +kernel
theorem dX7_init_87 : decode cX7_init 87 = .ok (.iconst 0, 1) := by decide +kernel
theorem dX7_init_88 : decode cX7_init 88 = .ok (.istore_n 1, 1) := by decide +kernel
theorem dX7_init_89 : decode cX7_init 89 = .ok (.iload_n 1, 1) := by decide +kernel
theorem dX7_init_90 : decode cX7_init 90 = .ok (.bipush 10, 2) := by decide +kernel
theorem dX7_init_92 : decode cX7_init 92 = .ok (.if_icmp .ge 19, 3) := by decide +kernel
theorem dX7_init_95 : decode cX7_init 95 = .ok (.aload_n 0, 1) := by decide +kernel
theorem dX7_init_96 : decode cX7_init 96 = .ok (.getfield 7, 3) := by decide +kernel
theorem dX7_init_99 : decode cX7_init 99 = .ok (.bipush 62, 2) := by decide +kernel
theorem dX7_init_101 : decode cX7_init 101 = .ok (.iload_n 1, 1) := by decide +kernel
theorem dX7_init_102 : decode cX7_init 102 = .ok (.iadd, 1) := by decide +kernel
theorem dX7_init_103 : decode cX7_init 103 = .ok (.iconst (-1), 1) := by decide +kernel
theorem dX7_init_104 : decode cX7_init 104 = .ok (.iastore, 1) := by decide +kernel
theorem dX7_init_105 : decode cX7_init 105 = .ok (.iinc 1 1, 3) := by decide +kernel
theorem dX7_init_108 : decode cX7_init 108 = .ok (.goto (-19), 3) := by decide +kernel
theorem dX7_init_111 : decode cX7_init 111 = .ok (.return_, 1) := by decide +kernel
theorem dX7_isIn_0 : decode cX7_isIn 0 = .ok (.iload_n 0, 1) := by decide +kernel
theorem dX7_isIn_1 : decode cX7_isIn 1 = .ok (.iload_n 1, 1) := by decide +kernel
theorem dX7_isIn_2 : decode cX7_isIn 2 = .ok (.if_icmp .lt 12, 3) := by decide +kernel
theorem dX7_isIn_5 : decode cX7_isIn 5 = .ok (.iload_n 0, 1) := by decide +kernel
theorem dX7_isIn_6 : decode cX7_isIn 6 = .ok (.iload_n 2, 1) := by decide +kernel
theorem dX7_isIn_7 : decode cX7_isIn 7 = .ok (.if_icmp .gt 7, 3) := by decide +kernel
theorem dX7_isIn_10 : decode cX7_isIn 10 = .ok (.iconst 1, 1) := by decide +kernel
theorem dX7_isIn_11 : decode cX7_isIn 11 = .ok (.goto 4, 3) := by decide +kernel
theorem dX7_isIn_14 : decode cX7_isIn 14 = .ok (.iconst 0, 1) := by decide +kernel
theorem dX7_isIn_15 : decode cX7_isIn 15 = .ok (.ireturn, 1) := by decide +kernel
theorem dX7_has_0 : decode cX7_has 0 = .ok (.iload_n 0, 1) := by decide +kernel
theorem dX7_has_1 : decode cX7_has 1 = .ok (.iload_n 1, 1) := by decide +kernel
theorem dX7_has_2 : decode cX7_has 2 = .ok (.ishr, 1) := by decide +kernel
theorem dX7_has_3 : decode cX7_has 3 = .ok (.iconst 1, 1) := by decide +kernel
theorem dX7_has_4 : decode cX7_has 4 = .ok (.iand, 1) := by decide +kernel
theorem dX7_has_5 : decode cX7_has 5 = .ok (.iconst 1, 1) := by decide +kernel
theorem dX7_has_6 : decode cX7_has 6 = .ok (.if_icmp .ne 7, 3) := by decide +kernel
theorem dX7_has_9 : decode cX7_has 9 = .ok (.iconst 1, 1) := by decide +kernel
theorem dX7_has_10 : decode cX7_has 10 = .ok (.goto 4, 3) := by decide +kernel
theorem dX7_has_13 : decode cX7_has 13 = .ok (.iconst 0, 1) := by decide +kernel
theorem dX7_has_14 : decode cX7_has 14 = .ok (.ireturn, 1) := by decide +kernel
theorem dX7_ones_0 : decode cX7_ones 0 = .ok (.iconst 0, 1) := by decide +kernel
theorem dX7_ones_1 : decode cX7_ones 1 = .ok (.istore_n 1, 1) := by decide +kernel
theorem dX7_ones_2 : decode cX7_ones 2 = .ok (.iconst 0, 1) := by decide +kernel
theorem dX7_ones_3 : decode cX7_ones 3 = .ok (.istore_n 2, 1) := by decide +kernel
theorem dX7_ones_4 : decode cX7_ones 4 = .ok (.iload_n 2, 1) := by decide +kernel
theorem dX7_ones_5 : decode cX7_ones 5 = .ok (.bipush 16, 2) := by decide +kernel
theorem dX7_ones_7 : decode cX7_ones 7 = .ok (.if_icmp .ge 17, 3) := by decide +kernel
theorem dX7_ones_10 : decode cX7_ones 10 = .ok (.iload_n 1, 1) := by decide +kernel
theorem dX7_ones_11 : decode cX7_ones 11 = .ok (.iload_n 0, 1) := by decide +kernel
theorem dX7_ones_12 : decode cX7_ones 12 = .ok (.iload_n 2, 1) := by decide +kernel
theorem dX7_ones_13 : decode cX7_ones 13 = .ok (.ishr, 1) := by decide +kernel
theorem dX7_ones_14 : decode cX7_ones 14 = .ok (.iconst 1, 1) := by decide +kernel
theorem dX7_ones_15 : decode cX7_ones 15 = .ok (.iand, 1) := by decide +kernel
theorem dX7_ones_16 : decode cX7_ones 16 = .ok (.iadd, 1) := by decide +kernel
theorem dX7_ones_17 : decode cX7_ones 17 = .ok (.istore_n 1, 1) := by decide +kernel
theorem dX7_ones_18 : decode cX7_ones 18 = .ok (.iinc 2 1, 3) := by decide +kernel
theorem dX7_ones_21 : decode cX7_ones 21 = .ok (.goto (-17), 3) := by decide +kernel
theorem dX7_ones_24 : decode cX7_ones 24 = .ok (.iload_n 1, 1) := by decide +kernel
theorem dX7_ones_25 : decode cX7_ones 25 = .ok (.ireturn, 1) := by decide +kernel
theorem dX7_records_0 : decode cX7_records 0 = .ok (.aload_n 0, 1) := by decide +kernel
theorem dX7_records_1 : decode cX7_records 1 = .ok (.getfield 31, 3) := by decide +kernel
theorem dX7_records_4 : decode cX7_records 4 = .ok (.iconst 4, 1) := by decide +kernel
theorem dX7_records_5 : decode cX7_records 5 = .ok (.if_icmp .ne 43, 3) := by decide +kernel
theorem dX7_records_8 : decode cX7_records 8 = .ok (.iconst 0, 1) := by decide +kernel
theorem dX7_records_9 : decode cX7_records 9 = .ok (.istore_n 1, 1) := by decide +kernel
theorem dX7_records_10 : decode cX7_records 10 = .ok (.iload_n 1, 1) := by decide +kernel
theorem dX7_records_11 : decode cX7_records 11 = .ok (.sipush 264, 3) := by decide +kernel
theorem dX7_records_14 : decode cX7_records 14 = .ok (.if_icmp .ge 24, 3) := by decide +kernel
theorem dX7_records_17 : decode cX7_records 17 = .ok (.aload_n 0, 1) := by decide +kernel
theorem dX7_records_18 : decode cX7_records 18 = .ok (.getfield 13, 3) := by decide +kernel
theorem dX7_records_21 : decode cX7_records 21 = .ok (.iload_n 1, 1) := by decide +kernel
theorem dX7_records_22 : decode cX7_records 22 = .ok (.aload_n 0, 1) := by decide +kernel
theorem dX7_records_23 : decode cX7_records 23 = .ok (.getfield 13, 3) := by decide +kernel
theorem dX7_records_26 : decode cX7_records 26 = .ok (.iload_n 1, 1) := by decide +kernel
theorem dX7_records_27 : decode cX7_records 27 = .ok (.bipush 88, 2) := by decide +kernel
theorem dX7_records_29 : decode cX7_records 29 = .ok (.iadd, 1) := by decide +kernel
theorem dX7_records_30 : decode cX7_records 30 = .ok (.iaload, 1) := by decide +kernel
theorem dX7_records_31 : decode cX7_records 31 = .ok (.iastore, 1) := by decide +kernel
theorem dX7_records_32 : decode cX7_records 32 = .ok (.iinc 1 1, 3) := by decide +kernel
theorem dX7_records_35 : decode cX7_records 35 = .ok (.goto (-25), 3) := by decide +kernel
theorem dX7_records_38 : decode cX7_records 38 = .ok (.aload_n 0, 1) := by decide +kernel
theorem dX7_records_39 : decode cX7_records 39 = .ok (.dup, 1) := by decide +kernel
theorem dX7_records_40 : decode cX7_records 40 = .ok (.getfield 31, 3) := by decide +kernel
theorem dX7_records_43 : decode cX7_records 43 = .ok (.iconst 1, 1) := by decide +kernel
theorem dX7_records_44 : decode cX7_records 44 = .ok (.isub, 1) := by decide +kernel
theorem dX7_records_45 : decode cX7_records 45 = .ok (.putfield 31, 3) := by decide +kernel
theorem dX7_records_48 : decode cX7_records 48 = .ok (.iconst 0, 1) := by decide +kernel
theorem dX7_records_49 : decode cX7_records 49 = .ok (.istore_n 1, 1) := by decide +kernel
theorem dX7_records_50 : decode cX7_records 50 = .ok (.iload_n 1, 1) := by decide +kernel
theorem dX7_records_51 : decode cX7_records 51 = .ok (.bipush 88, 2) := by decide +kernel
theorem dX7_records_53 : decode cX7_records 53 = .ok (.if_icmp .ge 29, 3) := by decide +kernel
theorem dX7_records_56 : decode cX7_records 56 = .ok (.aload_n 0, 1) := by decide +kernel
theorem dX7_records_57 : decode cX7_records 57 = .ok (.getfield 13, 3) := by decide +kernel
theorem dX7_records_60 : decode cX7_records 60 = .ok (.aload_n 0, 1) := by decide +kernel
theorem dX7_records_61 : decode cX7_records 61 = .ok (.getfield 31, 3) := by decide +kernel
theorem dX7_records_64 : decode cX7_records 64 = .ok (.bipush 88, 2) := by decide +kernel
theorem dX7_records_66 : decode cX7_records 66 = .ok (.imul, 1) := by decide +kernel
theorem dX7_records_67 : decode cX7_records 67 = .ok (.iload_n 1, 1) := by decide +kernel
theorem dX7_records_68 : decode cX7_records 68 = .ok (.iadd, 1) := by decide +kernel
theorem dX7_records_69 : decode cX7_records 69 = .ok (.aload_n 0, 1) := by decide +kernel
theorem dX7_records_70 : decode cX7_records 70 = .ok (.getfield 7, 3) := by decide +kernel
theorem dX7_records_73 : decode cX7_records 73 = .ok (.iload_n 1, 1) := by decide +kernel
theorem dX7_records_74 : decode cX7_records 74 = .ok (.iaload, 1) := by decide +kernel
theorem dX7_records_75 : decode cX7_records 75 = .ok (.iastore, 1) := by decide +kernel
theorem dX7_records_76 : decode cX7_records 76 = .ok (.iinc 1 1, 3) := by decide +kernel
theorem dX7_records_79 : decode cX7_records 79 = .ok (.goto (-29), 3) := by decide +kernel
theorem dX7_records_82 : decode cX7_records 82 = .ok (.aload_n 0, 1) := by decide +kernel
theorem dX7_records_83 : decode cX7_records 83 = .ok (.dup, 1) := by decide +kernel
theorem dX7_records_84 : decode cX7_records 84 = .ok (.getfield 31, 3) := by decide +kernel
theorem dX7_records_87 : decode cX7_records 87 = .ok (.iconst 1, 1) := by decide +kernel
theorem dX7_records_88 : decode cX7_records 88 = .ok (.iadd, 1) := by decide +kernel
theorem dX7_records_89 : decode cX7_records 89 = .ok (.putfield 31, 3) := by decide +kernel
theorem dX7_records_92 : decode cX7_records 92 = .ok (.return_, 1) := by decide +kernel
theorem dX7_undo_0 : decode cX7_undo 0 = .ok (.aload_n 0, 1) := by decide +kernel
theorem dX7_undo_1 : decode cX7_undo 1 = .ok (.getfield 31, 3) := by decide +kernel
theorem dX7_undo_4 : decode cX7_undo 4 = .ok (.ifCond .ne 6, 3) := by decide +kernel
theorem dX7_undo_7 : decode cX7_undo 7 = .ok (.ldc 35, 2) := by decide +kernel
theorem dX7_undo_9 : decode cX7_undo 9 = .ok (.ireturn, 1) := by decide +kernel
theorem dX7_undo_10 : decode cX7_undo 10 = .ok (.aload_n 0, 1) := by decide +kernel
theorem dX7_undo_11 : decode cX7_undo 11 = .ok (.dup, 1) := by decide +kernel
theorem dX7_undo_12 : decode cX7_undo 12 = .ok (.getfield 31, 3) := by decide +kernel
theorem dX7_undo_15 : decode cX7_undo 15 = .ok (.iconst 1, 1) := by decide +kernel
theorem dX7_undo_16 : decode cX7_undo 16 = .ok (.isub, 1) := by decide +kernel
theorem dX7_undo_17 : decode cX7_undo 17 = .ok (.putfield 31, 3) := by decide +kernel
theorem dX7_undo_20 : decode cX7_undo 20 = .ok (.iconst 0, 1) := by decide +kernel
theorem dX7_undo_21 : decode cX7_undo 21 = .ok (.istore_n 1, 1) := by decide +kernel
theorem dX7_undo_22 : decode cX7_undo 22 = .ok (.iload_n 1, 1) := by decide +kernel
theorem dX7_undo_23 : decode cX7_undo 23 = .ok (.bipush 88, 2) := by decide +kernel
theorem dX7_undo_25 : decode cX7_undo 25 = .ok (.if_icmp .ge 29, 3) := by decide +kernel
theorem dX7_undo_28 : decode cX7_undo 28 = .ok (.aload_n 0, 1) := by decide +kernel
theorem dX7_undo_29 : decode cX7_undo 29 = .ok (.getfield 7, 3) := by decide +kernel
theorem dX7_undo_32 : decode cX7_undo 32 = .ok (.iload_n 1, 1) := by decide +kernel
theorem dX7_undo_33 : decode cX7_undo 33 = .ok (.aload_n 0, 1) := by decide +kernel
theorem dX7_undo_34 : decode cX7_undo 34 = .ok (.getfield 13, 3) := by decide +kernel
theorem dX7_undo_37 : decode cX7_undo 37 = .ok (.aload_n 0, 1) := by decide +kernel
theorem dX7_undo_38 : decode cX7_undo 38 = .ok (.getfield 31, 3) := by decide +kernel
theorem dX7_undo_41 : decode cX7_undo 41 = .ok (.bipush 88, 2) := by decide +kernel
theorem dX7_undo_43 : decode cX7_undo 43 = .ok (.imul, 1) := by decide +kernel
theorem dX7_undo_44 : decode cX7_undo 44 = .ok (.iload_n 1, 1) := by decide +kernel
theorem dX7_undo_45 : decode cX7_undo 45 = .ok (.iadd, 1) := by decide +kernel
theorem dX7_undo_46 : decode cX7_undo 46 = .ok (.iaload, 1) := by decide +kernel
theorem dX7_undo_47 : decode cX7_undo 47 = .ok (.iastore, 1) := by decide +kernel
theorem dX7_undo_48 : decode cX7_undo 48 = .ok (.iinc 1 1, 3) := by decide +kernel
theorem dX7_undo_51 : decode cX7_undo 51 = .ok (.goto (-29), 3) := by decide +kernel
theorem dX7_undo_54 : decode cX7_undo 54 = .ok (.aload_n 0, 1) := by decide +kernel
theorem dX7_undo_55 : decode cX7_undo 55 = .ok (.getfield 31, 3) := by decide +kernel
theorem dX7_undo_58 : decode cX7_undo 58 = .ok (.ireturn, 1) := by decide +kernel
theorem dX7_netOf_0 : decode cX7_netOf 0 = .ok (.iconst 0, 1) := by decide +kernel
theorem dX7_netOf_1 : decode cX7_netOf 1 = .ok (.istore_n 2, 1) := by decide +kernel
theorem dX7_netOf_2 : decode cX7_netOf 2 = .ok (.iload_n 2, 1) := by decide +kernel
theorem dX7_netOf_3 : decode cX7_netOf 3 = .ok (.aload_n 0, 1) := by decide +kernel
theorem dX7_netOf_4 : decode cX7_netOf 4 = .ok (.getfield 7, 3) := by decide +kernel
theorem dX7_netOf_7 : decode cX7_netOf 7 = .ok (.iconst 0, 1) := by decide +kernel
theorem dX7_netOf_8 : decode cX7_netOf 8 = .ok (.iaload, 1) := by decide +kernel
theorem dX7_netOf_9 : decode cX7_netOf 9 = .ok (.if_icmp .ge 27, 3) := by decide +kernel
theorem dX7_netOf_12 : decode cX7_netOf 12 = .ok (.aload_n 0, 1) := by decide +kernel
theorem dX7_netOf_13 : decode cX7_netOf 13 = .ok (.getfield 7, 3) := by decide +kernel
theorem dX7_netOf_16 : decode cX7_netOf 16 = .ok (.bipush 9, 2) := by decide +kernel
theorem dX7_netOf_18 : decode cX7_netOf 18 = .ok (.iload_n 2, 1) := by decide +kernel
theorem dX7_netOf_19 : decode cX7_netOf 19 = .ok (.iadd, 1) := by decide +kernel
theorem dX7_netOf_20 : decode cX7_netOf 20 = .ok (.iaload, 1) := by decide +kernel
theorem dX7_netOf_21 : decode cX7_netOf 21 = .ok (.iload_n 1, 1) := by decide +kernel
theorem dX7_netOf_22 : decode cX7_netOf 22 = .ok (.invokestatic 36, 3) := by decide +kernel
theorem dX7_netOf_25 : decode cX7_netOf 25 = .ok (.ifCond .eq 5, 3) := by decide +kernel
theorem dX7_netOf_28 : decode cX7_netOf 28 = .ok (.iload_n 2, 1) := by decide +kernel
theorem dX7_netOf_29 : decode cX7_netOf 29 = .ok (.ireturn, 1) := by decide +kernel
theorem dX7_netOf_30 : decode cX7_netOf 30 = .ok (.iinc 2 1, 3) := by decide +kernel
theorem dX7_netOf_33 : decode cX7_netOf 33 = .ok (.goto (-31), 3) := by decide +kernel
theorem dX7_netOf_36 : decode cX7_netOf 36 = .ok (.iconst (-1), 1) := by decide +kernel
theorem dX7_netOf_37 : decode cX7_netOf 37 = .ok (.ireturn, 1) := by decide +kernel
theorem dX7_roleOf_0 : decode cX7_roleOf 0 = .ok (.aload_n 0, 1) := by decide +kernel
theorem dX7_roleOf_1 : decode cX7_roleOf 1 = .ok (.getfield 7, 3) := by decide +kernel
theorem dX7_roleOf_4 : decode cX7_roleOf 4 = .ok (.bipush 17, 2) := by decide +kernel
theorem dX7_roleOf_6 : decode cX7_roleOf 6 = .ok (.iload_n 1, 1) := by decide +kernel
theorem dX7_roleOf_7 : decode cX7_roleOf 7 = .ok (.iadd, 1) := by decide +kernel
theorem dX7_roleOf_8 : decode cX7_roleOf 8 = .ok (.iaload, 1) := by decide +kernel
theorem dX7_roleOf_9 : decode cX7_roleOf 9 = .ok (.iload_n 2, 1) := by decide +kernel
theorem dX7_roleOf_10 : decode cX7_roleOf 10 = .ok (.if_icmp .ne 5, 3) := by decide +kernel
theorem dX7_roleOf_13 : decode cX7_roleOf 13 = .ok (.iconst 0, 1) := by decide +kernel
theorem dX7_roleOf_14 : decode cX7_roleOf 14 = .ok (.ireturn, 1) := by decide +kernel
theorem dX7_roleOf_15 : decode cX7_roleOf 15 = .ok (.aload_n 0, 1) := by decide +kernel
theorem dX7_roleOf_16 : decode cX7_roleOf 16 = .ok (.getfield 7, 3) := by decide +kernel
theorem dX7_roleOf_19 : decode cX7_roleOf 19 = .ok (.bipush 22, 2) := by decide +kernel
theorem dX7_roleOf_21 : decode cX7_roleOf 21 = .ok (.iload_n 1, 1) := by decide +kernel
theorem dX7_roleOf_22 : decode cX7_roleOf 22 = .ok (.iadd, 1) := by decide +kernel
theorem dX7_roleOf_23 : decode cX7_roleOf 23 = .ok (.iaload, 1) := by decide +kernel
theorem dX7_roleOf_24 : decode cX7_roleOf 24 = .ok (.iload_n 2, 1) := by decide +kernel
theorem dX7_roleOf_25 : decode cX7_roleOf 25 = .ok (.if_icmp .ne 5, 3) := by decide +kernel
theorem dX7_roleOf_28 : decode cX7_roleOf 28 = .ok (.iconst 1, 1) := by decide +kernel
theorem dX7_roleOf_29 : decode cX7_roleOf 29 = .ok (.ireturn, 1) := by decide +kernel
theorem dX7_roleOf_30 : decode cX7_roleOf 30 = .ok (.aload_n 0, 1) := by decide +kernel
theorem dX7_roleOf_31 : decode cX7_roleOf 31 = .ok (.getfield 7, 3) := by decide +kernel
theorem dX7_roleOf_34 : decode cX7_roleOf 34 = .ok (.bipush 27, 2) := by decide +kernel
theorem dX7_roleOf_36 : decode cX7_roleOf 36 = .ok (.iload_n 1, 1) := by decide +kernel
theorem dX7_roleOf_37 : decode cX7_roleOf 37 = .ok (.iadd, 1) := by decide +kernel
theorem dX7_roleOf_38 : decode cX7_roleOf 38 = .ok (.iaload, 1) := by decide +kernel
theorem dX7_roleOf_39 : decode cX7_roleOf 39 = .ok (.iload_n 2, 1) := by decide +kernel
theorem dX7_roleOf_40 : decode cX7_roleOf 40 = .ok (.invokestatic 36, 3) := by decide +kernel
theorem dX7_roleOf_43 : decode cX7_roleOf 43 = .ok (.ifCond .eq 7, 3) := by decide +kernel
theorem dX7_roleOf_46 : decode cX7_roleOf 46 = .ok (.iconst 2, 1) := by decide +kernel
theorem dX7_roleOf_47 : decode cX7_roleOf 47 = .ok (.goto 4, 3) := by decide +kernel
theorem dX7_roleOf_50 : decode cX7_roleOf 50 = .ok (.iconst (-1), 1) := by decide +kernel
theorem dX7_roleOf_51 : decode cX7_roleOf 51 = .ok (.ireturn, 1) := by decide +kernel
theorem dX7_chipOf_0 : decode cX7_chipOf 0 = .ok (.iconst 0, 1) := by decide +kernel
theorem dX7_chipOf_1 : decode cX7_chipOf 1 = .ok (.istore_n 2, 1) := by decide +kernel
theorem dX7_chipOf_2 : decode cX7_chipOf 2 = .ok (.iload_n 2, 1) := by decide +kernel
theorem dX7_chipOf_3 : decode cX7_chipOf 3 = .ok (.aload_n 0, 1) := by decide +kernel
theorem dX7_chipOf_4 : decode cX7_chipOf 4 = .ok (.getfield 7, 3) := by decide +kernel
theorem dX7_chipOf_7 : decode cX7_chipOf 7 = .ok (.iconst 1, 1) := by decide +kernel
theorem dX7_chipOf_8 : decode cX7_chipOf 8 = .ok (.iaload, 1) := by decide +kernel
theorem dX7_chipOf_9 : decode cX7_chipOf 9 = .ok (.if_icmp .ge 21, 3) := by decide +kernel
theorem dX7_chipOf_12 : decode cX7_chipOf 12 = .ok (.aload_n 0, 1) := by decide +kernel
theorem dX7_chipOf_13 : decode cX7_chipOf 13 = .ok (.iload_n 2, 1) := by decide +kernel
theorem dX7_chipOf_14 : decode cX7_chipOf 14 = .ok (.iload_n 1, 1) := by decide +kernel
theorem dX7_chipOf_15 : decode cX7_chipOf 15 = .ok (.invokevirtual 40, 3) := by decide +kernel
theorem dX7_chipOf_18 : decode cX7_chipOf 18 = .ok (.iconst (-1), 1) := by decide +kernel
theorem dX7_chipOf_19 : decode cX7_chipOf 19 = .ok (.if_icmp .eq 5, 3) := by decide +kernel
theorem dX7_chipOf_22 : decode cX7_chipOf 22 = .ok (.iload_n 2, 1) := by decide +kernel
theorem dX7_chipOf_23 : decode cX7_chipOf 23 = .ok (.ireturn, 1) := by decide +kernel
theorem dX7_chipOf_24 : decode cX7_chipOf 24 = .ok (.iinc 2 1, 3) := by decide +kernel
theorem dX7_chipOf_27 : decode cX7_chipOf 27 = .ok (.goto (-25), 3) := by decide +kernel
theorem dX7_chipOf_30 : decode cX7_chipOf 30 = .ok (.iconst (-1), 1) := by decide +kernel
theorem dX7_chipOf_31 : decode cX7_chipOf 31 = .ok (.ireturn, 1) := by decide +kernel
theorem dX7_checksNet_0 : decode cX7_checksNet 0 = .ok (.iload_n 1, 1) := by decide +kernel
theorem dX7_checksNet_1 : decode cX7_checksNet 1 = .ok (.iconst 0, 1) := by decide +kernel
theorem dX7_checksNet_2 : decode cX7_checksNet 2 = .ok (.ldc 44, 2) := by decide +kernel
theorem dX7_checksNet_4 : decode cX7_checksNet 4 = .ok (.invokestatic 45, 3) := by decide +kernel
theorem dX7_checksNet_7 : decode cX7_checksNet 7 = .ok (.ifCond .eq 15, 3) := by decide +kernel
theorem dX7_checksNet_10 : decode cX7_checksNet 10 = .ok (.iload_n 1, 1) := by decide +kernel
theorem dX7_checksNet_11 : decode cX7_checksNet 11 = .ok (.invokestatic 49, 3) := by decide +kernel
theorem dX7_checksNet_14 : decode cX7_checksNet 14 = .ok (.iconst 2, 1) := by decide +kernel
theorem dX7_checksNet_15 : decode cX7_checksNet 15 = .ok (.iconst 5, 1) := by decide +kernel
theorem dX7_checksNet_16 : decode cX7_checksNet 16 = .ok (.invokestatic 45, 3) := by decide +kernel
theorem dX7_checksNet_19 : decode cX7_checksNet 19 = .ok (.ifCond .ne 6, 3) := by decide +kernel
theorem dX7_checksNet_22 : decode cX7_checksNet 22 = .ok (.ldc 53, 2) := by decide +kernel
theorem dX7_checksNet_24 : decode cX7_checksNet 24 = .ok (.ireturn, 1) := by decide +kernel
theorem dX7_checksNet_25 : decode cX7_checksNet 25 = .ok (.iconst 0, 1) := by decide +kernel
theorem dX7_checksNet_26 : decode cX7_checksNet 26 = .ok (.istore_n 2, 1) := by decide +kernel
theorem dX7_checksNet_27 : decode cX7_checksNet 27 = .ok (.iload_n 2, 1) := by decide +kernel
theorem dX7_checksNet_28 : decode cX7_checksNet 28 = .ok (.bipush 16, 2) := by decide +kernel
theorem dX7_checksNet_30 : decode cX7_checksNet 30 = .ok (.if_icmp .ge 29, 3) := by decide +kernel
theorem dX7_checksNet_33 : decode cX7_checksNet 33 = .ok (.iload_n 1, 1) := by decide +kernel
theorem dX7_checksNet_34 : decode cX7_checksNet 34 = .ok (.iload_n 2, 1) := by decide +kernel
theorem dX7_checksNet_35 : decode cX7_checksNet 35 = .ok (.invokestatic 36, 3) := by decide +kernel
theorem dX7_checksNet_38 : decode cX7_checksNet 38 = .ok (.ifCond .eq 15, 3) := by decide +kernel
theorem dX7_checksNet_41 : decode cX7_checksNet 41 = .ok (.aload_n 0, 1) := by decide +kernel
theorem dX7_checksNet_42 : decode cX7_checksNet 42 = .ok (.iload_n 2, 1) := by decide +kernel
theorem dX7_checksNet_43 : decode cX7_checksNet 43 = .ok (.invokevirtual 54, 3) := by decide +kernel
theorem dX7_checksNet_46 : decode cX7_checksNet 46 = .ok (.iconst (-1), 1) := by decide +kernel
theorem dX7_checksNet_47 : decode cX7_checksNet 47 = .ok (.if_icmp .eq 6, 3) := by decide +kernel
theorem dX7_checksNet_50 : decode cX7_checksNet 50 = .ok (.ldc 35, 2) := by decide +kernel
theorem dX7_checksNet_52 : decode cX7_checksNet 52 = .ok (.ireturn, 1) := by decide +kernel
theorem dX7_checksNet_53 : decode cX7_checksNet 53 = .ok (.iinc 2 1, 3) := by decide +kernel
theorem dX7_checksNet_56 : decode cX7_checksNet 56 = .ok (.goto (-29), 3) := by decide +kernel
theorem dX7_checksNet_59 : decode cX7_checksNet 59 = .ok (.aload_n 0, 1) := by decide +kernel
theorem dX7_checksNet_60 : decode cX7_checksNet 60 = .ok (.getfield 7, 3) := by decide +kernel
theorem dX7_checksNet_63 : decode cX7_checksNet 63 = .ok (.iconst 0, 1) := by decide +kernel
theorem dX7_checksNet_64 : decode cX7_checksNet 64 = .ok (.iaload, 1) := by decide +kernel
theorem dX7_checksNet_65 : decode cX7_checksNet 65 = .ok (.bipush 8, 2) := by decide +kernel
theorem dX7_checksNet_67 : decode cX7_checksNet 67 = .ok (.if_icmp .ne 8, 3) := by decide +kernel
theorem dX7_checksNet_70 : decode cX7_checksNet 70 = .ok (.ldc 57, 2) := by decide +kernel
theorem dX7_checksNet_72 : decode cX7_checksNet 72 = .ok (.goto 4, 3) := by decide +kernel
theorem dX7_checksNet_75 : decode cX7_checksNet 75 = .ok (.iconst 0, 1) := by decide +kernel
theorem dX7_checksNet_76 : decode cX7_checksNet 76 = .ok (.ireturn, 1) := by decide +kernel
theorem dX7_addsNet_0 : decode cX7_addsNet 0 = .ok (.aload_n 0, 1) := by decide +kernel
theorem dX7_addsNet_1 : decode cX7_addsNet 1 = .ok (.getfield 7, 3) := by decide +kernel
theorem dX7_addsNet_4 : decode cX7_addsNet 4 = .ok (.bipush 9, 2) := by decide +kernel
theorem dX7_addsNet_6 : decode cX7_addsNet 6 = .ok (.aload_n 0, 1) := by decide +kernel
theorem dX7_addsNet_7 : decode cX7_addsNet 7 = .ok (.getfield 7, 3) := by decide +kernel
theorem dX7_addsNet_10 : decode cX7_addsNet 10 = .ok (.iconst 0, 1) := by decide +kernel
theorem dX7_addsNet_11 : decode cX7_addsNet 11 = .ok (.iaload, 1) := by decide +kernel
theorem dX7_addsNet_12 : decode cX7_addsNet 12 = .ok (.iadd, 1) := by decide +kernel
theorem dX7_addsNet_13 : decode cX7_addsNet 13 = .ok (.iload_n 1, 1) := by decide +kernel
theorem dX7_addsNet_14 : decode cX7_addsNet 14 = .ok (.iastore, 1) := by decide +kernel
theorem dX7_addsNet_15 : decode cX7_addsNet 15 = .ok (.aload_n 0, 1) := by decide +kernel
theorem dX7_addsNet_16 : decode cX7_addsNet 16 = .ok (.getfield 7, 3) := by decide +kernel
theorem dX7_addsNet_19 : decode cX7_addsNet 19 = .ok (.iconst 0, 1) := by decide +kernel
theorem dX7_addsNet_20 : decode cX7_addsNet 20 = .ok (.dup2, 1) := by decide +kernel
theorem dX7_addsNet_21 : decode cX7_addsNet 21 = .ok (.iaload, 1) := by decide +kernel
theorem dX7_addsNet_22 : decode cX7_addsNet 22 = .ok (.iconst 1, 1) := by decide +kernel
theorem dX7_addsNet_23 : decode cX7_addsNet 23 = .ok (.iadd, 1) := by decide +kernel
theorem dX7_addsNet_24 : decode cX7_addsNet 24 = .ok (.iastore, 1) := by decide +kernel
theorem dX7_addsNet_25 : decode cX7_addsNet 25 = .ok (.aload_n 0, 1) := by decide +kernel
theorem dX7_addsNet_26 : decode cX7_addsNet 26 = .ok (.getfield 7, 3) := by decide +kernel
theorem dX7_addsNet_29 : decode cX7_addsNet 29 = .ok (.iconst 0, 1) := by decide +kernel
theorem dX7_addsNet_30 : decode cX7_addsNet 30 = .ok (.iaload, 1) := by decide +kernel
theorem dX7_addsNet_31 : decode cX7_addsNet 31 = .ok (.iconst 1, 1) := by decide +kernel
theorem dX7_addsNet_32 : decode cX7_addsNet 32 = .ok (.isub, 1) := by decide +kernel
theorem dX7_addsNet_33 : decode cX7_addsNet 33 = .ok (.ireturn, 1) := by decide +kernel
theorem dX7_net_0 : decode cX7_net 0 = .ok (.aload_n 0, 1) := by decide +kernel
theorem dX7_net_1 : decode cX7_net 1 = .ok (.iload_n 1, 1) := by decide +kernel
theorem dX7_net_2 : decode cX7_net 2 = .ok (.invokevirtual 58, 3) := by decide +kernel
theorem dX7_net_5 : decode cX7_net 5 = .ok (.istore_n 2, 1) := by decide +kernel
theorem dX7_net_6 : decode cX7_net 6 = .ok (.iload_n 2, 1) := by decide +kernel
theorem dX7_net_7 : decode cX7_net 7 = .ok (.ifCond .eq 5, 3) := by decide +kernel
theorem dX7_net_10 : decode cX7_net 10 = .ok (.iload_n 2, 1) := by decide +kernel
theorem dX7_net_11 : decode cX7_net 11 = .ok (.ireturn, 1) := by decide +kernel
theorem dX7_net_12 : decode cX7_net 12 = .ok (.aload_n 0, 1) := by decide +kernel
theorem dX7_net_13 : decode cX7_net 13 = .ok (.invokevirtual 61, 3) := by decide +kernel
theorem dX7_net_16 : decode cX7_net 16 = .ok (.aload_n 0, 1) := by decide +kernel
theorem dX7_net_17 : decode cX7_net 17 = .ok (.iload_n 1, 1) := by decide +kernel
theorem dX7_net_18 : decode cX7_net 18 = .ok (.invokevirtual 64, 3) := by decide +kernel
theorem dX7_net_21 : decode cX7_net 21 = .ok (.ireturn, 1) := by decide +kernel
theorem dX7_checksChip_0 : decode cX7_checksChip 0 = .ok (.iload_n 1, 1) := by decide +kernel
theorem dX7_checksChip_1 : decode cX7_checksChip 1 = .ok (.iconst 0, 1) := by decide +kernel
theorem dX7_checksChip_2 : decode cX7_checksChip 2 = .ok (.bipush 15, 2) := by decide +kernel
theorem dX7_checksChip_4 : decode cX7_checksChip 4 = .ok (.invokestatic 45, 3) := by decide +kernel
theorem dX7_checksChip_7 : decode cX7_checksChip 7 = .ok (.ifCond .eq 18, 3) := by decide +kernel
theorem dX7_checksChip_10 : decode cX7_checksChip 10 = .ok (.iload_n 2, 1) := by decide +kernel
theorem dX7_checksChip_11 : decode cX7_checksChip 11 = .ok (.iconst 0, 1) := by decide +kernel
theorem dX7_checksChip_12 : decode cX7_checksChip 12 = .ok (.bipush 15, 2) := by decide +kernel
theorem dX7_checksChip_14 : decode cX7_checksChip 14 = .ok (.invokestatic 45, 3) := by decide +kernel
theorem dX7_checksChip_17 : decode cX7_checksChip 17 = .ok (.ifCond .eq 8, 3) := by decide +kernel
theorem dX7_checksChip_20 : decode cX7_checksChip 20 = .ok (.iload_n 1, 1) := by decide +kernel
theorem dX7_checksChip_21 : decode cX7_checksChip 21 = .ok (.iload_n 2, 1) := by decide +kernel
theorem dX7_checksChip_22 : decode cX7_checksChip 22 = .ok (.if_icmp .ne 6, 3) := by decide +kernel
theorem dX7_checksChip_25 : decode cX7_checksChip 25 = .ok (.ldc 53, 2) := by decide +kernel
theorem dX7_checksChip_27 : decode cX7_checksChip 27 = .ok (.ireturn, 1) := by decide +kernel
theorem dX7_checksChip_28 : decode cX7_checksChip 28 = .ok (.iload_n 3, 1) := by decide +kernel
theorem dX7_checksChip_29 : decode cX7_checksChip 29 = .ok (.iconst 0, 1) := by decide +kernel
end
section
theorem dX7_checksChip_30 : decode cX7_checksChip 30 = .ok (.ldc 44, 2) := by decide +kernel
theorem dX7_checksChip_32 : decode cX7_checksChip 32 = .ok (.invokestatic 45, 3) := by decide +kernel
theorem dX7_checksChip_35 : decode cX7_checksChip 35 = .ok (.ifCond .eq 27, 3) := by decide +kernel
theorem dX7_checksChip_38 : decode cX7_checksChip 38 = .ok (.iload_n 3, 1) := by decide +kernel
theorem dX7_checksChip_39 : decode cX7_checksChip 39 = .ok (.invokestatic 49, 3) := by decide +kernel
theorem dX7_checksChip_42 : decode cX7_checksChip 42 = .ok (.iconst 5, 1) := by decide +kernel
theorem dX7_checksChip_43 : decode cX7_checksChip 43 = .ok (.if_icmp .gt 19, 3) := by decide +kernel
theorem dX7_checksChip_46 : decode cX7_checksChip 46 = .ok (.iload_n 3, 1) := by decide +kernel
theorem dX7_checksChip_47 : decode cX7_checksChip 47 = .ok (.iload_n 1, 1) := by decide +kernel
theorem dX7_checksChip_48 : decode cX7_checksChip 48 = .ok (.invokestatic 36, 3) := by decide +kernel
theorem dX7_checksChip_51 : decode cX7_checksChip 51 = .ok (.ifCond .ne 11, 3) := by decide +kernel
theorem dX7_checksChip_54 : decode cX7_checksChip 54 = .ok (.iload_n 3, 1) := by decide +kernel
theorem dX7_checksChip_55 : decode cX7_checksChip 55 = .ok (.iload_n 2, 1) := by decide +kernel
theorem dX7_checksChip_56 : decode cX7_checksChip 56 = .ok (.invokestatic 36, 3) := by decide +kernel
theorem dX7_checksChip_59 : decode cX7_checksChip 59 = .ok (.ifCond .eq 6, 3) := by decide +kernel
theorem dX7_checksChip_62 : decode cX7_checksChip 62 = .ok (.ldc 53, 2) := by decide +kernel
theorem dX7_checksChip_64 : decode cX7_checksChip 64 = .ok (.ireturn, 1) := by decide +kernel
theorem dX7_checksChip_65 : decode cX7_checksChip 65 = .ok (.iload_n 3, 1) := by decide +kernel
theorem dX7_checksChip_66 : decode cX7_checksChip 66 = .ok (.iconst 1, 1) := by decide +kernel
theorem dX7_checksChip_67 : decode cX7_checksChip 67 = .ok (.iload_n 1, 1) := by decide +kernel
theorem dX7_checksChip_68 : decode cX7_checksChip 68 = .ok (.ishl, 1) := by decide +kernel
theorem dX7_checksChip_69 : decode cX7_checksChip 69 = .ok (.ior, 1) := by decide +kernel
theorem dX7_checksChip_70 : decode cX7_checksChip 70 = .ok (.iconst 1, 1) := by decide +kernel
theorem dX7_checksChip_71 : decode cX7_checksChip 71 = .ok (.iload_n 2, 1) := by decide +kernel
theorem dX7_checksChip_72 : decode cX7_checksChip 72 = .ok (.ishl, 1) := by decide +kernel
theorem dX7_checksChip_73 : decode cX7_checksChip 73 = .ok (.ior, 1) := by decide +kernel
theorem dX7_checksChip_74 : decode cX7_checksChip 74 = .ok (.istore 4, 2) := by decide +kernel
theorem dX7_checksChip_76 : decode cX7_checksChip 76 = .ok (.iconst 0, 1) := by decide +kernel
theorem dX7_checksChip_77 : decode cX7_checksChip 77 = .ok (.istore 5, 2) := by decide +kernel
theorem dX7_checksChip_79 : decode cX7_checksChip 79 = .ok (.iload 5, 2) := by decide +kernel
theorem dX7_checksChip_81 : decode cX7_checksChip 81 = .ok (.bipush 16, 2) := by decide +kernel
theorem dX7_checksChip_83 : decode cX7_checksChip 83 = .ok (.if_icmp .ge 32, 3) := by decide +kernel
theorem dX7_checksChip_86 : decode cX7_checksChip 86 = .ok (.iload 4, 2) := by decide +kernel
theorem dX7_checksChip_88 : decode cX7_checksChip 88 = .ok (.iload 5, 2) := by decide +kernel
theorem dX7_checksChip_90 : decode cX7_checksChip 90 = .ok (.invokestatic 36, 3) := by decide +kernel
theorem dX7_checksChip_93 : decode cX7_checksChip 93 = .ok (.ifCond .eq 16, 3) := by decide +kernel
theorem dX7_checksChip_96 : decode cX7_checksChip 96 = .ok (.aload_n 0, 1) := by decide +kernel
theorem dX7_checksChip_97 : decode cX7_checksChip 97 = .ok (.iload 5, 2) := by decide +kernel
theorem dX7_checksChip_99 : decode cX7_checksChip 99 = .ok (.invokevirtual 67, 3) := by decide +kernel
theorem dX7_checksChip_102 : decode cX7_checksChip 102 = .ok (.iconst (-1), 1) := by decide +kernel
theorem dX7_checksChip_103 : decode cX7_checksChip 103 = .ok (.if_icmp .eq 6, 3) := by decide +kernel
theorem dX7_checksChip_106 : decode cX7_checksChip 106 = .ok (.ldc 35, 2) := by decide +kernel
theorem dX7_checksChip_108 : decode cX7_checksChip 108 = .ok (.ireturn, 1) := by decide +kernel
theorem dX7_checksChip_109 : decode cX7_checksChip 109 = .ok (.iinc 5 1, 3) := by decide +kernel
theorem dX7_checksChip_112 : decode cX7_checksChip 112 = .ok (.goto (-33), 3) := by decide +kernel
theorem dX7_checksChip_115 : decode cX7_checksChip 115 = .ok (.aload_n 0, 1) := by decide +kernel
theorem dX7_checksChip_116 : decode cX7_checksChip 116 = .ok (.getfield 7, 3) := by decide +kernel
theorem dX7_checksChip_119 : decode cX7_checksChip 119 = .ok (.iconst 1, 1) := by decide +kernel
theorem dX7_checksChip_120 : decode cX7_checksChip 120 = .ok (.iaload, 1) := by decide +kernel
theorem dX7_checksChip_121 : decode cX7_checksChip 121 = .ok (.iconst 5, 1) := by decide +kernel
theorem dX7_checksChip_122 : decode cX7_checksChip 122 = .ok (.if_icmp .ne 8, 3) := by decide +kernel
theorem dX7_checksChip_125 : decode cX7_checksChip 125 = .ok (.ldc 57, 2) := by decide +kernel
theorem dX7_checksChip_127 : decode cX7_checksChip 127 = .ok (.goto 4, 3) := by decide +kernel
theorem dX7_checksChip_130 : decode cX7_checksChip 130 = .ok (.iconst 0, 1) := by decide +kernel
theorem dX7_checksChip_131 : decode cX7_checksChip 131 = .ok (.ireturn, 1) := by decide +kernel
theorem dX7_addsChip_0 : decode cX7_addsChip 0 = .ok (.aload_n 0, 1) := by decide +kernel
theorem dX7_addsChip_1 : decode cX7_addsChip 1 = .ok (.getfield 7, 3) := by decide +kernel
theorem dX7_addsChip_4 : decode cX7_addsChip 4 = .ok (.iconst 1, 1) := by decide +kernel
theorem dX7_addsChip_5 : decode cX7_addsChip 5 = .ok (.iaload, 1) := by decide +kernel
theorem dX7_addsChip_6 : decode cX7_addsChip 6 = .ok (.istore 4, 2) := by decide +kernel
theorem dX7_addsChip_8 : decode cX7_addsChip 8 = .ok (.aload_n 0, 1) := by decide +kernel
theorem dX7_addsChip_9 : decode cX7_addsChip 9 = .ok (.getfield 7, 3) := by decide +kernel
theorem dX7_addsChip_12 : decode cX7_addsChip 12 = .ok (.bipush 17, 2) := by decide +kernel
theorem dX7_addsChip_14 : decode cX7_addsChip 14 = .ok (.iload 4, 2) := by decide +kernel
theorem dX7_addsChip_16 : decode cX7_addsChip 16 = .ok (.iadd, 1) := by decide +kernel
theorem dX7_addsChip_17 : decode cX7_addsChip 17 = .ok (.iload_n 1, 1) := by decide +kernel
theorem dX7_addsChip_18 : decode cX7_addsChip 18 = .ok (.iastore, 1) := by decide +kernel
theorem dX7_addsChip_19 : decode cX7_addsChip 19 = .ok (.aload_n 0, 1) := by decide +kernel
theorem dX7_addsChip_20 : decode cX7_addsChip 20 = .ok (.getfield 7, 3) := by decide +kernel
theorem dX7_addsChip_23 : decode cX7_addsChip 23 = .ok (.bipush 22, 2) := by decide +kernel
theorem dX7_addsChip_25 : decode cX7_addsChip 25 = .ok (.iload 4, 2) := by decide +kernel
theorem dX7_addsChip_27 : decode cX7_addsChip 27 = .ok (.iadd, 1) := by decide +kernel
theorem dX7_addsChip_28 : decode cX7_addsChip 28 = .ok (.iload_n 2, 1) := by decide +kernel
theorem dX7_addsChip_29 : decode cX7_addsChip 29 = .ok (.iastore, 1) := by decide +kernel
theorem dX7_addsChip_30 : decode cX7_addsChip 30 = .ok (.aload_n 0, 1) := by decide +kernel
theorem dX7_addsChip_31 : decode cX7_addsChip 31 = .ok (.getfield 7, 3) := by decide +kernel
theorem dX7_addsChip_34 : decode cX7_addsChip 34 = .ok (.bipush 27, 2) := by decide +kernel
theorem dX7_addsChip_36 : decode cX7_addsChip 36 = .ok (.iload 4, 2) := by decide +kernel
theorem dX7_addsChip_38 : decode cX7_addsChip 38 = .ok (.iadd, 1) := by decide +kernel
theorem dX7_addsChip_39 : decode cX7_addsChip 39 = .ok (.iload_n 3, 1) := by decide +kernel
theorem dX7_addsChip_40 : decode cX7_addsChip 40 = .ok (.iastore, 1) := by decide +kernel
theorem dX7_addsChip_41 : decode cX7_addsChip 41 = .ok (.aload_n 0, 1) := by decide +kernel
theorem dX7_addsChip_42 : decode cX7_addsChip 42 = .ok (.getfield 7, 3) := by decide +kernel
theorem dX7_addsChip_45 : decode cX7_addsChip 45 = .ok (.iconst 1, 1) := by decide +kernel
theorem dX7_addsChip_46 : decode cX7_addsChip 46 = .ok (.dup2, 1) := by decide +kernel
theorem dX7_addsChip_47 : decode cX7_addsChip 47 = .ok (.iaload, 1) := by decide +kernel
theorem dX7_addsChip_48 : decode cX7_addsChip 48 = .ok (.iconst 1, 1) := by decide +kernel
theorem dX7_addsChip_49 : decode cX7_addsChip 49 = .ok (.iadd, 1) := by decide +kernel
theorem dX7_addsChip_50 : decode cX7_addsChip 50 = .ok (.iastore, 1) := by decide +kernel
theorem dX7_addsChip_51 : decode cX7_addsChip 51 = .ok (.iload 4, 2) := by decide +kernel
theorem dX7_addsChip_53 : decode cX7_addsChip 53 = .ok (.ireturn, 1) := by decide +kernel
theorem dX7_chip_0 : decode cX7_chip 0 = .ok (.aload_n 0, 1) := by decide +kernel
theorem dX7_chip_1 : decode cX7_chip 1 = .ok (.iload_n 1, 1) := by decide +kernel
theorem dX7_chip_2 : decode cX7_chip 2 = .ok (.iload_n 2, 1) := by decide +kernel
theorem dX7_chip_3 : decode cX7_chip 3 = .ok (.iload_n 3, 1) := by decide +kernel
theorem dX7_chip_4 : decode cX7_chip 4 = .ok (.invokevirtual 70, 3) := by decide +kernel
theorem dX7_chip_7 : decode cX7_chip 7 = .ok (.istore 4, 2) := by decide +kernel
theorem dX7_chip_9 : decode cX7_chip 9 = .ok (.iload 4, 2) := by decide +kernel
theorem dX7_chip_11 : decode cX7_chip 11 = .ok (.ifCond .eq 6, 3) := by decide +kernel
theorem dX7_chip_14 : decode cX7_chip 14 = .ok (.iload 4, 2) := by decide +kernel
theorem dX7_chip_16 : decode cX7_chip 16 = .ok (.ireturn, 1) := by decide +kernel
theorem dX7_chip_17 : decode cX7_chip 17 = .ok (.aload_n 0, 1) := by decide +kernel
theorem dX7_chip_18 : decode cX7_chip 18 = .ok (.invokevirtual 61, 3) := by decide +kernel
theorem dX7_chip_21 : decode cX7_chip 21 = .ok (.aload_n 0, 1) := by decide +kernel
theorem dX7_chip_22 : decode cX7_chip 22 = .ok (.iload_n 1, 1) := by decide +kernel
theorem dX7_chip_23 : decode cX7_chip 23 = .ok (.iload_n 2, 1) := by decide +kernel
theorem dX7_chip_24 : decode cX7_chip 24 = .ok (.iload_n 3, 1) := by decide +kernel
theorem dX7_chip_25 : decode cX7_chip 25 = .ok (.invokevirtual 74, 3) := by decide +kernel
theorem dX7_chip_28 : decode cX7_chip 28 = .ok (.ireturn, 1) := by decide +kernel
theorem dX7_manyOf_0 : decode cX7_manyOf 0 = .ok (.iload_n 1, 1) := by decide +kernel
theorem dX7_manyOf_1 : decode cX7_manyOf 1 = .ok (.ifCond .ne 6, 3) := by decide +kernel
theorem dX7_manyOf_4 : decode cX7_manyOf 4 = .ok (.bipush 16, 2) := by decide +kernel
theorem dX7_manyOf_6 : decode cX7_manyOf 6 = .ok (.ireturn, 1) := by decide +kernel
theorem dX7_manyOf_7 : decode cX7_manyOf 7 = .ok (.iload_n 1, 1) := by decide +kernel
theorem dX7_manyOf_8 : decode cX7_manyOf 8 = .ok (.iconst 4, 1) := by decide +kernel
theorem dX7_manyOf_9 : decode cX7_manyOf 9 = .ok (.if_icmp .ne 12, 3) := by decide +kernel
theorem dX7_manyOf_12 : decode cX7_manyOf 12 = .ok (.aload_n 0, 1) := by decide +kernel
theorem dX7_manyOf_13 : decode cX7_manyOf 13 = .ok (.getfield 7, 3) := by decide +kernel
theorem dX7_manyOf_16 : decode cX7_manyOf 16 = .ok (.iconst 1, 1) := by decide +kernel
theorem dX7_manyOf_17 : decode cX7_manyOf 17 = .ok (.iaload, 1) := by decide +kernel
theorem dX7_manyOf_18 : decode cX7_manyOf 18 = .ok (.goto 9, 3) := by decide +kernel
theorem dX7_manyOf_21 : decode cX7_manyOf 21 = .ok (.aload_n 0, 1) := by decide +kernel
theorem dX7_manyOf_22 : decode cX7_manyOf 22 = .ok (.getfield 7, 3) := by decide +kernel
theorem dX7_manyOf_25 : decode cX7_manyOf 25 = .ok (.iconst 0, 1) := by decide +kernel
theorem dX7_manyOf_26 : decode cX7_manyOf 26 = .ok (.iaload, 1) := by decide +kernel
theorem dX7_manyOf_27 : decode cX7_manyOf 27 = .ok (.ireturn, 1) := by decide +kernel
theorem dX7_checksFault_0 : decode cX7_checksFault 0 = .ok (.iload_n 1, 1) := by decide +kernel
theorem dX7_checksFault_1 : decode cX7_checksFault 1 = .ok (.iconst 0, 1) := by decide +kernel
theorem dX7_checksFault_2 : decode cX7_checksFault 2 = .ok (.iconst 4, 1) := by decide +kernel
theorem dX7_checksFault_3 : decode cX7_checksFault 3 = .ok (.invokestatic 45, 3) := by decide +kernel
theorem dX7_checksFault_6 : decode cX7_checksFault 6 = .ok (.ifCond .eq 18, 3) := by decide +kernel
theorem dX7_checksFault_9 : decode cX7_checksFault 9 = .ok (.iload_n 2, 1) := by decide +kernel
theorem dX7_checksFault_10 : decode cX7_checksFault 10 = .ok (.iconst 0, 1) := by decide +kernel
theorem dX7_checksFault_11 : decode cX7_checksFault 11 = .ok (.aload_n 0, 1) := by decide +kernel
theorem dX7_checksFault_12 : decode cX7_checksFault 12 = .ok (.iload_n 1, 1) := by decide +kernel
theorem dX7_checksFault_13 : decode cX7_checksFault 13 = .ok (.invokevirtual 77, 3) := by decide +kernel
theorem dX7_checksFault_16 : decode cX7_checksFault 16 = .ok (.iconst 1, 1) := by decide +kernel
theorem dX7_checksFault_17 : decode cX7_checksFault 17 = .ok (.isub, 1) := by decide +kernel
theorem dX7_checksFault_18 : decode cX7_checksFault 18 = .ok (.invokestatic 45, 3) := by decide +kernel
theorem dX7_checksFault_21 : decode cX7_checksFault 21 = .ok (.ifCond .ne 6, 3) := by decide +kernel
theorem dX7_checksFault_24 : decode cX7_checksFault 24 = .ok (.ldc 53, 2) := by decide +kernel
theorem dX7_checksFault_26 : decode cX7_checksFault 26 = .ok (.ireturn, 1) := by decide +kernel
theorem dX7_checksFault_27 : decode cX7_checksFault 27 = .ok (.iload_n 1, 1) := by decide +kernel
theorem dX7_checksFault_28 : decode cX7_checksFault 28 = .ok (.iconst 1, 1) := by decide +kernel
theorem dX7_checksFault_29 : decode cX7_checksFault 29 = .ok (.if_icmp .ne 24, 3) := by decide +kernel
theorem dX7_checksFault_32 : decode cX7_checksFault 32 = .ok (.iload_n 3, 1) := by decide +kernel
theorem dX7_checksFault_33 : decode cX7_checksFault 33 = .ok (.iload_n 2, 1) := by decide +kernel
theorem dX7_checksFault_34 : decode cX7_checksFault 34 = .ok (.iconst 1, 1) := by decide +kernel
theorem dX7_checksFault_35 : decode cX7_checksFault 35 = .ok (.iadd, 1) := by decide +kernel
theorem dX7_checksFault_36 : decode cX7_checksFault 36 = .ok (.aload_n 0, 1) := by decide +kernel
theorem dX7_checksFault_37 : decode cX7_checksFault 37 = .ok (.getfield 7, 3) := by decide +kernel
theorem dX7_checksFault_40 : decode cX7_checksFault 40 = .ok (.iconst 0, 1) := by decide +kernel
theorem dX7_checksFault_41 : decode cX7_checksFault 41 = .ok (.iaload, 1) := by decide +kernel
theorem dX7_checksFault_42 : decode cX7_checksFault 42 = .ok (.iconst 1, 1) := by decide +kernel
theorem dX7_checksFault_43 : decode cX7_checksFault 43 = .ok (.isub, 1) := by decide +kernel
theorem dX7_checksFault_44 : decode cX7_checksFault 44 = .ok (.invokestatic 45, 3) := by decide +kernel
theorem dX7_checksFault_47 : decode cX7_checksFault 47 = .ok (.ifCond .ne 13, 3) := by decide +kernel
theorem dX7_checksFault_50 : decode cX7_checksFault 50 = .ok (.goto 7, 3) := by decide +kernel
theorem dX7_checksFault_53 : decode cX7_checksFault 53 = .ok (.iload_n 3, 1) := by decide +kernel
theorem dX7_checksFault_54 : decode cX7_checksFault 54 = .ok (.ifCond .eq 6, 3) := by decide +kernel
theorem dX7_checksFault_57 : decode cX7_checksFault 57 = .ok (.ldc 53, 2) := by decide +kernel
theorem dX7_checksFault_59 : decode cX7_checksFault 59 = .ok (.ireturn, 1) := by decide +kernel
theorem dX7_checksFault_60 : decode cX7_checksFault 60 = .ok (.iconst 0, 1) := by decide +kernel
theorem dX7_checksFault_61 : decode cX7_checksFault 61 = .ok (.istore 4, 2) := by decide +kernel
theorem dX7_checksFault_63 : decode cX7_checksFault 63 = .ok (.iload 4, 2) := by decide +kernel
theorem dX7_checksFault_65 : decode cX7_checksFault 65 = .ok (.aload_n 0, 1) := by decide +kernel
theorem dX7_checksFault_66 : decode cX7_checksFault 66 = .ok (.getfield 7, 3) := by decide +kernel
theorem dX7_checksFault_69 : decode cX7_checksFault 69 = .ok (.iconst 2, 1) := by decide +kernel
theorem dX7_checksFault_70 : decode cX7_checksFault 70 = .ok (.iaload, 1) := by decide +kernel
theorem dX7_checksFault_71 : decode cX7_checksFault 71 = .ok (.if_icmp .ge 54, 3) := by decide +kernel
theorem dX7_checksFault_74 : decode cX7_checksFault 74 = .ok (.aload_n 0, 1) := by decide +kernel
theorem dX7_checksFault_75 : decode cX7_checksFault 75 = .ok (.getfield 7, 3) := by decide +kernel
theorem dX7_checksFault_78 : decode cX7_checksFault 78 = .ok (.bipush 32, 2) := by decide +kernel
theorem dX7_checksFault_80 : decode cX7_checksFault 80 = .ok (.iload 4, 2) := by decide +kernel
theorem dX7_checksFault_82 : decode cX7_checksFault 82 = .ok (.iadd, 1) := by decide +kernel
theorem dX7_checksFault_83 : decode cX7_checksFault 83 = .ok (.iaload, 1) := by decide +kernel
theorem dX7_checksFault_84 : decode cX7_checksFault 84 = .ok (.iload_n 1, 1) := by decide +kernel
theorem dX7_checksFault_85 : decode cX7_checksFault 85 = .ok (.if_icmp .ne 34, 3) := by decide +kernel
theorem dX7_checksFault_88 : decode cX7_checksFault 88 = .ok (.aload_n 0, 1) := by decide +kernel
theorem dX7_checksFault_89 : decode cX7_checksFault 89 = .ok (.getfield 7, 3) := by decide +kernel
theorem dX7_checksFault_92 : decode cX7_checksFault 92 = .ok (.bipush 42, 2) := by decide +kernel
theorem dX7_checksFault_94 : decode cX7_checksFault 94 = .ok (.iload 4, 2) := by decide +kernel
theorem dX7_checksFault_96 : decode cX7_checksFault 96 = .ok (.iadd, 1) := by decide +kernel
theorem dX7_checksFault_97 : decode cX7_checksFault 97 = .ok (.iaload, 1) := by decide +kernel
theorem dX7_checksFault_98 : decode cX7_checksFault 98 = .ok (.iload_n 2, 1) := by decide +kernel
theorem dX7_checksFault_99 : decode cX7_checksFault 99 = .ok (.if_icmp .ne 20, 3) := by decide +kernel
theorem dX7_checksFault_102 : decode cX7_checksFault 102 = .ok (.aload_n 0, 1) := by decide +kernel
theorem dX7_checksFault_103 : decode cX7_checksFault 103 = .ok (.getfield 7, 3) := by decide +kernel
theorem dX7_checksFault_106 : decode cX7_checksFault 106 = .ok (.bipush 52, 2) := by decide +kernel
theorem dX7_checksFault_108 : decode cX7_checksFault 108 = .ok (.iload 4, 2) := by decide +kernel
theorem dX7_checksFault_110 : decode cX7_checksFault 110 = .ok (.iadd, 1) := by decide +kernel
theorem dX7_checksFault_111 : decode cX7_checksFault 111 = .ok (.iaload, 1) := by decide +kernel
theorem dX7_checksFault_112 : decode cX7_checksFault 112 = .ok (.iload_n 3, 1) := by decide +kernel
theorem dX7_checksFault_113 : decode cX7_checksFault 113 = .ok (.if_icmp .ne 6, 3) := by decide +kernel
theorem dX7_checksFault_116 : decode cX7_checksFault 116 = .ok (.ldc 35, 2) := by decide +kernel
theorem dX7_checksFault_118 : decode cX7_checksFault 118 = .ok (.ireturn, 1) := by decide +kernel
theorem dX7_checksFault_119 : decode cX7_checksFault 119 = .ok (.iinc 4 1, 3) := by decide +kernel
theorem dX7_checksFault_122 : decode cX7_checksFault 122 = .ok (.goto (-59), 3) := by decide +kernel
theorem dX7_checksFault_125 : decode cX7_checksFault 125 = .ok (.aload_n 0, 1) := by decide +kernel
theorem dX7_checksFault_126 : decode cX7_checksFault 126 = .ok (.getfield 7, 3) := by decide +kernel
theorem dX7_checksFault_129 : decode cX7_checksFault 129 = .ok (.iconst 2, 1) := by decide +kernel
theorem dX7_checksFault_130 : decode cX7_checksFault 130 = .ok (.iaload, 1) := by decide +kernel
theorem dX7_checksFault_131 : decode cX7_checksFault 131 = .ok (.bipush 10, 2) := by decide +kernel
theorem dX7_checksFault_133 : decode cX7_checksFault 133 = .ok (.if_icmp .ne 8, 3) := by decide +kernel
theorem dX7_checksFault_136 : decode cX7_checksFault 136 = .ok (.ldc 57, 2) := by decide +kernel
theorem dX7_checksFault_138 : decode cX7_checksFault 138 = .ok (.goto 4, 3) := by decide +kernel
theorem dX7_checksFault_141 : decode cX7_checksFault 141 = .ok (.iconst 0, 1) := by decide +kernel
theorem dX7_checksFault_142 : decode cX7_checksFault 142 = .ok (.ireturn, 1) := by decide +kernel
theorem dX7_addsFault_0 : decode cX7_addsFault 0 = .ok (.aload_n 0, 1) := by decide +kernel
theorem dX7_addsFault_1 : decode cX7_addsFault 1 = .ok (.getfield 7, 3) := by decide +kernel
theorem dX7_addsFault_4 : decode cX7_addsFault 4 = .ok (.iconst 2, 1) := by decide +kernel
theorem dX7_addsFault_5 : decode cX7_addsFault 5 = .ok (.iaload, 1) := by decide +kernel
theorem dX7_addsFault_6 : decode cX7_addsFault 6 = .ok (.istore 4, 2) := by decide +kernel
theorem dX7_addsFault_8 : decode cX7_addsFault 8 = .ok (.aload_n 0, 1) := by decide +kernel
theorem dX7_addsFault_9 : decode cX7_addsFault 9 = .ok (.getfield 7, 3) := by decide +kernel
theorem dX7_addsFault_12 : decode cX7_addsFault 12 = .ok (.bipush 32, 2) := by decide +kernel
theorem dX7_addsFault_14 : decode cX7_addsFault 14 = .ok (.iload 4, 2) := by decide +kernel
theorem dX7_addsFault_16 : decode cX7_addsFault 16 = .ok (.iadd, 1) := by decide +kernel
theorem dX7_addsFault_17 : decode cX7_addsFault 17 = .ok (.iload_n 1, 1) := by decide +kernel
theorem dX7_addsFault_18 : decode cX7_addsFault 18 = .ok (.iastore, 1) := by decide +kernel
theorem dX7_addsFault_19 : decode cX7_addsFault 19 = .ok (.aload_n 0, 1) := by decide +kernel
theorem dX7_addsFault_20 : decode cX7_addsFault 20 = .ok (.getfield 7, 3) := by decide +kernel
theorem dX7_addsFault_23 : decode cX7_addsFault 23 = .ok (.bipush 42, 2) := by decide +kernel
theorem dX7_addsFault_25 : decode cX7_addsFault 25 = .ok (.iload 4, 2) := by decide +kernel
theorem dX7_addsFault_27 : decode cX7_addsFault 27 = .ok (.iadd, 1) := by decide +kernel
theorem dX7_addsFault_28 : decode cX7_addsFault 28 = .ok (.iload_n 2, 1) := by decide +kernel
theorem dX7_addsFault_29 : decode cX7_addsFault 29 = .ok (.iastore, 1) := by decide +kernel
theorem dX7_addsFault_30 : decode cX7_addsFault 30 = .ok (.aload_n 0, 1) := by decide +kernel
theorem dX7_addsFault_31 : decode cX7_addsFault 31 = .ok (.getfield 7, 3) := by decide +kernel
theorem dX7_addsFault_34 : decode cX7_addsFault 34 = .ok (.bipush 52, 2) := by decide +kernel
theorem dX7_addsFault_36 : decode cX7_addsFault 36 = .ok (.iload 4, 2) := by decide +kernel
theorem dX7_addsFault_38 : decode cX7_addsFault 38 = .ok (.iadd, 1) := by decide +kernel
theorem dX7_addsFault_39 : decode cX7_addsFault 39 = .ok (.iload_n 3, 1) := by decide +kernel
theorem dX7_addsFault_40 : decode cX7_addsFault 40 = .ok (.iastore, 1) := by decide +kernel
theorem dX7_addsFault_41 : decode cX7_addsFault 41 = .ok (.aload_n 0, 1) := by decide +kernel
theorem dX7_addsFault_42 : decode cX7_addsFault 42 = .ok (.getfield 7, 3) := by decide +kernel
theorem dX7_addsFault_45 : decode cX7_addsFault 45 = .ok (.bipush 62, 2) := by decide +kernel
theorem dX7_addsFault_47 : decode cX7_addsFault 47 = .ok (.iload 4, 2) := by decide +kernel
theorem dX7_addsFault_49 : decode cX7_addsFault 49 = .ok (.iadd, 1) := by decide +kernel
theorem dX7_addsFault_50 : decode cX7_addsFault 50 = .ok (.iconst (-1), 1) := by decide +kernel
theorem dX7_addsFault_51 : decode cX7_addsFault 51 = .ok (.iastore, 1) := by decide +kernel
theorem dX7_addsFault_52 : decode cX7_addsFault 52 = .ok (.aload_n 0, 1) := by decide +kernel
theorem dX7_addsFault_53 : decode cX7_addsFault 53 = .ok (.getfield 7, 3) := by decide +kernel
theorem dX7_addsFault_56 : decode cX7_addsFault 56 = .ok (.iconst 2, 1) := by decide +kernel
theorem dX7_addsFault_57 : decode cX7_addsFault 57 = .ok (.dup2, 1) := by decide +kernel
theorem dX7_addsFault_58 : decode cX7_addsFault 58 = .ok (.iaload, 1) := by decide +kernel
theorem dX7_addsFault_59 : decode cX7_addsFault 59 = .ok (.iconst 1, 1) := by decide +kernel
theorem dX7_addsFault_60 : decode cX7_addsFault 60 = .ok (.iadd, 1) := by decide +kernel
theorem dX7_addsFault_61 : decode cX7_addsFault 61 = .ok (.iastore, 1) := by decide +kernel
theorem dX7_addsFault_62 : decode cX7_addsFault 62 = .ok (.iload 4, 2) := by decide +kernel
theorem dX7_addsFault_64 : decode cX7_addsFault 64 = .ok (.ireturn, 1) := by decide +kernel
theorem dX7_fault_0 : decode cX7_fault 0 = .ok (.aload_n 0, 1) := by decide +kernel
theorem dX7_fault_1 : decode cX7_fault 1 = .ok (.iload_n 1, 1) := by decide +kernel
theorem dX7_fault_2 : decode cX7_fault 2 = .ok (.iload_n 2, 1) := by decide +kernel
theorem dX7_fault_3 : decode cX7_fault 3 = .ok (.iload_n 3, 1) := by decide +kernel
theorem dX7_fault_4 : decode cX7_fault 4 = .ok (.invokevirtual 80, 3) := by decide +kernel
theorem dX7_fault_7 : decode cX7_fault 7 = .ok (.istore 4, 2) := by decide +kernel
theorem dX7_fault_9 : decode cX7_fault 9 = .ok (.iload 4, 2) := by decide +kernel
theorem dX7_fault_11 : decode cX7_fault 11 = .ok (.ifCond .eq 6, 3) := by decide +kernel
theorem dX7_fault_14 : decode cX7_fault 14 = .ok (.iload 4, 2) := by decide +kernel
theorem dX7_fault_16 : decode cX7_fault 16 = .ok (.ireturn, 1) := by decide +kernel
theorem dX7_fault_17 : decode cX7_fault 17 = .ok (.aload_n 0, 1) := by decide +kernel
theorem dX7_fault_18 : decode cX7_fault 18 = .ok (.invokevirtual 61, 3) := by decide +kernel
theorem dX7_fault_21 : decode cX7_fault 21 = .ok (.aload_n 0, 1) := by decide +kernel
theorem dX7_fault_22 : decode cX7_fault 22 = .ok (.iload_n 1, 1) := by decide +kernel
theorem dX7_fault_23 : decode cX7_fault 23 = .ok (.iload_n 2, 1) := by decide +kernel
theorem dX7_fault_24 : decode cX7_fault 24 = .ok (.iload_n 3, 1) := by decide +kernel
theorem dX7_fault_25 : decode cX7_fault 25 = .ok (.invokevirtual 83, 3) := by decide +kernel
theorem dX7_fault_28 : decode cX7_fault 28 = .ok (.ireturn, 1) := by decide +kernel
theorem dX7_bless_0 : decode cX7_bless 0 = .ok (.iload_n 1, 1) := by decide +kernel
theorem dX7_bless_1 : decode cX7_bless 1 = .ok (.iconst 0, 1) := by decide +kernel
theorem dX7_bless_2 : decode cX7_bless 2 = .ok (.bipush 15, 2) := by decide +kernel
theorem dX7_bless_4 : decode cX7_bless 4 = .ok (.invokestatic 45, 3) := by decide +kernel
theorem dX7_bless_7 : decode cX7_bless 7 = .ok (.ifCond .eq 13, 3) := by decide +kernel
theorem dX7_bless_10 : decode cX7_bless 10 = .ok (.iload_n 2, 1) := by decide +kernel
theorem dX7_bless_11 : decode cX7_bless 11 = .ok (.iconst 0, 1) := by decide +kernel
theorem dX7_bless_12 : decode cX7_bless 12 = .ok (.bipush 127, 2) := by decide +kernel
theorem dX7_bless_14 : decode cX7_bless 14 = .ok (.invokestatic 45, 3) := by decide +kernel
theorem dX7_bless_17 : decode cX7_bless 17 = .ok (.ifCond .ne 6, 3) := by decide +kernel
theorem dX7_bless_20 : decode cX7_bless 20 = .ok (.ldc 53, 2) := by decide +kernel
theorem dX7_bless_22 : decode cX7_bless 22 = .ok (.ireturn, 1) := by decide +kernel
theorem dX7_bless_23 : decode cX7_bless 23 = .ok (.aload_n 0, 1) := by decide +kernel
theorem dX7_bless_24 : decode cX7_bless 24 = .ok (.invokevirtual 61, 3) := by decide +kernel
theorem dX7_bless_27 : decode cX7_bless 27 = .ok (.aload_n 0, 1) := by decide +kernel
theorem dX7_bless_28 : decode cX7_bless 28 = .ok (.getfield 7, 3) := by decide +kernel
theorem dX7_bless_31 : decode cX7_bless 31 = .ok (.bipush 72, 2) := by decide +kernel
theorem dX7_bless_33 : decode cX7_bless 33 = .ok (.iload_n 1, 1) := by decide +kernel
theorem dX7_bless_34 : decode cX7_bless 34 = .ok (.iadd, 1) := by decide +kernel
theorem dX7_bless_35 : decode cX7_bless 35 = .ok (.iaload, 1) := by decide +kernel
theorem dX7_bless_36 : decode cX7_bless 36 = .ok (.istore_n 3, 1) := by decide +kernel
theorem dX7_bless_37 : decode cX7_bless 37 = .ok (.aload_n 0, 1) := by decide +kernel
theorem dX7_bless_38 : decode cX7_bless 38 = .ok (.getfield 7, 3) := by decide +kernel
theorem dX7_bless_41 : decode cX7_bless 41 = .ok (.bipush 72, 2) := by decide +kernel
theorem dX7_bless_43 : decode cX7_bless 43 = .ok (.iload_n 1, 1) := by decide +kernel
theorem dX7_bless_44 : decode cX7_bless 44 = .ok (.iadd, 1) := by decide +kernel
theorem dX7_bless_45 : decode cX7_bless 45 = .ok (.iload_n 2, 1) := by decide +kernel
theorem dX7_bless_46 : decode cX7_bless 46 = .ok (.iastore, 1) := by decide +kernel
theorem dX7_bless_47 : decode cX7_bless 47 = .ok (.iload_n 3, 1) := by decide +kernel
theorem dX7_bless_48 : decode cX7_bless 48 = .ok (.ireturn, 1) := by decide +kernel
theorem dX7_weekday_0 : decode cX7_weekday 0 = .ok (.aload_n 0, 1) := by decide +kernel
theorem dX7_weekday_1 : decode cX7_weekday 1 = .ok (.getfield 7, 3) := by decide +kernel
theorem dX7_weekday_4 : decode cX7_weekday 4 = .ok (.iconst 3, 1) := by decide +kernel
theorem dX7_weekday_5 : decode cX7_weekday 5 = .ok (.iaload, 1) := by decide +kernel
theorem dX7_weekday_6 : decode cX7_weekday 6 = .ok (.bipush 7, 2) := by decide +kernel
theorem dX7_weekday_8 : decode cX7_weekday 8 = .ok (.irem, 1) := by decide +kernel
theorem dX7_weekday_9 : decode cX7_weekday 9 = .ok (.ireturn, 1) := by decide +kernel
theorem dX7_touchedOn_0 : decode cX7_touchedOn 0 = .ok (.iconst 0, 1) := by decide +kernel
theorem dX7_touchedOn_1 : decode cX7_touchedOn 1 = .ok (.istore_n 2, 1) := by decide +kernel
theorem dX7_touchedOn_2 : decode cX7_touchedOn 2 = .ok (.iconst 0, 1) := by decide +kernel
theorem dX7_touchedOn_3 : decode cX7_touchedOn 3 = .ok (.istore_n 3, 1) := by decide +kernel
theorem dX7_touchedOn_4 : decode cX7_touchedOn 4 = .ok (.iload_n 3, 1) := by decide +kernel
theorem dX7_touchedOn_5 : decode cX7_touchedOn 5 = .ok (.bipush 16, 2) := by decide +kernel
theorem dX7_touchedOn_7 : decode cX7_touchedOn 7 = .ok (.if_icmp .ge 35, 3) := by decide +kernel
theorem dX7_touchedOn_10 : decode cX7_touchedOn 10 = .ok (.iload_n 2, 1) := by decide +kernel
theorem dX7_touchedOn_11 : decode cX7_touchedOn 11 = .ok (.aload_n 0, 1) := by decide +kernel
theorem dX7_touchedOn_12 : decode cX7_touchedOn 12 = .ok (.getfield 7, 3) := by decide +kernel
theorem dX7_touchedOn_15 : decode cX7_touchedOn 15 = .ok (.bipush 72, 2) := by decide +kernel
theorem dX7_touchedOn_17 : decode cX7_touchedOn 17 = .ok (.iload_n 3, 1) := by decide +kernel
theorem dX7_touchedOn_18 : decode cX7_touchedOn 18 = .ok (.iadd, 1) := by decide +kernel
theorem dX7_touchedOn_19 : decode cX7_touchedOn 19 = .ok (.iaload, 1) := by decide +kernel
theorem dX7_touchedOn_20 : decode cX7_touchedOn 20 = .ok (.iload_n 1, 1) := by decide +kernel
theorem dX7_touchedOn_21 : decode cX7_touchedOn 21 = .ok (.invokestatic 36, 3) := by decide +kernel
theorem dX7_touchedOn_24 : decode cX7_touchedOn 24 = .ok (.ifCond .eq 9, 3) := by decide +kernel
theorem dX7_touchedOn_27 : decode cX7_touchedOn 27 = .ok (.iconst 1, 1) := by decide +kernel
theorem dX7_touchedOn_28 : decode cX7_touchedOn 28 = .ok (.iload_n 3, 1) := by decide +kernel
theorem dX7_touchedOn_29 : decode cX7_touchedOn 29 = .ok (.ishl, 1) := by decide +kernel
theorem dX7_touchedOn_30 : decode cX7_touchedOn 30 = .ok (.goto 4, 3) := by decide +kernel
theorem dX7_touchedOn_33 : decode cX7_touchedOn 33 = .ok (.iconst 0, 1) := by decide +kernel
theorem dX7_touchedOn_34 : decode cX7_touchedOn 34 = .ok (.ior, 1) := by decide +kernel
theorem dX7_touchedOn_35 : decode cX7_touchedOn 35 = .ok (.istore_n 2, 1) := by decide +kernel
theorem dX7_touchedOn_36 : decode cX7_touchedOn 36 = .ok (.iinc 3 1, 3) := by decide +kernel
theorem dX7_touchedOn_39 : decode cX7_touchedOn 39 = .ok (.goto (-35), 3) := by decide +kernel
theorem dX7_touchedOn_42 : decode cX7_touchedOn 42 = .ok (.iload_n 2, 1) := by decide +kernel
theorem dX7_touchedOn_43 : decode cX7_touchedOn 43 = .ok (.ireturn, 1) := by decide +kernel
theorem dX7_touchedNow_0 : decode cX7_touchedNow 0 = .ok (.aload_n 0, 1) := by decide +kernel
theorem dX7_touchedNow_1 : decode cX7_touchedNow 1 = .ok (.aload_n 0, 1) := by decide +kernel
theorem dX7_touchedNow_2 : decode cX7_touchedNow 2 = .ok (.invokevirtual 86, 3) := by decide +kernel
theorem dX7_touchedNow_5 : decode cX7_touchedNow 5 = .ok (.invokevirtual 90, 3) := by decide +kernel
theorem dX7_touchedNow_8 : decode cX7_touchedNow 8 = .ok (.aload_n 0, 1) := by decide +kernel
theorem dX7_touchedNow_9 : decode cX7_touchedNow 9 = .ok (.getfield 7, 3) := by decide +kernel
theorem dX7_touchedNow_12 : decode cX7_touchedNow 12 = .ok (.iconst 5, 1) := by decide +kernel
theorem dX7_touchedNow_13 : decode cX7_touchedNow 13 = .ok (.iaload, 1) := by decide +kernel
theorem dX7_touchedNow_14 : decode cX7_touchedNow 14 = .ok (.ior, 1) := by decide +kernel
theorem dX7_touchedNow_15 : decode cX7_touchedNow 15 = .ok (.ireturn, 1) := by decide +kernel
theorem dX7_orMissing_0 : decode cX7_orMissing 0 = .ok (.iload_n 0, 1) := by decide +kernel
theorem dX7_orMissing_1 : decode cX7_orMissing 1 = .ok (.iconst (-1), 1) := by decide +kernel
theorem dX7_orMissing_2 : decode cX7_orMissing 2 = .ok (.if_icmp .ne 8, 3) := by decide +kernel
theorem dX7_orMissing_5 : decode cX7_orMissing 5 = .ok (.ldc 93, 2) := by decide +kernel
theorem dX7_orMissing_7 : decode cX7_orMissing 7 = .ok (.goto 4, 3) := by decide +kernel
theorem dX7_orMissing_10 : decode cX7_orMissing 10 = .ok (.iload_n 0, 1) := by decide +kernel
theorem dX7_orMissing_11 : decode cX7_orMissing 11 = .ok (.ireturn, 1) := by decide +kernel
theorem dX7_pinOf_0 : decode cX7_pinOf 0 = .ok (.iload_n 1, 1) := by decide +kernel
theorem dX7_pinOf_1 : decode cX7_pinOf 1 = .ok (.iconst 0, 1) := by decide +kernel
theorem dX7_pinOf_2 : decode cX7_pinOf 2 = .ok (.bipush 15, 2) := by decide +kernel
theorem dX7_pinOf_4 : decode cX7_pinOf 4 = .ok (.invokestatic 45, 3) := by decide +kernel
theorem dX7_pinOf_7 : decode cX7_pinOf 7 = .ok (.ifCond .eq 12, 3) := by decide +kernel
theorem dX7_pinOf_10 : decode cX7_pinOf 10 = .ok (.iload_n 2, 1) := by decide +kernel
theorem dX7_pinOf_11 : decode cX7_pinOf 11 = .ok (.iconst 0, 1) := by decide +kernel
theorem dX7_pinOf_12 : decode cX7_pinOf 12 = .ok (.iconst 4, 1) := by decide +kernel
theorem dX7_pinOf_13 : decode cX7_pinOf 13 = .ok (.invokestatic 45, 3) := by decide +kernel
theorem dX7_pinOf_16 : decode cX7_pinOf 16 = .ok (.ifCond .ne 6, 3) := by decide +kernel
theorem dX7_pinOf_19 : decode cX7_pinOf 19 = .ok (.ldc 53, 2) := by decide +kernel
theorem dX7_pinOf_21 : decode cX7_pinOf 21 = .ok (.ireturn, 1) := by decide +kernel
theorem dX7_pinOf_22 : decode cX7_pinOf 22 = .ok (.aload_n 0, 1) := by decide +kernel
theorem dX7_pinOf_23 : decode cX7_pinOf 23 = .ok (.iload_n 1, 1) := by decide +kernel
theorem dX7_pinOf_24 : decode cX7_pinOf 24 = .ok (.invokevirtual 67, 3) := by decide +kernel
theorem dX7_pinOf_27 : decode cX7_pinOf 27 = .ok (.istore_n 3, 1) := by decide +kernel
theorem dX7_pinOf_28 : decode cX7_pinOf 28 = .ok (.iload_n 2, 1) := by decide +kernel
theorem dX7_pinOf_29 : decode cX7_pinOf 29 = .ok (.tableswitch 72 0 3 #[31, 40, 45, 62], 31) := by decide +kernel
theorem dX7_pinOf_60 : decode cX7_pinOf 60 = .ok (.aload_n 0, 1) := by decide +kernel
theorem dX7_pinOf_61 : decode cX7_pinOf 61 = .ok (.iload_n 1, 1) := by decide +kernel
theorem dX7_pinOf_62 : decode cX7_pinOf 62 = .ok (.invokevirtual 54, 3) := by decide +kernel
theorem dX7_pinOf_65 : decode cX7_pinOf 65 = .ok (.invokestatic 94, 3) := by decide +kernel
theorem dX7_pinOf_68 : decode cX7_pinOf 68 = .ok (.ireturn, 1) := by decide +kernel
theorem dX7_pinOf_69 : decode cX7_pinOf 69 = .ok (.iload_n 3, 1) := by decide +kernel
theorem dX7_pinOf_70 : decode cX7_pinOf 70 = .ok (.invokestatic 94, 3) := by decide +kernel
theorem dX7_pinOf_73 : decode cX7_pinOf 73 = .ok (.ireturn, 1) := by decide +kernel
theorem dX7_pinOf_74 : decode cX7_pinOf 74 = .ok (.iload_n 3, 1) := by decide +kernel
theorem dX7_pinOf_75 : decode cX7_pinOf 75 = .ok (.iconst (-1), 1) := by decide +kernel
theorem dX7_pinOf_76 : decode cX7_pinOf 76 = .ok (.if_icmp .ne 8, 3) := by decide +kernel
theorem dX7_pinOf_79 : decode cX7_pinOf 79 = .ok (.ldc 93, 2) := by decide +kernel
theorem dX7_pinOf_81 : decode cX7_pinOf 81 = .ok (.goto 9, 3) := by decide +kernel
theorem dX7_pinOf_84 : decode cX7_pinOf 84 = .ok (.aload_n 0, 1) := by decide +kernel
theorem dX7_pinOf_85 : decode cX7_pinOf 85 = .ok (.iload_n 3, 1) := by decide +kernel
theorem dX7_pinOf_86 : decode cX7_pinOf 86 = .ok (.iload_n 1, 1) := by decide +kernel
theorem dX7_pinOf_87 : decode cX7_pinOf 87 = .ok (.invokevirtual 40, 3) := by decide +kernel
theorem dX7_pinOf_90 : decode cX7_pinOf 90 = .ok (.ireturn, 1) := by decide +kernel
theorem dX7_pinOf_91 : decode cX7_pinOf 91 = .ok (.aload_n 0, 1) := by decide +kernel
theorem dX7_pinOf_92 : decode cX7_pinOf 92 = .ok (.getfield 7, 3) := by decide +kernel
theorem dX7_pinOf_95 : decode cX7_pinOf 95 = .ok (.bipush 72, 2) := by decide +kernel
theorem dX7_pinOf_97 : decode cX7_pinOf 97 = .ok (.iload_n 1, 1) := by decide +kernel
theorem dX7_pinOf_98 : decode cX7_pinOf 98 = .ok (.iadd, 1) := by decide +kernel
theorem dX7_pinOf_99 : decode cX7_pinOf 99 = .ok (.iaload, 1) := by decide +kernel
theorem dX7_pinOf_100 : decode cX7_pinOf 100 = .ok (.ireturn, 1) := by decide +kernel
theorem dX7_pinOf_101 : decode cX7_pinOf 101 = .ok (.aload_n 0, 1) := by decide +kernel
theorem dX7_pinOf_102 : decode cX7_pinOf 102 = .ok (.invokevirtual 97, 3) := by decide +kernel
theorem dX7_pinOf_105 : decode cX7_pinOf 105 = .ok (.iload_n 1, 1) := by decide +kernel
theorem dX7_pinOf_106 : decode cX7_pinOf 106 = .ok (.invokestatic 36, 3) := by decide +kernel
theorem dX7_pinOf_109 : decode cX7_pinOf 109 = .ok (.ifCond .eq 7, 3) := by decide +kernel
theorem dX7_pinOf_112 : decode cX7_pinOf 112 = .ok (.iconst 1, 1) := by decide +kernel
theorem dX7_pinOf_113 : decode cX7_pinOf 113 = .ok (.goto 4, 3) := by decide +kernel
theorem dX7_pinOf_116 : decode cX7_pinOf 116 = .ok (.iconst 0, 1) := by decide +kernel
theorem dX7_pinOf_117 : decode cX7_pinOf 117 = .ok (.ireturn, 1) := by decide +kernel
theorem dX7_isFault_0 : decode cX7_isFault 0 = .ok (.iload_n 1, 1) := by decide +kernel
theorem dX7_isFault_1 : decode cX7_isFault 1 = .ok (.iconst 0, 1) := by decide +kernel
theorem dX7_isFault_2 : decode cX7_isFault 2 = .ok (.aload_n 0, 1) := by decide +kernel
theorem dX7_isFault_3 : decode cX7_isFault 3 = .ok (.getfield 7, 3) := by decide +kernel
theorem dX7_isFault_6 : decode cX7_isFault 6 = .ok (.iconst 2, 1) := by decide +kernel
theorem dX7_isFault_7 : decode cX7_isFault 7 = .ok (.iaload, 1) := by decide +kernel
theorem dX7_isFault_8 : decode cX7_isFault 8 = .ok (.iconst 1, 1) := by decide +kernel
theorem dX7_isFault_9 : decode cX7_isFault 9 = .ok (.isub, 1) := by decide +kernel
theorem dX7_isFault_10 : decode cX7_isFault 10 = .ok (.invokestatic 45, 3) := by decide +kernel
theorem dX7_isFault_13 : decode cX7_isFault 13 = .ok (.ireturn, 1) := by decide +kernel
theorem dX7_isFaultOrNone_0 : decode cX7_isFaultOrNone 0 = .ok (.iload_n 1, 1) := by decide +kernel
theorem dX7_isFaultOrNone_1 : decode cX7_isFaultOrNone 1 = .ok (.iconst (-1), 1) := by decide +kernel
theorem dX7_isFaultOrNone_2 : decode cX7_isFaultOrNone 2 = .ok (.aload_n 0, 1) := by decide +kernel
theorem dX7_isFaultOrNone_3 : decode cX7_isFaultOrNone 3 = .ok (.getfield 7, 3) := by decide +kernel
theorem dX7_isFaultOrNone_6 : decode cX7_isFaultOrNone 6 = .ok (.iconst 2, 1) := by decide +kernel
theorem dX7_isFaultOrNone_7 : decode cX7_isFaultOrNone 7 = .ok (.iaload, 1) := by decide +kernel
theorem dX7_isFaultOrNone_8 : decode cX7_isFaultOrNone 8 = .ok (.iconst 1, 1) := by decide +kernel
theorem dX7_isFaultOrNone_9 : decode cX7_isFaultOrNone 9 = .ok (.isub, 1) := by decide +kernel
theorem dX7_isFaultOrNone_10 : decode cX7_isFaultOrNone 10 = .ok (.invokestatic 45, 3) := by decide +kernel
theorem dX7_isFaultOrNone_13 : decode cX7_isFaultOrNone 13 = .ok (.ireturn, 1) := by decide +kernel
theorem dX7_faultOf_0 : decode cX7_faultOf 0 = .ok (.aload_n 0, 1) := by decide +kernel
theorem dX7_faultOf_1 : decode cX7_faultOf 1 = .ok (.iload_n 1, 1) := by decide +kernel
theorem dX7_faultOf_2 : decode cX7_faultOf 2 = .ok (.invokevirtual 100, 3) := by decide +kernel
theorem dX7_faultOf_5 : decode cX7_faultOf 5 = .ok (.ifCond .eq 12, 3) := by decide +kernel
theorem dX7_faultOf_8 : decode cX7_faultOf 8 = .ok (.iload_n 2, 1) := by decide +kernel
theorem dX7_faultOf_9 : decode cX7_faultOf 9 = .ok (.iconst 0, 1) := by decide +kernel
theorem dX7_faultOf_10 : decode cX7_faultOf 10 = .ok (.iconst 3, 1) := by decide +kernel
theorem dX7_faultOf_11 : decode cX7_faultOf 11 = .ok (.invokestatic 45, 3) := by decide +kernel
theorem dX7_faultOf_14 : decode cX7_faultOf 14 = .ok (.ifCond .ne 6, 3) := by decide +kernel
theorem dX7_faultOf_17 : decode cX7_faultOf 17 = .ok (.ldc 53, 2) := by decide +kernel
theorem dX7_faultOf_19 : decode cX7_faultOf 19 = .ok (.ireturn, 1) := by decide +kernel
theorem dX7_faultOf_20 : decode cX7_faultOf 20 = .ok (.iload_n 2, 1) := by decide +kernel
theorem dX7_faultOf_21 : decode cX7_faultOf 21 = .ok (.tableswitch 75 0 2 #[27, 37, 47], 27) := by decide +kernel
theorem dX7_faultOf_48 : decode cX7_faultOf 48 = .ok (.aload_n 0, 1) := by decide +kernel
theorem dX7_faultOf_49 : decode cX7_faultOf 49 = .ok (.getfield 7, 3) := by decide +kernel
theorem dX7_faultOf_52 : decode cX7_faultOf 52 = .ok (.bipush 32, 2) := by decide +kernel
theorem dX7_faultOf_54 : decode cX7_faultOf 54 = .ok (.iload_n 1, 1) := by decide +kernel
theorem dX7_faultOf_55 : decode cX7_faultOf 55 = .ok (.iadd, 1) := by decide +kernel
theorem dX7_faultOf_56 : decode cX7_faultOf 56 = .ok (.iaload, 1) := by decide +kernel
theorem dX7_faultOf_57 : decode cX7_faultOf 57 = .ok (.ireturn, 1) := by decide +kernel
theorem dX7_faultOf_58 : decode cX7_faultOf 58 = .ok (.aload_n 0, 1) := by decide +kernel
theorem dX7_faultOf_59 : decode cX7_faultOf 59 = .ok (.getfield 7, 3) := by decide +kernel
theorem dX7_faultOf_62 : decode cX7_faultOf 62 = .ok (.bipush 42, 2) := by decide +kernel
theorem dX7_faultOf_64 : decode cX7_faultOf 64 = .ok (.iload_n 1, 1) := by decide +kernel
theorem dX7_faultOf_65 : decode cX7_faultOf 65 = .ok (.iadd, 1) := by decide +kernel
theorem dX7_faultOf_66 : decode cX7_faultOf 66 = .ok (.iaload, 1) := by decide +kernel
theorem dX7_faultOf_67 : decode cX7_faultOf 67 = .ok (.ireturn, 1) := by decide +kernel
theorem dX7_faultOf_68 : decode cX7_faultOf 68 = .ok (.aload_n 0, 1) := by decide +kernel
theorem dX7_faultOf_69 : decode cX7_faultOf 69 = .ok (.getfield 7, 3) := by decide +kernel
theorem dX7_faultOf_72 : decode cX7_faultOf 72 = .ok (.bipush 32, 2) := by decide +kernel
theorem dX7_faultOf_74 : decode cX7_faultOf 74 = .ok (.iload_n 1, 1) := by decide +kernel
theorem dX7_faultOf_75 : decode cX7_faultOf 75 = .ok (.iadd, 1) := by decide +kernel
theorem dX7_faultOf_76 : decode cX7_faultOf 76 = .ok (.iaload, 1) := by decide +kernel
theorem dX7_faultOf_77 : decode cX7_faultOf 77 = .ok (.iconst 1, 1) := by decide +kernel
theorem dX7_faultOf_78 : decode cX7_faultOf 78 = .ok (.if_icmp .ne 15, 3) := by decide +kernel
theorem dX7_faultOf_81 : decode cX7_faultOf 81 = .ok (.aload_n 0, 1) := by decide +kernel
theorem dX7_faultOf_82 : decode cX7_faultOf 82 = .ok (.getfield 7, 3) := by decide +kernel
theorem dX7_faultOf_85 : decode cX7_faultOf 85 = .ok (.bipush 52, 2) := by decide +kernel
theorem dX7_faultOf_87 : decode cX7_faultOf 87 = .ok (.iload_n 1, 1) := by decide +kernel
theorem dX7_faultOf_88 : decode cX7_faultOf 88 = .ok (.iadd, 1) := by decide +kernel
theorem dX7_faultOf_89 : decode cX7_faultOf 89 = .ok (.iaload, 1) := by decide +kernel
theorem dX7_faultOf_90 : decode cX7_faultOf 90 = .ok (.goto 5, 3) := by decide +kernel
theorem dX7_faultOf_93 : decode cX7_faultOf 93 = .ok (.ldc 93, 2) := by decide +kernel
theorem dX7_faultOf_95 : decode cX7_faultOf 95 = .ok (.ireturn, 1) := by decide +kernel
theorem dX7_faultOf_96 : decode cX7_faultOf 96 = .ok (.aload_n 0, 1) := by decide +kernel
theorem dX7_faultOf_97 : decode cX7_faultOf 97 = .ok (.getfield 7, 3) := by decide +kernel
theorem dX7_faultOf_100 : decode cX7_faultOf 100 = .ok (.bipush 62, 2) := by decide +kernel
theorem dX7_faultOf_102 : decode cX7_faultOf 102 = .ok (.iload_n 1, 1) := by decide +kernel
theorem dX7_faultOf_103 : decode cX7_faultOf 103 = .ok (.iadd, 1) := by decide +kernel
theorem dX7_faultOf_104 : decode cX7_faultOf 104 = .ok (.iaload, 1) := by decide +kernel
theorem dX7_faultOf_105 : decode cX7_faultOf 105 = .ok (.invokestatic 94, 3) := by decide +kernel
theorem dX7_faultOf_108 : decode cX7_faultOf 108 = .ok (.ireturn, 1) := by decide +kernel
theorem dX7_hasFault_0 : decode cX7_hasFault 0 = .ok (.iload_n 1, 1) := by decide +kernel
theorem dX7_hasFault_1 : decode cX7_hasFault 1 = .ok (.iconst (-1), 1) := by decide +kernel
theorem dX7_hasFault_2 : decode cX7_hasFault 2 = .ok (.if_icmp .eq 33, 3) := by decide +kernel
theorem dX7_hasFault_5 : decode cX7_hasFault 5 = .ok (.aload_n 0, 1) := by decide +kernel
theorem dX7_hasFault_6 : decode cX7_hasFault 6 = .ok (.getfield 7, 3) := by decide +kernel
theorem dX7_hasFault_9 : decode cX7_hasFault 9 = .ok (.bipush 32, 2) := by decide +kernel
theorem dX7_hasFault_11 : decode cX7_hasFault 11 = .ok (.iload_n 1, 1) := by decide +kernel
theorem dX7_hasFault_12 : decode cX7_hasFault 12 = .ok (.iadd, 1) := by decide +kernel
theorem dX7_hasFault_13 : decode cX7_hasFault 13 = .ok (.iaload, 1) := by decide +kernel
theorem dX7_hasFault_14 : decode cX7_hasFault 14 = .ok (.iload_n 2, 1) := by decide +kernel
theorem dX7_hasFault_15 : decode cX7_hasFault 15 = .ok (.if_icmp .ne 20, 3) := by decide +kernel
theorem dX7_hasFault_18 : decode cX7_hasFault 18 = .ok (.aload_n 0, 1) := by decide +kernel
theorem dX7_hasFault_19 : decode cX7_hasFault 19 = .ok (.getfield 7, 3) := by decide +kernel
theorem dX7_hasFault_22 : decode cX7_hasFault 22 = .ok (.bipush 42, 2) := by decide +kernel
theorem dX7_hasFault_24 : decode cX7_hasFault 24 = .ok (.iload_n 1, 1) := by decide +kernel
theorem dX7_hasFault_25 : decode cX7_hasFault 25 = .ok (.iadd, 1) := by decide +kernel
theorem dX7_hasFault_26 : decode cX7_hasFault 26 = .ok (.iaload, 1) := by decide +kernel
theorem dX7_hasFault_27 : decode cX7_hasFault 27 = .ok (.iload_n 3, 1) := by decide +kernel
theorem dX7_hasFault_28 : decode cX7_hasFault 28 = .ok (.if_icmp .ne 7, 3) := by decide +kernel
theorem dX7_hasFault_31 : decode cX7_hasFault 31 = .ok (.iconst 1, 1) := by decide +kernel
theorem dX7_hasFault_32 : decode cX7_hasFault 32 = .ok (.goto 4, 3) := by decide +kernel
theorem dX7_hasFault_35 : decode cX7_hasFault 35 = .ok (.iconst 0, 1) := by decide +kernel
theorem dX7_hasFault_36 : decode cX7_hasFault 36 = .ok (.ireturn, 1) := by decide +kernel
theorem dX7_areLinked_0 : decode cX7_areLinked 0 = .ok (.aload_n 0, 1) := by decide +kernel
theorem dX7_areLinked_1 : decode cX7_areLinked 1 = .ok (.iload_n 2, 1) := by decide +kernel
theorem dX7_areLinked_2 : decode cX7_areLinked 2 = .ok (.invokevirtual 54, 3) := by decide +kernel
theorem dX7_areLinked_5 : decode cX7_areLinked 5 = .ok (.istore 4, 2) := by decide +kernel
theorem dX7_areLinked_7 : decode cX7_areLinked 7 = .ok (.iload 4, 2) := by decide +kernel
theorem dX7_areLinked_9 : decode cX7_areLinked 9 = .ok (.iconst (-1), 1) := by decide +kernel
theorem dX7_areLinked_10 : decode cX7_areLinked 10 = .ok (.if_icmp .eq 13, 3) := by decide +kernel
theorem dX7_areLinked_13 : decode cX7_areLinked 13 = .ok (.aload_n 0, 1) := by decide +kernel
theorem dX7_areLinked_14 : decode cX7_areLinked 14 = .ok (.iload_n 3, 1) := by decide +kernel
theorem dX7_areLinked_15 : decode cX7_areLinked 15 = .ok (.invokevirtual 54, 3) := by decide +kernel
theorem dX7_areLinked_18 : decode cX7_areLinked 18 = .ok (.iload 4, 2) := by decide +kernel
theorem dX7_areLinked_20 : decode cX7_areLinked 20 = .ok (.if_icmp .eq 5, 3) := by decide +kernel
theorem dX7_areLinked_23 : decode cX7_areLinked 23 = .ok (.iconst 0, 1) := by decide +kernel
theorem dX7_areLinked_24 : decode cX7_areLinked 24 = .ok (.ireturn, 1) := by decide +kernel
theorem dX7_areLinked_25 : decode cX7_areLinked 25 = .ok (.aload_n 0, 1) := by decide +kernel
theorem dX7_areLinked_26 : decode cX7_areLinked 26 = .ok (.iload_n 1, 1) := by decide +kernel
theorem dX7_areLinked_27 : decode cX7_areLinked 27 = .ok (.iconst 0, 1) := by decide +kernel
theorem dX7_areLinked_28 : decode cX7_areLinked 28 = .ok (.iload_n 2, 1) := by decide +kernel
theorem dX7_areLinked_29 : decode cX7_areLinked 29 = .ok (.invokevirtual 104, 3) := by decide +kernel
theorem dX7_areLinked_32 : decode cX7_areLinked 32 = .ok (.ifCond .ne 13, 3) := by decide +kernel
theorem dX7_areLinked_35 : decode cX7_areLinked 35 = .ok (.aload_n 0, 1) := by decide +kernel
theorem dX7_areLinked_36 : decode cX7_areLinked 36 = .ok (.iload_n 1, 1) := by decide +kernel
theorem dX7_areLinked_37 : decode cX7_areLinked 37 = .ok (.iconst 0, 1) := by decide +kernel
theorem dX7_areLinked_38 : decode cX7_areLinked 38 = .ok (.iload_n 3, 1) := by decide +kernel
theorem dX7_areLinked_39 : decode cX7_areLinked 39 = .ok (.invokevirtual 104, 3) := by decide +kernel
theorem dX7_areLinked_42 : decode cX7_areLinked 42 = .ok (.ifCond .eq 7, 3) := by decide +kernel
theorem dX7_areLinked_45 : decode cX7_areLinked 45 = .ok (.iconst 1, 1) := by decide +kernel
theorem dX7_areLinked_46 : decode cX7_areLinked 46 = .ok (.goto 4, 3) := by decide +kernel
theorem dX7_areLinked_49 : decode cX7_areLinked 49 = .ok (.iconst 0, 1) := by decide +kernel
theorem dX7_areLinked_50 : decode cX7_areLinked 50 = .ok (.istore 5, 2) := by decide +kernel
theorem dX7_areLinked_52 : decode cX7_areLinked 52 = .ok (.iload 5, 2) := by decide +kernel
theorem dX7_areLinked_54 : decode cX7_areLinked 54 = .ok (.ifCond .ne 29, 3) := by decide +kernel
theorem dX7_areLinked_57 : decode cX7_areLinked 57 = .ok (.aload_n 0, 1) := by decide +kernel
theorem dX7_areLinked_58 : decode cX7_areLinked 58 = .ok (.iload_n 1, 1) := by decide +kernel
theorem dX7_areLinked_59 : decode cX7_areLinked 59 = .ok (.iconst 2, 1) := by decide +kernel
theorem dX7_areLinked_60 : decode cX7_areLinked 60 = .ok (.iload 4, 2) := by decide +kernel
theorem dX7_areLinked_62 : decode cX7_areLinked 62 = .ok (.invokevirtual 104, 3) := by decide +kernel
theorem dX7_areLinked_65 : decode cX7_areLinked 65 = .ok (.ifCond .ne 18, 3) := by decide +kernel
theorem dX7_areLinked_68 : decode cX7_areLinked 68 = .ok (.aload_n 0, 1) := by decide +kernel
theorem dX7_areLinked_69 : decode cX7_areLinked 69 = .ok (.iload_n 1, 1) := by decide +kernel
theorem dX7_areLinked_70 : decode cX7_areLinked 70 = .ok (.iconst 3, 1) := by decide +kernel
theorem dX7_areLinked_71 : decode cX7_areLinked 71 = .ok (.iload 4, 2) := by decide +kernel
theorem dX7_areLinked_73 : decode cX7_areLinked 73 = .ok (.invokevirtual 104, 3) := by decide +kernel
theorem dX7_areLinked_76 : decode cX7_areLinked 76 = .ok (.ifCond .ne 7, 3) := by decide +kernel
theorem dX7_areLinked_79 : decode cX7_areLinked 79 = .ok (.iconst 1, 1) := by decide +kernel
theorem dX7_areLinked_80 : decode cX7_areLinked 80 = .ok (.goto 4, 3) := by decide +kernel
theorem dX7_areLinked_83 : decode cX7_areLinked 83 = .ok (.iconst 0, 1) := by decide +kernel
theorem dX7_areLinked_84 : decode cX7_areLinked 84 = .ok (.ireturn, 1) := by decide +kernel
theorem dX7_comesTo_0 : decode cX7_comesTo 0 = .ok (.aload_n 0, 1) := by decide +kernel
theorem dX7_comesTo_1 : decode cX7_comesTo 1 = .ok (.iload_n 1, 1) := by decide +kernel
theorem dX7_comesTo_2 : decode cX7_comesTo 2 = .ok (.iconst 4, 1) := by decide +kernel
theorem dX7_comesTo_3 : decode cX7_comesTo 3 = .ok (.iload 4, 2) := by decide +kernel
theorem dX7_comesTo_5 : decode cX7_comesTo 5 = .ok (.invokevirtual 104, 3) := by decide +kernel
theorem dX7_comesTo_8 : decode cX7_comesTo 8 = .ok (.ifCond .eq 5, 3) := by decide +kernel
theorem dX7_comesTo_11 : decode cX7_comesTo 11 = .ok (.iconst 0, 1) := by decide +kernel
theorem dX7_comesTo_12 : decode cX7_comesTo 12 = .ok (.ireturn, 1) := by decide +kernel
theorem dX7_comesTo_13 : decode cX7_comesTo 13 = .ok (.iload_n 2, 1) := by decide +kernel
theorem dX7_comesTo_14 : decode cX7_comesTo 14 = .ok (.aload_n 0, 1) := by decide +kernel
theorem dX7_comesTo_15 : decode cX7_comesTo 15 = .ok (.getfield 7, 3) := by decide +kernel
theorem dX7_comesTo_18 : decode cX7_comesTo 18 = .ok (.iload 5, 2) := by decide +kernel
theorem dX7_comesTo_20 : decode cX7_comesTo 20 = .ok (.ifCond .eq 8, 3) := by decide +kernel
theorem dX7_comesTo_23 : decode cX7_comesTo 23 = .ok (.bipush 17, 2) := by decide +kernel
theorem dX7_comesTo_25 : decode cX7_comesTo 25 = .ok (.goto 5, 3) := by decide +kernel
theorem dX7_comesTo_28 : decode cX7_comesTo 28 = .ok (.bipush 22, 2) := by decide +kernel
theorem dX7_comesTo_30 : decode cX7_comesTo 30 = .ok (.iload 4, 2) := by decide +kernel
theorem dX7_comesTo_32 : decode cX7_comesTo 32 = .ok (.iadd, 1) := by decide +kernel
theorem dX7_comesTo_33 : decode cX7_comesTo 33 = .ok (.iaload, 1) := by decide +kernel
theorem dX7_comesTo_34 : decode cX7_comesTo 34 = .ok (.invokestatic 36, 3) := by decide +kernel
theorem dX7_comesTo_37 : decode cX7_comesTo 37 = .ok (.istore 6, 2) := by decide +kernel
theorem dX7_comesTo_39 : decode cX7_comesTo 39 = .ok (.iconst 0, 1) := by decide +kernel
theorem dX7_comesTo_40 : decode cX7_comesTo 40 = .ok (.istore 7, 2) := by decide +kernel
theorem dX7_comesTo_42 : decode cX7_comesTo 42 = .ok (.iload 7, 2) := by decide +kernel
theorem dX7_comesTo_44 : decode cX7_comesTo 44 = .ok (.aload_n 0, 1) := by decide +kernel
theorem dX7_comesTo_45 : decode cX7_comesTo 45 = .ok (.getfield 7, 3) := by decide +kernel
theorem dX7_comesTo_48 : decode cX7_comesTo 48 = .ok (.iconst 1, 1) := by decide +kernel
theorem dX7_comesTo_49 : decode cX7_comesTo 49 = .ok (.iaload, 1) := by decide +kernel
theorem dX7_comesTo_50 : decode cX7_comesTo 50 = .ok (.if_icmp .ge 94, 3) := by decide +kernel
theorem dX7_comesTo_53 : decode cX7_comesTo 53 = .ok (.iload_n 3, 1) := by decide +kernel
theorem dX7_comesTo_54 : decode cX7_comesTo 54 = .ok (.iload 7, 2) := by decide +kernel
theorem dX7_comesTo_56 : decode cX7_comesTo 56 = .ok (.invokestatic 36, 3) := by decide +kernel
theorem dX7_comesTo_59 : decode cX7_comesTo 59 = .ok (.ifCond .eq 79, 3) := by decide +kernel
theorem dX7_comesTo_62 : decode cX7_comesTo 62 = .ok (.iload 6, 2) := by decide +kernel
theorem dX7_comesTo_64 : decode cX7_comesTo 64 = .ok (.ifCond .ne 67, 3) := by decide +kernel
theorem dX7_comesTo_67 : decode cX7_comesTo 67 = .ok (.iload 5, 2) := by decide +kernel
theorem dX7_comesTo_69 : decode cX7_comesTo 69 = .ok (.ifCond .eq 34, 3) := by decide +kernel
theorem dX7_comesTo_72 : decode cX7_comesTo 72 = .ok (.aload_n 0, 1) := by decide +kernel
theorem dX7_comesTo_73 : decode cX7_comesTo 73 = .ok (.iload_n 1, 1) := by decide +kernel
theorem dX7_comesTo_74 : decode cX7_comesTo 74 = .ok (.aload_n 0, 1) := by decide +kernel
theorem dX7_comesTo_75 : decode cX7_comesTo 75 = .ok (.getfield 7, 3) := by decide +kernel
theorem dX7_comesTo_78 : decode cX7_comesTo 78 = .ok (.bipush 22, 2) := by decide +kernel
theorem dX7_comesTo_80 : decode cX7_comesTo 80 = .ok (.iload 7, 2) := by decide +kernel
theorem dX7_comesTo_82 : decode cX7_comesTo 82 = .ok (.iadd, 1) := by decide +kernel
theorem dX7_comesTo_83 : decode cX7_comesTo 83 = .ok (.iaload, 1) := by decide +kernel
theorem dX7_comesTo_84 : decode cX7_comesTo 84 = .ok (.aload_n 0, 1) := by decide +kernel
theorem dX7_comesTo_85 : decode cX7_comesTo 85 = .ok (.getfield 7, 3) := by decide +kernel
theorem dX7_comesTo_88 : decode cX7_comesTo 88 = .ok (.bipush 17, 2) := by decide +kernel
theorem dX7_comesTo_90 : decode cX7_comesTo 90 = .ok (.iload 4, 2) := by decide +kernel
theorem dX7_comesTo_92 : decode cX7_comesTo 92 = .ok (.iadd, 1) := by decide +kernel
theorem dX7_comesTo_93 : decode cX7_comesTo 93 = .ok (.iaload, 1) := by decide +kernel
theorem dX7_comesTo_94 : decode cX7_comesTo 94 = .ok (.invokevirtual 107, 3) := by decide +kernel
theorem dX7_comesTo_97 : decode cX7_comesTo 97 = .ok (.ifCond .eq 38, 3) := by decide +kernel
theorem dX7_comesTo_100 : decode cX7_comesTo 100 = .ok (.goto 31, 3) := by decide +kernel
theorem dX7_comesTo_103 : decode cX7_comesTo 103 = .ok (.aload_n 0, 1) := by decide +kernel
theorem dX7_comesTo_104 : decode cX7_comesTo 104 = .ok (.iload_n 1, 1) := by decide +kernel
theorem dX7_comesTo_105 : decode cX7_comesTo 105 = .ok (.aload_n 0, 1) := by decide +kernel
theorem dX7_comesTo_106 : decode cX7_comesTo 106 = .ok (.getfield 7, 3) := by decide +kernel
theorem dX7_comesTo_109 : decode cX7_comesTo 109 = .ok (.bipush 22, 2) := by decide +kernel
theorem dX7_comesTo_111 : decode cX7_comesTo 111 = .ok (.iload 4, 2) := by decide +kernel
theorem dX7_comesTo_113 : decode cX7_comesTo 113 = .ok (.iadd, 1) := by decide +kernel
theorem dX7_comesTo_114 : decode cX7_comesTo 114 = .ok (.iaload, 1) := by decide +kernel
theorem dX7_comesTo_115 : decode cX7_comesTo 115 = .ok (.aload_n 0, 1) := by decide +kernel
theorem dX7_comesTo_116 : decode cX7_comesTo 116 = .ok (.getfield 7, 3) := by decide +kernel
theorem dX7_comesTo_119 : decode cX7_comesTo 119 = .ok (.bipush 17, 2) := by decide +kernel
theorem dX7_comesTo_121 : decode cX7_comesTo 121 = .ok (.iload 7, 2) := by decide +kernel
theorem dX7_comesTo_123 : decode cX7_comesTo 123 = .ok (.iadd, 1) := by decide +kernel
theorem dX7_comesTo_124 : decode cX7_comesTo 124 = .ok (.iaload, 1) := by decide +kernel
theorem dX7_comesTo_125 : decode cX7_comesTo 125 = .ok (.invokevirtual 107, 3) := by decide +kernel
theorem dX7_comesTo_128 : decode cX7_comesTo 128 = .ok (.ifCond .eq 7, 3) := by decide +kernel
theorem dX7_comesTo_131 : decode cX7_comesTo 131 = .ok (.iconst 1, 1) := by decide +kernel
theorem dX7_comesTo_132 : decode cX7_comesTo 132 = .ok (.goto 4, 3) := by decide +kernel
theorem dX7_comesTo_135 : decode cX7_comesTo 135 = .ok (.iconst 0, 1) := by decide +kernel
theorem dX7_comesTo_136 : decode cX7_comesTo 136 = .ok (.istore 6, 2) := by decide +kernel
theorem dX7_comesTo_138 : decode cX7_comesTo 138 = .ok (.iinc 7 1, 3) := by decide +kernel
theorem dX7_comesTo_141 : decode cX7_comesTo 141 = .ok (.goto (-99), 3) := by decide +kernel
theorem dX7_comesTo_144 : decode cX7_comesTo 144 = .ok (.iload 6, 2) := by decide +kernel
theorem dX7_comesTo_146 : decode cX7_comesTo 146 = .ok (.ireturn, 1) := by decide +kernel
theorem dX7_along_0 : decode cX7_along 0 = .ok (.iconst 0, 1) := by decide +kernel
theorem dX7_along_1 : decode cX7_along 1 = .ok (.istore 4, 2) := by decide +kernel
theorem dX7_along_3 : decode cX7_along 3 = .ok (.iconst 0, 1) := by decide +kernel
theorem dX7_along_4 : decode cX7_along 4 = .ok (.istore 5, 2) := by decide +kernel
theorem dX7_along_6 : decode cX7_along 6 = .ok (.iload 5, 2) := by decide +kernel
theorem dX7_along_8 : decode cX7_along 8 = .ok (.iconst 5, 1) := by decide +kernel
theorem dX7_along_9 : decode cX7_along 9 = .ok (.if_icmp .ge 62, 3) := by decide +kernel
theorem dX7_along_12 : decode cX7_along 12 = .ok (.iconst 0, 1) := by decide +kernel
theorem dX7_along_13 : decode cX7_along 13 = .ok (.istore 6, 2) := by decide +kernel
theorem dX7_along_15 : decode cX7_along 15 = .ok (.iload 6, 2) := by decide +kernel
theorem dX7_along_17 : decode cX7_along 17 = .ok (.aload_n 0, 1) := by decide +kernel
theorem dX7_along_18 : decode cX7_along 18 = .ok (.getfield 7, 3) := by decide +kernel
theorem dX7_along_21 : decode cX7_along 21 = .ok (.iconst 1, 1) := by decide +kernel
theorem dX7_along_22 : decode cX7_along 22 = .ok (.iaload, 1) := by decide +kernel
theorem dX7_along_23 : decode cX7_along 23 = .ok (.if_icmp .ge 42, 3) := by decide +kernel
theorem dX7_along_26 : decode cX7_along 26 = .ok (.iload 4, 2) := by decide +kernel
theorem dX7_along_28 : decode cX7_along 28 = .ok (.iload 6, 2) := by decide +kernel
theorem dX7_along_30 : decode cX7_along 30 = .ok (.invokestatic 36, 3) := by decide +kernel
theorem dX7_along_33 : decode cX7_along 33 = .ok (.ifCond .ne 26, 3) := by decide +kernel
theorem dX7_along_36 : decode cX7_along 36 = .ok (.aload_n 0, 1) := by decide +kernel
theorem dX7_along_37 : decode cX7_along 37 = .ok (.iload_n 1, 1) := by decide +kernel
theorem dX7_along_38 : decode cX7_along 38 = .ok (.iload_n 2, 1) := by decide +kernel
theorem dX7_along_39 : decode cX7_along 39 = .ok (.iload 4, 2) := by decide +kernel
theorem dX7_along_41 : decode cX7_along 41 = .ok (.iload 6, 2) := by decide +kernel
theorem dX7_along_43 : decode cX7_along 43 = .ok (.iload_n 3, 1) := by decide +kernel
theorem dX7_along_44 : decode cX7_along 44 = .ok (.invokevirtual 110, 3) := by decide +kernel
theorem dX7_along_47 : decode cX7_along 47 = .ok (.ifCond .eq 12, 3) := by decide +kernel
theorem dX7_along_50 : decode cX7_along 50 = .ok (.iload 4, 2) := by decide +kernel
theorem dX7_along_52 : decode cX7_along 52 = .ok (.iconst 1, 1) := by decide +kernel
theorem dX7_along_53 : decode cX7_along 53 = .ok (.iload 6, 2) := by decide +kernel
theorem dX7_along_55 : decode cX7_along 55 = .ok (.ishl, 1) := by decide +kernel
theorem dX7_along_56 : decode cX7_along 56 = .ok (.ior, 1) := by decide +kernel
theorem dX7_along_57 : decode cX7_along 57 = .ok (.istore 4, 2) := by decide +kernel
theorem dX7_along_59 : decode cX7_along 59 = .ok (.iinc 6 1, 3) := by decide +kernel
theorem dX7_along_62 : decode cX7_along 62 = .ok (.goto (-47), 3) := by decide +kernel
theorem dX7_along_65 : decode cX7_along 65 = .ok (.iinc 5 1, 3) := by decide +kernel
theorem dX7_along_68 : decode cX7_along 68 = .ok (.goto (-62), 3) := by decide +kernel
theorem dX7_along_71 : decode cX7_along 71 = .ok (.iload 4, 2) := by decide +kernel
theorem dX7_along_73 : decode cX7_along 73 = .ok (.ireturn, 1) := by decide +kernel
theorem dX7_scannedBy_0 : decode cX7_scannedBy 0 = .ok (.aload_n 0, 1) := by decide +kernel
theorem dX7_scannedBy_1 : decode cX7_scannedBy 1 = .ok (.iload_n 1, 1) := by decide +kernel
theorem dX7_scannedBy_2 : decode cX7_scannedBy 2 = .ok (.iload_n 2, 1) := by decide +kernel
theorem dX7_scannedBy_3 : decode cX7_scannedBy 3 = .ok (.iconst 1, 1) := by decide +kernel
theorem dX7_scannedBy_4 : decode cX7_scannedBy 4 = .ok (.invokevirtual 114, 3) := by decide +kernel
theorem dX7_scannedBy_7 : decode cX7_scannedBy 7 = .ok (.aload_n 0, 1) := by decide +kernel
theorem dX7_scannedBy_8 : decode cX7_scannedBy 8 = .ok (.iload_n 1, 1) := by decide +kernel
theorem dX7_scannedBy_9 : decode cX7_scannedBy 9 = .ok (.iload_n 2, 1) := by decide +kernel
theorem dX7_scannedBy_10 : decode cX7_scannedBy 10 = .ok (.iconst 0, 1) := by decide +kernel
theorem dX7_scannedBy_11 : decode cX7_scannedBy 11 = .ok (.invokevirtual 114, 3) := by decide +kernel
theorem dX7_scannedBy_14 : decode cX7_scannedBy 14 = .ok (.iand, 1) := by decide +kernel
theorem dX7_scannedBy_15 : decode cX7_scannedBy 15 = .ok (.ireturn, 1) := by decide +kernel
theorem dX7_reachedBy_0 : decode cX7_reachedBy 0 = .ok (.aload_n 0, 1) := by decide +kernel
theorem dX7_reachedBy_1 : decode cX7_reachedBy 1 = .ok (.iload_n 1, 1) := by decide +kernel
theorem dX7_reachedBy_2 : decode cX7_reachedBy 2 = .ok (.iload_n 2, 1) := by decide +kernel
theorem dX7_reachedBy_3 : decode cX7_reachedBy 3 = .ok (.invokevirtual 118, 3) := by decide +kernel
theorem dX7_reachedBy_6 : decode cX7_reachedBy 6 = .ok (.istore_n 3, 1) := by decide +kernel
theorem dX7_reachedBy_7 : decode cX7_reachedBy 7 = .ok (.iload_n 2, 1) := by decide +kernel
theorem dX7_reachedBy_8 : decode cX7_reachedBy 8 = .ok (.istore 4, 2) := by decide +kernel
theorem dX7_reachedBy_10 : decode cX7_reachedBy 10 = .ok (.iconst 0, 1) := by decide +kernel
theorem dX7_reachedBy_11 : decode cX7_reachedBy 11 = .ok (.istore 5, 2) := by decide +kernel
theorem dX7_reachedBy_13 : decode cX7_reachedBy 13 = .ok (.iload 5, 2) := by decide +kernel
theorem dX7_reachedBy_15 : decode cX7_reachedBy 15 = .ok (.aload_n 0, 1) := by decide +kernel
theorem dX7_reachedBy_16 : decode cX7_reachedBy 16 = .ok (.getfield 7, 3) := by decide +kernel
theorem dX7_reachedBy_19 : decode cX7_reachedBy 19 = .ok (.iconst 1, 1) := by decide +kernel
theorem dX7_reachedBy_20 : decode cX7_reachedBy 20 = .ok (.iaload, 1) := by decide +kernel
theorem dX7_reachedBy_21 : decode cX7_reachedBy 21 = .ok (.if_icmp .ge 37, 3) := by decide +kernel
theorem dX7_reachedBy_24 : decode cX7_reachedBy 24 = .ok (.iload 4, 2) := by decide +kernel
theorem dX7_reachedBy_26 : decode cX7_reachedBy 26 = .ok (.iload_n 3, 1) := by decide +kernel
theorem dX7_reachedBy_27 : decode cX7_reachedBy 27 = .ok (.iload 5, 2) := by decide +kernel
theorem dX7_reachedBy_29 : decode cX7_reachedBy 29 = .ok (.invokestatic 36, 3) := by decide +kernel
theorem dX7_reachedBy_32 : decode cX7_reachedBy 32 = .ok (.ifCond .eq 16, 3) := by decide +kernel
theorem dX7_reachedBy_35 : decode cX7_reachedBy 35 = .ok (.aload_n 0, 1) := by decide +kernel
theorem dX7_reachedBy_36 : decode cX7_reachedBy 36 = .ok (.getfield 7, 3) := by decide +kernel
theorem dX7_reachedBy_39 : decode cX7_reachedBy 39 = .ok (.bipush 27, 2) := by decide +kernel
theorem dX7_reachedBy_41 : decode cX7_reachedBy 41 = .ok (.iload 5, 2) := by decide +kernel
theorem dX7_reachedBy_43 : decode cX7_reachedBy 43 = .ok (.iadd, 1) := by decide +kernel
theorem dX7_reachedBy_44 : decode cX7_reachedBy 44 = .ok (.iaload, 1) := by decide +kernel
theorem dX7_reachedBy_45 : decode cX7_reachedBy 45 = .ok (.goto 4, 3) := by decide +kernel
theorem dX7_reachedBy_48 : decode cX7_reachedBy 48 = .ok (.iconst 0, 1) := by decide +kernel
theorem dX7_reachedBy_49 : decode cX7_reachedBy 49 = .ok (.ior, 1) := by decide +kernel
theorem dX7_reachedBy_50 : decode cX7_reachedBy 50 = .ok (.istore 4, 2) := by decide +kernel
theorem dX7_reachedBy_52 : decode cX7_reachedBy 52 = .ok (.iinc 5 1, 3) := by decide +kernel
theorem dX7_reachedBy_55 : decode cX7_reachedBy 55 = .ok (.goto (-42), 3) := by decide +kernel
theorem dX7_reachedBy_58 : decode cX7_reachedBy 58 = .ok (.iload 4, 2) := by decide +kernel
theorem dX7_reachedBy_60 : decode cX7_reachedBy 60 = .ok (.ireturn, 1) := by decide +kernel
theorem dX7_areJoined_0 : decode cX7_areJoined 0 = .ok (.iload_n 2, 1) := by decide +kernel
theorem dX7_areJoined_1 : decode cX7_areJoined 1 = .ok (.iload_n 3, 1) := by decide +kernel
theorem dX7_areJoined_2 : decode cX7_areJoined 2 = .ok (.if_icmp .ne 5, 3) := by decide +kernel
theorem dX7_areJoined_5 : decode cX7_areJoined 5 = .ok (.iconst 1, 1) := by decide +kernel
theorem dX7_areJoined_6 : decode cX7_areJoined 6 = .ok (.ireturn, 1) := by decide +kernel
theorem dX7_areJoined_7 : decode cX7_areJoined 7 = .ok (.iload_n 2, 1) := by decide +kernel
theorem dX7_areJoined_8 : decode cX7_areJoined 8 = .ok (.iload_n 3, 1) := by decide +kernel
theorem dX7_areJoined_9 : decode cX7_areJoined 9 = .ok (.if_icmp .ge 7, 3) := by decide +kernel
theorem dX7_areJoined_12 : decode cX7_areJoined 12 = .ok (.iload_n 2, 1) := by decide +kernel
theorem dX7_areJoined_13 : decode cX7_areJoined 13 = .ok (.goto 4, 3) := by decide +kernel
theorem dX7_areJoined_16 : decode cX7_areJoined 16 = .ok (.iload_n 3, 1) := by decide +kernel
theorem dX7_areJoined_17 : decode cX7_areJoined 17 = .ok (.istore 4, 2) := by decide +kernel
theorem dX7_areJoined_19 : decode cX7_areJoined 19 = .ok (.iload_n 2, 1) := by decide +kernel
theorem dX7_areJoined_20 : decode cX7_areJoined 20 = .ok (.iload_n 3, 1) := by decide +kernel
theorem dX7_areJoined_21 : decode cX7_areJoined 21 = .ok (.if_icmp .ge 7, 3) := by decide +kernel
theorem dX7_areJoined_24 : decode cX7_areJoined 24 = .ok (.iload_n 3, 1) := by decide +kernel
theorem dX7_areJoined_25 : decode cX7_areJoined 25 = .ok (.goto 4, 3) := by decide +kernel
theorem dX7_areJoined_28 : decode cX7_areJoined 28 = .ok (.iload_n 2, 1) := by decide +kernel
theorem dX7_areJoined_29 : decode cX7_areJoined 29 = .ok (.istore 5, 2) := by decide +kernel
theorem dX7_areJoined_31 : decode cX7_areJoined 31 = .ok (.aload_n 0, 1) := by decide +kernel
theorem dX7_areJoined_32 : decode cX7_areJoined 32 = .ok (.iload_n 1, 1) := by decide +kernel
theorem dX7_areJoined_33 : decode cX7_areJoined 33 = .ok (.iconst 1, 1) := by decide +kernel
theorem dX7_areJoined_34 : decode cX7_areJoined 34 = .ok (.iload 4, 2) := by decide +kernel
theorem dX7_areJoined_36 : decode cX7_areJoined 36 = .ok (.invokevirtual 104, 3) := by decide +kernel
theorem dX7_areJoined_39 : decode cX7_areJoined 39 = .ok (.ifCond .eq 21, 3) := by decide +kernel
theorem dX7_areJoined_42 : decode cX7_areJoined 42 = .ok (.aload_n 0, 1) := by decide +kernel
theorem dX7_areJoined_43 : decode cX7_areJoined 43 = .ok (.getfield 7, 3) := by decide +kernel
theorem dX7_areJoined_46 : decode cX7_areJoined 46 = .ok (.bipush 52, 2) := by decide +kernel
theorem dX7_areJoined_48 : decode cX7_areJoined 48 = .ok (.iload_n 1, 1) := by decide +kernel
theorem dX7_areJoined_49 : decode cX7_areJoined 49 = .ok (.iadd, 1) := by decide +kernel
theorem dX7_areJoined_50 : decode cX7_areJoined 50 = .ok (.iaload, 1) := by decide +kernel
theorem dX7_areJoined_51 : decode cX7_areJoined 51 = .ok (.iload 5, 2) := by decide +kernel
theorem dX7_areJoined_53 : decode cX7_areJoined 53 = .ok (.if_icmp .ne 7, 3) := by decide +kernel
theorem dX7_areJoined_56 : decode cX7_areJoined 56 = .ok (.iconst 1, 1) := by decide +kernel
theorem dX7_areJoined_57 : decode cX7_areJoined 57 = .ok (.goto 4, 3) := by decide +kernel
theorem dX7_areJoined_60 : decode cX7_areJoined 60 = .ok (.iconst 0, 1) := by decide +kernel
theorem dX7_areJoined_61 : decode cX7_areJoined 61 = .ok (.ireturn, 1) := by decide +kernel
theorem dX7_readsOne_0 : decode cX7_readsOne 0 = .ok (.aload_n 0, 1) := by decide +kernel
theorem dX7_readsOne_1 : decode cX7_readsOne 1 = .ok (.iload_n 2, 1) := by decide +kernel
theorem dX7_readsOne_2 : decode cX7_readsOne 2 = .ok (.invokevirtual 54, 3) := by decide +kernel
theorem dX7_readsOne_5 : decode cX7_readsOne 5 = .ok (.istore 5, 2) := by decide +kernel
theorem dX7_readsOne_7 : decode cX7_readsOne 7 = .ok (.iload 5, 2) := by decide +kernel
theorem dX7_readsOne_9 : decode cX7_readsOne 9 = .ok (.iconst (-1), 1) := by decide +kernel
theorem dX7_readsOne_10 : decode cX7_readsOne 10 = .ok (.if_icmp .eq 13, 3) := by decide +kernel
theorem dX7_readsOne_13 : decode cX7_readsOne 13 = .ok (.aload_n 0, 1) := by decide +kernel
theorem dX7_readsOne_14 : decode cX7_readsOne 14 = .ok (.iload_n 1, 1) := by decide +kernel
theorem dX7_readsOne_15 : decode cX7_readsOne 15 = .ok (.iconst 0, 1) := by decide +kernel
theorem dX7_readsOne_16 : decode cX7_readsOne 16 = .ok (.iload_n 2, 1) := by decide +kernel
theorem dX7_readsOne_17 : decode cX7_readsOne 17 = .ok (.invokevirtual 104, 3) := by decide +kernel
theorem dX7_readsOne_20 : decode cX7_readsOne 20 = .ok (.ifCond .eq 15, 3) := by decide +kernel
theorem dX7_readsOne_23 : decode cX7_readsOne 23 = .ok (.iload_n 2, 1) := by decide +kernel
theorem dX7_readsOne_24 : decode cX7_readsOne 24 = .ok (.iload_n 3, 1) := by decide +kernel
theorem dX7_readsOne_25 : decode cX7_readsOne 25 = .ok (.if_icmp .ne 8, 3) := by decide +kernel
theorem dX7_readsOne_28 : decode cX7_readsOne 28 = .ok (.iload 4, 2) := by decide +kernel
theorem dX7_readsOne_30 : decode cX7_readsOne 30 = .ok (.goto 4, 3) := by decide +kernel
theorem dX7_readsOne_33 : decode cX7_readsOne 33 = .ok (.iconst 0, 1) := by decide +kernel
theorem dX7_readsOne_34 : decode cX7_readsOne 34 = .ok (.ireturn, 1) := by decide +kernel
theorem dX7_readsOne_35 : decode cX7_readsOne 35 = .ok (.aload_n 0, 1) := by decide +kernel
theorem dX7_readsOne_36 : decode cX7_readsOne 36 = .ok (.iload_n 1, 1) := by decide +kernel
theorem dX7_readsOne_37 : decode cX7_readsOne 37 = .ok (.iconst 2, 1) := by decide +kernel
theorem dX7_readsOne_38 : decode cX7_readsOne 38 = .ok (.iload 5, 2) := by decide +kernel
theorem dX7_readsOne_40 : decode cX7_readsOne 40 = .ok (.invokevirtual 104, 3) := by decide +kernel
theorem dX7_readsOne_43 : decode cX7_readsOne 43 = .ok (.ifCond .eq 5, 3) := by decide +kernel
theorem dX7_readsOne_46 : decode cX7_readsOne 46 = .ok (.iconst 0, 1) := by decide +kernel
theorem dX7_readsOne_47 : decode cX7_readsOne 47 = .ok (.ireturn, 1) := by decide +kernel
theorem dX7_readsOne_48 : decode cX7_readsOne 48 = .ok (.aload_n 0, 1) := by decide +kernel
theorem dX7_readsOne_49 : decode cX7_readsOne 49 = .ok (.iload_n 1, 1) := by decide +kernel
theorem dX7_readsOne_50 : decode cX7_readsOne 50 = .ok (.iconst 3, 1) := by decide +kernel
theorem dX7_readsOne_51 : decode cX7_readsOne 51 = .ok (.iload 5, 2) := by decide +kernel
theorem dX7_readsOne_53 : decode cX7_readsOne 53 = .ok (.invokevirtual 104, 3) := by decide +kernel
theorem dX7_readsOne_56 : decode cX7_readsOne 56 = .ok (.ifCond .eq 5, 3) := by decide +kernel
theorem dX7_readsOne_59 : decode cX7_readsOne 59 = .ok (.iconst 1, 1) := by decide +kernel
theorem dX7_readsOne_60 : decode cX7_readsOne 60 = .ok (.ireturn, 1) := by decide +kernel
theorem dX7_readsOne_61 : decode cX7_readsOne 61 = .ok (.aload_n 0, 1) := by decide +kernel
theorem dX7_readsOne_62 : decode cX7_readsOne 62 = .ok (.iload_n 3, 1) := by decide +kernel
theorem dX7_readsOne_63 : decode cX7_readsOne 63 = .ok (.invokevirtual 54, 3) := by decide +kernel
theorem dX7_readsOne_66 : decode cX7_readsOne 66 = .ok (.istore 6, 2) := by decide +kernel
theorem dX7_readsOne_68 : decode cX7_readsOne 68 = .ok (.iload 6, 2) := by decide +kernel
theorem dX7_readsOne_70 : decode cX7_readsOne 70 = .ok (.iconst (-1), 1) := by decide +kernel
theorem dX7_readsOne_71 : decode cX7_readsOne 71 = .ok (.if_icmp .eq 29, 3) := by decide +kernel
theorem dX7_readsOne_74 : decode cX7_readsOne 74 = .ok (.aload_n 0, 1) := by decide +kernel
theorem dX7_readsOne_75 : decode cX7_readsOne 75 = .ok (.iload_n 1, 1) := by decide +kernel
theorem dX7_readsOne_76 : decode cX7_readsOne 76 = .ok (.iconst 0, 1) := by decide +kernel
theorem dX7_readsOne_77 : decode cX7_readsOne 77 = .ok (.iload_n 3, 1) := by decide +kernel
theorem dX7_readsOne_78 : decode cX7_readsOne 78 = .ok (.invokevirtual 104, 3) := by decide +kernel
theorem dX7_readsOne_81 : decode cX7_readsOne 81 = .ok (.ifCond .ne 19, 3) := by decide +kernel
theorem dX7_readsOne_84 : decode cX7_readsOne 84 = .ok (.aload_n 0, 1) := by decide +kernel
theorem dX7_readsOne_85 : decode cX7_readsOne 85 = .ok (.iload_n 1, 1) := by decide +kernel
theorem dX7_readsOne_86 : decode cX7_readsOne 86 = .ok (.iload 5, 2) := by decide +kernel
theorem dX7_readsOne_88 : decode cX7_readsOne 88 = .ok (.iload 6, 2) := by decide +kernel
theorem dX7_readsOne_90 : decode cX7_readsOne 90 = .ok (.invokevirtual 121, 3) := by decide +kernel
theorem dX7_readsOne_93 : decode cX7_readsOne 93 = .ok (.ifCond .eq 7, 3) := by decide +kernel
theorem dX7_readsOne_96 : decode cX7_readsOne 96 = .ok (.iconst 1, 1) := by decide +kernel
theorem dX7_readsOne_97 : decode cX7_readsOne 97 = .ok (.goto 4, 3) := by decide +kernel
theorem dX7_readsOne_100 : decode cX7_readsOne 100 = .ok (.iconst 0, 1) := by decide +kernel
theorem dX7_readsOne_101 : decode cX7_readsOne 101 = .ok (.istore 7, 2) := by decide +kernel
theorem dX7_readsOne_103 : decode cX7_readsOne 103 = .ok (.iload 7, 2) := by decide +kernel
theorem dX7_readsOne_105 : decode cX7_readsOne 105 = .ok (.ifCond .eq 8, 3) := by decide +kernel
theorem dX7_readsOne_108 : decode cX7_readsOne 108 = .ok (.iload 4, 2) := by decide +kernel
theorem dX7_readsOne_110 : decode cX7_readsOne 110 = .ok (.goto 4, 3) := by decide +kernel
theorem dX7_readsOne_113 : decode cX7_readsOne 113 = .ok (.iconst 0, 1) := by decide +kernel
theorem dX7_readsOne_114 : decode cX7_readsOne 114 = .ok (.ireturn, 1) := by decide +kernel
theorem dX7_readsBy_0 : decode cX7_readsBy 0 = .ok (.iconst 0, 1) := by decide +kernel
theorem dX7_readsBy_1 : decode cX7_readsBy 1 = .ok (.istore 5, 2) := by decide +kernel
theorem dX7_readsBy_3 : decode cX7_readsBy 3 = .ok (.iconst 0, 1) := by decide +kernel
theorem dX7_readsBy_4 : decode cX7_readsBy 4 = .ok (.istore 6, 2) := by decide +kernel
theorem dX7_readsBy_6 : decode cX7_readsBy 6 = .ok (.iload 6, 2) := by decide +kernel
theorem dX7_readsBy_8 : decode cX7_readsBy 8 = .ok (.bipush 16, 2) := by decide +kernel
theorem dX7_readsBy_10 : decode cX7_readsBy 10 = .ok (.if_icmp .ge 40, 3) := by decide +kernel
theorem dX7_readsBy_13 : decode cX7_readsBy 13 = .ok (.iload 5, 2) := by decide +kernel
theorem dX7_readsBy_15 : decode cX7_readsBy 15 = .ok (.iload_n 2, 1) := by decide +kernel
theorem dX7_readsBy_16 : decode cX7_readsBy 16 = .ok (.iload 6, 2) := by decide +kernel
theorem dX7_readsBy_18 : decode cX7_readsBy 18 = .ok (.invokestatic 36, 3) := by decide +kernel
theorem dX7_readsBy_21 : decode cX7_readsBy 21 = .ok (.ifCond .eq 19, 3) := by decide +kernel
theorem dX7_readsBy_24 : decode cX7_readsBy 24 = .ok (.aload_n 0, 1) := by decide +kernel
theorem dX7_readsBy_25 : decode cX7_readsBy 25 = .ok (.iload_n 1, 1) := by decide +kernel
theorem dX7_readsBy_26 : decode cX7_readsBy 26 = .ok (.iload 6, 2) := by decide +kernel
theorem dX7_readsBy_28 : decode cX7_readsBy 28 = .ok (.iload_n 3, 1) := by decide +kernel
theorem dX7_readsBy_29 : decode cX7_readsBy 29 = .ok (.iload 4, 2) := by decide +kernel
theorem dX7_readsBy_31 : decode cX7_readsBy 31 = .ok (.invokevirtual 124, 3) := by decide +kernel
theorem dX7_readsBy_34 : decode cX7_readsBy 34 = .ok (.iload 6, 2) := by decide +kernel
theorem dX7_readsBy_36 : decode cX7_readsBy 36 = .ok (.ishl, 1) := by decide +kernel
theorem dX7_readsBy_37 : decode cX7_readsBy 37 = .ok (.goto 4, 3) := by decide +kernel
theorem dX7_readsBy_40 : decode cX7_readsBy 40 = .ok (.iconst 0, 1) := by decide +kernel
theorem dX7_readsBy_41 : decode cX7_readsBy 41 = .ok (.ior, 1) := by decide +kernel
theorem dX7_readsBy_42 : decode cX7_readsBy 42 = .ok (.istore 5, 2) := by decide +kernel
theorem dX7_readsBy_44 : decode cX7_readsBy 44 = .ok (.iinc 6 1, 3) := by decide +kernel
theorem dX7_readsBy_47 : decode cX7_readsBy 47 = .ok (.goto (-41), 3) := by decide +kernel
theorem dX7_readsBy_50 : decode cX7_readsBy 50 = .ok (.iload 5, 2) := by decide +kernel
theorem dX7_readsBy_52 : decode cX7_readsBy 52 = .ok (.ireturn, 1) := by decide +kernel
theorem dX7_measuresOne_0 : decode cX7_measuresOne 0 = .ok (.iload_n 1, 1) := by decide +kernel
theorem dX7_measuresOne_1 : decode cX7_measuresOne 1 = .ok (.bipush 33, 2) := by decide +kernel
theorem dX7_measuresOne_3 : decode cX7_measuresOne 3 = .ok (.imul, 1) := by decide +kernel
theorem dX7_measuresOne_4 : decode cX7_measuresOne 4 = .ok (.istore 4, 2) := by decide +kernel
theorem dX7_measuresOne_6 : decode cX7_measuresOne 6 = .ok (.aload_n 0, 1) := by decide +kernel
theorem dX7_measuresOne_7 : decode cX7_measuresOne 7 = .ok (.iload_n 2, 1) := by decide +kernel
theorem dX7_measuresOne_8 : decode cX7_measuresOne 8 = .ok (.iload_n 3, 1) := by decide +kernel
theorem dX7_measuresOne_9 : decode cX7_measuresOne 9 = .ok (.invokevirtual 128, 3) := by decide +kernel
theorem dX7_measuresOne_12 : decode cX7_measuresOne 12 = .ok (.istore 5, 2) := by decide +kernel
theorem dX7_measuresOne_14 : decode cX7_measuresOne 14 = .ok (.aload_n 0, 1) := by decide +kernel
theorem dX7_measuresOne_15 : decode cX7_measuresOne 15 = .ok (.getfield 19, 3) := by decide +kernel
theorem dX7_measuresOne_18 : decode cX7_measuresOne 18 = .ok (.iload 4, 2) := by decide +kernel
theorem dX7_measuresOne_20 : decode cX7_measuresOne 20 = .ok (.iload 5, 2) := by decide +kernel
theorem dX7_measuresOne_22 : decode cX7_measuresOne 22 = .ok (.iastore, 1) := by decide +kernel
theorem dX7_measuresOne_23 : decode cX7_measuresOne 23 = .ok (.iconst 0, 1) := by decide +kernel
theorem dX7_measuresOne_24 : decode cX7_measuresOne 24 = .ok (.istore 6, 2) := by decide +kernel
theorem dX7_measuresOne_26 : decode cX7_measuresOne 26 = .ok (.iload 6, 2) := by decide +kernel
theorem dX7_measuresOne_28 : decode cX7_measuresOne 28 = .ok (.bipush 16, 2) := by decide +kernel
theorem dX7_measuresOne_30 : decode cX7_measuresOne 30 = .ok (.if_icmp .ge 66, 3) := by decide +kernel
theorem dX7_measuresOne_33 : decode cX7_measuresOne 33 = .ok (.iconst 0, 1) := by decide +kernel
theorem dX7_measuresOne_34 : decode cX7_measuresOne 34 = .ok (.istore 7, 2) := by decide +kernel
theorem dX7_measuresOne_36 : decode cX7_measuresOne 36 = .ok (.iload 7, 2) := by decide +kernel
theorem dX7_measuresOne_38 : decode cX7_measuresOne 38 = .ok (.iconst 2, 1) := by decide +kernel
theorem dX7_measuresOne_39 : decode cX7_measuresOne 39 = .ok (.if_icmp .ge 51, 3) := by decide +kernel
theorem dX7_measuresOne_42 : decode cX7_measuresOne 42 = .ok (.aload_n 0, 1) := by decide +kernel
theorem dX7_measuresOne_43 : decode cX7_measuresOne 43 = .ok (.getfield 19, 3) := by decide +kernel
theorem dX7_measuresOne_46 : decode cX7_measuresOne 46 = .ok (.iload 4, 2) := by decide +kernel
theorem dX7_measuresOne_48 : decode cX7_measuresOne 48 = .ok (.iconst 1, 1) := by decide +kernel
theorem dX7_measuresOne_49 : decode cX7_measuresOne 49 = .ok (.iadd, 1) := by decide +kernel
theorem dX7_measuresOne_50 : decode cX7_measuresOne 50 = .ok (.iconst 2, 1) := by decide +kernel
theorem dX7_measuresOne_51 : decode cX7_measuresOne 51 = .ok (.iload 6, 2) := by decide +kernel
theorem dX7_measuresOne_53 : decode cX7_measuresOne 53 = .ok (.imul, 1) := by decide +kernel
theorem dX7_measuresOne_54 : decode cX7_measuresOne 54 = .ok (.iadd, 1) := by decide +kernel
theorem dX7_measuresOne_55 : decode cX7_measuresOne 55 = .ok (.iload 7, 2) := by decide +kernel
theorem dX7_measuresOne_57 : decode cX7_measuresOne 57 = .ok (.iadd, 1) := by decide +kernel
theorem dX7_measuresOne_58 : decode cX7_measuresOne 58 = .ok (.iload 5, 2) := by decide +kernel
theorem dX7_measuresOne_60 : decode cX7_measuresOne 60 = .ok (.iload 6, 2) := by decide +kernel
theorem dX7_measuresOne_62 : decode cX7_measuresOne 62 = .ok (.invokestatic 36, 3) := by decide +kernel
theorem dX7_measuresOne_65 : decode cX7_measuresOne 65 = .ok (.ifCond .eq 17, 3) := by decide +kernel
theorem dX7_measuresOne_68 : decode cX7_measuresOne 68 = .ok (.aload_n 0, 1) := by decide +kernel
theorem dX7_measuresOne_69 : decode cX7_measuresOne 69 = .ok (.iload_n 2, 1) := by decide +kernel
theorem dX7_measuresOne_70 : decode cX7_measuresOne 70 = .ok (.iload 5, 2) := by decide +kernel
theorem dX7_measuresOne_72 : decode cX7_measuresOne 72 = .ok (.iload 6, 2) := by decide +kernel
theorem dX7_measuresOne_74 : decode cX7_measuresOne 74 = .ok (.iload 7, 2) := by decide +kernel
theorem dX7_measuresOne_76 : decode cX7_measuresOne 76 = .ok (.invokevirtual 131, 3) := by decide +kernel
theorem dX7_measuresOne_79 : decode cX7_measuresOne 79 = .ok (.goto 4, 3) := by decide +kernel
theorem dX7_measuresOne_82 : decode cX7_measuresOne 82 = .ok (.iconst (-1), 1) := by decide +kernel
theorem dX7_measuresOne_83 : decode cX7_measuresOne 83 = .ok (.iastore, 1) := by decide +kernel
theorem dX7_measuresOne_84 : decode cX7_measuresOne 84 = .ok (.iinc 7 1, 3) := by decide +kernel
theorem dX7_measuresOne_87 : decode cX7_measuresOne 87 = .ok (.goto (-51), 3) := by decide +kernel
theorem dX7_measuresOne_90 : decode cX7_measuresOne 90 = .ok (.iinc 6 1, 3) := by decide +kernel
theorem dX7_measuresOne_93 : decode cX7_measuresOne 93 = .ok (.goto (-67), 3) := by decide +kernel
theorem dX7_measuresOne_96 : decode cX7_measuresOne 96 = .ok (.return_, 1) := by decide +kernel
theorem dX7_isBoard_0 : decode cX7_isBoard 0 = .ok (.iload_n 1, 1) := by decide +kernel
theorem dX7_isBoard_1 : decode cX7_isBoard 1 = .ok (.bipush 10, 2) := by decide +kernel
theorem dX7_isBoard_3 : decode cX7_isBoard 3 = .ok (.if_icmp .eq 13, 3) := by decide +kernel
theorem dX7_isBoard_6 : decode cX7_isBoard 6 = .ok (.iload_n 1, 1) := by decide +kernel
theorem dX7_isBoard_7 : decode cX7_isBoard 7 = .ok (.aload_n 0, 1) := by decide +kernel
theorem dX7_isBoard_8 : decode cX7_isBoard 8 = .ok (.getfield 7, 3) := by decide +kernel
theorem dX7_isBoard_11 : decode cX7_isBoard 11 = .ok (.iconst 2, 1) := by decide +kernel
theorem dX7_isBoard_12 : decode cX7_isBoard 12 = .ok (.iaload, 1) := by decide +kernel
theorem dX7_isBoard_13 : decode cX7_isBoard 13 = .ok (.if_icmp .ge 7, 3) := by decide +kernel
theorem dX7_isBoard_16 : decode cX7_isBoard 16 = .ok (.iconst 1, 1) := by decide +kernel
theorem dX7_isBoard_17 : decode cX7_isBoard 17 = .ok (.goto 4, 3) := by decide +kernel
theorem dX7_isBoard_20 : decode cX7_isBoard 20 = .ok (.iconst 0, 1) := by decide +kernel
theorem dX7_isBoard_21 : decode cX7_isBoard 21 = .ok (.ireturn, 1) := by decide +kernel
theorem dX7_slotOf_0 : decode cX7_slotOf 0 = .ok (.iload_n 0, 1) := by decide +kernel
theorem dX7_slotOf_1 : decode cX7_slotOf 1 = .ok (.iconst (-1), 1) := by decide +kernel
theorem dX7_slotOf_2 : decode cX7_slotOf 2 = .ok (.if_icmp .ne 8, 3) := by decide +kernel
theorem dX7_slotOf_5 : decode cX7_slotOf 5 = .ok (.bipush 10, 2) := by decide +kernel
theorem dX7_slotOf_7 : decode cX7_slotOf 7 = .ok (.goto 4, 3) := by decide +kernel
theorem dX7_slotOf_10 : decode cX7_slotOf 10 = .ok (.iload_n 0, 1) := by decide +kernel
theorem dX7_slotOf_11 : decode cX7_slotOf 11 = .ok (.ireturn, 1) := by decide +kernel
theorem dX7_measures_0 : decode cX7_measures 0 = .ok (.iconst 0, 1) := by decide +kernel
theorem dX7_measures_1 : decode cX7_measures 1 = .ok (.istore_n 2, 1) := by decide +kernel
theorem dX7_measures_2 : decode cX7_measures 2 = .ok (.iload_n 2, 1) := by decide +kernel
theorem dX7_measures_3 : decode cX7_measures 3 = .ok (.bipush 10, 2) := by decide +kernel
theorem dX7_measures_5 : decode cX7_measures 5 = .ok (.if_icmp .gt 34, 3) := by decide +kernel
theorem dX7_measures_8 : decode cX7_measures 8 = .ok (.aload_n 0, 1) := by decide +kernel
theorem dX7_measures_9 : decode cX7_measures 9 = .ok (.iload_n 2, 1) := by decide +kernel
theorem dX7_measures_10 : decode cX7_measures 10 = .ok (.invokevirtual 134, 3) := by decide +kernel
theorem dX7_measures_13 : decode cX7_measures 13 = .ok (.ifCond .eq 20, 3) := by decide +kernel
theorem dX7_measures_16 : decode cX7_measures 16 = .ok (.aload_n 0, 1) := by decide +kernel
theorem dX7_measures_17 : decode cX7_measures 17 = .ok (.iload_n 2, 1) := by decide +kernel
theorem dX7_measures_18 : decode cX7_measures 18 = .ok (.iload_n 2, 1) := by decide +kernel
theorem dX7_measures_19 : decode cX7_measures 19 = .ok (.bipush 10, 2) := by decide +kernel
theorem dX7_measures_21 : decode cX7_measures 21 = .ok (.if_icmp .ne 7, 3) := by decide +kernel
theorem dX7_measures_24 : decode cX7_measures 24 = .ok (.iconst (-1), 1) := by decide +kernel
theorem dX7_measures_25 : decode cX7_measures 25 = .ok (.goto 4, 3) := by decide +kernel
theorem dX7_measures_28 : decode cX7_measures 28 = .ok (.iload_n 2, 1) := by decide +kernel
theorem dX7_measures_29 : decode cX7_measures 29 = .ok (.iload_n 1, 1) := by decide +kernel
theorem dX7_measures_30 : decode cX7_measures 30 = .ok (.invokevirtual 137, 3) := by decide +kernel
theorem dX7_measures_33 : decode cX7_measures 33 = .ok (.iinc 2 1, 3) := by decide +kernel
theorem dX7_measures_36 : decode cX7_measures 36 = .ok (.goto (-34), 3) := by decide +kernel
theorem dX7_measures_39 : decode cX7_measures 39 = .ok (.return_, 1) := by decide +kernel
theorem dX7_isLike_0 : decode cX7_isLike 0 = .ok (.iconst 0, 1) := by decide +kernel
theorem dX7_isLike_1 : decode cX7_isLike 1 = .ok (.istore_n 3, 1) := by decide +kernel
theorem dX7_isLike_2 : decode cX7_isLike 2 = .ok (.iload_n 3, 1) := by decide +kernel
theorem dX7_isLike_3 : decode cX7_isLike 3 = .ok (.bipush 33, 2) := by decide +kernel
theorem dX7_isLike_5 : decode cX7_isLike 5 = .ok (.if_icmp .ge 36, 3) := by decide +kernel
theorem dX7_isLike_8 : decode cX7_isLike 8 = .ok (.aload_n 0, 1) := by decide +kernel
theorem dX7_isLike_9 : decode cX7_isLike 9 = .ok (.getfield 19, 3) := by decide +kernel
theorem dX7_isLike_12 : decode cX7_isLike 12 = .ok (.iload_n 1, 1) := by decide +kernel
theorem dX7_isLike_13 : decode cX7_isLike 13 = .ok (.bipush 33, 2) := by decide +kernel
theorem dX7_isLike_15 : decode cX7_isLike 15 = .ok (.imul, 1) := by decide +kernel
theorem dX7_isLike_16 : decode cX7_isLike 16 = .ok (.iload_n 3, 1) := by decide +kernel
theorem dX7_isLike_17 : decode cX7_isLike 17 = .ok (.iadd, 1) := by decide +kernel
theorem dX7_isLike_18 : decode cX7_isLike 18 = .ok (.iaload, 1) := by decide +kernel
theorem dX7_isLike_19 : decode cX7_isLike 19 = .ok (.aload_n 0, 1) := by decide +kernel
theorem dX7_isLike_20 : decode cX7_isLike 20 = .ok (.getfield 19, 3) := by decide +kernel
theorem dX7_isLike_23 : decode cX7_isLike 23 = .ok (.iload_n 2, 1) := by decide +kernel
theorem dX7_isLike_24 : decode cX7_isLike 24 = .ok (.bipush 33, 2) := by decide +kernel
theorem dX7_isLike_26 : decode cX7_isLike 26 = .ok (.imul, 1) := by decide +kernel
theorem dX7_isLike_27 : decode cX7_isLike 27 = .ok (.iload_n 3, 1) := by decide +kernel
theorem dX7_isLike_28 : decode cX7_isLike 28 = .ok (.iadd, 1) := by decide +kernel
theorem dX7_isLike_29 : decode cX7_isLike 29 = .ok (.iaload, 1) := by decide +kernel
theorem dX7_isLike_30 : decode cX7_isLike 30 = .ok (.if_icmp .eq 5, 3) := by decide +kernel
theorem dX7_isLike_33 : decode cX7_isLike 33 = .ok (.iconst 0, 1) := by decide +kernel
theorem dX7_isLike_34 : decode cX7_isLike 34 = .ok (.ireturn, 1) := by decide +kernel
theorem dX7_isLike_35 : decode cX7_isLike 35 = .ok (.iinc 3 1, 3) := by decide +kernel
theorem dX7_isLike_38 : decode cX7_isLike 38 = .ok (.goto (-36), 3) := by decide +kernel
theorem dX7_isLike_41 : decode cX7_isLike 41 = .ok (.iconst 1, 1) := by decide +kernel
theorem dX7_isLike_42 : decode cX7_isLike 42 = .ok (.ireturn, 1) := by decide +kernel
theorem dX7_likeSet_0 : decode cX7_likeSet 0 = .ok (.iconst 0, 1) := by decide +kernel
theorem dX7_likeSet_1 : decode cX7_likeSet 1 = .ok (.istore_n 2, 1) := by decide +kernel
theorem dX7_likeSet_2 : decode cX7_likeSet 2 = .ok (.iconst 0, 1) := by decide +kernel
theorem dX7_likeSet_3 : decode cX7_likeSet 3 = .ok (.istore_n 3, 1) := by decide +kernel
theorem dX7_likeSet_4 : decode cX7_likeSet 4 = .ok (.iload_n 3, 1) := by decide +kernel
theorem dX7_likeSet_5 : decode cX7_likeSet 5 = .ok (.bipush 10, 2) := by decide +kernel
theorem dX7_likeSet_7 : decode cX7_likeSet 7 = .ok (.if_icmp .gt 36, 3) := by decide +kernel
theorem dX7_likeSet_10 : decode cX7_likeSet 10 = .ok (.iload_n 2, 1) := by decide +kernel
theorem dX7_likeSet_11 : decode cX7_likeSet 11 = .ok (.aload_n 0, 1) := by decide +kernel
theorem dX7_likeSet_12 : decode cX7_likeSet 12 = .ok (.iload_n 3, 1) := by decide +kernel
theorem dX7_likeSet_13 : decode cX7_likeSet 13 = .ok (.invokevirtual 134, 3) := by decide +kernel
theorem dX7_likeSet_16 : decode cX7_likeSet 16 = .ok (.ifCond .eq 18, 3) := by decide +kernel
theorem dX7_likeSet_19 : decode cX7_likeSet 19 = .ok (.aload_n 0, 1) := by decide +kernel
theorem dX7_likeSet_20 : decode cX7_likeSet 20 = .ok (.iload_n 1, 1) := by decide +kernel
theorem dX7_likeSet_21 : decode cX7_likeSet 21 = .ok (.iload_n 3, 1) := by decide +kernel
theorem dX7_likeSet_22 : decode cX7_likeSet 22 = .ok (.invokevirtual 141, 3) := by decide +kernel
theorem dX7_likeSet_25 : decode cX7_likeSet 25 = .ok (.ifCond .eq 9, 3) := by decide +kernel
theorem dX7_likeSet_28 : decode cX7_likeSet 28 = .ok (.iconst 1, 1) := by decide +kernel
theorem dX7_likeSet_29 : decode cX7_likeSet 29 = .ok (.iload_n 3, 1) := by decide +kernel
theorem dX7_likeSet_30 : decode cX7_likeSet 30 = .ok (.ishl, 1) := by decide +kernel
theorem dX7_likeSet_31 : decode cX7_likeSet 31 = .ok (.goto 4, 3) := by decide +kernel
theorem dX7_likeSet_34 : decode cX7_likeSet 34 = .ok (.iconst 0, 1) := by decide +kernel
theorem dX7_likeSet_35 : decode cX7_likeSet 35 = .ok (.ior, 1) := by decide +kernel
theorem dX7_likeSet_36 : decode cX7_likeSet 36 = .ok (.istore_n 2, 1) := by decide +kernel
theorem dX7_likeSet_37 : decode cX7_likeSet 37 = .ok (.iinc 3 1, 3) := by decide +kernel
theorem dX7_likeSet_40 : decode cX7_likeSet 40 = .ok (.goto (-36), 3) := by decide +kernel
theorem dX7_likeSet_43 : decode cX7_likeSet 43 = .ok (.iload_n 2, 1) := by decide +kernel
theorem dX7_likeSet_44 : decode cX7_likeSet 44 = .ok (.ireturn, 1) := by decide +kernel
theorem dX7_isDay_0 : decode cX7_isDay 0 = .ok (.iload_n 0, 1) := by decide +kernel
theorem dX7_isDay_1 : decode cX7_isDay 1 = .ok (.iconst 0, 1) := by decide +kernel
theorem dX7_isDay_2 : decode cX7_isDay 2 = .ok (.bipush 6, 2) := by decide +kernel
theorem dX7_isDay_4 : decode cX7_isDay 4 = .ok (.invokestatic 45, 3) := by decide +kernel
theorem dX7_isDay_7 : decode cX7_isDay 7 = .ok (.ireturn, 1) := by decide +kernel
theorem dX7_reached_0 : decode cX7_reached 0 = .ok (.iload_n 1, 1) := by decide +kernel
theorem dX7_reached_1 : decode cX7_reached 1 = .ok (.invokestatic 144, 3) := by decide +kernel
theorem dX7_reached_4 : decode cX7_reached 4 = .ok (.ifCond .eq 24, 3) := by decide +kernel
theorem dX7_reached_7 : decode cX7_reached 7 = .ok (.aload_n 0, 1) := by decide +kernel
theorem dX7_reached_8 : decode cX7_reached 8 = .ok (.iload_n 2, 1) := by decide +kernel
theorem dX7_reached_9 : decode cX7_reached 9 = .ok (.invokevirtual 147, 3) := by decide +kernel
theorem dX7_reached_12 : decode cX7_reached 12 = .ok (.ifCond .eq 16, 3) := by decide +kernel
theorem dX7_reached_15 : decode cX7_reached 15 = .ok (.aload_n 0, 1) := by decide +kernel
theorem dX7_reached_16 : decode cX7_reached 16 = .ok (.iload_n 2, 1) := by decide +kernel
theorem dX7_reached_17 : decode cX7_reached 17 = .ok (.aload_n 0, 1) := by decide +kernel
theorem dX7_reached_18 : decode cX7_reached 18 = .ok (.iload_n 1, 1) := by decide +kernel
theorem dX7_reached_19 : decode cX7_reached 19 = .ok (.invokevirtual 90, 3) := by decide +kernel
theorem dX7_reached_22 : decode cX7_reached 22 = .ok (.invokevirtual 128, 3) := by decide +kernel
theorem dX7_reached_25 : decode cX7_reached 25 = .ok (.goto 5, 3) := by decide +kernel
theorem dX7_reached_28 : decode cX7_reached 28 = .ok (.ldc 53, 2) := by decide +kernel
theorem dX7_reached_30 : decode cX7_reached 30 = .ok (.ireturn, 1) := by decide +kernel
theorem dX7_scanned_0 : decode cX7_scanned 0 = .ok (.iload_n 1, 1) := by decide +kernel
theorem dX7_scanned_1 : decode cX7_scanned 1 = .ok (.invokestatic 144, 3) := by decide +kernel
theorem dX7_scanned_4 : decode cX7_scanned 4 = .ok (.ifCond .eq 24, 3) := by decide +kernel
theorem dX7_scanned_7 : decode cX7_scanned 7 = .ok (.aload_n 0, 1) := by decide +kernel
theorem dX7_scanned_8 : decode cX7_scanned 8 = .ok (.iload_n 2, 1) := by decide +kernel
theorem dX7_scanned_9 : decode cX7_scanned 9 = .ok (.invokevirtual 147, 3) := by decide +kernel
theorem dX7_scanned_12 : decode cX7_scanned 12 = .ok (.ifCond .eq 16, 3) := by decide +kernel
theorem dX7_scanned_15 : decode cX7_scanned 15 = .ok (.aload_n 0, 1) := by decide +kernel
theorem dX7_scanned_16 : decode cX7_scanned 16 = .ok (.iload_n 2, 1) := by decide +kernel
theorem dX7_scanned_17 : decode cX7_scanned 17 = .ok (.aload_n 0, 1) := by decide +kernel
theorem dX7_scanned_18 : decode cX7_scanned 18 = .ok (.iload_n 1, 1) := by decide +kernel
theorem dX7_scanned_19 : decode cX7_scanned 19 = .ok (.invokevirtual 90, 3) := by decide +kernel
theorem dX7_scanned_22 : decode cX7_scanned 22 = .ok (.invokevirtual 118, 3) := by decide +kernel
theorem dX7_scanned_25 : decode cX7_scanned 25 = .ok (.goto 5, 3) := by decide +kernel
theorem dX7_scanned_28 : decode cX7_scanned 28 = .ok (.ldc 53, 2) := by decide +kernel
theorem dX7_scanned_30 : decode cX7_scanned 30 = .ok (.ireturn, 1) := by decide +kernel
theorem dX7_reads_0 : decode cX7_reads 0 = .ok (.iload_n 1, 1) := by decide +kernel
theorem dX7_reads_1 : decode cX7_reads 1 = .ok (.invokestatic 144, 3) := by decide +kernel
theorem dX7_reads_4 : decode cX7_reads 4 = .ok (.ifCond .eq 31, 3) := by decide +kernel
theorem dX7_reads_7 : decode cX7_reads 7 = .ok (.aload_n 0, 1) := by decide +kernel
theorem dX7_reads_8 : decode cX7_reads 8 = .ok (.iload_n 2, 1) := by decide +kernel
theorem dX7_reads_9 : decode cX7_reads 9 = .ok (.invokevirtual 147, 3) := by decide +kernel
theorem dX7_reads_12 : decode cX7_reads 12 = .ok (.ifCond .eq 23, 3) := by decide +kernel
theorem dX7_reads_15 : decode cX7_reads 15 = .ok (.iload_n 3, 1) := by decide +kernel
theorem dX7_reads_16 : decode cX7_reads 16 = .ok (.iconst 0, 1) := by decide +kernel
theorem dX7_reads_17 : decode cX7_reads 17 = .ok (.bipush 15, 2) := by decide +kernel
theorem dX7_reads_19 : decode cX7_reads 19 = .ok (.invokestatic 45, 3) := by decide +kernel
theorem dX7_reads_22 : decode cX7_reads 22 = .ok (.ifCond .eq 13, 3) := by decide +kernel
theorem dX7_reads_25 : decode cX7_reads 25 = .ok (.iload 4, 2) := by decide +kernel
theorem dX7_reads_27 : decode cX7_reads 27 = .ok (.iconst 0, 1) := by decide +kernel
theorem dX7_reads_28 : decode cX7_reads 28 = .ok (.iconst 1, 1) := by decide +kernel
theorem dX7_reads_29 : decode cX7_reads 29 = .ok (.invokestatic 45, 3) := by decide +kernel
theorem dX7_reads_32 : decode cX7_reads 32 = .ok (.ifCond .ne 6, 3) := by decide +kernel
theorem dX7_reads_35 : decode cX7_reads 35 = .ok (.ldc 53, 2) := by decide +kernel
theorem dX7_reads_37 : decode cX7_reads 37 = .ok (.ireturn, 1) := by decide +kernel
theorem dX7_reads_38 : decode cX7_reads 38 = .ok (.aload_n 0, 1) := by decide +kernel
theorem dX7_reads_39 : decode cX7_reads 39 = .ok (.iload_n 2, 1) := by decide +kernel
theorem dX7_reads_40 : decode cX7_reads 40 = .ok (.aload_n 0, 1) := by decide +kernel
theorem dX7_reads_41 : decode cX7_reads 41 = .ok (.iload_n 1, 1) := by decide +kernel
theorem dX7_reads_42 : decode cX7_reads 42 = .ok (.invokevirtual 90, 3) := by decide +kernel
theorem dX7_reads_45 : decode cX7_reads 45 = .ok (.invokevirtual 128, 3) := by decide +kernel
theorem dX7_reads_48 : decode cX7_reads 48 = .ok (.istore 5, 2) := by decide +kernel
theorem dX7_reads_50 : decode cX7_reads 50 = .ok (.iload 5, 2) := by decide +kernel
theorem dX7_reads_52 : decode cX7_reads 52 = .ok (.iload_n 3, 1) := by decide +kernel
theorem dX7_reads_53 : decode cX7_reads 53 = .ok (.invokestatic 36, 3) := by decide +kernel
theorem dX7_reads_56 : decode cX7_reads 56 = .ok (.ifCond .eq 16, 3) := by decide +kernel
theorem dX7_reads_59 : decode cX7_reads 59 = .ok (.aload_n 0, 1) := by decide +kernel
theorem dX7_reads_60 : decode cX7_reads 60 = .ok (.iload_n 2, 1) := by decide +kernel
theorem dX7_reads_61 : decode cX7_reads 61 = .ok (.iload 5, 2) := by decide +kernel
theorem dX7_reads_63 : decode cX7_reads 63 = .ok (.iload_n 3, 1) := by decide +kernel
theorem dX7_reads_64 : decode cX7_reads 64 = .ok (.iload 4, 2) := by decide +kernel
theorem dX7_reads_66 : decode cX7_reads 66 = .ok (.invokevirtual 131, 3) := by decide +kernel
theorem dX7_reads_69 : decode cX7_reads 69 = .ok (.goto 5, 3) := by decide +kernel
theorem dX7_reads_72 : decode cX7_reads 72 = .ok (.ldc 93, 2) := by decide +kernel
theorem dX7_reads_74 : decode cX7_reads 74 = .ok (.ireturn, 1) := by decide +kernel
theorem dX7_alikeDays_0 : decode cX7_alikeDays 0 = .ok (.iconst 0, 1) := by decide +kernel
theorem dX7_alikeDays_1 : decode cX7_alikeDays 1 = .ok (.istore_n 3, 1) := by decide +kernel
theorem dX7_alikeDays_2 : decode cX7_alikeDays 2 = .ok (.iconst 0, 1) := by decide +kernel
theorem dX7_alikeDays_3 : decode cX7_alikeDays 3 = .ok (.istore 4, 2) := by decide +kernel
theorem dX7_alikeDays_5 : decode cX7_alikeDays 5 = .ok (.iload 4, 2) := by decide +kernel
theorem dX7_alikeDays_7 : decode cX7_alikeDays 7 = .ok (.bipush 7, 2) := by decide +kernel
theorem dX7_alikeDays_9 : decode cX7_alikeDays 9 = .ok (.if_icmp .ge 65, 3) := by decide +kernel
theorem dX7_alikeDays_12 : decode cX7_alikeDays 12 = .ok (.aload_n 0, 1) := by decide +kernel
theorem dX7_alikeDays_13 : decode cX7_alikeDays 13 = .ok (.iload 4, 2) := by decide +kernel
theorem dX7_alikeDays_15 : decode cX7_alikeDays 15 = .ok (.invokevirtual 90, 3) := by decide +kernel
theorem dX7_alikeDays_18 : decode cX7_alikeDays 18 = .ok (.istore 5, 2) := by decide +kernel
theorem dX7_alikeDays_20 : decode cX7_alikeDays 20 = .ok (.aload_n 0, 1) := by decide +kernel
theorem dX7_alikeDays_21 : decode cX7_alikeDays 21 = .ok (.iload_n 1, 1) := by decide +kernel
theorem dX7_alikeDays_22 : decode cX7_alikeDays 22 = .ok (.invokestatic 150, 3) := by decide +kernel
theorem dX7_alikeDays_25 : decode cX7_alikeDays 25 = .ok (.iload_n 1, 1) := by decide +kernel
theorem dX7_alikeDays_26 : decode cX7_alikeDays 26 = .ok (.iload 5, 2) := by decide +kernel
theorem dX7_alikeDays_28 : decode cX7_alikeDays 28 = .ok (.invokevirtual 137, 3) := by decide +kernel
theorem dX7_alikeDays_31 : decode cX7_alikeDays 31 = .ok (.aload_n 0, 1) := by decide +kernel
theorem dX7_alikeDays_32 : decode cX7_alikeDays 32 = .ok (.iload_n 2, 1) := by decide +kernel
theorem dX7_alikeDays_33 : decode cX7_alikeDays 33 = .ok (.invokestatic 150, 3) := by decide +kernel
theorem dX7_alikeDays_36 : decode cX7_alikeDays 36 = .ok (.iload_n 2, 1) := by decide +kernel
theorem dX7_alikeDays_37 : decode cX7_alikeDays 37 = .ok (.iload 5, 2) := by decide +kernel
theorem dX7_alikeDays_39 : decode cX7_alikeDays 39 = .ok (.invokevirtual 137, 3) := by decide +kernel
theorem dX7_alikeDays_42 : decode cX7_alikeDays 42 = .ok (.iload_n 3, 1) := by decide +kernel
theorem dX7_alikeDays_43 : decode cX7_alikeDays 43 = .ok (.aload_n 0, 1) := by decide +kernel
theorem dX7_alikeDays_44 : decode cX7_alikeDays 44 = .ok (.iload_n 1, 1) := by decide +kernel
theorem dX7_alikeDays_45 : decode cX7_alikeDays 45 = .ok (.invokestatic 150, 3) := by decide +kernel
theorem dX7_alikeDays_48 : decode cX7_alikeDays 48 = .ok (.iload_n 2, 1) := by decide +kernel
theorem dX7_alikeDays_49 : decode cX7_alikeDays 49 = .ok (.invokestatic 150, 3) := by decide +kernel
theorem dX7_alikeDays_52 : decode cX7_alikeDays 52 = .ok (.invokevirtual 141, 3) := by decide +kernel
theorem dX7_alikeDays_55 : decode cX7_alikeDays 55 = .ok (.ifCond .eq 10, 3) := by decide +kernel
theorem dX7_alikeDays_58 : decode cX7_alikeDays 58 = .ok (.iconst 1, 1) := by decide +kernel
theorem dX7_alikeDays_59 : decode cX7_alikeDays 59 = .ok (.iload 4, 2) := by decide +kernel
theorem dX7_alikeDays_61 : decode cX7_alikeDays 61 = .ok (.ishl, 1) := by decide +kernel
theorem dX7_alikeDays_62 : decode cX7_alikeDays 62 = .ok (.goto 4, 3) := by decide +kernel
theorem dX7_alikeDays_65 : decode cX7_alikeDays 65 = .ok (.iconst 0, 1) := by decide +kernel
theorem dX7_alikeDays_66 : decode cX7_alikeDays 66 = .ok (.ior, 1) := by decide +kernel
theorem dX7_alikeDays_67 : decode cX7_alikeDays 67 = .ok (.istore_n 3, 1) := by decide +kernel
theorem dX7_alikeDays_68 : decode cX7_alikeDays 68 = .ok (.iinc 4 1, 3) := by decide +kernel
theorem dX7_alikeDays_71 : decode cX7_alikeDays 71 = .ok (.goto (-66), 3) := by decide +kernel
theorem dX7_alikeDays_74 : decode cX7_alikeDays 74 = .ok (.iload_n 3, 1) := by decide +kernel
theorem dX7_alikeDays_75 : decode cX7_alikeDays 75 = .ok (.ireturn, 1) := by decide +kernel
theorem dX7_daysOf_0 : decode cX7_daysOf 0 = .ok (.aload_n 0, 1) := by decide +kernel
theorem dX7_daysOf_1 : decode cX7_daysOf 1 = .ok (.iload_n 1, 1) := by decide +kernel
theorem dX7_daysOf_2 : decode cX7_daysOf 2 = .ok (.invokevirtual 100, 3) := by decide +kernel
theorem dX7_daysOf_5 : decode cX7_daysOf 5 = .ok (.ifCond .eq 15, 3) := by decide +kernel
theorem dX7_daysOf_8 : decode cX7_daysOf 8 = .ok (.bipush 127, 2) := by decide +kernel
theorem dX7_daysOf_10 : decode cX7_daysOf 10 = .ok (.aload_n 0, 1) := by decide +kernel
theorem dX7_daysOf_11 : decode cX7_daysOf 11 = .ok (.iload_n 1, 1) := by decide +kernel
theorem dX7_daysOf_12 : decode cX7_daysOf 12 = .ok (.iconst (-1), 1) := by decide +kernel
theorem dX7_daysOf_13 : decode cX7_daysOf 13 = .ok (.invokevirtual 153, 3) := by decide +kernel
theorem dX7_daysOf_16 : decode cX7_daysOf 16 = .ok (.isub, 1) := by decide +kernel
theorem dX7_daysOf_17 : decode cX7_daysOf 17 = .ok (.goto 5, 3) := by decide +kernel
theorem dX7_daysOf_20 : decode cX7_daysOf 20 = .ok (.ldc 53, 2) := by decide +kernel
theorem dX7_daysOf_22 : decode cX7_daysOf 22 = .ok (.ireturn, 1) := by decide +kernel
theorem dX7_alike_0 : decode cX7_alike 0 = .ok (.aload_n 0, 1) := by decide +kernel
theorem dX7_alike_1 : decode cX7_alike 1 = .ok (.iload_n 1, 1) := by decide +kernel
theorem dX7_alike_2 : decode cX7_alike 2 = .ok (.invokevirtual 147, 3) := by decide +kernel
theorem dX7_alike_5 : decode cX7_alike 5 = .ok (.ifCond .eq 20, 3) := by decide +kernel
theorem dX7_alike_8 : decode cX7_alike 8 = .ok (.aload_n 0, 1) := by decide +kernel
theorem dX7_alike_9 : decode cX7_alike 9 = .ok (.iload_n 2, 1) := by decide +kernel
theorem dX7_alike_10 : decode cX7_alike 10 = .ok (.invokevirtual 147, 3) := by decide +kernel
theorem dX7_alike_13 : decode cX7_alike 13 = .ok (.ifCond .eq 12, 3) := by decide +kernel
theorem dX7_alike_16 : decode cX7_alike 16 = .ok (.aload_n 0, 1) := by decide +kernel
theorem dX7_alike_17 : decode cX7_alike 17 = .ok (.iload_n 1, 1) := by decide +kernel
theorem dX7_alike_18 : decode cX7_alike 18 = .ok (.iload_n 2, 1) := by decide +kernel
theorem dX7_alike_19 : decode cX7_alike 19 = .ok (.invokevirtual 153, 3) := by decide +kernel
theorem dX7_alike_22 : decode cX7_alike 22 = .ok (.goto 5, 3) := by decide +kernel
theorem dX7_alike_25 : decode cX7_alike 25 = .ok (.ldc 53, 2) := by decide +kernel
theorem dX7_alike_27 : decode cX7_alike 27 = .ok (.ireturn, 1) := by decide +kernel
theorem dX7_twin_0 : decode cX7_twin 0 = .ok (.aload_n 0, 1) := by decide +kernel
theorem dX7_twin_1 : decode cX7_twin 1 = .ok (.iload_n 1, 1) := by decide +kernel
theorem dX7_twin_2 : decode cX7_twin 2 = .ok (.invokevirtual 100, 3) := by decide +kernel
theorem dX7_twin_5 : decode cX7_twin 5 = .ok (.ifCond .ne 6, 3) := by decide +kernel
theorem dX7_twin_8 : decode cX7_twin 8 = .ok (.ldc 53, 2) := by decide +kernel
theorem dX7_twin_10 : decode cX7_twin 10 = .ok (.ireturn, 1) := by decide +kernel
theorem dX7_twin_11 : decode cX7_twin 11 = .ok (.iconst 0, 1) := by decide +kernel
theorem dX7_twin_12 : decode cX7_twin 12 = .ok (.istore_n 2, 1) := by decide +kernel
theorem dX7_twin_13 : decode cX7_twin 13 = .ok (.iload_n 2, 1) := by decide +kernel
theorem dX7_twin_14 : decode cX7_twin 14 = .ok (.aload_n 0, 1) := by decide +kernel
theorem dX7_twin_15 : decode cX7_twin 15 = .ok (.getfield 7, 3) := by decide +kernel
theorem dX7_twin_18 : decode cX7_twin 18 = .ok (.iconst 2, 1) := by decide +kernel
theorem dX7_twin_19 : decode cX7_twin 19 = .ok (.iaload, 1) := by decide +kernel
theorem dX7_twin_20 : decode cX7_twin 20 = .ok (.if_icmp .ge 27, 3) := by decide +kernel
theorem dX7_twin_23 : decode cX7_twin 23 = .ok (.iload_n 2, 1) := by decide +kernel
theorem dX7_twin_24 : decode cX7_twin 24 = .ok (.iload_n 1, 1) := by decide +kernel
theorem dX7_twin_25 : decode cX7_twin 25 = .ok (.if_icmp .eq 16, 3) := by decide +kernel
theorem dX7_twin_28 : decode cX7_twin 28 = .ok (.aload_n 0, 1) := by decide +kernel
theorem dX7_twin_29 : decode cX7_twin 29 = .ok (.iload_n 1, 1) := by decide +kernel
theorem dX7_twin_30 : decode cX7_twin 30 = .ok (.iload_n 2, 1) := by decide +kernel
theorem dX7_twin_31 : decode cX7_twin 31 = .ok (.invokevirtual 153, 3) := by decide +kernel
theorem dX7_twin_34 : decode cX7_twin 34 = .ok (.bipush 127, 2) := by decide +kernel
theorem dX7_twin_36 : decode cX7_twin 36 = .ok (.if_icmp .ne 5, 3) := by decide +kernel
theorem dX7_twin_39 : decode cX7_twin 39 = .ok (.iload_n 2, 1) := by decide +kernel
theorem dX7_twin_40 : decode cX7_twin 40 = .ok (.ireturn, 1) := by decide +kernel
theorem dX7_twin_41 : decode cX7_twin 41 = .ok (.iinc 2 1, 3) := by decide +kernel
theorem dX7_twin_44 : decode cX7_twin 44 = .ok (.goto (-31), 3) := by decide +kernel
theorem dX7_twin_47 : decode cX7_twin 47 = .ok (.aload_n 0, 1) := by decide +kernel
theorem dX7_twin_48 : decode cX7_twin 48 = .ok (.iload_n 1, 1) := by decide +kernel
theorem dX7_twin_49 : decode cX7_twin 49 = .ok (.iconst (-1), 1) := by decide +kernel
theorem dX7_twin_50 : decode cX7_twin 50 = .ok (.invokevirtual 153, 3) := by decide +kernel
theorem dX7_twin_53 : decode cX7_twin 53 = .ok (.bipush 127, 2) := by decide +kernel
theorem dX7_twin_55 : decode cX7_twin 55 = .ok (.if_icmp .ne 7, 3) := by decide +kernel
theorem dX7_twin_58 : decode cX7_twin 58 = .ok (.iconst (-1), 1) := by decide +kernel
theorem dX7_twin_59 : decode cX7_twin 59 = .ok (.goto 5, 3) := by decide +kernel
theorem dX7_twin_62 : decode cX7_twin 62 = .ok (.ldc 93, 2) := by decide +kernel
theorem dX7_twin_64 : decode cX7_twin 64 = .ok (.ireturn, 1) := by decide +kernel
theorem dX7_outcomes_0 : decode cX7_outcomes 0 = .ok (.iload_n 1, 1) := by decide +kernel
theorem dX7_outcomes_1 : decode cX7_outcomes 1 = .ok (.invokestatic 144, 3) := by decide +kernel
theorem dX7_outcomes_4 : decode cX7_outcomes 4 = .ok (.ifCond .ne 6, 3) := by decide +kernel
theorem dX7_outcomes_7 : decode cX7_outcomes 7 = .ok (.ldc 53, 2) := by decide +kernel
theorem dX7_outcomes_9 : decode cX7_outcomes 9 = .ok (.ireturn, 1) := by decide +kernel
theorem dX7_outcomes_10 : decode cX7_outcomes 10 = .ok (.aload_n 0, 1) := by decide +kernel
theorem dX7_outcomes_11 : decode cX7_outcomes 11 = .ok (.aload_n 0, 1) := by decide +kernel
theorem dX7_outcomes_12 : decode cX7_outcomes 12 = .ok (.iload_n 1, 1) := by decide +kernel
theorem dX7_outcomes_13 : decode cX7_outcomes 13 = .ok (.invokevirtual 90, 3) := by decide +kernel
theorem dX7_outcomes_16 : decode cX7_outcomes 16 = .ok (.invokevirtual 156, 3) := by decide +kernel
theorem dX7_outcomes_19 : decode cX7_outcomes 19 = .ok (.iconst 0, 1) := by decide +kernel
theorem dX7_outcomes_20 : decode cX7_outcomes 20 = .ok (.istore_n 2, 1) := by decide +kernel
theorem dX7_outcomes_21 : decode cX7_outcomes 21 = .ok (.iconst 0, 1) := by decide +kernel
theorem dX7_outcomes_22 : decode cX7_outcomes 22 = .ok (.istore_n 3, 1) := by decide +kernel
theorem dX7_outcomes_23 : decode cX7_outcomes 23 = .ok (.iload_n 3, 1) := by decide +kernel
theorem dX7_outcomes_24 : decode cX7_outcomes 24 = .ok (.bipush 10, 2) := by decide +kernel
theorem dX7_outcomes_26 : decode cX7_outcomes 26 = .ok (.if_icmp .gt 43, 3) := by decide +kernel
theorem dX7_outcomes_29 : decode cX7_outcomes 29 = .ok (.aload_n 0, 1) := by decide +kernel
theorem dX7_outcomes_30 : decode cX7_outcomes 30 = .ok (.iload_n 3, 1) := by decide +kernel
theorem dX7_outcomes_31 : decode cX7_outcomes 31 = .ok (.invokevirtual 134, 3) := by decide +kernel
theorem dX7_outcomes_34 : decode cX7_outcomes 34 = .ok (.ifCond .eq 29, 3) := by decide +kernel
theorem dX7_outcomes_37 : decode cX7_outcomes 37 = .ok (.aload_n 0, 1) := by decide +kernel
theorem dX7_outcomes_38 : decode cX7_outcomes 38 = .ok (.iload_n 3, 1) := by decide +kernel
theorem dX7_outcomes_39 : decode cX7_outcomes 39 = .ok (.invokevirtual 160, 3) := by decide +kernel
theorem dX7_outcomes_42 : decode cX7_outcomes 42 = .ok (.istore 4, 2) := by decide +kernel
theorem dX7_outcomes_44 : decode cX7_outcomes 44 = .ok (.iload_n 2, 1) := by decide +kernel
theorem dX7_outcomes_45 : decode cX7_outcomes 45 = .ok (.iload 4, 2) := by decide +kernel
theorem dX7_outcomes_47 : decode cX7_outcomes 47 = .ok (.iconst 1, 1) := by decide +kernel
theorem dX7_outcomes_48 : decode cX7_outcomes 48 = .ok (.iload_n 3, 1) := by decide +kernel
theorem dX7_outcomes_49 : decode cX7_outcomes 49 = .ok (.ishl, 1) := by decide +kernel
theorem dX7_outcomes_50 : decode cX7_outcomes 50 = .ok (.iconst 1, 1) := by decide +kernel
theorem dX7_outcomes_51 : decode cX7_outcomes 51 = .ok (.isub, 1) := by decide +kernel
theorem dX7_outcomes_52 : decode cX7_outcomes 52 = .ok (.iand, 1) := by decide +kernel
theorem dX7_outcomes_53 : decode cX7_outcomes 53 = .ok (.ifCond .ne 7, 3) := by decide +kernel
theorem dX7_outcomes_56 : decode cX7_outcomes 56 = .ok (.iconst 1, 1) := by decide +kernel
theorem dX7_outcomes_57 : decode cX7_outcomes 57 = .ok (.goto 4, 3) := by decide +kernel
theorem dX7_outcomes_60 : decode cX7_outcomes 60 = .ok (.iconst 0, 1) := by decide +kernel
theorem dX7_outcomes_61 : decode cX7_outcomes 61 = .ok (.iadd, 1) := by decide +kernel
theorem dX7_outcomes_62 : decode cX7_outcomes 62 = .ok (.istore_n 2, 1) := by decide +kernel
theorem dX7_outcomes_63 : decode cX7_outcomes 63 = .ok (.iinc 3 1, 3) := by decide +kernel
theorem dX7_outcomes_66 : decode cX7_outcomes 66 = .ok (.goto (-43), 3) := by decide +kernel
theorem dX7_outcomes_69 : decode cX7_outcomes 69 = .ok (.iload_n 2, 1) := by decide +kernel
theorem dX7_outcomes_70 : decode cX7_outcomes 70 = .ok (.ireturn, 1) := by decide +kernel
theorem dX7_likes_0 : decode cX7_likes 0 = .ok (.iload_n 1, 1) := by decide +kernel
theorem dX7_likes_1 : decode cX7_likes 1 = .ok (.invokestatic 144, 3) := by decide +kernel
theorem dX7_likes_4 : decode cX7_likes 4 = .ok (.ifCond .eq 11, 3) := by decide +kernel
theorem dX7_likes_7 : decode cX7_likes 7 = .ok (.aload_n 0, 1) := by decide +kernel
theorem dX7_likes_8 : decode cX7_likes 8 = .ok (.iload_n 2, 1) := by decide +kernel
theorem dX7_likes_9 : decode cX7_likes 9 = .ok (.invokevirtual 147, 3) := by decide +kernel
theorem dX7_likes_12 : decode cX7_likes 12 = .ok (.ifCond .ne 6, 3) := by decide +kernel
theorem dX7_likes_15 : decode cX7_likes 15 = .ok (.ldc 53, 2) := by decide +kernel
theorem dX7_likes_17 : decode cX7_likes 17 = .ok (.ireturn, 1) := by decide +kernel
theorem dX7_likes_18 : decode cX7_likes 18 = .ok (.aload_n 0, 1) := by decide +kernel
theorem dX7_likes_19 : decode cX7_likes 19 = .ok (.aload_n 0, 1) := by decide +kernel
theorem dX7_likes_20 : decode cX7_likes 20 = .ok (.iload_n 1, 1) := by decide +kernel
theorem dX7_likes_21 : decode cX7_likes 21 = .ok (.invokevirtual 90, 3) := by decide +kernel
theorem dX7_likes_24 : decode cX7_likes 24 = .ok (.invokevirtual 156, 3) := by decide +kernel
theorem dX7_likes_27 : decode cX7_likes 27 = .ok (.aload_n 0, 1) := by decide +kernel
theorem dX7_likes_28 : decode cX7_likes 28 = .ok (.iload_n 2, 1) := by decide +kernel
theorem dX7_likes_29 : decode cX7_likes 29 = .ok (.invokestatic 150, 3) := by decide +kernel
theorem dX7_likes_32 : decode cX7_likes 32 = .ok (.invokevirtual 160, 3) := by decide +kernel
theorem dX7_likes_35 : decode cX7_likes 35 = .ok (.ireturn, 1) := by decide +kernel
theorem dX7_findsLikes_0 : decode cX7_findsLikes 0 = .ok (.iconst 0, 1) := by decide +kernel
theorem dX7_findsLikes_1 : decode cX7_findsLikes 1 = .ok (.istore_n 1, 1) := by decide +kernel
theorem dX7_findsLikes_2 : decode cX7_findsLikes 2 = .ok (.iload_n 1, 1) := by decide +kernel
theorem dX7_findsLikes_3 : decode cX7_findsLikes 3 = .ok (.bipush 7, 2) := by decide +kernel
theorem dX7_findsLikes_5 : decode cX7_findsLikes 5 = .ok (.if_icmp .ge 60, 3) := by decide +kernel
theorem dX7_findsLikes_8 : decode cX7_findsLikes 8 = .ok (.aload_n 0, 1) := by decide +kernel
theorem dX7_findsLikes_9 : decode cX7_findsLikes 9 = .ok (.aload_n 0, 1) := by decide +kernel
theorem dX7_findsLikes_10 : decode cX7_findsLikes 10 = .ok (.iload_n 1, 1) := by decide +kernel
theorem dX7_findsLikes_11 : decode cX7_findsLikes 11 = .ok (.invokevirtual 90, 3) := by decide +kernel
theorem dX7_findsLikes_14 : decode cX7_findsLikes 14 = .ok (.invokevirtual 156, 3) := by decide +kernel
theorem dX7_findsLikes_17 : decode cX7_findsLikes 17 = .ok (.iconst 0, 1) := by decide +kernel
theorem dX7_findsLikes_18 : decode cX7_findsLikes 18 = .ok (.istore_n 2, 1) := by decide +kernel
theorem dX7_findsLikes_19 : decode cX7_findsLikes 19 = .ok (.iload_n 2, 1) := by decide +kernel
theorem dX7_findsLikes_20 : decode cX7_findsLikes 20 = .ok (.bipush 10, 2) := by decide +kernel
theorem dX7_findsLikes_22 : decode cX7_findsLikes 22 = .ok (.if_icmp .gt 37, 3) := by decide +kernel
theorem dX7_findsLikes_25 : decode cX7_findsLikes 25 = .ok (.aload_n 0, 1) := by decide +kernel
theorem dX7_findsLikes_26 : decode cX7_findsLikes 26 = .ok (.getfield 22, 3) := by decide +kernel
theorem dX7_findsLikes_29 : decode cX7_findsLikes 29 = .ok (.iload_n 1, 1) := by decide +kernel
theorem dX7_findsLikes_30 : decode cX7_findsLikes 30 = .ok (.bipush 11, 2) := by decide +kernel
theorem dX7_findsLikes_32 : decode cX7_findsLikes 32 = .ok (.imul, 1) := by decide +kernel
theorem dX7_findsLikes_33 : decode cX7_findsLikes 33 = .ok (.iload_n 2, 1) := by decide +kernel
theorem dX7_findsLikes_34 : decode cX7_findsLikes 34 = .ok (.iadd, 1) := by decide +kernel
theorem dX7_findsLikes_35 : decode cX7_findsLikes 35 = .ok (.aload_n 0, 1) := by decide +kernel
theorem dX7_findsLikes_36 : decode cX7_findsLikes 36 = .ok (.iload_n 2, 1) := by decide +kernel
theorem dX7_findsLikes_37 : decode cX7_findsLikes 37 = .ok (.invokevirtual 134, 3) := by decide +kernel
theorem dX7_findsLikes_40 : decode cX7_findsLikes 40 = .ok (.ifCond .eq 11, 3) := by decide +kernel
theorem dX7_findsLikes_43 : decode cX7_findsLikes 43 = .ok (.aload_n 0, 1) := by decide +kernel
theorem dX7_findsLikes_44 : decode cX7_findsLikes 44 = .ok (.iload_n 2, 1) := by decide +kernel
theorem dX7_findsLikes_45 : decode cX7_findsLikes 45 = .ok (.invokevirtual 160, 3) := by decide +kernel
theorem dX7_findsLikes_48 : decode cX7_findsLikes 48 = .ok (.goto 4, 3) := by decide +kernel
theorem dX7_findsLikes_51 : decode cX7_findsLikes 51 = .ok (.iconst 0, 1) := by decide +kernel
theorem dX7_findsLikes_52 : decode cX7_findsLikes 52 = .ok (.iastore, 1) := by decide +kernel
theorem dX7_findsLikes_53 : decode cX7_findsLikes 53 = .ok (.iinc 2 1, 3) := by decide +kernel
theorem dX7_findsLikes_56 : decode cX7_findsLikes 56 = .ok (.goto (-37), 3) := by decide +kernel
theorem dX7_findsLikes_59 : decode cX7_findsLikes 59 = .ok (.iinc 1 1, 3) := by decide +kernel
theorem dX7_findsLikes_62 : decode cX7_findsLikes 62 = .ok (.goto (-60), 3) := by decide +kernel
theorem dX7_findsLikes_65 : decode cX7_findsLikes 65 = .ok (.return_, 1) := by decide +kernel
theorem dX7_areApart_0 : decode cX7_areApart 0 = .ok (.iconst 0, 1) := by decide +kernel
theorem dX7_areApart_1 : decode cX7_areApart 1 = .ok (.istore 4, 2) := by decide +kernel
theorem dX7_areApart_3 : decode cX7_areApart 3 = .ok (.iconst 0, 1) := by decide +kernel
theorem dX7_areApart_4 : decode cX7_areApart 4 = .ok (.istore 5, 2) := by decide +kernel
theorem dX7_areApart_6 : decode cX7_areApart 6 = .ok (.iload 5, 2) := by decide +kernel
theorem dX7_areApart_8 : decode cX7_areApart 8 = .ok (.bipush 7, 2) := by decide +kernel
theorem dX7_areApart_10 : decode cX7_areApart 10 = .ok (.if_icmp .ge 49, 3) := by decide +kernel
theorem dX7_areApart_13 : decode cX7_areApart 13 = .ok (.iload 4, 2) := by decide +kernel
theorem dX7_areApart_15 : decode cX7_areApart 15 = .ok (.ifCond .ne 31, 3) := by decide +kernel
theorem dX7_areApart_18 : decode cX7_areApart 18 = .ok (.iload_n 3, 1) := by decide +kernel
theorem dX7_areApart_19 : decode cX7_areApart 19 = .ok (.iload 5, 2) := by decide +kernel
theorem dX7_areApart_21 : decode cX7_areApart 21 = .ok (.invokestatic 36, 3) := by decide +kernel
theorem dX7_areApart_24 : decode cX7_areApart 24 = .ok (.ifCond .eq 26, 3) := by decide +kernel
theorem dX7_areApart_27 : decode cX7_areApart 27 = .ok (.aload_n 0, 1) := by decide +kernel
theorem dX7_areApart_28 : decode cX7_areApart 28 = .ok (.getfield 22, 3) := by decide +kernel
theorem dX7_areApart_31 : decode cX7_areApart 31 = .ok (.iload 5, 2) := by decide +kernel
theorem dX7_areApart_33 : decode cX7_areApart 33 = .ok (.bipush 11, 2) := by decide +kernel
theorem dX7_areApart_35 : decode cX7_areApart 35 = .ok (.imul, 1) := by decide +kernel
theorem dX7_areApart_36 : decode cX7_areApart 36 = .ok (.iload_n 1, 1) := by decide +kernel
theorem dX7_areApart_37 : decode cX7_areApart 37 = .ok (.iadd, 1) := by decide +kernel
theorem dX7_areApart_38 : decode cX7_areApart 38 = .ok (.iaload, 1) := by decide +kernel
theorem dX7_areApart_39 : decode cX7_areApart 39 = .ok (.iload_n 2, 1) := by decide +kernel
theorem dX7_areApart_40 : decode cX7_areApart 40 = .ok (.invokestatic 36, 3) := by decide +kernel
theorem dX7_areApart_43 : decode cX7_areApart 43 = .ok (.ifCond .ne 7, 3) := by decide +kernel
theorem dX7_areApart_46 : decode cX7_areApart 46 = .ok (.iconst 1, 1) := by decide +kernel
theorem dX7_areApart_47 : decode cX7_areApart 47 = .ok (.goto 4, 3) := by decide +kernel
theorem dX7_areApart_50 : decode cX7_areApart 50 = .ok (.iconst 0, 1) := by decide +kernel
theorem dX7_areApart_51 : decode cX7_areApart 51 = .ok (.istore 4, 2) := by decide +kernel
theorem dX7_areApart_53 : decode cX7_areApart 53 = .ok (.iinc 5 1, 3) := by decide +kernel
theorem dX7_areApart_56 : decode cX7_areApart 56 = .ok (.goto (-50), 3) := by decide +kernel
theorem dX7_areApart_59 : decode cX7_areApart 59 = .ok (.iload 4, 2) := by decide +kernel
theorem dX7_areApart_61 : decode cX7_areApart 61 = .ok (.ireturn, 1) := by decide +kernel
theorem dX7_doesAll_0 : decode cX7_doesAll 0 = .ok (.iconst 1, 1) := by decide +kernel
theorem dX7_doesAll_1 : decode cX7_doesAll 1 = .ok (.istore_n 3, 1) := by decide +kernel
theorem dX7_doesAll_2 : decode cX7_doesAll 2 = .ok (.iconst 0, 1) := by decide +kernel
theorem dX7_doesAll_3 : decode cX7_doesAll 3 = .ok (.istore 4, 2) := by decide +kernel
theorem dX7_doesAll_5 : decode cX7_doesAll 5 = .ok (.iload 4, 2) := by decide +kernel
theorem dX7_doesAll_7 : decode cX7_doesAll 7 = .ok (.bipush 10, 2) := by decide +kernel
theorem dX7_doesAll_9 : decode cX7_doesAll 9 = .ok (.if_icmp .ge 105, 3) := by decide +kernel
theorem dX7_doesAll_12 : decode cX7_doesAll 12 = .ok (.iload 4, 2) := by decide +kernel
theorem dX7_doesAll_14 : decode cX7_doesAll 14 = .ok (.iconst 1, 1) := by decide +kernel
theorem dX7_doesAll_15 : decode cX7_doesAll 15 = .ok (.iadd, 1) := by decide +kernel
theorem dX7_doesAll_16 : decode cX7_doesAll 16 = .ok (.istore 5, 2) := by decide +kernel
theorem dX7_doesAll_18 : decode cX7_doesAll 18 = .ok (.iload 5, 2) := by decide +kernel
theorem dX7_doesAll_20 : decode cX7_doesAll 20 = .ok (.bipush 10, 2) := by decide +kernel
theorem dX7_doesAll_22 : decode cX7_doesAll 22 = .ok (.if_icmp .gt 86, 3) := by decide +kernel
theorem dX7_doesAll_25 : decode cX7_doesAll 25 = .ok (.aload_n 0, 1) := by decide +kernel
theorem dX7_doesAll_26 : decode cX7_doesAll 26 = .ok (.iload 4, 2) := by decide +kernel
theorem dX7_doesAll_28 : decode cX7_doesAll 28 = .ok (.invokevirtual 134, 3) := by decide +kernel
theorem dX7_doesAll_31 : decode cX7_doesAll 31 = .ok (.ifCond .eq 28, 3) := by decide +kernel
theorem dX7_doesAll_34 : decode cX7_doesAll 34 = .ok (.aload_n 0, 1) := by decide +kernel
theorem dX7_doesAll_35 : decode cX7_doesAll 35 = .ok (.iload 5, 2) := by decide +kernel
theorem dX7_doesAll_37 : decode cX7_doesAll 37 = .ok (.invokevirtual 134, 3) := by decide +kernel
theorem dX7_doesAll_40 : decode cX7_doesAll 40 = .ok (.ifCond .eq 19, 3) := by decide +kernel
theorem dX7_doesAll_43 : decode cX7_doesAll 43 = .ok (.iload_n 1, 1) := by decide +kernel
theorem dX7_doesAll_44 : decode cX7_doesAll 44 = .ok (.iconst 1, 1) := by decide +kernel
theorem dX7_doesAll_45 : decode cX7_doesAll 45 = .ok (.if_icmp .eq 10, 3) := by decide +kernel
theorem dX7_doesAll_48 : decode cX7_doesAll 48 = .ok (.iload 5, 2) := by decide +kernel
theorem dX7_doesAll_50 : decode cX7_doesAll 50 = .ok (.bipush 10, 2) := by decide +kernel
theorem dX7_doesAll_52 : decode cX7_doesAll 52 = .ok (.if_icmp .ne 7, 3) := by decide +kernel
theorem dX7_doesAll_55 : decode cX7_doesAll 55 = .ok (.iconst 1, 1) := by decide +kernel
theorem dX7_doesAll_56 : decode cX7_doesAll 56 = .ok (.goto 4, 3) := by decide +kernel
theorem dX7_doesAll_59 : decode cX7_doesAll 59 = .ok (.iconst 0, 1) := by decide +kernel
theorem dX7_doesAll_60 : decode cX7_doesAll 60 = .ok (.istore 6, 2) := by decide +kernel
theorem dX7_doesAll_62 : decode cX7_doesAll 62 = .ok (.iload_n 3, 1) := by decide +kernel
theorem dX7_doesAll_63 : decode cX7_doesAll 63 = .ok (.ifCond .eq 37, 3) := by decide +kernel
theorem dX7_doesAll_66 : decode cX7_doesAll 66 = .ok (.iload 6, 2) := by decide +kernel
theorem dX7_doesAll_68 : decode cX7_doesAll 68 = .ok (.ifCond .eq 28, 3) := by decide +kernel
theorem dX7_doesAll_71 : decode cX7_doesAll 71 = .ok (.aload_n 0, 1) := by decide +kernel
theorem dX7_doesAll_72 : decode cX7_doesAll 72 = .ok (.iload 4, 2) := by decide +kernel
theorem dX7_doesAll_74 : decode cX7_doesAll 74 = .ok (.iload 5, 2) := by decide +kernel
theorem dX7_doesAll_76 : decode cX7_doesAll 76 = .ok (.iload_n 2, 1) := by decide +kernel
theorem dX7_doesAll_77 : decode cX7_doesAll 77 = .ok (.invokevirtual 163, 3) := by decide +kernel
theorem dX7_doesAll_80 : decode cX7_doesAll 80 = .ok (.ifCond .ne 16, 3) := by decide +kernel
theorem dX7_doesAll_83 : decode cX7_doesAll 83 = .ok (.aload_n 0, 1) := by decide +kernel
theorem dX7_doesAll_84 : decode cX7_doesAll 84 = .ok (.iload 4, 2) := by decide +kernel
theorem dX7_doesAll_86 : decode cX7_doesAll 86 = .ok (.iload 5, 2) := by decide +kernel
theorem dX7_doesAll_88 : decode cX7_doesAll 88 = .ok (.bipush 127, 2) := by decide +kernel
theorem dX7_doesAll_90 : decode cX7_doesAll 90 = .ok (.invokevirtual 163, 3) := by decide +kernel
theorem dX7_doesAll_93 : decode cX7_doesAll 93 = .ok (.ifCond .ne 7, 3) := by decide +kernel
theorem dX7_doesAll_96 : decode cX7_doesAll 96 = .ok (.iconst 1, 1) := by decide +kernel
theorem dX7_doesAll_97 : decode cX7_doesAll 97 = .ok (.goto 4, 3) := by decide +kernel
theorem dX7_doesAll_100 : decode cX7_doesAll 100 = .ok (.iconst 0, 1) := by decide +kernel
theorem dX7_doesAll_101 : decode cX7_doesAll 101 = .ok (.istore_n 3, 1) := by decide +kernel
theorem dX7_doesAll_102 : decode cX7_doesAll 102 = .ok (.iinc 5 1, 3) := by decide +kernel
theorem dX7_doesAll_105 : decode cX7_doesAll 105 = .ok (.goto (-87), 3) := by decide +kernel
theorem dX7_doesAll_108 : decode cX7_doesAll 108 = .ok (.iinc 4 1, 3) := by decide +kernel
theorem dX7_doesAll_111 : decode cX7_doesAll 111 = .ok (.goto (-106), 3) := by decide +kernel
theorem dX7_doesAll_114 : decode cX7_doesAll 114 = .ok (.iload_n 3, 1) := by decide +kernel
theorem dX7_doesAll_115 : decode cX7_doesAll 115 = .ok (.ireturn, 1) := by decide +kernel
theorem dX7_fewestDays_0 : decode cX7_fewestDays 0 = .ok (.iload_n 1, 1) := by decide +kernel
theorem dX7_fewestDays_1 : decode cX7_fewestDays 1 = .ok (.iconst 0, 1) := by decide +kernel
theorem dX7_fewestDays_2 : decode cX7_fewestDays 2 = .ok (.iconst 1, 1) := by decide +kernel
theorem dX7_fewestDays_3 : decode cX7_fewestDays 3 = .ok (.invokestatic 45, 3) := by decide +kernel
theorem dX7_fewestDays_6 : decode cX7_fewestDays 6 = .ok (.ifCond .eq 12, 3) := by decide +kernel
theorem dX7_fewestDays_9 : decode cX7_fewestDays 9 = .ok (.iload_n 2, 1) := by decide +kernel
theorem dX7_fewestDays_10 : decode cX7_fewestDays 10 = .ok (.iconst 0, 1) := by decide +kernel
theorem dX7_fewestDays_11 : decode cX7_fewestDays 11 = .ok (.iconst 1, 1) := by decide +kernel
theorem dX7_fewestDays_12 : decode cX7_fewestDays 12 = .ok (.invokestatic 45, 3) := by decide +kernel
theorem dX7_fewestDays_15 : decode cX7_fewestDays 15 = .ok (.ifCond .ne 6, 3) := by decide +kernel
theorem dX7_fewestDays_18 : decode cX7_fewestDays 18 = .ok (.ldc 53, 2) := by decide +kernel
theorem dX7_fewestDays_20 : decode cX7_fewestDays 20 = .ok (.ireturn, 1) := by decide +kernel
theorem dX7_fewestDays_21 : decode cX7_fewestDays 21 = .ok (.aload_n 0, 1) := by decide +kernel
theorem dX7_fewestDays_22 : decode cX7_fewestDays 22 = .ok (.invokevirtual 166, 3) := by decide +kernel
theorem dX7_fewestDays_25 : decode cX7_fewestDays 25 = .ok (.bipush 127, 2) := by decide +kernel
theorem dX7_fewestDays_27 : decode cX7_fewestDays 27 = .ok (.istore_n 3, 1) := by decide +kernel
theorem dX7_fewestDays_28 : decode cX7_fewestDays 28 = .ok (.bipush 126, 2) := by decide +kernel
theorem dX7_fewestDays_30 : decode cX7_fewestDays 30 = .ok (.istore 4, 2) := by decide +kernel
theorem dX7_fewestDays_32 : decode cX7_fewestDays 32 = .ok (.iload 4, 2) := by decide +kernel
theorem dX7_fewestDays_34 : decode cX7_fewestDays 34 = .ok (.ifCond .lt 34, 3) := by decide +kernel
theorem dX7_fewestDays_37 : decode cX7_fewestDays 37 = .ok (.iload 4, 2) := by decide +kernel
theorem dX7_fewestDays_39 : decode cX7_fewestDays 39 = .ok (.invokestatic 49, 3) := by decide +kernel
theorem dX7_fewestDays_42 : decode cX7_fewestDays 42 = .ok (.iload_n 3, 1) := by decide +kernel
theorem dX7_fewestDays_43 : decode cX7_fewestDays 43 = .ok (.invokestatic 49, 3) := by decide +kernel
theorem dX7_fewestDays_46 : decode cX7_fewestDays 46 = .ok (.if_icmp .gt 16, 3) := by decide +kernel
theorem dX7_fewestDays_49 : decode cX7_fewestDays 49 = .ok (.aload_n 0, 1) := by decide +kernel
theorem dX7_fewestDays_50 : decode cX7_fewestDays 50 = .ok (.iload_n 1, 1) := by decide +kernel
theorem dX7_fewestDays_51 : decode cX7_fewestDays 51 = .ok (.iload 4, 2) := by decide +kernel
theorem dX7_fewestDays_53 : decode cX7_fewestDays 53 = .ok (.invokevirtual 169, 3) := by decide +kernel
theorem dX7_fewestDays_56 : decode cX7_fewestDays 56 = .ok (.ifCond .eq 6, 3) := by decide +kernel
theorem dX7_fewestDays_59 : decode cX7_fewestDays 59 = .ok (.iload 4, 2) := by decide +kernel
theorem dX7_fewestDays_61 : decode cX7_fewestDays 61 = .ok (.istore_n 3, 1) := by decide +kernel
theorem dX7_fewestDays_62 : decode cX7_fewestDays 62 = .ok (.iinc 4 (-1), 3) := by decide +kernel
theorem dX7_fewestDays_65 : decode cX7_fewestDays 65 = .ok (.goto (-33), 3) := by decide +kernel
theorem dX7_fewestDays_68 : decode cX7_fewestDays 68 = .ok (.iload_n 2, 1) := by decide +kernel
theorem dX7_fewestDays_69 : decode cX7_fewestDays 69 = .ok (.ifCond .ne 10, 3) := by decide +kernel
theorem dX7_fewestDays_72 : decode cX7_fewestDays 72 = .ok (.iload_n 3, 1) := by decide +kernel
theorem dX7_fewestDays_73 : decode cX7_fewestDays 73 = .ok (.invokestatic 49, 3) := by decide +kernel
theorem dX7_fewestDays_76 : decode cX7_fewestDays 76 = .ok (.goto 4, 3) := by decide +kernel
theorem dX7_fewestDays_79 : decode cX7_fewestDays 79 = .ok (.iload_n 3, 1) := by decide +kernel
theorem dX7_fewestDays_80 : decode cX7_fewestDays 80 = .ok (.ireturn, 1) := by decide +kernel
theorem dX7_isTold_0 : decode cX7_isTold 0 = .ok (.aload_n 0, 1) := by decide +kernel
theorem dX7_isTold_1 : decode cX7_isTold 1 = .ok (.iconst 0, 1) := by decide +kernel
theorem dX7_isTold_2 : decode cX7_isTold 2 = .ok (.iload_n 1, 1) := by decide +kernel
theorem dX7_isTold_3 : decode cX7_isTold 3 = .ok (.iload_n 2, 1) := by decide +kernel
theorem dX7_isTold_4 : decode cX7_isTold 4 = .ok (.invokevirtual 137, 3) := by decide +kernel
theorem dX7_isTold_7 : decode cX7_isTold 7 = .ok (.aload_n 0, 1) := by decide +kernel
theorem dX7_isTold_8 : decode cX7_isTold 8 = .ok (.bipush 10, 2) := by decide +kernel
theorem dX7_isTold_10 : decode cX7_isTold 10 = .ok (.iconst (-1), 1) := by decide +kernel
theorem dX7_isTold_11 : decode cX7_isTold 11 = .ok (.iload_n 2, 1) := by decide +kernel
theorem dX7_isTold_12 : decode cX7_isTold 12 = .ok (.invokevirtual 137, 3) := by decide +kernel
theorem dX7_isTold_15 : decode cX7_isTold 15 = .ok (.aload_n 0, 1) := by decide +kernel
theorem dX7_isTold_16 : decode cX7_isTold 16 = .ok (.iconst 0, 1) := by decide +kernel
theorem dX7_isTold_17 : decode cX7_isTold 17 = .ok (.bipush 10, 2) := by decide +kernel
theorem dX7_isTold_19 : decode cX7_isTold 19 = .ok (.invokevirtual 141, 3) := by decide +kernel
theorem dX7_isTold_22 : decode cX7_isTold 22 = .ok (.ifCond .ne 7, 3) := by decide +kernel
theorem dX7_isTold_25 : decode cX7_isTold 25 = .ok (.iconst 1, 1) := by decide +kernel
theorem dX7_isTold_26 : decode cX7_isTold 26 = .ok (.goto 4, 3) := by decide +kernel
theorem dX7_isTold_29 : decode cX7_isTold 29 = .ok (.iconst 0, 1) := by decide +kernel
theorem dX7_isTold_30 : decode cX7_isTold 30 = .ok (.ireturn, 1) := by decide +kernel
theorem dX7_wantedSet_0 : decode cX7_wantedSet 0 = .ok (.aload_n 0, 1) := by decide +kernel
theorem dX7_wantedSet_1 : decode cX7_wantedSet 1 = .ok (.iload_n 1, 1) := by decide +kernel
theorem dX7_wantedSet_2 : decode cX7_wantedSet 2 = .ok (.iload_n 2, 1) := by decide +kernel
theorem dX7_wantedSet_3 : decode cX7_wantedSet 3 = .ok (.invokevirtual 172, 3) := by decide +kernel
theorem dX7_wantedSet_6 : decode cX7_wantedSet 6 = .ok (.ifCond .eq 5, 3) := by decide +kernel
theorem dX7_wantedSet_9 : decode cX7_wantedSet 9 = .ok (.iconst 0, 1) := by decide +kernel
theorem dX7_wantedSet_10 : decode cX7_wantedSet 10 = .ok (.ireturn, 1) := by decide +kernel
theorem dX7_wantedSet_11 : decode cX7_wantedSet 11 = .ok (.iconst 0, 1) := by decide +kernel
theorem dX7_wantedSet_12 : decode cX7_wantedSet 12 = .ok (.istore_n 3, 1) := by decide +kernel
theorem dX7_wantedSet_13 : decode cX7_wantedSet 13 = .ok (.iload_n 3, 1) := by decide +kernel
theorem dX7_wantedSet_14 : decode cX7_wantedSet 14 = .ok (.bipush 16, 2) := by decide +kernel
theorem dX7_wantedSet_16 : decode cX7_wantedSet 16 = .ok (.if_icmp .ge 34, 3) := by decide +kernel
theorem dX7_wantedSet_19 : decode cX7_wantedSet 19 = .ok (.iload_n 2, 1) := by decide +kernel
theorem dX7_wantedSet_20 : decode cX7_wantedSet 20 = .ok (.iload_n 3, 1) := by decide +kernel
theorem dX7_wantedSet_21 : decode cX7_wantedSet 21 = .ok (.invokestatic 36, 3) := by decide +kernel
theorem dX7_wantedSet_24 : decode cX7_wantedSet 24 = .ok (.ifCond .ne 20, 3) := by decide +kernel
theorem dX7_wantedSet_27 : decode cX7_wantedSet 27 = .ok (.aload_n 0, 1) := by decide +kernel
theorem dX7_wantedSet_28 : decode cX7_wantedSet 28 = .ok (.iload_n 1, 1) := by decide +kernel
theorem dX7_wantedSet_29 : decode cX7_wantedSet 29 = .ok (.iload_n 2, 1) := by decide +kernel
theorem dX7_wantedSet_30 : decode cX7_wantedSet 30 = .ok (.iconst 1, 1) := by decide +kernel
theorem dX7_wantedSet_31 : decode cX7_wantedSet 31 = .ok (.iload_n 3, 1) := by decide +kernel
theorem dX7_wantedSet_32 : decode cX7_wantedSet 32 = .ok (.ishl, 1) := by decide +kernel
theorem dX7_wantedSet_33 : decode cX7_wantedSet 33 = .ok (.ior, 1) := by decide +kernel
theorem dX7_wantedSet_34 : decode cX7_wantedSet 34 = .ok (.invokevirtual 172, 3) := by decide +kernel
theorem dX7_wantedSet_37 : decode cX7_wantedSet 37 = .ok (.ifCond .eq 7, 3) := by decide +kernel
theorem dX7_wantedSet_40 : decode cX7_wantedSet 40 = .ok (.iconst 1, 1) := by decide +kernel
theorem dX7_wantedSet_41 : decode cX7_wantedSet 41 = .ok (.iload_n 3, 1) := by decide +kernel
theorem dX7_wantedSet_42 : decode cX7_wantedSet 42 = .ok (.ishl, 1) := by decide +kernel
theorem dX7_wantedSet_43 : decode cX7_wantedSet 43 = .ok (.ireturn, 1) := by decide +kernel
theorem dX7_wantedSet_44 : decode cX7_wantedSet 44 = .ok (.iinc 3 1, 3) := by decide +kernel
theorem dX7_wantedSet_47 : decode cX7_wantedSet 47 = .ok (.goto (-34), 3) := by decide +kernel
theorem dX7_wantedSet_50 : decode cX7_wantedSet 50 = .ok (.iconst 1, 1) := by decide +kernel
theorem dX7_wantedSet_51 : decode cX7_wantedSet 51 = .ok (.istore_n 3, 1) := by decide +kernel
theorem dX7_wantedSet_52 : decode cX7_wantedSet 52 = .ok (.iload_n 3, 1) := by decide +kernel
theorem dX7_wantedSet_53 : decode cX7_wantedSet 53 = .ok (.bipush 16, 2) := by decide +kernel
theorem dX7_wantedSet_55 : decode cX7_wantedSet 55 = .ok (.if_icmp .ge 56, 3) := by decide +kernel
theorem dX7_wantedSet_58 : decode cX7_wantedSet 58 = .ok (.iconst 0, 1) := by decide +kernel
theorem dX7_wantedSet_59 : decode cX7_wantedSet 59 = .ok (.istore 4, 2) := by decide +kernel
theorem dX7_wantedSet_61 : decode cX7_wantedSet 61 = .ok (.iload 4, 2) := by decide +kernel
theorem dX7_wantedSet_63 : decode cX7_wantedSet 63 = .ok (.iload_n 3, 1) := by decide +kernel
theorem dX7_wantedSet_64 : decode cX7_wantedSet 64 = .ok (.if_icmp .ge 41, 3) := by decide +kernel
theorem dX7_wantedSet_67 : decode cX7_wantedSet 67 = .ok (.iconst 1, 1) := by decide +kernel
theorem dX7_wantedSet_68 : decode cX7_wantedSet 68 = .ok (.iload_n 3, 1) := by decide +kernel
theorem dX7_wantedSet_69 : decode cX7_wantedSet 69 = .ok (.ishl, 1) := by decide +kernel
theorem dX7_wantedSet_70 : decode cX7_wantedSet 70 = .ok (.iconst 1, 1) := by decide +kernel
theorem dX7_wantedSet_71 : decode cX7_wantedSet 71 = .ok (.iload 4, 2) := by decide +kernel
theorem dX7_wantedSet_73 : decode cX7_wantedSet 73 = .ok (.ishl, 1) := by decide +kernel
theorem dX7_wantedSet_74 : decode cX7_wantedSet 74 = .ok (.ior, 1) := by decide +kernel
theorem dX7_wantedSet_75 : decode cX7_wantedSet 75 = .ok (.istore 5, 2) := by decide +kernel
theorem dX7_wantedSet_77 : decode cX7_wantedSet 77 = .ok (.iload_n 2, 1) := by decide +kernel
theorem dX7_wantedSet_78 : decode cX7_wantedSet 78 = .ok (.iload 5, 2) := by decide +kernel
theorem dX7_wantedSet_80 : decode cX7_wantedSet 80 = .ok (.iand, 1) := by decide +kernel
theorem dX7_wantedSet_81 : decode cX7_wantedSet 81 = .ok (.ifCond .ne 18, 3) := by decide +kernel
theorem dX7_wantedSet_84 : decode cX7_wantedSet 84 = .ok (.aload_n 0, 1) := by decide +kernel
theorem dX7_wantedSet_85 : decode cX7_wantedSet 85 = .ok (.iload_n 1, 1) := by decide +kernel
theorem dX7_wantedSet_86 : decode cX7_wantedSet 86 = .ok (.iload_n 2, 1) := by decide +kernel
theorem dX7_wantedSet_87 : decode cX7_wantedSet 87 = .ok (.iload 5, 2) := by decide +kernel
theorem dX7_wantedSet_89 : decode cX7_wantedSet 89 = .ok (.ior, 1) := by decide +kernel
theorem dX7_wantedSet_90 : decode cX7_wantedSet 90 = .ok (.invokevirtual 172, 3) := by decide +kernel
theorem dX7_wantedSet_93 : decode cX7_wantedSet 93 = .ok (.ifCond .eq 6, 3) := by decide +kernel
theorem dX7_wantedSet_96 : decode cX7_wantedSet 96 = .ok (.iload 5, 2) := by decide +kernel
theorem dX7_wantedSet_98 : decode cX7_wantedSet 98 = .ok (.ireturn, 1) := by decide +kernel
theorem dX7_wantedSet_99 : decode cX7_wantedSet 99 = .ok (.iinc 4 1, 3) := by decide +kernel
theorem dX7_wantedSet_102 : decode cX7_wantedSet 102 = .ok (.goto (-41), 3) := by decide +kernel
theorem dX7_wantedSet_105 : decode cX7_wantedSet 105 = .ok (.iinc 3 1, 3) := by decide +kernel
theorem dX7_wantedSet_108 : decode cX7_wantedSet 108 = .ok (.goto (-56), 3) := by decide +kernel
theorem dX7_wantedSet_111 : decode cX7_wantedSet 111 = .ok (.iconst (-1), 1) := by decide +kernel
theorem dX7_wantedSet_112 : decode cX7_wantedSet 112 = .ok (.ireturn, 1) := by decide +kernel
theorem dX7_wanted_0 : decode cX7_wanted 0 = .ok (.aload_n 0, 1) := by decide +kernel
theorem dX7_wanted_1 : decode cX7_wanted 1 = .ok (.iload_n 1, 1) := by decide +kernel
theorem dX7_wanted_2 : decode cX7_wanted 2 = .ok (.invokevirtual 100, 3) := by decide +kernel
theorem dX7_wanted_5 : decode cX7_wanted 5 = .ok (.ifCond .eq 19, 3) := by decide +kernel
theorem dX7_wanted_8 : decode cX7_wanted 8 = .ok (.iload_n 2, 1) := by decide +kernel
theorem dX7_wanted_9 : decode cX7_wanted 9 = .ok (.invokestatic 144, 3) := by decide +kernel
theorem dX7_wanted_12 : decode cX7_wanted 12 = .ok (.ifCond .eq 12, 3) := by decide +kernel
theorem dX7_wanted_15 : decode cX7_wanted 15 = .ok (.iload_n 3, 1) := by decide +kernel
theorem dX7_wanted_16 : decode cX7_wanted 16 = .ok (.iconst 0, 1) := by decide +kernel
theorem dX7_wanted_17 : decode cX7_wanted 17 = .ok (.iconst 1, 1) := by decide +kernel
theorem dX7_wanted_18 : decode cX7_wanted 18 = .ok (.invokestatic 45, 3) := by decide +kernel
theorem dX7_wanted_21 : decode cX7_wanted 21 = .ok (.ifCond .ne 6, 3) := by decide +kernel
theorem dX7_wanted_24 : decode cX7_wanted 24 = .ok (.ldc 53, 2) := by decide +kernel
theorem dX7_wanted_26 : decode cX7_wanted 26 = .ok (.ireturn, 1) := by decide +kernel
theorem dX7_wanted_27 : decode cX7_wanted 27 = .ok (.aload_n 0, 1) := by decide +kernel
theorem dX7_wanted_28 : decode cX7_wanted 28 = .ok (.iload_n 1, 1) := by decide +kernel
theorem dX7_wanted_29 : decode cX7_wanted 29 = .ok (.aload_n 0, 1) := by decide +kernel
theorem dX7_wanted_30 : decode cX7_wanted 30 = .ok (.iload_n 2, 1) := by decide +kernel
theorem dX7_wanted_31 : decode cX7_wanted 31 = .ok (.invokevirtual 90, 3) := by decide +kernel
theorem dX7_wanted_34 : decode cX7_wanted 34 = .ok (.invokevirtual 175, 3) := by decide +kernel
theorem dX7_wanted_37 : decode cX7_wanted 37 = .ok (.istore 4, 2) := by decide +kernel
theorem dX7_wanted_39 : decode cX7_wanted 39 = .ok (.iload 4, 2) := by decide +kernel
theorem dX7_wanted_41 : decode cX7_wanted 41 = .ok (.iconst (-1), 1) := by decide +kernel
theorem dX7_wanted_42 : decode cX7_wanted 42 = .ok (.if_icmp .ne 6, 3) := by decide +kernel
theorem dX7_wanted_45 : decode cX7_wanted 45 = .ok (.ldc 93, 2) := by decide +kernel
theorem dX7_wanted_47 : decode cX7_wanted 47 = .ok (.ireturn, 1) := by decide +kernel
theorem dX7_wanted_48 : decode cX7_wanted 48 = .ok (.iload_n 3, 1) := by decide +kernel
theorem dX7_wanted_49 : decode cX7_wanted 49 = .ok (.ifCond .ne 11, 3) := by decide +kernel
theorem dX7_wanted_52 : decode cX7_wanted 52 = .ok (.iload 4, 2) := by decide +kernel
theorem dX7_wanted_54 : decode cX7_wanted 54 = .ok (.invokestatic 49, 3) := by decide +kernel
theorem dX7_wanted_57 : decode cX7_wanted 57 = .ok (.goto 5, 3) := by decide +kernel
theorem dX7_wanted_60 : decode cX7_wanted 60 = .ok (.iload 4, 2) := by decide +kernel
theorem dX7_wanted_62 : decode cX7_wanted 62 = .ok (.ireturn, 1) := by decide +kernel
theorem dX7_floatBits_0 : decode cX7_floatBits 0 = .ok (.iload_n 0, 1) := by decide +kernel
theorem dX7_floatBits_1 : decode cX7_floatBits 1 = .ok (.ifCond .ne 5, 3) := by decide +kernel
theorem dX7_floatBits_4 : decode cX7_floatBits 4 = .ok (.iconst 0, 1) := by decide +kernel
theorem dX7_floatBits_5 : decode cX7_floatBits 5 = .ok (.ireturn, 1) := by decide +kernel
theorem dX7_floatBits_6 : decode cX7_floatBits 6 = .ok (.bipush 127, 2) := by decide +kernel
theorem dX7_floatBits_8 : decode cX7_floatBits 8 = .ok (.istore_n 2, 1) := by decide +kernel
theorem dX7_floatBits_9 : decode cX7_floatBits 9 = .ok (.iload_n 0, 1) := by decide +kernel
theorem dX7_floatBits_10 : decode cX7_floatBits 10 = .ok (.i2l, 1) := by decide +kernel
theorem dX7_floatBits_11 : decode cX7_floatBits 11 = .ok (.lstore_n 3, 1) := by decide +kernel
theorem dX7_floatBits_12 : decode cX7_floatBits 12 = .ok (.lload_n 3, 1) := by decide +kernel
theorem dX7_floatBits_13 : decode cX7_floatBits 13 = .ok (.iload_n 1, 1) := by decide +kernel
theorem dX7_floatBits_14 : decode cX7_floatBits 14 = .ok (.i2l, 1) := by decide +kernel
theorem dX7_floatBits_15 : decode cX7_floatBits 15 = .ok (.lcmp, 1) := by decide +kernel
theorem dX7_floatBits_16 : decode cX7_floatBits 16 = .ok (.ifCond .ge 15, 3) := by decide +kernel
theorem dX7_floatBits_19 : decode cX7_floatBits 19 = .ok (.lload_n 3, 1) := by decide +kernel
theorem dX7_floatBits_20 : decode cX7_floatBits 20 = .ok (.ldc2_w 178, 3) := by decide +kernel
theorem dX7_floatBits_23 : decode cX7_floatBits 23 = .ok (.lmul, 1) := by decide +kernel
theorem dX7_floatBits_24 : decode cX7_floatBits 24 = .ok (.lstore_n 3, 1) := by decide +kernel
theorem dX7_floatBits_25 : decode cX7_floatBits 25 = .ok (.iinc 2 (-1), 3) := by decide +kernel
theorem dX7_floatBits_28 : decode cX7_floatBits 28 = .ok (.goto (-16), 3) := by decide +kernel
theorem dX7_floatBits_31 : decode cX7_floatBits 31 = .ok (.lload_n 3, 1) := by decide +kernel
theorem dX7_floatBits_32 : decode cX7_floatBits 32 = .ok (.ldc2_w 180, 3) := by decide +kernel
theorem dX7_floatBits_35 : decode cX7_floatBits 35 = .ok (.lmul, 1) := by decide +kernel
theorem dX7_floatBits_36 : decode cX7_floatBits 36 = .ok (.lstore 5, 2) := by decide +kernel
theorem dX7_floatBits_38 : decode cX7_floatBits 38 = .ok (.lload 5, 2) := by decide +kernel
theorem dX7_floatBits_40 : decode cX7_floatBits 40 = .ok (.iload_n 1, 1) := by decide +kernel
theorem dX7_floatBits_41 : decode cX7_floatBits 41 = .ok (.i2l, 1) := by decide +kernel
theorem dX7_floatBits_42 : decode cX7_floatBits 42 = .ok (.ldiv, 1) := by decide +kernel
theorem dX7_floatBits_43 : decode cX7_floatBits 43 = .ok (.lstore 7, 2) := by decide +kernel
theorem dX7_floatBits_45 : decode cX7_floatBits 45 = .ok (.ldc2_w 178, 3) := by decide +kernel
theorem dX7_floatBits_48 : decode cX7_floatBits 48 = .ok (.lload 5, 2) := by decide +kernel
theorem dX7_floatBits_50 : decode cX7_floatBits 50 = .ok (.iload_n 1, 1) := by decide +kernel
theorem dX7_floatBits_51 : decode cX7_floatBits 51 = .ok (.i2l, 1) := by decide +kernel
theorem dX7_floatBits_52 : decode cX7_floatBits 52 = .ok (.lrem, 1) := by decide +kernel
theorem dX7_floatBits_53 : decode cX7_floatBits 53 = .ok (.lmul, 1) := by decide +kernel
theorem dX7_floatBits_54 : decode cX7_floatBits 54 = .ok (.lstore 9, 2) := by decide +kernel
theorem dX7_floatBits_56 : decode cX7_floatBits 56 = .ok (.lload 9, 2) := by decide +kernel
theorem dX7_floatBits_58 : decode cX7_floatBits 58 = .ok (.iload_n 1, 1) := by decide +kernel
theorem dX7_floatBits_59 : decode cX7_floatBits 59 = .ok (.i2l, 1) := by decide +kernel
theorem dX7_floatBits_60 : decode cX7_floatBits 60 = .ok (.lcmp, 1) := by decide +kernel
theorem dX7_floatBits_61 : decode cX7_floatBits 61 = .ok (.ifCond .gt 22, 3) := by decide +kernel
theorem dX7_floatBits_64 : decode cX7_floatBits 64 = .ok (.lload 9, 2) := by decide +kernel
theorem dX7_floatBits_66 : decode cX7_floatBits 66 = .ok (.iload_n 1, 1) := by decide +kernel
theorem dX7_floatBits_67 : decode cX7_floatBits 67 = .ok (.i2l, 1) := by decide +kernel
theorem dX7_floatBits_68 : decode cX7_floatBits 68 = .ok (.lcmp, 1) := by decide +kernel
theorem dX7_floatBits_69 : decode cX7_floatBits 69 = .ok (.ifCond .ne 20, 3) := by decide +kernel
theorem dX7_floatBits_72 : decode cX7_floatBits 72 = .ok (.lload 7, 2) := by decide +kernel
theorem dX7_floatBits_74 : decode cX7_floatBits 74 = .ok (.ldc2_w 178, 3) := by decide +kernel
theorem dX7_floatBits_77 : decode cX7_floatBits 77 = .ok (.lrem, 1) := by decide +kernel
theorem dX7_floatBits_78 : decode cX7_floatBits 78 = .ok (.lconst 1, 1) := by decide +kernel
theorem dX7_floatBits_79 : decode cX7_floatBits 79 = .ok (.lcmp, 1) := by decide +kernel
theorem dX7_floatBits_80 : decode cX7_floatBits 80 = .ok (.ifCond .ne 9, 3) := by decide +kernel
theorem dX7_floatBits_83 : decode cX7_floatBits 83 = .ok (.lload 7, 2) := by decide +kernel
theorem dX7_floatBits_85 : decode cX7_floatBits 85 = .ok (.lconst 1, 1) := by decide +kernel
theorem dX7_floatBits_86 : decode cX7_floatBits 86 = .ok (.ladd, 1) := by decide +kernel
theorem dX7_floatBits_87 : decode cX7_floatBits 87 = .ok (.lstore 7, 2) := by decide +kernel
theorem dX7_floatBits_89 : decode cX7_floatBits 89 = .ok (.iload_n 2, 1) := by decide +kernel
theorem dX7_floatBits_90 : decode cX7_floatBits 90 = .ok (.bipush 23, 2) := by decide +kernel
theorem dX7_floatBits_92 : decode cX7_floatBits 92 = .ok (.ishl, 1) := by decide +kernel
theorem dX7_floatBits_93 : decode cX7_floatBits 93 = .ok (.lload 7, 2) := by decide +kernel
theorem dX7_floatBits_95 : decode cX7_floatBits 95 = .ok (.ldc2_w 180, 3) := by decide +kernel
theorem dX7_floatBits_98 : decode cX7_floatBits 98 = .ok (.lsub, 1) := by decide +kernel
theorem dX7_floatBits_99 : decode cX7_floatBits 99 = .ok (.l2i, 1) := by decide +kernel
theorem dX7_floatBits_100 : decode cX7_floatBits 100 = .ok (.iadd, 1) := by decide +kernel
theorem dX7_floatBits_101 : decode cX7_floatBits 101 = .ok (.ireturn, 1) := by decide +kernel
theorem dX7_share_0 : decode cX7_share 0 = .ok (.iload_n 1, 1) := by decide +kernel
theorem dX7_share_1 : decode cX7_share 1 = .ok (.invokestatic 144, 3) := by decide +kernel
theorem dX7_share_4 : decode cX7_share 4 = .ok (.ifCond .ne 6, 3) := by decide +kernel
theorem dX7_share_7 : decode cX7_share 7 = .ok (.ldc 53, 2) := by decide +kernel
theorem dX7_share_9 : decode cX7_share 9 = .ok (.ireturn, 1) := by decide +kernel
theorem dX7_share_10 : decode cX7_share 10 = .ok (.iconst 0, 1) := by decide +kernel
theorem dX7_share_11 : decode cX7_share 11 = .ok (.istore_n 2, 1) := by decide +kernel
theorem dX7_share_12 : decode cX7_share 12 = .ok (.iconst 0, 1) := by decide +kernel
theorem dX7_share_13 : decode cX7_share 13 = .ok (.istore_n 3, 1) := by decide +kernel
theorem dX7_share_14 : decode cX7_share 14 = .ok (.iload_n 3, 1) := by decide +kernel
theorem dX7_share_15 : decode cX7_share 15 = .ok (.aload_n 0, 1) := by decide +kernel
theorem dX7_share_16 : decode cX7_share 16 = .ok (.getfield 7, 3) := by decide +kernel
theorem dX7_share_19 : decode cX7_share 19 = .ok (.iconst 2, 1) := by decide +kernel
theorem dX7_share_20 : decode cX7_share 20 = .ok (.iaload, 1) := by decide +kernel
theorem dX7_share_21 : decode cX7_share 21 = .ok (.if_icmp .ge 30, 3) := by decide +kernel
theorem dX7_share_24 : decode cX7_share 24 = .ok (.iload_n 2, 1) := by decide +kernel
theorem dX7_share_25 : decode cX7_share 25 = .ok (.aload_n 0, 1) := by decide +kernel
theorem dX7_share_26 : decode cX7_share 26 = .ok (.iload_n 3, 1) := by decide +kernel
theorem dX7_share_27 : decode cX7_share 27 = .ok (.aload_n 0, 1) := by decide +kernel
theorem dX7_share_28 : decode cX7_share 28 = .ok (.iload_n 1, 1) := by decide +kernel
theorem dX7_share_29 : decode cX7_share 29 = .ok (.invokevirtual 90, 3) := by decide +kernel
theorem dX7_share_32 : decode cX7_share 32 = .ok (.invokevirtual 172, 3) := by decide +kernel
theorem dX7_share_35 : decode cX7_share 35 = .ok (.ifCond .eq 7, 3) := by decide +kernel
theorem dX7_share_38 : decode cX7_share 38 = .ok (.iconst 1, 1) := by decide +kernel
theorem dX7_share_39 : decode cX7_share 39 = .ok (.goto 4, 3) := by decide +kernel
theorem dX7_share_42 : decode cX7_share 42 = .ok (.iconst 0, 1) := by decide +kernel
theorem dX7_share_43 : decode cX7_share 43 = .ok (.iadd, 1) := by decide +kernel
theorem dX7_share_44 : decode cX7_share 44 = .ok (.istore_n 2, 1) := by decide +kernel
theorem dX7_share_45 : decode cX7_share 45 = .ok (.iinc 3 1, 3) := by decide +kernel
theorem dX7_share_48 : decode cX7_share 48 = .ok (.goto (-34), 3) := by decide +kernel
theorem dX7_share_51 : decode cX7_share 51 = .ok (.aload_n 0, 1) := by decide +kernel
theorem dX7_share_52 : decode cX7_share 52 = .ok (.getfield 7, 3) := by decide +kernel
theorem dX7_share_55 : decode cX7_share 55 = .ok (.iconst 2, 1) := by decide +kernel
theorem dX7_share_56 : decode cX7_share 56 = .ok (.iaload, 1) := by decide +kernel
theorem dX7_share_57 : decode cX7_share 57 = .ok (.ifCond .ne 11, 3) := by decide +kernel
theorem dX7_share_60 : decode cX7_share 60 = .ok (.iconst 1, 1) := by decide +kernel
theorem dX7_share_61 : decode cX7_share 61 = .ok (.iconst 1, 1) := by decide +kernel
theorem dX7_share_62 : decode cX7_share 62 = .ok (.invokestatic 182, 3) := by decide +kernel
theorem dX7_share_65 : decode cX7_share 65 = .ok (.goto 13, 3) := by decide +kernel
theorem dX7_share_68 : decode cX7_share 68 = .ok (.iload_n 2, 1) := by decide +kernel
theorem dX7_share_69 : decode cX7_share 69 = .ok (.aload_n 0, 1) := by decide +kernel
theorem dX7_share_70 : decode cX7_share 70 = .ok (.getfield 7, 3) := by decide +kernel
theorem dX7_share_73 : decode cX7_share 73 = .ok (.iconst 2, 1) := by decide +kernel
theorem dX7_share_74 : decode cX7_share 74 = .ok (.iaload, 1) := by decide +kernel
theorem dX7_share_75 : decode cX7_share 75 = .ok (.invokestatic 182, 3) := by decide +kernel
theorem dX7_share_78 : decode cX7_share 78 = .ok (.ireturn, 1) := by decide +kernel
theorem dX7_plant_0 : decode cX7_plant 0 = .ok (.aload_n 0, 1) := by decide +kernel
theorem dX7_plant_1 : decode cX7_plant 1 = .ok (.iload_n 1, 1) := by decide +kernel
theorem dX7_plant_2 : decode cX7_plant 2 = .ok (.invokevirtual 147, 3) := by decide +kernel
theorem dX7_plant_5 : decode cX7_plant 5 = .ok (.ifCond .ne 6, 3) := by decide +kernel
theorem dX7_plant_8 : decode cX7_plant 8 = .ok (.ldc 53, 2) := by decide +kernel
theorem dX7_plant_10 : decode cX7_plant 10 = .ok (.ireturn, 1) := by decide +kernel
theorem dX7_plant_11 : decode cX7_plant 11 = .ok (.aload_n 0, 1) := by decide +kernel
theorem dX7_plant_12 : decode cX7_plant 12 = .ok (.invokevirtual 61, 3) := by decide +kernel
theorem dX7_plant_15 : decode cX7_plant 15 = .ok (.aload_n 0, 1) := by decide +kernel
theorem dX7_plant_16 : decode cX7_plant 16 = .ok (.getfield 7, 3) := by decide +kernel
theorem dX7_plant_19 : decode cX7_plant 19 = .ok (.bipush 6, 2) := by decide +kernel
theorem dX7_plant_21 : decode cX7_plant 21 = .ok (.iload_n 1, 1) := by decide +kernel
theorem dX7_plant_22 : decode cX7_plant 22 = .ok (.iastore, 1) := by decide +kernel
theorem dX7_plant_23 : decode cX7_plant 23 = .ok (.aload_n 0, 1) := by decide +kernel
theorem dX7_plant_24 : decode cX7_plant 24 = .ok (.getfield 7, 3) := by decide +kernel
theorem dX7_plant_27 : decode cX7_plant 27 = .ok (.bipush 7, 2) := by decide +kernel
theorem dX7_plant_29 : decode cX7_plant 29 = .ok (.iconst 1, 1) := by decide +kernel
theorem dX7_plant_30 : decode cX7_plant 30 = .ok (.aload_n 0, 1) := by decide +kernel
theorem dX7_plant_31 : decode cX7_plant 31 = .ok (.getfield 7, 3) := by decide +kernel
theorem dX7_plant_34 : decode cX7_plant 34 = .ok (.iconst 2, 1) := by decide +kernel
theorem dX7_plant_35 : decode cX7_plant 35 = .ok (.iaload, 1) := by decide +kernel
theorem dX7_plant_36 : decode cX7_plant 36 = .ok (.ishl, 1) := by decide +kernel
theorem dX7_plant_37 : decode cX7_plant 37 = .ok (.iconst 1, 1) := by decide +kernel
theorem dX7_plant_38 : decode cX7_plant 38 = .ok (.isub, 1) := by decide +kernel
theorem dX7_plant_39 : decode cX7_plant 39 = .ok (.sipush 1024, 3) := by decide +kernel
theorem dX7_plant_42 : decode cX7_plant 42 = .ok (.ior, 1) := by decide +kernel
theorem dX7_plant_43 : decode cX7_plant 43 = .ok (.iastore, 1) := by decide +kernel
theorem dX7_plant_44 : decode cX7_plant 44 = .ok (.aload_n 0, 1) := by decide +kernel
theorem dX7_plant_45 : decode cX7_plant 45 = .ok (.getfield 7, 3) := by decide +kernel
theorem dX7_plant_48 : decode cX7_plant 48 = .ok (.bipush 7, 2) := by decide +kernel
theorem dX7_plant_50 : decode cX7_plant 50 = .ok (.iaload, 1) := by decide +kernel
theorem dX7_plant_51 : decode cX7_plant 51 = .ok (.invokestatic 49, 3) := by decide +kernel
theorem dX7_plant_54 : decode cX7_plant 54 = .ok (.ireturn, 1) := by decide +kernel
theorem dX7_test_0 : decode cX7_test 0 = .ok (.aload_n 0, 1) := by decide +kernel
theorem dX7_test_1 : decode cX7_test 1 = .ok (.invokevirtual 61, 3) := by decide +kernel
theorem dX7_test_4 : decode cX7_test 4 = .ok (.aload_n 0, 1) := by decide +kernel
theorem dX7_test_5 : decode cX7_test 5 = .ok (.aload_n 0, 1) := by decide +kernel
theorem dX7_test_6 : decode cX7_test 6 = .ok (.invokevirtual 97, 3) := by decide +kernel
theorem dX7_test_9 : decode cX7_test 9 = .ok (.invokevirtual 156, 3) := by decide +kernel
theorem dX7_test_12 : decode cX7_test 12 = .ok (.aload_n 0, 1) := by decide +kernel
theorem dX7_test_13 : decode cX7_test 13 = .ok (.getfield 7, 3) := by decide +kernel
theorem dX7_test_16 : decode cX7_test 16 = .ok (.bipush 7, 2) := by decide +kernel
theorem dX7_test_18 : decode cX7_test 18 = .ok (.dup2, 1) := by decide +kernel
theorem dX7_test_19 : decode cX7_test 19 = .ok (.iaload, 1) := by decide +kernel
theorem dX7_test_20 : decode cX7_test 20 = .ok (.aload_n 0, 1) := by decide +kernel
theorem dX7_test_21 : decode cX7_test 21 = .ok (.aload_n 0, 1) := by decide +kernel
theorem dX7_test_22 : decode cX7_test 22 = .ok (.getfield 7, 3) := by decide +kernel
theorem dX7_test_25 : decode cX7_test 25 = .ok (.bipush 6, 2) := by decide +kernel
theorem dX7_test_27 : decode cX7_test 27 = .ok (.iaload, 1) := by decide +kernel
theorem dX7_test_28 : decode cX7_test 28 = .ok (.invokestatic 150, 3) := by decide +kernel
theorem dX7_test_31 : decode cX7_test 31 = .ok (.invokevirtual 160, 3) := by decide +kernel
theorem dX7_test_34 : decode cX7_test 34 = .ok (.iand, 1) := by decide +kernel
theorem dX7_test_35 : decode cX7_test 35 = .ok (.iastore, 1) := by decide +kernel
theorem dX7_test_36 : decode cX7_test 36 = .ok (.aload_n 0, 1) := by decide +kernel
theorem dX7_test_37 : decode cX7_test 37 = .ok (.getfield 7, 3) := by decide +kernel
theorem dX7_test_40 : decode cX7_test 40 = .ok (.bipush 8, 2) := by decide +kernel
theorem dX7_test_42 : decode cX7_test 42 = .ok (.dup2, 1) := by decide +kernel
theorem dX7_test_43 : decode cX7_test 43 = .ok (.iaload, 1) := by decide +kernel
theorem dX7_test_44 : decode cX7_test 44 = .ok (.iconst 1, 1) := by decide +kernel
theorem dX7_test_45 : decode cX7_test 45 = .ok (.iadd, 1) := by decide +kernel
theorem dX7_test_46 : decode cX7_test 46 = .ok (.iastore, 1) := by decide +kernel
theorem dX7_test_47 : decode cX7_test 47 = .ok (.aload_n 0, 1) := by decide +kernel
theorem dX7_test_48 : decode cX7_test 48 = .ok (.getfield 7, 3) := by decide +kernel
theorem dX7_test_51 : decode cX7_test 51 = .ok (.bipush 7, 2) := by decide +kernel
theorem dX7_test_53 : decode cX7_test 53 = .ok (.iaload, 1) := by decide +kernel
theorem dX7_test_54 : decode cX7_test 54 = .ok (.invokestatic 49, 3) := by decide +kernel
theorem dX7_test_57 : decode cX7_test 57 = .ok (.ireturn, 1) := by decide +kernel
theorem dX7_vouch_0 : decode cX7_vouch 0 = .ok (.iload_n 1, 1) := by decide +kernel
theorem dX7_vouch_1 : decode cX7_vouch 1 = .ok (.iconst 0, 1) := by decide +kernel
theorem dX7_vouch_2 : decode cX7_vouch 2 = .ok (.bipush 15, 2) := by decide +kernel
theorem dX7_vouch_4 : decode cX7_vouch 4 = .ok (.invokestatic 45, 3) := by decide +kernel
theorem dX7_vouch_7 : decode cX7_vouch 7 = .ok (.ifCond .ne 6, 3) := by decide +kernel
theorem dX7_vouch_10 : decode cX7_vouch 10 = .ok (.ldc 53, 2) := by decide +kernel
theorem dX7_vouch_12 : decode cX7_vouch 12 = .ok (.ireturn, 1) := by decide +kernel
theorem dX7_vouch_13 : decode cX7_vouch 13 = .ok (.aload_n 0, 1) := by decide +kernel
theorem dX7_vouch_14 : decode cX7_vouch 14 = .ok (.invokevirtual 97, 3) := by decide +kernel
theorem dX7_vouch_17 : decode cX7_vouch 17 = .ok (.iload_n 1, 1) := by decide +kernel
theorem dX7_vouch_18 : decode cX7_vouch 18 = .ok (.invokestatic 36, 3) := by decide +kernel
theorem dX7_vouch_21 : decode cX7_vouch 21 = .ok (.ifCond .eq 6, 3) := by decide +kernel
theorem dX7_vouch_24 : decode cX7_vouch 24 = .ok (.ldc 35, 2) := by decide +kernel
theorem dX7_vouch_26 : decode cX7_vouch 26 = .ok (.ireturn, 1) := by decide +kernel
theorem dX7_vouch_27 : decode cX7_vouch 27 = .ok (.aload_n 0, 1) := by decide +kernel
theorem dX7_vouch_28 : decode cX7_vouch 28 = .ok (.getfield 7, 3) := by decide +kernel
theorem dX7_vouch_31 : decode cX7_vouch 31 = .ok (.iconst 4, 1) := by decide +kernel
theorem dX7_vouch_32 : decode cX7_vouch 32 = .ok (.iaload, 1) := by decide +kernel
theorem dX7_vouch_33 : decode cX7_vouch 33 = .ok (.ifCond .ne 6, 3) := by decide +kernel
theorem dX7_vouch_36 : decode cX7_vouch 36 = .ok (.ldc 57, 2) := by decide +kernel
theorem dX7_vouch_38 : decode cX7_vouch 38 = .ok (.ireturn, 1) := by decide +kernel
theorem dX7_vouch_39 : decode cX7_vouch 39 = .ok (.aload_n 0, 1) := by decide +kernel
theorem dX7_vouch_40 : decode cX7_vouch 40 = .ok (.invokevirtual 61, 3) := by decide +kernel
theorem dX7_vouch_43 : decode cX7_vouch 43 = .ok (.aload_n 0, 1) := by decide +kernel
theorem dX7_vouch_44 : decode cX7_vouch 44 = .ok (.getfield 7, 3) := by decide +kernel
theorem dX7_vouch_47 : decode cX7_vouch 47 = .ok (.iconst 5, 1) := by decide +kernel
theorem dX7_vouch_48 : decode cX7_vouch 48 = .ok (.dup2, 1) := by decide +kernel
theorem dX7_vouch_49 : decode cX7_vouch 49 = .ok (.iaload, 1) := by decide +kernel
theorem dX7_vouch_50 : decode cX7_vouch 50 = .ok (.iconst 1, 1) := by decide +kernel
theorem dX7_vouch_51 : decode cX7_vouch 51 = .ok (.iload_n 1, 1) := by decide +kernel
theorem dX7_vouch_52 : decode cX7_vouch 52 = .ok (.ishl, 1) := by decide +kernel
theorem dX7_vouch_53 : decode cX7_vouch 53 = .ok (.ior, 1) := by decide +kernel
theorem dX7_vouch_54 : decode cX7_vouch 54 = .ok (.iastore, 1) := by decide +kernel
theorem dX7_vouch_55 : decode cX7_vouch 55 = .ok (.aload_n 0, 1) := by decide +kernel
theorem dX7_vouch_56 : decode cX7_vouch 56 = .ok (.getfield 7, 3) := by decide +kernel
theorem dX7_vouch_59 : decode cX7_vouch 59 = .ok (.iconst 4, 1) := by decide +kernel
theorem dX7_vouch_60 : decode cX7_vouch 60 = .ok (.dup2, 1) := by decide +kernel
theorem dX7_vouch_61 : decode cX7_vouch 61 = .ok (.iaload, 1) := by decide +kernel
theorem dX7_vouch_62 : decode cX7_vouch 62 = .ok (.iconst 1, 1) := by decide +kernel
theorem dX7_vouch_63 : decode cX7_vouch 63 = .ok (.isub, 1) := by decide +kernel
theorem dX7_vouch_64 : decode cX7_vouch 64 = .ok (.iastore, 1) := by decide +kernel
theorem dX7_vouch_65 : decode cX7_vouch 65 = .ok (.aload_n 0, 1) := by decide +kernel
theorem dX7_vouch_66 : decode cX7_vouch 66 = .ok (.getfield 7, 3) := by decide +kernel
theorem dX7_vouch_69 : decode cX7_vouch 69 = .ok (.iconst 4, 1) := by decide +kernel
theorem dX7_vouch_70 : decode cX7_vouch 70 = .ok (.iaload, 1) := by decide +kernel
theorem dX7_vouch_71 : decode cX7_vouch 71 = .ok (.ireturn, 1) := by decide +kernel
theorem dX7_vouchers_0 : decode cX7_vouchers 0 = .ok (.iload_n 1, 1) := by decide +kernel
theorem dX7_vouchers_1 : decode cX7_vouchers 1 = .ok (.iconst 0, 1) := by decide +kernel
theorem dX7_vouchers_2 : decode cX7_vouchers 2 = .ok (.bipush 20, 2) := by decide +kernel
theorem dX7_vouchers_4 : decode cX7_vouchers 4 = .ok (.invokestatic 45, 3) := by decide +kernel
theorem dX7_vouchers_7 : decode cX7_vouchers 7 = .ok (.ifCond .ne 6, 3) := by decide +kernel
theorem dX7_vouchers_10 : decode cX7_vouchers 10 = .ok (.ldc 53, 2) := by decide +kernel
theorem dX7_vouchers_12 : decode cX7_vouchers 12 = .ok (.ireturn, 1) := by decide +kernel
theorem dX7_vouchers_13 : decode cX7_vouchers 13 = .ok (.aload_n 0, 1) := by decide +kernel
theorem dX7_vouchers_14 : decode cX7_vouchers 14 = .ok (.invokevirtual 61, 3) := by decide +kernel
theorem dX7_vouchers_17 : decode cX7_vouchers 17 = .ok (.aload_n 0, 1) := by decide +kernel
theorem dX7_vouchers_18 : decode cX7_vouchers 18 = .ok (.getfield 7, 3) := by decide +kernel
theorem dX7_vouchers_21 : decode cX7_vouchers 21 = .ok (.iconst 4, 1) := by decide +kernel
theorem dX7_vouchers_22 : decode cX7_vouchers 22 = .ok (.iaload, 1) := by decide +kernel
theorem dX7_vouchers_23 : decode cX7_vouchers 23 = .ok (.istore_n 2, 1) := by decide +kernel
theorem dX7_vouchers_24 : decode cX7_vouchers 24 = .ok (.aload_n 0, 1) := by decide +kernel
theorem dX7_vouchers_25 : decode cX7_vouchers 25 = .ok (.getfield 7, 3) := by decide +kernel
theorem dX7_vouchers_28 : decode cX7_vouchers 28 = .ok (.iconst 4, 1) := by decide +kernel
theorem dX7_vouchers_29 : decode cX7_vouchers 29 = .ok (.iload_n 1, 1) := by decide +kernel
theorem dX7_vouchers_30 : decode cX7_vouchers 30 = .ok (.iastore, 1) := by decide +kernel
theorem dX7_vouchers_31 : decode cX7_vouchers 31 = .ok (.iload_n 2, 1) := by decide +kernel
theorem dX7_vouchers_32 : decode cX7_vouchers 32 = .ok (.ireturn, 1) := by decide +kernel
theorem dX7_pass_0 : decode cX7_pass 0 = .ok (.iload_n 1, 1) := by decide +kernel
theorem dX7_pass_1 : decode cX7_pass 1 = .ok (.iconst 1, 1) := by decide +kernel
theorem dX7_pass_2 : decode cX7_pass 2 = .ok (.bipush 60, 2) := by decide +kernel
theorem dX7_pass_4 : decode cX7_pass 4 = .ok (.invokestatic 45, 3) := by decide +kernel
theorem dX7_pass_7 : decode cX7_pass 7 = .ok (.ifCond .ne 6, 3) := by decide +kernel
theorem dX7_pass_10 : decode cX7_pass 10 = .ok (.ldc 53, 2) := by decide +kernel
theorem dX7_pass_12 : decode cX7_pass 12 = .ok (.ireturn, 1) := by decide +kernel
theorem dX7_pass_13 : decode cX7_pass 13 = .ok (.aload_n 0, 1) := by decide +kernel
theorem dX7_pass_14 : decode cX7_pass 14 = .ok (.getfield 7, 3) := by decide +kernel
theorem dX7_pass_17 : decode cX7_pass 17 = .ok (.iconst 3, 1) := by decide +kernel
theorem dX7_pass_18 : decode cX7_pass 18 = .ok (.iaload, 1) := by decide +kernel
theorem dX7_pass_19 : decode cX7_pass 19 = .ok (.iload_n 1, 1) := by decide +kernel
theorem dX7_pass_20 : decode cX7_pass 20 = .ok (.iadd, 1) := by decide +kernel
theorem dX7_pass_21 : decode cX7_pass 21 = .ok (.sipush 10000, 3) := by decide +kernel
theorem dX7_pass_24 : decode cX7_pass 24 = .ok (.if_icmp .le 6, 3) := by decide +kernel
theorem dX7_pass_27 : decode cX7_pass 27 = .ok (.ldc 57, 2) := by decide +kernel
theorem dX7_pass_29 : decode cX7_pass 29 = .ok (.ireturn, 1) := by decide +kernel
theorem dX7_pass_30 : decode cX7_pass 30 = .ok (.aload_n 0, 1) := by decide +kernel
theorem dX7_pass_31 : decode cX7_pass 31 = .ok (.invokevirtual 61, 3) := by decide +kernel
theorem dX7_pass_34 : decode cX7_pass 34 = .ok (.aload_n 0, 1) := by decide +kernel
theorem dX7_pass_35 : decode cX7_pass 35 = .ok (.getfield 7, 3) := by decide +kernel
theorem dX7_pass_38 : decode cX7_pass 38 = .ok (.iconst 3, 1) := by decide +kernel
theorem dX7_pass_39 : decode cX7_pass 39 = .ok (.dup2, 1) := by decide +kernel
theorem dX7_pass_40 : decode cX7_pass 40 = .ok (.iaload, 1) := by decide +kernel
theorem dX7_pass_41 : decode cX7_pass 41 = .ok (.iload_n 1, 1) := by decide +kernel
theorem dX7_pass_42 : decode cX7_pass 42 = .ok (.iadd, 1) := by decide +kernel
theorem dX7_pass_43 : decode cX7_pass 43 = .ok (.iastore, 1) := by decide +kernel
theorem dX7_pass_44 : decode cX7_pass 44 = .ok (.aload_n 0, 1) := by decide +kernel
theorem dX7_pass_45 : decode cX7_pass 45 = .ok (.getfield 7, 3) := by decide +kernel
theorem dX7_pass_48 : decode cX7_pass 48 = .ok (.iconst 5, 1) := by decide +kernel
theorem dX7_pass_49 : decode cX7_pass 49 = .ok (.iconst 0, 1) := by decide +kernel
theorem dX7_pass_50 : decode cX7_pass 50 = .ok (.iastore, 1) := by decide +kernel
theorem dX7_pass_51 : decode cX7_pass 51 = .ok (.aload_n 0, 1) := by decide +kernel
theorem dX7_pass_52 : decode cX7_pass 52 = .ok (.invokevirtual 86, 3) := by decide +kernel
theorem dX7_pass_55 : decode cX7_pass 55 = .ok (.ireturn, 1) := by decide +kernel
theorem dX7_suspects_0 : decode cX7_suspects 0 = .ok (.aload_n 0, 1) := by decide +kernel
theorem dX7_suspects_1 : decode cX7_suspects 1 = .ok (.getfield 7, 3) := by decide +kernel
theorem dX7_suspects_4 : decode cX7_suspects 4 = .ok (.bipush 7, 2) := by decide +kernel
theorem dX7_suspects_6 : decode cX7_suspects 6 = .ok (.iaload, 1) := by decide +kernel
theorem dX7_suspects_7 : decode cX7_suspects 7 = .ok (.ireturn, 1) := by decide +kernel
theorem dX7_worstOn_0 : decode cX7_worstOn 0 = .ok (.aload_n 0, 1) := by decide +kernel
theorem dX7_worstOn_1 : decode cX7_worstOn 1 = .ok (.aload_n 0, 1) := by decide +kernel
theorem dX7_worstOn_2 : decode cX7_worstOn 2 = .ok (.iload_n 1, 1) := by decide +kernel
theorem dX7_worstOn_3 : decode cX7_worstOn 3 = .ok (.invokevirtual 90, 3) := by decide +kernel
theorem dX7_worstOn_6 : decode cX7_worstOn 6 = .ok (.invokevirtual 156, 3) := by decide +kernel
theorem dX7_worstOn_9 : decode cX7_worstOn 9 = .ok (.iconst 0, 1) := by decide +kernel
theorem dX7_worstOn_10 : decode cX7_worstOn 10 = .ok (.istore_n 2, 1) := by decide +kernel
theorem dX7_worstOn_11 : decode cX7_worstOn 11 = .ok (.iconst 0, 1) := by decide +kernel
theorem dX7_worstOn_12 : decode cX7_worstOn 12 = .ok (.istore_n 3, 1) := by decide +kernel
theorem dX7_worstOn_13 : decode cX7_worstOn 13 = .ok (.iload_n 3, 1) := by decide +kernel
theorem dX7_worstOn_14 : decode cX7_worstOn 14 = .ok (.bipush 10, 2) := by decide +kernel
theorem dX7_worstOn_16 : decode cX7_worstOn 16 = .ok (.if_icmp .gt 54, 3) := by decide +kernel
theorem dX7_worstOn_19 : decode cX7_worstOn 19 = .ok (.aload_n 0, 1) := by decide +kernel
theorem dX7_worstOn_20 : decode cX7_worstOn 20 = .ok (.getfield 7, 3) := by decide +kernel
theorem dX7_worstOn_23 : decode cX7_worstOn 23 = .ok (.bipush 7, 2) := by decide +kernel
theorem dX7_worstOn_25 : decode cX7_worstOn 25 = .ok (.iaload, 1) := by decide +kernel
theorem dX7_worstOn_26 : decode cX7_worstOn 26 = .ok (.iload_n 3, 1) := by decide +kernel
theorem dX7_worstOn_27 : decode cX7_worstOn 27 = .ok (.invokestatic 36, 3) := by decide +kernel
theorem dX7_worstOn_30 : decode cX7_worstOn 30 = .ok (.ifCond .eq 34, 3) := by decide +kernel
theorem dX7_worstOn_33 : decode cX7_worstOn 33 = .ok (.aload_n 0, 1) := by decide +kernel
theorem dX7_worstOn_34 : decode cX7_worstOn 34 = .ok (.iload_n 3, 1) := by decide +kernel
theorem dX7_worstOn_35 : decode cX7_worstOn 35 = .ok (.invokevirtual 160, 3) := by decide +kernel
theorem dX7_worstOn_38 : decode cX7_worstOn 38 = .ok (.aload_n 0, 1) := by decide +kernel
theorem dX7_worstOn_39 : decode cX7_worstOn 39 = .ok (.getfield 7, 3) := by decide +kernel
theorem dX7_worstOn_42 : decode cX7_worstOn 42 = .ok (.bipush 7, 2) := by decide +kernel
theorem dX7_worstOn_44 : decode cX7_worstOn 44 = .ok (.iaload, 1) := by decide +kernel
theorem dX7_worstOn_45 : decode cX7_worstOn 45 = .ok (.iand, 1) := by decide +kernel
theorem dX7_worstOn_46 : decode cX7_worstOn 46 = .ok (.invokestatic 49, 3) := by decide +kernel
theorem dX7_worstOn_49 : decode cX7_worstOn 49 = .ok (.istore 4, 2) := by decide +kernel
theorem dX7_worstOn_51 : decode cX7_worstOn 51 = .ok (.iload 4, 2) := by decide +kernel
theorem dX7_worstOn_53 : decode cX7_worstOn 53 = .ok (.iload_n 2, 1) := by decide +kernel
theorem dX7_worstOn_54 : decode cX7_worstOn 54 = .ok (.if_icmp .le 8, 3) := by decide +kernel
theorem dX7_worstOn_57 : decode cX7_worstOn 57 = .ok (.iload 4, 2) := by decide +kernel
theorem dX7_worstOn_59 : decode cX7_worstOn 59 = .ok (.goto 4, 3) := by decide +kernel
theorem dX7_worstOn_62 : decode cX7_worstOn 62 = .ok (.iload_n 2, 1) := by decide +kernel
theorem dX7_worstOn_63 : decode cX7_worstOn 63 = .ok (.istore_n 2, 1) := by decide +kernel
theorem dX7_worstOn_64 : decode cX7_worstOn 64 = .ok (.iinc 3 1, 3) := by decide +kernel
theorem dX7_worstOn_67 : decode cX7_worstOn 67 = .ok (.goto (-54), 3) := by decide +kernel
theorem dX7_worstOn_70 : decode cX7_worstOn 70 = .ok (.iload_n 2, 1) := by decide +kernel
theorem dX7_worstOn_71 : decode cX7_worstOn 71 = .ok (.ireturn, 1) := by decide +kernel
theorem dX7_bestDay_0 : decode cX7_bestDay 0 = .ok (.iload_n 1, 1) := by decide +kernel
theorem dX7_bestDay_1 : decode cX7_bestDay 1 = .ok (.iconst 0, 1) := by decide +kernel
theorem dX7_bestDay_2 : decode cX7_bestDay 2 = .ok (.iconst 1, 1) := by decide +kernel
theorem dX7_bestDay_3 : decode cX7_bestDay 3 = .ok (.invokestatic 45, 3) := by decide +kernel
theorem dX7_bestDay_6 : decode cX7_bestDay 6 = .ok (.ifCond .ne 6, 3) := by decide +kernel
theorem dX7_bestDay_9 : decode cX7_bestDay 9 = .ok (.ldc 53, 2) := by decide +kernel
theorem dX7_bestDay_11 : decode cX7_bestDay 11 = .ok (.ireturn, 1) := by decide +kernel
theorem dX7_bestDay_12 : decode cX7_bestDay 12 = .ok (.aload_n 0, 1) := by decide +kernel
theorem dX7_bestDay_13 : decode cX7_bestDay 13 = .ok (.invokevirtual 86, 3) := by decide +kernel
theorem dX7_bestDay_16 : decode cX7_bestDay 16 = .ok (.istore_n 2, 1) := by decide +kernel
theorem dX7_bestDay_17 : decode cX7_bestDay 17 = .ok (.aload_n 0, 1) := by decide +kernel
theorem dX7_bestDay_18 : decode cX7_bestDay 18 = .ok (.iload_n 2, 1) := by decide +kernel
theorem dX7_bestDay_19 : decode cX7_bestDay 19 = .ok (.invokevirtual 185, 3) := by decide +kernel
end
section
theorem dX7_bestDay_22 : decode cX7_bestDay 22 = .ok (.istore_n 3, 1) := by decide +kernel
theorem dX7_bestDay_23 : decode cX7_bestDay 23 = .ok (.iconst 1, 1) := by decide +kernel
theorem dX7_bestDay_24 : decode cX7_bestDay 24 = .ok (.istore 4, 2) := by decide +kernel
theorem dX7_bestDay_26 : decode cX7_bestDay 26 = .ok (.iload 4, 2) := by decide +kernel
theorem dX7_bestDay_28 : decode cX7_bestDay 28 = .ok (.bipush 7, 2) := by decide +kernel
theorem dX7_bestDay_30 : decode cX7_bestDay 30 = .ok (.if_icmp .ge 55, 3) := by decide +kernel
theorem dX7_bestDay_33 : decode cX7_bestDay 33 = .ok (.aload_n 0, 1) := by decide +kernel
theorem dX7_bestDay_34 : decode cX7_bestDay 34 = .ok (.invokevirtual 86, 3) := by decide +kernel
theorem dX7_bestDay_37 : decode cX7_bestDay 37 = .ok (.iload 4, 2) := by decide +kernel
theorem dX7_bestDay_39 : decode cX7_bestDay 39 = .ok (.iadd, 1) := by decide +kernel
theorem dX7_bestDay_40 : decode cX7_bestDay 40 = .ok (.bipush 7, 2) := by decide +kernel
theorem dX7_bestDay_42 : decode cX7_bestDay 42 = .ok (.irem, 1) := by decide +kernel
theorem dX7_bestDay_43 : decode cX7_bestDay 43 = .ok (.istore 5, 2) := by decide +kernel
theorem dX7_bestDay_45 : decode cX7_bestDay 45 = .ok (.aload_n 0, 1) := by decide +kernel
theorem dX7_bestDay_46 : decode cX7_bestDay 46 = .ok (.iload 5, 2) := by decide +kernel
theorem dX7_bestDay_48 : decode cX7_bestDay 48 = .ok (.invokevirtual 185, 3) := by decide +kernel
theorem dX7_bestDay_51 : decode cX7_bestDay 51 = .ok (.istore 6, 2) := by decide +kernel
theorem dX7_bestDay_53 : decode cX7_bestDay 53 = .ok (.iload 6, 2) := by decide +kernel
theorem dX7_bestDay_55 : decode cX7_bestDay 55 = .ok (.iload_n 3, 1) := by decide +kernel
theorem dX7_bestDay_56 : decode cX7_bestDay 56 = .ok (.if_icmp .ge 8, 3) := by decide +kernel
theorem dX7_bestDay_59 : decode cX7_bestDay 59 = .ok (.iload 5, 2) := by decide +kernel
theorem dX7_bestDay_61 : decode cX7_bestDay 61 = .ok (.goto 4, 3) := by decide +kernel
theorem dX7_bestDay_64 : decode cX7_bestDay 64 = .ok (.iload_n 2, 1) := by decide +kernel
theorem dX7_bestDay_65 : decode cX7_bestDay 65 = .ok (.istore_n 2, 1) := by decide +kernel
theorem dX7_bestDay_66 : decode cX7_bestDay 66 = .ok (.iload 6, 2) := by decide +kernel
theorem dX7_bestDay_68 : decode cX7_bestDay 68 = .ok (.iload_n 3, 1) := by decide +kernel
theorem dX7_bestDay_69 : decode cX7_bestDay 69 = .ok (.if_icmp .ge 8, 3) := by decide +kernel
theorem dX7_bestDay_72 : decode cX7_bestDay 72 = .ok (.iload 6, 2) := by decide +kernel
theorem dX7_bestDay_74 : decode cX7_bestDay 74 = .ok (.goto 4, 3) := by decide +kernel
theorem dX7_bestDay_77 : decode cX7_bestDay 77 = .ok (.iload_n 3, 1) := by decide +kernel
theorem dX7_bestDay_78 : decode cX7_bestDay 78 = .ok (.istore_n 3, 1) := by decide +kernel
theorem dX7_bestDay_79 : decode cX7_bestDay 79 = .ok (.iinc 4 1, 3) := by decide +kernel
theorem dX7_bestDay_82 : decode cX7_bestDay 82 = .ok (.goto (-56), 3) := by decide +kernel
theorem dX7_bestDay_85 : decode cX7_bestDay 85 = .ok (.iload_n 1, 1) := by decide +kernel
theorem dX7_bestDay_86 : decode cX7_bestDay 86 = .ok (.ifCond .ne 7, 3) := by decide +kernel
theorem dX7_bestDay_89 : decode cX7_bestDay 89 = .ok (.iload_n 2, 1) := by decide +kernel
theorem dX7_bestDay_90 : decode cX7_bestDay 90 = .ok (.goto 4, 3) := by decide +kernel
theorem dX7_bestDay_93 : decode cX7_bestDay 93 = .ok (.iload_n 3, 1) := by decide +kernel
theorem dX7_bestDay_94 : decode cX7_bestDay 94 = .ok (.ireturn, 1) := by decide +kernel
theorem dX7_inDrawer_0 : decode cX7_inDrawer 0 = .ok (.iconst 0, 1) := by decide +kernel
theorem dX7_inDrawer_1 : decode cX7_inDrawer 1 = .ok (.istore_n 2, 1) := by decide +kernel
theorem dX7_inDrawer_2 : decode cX7_inDrawer 2 = .ok (.iconst 0, 1) := by decide +kernel
theorem dX7_inDrawer_3 : decode cX7_inDrawer 3 = .ok (.istore_n 3, 1) := by decide +kernel
theorem dX7_inDrawer_4 : decode cX7_inDrawer 4 = .ok (.iload_n 3, 1) := by decide +kernel
theorem dX7_inDrawer_5 : decode cX7_inDrawer 5 = .ok (.aload_n 0, 1) := by decide +kernel
theorem dX7_inDrawer_6 : decode cX7_inDrawer 6 = .ok (.getfield 7, 3) := by decide +kernel
theorem dX7_inDrawer_9 : decode cX7_inDrawer 9 = .ok (.iconst 2, 1) := by decide +kernel
theorem dX7_inDrawer_10 : decode cX7_inDrawer 10 = .ok (.iaload, 1) := by decide +kernel
theorem dX7_inDrawer_11 : decode cX7_inDrawer 11 = .ok (.if_icmp .ge 30, 3) := by decide +kernel
theorem dX7_inDrawer_14 : decode cX7_inDrawer 14 = .ok (.iload_n 2, 1) := by decide +kernel
theorem dX7_inDrawer_15 : decode cX7_inDrawer 15 = .ok (.aload_n 0, 1) := by decide +kernel
theorem dX7_inDrawer_16 : decode cX7_inDrawer 16 = .ok (.getfield 7, 3) := by decide +kernel
theorem dX7_inDrawer_19 : decode cX7_inDrawer 19 = .ok (.bipush 62, 2) := by decide +kernel
theorem dX7_inDrawer_21 : decode cX7_inDrawer 21 = .ok (.iload_n 3, 1) := by decide +kernel
theorem dX7_inDrawer_22 : decode cX7_inDrawer 22 = .ok (.iadd, 1) := by decide +kernel
theorem dX7_inDrawer_23 : decode cX7_inDrawer 23 = .ok (.iaload, 1) := by decide +kernel
theorem dX7_inDrawer_24 : decode cX7_inDrawer 24 = .ok (.iload_n 1, 1) := by decide +kernel
theorem dX7_inDrawer_25 : decode cX7_inDrawer 25 = .ok (.if_icmp .ne 7, 3) := by decide +kernel
theorem dX7_inDrawer_28 : decode cX7_inDrawer 28 = .ok (.iconst 1, 1) := by decide +kernel
theorem dX7_inDrawer_29 : decode cX7_inDrawer 29 = .ok (.goto 4, 3) := by decide +kernel
theorem dX7_inDrawer_32 : decode cX7_inDrawer 32 = .ok (.iconst 0, 1) := by decide +kernel
theorem dX7_inDrawer_33 : decode cX7_inDrawer 33 = .ok (.iadd, 1) := by decide +kernel
theorem dX7_inDrawer_34 : decode cX7_inDrawer 34 = .ok (.istore_n 2, 1) := by decide +kernel
theorem dX7_inDrawer_35 : decode cX7_inDrawer 35 = .ok (.iinc 3 1, 3) := by decide +kernel
theorem dX7_inDrawer_38 : decode cX7_inDrawer 38 = .ok (.goto (-34), 3) := by decide +kernel
theorem dX7_inDrawer_41 : decode cX7_inDrawer 41 = .ok (.iload_n 2, 1) := by decide +kernel
theorem dX7_inDrawer_42 : decode cX7_inDrawer 42 = .ok (.ireturn, 1) := by decide +kernel
theorem dX7_file_0 : decode cX7_file 0 = .ok (.aload_n 0, 1) := by decide +kernel
theorem dX7_file_1 : decode cX7_file 1 = .ok (.iload_n 1, 1) := by decide +kernel
theorem dX7_file_2 : decode cX7_file 2 = .ok (.invokevirtual 100, 3) := by decide +kernel
theorem dX7_file_5 : decode cX7_file 5 = .ok (.ifCond .eq 12, 3) := by decide +kernel
theorem dX7_file_8 : decode cX7_file 8 = .ok (.iload_n 2, 1) := by decide +kernel
theorem dX7_file_9 : decode cX7_file 9 = .ok (.iconst 0, 1) := by decide +kernel
theorem dX7_file_10 : decode cX7_file 10 = .ok (.iconst 4, 1) := by decide +kernel
theorem dX7_file_11 : decode cX7_file 11 = .ok (.invokestatic 45, 3) := by decide +kernel
theorem dX7_file_14 : decode cX7_file 14 = .ok (.ifCond .ne 6, 3) := by decide +kernel
theorem dX7_file_17 : decode cX7_file 17 = .ok (.ldc 53, 2) := by decide +kernel
theorem dX7_file_19 : decode cX7_file 19 = .ok (.ireturn, 1) := by decide +kernel
theorem dX7_file_20 : decode cX7_file 20 = .ok (.aload_n 0, 1) := by decide +kernel
theorem dX7_file_21 : decode cX7_file 21 = .ok (.getfield 7, 3) := by decide +kernel
theorem dX7_file_24 : decode cX7_file 24 = .ok (.bipush 62, 2) := by decide +kernel
theorem dX7_file_26 : decode cX7_file 26 = .ok (.iload_n 1, 1) := by decide +kernel
theorem dX7_file_27 : decode cX7_file 27 = .ok (.iadd, 1) := by decide +kernel
theorem dX7_file_28 : decode cX7_file 28 = .ok (.iaload, 1) := by decide +kernel
theorem dX7_file_29 : decode cX7_file 29 = .ok (.iconst (-1), 1) := by decide +kernel
theorem dX7_file_30 : decode cX7_file 30 = .ok (.if_icmp .ne 16, 3) := by decide +kernel
theorem dX7_file_33 : decode cX7_file 33 = .ok (.aload_n 0, 1) := by decide +kernel
theorem dX7_file_34 : decode cX7_file 34 = .ok (.getfield 7, 3) := by decide +kernel
theorem dX7_file_37 : decode cX7_file 37 = .ok (.bipush 32, 2) := by decide +kernel
theorem dX7_file_39 : decode cX7_file 39 = .ok (.iload_n 1, 1) := by decide +kernel
theorem dX7_file_40 : decode cX7_file 40 = .ok (.iadd, 1) := by decide +kernel
theorem dX7_file_41 : decode cX7_file 41 = .ok (.iaload, 1) := by decide +kernel
theorem dX7_file_42 : decode cX7_file 42 = .ok (.iload_n 2, 1) := by decide +kernel
theorem dX7_file_43 : decode cX7_file 43 = .ok (.if_icmp .eq 6, 3) := by decide +kernel
theorem dX7_file_46 : decode cX7_file 46 = .ok (.ldc 35, 2) := by decide +kernel
theorem dX7_file_48 : decode cX7_file 48 = .ok (.ireturn, 1) := by decide +kernel
theorem dX7_file_49 : decode cX7_file 49 = .ok (.aload_n 0, 1) := by decide +kernel
theorem dX7_file_50 : decode cX7_file 50 = .ok (.iload_n 2, 1) := by decide +kernel
theorem dX7_file_51 : decode cX7_file 51 = .ok (.invokevirtual 188, 3) := by decide +kernel
theorem dX7_file_54 : decode cX7_file 54 = .ok (.iconst 3, 1) := by decide +kernel
theorem dX7_file_55 : decode cX7_file 55 = .ok (.if_icmp .ne 6, 3) := by decide +kernel
theorem dX7_file_58 : decode cX7_file 58 = .ok (.ldc 57, 2) := by decide +kernel
theorem dX7_file_60 : decode cX7_file 60 = .ok (.ireturn, 1) := by decide +kernel
theorem dX7_file_61 : decode cX7_file 61 = .ok (.aload_n 0, 1) := by decide +kernel
theorem dX7_file_62 : decode cX7_file 62 = .ok (.invokevirtual 61, 3) := by decide +kernel
theorem dX7_file_65 : decode cX7_file 65 = .ok (.aload_n 0, 1) := by decide +kernel
theorem dX7_file_66 : decode cX7_file 66 = .ok (.getfield 7, 3) := by decide +kernel
theorem dX7_file_69 : decode cX7_file 69 = .ok (.bipush 62, 2) := by decide +kernel
theorem dX7_file_71 : decode cX7_file 71 = .ok (.iload_n 1, 1) := by decide +kernel
theorem dX7_file_72 : decode cX7_file 72 = .ok (.iadd, 1) := by decide +kernel
theorem dX7_file_73 : decode cX7_file 73 = .ok (.iload_n 2, 1) := by decide +kernel
theorem dX7_file_74 : decode cX7_file 74 = .ok (.iastore, 1) := by decide +kernel
theorem dX7_file_75 : decode cX7_file 75 = .ok (.aload_n 0, 1) := by decide +kernel
theorem dX7_file_76 : decode cX7_file 76 = .ok (.iload_n 2, 1) := by decide +kernel
theorem dX7_file_77 : decode cX7_file 77 = .ok (.invokevirtual 188, 3) := by decide +kernel
theorem dX7_file_80 : decode cX7_file 80 = .ok (.ireturn, 1) := by decide +kernel
theorem dX7_count_0 : decode cX7_count 0 = .ok (.iload_n 1, 1) := by decide +kernel
theorem dX7_count_1 : decode cX7_count 1 = .ok (.tableswitch 138 0 10 #[59, 66, 73, 80, 87, 92, 99, 107, 120, 128, 133], 59) := by decide +kernel
theorem dX7_count_60 : decode cX7_count 60 = .ok (.aload_n 0, 1) := by decide +kernel
theorem dX7_count_61 : decode cX7_count 61 = .ok (.getfield 7, 3) := by decide +kernel
theorem dX7_count_64 : decode cX7_count 64 = .ok (.iconst 0, 1) := by decide +kernel
theorem dX7_count_65 : decode cX7_count 65 = .ok (.iaload, 1) := by decide +kernel
theorem dX7_count_66 : decode cX7_count 66 = .ok (.ireturn, 1) := by decide +kernel
theorem dX7_count_67 : decode cX7_count 67 = .ok (.aload_n 0, 1) := by decide +kernel
theorem dX7_count_68 : decode cX7_count 68 = .ok (.getfield 7, 3) := by decide +kernel
theorem dX7_count_71 : decode cX7_count 71 = .ok (.iconst 1, 1) := by decide +kernel
theorem dX7_count_72 : decode cX7_count 72 = .ok (.iaload, 1) := by decide +kernel
theorem dX7_count_73 : decode cX7_count 73 = .ok (.ireturn, 1) := by decide +kernel
theorem dX7_count_74 : decode cX7_count 74 = .ok (.aload_n 0, 1) := by decide +kernel
theorem dX7_count_75 : decode cX7_count 75 = .ok (.getfield 7, 3) := by decide +kernel
theorem dX7_count_78 : decode cX7_count 78 = .ok (.iconst 2, 1) := by decide +kernel
theorem dX7_count_79 : decode cX7_count 79 = .ok (.iaload, 1) := by decide +kernel
theorem dX7_count_80 : decode cX7_count 80 = .ok (.ireturn, 1) := by decide +kernel
theorem dX7_count_81 : decode cX7_count 81 = .ok (.aload_n 0, 1) := by decide +kernel
theorem dX7_count_82 : decode cX7_count 82 = .ok (.getfield 7, 3) := by decide +kernel
theorem dX7_count_85 : decode cX7_count 85 = .ok (.iconst 3, 1) := by decide +kernel
theorem dX7_count_86 : decode cX7_count 86 = .ok (.iaload, 1) := by decide +kernel
theorem dX7_count_87 : decode cX7_count 87 = .ok (.ireturn, 1) := by decide +kernel
theorem dX7_count_88 : decode cX7_count 88 = .ok (.aload_n 0, 1) := by decide +kernel
theorem dX7_count_89 : decode cX7_count 89 = .ok (.invokevirtual 86, 3) := by decide +kernel
theorem dX7_count_92 : decode cX7_count 92 = .ok (.ireturn, 1) := by decide +kernel
theorem dX7_count_93 : decode cX7_count 93 = .ok (.aload_n 0, 1) := by decide +kernel
theorem dX7_count_94 : decode cX7_count 94 = .ok (.getfield 7, 3) := by decide +kernel
theorem dX7_count_97 : decode cX7_count 97 = .ok (.iconst 4, 1) := by decide +kernel
theorem dX7_count_98 : decode cX7_count 98 = .ok (.iaload, 1) := by decide +kernel
theorem dX7_count_99 : decode cX7_count 99 = .ok (.ireturn, 1) := by decide +kernel
theorem dX7_count_100 : decode cX7_count 100 = .ok (.aload_n 0, 1) := by decide +kernel
theorem dX7_count_101 : decode cX7_count 101 = .ok (.invokevirtual 97, 3) := by decide +kernel
theorem dX7_count_104 : decode cX7_count 104 = .ok (.invokestatic 49, 3) := by decide +kernel
theorem dX7_count_107 : decode cX7_count 107 = .ok (.ireturn, 1) := by decide +kernel
theorem dX7_count_108 : decode cX7_count 108 = .ok (.aload_n 0, 1) := by decide +kernel
theorem dX7_count_109 : decode cX7_count 109 = .ok (.iconst (-1), 1) := by decide +kernel
theorem dX7_count_110 : decode cX7_count 110 = .ok (.aload_n 0, 1) := by decide +kernel
theorem dX7_count_111 : decode cX7_count 111 = .ok (.invokevirtual 97, 3) := by decide +kernel
theorem dX7_count_114 : decode cX7_count 114 = .ok (.invokevirtual 128, 3) := by decide +kernel
theorem dX7_count_117 : decode cX7_count 117 = .ok (.invokestatic 49, 3) := by decide +kernel
theorem dX7_count_120 : decode cX7_count 120 = .ok (.ireturn, 1) := by decide +kernel
theorem dX7_count_121 : decode cX7_count 121 = .ok (.aload_n 0, 1) := by decide +kernel
theorem dX7_count_122 : decode cX7_count 122 = .ok (.getfield 7, 3) := by decide +kernel
theorem dX7_count_125 : decode cX7_count 125 = .ok (.bipush 8, 2) := by decide +kernel
theorem dX7_count_127 : decode cX7_count 127 = .ok (.iaload, 1) := by decide +kernel
theorem dX7_count_128 : decode cX7_count 128 = .ok (.ireturn, 1) := by decide +kernel
theorem dX7_count_129 : decode cX7_count 129 = .ok (.aload_n 0, 1) := by decide +kernel
theorem dX7_count_130 : decode cX7_count 130 = .ok (.getfield 31, 3) := by decide +kernel
theorem dX7_count_133 : decode cX7_count 133 = .ok (.ireturn, 1) := by decide +kernel
theorem dX7_count_134 : decode cX7_count 134 = .ok (.aload_n 0, 1) := by decide +kernel
theorem dX7_count_135 : decode cX7_count 135 = .ok (.getfield 191, 3) := by decide +kernel
theorem dX7_count_138 : decode cX7_count 138 = .ok (.ireturn, 1) := by decide +kernel
theorem dX7_count_139 : decode cX7_count 139 = .ok (.iload_n 1, 1) := by decide +kernel
theorem dX7_count_140 : decode cX7_count 140 = .ok (.bipush 11, 2) := by decide +kernel
theorem dX7_count_142 : decode cX7_count 142 = .ok (.bipush 15, 2) := by decide +kernel
theorem dX7_count_144 : decode cX7_count 144 = .ok (.invokestatic 45, 3) := by decide +kernel
theorem dX7_count_147 : decode cX7_count 147 = .ok (.ifCond .eq 14, 3) := by decide +kernel
theorem dX7_count_150 : decode cX7_count 150 = .ok (.aload_n 0, 1) := by decide +kernel
theorem dX7_count_151 : decode cX7_count 151 = .ok (.iload_n 1, 1) := by decide +kernel
theorem dX7_count_152 : decode cX7_count 152 = .ok (.bipush 11, 2) := by decide +kernel
theorem dX7_count_154 : decode cX7_count 154 = .ok (.isub, 1) := by decide +kernel
theorem dX7_count_155 : decode cX7_count 155 = .ok (.invokevirtual 188, 3) := by decide +kernel
theorem dX7_count_158 : decode cX7_count 158 = .ok (.goto 5, 3) := by decide +kernel
theorem dX7_count_161 : decode cX7_count 161 = .ok (.ldc 53, 2) := by decide +kernel
theorem dX7_count_163 : decode cX7_count 163 = .ok (.ireturn, 1) := by decide +kernel
theorem dX7_type_0 : decode cX7_type 0 = .ok (.iload_n 1, 1) := by decide +kernel
theorem dX7_type_1 : decode cX7_type 1 = .ok (.bipush 32, 2) := by decide +kernel
theorem dX7_type_3 : decode cX7_type 3 = .ok (.bipush 126, 2) := by decide +kernel
theorem dX7_type_5 : decode cX7_type 5 = .ok (.invokestatic 45, 3) := by decide +kernel
theorem dX7_type_8 : decode cX7_type 8 = .ok (.ifCond .ne 6, 3) := by decide +kernel
theorem dX7_type_11 : decode cX7_type 11 = .ok (.ldc 53, 2) := by decide +kernel
theorem dX7_type_13 : decode cX7_type 13 = .ok (.ireturn, 1) := by decide +kernel
theorem dX7_type_14 : decode cX7_type 14 = .ok (.aload_n 0, 1) := by decide +kernel
theorem dX7_type_15 : decode cX7_type 15 = .ok (.getfield 191, 3) := by decide +kernel
theorem dX7_type_18 : decode cX7_type 18 = .ok (.bipush 100, 2) := by decide +kernel
theorem dX7_type_20 : decode cX7_type 20 = .ok (.if_icmp .ne 6, 3) := by decide +kernel
theorem dX7_type_23 : decode cX7_type 23 = .ok (.ldc 57, 2) := by decide +kernel
theorem dX7_type_25 : decode cX7_type 25 = .ok (.ireturn, 1) := by decide +kernel
theorem dX7_type_26 : decode cX7_type 26 = .ok (.aload_n 0, 1) := by decide +kernel
theorem dX7_type_27 : decode cX7_type 27 = .ok (.getfield 25, 3) := by decide +kernel
theorem dX7_type_30 : decode cX7_type 30 = .ok (.aload_n 0, 1) := by decide +kernel
theorem dX7_type_31 : decode cX7_type 31 = .ok (.getfield 191, 3) := by decide +kernel
theorem dX7_type_34 : decode cX7_type 34 = .ok (.iload_n 1, 1) := by decide +kernel
theorem dX7_type_35 : decode cX7_type 35 = .ok (.iastore, 1) := by decide +kernel
theorem dX7_type_36 : decode cX7_type 36 = .ok (.aload_n 0, 1) := by decide +kernel
theorem dX7_type_37 : decode cX7_type 37 = .ok (.dup, 1) := by decide +kernel
theorem dX7_type_38 : decode cX7_type 38 = .ok (.getfield 191, 3) := by decide +kernel
theorem dX7_type_41 : decode cX7_type 41 = .ok (.iconst 1, 1) := by decide +kernel
theorem dX7_type_42 : decode cX7_type 42 = .ok (.iadd, 1) := by decide +kernel
theorem dX7_type_43 : decode cX7_type 43 = .ok (.putfield 191, 3) := by decide +kernel
theorem dX7_type_46 : decode cX7_type 46 = .ok (.aload_n 0, 1) := by decide +kernel
theorem dX7_type_47 : decode cX7_type 47 = .ok (.getfield 191, 3) := by decide +kernel
theorem dX7_type_50 : decode cX7_type 50 = .ok (.ireturn, 1) := by decide +kernel
theorem dX7_clearText_0 : decode cX7_clearText 0 = .ok (.aload_n 0, 1) := by decide +kernel
theorem dX7_clearText_1 : decode cX7_clearText 1 = .ok (.getfield 191, 3) := by decide +kernel
theorem dX7_clearText_4 : decode cX7_clearText 4 = .ok (.istore_n 1, 1) := by decide +kernel
theorem dX7_clearText_5 : decode cX7_clearText 5 = .ok (.aload_n 0, 1) := by decide +kernel
theorem dX7_clearText_6 : decode cX7_clearText 6 = .ok (.iconst 0, 1) := by decide +kernel
theorem dX7_clearText_7 : decode cX7_clearText 7 = .ok (.putfield 191, 3) := by decide +kernel
theorem dX7_clearText_10 : decode cX7_clearText 10 = .ok (.iload_n 1, 1) := by decide +kernel
theorem dX7_clearText_11 : decode cX7_clearText 11 = .ok (.ireturn, 1) := by decide +kernel
theorem dX7_isHere_0 : decode cX7_isHere 0 = .ok (.aload_n 0, 1) := by decide +kernel
theorem dX7_isHere_1 : decode cX7_isHere 1 = .ok (.getfield 194, 3) := by decide +kernel
theorem dX7_isHere_4 : decode cX7_isHere 4 = .ok (.aload_n 0, 1) := by decide +kernel
theorem dX7_isHere_5 : decode cX7_isHere 5 = .ok (.getfield 191, 3) := by decide +kernel
theorem dX7_isHere_8 : decode cX7_isHere 8 = .ok (.if_icmp .ge 24, 3) := by decide +kernel
theorem dX7_isHere_11 : decode cX7_isHere 11 = .ok (.aload_n 0, 1) := by decide +kernel
theorem dX7_isHere_12 : decode cX7_isHere 12 = .ok (.getfield 25, 3) := by decide +kernel
theorem dX7_isHere_15 : decode cX7_isHere 15 = .ok (.aload_n 0, 1) := by decide +kernel
theorem dX7_isHere_16 : decode cX7_isHere 16 = .ok (.getfield 194, 3) := by decide +kernel
theorem dX7_isHere_19 : decode cX7_isHere 19 = .ok (.iaload, 1) := by decide +kernel
theorem dX7_isHere_20 : decode cX7_isHere 20 = .ok (.iload_n 1, 1) := by decide +kernel
theorem dX7_isHere_21 : decode cX7_isHere 21 = .ok (.iload_n 2, 1) := by decide +kernel
theorem dX7_isHere_22 : decode cX7_isHere 22 = .ok (.invokestatic 45, 3) := by decide +kernel
theorem dX7_isHere_25 : decode cX7_isHere 25 = .ok (.ifCond .eq 7, 3) := by decide +kernel
theorem dX7_isHere_28 : decode cX7_isHere 28 = .ok (.iconst 1, 1) := by decide +kernel
theorem dX7_isHere_29 : decode cX7_isHere 29 = .ok (.goto 4, 3) := by decide +kernel
theorem dX7_isHere_32 : decode cX7_isHere 32 = .ok (.iconst 0, 1) := by decide +kernel
theorem dX7_isHere_33 : decode cX7_isHere 33 = .ok (.ireturn, 1) := by decide +kernel
theorem dX7_passesSpaces_0 : decode cX7_passesSpaces 0 = .ok (.aload_n 0, 1) := by decide +kernel
theorem dX7_passesSpaces_1 : decode cX7_passesSpaces 1 = .ok (.bipush 32, 2) := by decide +kernel
theorem dX7_passesSpaces_3 : decode cX7_passesSpaces 3 = .ok (.bipush 32, 2) := by decide +kernel
theorem dX7_passesSpaces_5 : decode cX7_passesSpaces 5 = .ok (.invokevirtual 197, 3) := by decide +kernel
theorem dX7_passesSpaces_8 : decode cX7_passesSpaces 8 = .ok (.ifCond .eq 16, 3) := by decide +kernel
theorem dX7_passesSpaces_11 : decode cX7_passesSpaces 11 = .ok (.aload_n 0, 1) := by decide +kernel
theorem dX7_passesSpaces_12 : decode cX7_passesSpaces 12 = .ok (.dup, 1) := by decide +kernel
theorem dX7_passesSpaces_13 : decode cX7_passesSpaces 13 = .ok (.getfield 194, 3) := by decide +kernel
theorem dX7_passesSpaces_16 : decode cX7_passesSpaces 16 = .ok (.iconst 1, 1) := by decide +kernel
theorem dX7_passesSpaces_17 : decode cX7_passesSpaces 17 = .ok (.iadd, 1) := by decide +kernel
theorem dX7_passesSpaces_18 : decode cX7_passesSpaces 18 = .ok (.putfield 194, 3) := by decide +kernel
theorem dX7_passesSpaces_21 : decode cX7_passesSpaces 21 = .ok (.goto (-21), 3) := by decide +kernel
theorem dX7_passesSpaces_24 : decode cX7_passesSpaces 24 = .ok (.return_, 1) := by decide +kernel
theorem dX7_isEnded_0 : decode cX7_isEnded 0 = .ok (.aload_n 0, 1) := by decide +kernel
theorem dX7_isEnded_1 : decode cX7_isEnded 1 = .ok (.bipush 32, 2) := by decide +kernel
theorem dX7_isEnded_3 : decode cX7_isEnded 3 = .ok (.bipush 32, 2) := by decide +kernel
theorem dX7_isEnded_5 : decode cX7_isEnded 5 = .ok (.invokevirtual 197, 3) := by decide +kernel
theorem dX7_isEnded_8 : decode cX7_isEnded 8 = .ok (.ifCond .ne 14, 3) := by decide +kernel
theorem dX7_isEnded_11 : decode cX7_isEnded 11 = .ok (.aload_n 0, 1) := by decide +kernel
theorem dX7_isEnded_12 : decode cX7_isEnded 12 = .ok (.bipush 59, 2) := by decide +kernel
theorem dX7_isEnded_14 : decode cX7_isEnded 14 = .ok (.bipush 59, 2) := by decide +kernel
theorem dX7_isEnded_16 : decode cX7_isEnded 16 = .ok (.invokevirtual 197, 3) := by decide +kernel
theorem dX7_isEnded_19 : decode cX7_isEnded 19 = .ok (.ifCond .eq 7, 3) := by decide +kernel
theorem dX7_isEnded_22 : decode cX7_isEnded 22 = .ok (.iconst 1, 1) := by decide +kernel
theorem dX7_isEnded_23 : decode cX7_isEnded 23 = .ok (.goto 4, 3) := by decide +kernel
theorem dX7_isEnded_26 : decode cX7_isEnded 26 = .ok (.iconst 0, 1) := by decide +kernel
theorem dX7_isEnded_27 : decode cX7_isEnded 27 = .ok (.ireturn, 1) := by decide +kernel
theorem dX7_readsWord_0 : decode cX7_readsWord 0 = .ok (.iconst 0, 1) := by decide +kernel
theorem dX7_readsWord_1 : decode cX7_readsWord 1 = .ok (.istore_n 1, 1) := by decide +kernel
theorem dX7_readsWord_2 : decode cX7_readsWord 2 = .ok (.iconst 0, 1) := by decide +kernel
theorem dX7_readsWord_3 : decode cX7_readsWord 3 = .ok (.istore_n 2, 1) := by decide +kernel
theorem dX7_readsWord_4 : decode cX7_readsWord 4 = .ok (.aload_n 0, 1) := by decide +kernel
theorem dX7_readsWord_5 : decode cX7_readsWord 5 = .ok (.bipush 97, 2) := by decide +kernel
theorem dX7_readsWord_7 : decode cX7_readsWord 7 = .ok (.bipush 122, 2) := by decide +kernel
theorem dX7_readsWord_9 : decode cX7_readsWord 9 = .ok (.invokevirtual 197, 3) := by decide +kernel
theorem dX7_readsWord_12 : decode cX7_readsWord 12 = .ok (.ifCond .eq 48, 3) := by decide +kernel
theorem dX7_readsWord_15 : decode cX7_readsWord 15 = .ok (.iload_n 2, 1) := by decide +kernel
theorem dX7_readsWord_16 : decode cX7_readsWord 16 = .ok (.iconst 5, 1) := by decide +kernel
theorem dX7_readsWord_17 : decode cX7_readsWord 17 = .ok (.if_icmp .ge 25, 3) := by decide +kernel
theorem dX7_readsWord_20 : decode cX7_readsWord 20 = .ok (.bipush 27, 2) := by decide +kernel
theorem dX7_readsWord_22 : decode cX7_readsWord 22 = .ok (.iload_n 1, 1) := by decide +kernel
theorem dX7_readsWord_23 : decode cX7_readsWord 23 = .ok (.imul, 1) := by decide +kernel
theorem dX7_readsWord_24 : decode cX7_readsWord 24 = .ok (.aload_n 0, 1) := by decide +kernel
theorem dX7_readsWord_25 : decode cX7_readsWord 25 = .ok (.getfield 25, 3) := by decide +kernel
theorem dX7_readsWord_28 : decode cX7_readsWord 28 = .ok (.aload_n 0, 1) := by decide +kernel
theorem dX7_readsWord_29 : decode cX7_readsWord 29 = .ok (.getfield 194, 3) := by decide +kernel
theorem dX7_readsWord_32 : decode cX7_readsWord 32 = .ok (.iaload, 1) := by decide +kernel
theorem dX7_readsWord_33 : decode cX7_readsWord 33 = .ok (.iadd, 1) := by decide +kernel
theorem dX7_readsWord_34 : decode cX7_readsWord 34 = .ok (.bipush 97, 2) := by decide +kernel
theorem dX7_readsWord_36 : decode cX7_readsWord 36 = .ok (.isub, 1) := by decide +kernel
theorem dX7_readsWord_37 : decode cX7_readsWord 37 = .ok (.iconst 1, 1) := by decide +kernel
theorem dX7_readsWord_38 : decode cX7_readsWord 38 = .ok (.iadd, 1) := by decide +kernel
theorem dX7_readsWord_39 : decode cX7_readsWord 39 = .ok (.goto 4, 3) := by decide +kernel
theorem dX7_readsWord_42 : decode cX7_readsWord 42 = .ok (.iconst 0, 1) := by decide +kernel
theorem dX7_readsWord_43 : decode cX7_readsWord 43 = .ok (.istore_n 1, 1) := by decide +kernel
theorem dX7_readsWord_44 : decode cX7_readsWord 44 = .ok (.iinc 2 1, 3) := by decide +kernel
theorem dX7_readsWord_47 : decode cX7_readsWord 47 = .ok (.aload_n 0, 1) := by decide +kernel
theorem dX7_readsWord_48 : decode cX7_readsWord 48 = .ok (.dup, 1) := by decide +kernel
theorem dX7_readsWord_49 : decode cX7_readsWord 49 = .ok (.getfield 194, 3) := by decide +kernel
theorem dX7_readsWord_52 : decode cX7_readsWord 52 = .ok (.iconst 1, 1) := by decide +kernel
theorem dX7_readsWord_53 : decode cX7_readsWord 53 = .ok (.iadd, 1) := by decide +kernel
theorem dX7_readsWord_54 : decode cX7_readsWord 54 = .ok (.putfield 194, 3) := by decide +kernel
theorem dX7_readsWord_57 : decode cX7_readsWord 57 = .ok (.goto (-53), 3) := by decide +kernel
theorem dX7_readsWord_60 : decode cX7_readsWord 60 = .ok (.iload_n 2, 1) := by decide +kernel
theorem dX7_readsWord_61 : decode cX7_readsWord 61 = .ok (.iconst 5, 1) := by decide +kernel
theorem dX7_readsWord_62 : decode cX7_readsWord 62 = .ok (.if_icmp .le 7, 3) := by decide +kernel
theorem dX7_readsWord_65 : decode cX7_readsWord 65 = .ok (.iconst 0, 1) := by decide +kernel
theorem dX7_readsWord_66 : decode cX7_readsWord 66 = .ok (.goto 4, 3) := by decide +kernel
theorem dX7_readsWord_69 : decode cX7_readsWord 69 = .ok (.iload_n 1, 1) := by decide +kernel
theorem dX7_readsWord_70 : decode cX7_readsWord 70 = .ok (.ireturn, 1) := by decide +kernel
theorem dX7_readsNumber_0 : decode cX7_readsNumber 0 = .ok (.iconst (-1), 1) := by decide +kernel
theorem dX7_readsNumber_1 : decode cX7_readsNumber 1 = .ok (.istore_n 1, 1) := by decide +kernel
theorem dX7_readsNumber_2 : decode cX7_readsNumber 2 = .ok (.iconst 0, 1) := by decide +kernel
theorem dX7_readsNumber_3 : decode cX7_readsNumber 3 = .ok (.istore_n 2, 1) := by decide +kernel
theorem dX7_readsNumber_4 : decode cX7_readsNumber 4 = .ok (.iload_n 2, 1) := by decide +kernel
theorem dX7_readsNumber_5 : decode cX7_readsNumber 5 = .ok (.iconst 2, 1) := by decide +kernel
theorem dX7_readsNumber_6 : decode cX7_readsNumber 6 = .ok (.if_icmp .ge 57, 3) := by decide +kernel
theorem dX7_readsNumber_9 : decode cX7_readsNumber 9 = .ok (.aload_n 0, 1) := by decide +kernel
theorem dX7_readsNumber_10 : decode cX7_readsNumber 10 = .ok (.bipush 48, 2) := by decide +kernel
theorem dX7_readsNumber_12 : decode cX7_readsNumber 12 = .ok (.bipush 57, 2) := by decide +kernel
theorem dX7_readsNumber_14 : decode cX7_readsNumber 14 = .ok (.invokevirtual 197, 3) := by decide +kernel
theorem dX7_readsNumber_17 : decode cX7_readsNumber 17 = .ok (.ifCond .eq 46, 3) := by decide +kernel
theorem dX7_readsNumber_20 : decode cX7_readsNumber 20 = .ok (.iload_n 1, 1) := by decide +kernel
theorem dX7_readsNumber_21 : decode cX7_readsNumber 21 = .ok (.iconst (-1), 1) := by decide +kernel
theorem dX7_readsNumber_22 : decode cX7_readsNumber 22 = .ok (.if_icmp .ne 7, 3) := by decide +kernel
theorem dX7_readsNumber_25 : decode cX7_readsNumber 25 = .ok (.iconst 0, 1) := by decide +kernel
theorem dX7_readsNumber_26 : decode cX7_readsNumber 26 = .ok (.goto 7, 3) := by decide +kernel
theorem dX7_readsNumber_29 : decode cX7_readsNumber 29 = .ok (.bipush 10, 2) := by decide +kernel
theorem dX7_readsNumber_31 : decode cX7_readsNumber 31 = .ok (.iload_n 1, 1) := by decide +kernel
theorem dX7_readsNumber_32 : decode cX7_readsNumber 32 = .ok (.imul, 1) := by decide +kernel
theorem dX7_readsNumber_33 : decode cX7_readsNumber 33 = .ok (.aload_n 0, 1) := by decide +kernel
theorem dX7_readsNumber_34 : decode cX7_readsNumber 34 = .ok (.getfield 25, 3) := by decide +kernel
theorem dX7_readsNumber_37 : decode cX7_readsNumber 37 = .ok (.aload_n 0, 1) := by decide +kernel
theorem dX7_readsNumber_38 : decode cX7_readsNumber 38 = .ok (.getfield 194, 3) := by decide +kernel
theorem dX7_readsNumber_41 : decode cX7_readsNumber 41 = .ok (.iaload, 1) := by decide +kernel
theorem dX7_readsNumber_42 : decode cX7_readsNumber 42 = .ok (.iadd, 1) := by decide +kernel
theorem dX7_readsNumber_43 : decode cX7_readsNumber 43 = .ok (.bipush 48, 2) := by decide +kernel
theorem dX7_readsNumber_45 : decode cX7_readsNumber 45 = .ok (.isub, 1) := by decide +kernel
theorem dX7_readsNumber_46 : decode cX7_readsNumber 46 = .ok (.istore_n 1, 1) := by decide +kernel
theorem dX7_readsNumber_47 : decode cX7_readsNumber 47 = .ok (.aload_n 0, 1) := by decide +kernel
theorem dX7_readsNumber_48 : decode cX7_readsNumber 48 = .ok (.dup, 1) := by decide +kernel
theorem dX7_readsNumber_49 : decode cX7_readsNumber 49 = .ok (.getfield 194, 3) := by decide +kernel
theorem dX7_readsNumber_52 : decode cX7_readsNumber 52 = .ok (.iconst 1, 1) := by decide +kernel
theorem dX7_readsNumber_53 : decode cX7_readsNumber 53 = .ok (.iadd, 1) := by decide +kernel
theorem dX7_readsNumber_54 : decode cX7_readsNumber 54 = .ok (.putfield 194, 3) := by decide +kernel
theorem dX7_readsNumber_57 : decode cX7_readsNumber 57 = .ok (.iinc 2 1, 3) := by decide +kernel
theorem dX7_readsNumber_60 : decode cX7_readsNumber 60 = .ok (.goto (-56), 3) := by decide +kernel
theorem dX7_readsNumber_63 : decode cX7_readsNumber 63 = .ok (.aload_n 0, 1) := by decide +kernel
theorem dX7_readsNumber_64 : decode cX7_readsNumber 64 = .ok (.invokevirtual 200, 3) := by decide +kernel
theorem dX7_readsNumber_67 : decode cX7_readsNumber 67 = .ok (.ifCond .eq 7, 3) := by decide +kernel
theorem dX7_readsNumber_70 : decode cX7_readsNumber 70 = .ok (.iload_n 1, 1) := by decide +kernel
theorem dX7_readsNumber_71 : decode cX7_readsNumber 71 = .ok (.goto 4, 3) := by decide +kernel
theorem dX7_readsNumber_74 : decode cX7_readsNumber 74 = .ok (.iconst (-1), 1) := by decide +kernel
theorem dX7_readsNumber_75 : decode cX7_readsNumber 75 = .ok (.ireturn, 1) := by decide +kernel
theorem dX7_readsCommand_0 : decode cX7_readsCommand 0 = .ok (.aload_n 0, 1) := by decide +kernel
theorem dX7_readsCommand_1 : decode cX7_readsCommand 1 = .ok (.iconst 0, 1) := by decide +kernel
theorem dX7_readsCommand_2 : decode cX7_readsCommand 2 = .ok (.putfield 204, 3) := by decide +kernel
theorem dX7_readsCommand_5 : decode cX7_readsCommand 5 = .ok (.aload_n 0, 1) := by decide +kernel
theorem dX7_readsCommand_6 : decode cX7_readsCommand 6 = .ok (.aload_n 0, 1) := by decide +kernel
theorem dX7_readsCommand_7 : decode cX7_readsCommand 7 = .ok (.invokevirtual 207, 3) := by decide +kernel
theorem dX7_readsCommand_10 : decode cX7_readsCommand 10 = .ok (.putfield 210, 3) := by decide +kernel
theorem dX7_readsCommand_13 : decode cX7_readsCommand 13 = .ok (.aload_n 0, 1) := by decide +kernel
theorem dX7_readsCommand_14 : decode cX7_readsCommand 14 = .ok (.getfield 210, 3) := by decide +kernel
theorem dX7_readsCommand_17 : decode cX7_readsCommand 17 = .ok (.ifCond .eq 10, 3) := by decide +kernel
theorem dX7_readsCommand_20 : decode cX7_readsCommand 20 = .ok (.aload_n 0, 1) := by decide +kernel
theorem dX7_readsCommand_21 : decode cX7_readsCommand 21 = .ok (.invokevirtual 200, 3) := by decide +kernel
theorem dX7_readsCommand_24 : decode cX7_readsCommand 24 = .ok (.ifCond .ne 5, 3) := by decide +kernel
theorem dX7_readsCommand_27 : decode cX7_readsCommand 27 = .ok (.iconst 0, 1) := by decide +kernel
theorem dX7_readsCommand_28 : decode cX7_readsCommand 28 = .ok (.ireturn, 1) := by decide +kernel
theorem dX7_readsCommand_29 : decode cX7_readsCommand 29 = .ok (.aload_n 0, 1) := by decide +kernel
theorem dX7_readsCommand_30 : decode cX7_readsCommand 30 = .ok (.invokevirtual 213, 3) := by decide +kernel
theorem dX7_readsCommand_33 : decode cX7_readsCommand 33 = .ok (.aload_n 0, 1) := by decide +kernel
theorem dX7_readsCommand_34 : decode cX7_readsCommand 34 = .ok (.bipush 59, 2) := by decide +kernel
theorem dX7_readsCommand_36 : decode cX7_readsCommand 36 = .ok (.bipush 59, 2) := by decide +kernel
theorem dX7_readsCommand_38 : decode cX7_readsCommand 38 = .ok (.invokevirtual 197, 3) := by decide +kernel
theorem dX7_readsCommand_41 : decode cX7_readsCommand 41 = .ok (.ifCond .ne 51, 3) := by decide +kernel
theorem dX7_readsCommand_44 : decode cX7_readsCommand 44 = .ok (.aload_n 0, 1) := by decide +kernel
theorem dX7_readsCommand_45 : decode cX7_readsCommand 45 = .ok (.invokevirtual 216, 3) := by decide +kernel
theorem dX7_readsCommand_48 : decode cX7_readsCommand 48 = .ok (.istore_n 1, 1) := by decide +kernel
theorem dX7_readsCommand_49 : decode cX7_readsCommand 49 = .ok (.iload_n 1, 1) := by decide +kernel
theorem dX7_readsCommand_50 : decode cX7_readsCommand 50 = .ok (.iconst (-1), 1) := by decide +kernel
theorem dX7_readsCommand_51 : decode cX7_readsCommand 51 = .ok (.if_icmp .eq 12, 3) := by decide +kernel
theorem dX7_readsCommand_54 : decode cX7_readsCommand 54 = .ok (.aload_n 0, 1) := by decide +kernel
theorem dX7_readsCommand_55 : decode cX7_readsCommand 55 = .ok (.getfield 204, 3) := by decide +kernel
theorem dX7_readsCommand_58 : decode cX7_readsCommand 58 = .ok (.bipush 9, 2) := by decide +kernel
theorem dX7_readsCommand_60 : decode cX7_readsCommand 60 = .ok (.if_icmp .ne 5, 3) := by decide +kernel
theorem dX7_readsCommand_63 : decode cX7_readsCommand 63 = .ok (.iconst 0, 1) := by decide +kernel
theorem dX7_readsCommand_64 : decode cX7_readsCommand 64 = .ok (.ireturn, 1) := by decide +kernel
theorem dX7_readsCommand_65 : decode cX7_readsCommand 65 = .ok (.aload_n 0, 1) := by decide +kernel
theorem dX7_readsCommand_66 : decode cX7_readsCommand 66 = .ok (.getfield 28, 3) := by decide +kernel
theorem dX7_readsCommand_69 : decode cX7_readsCommand 69 = .ok (.aload_n 0, 1) := by decide +kernel
theorem dX7_readsCommand_70 : decode cX7_readsCommand 70 = .ok (.getfield 204, 3) := by decide +kernel
theorem dX7_readsCommand_73 : decode cX7_readsCommand 73 = .ok (.iload_n 1, 1) := by decide +kernel
theorem dX7_readsCommand_74 : decode cX7_readsCommand 74 = .ok (.iastore, 1) := by decide +kernel
theorem dX7_readsCommand_75 : decode cX7_readsCommand 75 = .ok (.aload_n 0, 1) := by decide +kernel
theorem dX7_readsCommand_76 : decode cX7_readsCommand 76 = .ok (.dup, 1) := by decide +kernel
theorem dX7_readsCommand_77 : decode cX7_readsCommand 77 = .ok (.getfield 204, 3) := by decide +kernel
theorem dX7_readsCommand_80 : decode cX7_readsCommand 80 = .ok (.iconst 1, 1) := by decide +kernel
theorem dX7_readsCommand_81 : decode cX7_readsCommand 81 = .ok (.iadd, 1) := by decide +kernel
theorem dX7_readsCommand_82 : decode cX7_readsCommand 82 = .ok (.putfield 204, 3) := by decide +kernel
theorem dX7_readsCommand_85 : decode cX7_readsCommand 85 = .ok (.aload_n 0, 1) := by decide +kernel
theorem dX7_readsCommand_86 : decode cX7_readsCommand 86 = .ok (.invokevirtual 213, 3) := by decide +kernel
theorem dX7_readsCommand_89 : decode cX7_readsCommand 89 = .ok (.goto (-56), 3) := by decide +kernel
theorem dX7_readsCommand_92 : decode cX7_readsCommand 92 = .ok (.aload_n 0, 1) := by decide +kernel
theorem dX7_readsCommand_93 : decode cX7_readsCommand 93 = .ok (.dup, 1) := by decide +kernel
theorem dX7_readsCommand_94 : decode cX7_readsCommand 94 = .ok (.getfield 194, 3) := by decide +kernel
theorem dX7_readsCommand_97 : decode cX7_readsCommand 97 = .ok (.iconst 1, 1) := by decide +kernel
theorem dX7_readsCommand_98 : decode cX7_readsCommand 98 = .ok (.iadd, 1) := by decide +kernel
theorem dX7_readsCommand_99 : decode cX7_readsCommand 99 = .ok (.putfield 194, 3) := by decide +kernel
theorem dX7_readsCommand_102 : decode cX7_readsCommand 102 = .ok (.iconst 1, 1) := by decide +kernel
theorem dX7_readsCommand_103 : decode cX7_readsCommand 103 = .ok (.ireturn, 1) := by decide +kernel
theorem dX7_codeOf_0 : decode cX7_codeOf 0 = .ok (.bipush 27, 2) := by decide +kernel
theorem dX7_codeOf_2 : decode cX7_codeOf 2 = .ok (.bipush 27, 2) := by decide +kernel
theorem dX7_codeOf_4 : decode cX7_codeOf 4 = .ok (.iload_n 0, 1) := by decide +kernel
theorem dX7_codeOf_5 : decode cX7_codeOf 5 = .ok (.bipush 97, 2) := by decide +kernel
theorem dX7_codeOf_7 : decode cX7_codeOf 7 = .ok (.isub, 1) := by decide +kernel
theorem dX7_codeOf_8 : decode cX7_codeOf 8 = .ok (.iconst 1, 1) := by decide +kernel
theorem dX7_codeOf_9 : decode cX7_codeOf 9 = .ok (.iadd, 1) := by decide +kernel
theorem dX7_codeOf_10 : decode cX7_codeOf 10 = .ok (.imul, 1) := by decide +kernel
theorem dX7_codeOf_11 : decode cX7_codeOf 11 = .ok (.iload_n 1, 1) := by decide +kernel
theorem dX7_codeOf_12 : decode cX7_codeOf 12 = .ok (.iadd, 1) := by decide +kernel
theorem dX7_codeOf_13 : decode cX7_codeOf 13 = .ok (.bipush 97, 2) := by decide +kernel
theorem dX7_codeOf_15 : decode cX7_codeOf 15 = .ok (.isub, 1) := by decide +kernel
theorem dX7_codeOf_16 : decode cX7_codeOf 16 = .ok (.iconst 1, 1) := by decide +kernel
theorem dX7_codeOf_17 : decode cX7_codeOf 17 = .ok (.iadd, 1) := by decide +kernel
theorem dX7_codeOf_18 : decode cX7_codeOf 18 = .ok (.imul, 1) := by decide +kernel
theorem dX7_codeOf_19 : decode cX7_codeOf 19 = .ok (.iload_n 2, 1) := by decide +kernel
theorem dX7_codeOf_20 : decode cX7_codeOf 20 = .ok (.iadd, 1) := by decide +kernel
theorem dX7_codeOf_21 : decode cX7_codeOf 21 = .ok (.bipush 97, 2) := by decide +kernel
theorem dX7_codeOf_23 : decode cX7_codeOf 23 = .ok (.isub, 1) := by decide +kernel
theorem dX7_codeOf_24 : decode cX7_codeOf 24 = .ok (.iconst 1, 1) := by decide +kernel
theorem dX7_codeOf_25 : decode cX7_codeOf 25 = .ok (.iadd, 1) := by decide +kernel
theorem dX7_codeOf_26 : decode cX7_codeOf 26 = .ok (.istore 5, 2) := by decide +kernel
theorem dX7_codeOf_28 : decode cX7_codeOf 28 = .ok (.iload_n 3, 1) := by decide +kernel
theorem dX7_codeOf_29 : decode cX7_codeOf 29 = .ok (.bipush 32, 2) := by decide +kernel
theorem dX7_codeOf_31 : decode cX7_codeOf 31 = .ok (.if_icmp .ne 8, 3) := by decide +kernel
theorem dX7_codeOf_34 : decode cX7_codeOf 34 = .ok (.iload 5, 2) := by decide +kernel
theorem dX7_codeOf_36 : decode cX7_codeOf 36 = .ok (.goto 15, 3) := by decide +kernel
theorem dX7_codeOf_39 : decode cX7_codeOf 39 = .ok (.bipush 27, 2) := by decide +kernel
theorem dX7_codeOf_41 : decode cX7_codeOf 41 = .ok (.iload 5, 2) := by decide +kernel
theorem dX7_codeOf_43 : decode cX7_codeOf 43 = .ok (.imul, 1) := by decide +kernel
theorem dX7_codeOf_44 : decode cX7_codeOf 44 = .ok (.iload_n 3, 1) := by decide +kernel
theorem dX7_codeOf_45 : decode cX7_codeOf 45 = .ok (.iadd, 1) := by decide +kernel
theorem dX7_codeOf_46 : decode cX7_codeOf 46 = .ok (.bipush 97, 2) := by decide +kernel
theorem dX7_codeOf_48 : decode cX7_codeOf 48 = .ok (.isub, 1) := by decide +kernel
theorem dX7_codeOf_49 : decode cX7_codeOf 49 = .ok (.iconst 1, 1) := by decide +kernel
theorem dX7_codeOf_50 : decode cX7_codeOf 50 = .ok (.iadd, 1) := by decide +kernel
theorem dX7_codeOf_51 : decode cX7_codeOf 51 = .ok (.istore 5, 2) := by decide +kernel
theorem dX7_codeOf_53 : decode cX7_codeOf 53 = .ok (.iload 4, 2) := by decide +kernel
theorem dX7_codeOf_55 : decode cX7_codeOf 55 = .ok (.bipush 32, 2) := by decide +kernel
theorem dX7_codeOf_57 : decode cX7_codeOf 57 = .ok (.if_icmp .ne 8, 3) := by decide +kernel
theorem dX7_codeOf_60 : decode cX7_codeOf 60 = .ok (.iload 5, 2) := by decide +kernel
theorem dX7_codeOf_62 : decode cX7_codeOf 62 = .ok (.goto 16, 3) := by decide +kernel
theorem dX7_codeOf_65 : decode cX7_codeOf 65 = .ok (.bipush 27, 2) := by decide +kernel
theorem dX7_codeOf_67 : decode cX7_codeOf 67 = .ok (.iload 5, 2) := by decide +kernel
theorem dX7_codeOf_69 : decode cX7_codeOf 69 = .ok (.imul, 1) := by decide +kernel
theorem dX7_codeOf_70 : decode cX7_codeOf 70 = .ok (.iload 4, 2) := by decide +kernel
theorem dX7_codeOf_72 : decode cX7_codeOf 72 = .ok (.iadd, 1) := by decide +kernel
theorem dX7_codeOf_73 : decode cX7_codeOf 73 = .ok (.bipush 97, 2) := by decide +kernel
theorem dX7_codeOf_75 : decode cX7_codeOf 75 = .ok (.isub, 1) := by decide +kernel
theorem dX7_codeOf_76 : decode cX7_codeOf 76 = .ok (.iconst 1, 1) := by decide +kernel
theorem dX7_codeOf_77 : decode cX7_codeOf 77 = .ok (.iadd, 1) := by decide +kernel
theorem dX7_codeOf_78 : decode cX7_codeOf 78 = .ok (.ireturn, 1) := by decide +kernel
theorem dX7_commandKind_0 : decode cX7_commandKind 0 = .ok (.aload_n 0, 1) := by decide +kernel
theorem dX7_commandKind_1 : decode cX7_commandKind 1 = .ok (.getfield 210, 3) := by decide +kernel
theorem dX7_commandKind_4 : decode cX7_commandKind 4 = .ok (.bipush 111, 2) := by decide +kernel
theorem dX7_commandKind_6 : decode cX7_commandKind 6 = .ok (.bipush 112, 2) := by decide +kernel
theorem dX7_commandKind_8 : decode cX7_commandKind 8 = .ok (.bipush 101, 2) := by decide +kernel
theorem dX7_commandKind_10 : decode cX7_commandKind 10 = .ok (.bipush 110, 2) := by decide +kernel
theorem dX7_commandKind_12 : decode cX7_commandKind 12 = .ok (.bipush 32, 2) := by decide +kernel
theorem dX7_commandKind_14 : decode cX7_commandKind 14 = .ok (.invokestatic 219, 3) := by decide +kernel
theorem dX7_commandKind_17 : decode cX7_commandKind 17 = .ok (.if_icmp .ne 5, 3) := by decide +kernel
theorem dX7_commandKind_20 : decode cX7_commandKind 20 = .ok (.iconst 0, 1) := by decide +kernel
theorem dX7_commandKind_21 : decode cX7_commandKind 21 = .ok (.ireturn, 1) := by decide +kernel
theorem dX7_commandKind_22 : decode cX7_commandKind 22 = .ok (.aload_n 0, 1) := by decide +kernel
theorem dX7_commandKind_23 : decode cX7_commandKind 23 = .ok (.getfield 210, 3) := by decide +kernel
theorem dX7_commandKind_26 : decode cX7_commandKind 26 = .ok (.bipush 115, 2) := by decide +kernel
theorem dX7_commandKind_28 : decode cX7_commandKind 28 = .ok (.bipush 104, 2) := by decide +kernel
theorem dX7_commandKind_30 : decode cX7_commandKind 30 = .ok (.bipush 111, 2) := by decide +kernel
theorem dX7_commandKind_32 : decode cX7_commandKind 32 = .ok (.bipush 114, 2) := by decide +kernel
theorem dX7_commandKind_34 : decode cX7_commandKind 34 = .ok (.bipush 116, 2) := by decide +kernel
theorem dX7_commandKind_36 : decode cX7_commandKind 36 = .ok (.invokestatic 219, 3) := by decide +kernel
theorem dX7_commandKind_39 : decode cX7_commandKind 39 = .ok (.if_icmp .ne 5, 3) := by decide +kernel
theorem dX7_commandKind_42 : decode cX7_commandKind 42 = .ok (.iconst 1, 1) := by decide +kernel
theorem dX7_commandKind_43 : decode cX7_commandKind 43 = .ok (.ireturn, 1) := by decide +kernel
theorem dX7_commandKind_44 : decode cX7_commandKind 44 = .ok (.aload_n 0, 1) := by decide +kernel
theorem dX7_commandKind_45 : decode cX7_commandKind 45 = .ok (.getfield 210, 3) := by decide +kernel
theorem dX7_commandKind_48 : decode cX7_commandKind 48 = .ok (.bipush 108, 2) := by decide +kernel
theorem dX7_commandKind_50 : decode cX7_commandKind 50 = .ok (.bipush 111, 2) := by decide +kernel
theorem dX7_commandKind_52 : decode cX7_commandKind 52 = .ok (.bipush 119, 2) := by decide +kernel
theorem dX7_commandKind_54 : decode cX7_commandKind 54 = .ok (.bipush 32, 2) := by decide +kernel
theorem dX7_commandKind_56 : decode cX7_commandKind 56 = .ok (.bipush 32, 2) := by decide +kernel
theorem dX7_commandKind_58 : decode cX7_commandKind 58 = .ok (.invokestatic 219, 3) := by decide +kernel
theorem dX7_commandKind_61 : decode cX7_commandKind 61 = .ok (.if_icmp .ne 5, 3) := by decide +kernel
theorem dX7_commandKind_64 : decode cX7_commandKind 64 = .ok (.iconst 2, 1) := by decide +kernel
theorem dX7_commandKind_65 : decode cX7_commandKind 65 = .ok (.ireturn, 1) := by decide +kernel
theorem dX7_commandKind_66 : decode cX7_commandKind 66 = .ok (.aload_n 0, 1) := by decide +kernel
theorem dX7_commandKind_67 : decode cX7_commandKind 67 = .ok (.getfield 210, 3) := by decide +kernel
theorem dX7_commandKind_70 : decode cX7_commandKind 70 = .ok (.bipush 104, 2) := by decide +kernel
theorem dX7_commandKind_72 : decode cX7_commandKind 72 = .ok (.bipush 105, 2) := by decide +kernel
theorem dX7_commandKind_74 : decode cX7_commandKind 74 = .ok (.bipush 103, 2) := by decide +kernel
theorem dX7_commandKind_76 : decode cX7_commandKind 76 = .ok (.bipush 104, 2) := by decide +kernel
theorem dX7_commandKind_78 : decode cX7_commandKind 78 = .ok (.bipush 32, 2) := by decide +kernel
theorem dX7_commandKind_80 : decode cX7_commandKind 80 = .ok (.invokestatic 219, 3) := by decide +kernel
theorem dX7_commandKind_83 : decode cX7_commandKind 83 = .ok (.if_icmp .ne 5, 3) := by decide +kernel
theorem dX7_commandKind_86 : decode cX7_commandKind 86 = .ok (.iconst 3, 1) := by decide +kernel
theorem dX7_commandKind_87 : decode cX7_commandKind 87 = .ok (.ireturn, 1) := by decide +kernel
theorem dX7_commandKind_88 : decode cX7_commandKind 88 = .ok (.aload_n 0, 1) := by decide +kernel
theorem dX7_commandKind_89 : decode cX7_commandKind 89 = .ok (.getfield 210, 3) := by decide +kernel
theorem dX7_commandKind_92 : decode cX7_commandKind 92 = .ok (.bipush 100, 2) := by decide +kernel
theorem dX7_commandKind_94 : decode cX7_commandKind 94 = .ok (.bipush 101, 2) := by decide +kernel
theorem dX7_commandKind_96 : decode cX7_commandKind 96 = .ok (.bipush 97, 2) := by decide +kernel
theorem dX7_commandKind_98 : decode cX7_commandKind 98 = .ok (.bipush 100, 2) := by decide +kernel
theorem dX7_commandKind_100 : decode cX7_commandKind 100 = .ok (.bipush 32, 2) := by decide +kernel
theorem dX7_commandKind_102 : decode cX7_commandKind 102 = .ok (.invokestatic 219, 3) := by decide +kernel
theorem dX7_commandKind_105 : decode cX7_commandKind 105 = .ok (.if_icmp .ne 5, 3) := by decide +kernel
theorem dX7_commandKind_108 : decode cX7_commandKind 108 = .ok (.iconst 4, 1) := by decide +kernel
theorem dX7_commandKind_109 : decode cX7_commandKind 109 = .ok (.ireturn, 1) := by decide +kernel
theorem dX7_commandKind_110 : decode cX7_commandKind 110 = .ok (.aload_n 0, 1) := by decide +kernel
theorem dX7_commandKind_111 : decode cX7_commandKind 111 = .ok (.getfield 210, 3) := by decide +kernel
theorem dX7_commandKind_114 : decode cX7_commandKind 114 = .ok (.bipush 110, 2) := by decide +kernel
theorem dX7_commandKind_116 : decode cX7_commandKind 116 = .ok (.bipush 101, 2) := by decide +kernel
theorem dX7_commandKind_118 : decode cX7_commandKind 118 = .ok (.bipush 116, 2) := by decide +kernel
theorem dX7_commandKind_120 : decode cX7_commandKind 120 = .ok (.bipush 32, 2) := by decide +kernel
theorem dX7_commandKind_122 : decode cX7_commandKind 122 = .ok (.bipush 32, 2) := by decide +kernel
theorem dX7_commandKind_124 : decode cX7_commandKind 124 = .ok (.invokestatic 219, 3) := by decide +kernel
theorem dX7_commandKind_127 : decode cX7_commandKind 127 = .ok (.if_icmp .ne 5, 3) := by decide +kernel
theorem dX7_commandKind_130 : decode cX7_commandKind 130 = .ok (.iconst 5, 1) := by decide +kernel
theorem dX7_commandKind_131 : decode cX7_commandKind 131 = .ok (.ireturn, 1) := by decide +kernel
theorem dX7_commandKind_132 : decode cX7_commandKind 132 = .ok (.aload_n 0, 1) := by decide +kernel
theorem dX7_commandKind_133 : decode cX7_commandKind 133 = .ok (.getfield 210, 3) := by decide +kernel
theorem dX7_commandKind_136 : decode cX7_commandKind 136 = .ok (.bipush 99, 2) := by decide +kernel
theorem dX7_commandKind_138 : decode cX7_commandKind 138 = .ok (.bipush 104, 2) := by decide +kernel
theorem dX7_commandKind_140 : decode cX7_commandKind 140 = .ok (.bipush 105, 2) := by decide +kernel
theorem dX7_commandKind_142 : decode cX7_commandKind 142 = .ok (.bipush 112, 2) := by decide +kernel
theorem dX7_commandKind_144 : decode cX7_commandKind 144 = .ok (.bipush 32, 2) := by decide +kernel
theorem dX7_commandKind_146 : decode cX7_commandKind 146 = .ok (.invokestatic 219, 3) := by decide +kernel
theorem dX7_commandKind_149 : decode cX7_commandKind 149 = .ok (.if_icmp .ne 6, 3) := by decide +kernel
theorem dX7_commandKind_152 : decode cX7_commandKind 152 = .ok (.bipush 6, 2) := by decide +kernel
theorem dX7_commandKind_154 : decode cX7_commandKind 154 = .ok (.ireturn, 1) := by decide +kernel
theorem dX7_commandKind_155 : decode cX7_commandKind 155 = .ok (.aload_n 0, 1) := by decide +kernel
theorem dX7_commandKind_156 : decode cX7_commandKind 156 = .ok (.getfield 210, 3) := by decide +kernel
theorem dX7_commandKind_159 : decode cX7_commandKind 159 = .ok (.bipush 98, 2) := by decide +kernel
theorem dX7_commandKind_161 : decode cX7_commandKind 161 = .ok (.bipush 108, 2) := by decide +kernel
theorem dX7_commandKind_163 : decode cX7_commandKind 163 = .ok (.bipush 101, 2) := by decide +kernel
theorem dX7_commandKind_165 : decode cX7_commandKind 165 = .ok (.bipush 115, 2) := by decide +kernel
theorem dX7_commandKind_167 : decode cX7_commandKind 167 = .ok (.bipush 115, 2) := by decide +kernel
theorem dX7_commandKind_169 : decode cX7_commandKind 169 = .ok (.invokestatic 219, 3) := by decide +kernel
theorem dX7_commandKind_172 : decode cX7_commandKind 172 = .ok (.if_icmp .ne 8, 3) := by decide +kernel
theorem dX7_commandKind_175 : decode cX7_commandKind 175 = .ok (.bipush 7, 2) := by decide +kernel
theorem dX7_commandKind_177 : decode cX7_commandKind 177 = .ok (.goto 4, 3) := by decide +kernel
theorem dX7_commandKind_180 : decode cX7_commandKind 180 = .ok (.iconst (-1), 1) := by decide +kernel
theorem dX7_commandKind_181 : decode cX7_commandKind 181 = .ok (.ireturn, 1) := by decide +kernel
theorem dX7_areUnlike_0 : decode cX7_areUnlike 0 = .ok (.iload_n 1, 1) := by decide +kernel
theorem dX7_areUnlike_1 : decode cX7_areUnlike 1 = .ok (.istore_n 2, 1) := by decide +kernel
theorem dX7_areUnlike_2 : decode cX7_areUnlike 2 = .ok (.iload_n 2, 1) := by decide +kernel
theorem dX7_areUnlike_3 : decode cX7_areUnlike 3 = .ok (.aload_n 0, 1) := by decide +kernel
theorem dX7_areUnlike_4 : decode cX7_areUnlike 4 = .ok (.getfield 204, 3) := by decide +kernel
theorem dX7_areUnlike_7 : decode cX7_areUnlike 7 = .ok (.if_icmp .ge 44, 3) := by decide +kernel
theorem dX7_areUnlike_10 : decode cX7_areUnlike 10 = .ok (.iload_n 2, 1) := by decide +kernel
theorem dX7_areUnlike_11 : decode cX7_areUnlike 11 = .ok (.iconst 1, 1) := by decide +kernel
theorem dX7_areUnlike_12 : decode cX7_areUnlike 12 = .ok (.iadd, 1) := by decide +kernel
theorem dX7_areUnlike_13 : decode cX7_areUnlike 13 = .ok (.istore_n 3, 1) := by decide +kernel
theorem dX7_areUnlike_14 : decode cX7_areUnlike 14 = .ok (.iload_n 3, 1) := by decide +kernel
theorem dX7_areUnlike_15 : decode cX7_areUnlike 15 = .ok (.aload_n 0, 1) := by decide +kernel
theorem dX7_areUnlike_16 : decode cX7_areUnlike 16 = .ok (.getfield 204, 3) := by decide +kernel
theorem dX7_areUnlike_19 : decode cX7_areUnlike 19 = .ok (.if_icmp .ge 26, 3) := by decide +kernel
theorem dX7_areUnlike_22 : decode cX7_areUnlike 22 = .ok (.aload_n 0, 1) := by decide +kernel
theorem dX7_areUnlike_23 : decode cX7_areUnlike 23 = .ok (.getfield 28, 3) := by decide +kernel
theorem dX7_areUnlike_26 : decode cX7_areUnlike 26 = .ok (.iload_n 2, 1) := by decide +kernel
theorem dX7_areUnlike_27 : decode cX7_areUnlike 27 = .ok (.iaload, 1) := by decide +kernel
theorem dX7_areUnlike_28 : decode cX7_areUnlike 28 = .ok (.aload_n 0, 1) := by decide +kernel
theorem dX7_areUnlike_29 : decode cX7_areUnlike 29 = .ok (.getfield 28, 3) := by decide +kernel
theorem dX7_areUnlike_32 : decode cX7_areUnlike 32 = .ok (.iload_n 3, 1) := by decide +kernel
theorem dX7_areUnlike_33 : decode cX7_areUnlike 33 = .ok (.iaload, 1) := by decide +kernel
theorem dX7_areUnlike_34 : decode cX7_areUnlike 34 = .ok (.if_icmp .ne 5, 3) := by decide +kernel
theorem dX7_areUnlike_37 : decode cX7_areUnlike 37 = .ok (.iconst 0, 1) := by decide +kernel
theorem dX7_areUnlike_38 : decode cX7_areUnlike 38 = .ok (.ireturn, 1) := by decide +kernel
theorem dX7_areUnlike_39 : decode cX7_areUnlike 39 = .ok (.iinc 3 1, 3) := by decide +kernel
theorem dX7_areUnlike_42 : decode cX7_areUnlike 42 = .ok (.goto (-28), 3) := by decide +kernel
theorem dX7_areUnlike_45 : decode cX7_areUnlike 45 = .ok (.iinc 2 1, 3) := by decide +kernel
theorem dX7_areUnlike_48 : decode cX7_areUnlike 48 = .ok (.goto (-46), 3) := by decide +kernel
theorem dX7_areUnlike_51 : decode cX7_areUnlike 51 = .ok (.iconst 1, 1) := by decide +kernel
theorem dX7_areUnlike_52 : decode cX7_areUnlike 52 = .ok (.ireturn, 1) := by decide +kernel
theorem dX7_isOfForm_0 : decode cX7_isOfForm 0 = .ok (.iload_n 1, 1) := by decide +kernel
theorem dX7_isOfForm_1 : decode cX7_isOfForm 1 = .ok (.tableswitch 145 1 7 #[43, 145, 145, 145, 65, 91, 118], 43) := by decide +kernel
theorem dX7_isOfForm_44 : decode cX7_isOfForm 44 = .ok (.aload_n 0, 1) := by decide +kernel
theorem dX7_isOfForm_45 : decode cX7_isOfForm 45 = .ok (.getfield 204, 3) := by decide +kernel
theorem dX7_isOfForm_48 : decode cX7_isOfForm 48 = .ok (.iconst 2, 1) := by decide +kernel
theorem dX7_isOfForm_49 : decode cX7_isOfForm 49 = .ok (.if_icmp .ne 15, 3) := by decide +kernel
theorem dX7_isOfForm_52 : decode cX7_isOfForm 52 = .ok (.aload_n 0, 1) := by decide +kernel
theorem dX7_isOfForm_53 : decode cX7_isOfForm 53 = .ok (.iconst 0, 1) := by decide +kernel
theorem dX7_isOfForm_54 : decode cX7_isOfForm 54 = .ok (.invokevirtual 223, 3) := by decide +kernel
theorem dX7_isOfForm_57 : decode cX7_isOfForm 57 = .ok (.ifCond .eq 7, 3) := by decide +kernel
theorem dX7_isOfForm_60 : decode cX7_isOfForm 60 = .ok (.iconst 1, 1) := by decide +kernel
theorem dX7_isOfForm_61 : decode cX7_isOfForm 61 = .ok (.goto 4, 3) := by decide +kernel
theorem dX7_isOfForm_64 : decode cX7_isOfForm 64 = .ok (.iconst 0, 1) := by decide +kernel
theorem dX7_isOfForm_65 : decode cX7_isOfForm 65 = .ok (.ireturn, 1) := by decide +kernel
theorem dX7_isOfForm_66 : decode cX7_isOfForm 66 = .ok (.aload_n 0, 1) := by decide +kernel
theorem dX7_isOfForm_67 : decode cX7_isOfForm 67 = .ok (.getfield 204, 3) := by decide +kernel
theorem dX7_isOfForm_70 : decode cX7_isOfForm 70 = .ok (.iconst 2, 1) := by decide +kernel
theorem dX7_isOfForm_71 : decode cX7_isOfForm 71 = .ok (.iconst 5, 1) := by decide +kernel
theorem dX7_isOfForm_72 : decode cX7_isOfForm 72 = .ok (.invokestatic 45, 3) := by decide +kernel
theorem dX7_isOfForm_75 : decode cX7_isOfForm 75 = .ok (.ifCond .eq 15, 3) := by decide +kernel
theorem dX7_isOfForm_78 : decode cX7_isOfForm 78 = .ok (.aload_n 0, 1) := by decide +kernel
theorem dX7_isOfForm_79 : decode cX7_isOfForm 79 = .ok (.iconst 0, 1) := by decide +kernel
theorem dX7_isOfForm_80 : decode cX7_isOfForm 80 = .ok (.invokevirtual 223, 3) := by decide +kernel
theorem dX7_isOfForm_83 : decode cX7_isOfForm 83 = .ok (.ifCond .eq 7, 3) := by decide +kernel
theorem dX7_isOfForm_86 : decode cX7_isOfForm 86 = .ok (.iconst 1, 1) := by decide +kernel
theorem dX7_isOfForm_87 : decode cX7_isOfForm 87 = .ok (.goto 4, 3) := by decide +kernel
theorem dX7_isOfForm_90 : decode cX7_isOfForm 90 = .ok (.iconst 0, 1) := by decide +kernel
theorem dX7_isOfForm_91 : decode cX7_isOfForm 91 = .ok (.ireturn, 1) := by decide +kernel
theorem dX7_isOfForm_92 : decode cX7_isOfForm 92 = .ok (.aload_n 0, 1) := by decide +kernel
theorem dX7_isOfForm_93 : decode cX7_isOfForm 93 = .ok (.getfield 204, 3) := by decide +kernel
theorem dX7_isOfForm_96 : decode cX7_isOfForm 96 = .ok (.iconst 2, 1) := by decide +kernel
theorem dX7_isOfForm_97 : decode cX7_isOfForm 97 = .ok (.bipush 7, 2) := by decide +kernel
theorem dX7_isOfForm_99 : decode cX7_isOfForm 99 = .ok (.invokestatic 45, 3) := by decide +kernel
theorem dX7_isOfForm_102 : decode cX7_isOfForm 102 = .ok (.ifCond .eq 15, 3) := by decide +kernel
theorem dX7_isOfForm_105 : decode cX7_isOfForm 105 = .ok (.aload_n 0, 1) := by decide +kernel
theorem dX7_isOfForm_106 : decode cX7_isOfForm 106 = .ok (.iconst 0, 1) := by decide +kernel
theorem dX7_isOfForm_107 : decode cX7_isOfForm 107 = .ok (.invokevirtual 223, 3) := by decide +kernel
theorem dX7_isOfForm_110 : decode cX7_isOfForm 110 = .ok (.ifCond .eq 7, 3) := by decide +kernel
theorem dX7_isOfForm_113 : decode cX7_isOfForm 113 = .ok (.iconst 1, 1) := by decide +kernel
theorem dX7_isOfForm_114 : decode cX7_isOfForm 114 = .ok (.goto 4, 3) := by decide +kernel
theorem dX7_isOfForm_117 : decode cX7_isOfForm 117 = .ok (.iconst 0, 1) := by decide +kernel
theorem dX7_isOfForm_118 : decode cX7_isOfForm 118 = .ok (.ireturn, 1) := by decide +kernel
theorem dX7_isOfForm_119 : decode cX7_isOfForm 119 = .ok (.aload_n 0, 1) := by decide +kernel
theorem dX7_isOfForm_120 : decode cX7_isOfForm 120 = .ok (.getfield 204, 3) := by decide +kernel
theorem dX7_isOfForm_123 : decode cX7_isOfForm 123 = .ok (.iconst 1, 1) := by decide +kernel
theorem dX7_isOfForm_124 : decode cX7_isOfForm 124 = .ok (.bipush 8, 2) := by decide +kernel
theorem dX7_isOfForm_126 : decode cX7_isOfForm 126 = .ok (.invokestatic 45, 3) := by decide +kernel
theorem dX7_isOfForm_129 : decode cX7_isOfForm 129 = .ok (.ifCond .eq 15, 3) := by decide +kernel
theorem dX7_isOfForm_132 : decode cX7_isOfForm 132 = .ok (.aload_n 0, 1) := by decide +kernel
theorem dX7_isOfForm_133 : decode cX7_isOfForm 133 = .ok (.iconst 1, 1) := by decide +kernel
theorem dX7_isOfForm_134 : decode cX7_isOfForm 134 = .ok (.invokevirtual 223, 3) := by decide +kernel
theorem dX7_isOfForm_137 : decode cX7_isOfForm 137 = .ok (.ifCond .eq 7, 3) := by decide +kernel
theorem dX7_isOfForm_140 : decode cX7_isOfForm 140 = .ok (.iconst 1, 1) := by decide +kernel
theorem dX7_isOfForm_141 : decode cX7_isOfForm 141 = .ok (.goto 4, 3) := by decide +kernel
theorem dX7_isOfForm_144 : decode cX7_isOfForm 144 = .ok (.iconst 0, 1) := by decide +kernel
theorem dX7_isOfForm_145 : decode cX7_isOfForm 145 = .ok (.ireturn, 1) := by decide +kernel
theorem dX7_isOfForm_146 : decode cX7_isOfForm 146 = .ok (.iload_n 1, 1) := by decide +kernel
theorem dX7_isOfForm_147 : decode cX7_isOfForm 147 = .ok (.iconst (-1), 1) := by decide +kernel
theorem dX7_isOfForm_148 : decode cX7_isOfForm 148 = .ok (.if_icmp .eq 15, 3) := by decide +kernel
theorem dX7_isOfForm_151 : decode cX7_isOfForm 151 = .ok (.aload_n 0, 1) := by decide +kernel
theorem dX7_isOfForm_152 : decode cX7_isOfForm 152 = .ok (.getfield 204, 3) := by decide +kernel
theorem dX7_isOfForm_155 : decode cX7_isOfForm 155 = .ok (.iconst 1, 1) := by decide +kernel
theorem dX7_isOfForm_156 : decode cX7_isOfForm 156 = .ok (.if_icmp .ne 7, 3) := by decide +kernel
theorem dX7_isOfForm_159 : decode cX7_isOfForm 159 = .ok (.iconst 1, 1) := by decide +kernel
theorem dX7_isOfForm_160 : decode cX7_isOfForm 160 = .ok (.goto 4, 3) := by decide +kernel
theorem dX7_isOfForm_163 : decode cX7_isOfForm 163 = .ok (.iconst 0, 1) := by decide +kernel
theorem dX7_isOfForm_164 : decode cX7_isOfForm 164 = .ok (.ireturn, 1) := by decide +kernel
theorem dX7_areThere_0 : decode cX7_areThere 0 = .ok (.iload_n 1, 1) := by decide +kernel
theorem dX7_areThere_1 : decode cX7_areThere 1 = .ok (.iconst 5, 1) := by decide +kernel
theorem dX7_areThere_2 : decode cX7_areThere 2 = .ok (.if_icmp .ge 11, 3) := by decide +kernel
theorem dX7_areThere_5 : decode cX7_areThere 5 = .ok (.aload_n 0, 1) := by decide +kernel
theorem dX7_areThere_6 : decode cX7_areThere 6 = .ok (.iload_n 1, 1) := by decide +kernel
theorem dX7_areThere_7 : decode cX7_areThere 7 = .ok (.invokevirtual 77, 3) := by decide +kernel
theorem dX7_areThere_10 : decode cX7_areThere 10 = .ok (.goto 5, 3) := by decide +kernel
theorem dX7_areThere_13 : decode cX7_areThere 13 = .ok (.bipush 16, 2) := by decide +kernel
theorem dX7_areThere_15 : decode cX7_areThere 15 = .ok (.istore_n 2, 1) := by decide +kernel
theorem dX7_areThere_16 : decode cX7_areThere 16 = .ok (.iconst 1, 1) := by decide +kernel
theorem dX7_areThere_17 : decode cX7_areThere 17 = .ok (.istore_n 3, 1) := by decide +kernel
theorem dX7_areThere_18 : decode cX7_areThere 18 = .ok (.iconst 0, 1) := by decide +kernel
theorem dX7_areThere_19 : decode cX7_areThere 19 = .ok (.istore 4, 2) := by decide +kernel
theorem dX7_areThere_21 : decode cX7_areThere 21 = .ok (.iload 4, 2) := by decide +kernel
theorem dX7_areThere_23 : decode cX7_areThere 23 = .ok (.aload_n 0, 1) := by decide +kernel
theorem dX7_areThere_24 : decode cX7_areThere 24 = .ok (.getfield 204, 3) := by decide +kernel
theorem dX7_areThere_27 : decode cX7_areThere 27 = .ok (.if_icmp .ge 46, 3) := by decide +kernel
theorem dX7_areThere_30 : decode cX7_areThere 30 = .ok (.iload_n 3, 1) := by decide +kernel
theorem dX7_areThere_31 : decode cX7_areThere 31 = .ok (.ifCond .eq 34, 3) := by decide +kernel
theorem dX7_areThere_34 : decode cX7_areThere 34 = .ok (.aload_n 0, 1) := by decide +kernel
theorem dX7_areThere_35 : decode cX7_areThere 35 = .ok (.getfield 28, 3) := by decide +kernel
theorem dX7_areThere_38 : decode cX7_areThere 38 = .ok (.iload 4, 2) := by decide +kernel
theorem dX7_areThere_40 : decode cX7_areThere 40 = .ok (.iaload, 1) := by decide +kernel
theorem dX7_areThere_41 : decode cX7_areThere 41 = .ok (.iload_n 1, 1) := by decide +kernel
theorem dX7_areThere_42 : decode cX7_areThere 42 = .ok (.bipush 7, 2) := by decide +kernel
theorem dX7_areThere_44 : decode cX7_areThere 44 = .ok (.if_icmp .ne 13, 3) := by decide +kernel
theorem dX7_areThere_47 : decode cX7_areThere 47 = .ok (.iload 4, 2) := by decide +kernel
theorem dX7_areThere_49 : decode cX7_areThere 49 = .ok (.ifCond .le 8, 3) := by decide +kernel
theorem dX7_areThere_52 : decode cX7_areThere 52 = .ok (.bipush 7, 2) := by decide +kernel
theorem dX7_areThere_54 : decode cX7_areThere 54 = .ok (.goto 4, 3) := by decide +kernel
theorem dX7_areThere_57 : decode cX7_areThere 57 = .ok (.iload_n 2, 1) := by decide +kernel
theorem dX7_areThere_58 : decode cX7_areThere 58 = .ok (.if_icmp .ge 7, 3) := by decide +kernel
theorem dX7_areThere_61 : decode cX7_areThere 61 = .ok (.iconst 1, 1) := by decide +kernel
theorem dX7_areThere_62 : decode cX7_areThere 62 = .ok (.goto 4, 3) := by decide +kernel
theorem dX7_areThere_65 : decode cX7_areThere 65 = .ok (.iconst 0, 1) := by decide +kernel
theorem dX7_areThere_66 : decode cX7_areThere 66 = .ok (.istore_n 3, 1) := by decide +kernel
theorem dX7_areThere_67 : decode cX7_areThere 67 = .ok (.iinc 4 1, 3) := by decide +kernel
theorem dX7_areThere_70 : decode cX7_areThere 70 = .ok (.goto (-49), 3) := by decide +kernel
theorem dX7_areThere_73 : decode cX7_areThere 73 = .ok (.iload_n 3, 1) := by decide +kernel
theorem dX7_areThere_74 : decode cX7_areThere 74 = .ok (.ireturn, 1) := by decide +kernel
theorem dX7_numberSet_0 : decode cX7_numberSet 0 = .ok (.iconst 0, 1) := by decide +kernel
theorem dX7_numberSet_1 : decode cX7_numberSet 1 = .ok (.istore_n 2, 1) := by decide +kernel
theorem dX7_numberSet_2 : decode cX7_numberSet 2 = .ok (.iload_n 1, 1) := by decide +kernel
theorem dX7_numberSet_3 : decode cX7_numberSet 3 = .ok (.istore_n 3, 1) := by decide +kernel
theorem dX7_numberSet_4 : decode cX7_numberSet 4 = .ok (.iload_n 3, 1) := by decide +kernel
theorem dX7_numberSet_5 : decode cX7_numberSet 5 = .ok (.aload_n 0, 1) := by decide +kernel
theorem dX7_numberSet_6 : decode cX7_numberSet 6 = .ok (.getfield 204, 3) := by decide +kernel
theorem dX7_numberSet_9 : decode cX7_numberSet 9 = .ok (.if_icmp .ge 20, 3) := by decide +kernel
theorem dX7_numberSet_12 : decode cX7_numberSet 12 = .ok (.iload_n 2, 1) := by decide +kernel
theorem dX7_numberSet_13 : decode cX7_numberSet 13 = .ok (.iconst 1, 1) := by decide +kernel
theorem dX7_numberSet_14 : decode cX7_numberSet 14 = .ok (.aload_n 0, 1) := by decide +kernel
theorem dX7_numberSet_15 : decode cX7_numberSet 15 = .ok (.getfield 28, 3) := by decide +kernel
theorem dX7_numberSet_18 : decode cX7_numberSet 18 = .ok (.iload_n 3, 1) := by decide +kernel
theorem dX7_numberSet_19 : decode cX7_numberSet 19 = .ok (.iaload, 1) := by decide +kernel
theorem dX7_numberSet_20 : decode cX7_numberSet 20 = .ok (.ishl, 1) := by decide +kernel
theorem dX7_numberSet_21 : decode cX7_numberSet 21 = .ok (.ior, 1) := by decide +kernel
theorem dX7_numberSet_22 : decode cX7_numberSet 22 = .ok (.istore_n 2, 1) := by decide +kernel
theorem dX7_numberSet_23 : decode cX7_numberSet 23 = .ok (.iinc 3 1, 3) := by decide +kernel
theorem dX7_numberSet_26 : decode cX7_numberSet 26 = .ok (.goto (-22), 3) := by decide +kernel
theorem dX7_numberSet_29 : decode cX7_numberSet 29 = .ok (.iload_n 2, 1) := by decide +kernel
theorem dX7_numberSet_30 : decode cX7_numberSet 30 = .ok (.ireturn, 1) := by decide +kernel
theorem dX7_does_0 : decode cX7_does 0 = .ok (.iload_n 1, 1) := by decide +kernel
theorem dX7_does_1 : decode cX7_does 1 = .ok (.bipush 7, 2) := by decide +kernel
theorem dX7_does_3 : decode cX7_does 3 = .ok (.if_icmp .ne 24, 3) := by decide +kernel
theorem dX7_does_6 : decode cX7_does 6 = .ok (.aload_n 0, 1) := by decide +kernel
theorem dX7_does_7 : decode cX7_does 7 = .ok (.getfield 7, 3) := by decide +kernel
theorem dX7_does_10 : decode cX7_does 10 = .ok (.bipush 72, 2) := by decide +kernel
theorem dX7_does_12 : decode cX7_does 12 = .ok (.aload_n 0, 1) := by decide +kernel
theorem dX7_does_13 : decode cX7_does 13 = .ok (.getfield 28, 3) := by decide +kernel
theorem dX7_does_16 : decode cX7_does 16 = .ok (.iconst 0, 1) := by decide +kernel
theorem dX7_does_17 : decode cX7_does 17 = .ok (.iaload, 1) := by decide +kernel
theorem dX7_does_18 : decode cX7_does 18 = .ok (.iadd, 1) := by decide +kernel
theorem dX7_does_19 : decode cX7_does 19 = .ok (.aload_n 0, 1) := by decide +kernel
theorem dX7_does_20 : decode cX7_does 20 = .ok (.iconst 1, 1) := by decide +kernel
theorem dX7_does_21 : decode cX7_does 21 = .ok (.invokevirtual 226, 3) := by decide +kernel
theorem dX7_does_24 : decode cX7_does 24 = .ok (.iastore, 1) := by decide +kernel
theorem dX7_does_25 : decode cX7_does 25 = .ok (.iconst 0, 1) := by decide +kernel
theorem dX7_does_26 : decode cX7_does 26 = .ok (.ireturn, 1) := by decide +kernel
theorem dX7_does_27 : decode cX7_does 27 = .ok (.iload_n 1, 1) := by decide +kernel
theorem dX7_does_28 : decode cX7_does 28 = .ok (.iconst 5, 1) := by decide +kernel
theorem dX7_does_29 : decode cX7_does 29 = .ok (.if_icmp .ne 31, 3) := by decide +kernel
theorem dX7_does_32 : decode cX7_does 32 = .ok (.aload_n 0, 1) := by decide +kernel
theorem dX7_does_33 : decode cX7_does 33 = .ok (.aload_n 0, 1) := by decide +kernel
theorem dX7_does_34 : decode cX7_does 34 = .ok (.iconst 0, 1) := by decide +kernel
theorem dX7_does_35 : decode cX7_does 35 = .ok (.invokevirtual 226, 3) := by decide +kernel
theorem dX7_does_38 : decode cX7_does 38 = .ok (.invokevirtual 58, 3) := by decide +kernel
theorem dX7_does_41 : decode cX7_does 41 = .ok (.istore_n 2, 1) := by decide +kernel
theorem dX7_does_42 : decode cX7_does 42 = .ok (.iload_n 2, 1) := by decide +kernel
theorem dX7_does_43 : decode cX7_does 43 = .ok (.ifCond .eq 7, 3) := by decide +kernel
theorem dX7_does_46 : decode cX7_does 46 = .ok (.iload_n 2, 1) := by decide +kernel
theorem dX7_does_47 : decode cX7_does 47 = .ok (.goto 12, 3) := by decide +kernel
theorem dX7_does_50 : decode cX7_does 50 = .ok (.aload_n 0, 1) := by decide +kernel
theorem dX7_does_51 : decode cX7_does 51 = .ok (.aload_n 0, 1) := by decide +kernel
theorem dX7_does_52 : decode cX7_does 52 = .ok (.iconst 0, 1) := by decide +kernel
theorem dX7_does_53 : decode cX7_does 53 = .ok (.invokevirtual 226, 3) := by decide +kernel
theorem dX7_does_56 : decode cX7_does 56 = .ok (.invokevirtual 64, 3) := by decide +kernel
theorem dX7_does_59 : decode cX7_does 59 = .ok (.ireturn, 1) := by decide +kernel
theorem dX7_does_60 : decode cX7_does 60 = .ok (.iload_n 1, 1) := by decide +kernel
theorem dX7_does_61 : decode cX7_does 61 = .ok (.bipush 6, 2) := by decide +kernel
theorem dX7_does_63 : decode cX7_does 63 = .ok (.if_icmp .ne 55, 3) := by decide +kernel
theorem dX7_does_66 : decode cX7_does 66 = .ok (.aload_n 0, 1) := by decide +kernel
theorem dX7_does_67 : decode cX7_does 67 = .ok (.aload_n 0, 1) := by decide +kernel
theorem dX7_does_68 : decode cX7_does 68 = .ok (.getfield 28, 3) := by decide +kernel
theorem dX7_does_71 : decode cX7_does 71 = .ok (.iconst 0, 1) := by decide +kernel
theorem dX7_does_72 : decode cX7_does 72 = .ok (.iaload, 1) := by decide +kernel
theorem dX7_does_73 : decode cX7_does 73 = .ok (.aload_n 0, 1) := by decide +kernel
theorem dX7_does_74 : decode cX7_does 74 = .ok (.getfield 28, 3) := by decide +kernel
theorem dX7_does_77 : decode cX7_does 77 = .ok (.iconst 1, 1) := by decide +kernel
theorem dX7_does_78 : decode cX7_does 78 = .ok (.iaload, 1) := by decide +kernel
theorem dX7_does_79 : decode cX7_does 79 = .ok (.aload_n 0, 1) := by decide +kernel
theorem dX7_does_80 : decode cX7_does 80 = .ok (.iconst 2, 1) := by decide +kernel
theorem dX7_does_81 : decode cX7_does 81 = .ok (.invokevirtual 226, 3) := by decide +kernel
theorem dX7_does_84 : decode cX7_does 84 = .ok (.invokevirtual 70, 3) := by decide +kernel
theorem dX7_does_87 : decode cX7_does 87 = .ok (.istore_n 2, 1) := by decide +kernel
theorem dX7_does_88 : decode cX7_does 88 = .ok (.iload_n 2, 1) := by decide +kernel
theorem dX7_does_89 : decode cX7_does 89 = .ok (.ifCond .eq 7, 3) := by decide +kernel
theorem dX7_does_92 : decode cX7_does 92 = .ok (.iload_n 2, 1) := by decide +kernel
theorem dX7_does_93 : decode cX7_does 93 = .ok (.goto 24, 3) := by decide +kernel
theorem dX7_does_96 : decode cX7_does 96 = .ok (.aload_n 0, 1) := by decide +kernel
theorem dX7_does_97 : decode cX7_does 97 = .ok (.aload_n 0, 1) := by decide +kernel
theorem dX7_does_98 : decode cX7_does 98 = .ok (.getfield 28, 3) := by decide +kernel
theorem dX7_does_101 : decode cX7_does 101 = .ok (.iconst 0, 1) := by decide +kernel
theorem dX7_does_102 : decode cX7_does 102 = .ok (.iaload, 1) := by decide +kernel
theorem dX7_does_103 : decode cX7_does 103 = .ok (.aload_n 0, 1) := by decide +kernel
theorem dX7_does_104 : decode cX7_does 104 = .ok (.getfield 28, 3) := by decide +kernel
theorem dX7_does_107 : decode cX7_does 107 = .ok (.iconst 1, 1) := by decide +kernel
theorem dX7_does_108 : decode cX7_does 108 = .ok (.iaload, 1) := by decide +kernel
theorem dX7_does_109 : decode cX7_does 109 = .ok (.aload_n 0, 1) := by decide +kernel
theorem dX7_does_110 : decode cX7_does 110 = .ok (.iconst 2, 1) := by decide +kernel
theorem dX7_does_111 : decode cX7_does 111 = .ok (.invokevirtual 226, 3) := by decide +kernel
theorem dX7_does_114 : decode cX7_does 114 = .ok (.invokevirtual 74, 3) := by decide +kernel
theorem dX7_does_117 : decode cX7_does 117 = .ok (.ireturn, 1) := by decide +kernel
theorem dX7_does_118 : decode cX7_does 118 = .ok (.aload_n 0, 1) := by decide +kernel
theorem dX7_does_119 : decode cX7_does 119 = .ok (.getfield 28, 3) := by decide +kernel
theorem dX7_does_122 : decode cX7_does 122 = .ok (.iconst 0, 1) := by decide +kernel
theorem dX7_does_123 : decode cX7_does 123 = .ok (.iaload, 1) := by decide +kernel
theorem dX7_does_124 : decode cX7_does 124 = .ok (.istore_n 3, 1) := by decide +kernel
theorem dX7_does_125 : decode cX7_does 125 = .ok (.iconst 0, 1) := by decide +kernel
theorem dX7_does_126 : decode cX7_does 126 = .ok (.istore 4, 2) := by decide +kernel
theorem dX7_does_128 : decode cX7_does 128 = .ok (.iload_n 1, 1) := by decide +kernel
theorem dX7_does_129 : decode cX7_does 129 = .ok (.iconst 1, 1) := by decide +kernel
theorem dX7_does_130 : decode cX7_does 130 = .ok (.if_icmp .ne 66, 3) := by decide +kernel
theorem dX7_does_133 : decode cX7_does 133 = .ok (.aload_n 0, 1) := by decide +kernel
theorem dX7_does_134 : decode cX7_does 134 = .ok (.getfield 28, 3) := by decide +kernel
theorem dX7_does_137 : decode cX7_does 137 = .ok (.iconst 0, 1) := by decide +kernel
theorem dX7_does_138 : decode cX7_does 138 = .ok (.iaload, 1) := by decide +kernel
theorem dX7_does_139 : decode cX7_does 139 = .ok (.aload_n 0, 1) := by decide +kernel
theorem dX7_does_140 : decode cX7_does 140 = .ok (.getfield 28, 3) := by decide +kernel
theorem dX7_does_143 : decode cX7_does 143 = .ok (.iconst 1, 1) := by decide +kernel
theorem dX7_does_144 : decode cX7_does 144 = .ok (.iaload, 1) := by decide +kernel
theorem dX7_does_145 : decode cX7_does 145 = .ok (.if_icmp .ge 12, 3) := by decide +kernel
theorem dX7_does_148 : decode cX7_does 148 = .ok (.aload_n 0, 1) := by decide +kernel
theorem dX7_does_149 : decode cX7_does 149 = .ok (.getfield 28, 3) := by decide +kernel
theorem dX7_does_152 : decode cX7_does 152 = .ok (.iconst 1, 1) := by decide +kernel
theorem dX7_does_153 : decode cX7_does 153 = .ok (.iaload, 1) := by decide +kernel
theorem dX7_does_154 : decode cX7_does 154 = .ok (.goto 9, 3) := by decide +kernel
theorem dX7_does_157 : decode cX7_does 157 = .ok (.aload_n 0, 1) := by decide +kernel
theorem dX7_does_158 : decode cX7_does 158 = .ok (.getfield 28, 3) := by decide +kernel
theorem dX7_does_161 : decode cX7_does 161 = .ok (.iconst 0, 1) := by decide +kernel
theorem dX7_does_162 : decode cX7_does 162 = .ok (.iaload, 1) := by decide +kernel
theorem dX7_does_163 : decode cX7_does 163 = .ok (.istore 4, 2) := by decide +kernel
theorem dX7_does_165 : decode cX7_does 165 = .ok (.aload_n 0, 1) := by decide +kernel
theorem dX7_does_166 : decode cX7_does 166 = .ok (.getfield 28, 3) := by decide +kernel
theorem dX7_does_169 : decode cX7_does 169 = .ok (.iconst 0, 1) := by decide +kernel
theorem dX7_does_170 : decode cX7_does 170 = .ok (.iaload, 1) := by decide +kernel
theorem dX7_does_171 : decode cX7_does 171 = .ok (.aload_n 0, 1) := by decide +kernel
theorem dX7_does_172 : decode cX7_does 172 = .ok (.getfield 28, 3) := by decide +kernel
theorem dX7_does_175 : decode cX7_does 175 = .ok (.iconst 1, 1) := by decide +kernel
theorem dX7_does_176 : decode cX7_does 176 = .ok (.iaload, 1) := by decide +kernel
theorem dX7_does_177 : decode cX7_does 177 = .ok (.if_icmp .ge 12, 3) := by decide +kernel
theorem dX7_does_180 : decode cX7_does 180 = .ok (.aload_n 0, 1) := by decide +kernel
theorem dX7_does_181 : decode cX7_does 181 = .ok (.getfield 28, 3) := by decide +kernel
theorem dX7_does_184 : decode cX7_does 184 = .ok (.iconst 0, 1) := by decide +kernel
theorem dX7_does_185 : decode cX7_does 185 = .ok (.iaload, 1) := by decide +kernel
theorem dX7_does_186 : decode cX7_does 186 = .ok (.goto 9, 3) := by decide +kernel
theorem dX7_does_189 : decode cX7_does 189 = .ok (.aload_n 0, 1) := by decide +kernel
theorem dX7_does_190 : decode cX7_does 190 = .ok (.getfield 28, 3) := by decide +kernel
theorem dX7_does_193 : decode cX7_does 193 = .ok (.iconst 1, 1) := by decide +kernel
theorem dX7_does_194 : decode cX7_does 194 = .ok (.iaload, 1) := by decide +kernel
theorem dX7_does_195 : decode cX7_does 195 = .ok (.istore_n 3, 1) := by decide +kernel
theorem dX7_does_196 : decode cX7_does 196 = .ok (.aload_n 0, 1) := by decide +kernel
theorem dX7_does_197 : decode cX7_does 197 = .ok (.iload_n 1, 1) := by decide +kernel
theorem dX7_does_198 : decode cX7_does 198 = .ok (.iload_n 3, 1) := by decide +kernel
theorem dX7_does_199 : decode cX7_does 199 = .ok (.iload 4, 2) := by decide +kernel
theorem dX7_does_201 : decode cX7_does 201 = .ok (.invokevirtual 80, 3) := by decide +kernel
theorem dX7_does_204 : decode cX7_does 204 = .ok (.istore_n 2, 1) := by decide +kernel
theorem dX7_does_205 : decode cX7_does 205 = .ok (.iload_n 2, 1) := by decide +kernel
theorem dX7_does_206 : decode cX7_does 206 = .ok (.ifCond .eq 7, 3) := by decide +kernel
theorem dX7_does_209 : decode cX7_does 209 = .ok (.iload_n 2, 1) := by decide +kernel
theorem dX7_does_210 : decode cX7_does 210 = .ok (.goto 11, 3) := by decide +kernel
theorem dX7_does_213 : decode cX7_does 213 = .ok (.aload_n 0, 1) := by decide +kernel
theorem dX7_does_214 : decode cX7_does 214 = .ok (.iload_n 1, 1) := by decide +kernel
theorem dX7_does_215 : decode cX7_does 215 = .ok (.iload_n 3, 1) := by decide +kernel
theorem dX7_does_216 : decode cX7_does 216 = .ok (.iload 4, 2) := by decide +kernel
theorem dX7_does_218 : decode cX7_does 218 = .ok (.invokevirtual 83, 3) := by decide +kernel
theorem dX7_does_221 : decode cX7_does 221 = .ok (.ireturn, 1) := by decide +kernel
theorem dX7_reasonOf_0 : decode cX7_reasonOf 0 = .ok (.aload_n 0, 1) := by decide +kernel
theorem dX7_reasonOf_1 : decode cX7_reasonOf 1 = .ok (.invokevirtual 229, 3) := by decide +kernel
theorem dX7_reasonOf_4 : decode cX7_reasonOf 4 = .ok (.ifCond .ne 5, 3) := by decide +kernel
theorem dX7_reasonOf_7 : decode cX7_reasonOf 7 = .ok (.iconst 1, 1) := by decide +kernel
theorem dX7_reasonOf_8 : decode cX7_reasonOf 8 = .ok (.ireturn, 1) := by decide +kernel
theorem dX7_reasonOf_9 : decode cX7_reasonOf 9 = .ok (.aload_n 0, 1) := by decide +kernel
theorem dX7_reasonOf_10 : decode cX7_reasonOf 10 = .ok (.invokevirtual 232, 3) := by decide +kernel
theorem dX7_reasonOf_13 : decode cX7_reasonOf 13 = .ok (.istore_n 1, 1) := by decide +kernel
theorem dX7_reasonOf_14 : decode cX7_reasonOf 14 = .ok (.aload_n 0, 1) := by decide +kernel
theorem dX7_reasonOf_15 : decode cX7_reasonOf 15 = .ok (.iload_n 1, 1) := by decide +kernel
theorem dX7_reasonOf_16 : decode cX7_reasonOf 16 = .ok (.invokevirtual 235, 3) := by decide +kernel
theorem dX7_reasonOf_19 : decode cX7_reasonOf 19 = .ok (.ifCond .ne 5, 3) := by decide +kernel
theorem dX7_reasonOf_22 : decode cX7_reasonOf 22 = .ok (.iconst 1, 1) := by decide +kernel
theorem dX7_reasonOf_23 : decode cX7_reasonOf 23 = .ok (.ireturn, 1) := by decide +kernel
theorem dX7_reasonOf_24 : decode cX7_reasonOf 24 = .ok (.aload_n 0, 1) := by decide +kernel
theorem dX7_reasonOf_25 : decode cX7_reasonOf 25 = .ok (.iload_n 1, 1) := by decide +kernel
theorem dX7_reasonOf_26 : decode cX7_reasonOf 26 = .ok (.invokevirtual 238, 3) := by decide +kernel
theorem dX7_reasonOf_29 : decode cX7_reasonOf 29 = .ok (.ifCond .ne 5, 3) := by decide +kernel
theorem dX7_reasonOf_32 : decode cX7_reasonOf 32 = .ok (.iconst 2, 1) := by decide +kernel
theorem dX7_reasonOf_33 : decode cX7_reasonOf 33 = .ok (.ireturn, 1) := by decide +kernel
theorem dX7_reasonOf_34 : decode cX7_reasonOf 34 = .ok (.aload_n 0, 1) := by decide +kernel
theorem dX7_reasonOf_35 : decode cX7_reasonOf 35 = .ok (.iload_n 1, 1) := by decide +kernel
theorem dX7_reasonOf_36 : decode cX7_reasonOf 36 = .ok (.invokevirtual 241, 3) := by decide +kernel
theorem dX7_reasonOf_39 : decode cX7_reasonOf 39 = .ok (.ifCond .ge 7, 3) := by decide +kernel
theorem dX7_reasonOf_42 : decode cX7_reasonOf 42 = .ok (.iconst 3, 1) := by decide +kernel
theorem dX7_reasonOf_43 : decode cX7_reasonOf 43 = .ok (.goto 4, 3) := by decide +kernel
theorem dX7_reasonOf_46 : decode cX7_reasonOf 46 = .ok (.iconst 0, 1) := by decide +kernel
theorem dX7_reasonOf_47 : decode cX7_reasonOf 47 = .ok (.ireturn, 1) := by decide +kernel
theorem dX7_goesThrough_0 : decode cX7_goesThrough 0 = .ok (.aload_n 0, 1) := by decide +kernel
theorem dX7_goesThrough_1 : decode cX7_goesThrough 1 = .ok (.iconst 0, 1) := by decide +kernel
theorem dX7_goesThrough_2 : decode cX7_goesThrough 2 = .ok (.putfield 244, 3) := by decide +kernel
theorem dX7_goesThrough_5 : decode cX7_goesThrough 5 = .ok (.aload_n 0, 1) := by decide +kernel
theorem dX7_goesThrough_6 : decode cX7_goesThrough 6 = .ok (.iconst (-1), 1) := by decide +kernel
theorem dX7_goesThrough_7 : decode cX7_goesThrough 7 = .ok (.putfield 247, 3) := by decide +kernel
theorem dX7_goesThrough_10 : decode cX7_goesThrough 10 = .ok (.aload_n 0, 1) := by decide +kernel
theorem dX7_goesThrough_11 : decode cX7_goesThrough 11 = .ok (.iconst 0, 1) := by decide +kernel
theorem dX7_goesThrough_12 : decode cX7_goesThrough 12 = .ok (.putfield 250, 3) := by decide +kernel
theorem dX7_goesThrough_15 : decode cX7_goesThrough 15 = .ok (.aload_n 0, 1) := by decide +kernel
theorem dX7_goesThrough_16 : decode cX7_goesThrough 16 = .ok (.iconst 0, 1) := by decide +kernel
theorem dX7_goesThrough_17 : decode cX7_goesThrough 17 = .ok (.putfield 194, 3) := by decide +kernel
theorem dX7_goesThrough_20 : decode cX7_goesThrough 20 = .ok (.aload_n 0, 1) := by decide +kernel
theorem dX7_goesThrough_21 : decode cX7_goesThrough 21 = .ok (.invokevirtual 213, 3) := by decide +kernel
theorem dX7_goesThrough_24 : decode cX7_goesThrough 24 = .ok (.aload_n 0, 1) := by decide +kernel
theorem dX7_goesThrough_25 : decode cX7_goesThrough 25 = .ok (.getfield 194, 3) := by decide +kernel
theorem dX7_goesThrough_28 : decode cX7_goesThrough 28 = .ok (.aload_n 0, 1) := by decide +kernel
theorem dX7_goesThrough_29 : decode cX7_goesThrough 29 = .ok (.getfield 191, 3) := by decide +kernel
theorem dX7_goesThrough_32 : decode cX7_goesThrough 32 = .ok (.if_icmp .ge 67, 3) := by decide +kernel
theorem dX7_goesThrough_35 : decode cX7_goesThrough 35 = .ok (.aload_n 0, 1) := by decide +kernel
theorem dX7_goesThrough_36 : decode cX7_goesThrough 36 = .ok (.getfield 250, 3) := by decide +kernel
theorem dX7_goesThrough_39 : decode cX7_goesThrough 39 = .ok (.ifCond .ne 60, 3) := by decide +kernel
theorem dX7_goesThrough_42 : decode cX7_goesThrough 42 = .ok (.aload_n 0, 1) := by decide +kernel
theorem dX7_goesThrough_43 : decode cX7_goesThrough 43 = .ok (.getfield 194, 3) := by decide +kernel
theorem dX7_goesThrough_46 : decode cX7_goesThrough 46 = .ok (.istore_n 1, 1) := by decide +kernel
theorem dX7_goesThrough_47 : decode cX7_goesThrough 47 = .ok (.aload_n 0, 1) := by decide +kernel
theorem dX7_goesThrough_48 : decode cX7_goesThrough 48 = .ok (.aload_n 0, 1) := by decide +kernel
theorem dX7_goesThrough_49 : decode cX7_goesThrough 49 = .ok (.invokevirtual 253, 3) := by decide +kernel
theorem dX7_goesThrough_52 : decode cX7_goesThrough 52 = .ok (.putfield 250, 3) := by decide +kernel
theorem dX7_goesThrough_55 : decode cX7_goesThrough 55 = .ok (.aload_n 0, 1) := by decide +kernel
theorem dX7_goesThrough_56 : decode cX7_goesThrough 56 = .ok (.aload_n 0, 1) := by decide +kernel
theorem dX7_goesThrough_57 : decode cX7_goesThrough 57 = .ok (.getfield 250, 3) := by decide +kernel
theorem dX7_goesThrough_60 : decode cX7_goesThrough 60 = .ok (.ifCond .ne 7, 3) := by decide +kernel
theorem dX7_goesThrough_63 : decode cX7_goesThrough 63 = .ok (.iconst (-1), 1) := by decide +kernel
theorem dX7_goesThrough_64 : decode cX7_goesThrough 64 = .ok (.goto 4, 3) := by decide +kernel
theorem dX7_goesThrough_67 : decode cX7_goesThrough 67 = .ok (.iload_n 1, 1) := by decide +kernel
theorem dX7_goesThrough_68 : decode cX7_goesThrough 68 = .ok (.putfield 247, 3) := by decide +kernel
theorem dX7_goesThrough_71 : decode cX7_goesThrough 71 = .ok (.aload_n 0, 1) := by decide +kernel
theorem dX7_goesThrough_72 : decode cX7_goesThrough 72 = .ok (.dup, 1) := by decide +kernel
theorem dX7_goesThrough_73 : decode cX7_goesThrough 73 = .ok (.getfield 244, 3) := by decide +kernel
theorem dX7_goesThrough_76 : decode cX7_goesThrough 76 = .ok (.aload_n 0, 1) := by decide +kernel
theorem dX7_goesThrough_77 : decode cX7_goesThrough 77 = .ok (.getfield 250, 3) := by decide +kernel
theorem dX7_goesThrough_80 : decode cX7_goesThrough 80 = .ok (.ifCond .ne 7, 3) := by decide +kernel
theorem dX7_goesThrough_83 : decode cX7_goesThrough 83 = .ok (.iconst 1, 1) := by decide +kernel
theorem dX7_goesThrough_84 : decode cX7_goesThrough 84 = .ok (.goto 4, 3) := by decide +kernel
theorem dX7_goesThrough_87 : decode cX7_goesThrough 87 = .ok (.iconst 0, 1) := by decide +kernel
theorem dX7_goesThrough_88 : decode cX7_goesThrough 88 = .ok (.iadd, 1) := by decide +kernel
theorem dX7_goesThrough_89 : decode cX7_goesThrough 89 = .ok (.putfield 244, 3) := by decide +kernel
theorem dX7_goesThrough_92 : decode cX7_goesThrough 92 = .ok (.aload_n 0, 1) := by decide +kernel
theorem dX7_goesThrough_93 : decode cX7_goesThrough 93 = .ok (.invokevirtual 213, 3) := by decide +kernel
theorem dX7_goesThrough_96 : decode cX7_goesThrough 96 = .ok (.goto (-72), 3) := by decide +kernel
theorem dX7_goesThrough_99 : decode cX7_goesThrough 99 = .ok (.return_, 1) := by decide +kernel
theorem dX7_triesAll_0 : decode cX7_triesAll 0 = .ok (.iconst 0, 1) := by decide +kernel
theorem dX7_triesAll_1 : decode cX7_triesAll 1 = .ok (.istore_n 1, 1) := by decide +kernel
theorem dX7_triesAll_2 : decode cX7_triesAll 2 = .ok (.iload_n 1, 1) := by decide +kernel
theorem dX7_triesAll_3 : decode cX7_triesAll 3 = .ok (.bipush 88, 2) := by decide +kernel
theorem dX7_triesAll_5 : decode cX7_triesAll 5 = .ok (.if_icmp .ge 21, 3) := by decide +kernel
theorem dX7_triesAll_8 : decode cX7_triesAll 8 = .ok (.aload_n 0, 1) := by decide +kernel
theorem dX7_triesAll_9 : decode cX7_triesAll 9 = .ok (.getfield 16, 3) := by decide +kernel
theorem dX7_triesAll_12 : decode cX7_triesAll 12 = .ok (.iload_n 1, 1) := by decide +kernel
theorem dX7_triesAll_13 : decode cX7_triesAll 13 = .ok (.aload_n 0, 1) := by decide +kernel
theorem dX7_triesAll_14 : decode cX7_triesAll 14 = .ok (.getfield 7, 3) := by decide +kernel
theorem dX7_triesAll_17 : decode cX7_triesAll 17 = .ok (.iload_n 1, 1) := by decide +kernel
theorem dX7_triesAll_18 : decode cX7_triesAll 18 = .ok (.iaload, 1) := by decide +kernel
theorem dX7_triesAll_19 : decode cX7_triesAll 19 = .ok (.iastore, 1) := by decide +kernel
theorem dX7_triesAll_20 : decode cX7_triesAll 20 = .ok (.iinc 1 1, 3) := by decide +kernel
theorem dX7_triesAll_23 : decode cX7_triesAll 23 = .ok (.goto (-21), 3) := by decide +kernel
theorem dX7_triesAll_26 : decode cX7_triesAll 26 = .ok (.aload_n 0, 1) := by decide +kernel
theorem dX7_triesAll_27 : decode cX7_triesAll 27 = .ok (.invokevirtual 256, 3) := by decide +kernel
theorem dX7_triesAll_30 : decode cX7_triesAll 30 = .ok (.iconst 0, 1) := by decide +kernel
theorem dX7_triesAll_31 : decode cX7_triesAll 31 = .ok (.istore_n 1, 1) := by decide +kernel
theorem dX7_triesAll_32 : decode cX7_triesAll 32 = .ok (.iload_n 1, 1) := by decide +kernel
theorem dX7_triesAll_33 : decode cX7_triesAll 33 = .ok (.bipush 88, 2) := by decide +kernel
theorem dX7_triesAll_35 : decode cX7_triesAll 35 = .ok (.if_icmp .ge 21, 3) := by decide +kernel
theorem dX7_triesAll_38 : decode cX7_triesAll 38 = .ok (.aload_n 0, 1) := by decide +kernel
theorem dX7_triesAll_39 : decode cX7_triesAll 39 = .ok (.getfield 7, 3) := by decide +kernel
theorem dX7_triesAll_42 : decode cX7_triesAll 42 = .ok (.iload_n 1, 1) := by decide +kernel
theorem dX7_triesAll_43 : decode cX7_triesAll 43 = .ok (.aload_n 0, 1) := by decide +kernel
theorem dX7_triesAll_44 : decode cX7_triesAll 44 = .ok (.getfield 16, 3) := by decide +kernel
theorem dX7_triesAll_47 : decode cX7_triesAll 47 = .ok (.iload_n 1, 1) := by decide +kernel
theorem dX7_triesAll_48 : decode cX7_triesAll 48 = .ok (.iaload, 1) := by decide +kernel
theorem dX7_triesAll_49 : decode cX7_triesAll 49 = .ok (.iastore, 1) := by decide +kernel
theorem dX7_triesAll_50 : decode cX7_triesAll 50 = .ok (.iinc 1 1, 3) := by decide +kernel
theorem dX7_triesAll_53 : decode cX7_triesAll 53 = .ok (.goto (-21), 3) := by decide +kernel
theorem dX7_triesAll_56 : decode cX7_triesAll 56 = .ok (.return_, 1) := by decide +kernel
theorem dX7_place_0 : decode cX7_place 0 = .ok (.iload_n 1, 1) := by decide +kernel
theorem dX7_place_1 : decode cX7_place 1 = .ok (.iconst 0, 1) := by decide +kernel
theorem dX7_place_2 : decode cX7_place 2 = .ok (.iconst 1, 1) := by decide +kernel
theorem dX7_place_3 : decode cX7_place 3 = .ok (.invokestatic 45, 3) := by decide +kernel
theorem dX7_place_6 : decode cX7_place 6 = .ok (.ifCond .ne 6, 3) := by decide +kernel
theorem dX7_place_9 : decode cX7_place 9 = .ok (.ldc 53, 2) := by decide +kernel
theorem dX7_place_11 : decode cX7_place 11 = .ok (.ireturn, 1) := by decide +kernel
theorem dX7_place_12 : decode cX7_place 12 = .ok (.aload_n 0, 1) := by decide +kernel
theorem dX7_place_13 : decode cX7_place 13 = .ok (.invokevirtual 259, 3) := by decide +kernel
theorem dX7_place_16 : decode cX7_place 16 = .ok (.aload_n 0, 1) := by decide +kernel
theorem dX7_place_17 : decode cX7_place 17 = .ok (.getfield 250, 3) := by decide +kernel
theorem dX7_place_20 : decode cX7_place 20 = .ok (.ifCond .ne 6, 3) := by decide +kernel
theorem dX7_place_23 : decode cX7_place 23 = .ok (.ldc 93, 2) := by decide +kernel
theorem dX7_place_25 : decode cX7_place 25 = .ok (.ireturn, 1) := by decide +kernel
theorem dX7_place_26 : decode cX7_place 26 = .ok (.iload_n 1, 1) := by decide +kernel
theorem dX7_place_27 : decode cX7_place 27 = .ok (.ifCond .ne 10, 3) := by decide +kernel
theorem dX7_place_30 : decode cX7_place 30 = .ok (.aload_n 0, 1) := by decide +kernel
theorem dX7_place_31 : decode cX7_place 31 = .ok (.getfield 247, 3) := by decide +kernel
theorem dX7_place_34 : decode cX7_place 34 = .ok (.goto 7, 3) := by decide +kernel
theorem dX7_place_37 : decode cX7_place 37 = .ok (.aload_n 0, 1) := by decide +kernel
theorem dX7_place_38 : decode cX7_place 38 = .ok (.getfield 250, 3) := by decide +kernel
theorem dX7_place_41 : decode cX7_place 41 = .ok (.ireturn, 1) := by decide +kernel
theorem dX7_run_0 : decode cX7_run 0 = .ok (.aload_n 0, 1) := by decide +kernel
theorem dX7_run_1 : decode cX7_run 1 = .ok (.invokevirtual 259, 3) := by decide +kernel
theorem dX7_run_4 : decode cX7_run 4 = .ok (.aload_n 0, 1) := by decide +kernel
theorem dX7_run_5 : decode cX7_run 5 = .ok (.getfield 250, 3) := by decide +kernel
theorem dX7_run_8 : decode cX7_run 8 = .ok (.ifCond .eq 6, 3) := by decide +kernel
theorem dX7_run_11 : decode cX7_run 11 = .ok (.ldc 35, 2) := by decide +kernel
theorem dX7_run_13 : decode cX7_run 13 = .ok (.ireturn, 1) := by decide +kernel
theorem dX7_run_14 : decode cX7_run 14 = .ok (.aload_n 0, 1) := by decide +kernel
theorem dX7_run_15 : decode cX7_run 15 = .ok (.invokevirtual 61, 3) := by decide +kernel
theorem dX7_run_18 : decode cX7_run 18 = .ok (.aload_n 0, 1) := by decide +kernel
theorem dX7_run_19 : decode cX7_run 19 = .ok (.invokevirtual 256, 3) := by decide +kernel
theorem dX7_run_22 : decode cX7_run 22 = .ok (.aload_n 0, 1) := by decide +kernel
theorem dX7_run_23 : decode cX7_run 23 = .ok (.getfield 244, 3) := by decide +kernel
theorem dX7_run_26 : decode cX7_run 26 = .ok (.ireturn, 1) := by decide +kernel
theorem dJ6_bitCount_0f7a4_0 : decode cJ6_bitCount_0f7a4 0 = .ok (.iload_n 0, 1) := by decide +kernel
theorem dJ6_bitCount_0f7a4_1 : decode cJ6_bitCount_0f7a4 1 = .ok (.iload_n 0, 1) := by decide +kernel
theorem dJ6_bitCount_0f7a4_2 : decode cJ6_bitCount_0f7a4 2 = .ok (.iconst 1, 1) := by decide +kernel
theorem dJ6_bitCount_0f7a4_3 : decode cJ6_bitCount_0f7a4 3 = .ok (.iushr, 1) := by decide +kernel
theorem dJ6_bitCount_0f7a4_4 : decode cJ6_bitCount_0f7a4 4 = .ok (.ldc_w 265, 3) := by decide +kernel
theorem dJ6_bitCount_0f7a4_7 : decode cJ6_bitCount_0f7a4 7 = .ok (.iand, 1) := by decide +kernel
theorem dJ6_bitCount_0f7a4_8 : decode cJ6_bitCount_0f7a4 8 = .ok (.isub, 1) := by decide +kernel
theorem dJ6_bitCount_0f7a4_9 : decode cJ6_bitCount_0f7a4 9 = .ok (.istore_n 0, 1) := by decide +kernel
theorem dJ6_bitCount_0f7a4_10 : decode cJ6_bitCount_0f7a4 10 = .ok (.iload_n 0, 1) := by decide +kernel
theorem dJ6_bitCount_0f7a4_11 : decode cJ6_bitCount_0f7a4 11 = .ok (.ldc_w 266, 3) := by decide +kernel
theorem dJ6_bitCount_0f7a4_14 : decode cJ6_bitCount_0f7a4 14 = .ok (.iand, 1) := by decide +kernel
theorem dJ6_bitCount_0f7a4_15 : decode cJ6_bitCount_0f7a4 15 = .ok (.iload_n 0, 1) := by decide +kernel
theorem dJ6_bitCount_0f7a4_16 : decode cJ6_bitCount_0f7a4 16 = .ok (.iconst 2, 1) := by decide +kernel
theorem dJ6_bitCount_0f7a4_17 : decode cJ6_bitCount_0f7a4 17 = .ok (.iushr, 1) := by decide +kernel
theorem dJ6_bitCount_0f7a4_18 : decode cJ6_bitCount_0f7a4 18 = .ok (.ldc_w 266, 3) := by decide +kernel
theorem dJ6_bitCount_0f7a4_21 : decode cJ6_bitCount_0f7a4 21 = .ok (.iand, 1) := by decide +kernel
theorem dJ6_bitCount_0f7a4_22 : decode cJ6_bitCount_0f7a4 22 = .ok (.iadd, 1) := by decide +kernel
theorem dJ6_bitCount_0f7a4_23 : decode cJ6_bitCount_0f7a4 23 = .ok (.istore_n 0, 1) := by decide +kernel
theorem dJ6_bitCount_0f7a4_24 : decode cJ6_bitCount_0f7a4 24 = .ok (.iload_n 0, 1) := by decide +kernel
theorem dJ6_bitCount_0f7a4_25 : decode cJ6_bitCount_0f7a4 25 = .ok (.iload_n 0, 1) := by decide +kernel
theorem dJ6_bitCount_0f7a4_26 : decode cJ6_bitCount_0f7a4 26 = .ok (.iconst 4, 1) := by decide +kernel
theorem dJ6_bitCount_0f7a4_27 : decode cJ6_bitCount_0f7a4 27 = .ok (.iushr, 1) := by decide +kernel
theorem dJ6_bitCount_0f7a4_28 : decode cJ6_bitCount_0f7a4 28 = .ok (.iadd, 1) := by decide +kernel
theorem dJ6_bitCount_0f7a4_29 : decode cJ6_bitCount_0f7a4 29 = .ok (.ldc_w 267, 3) := by decide +kernel
theorem dJ6_bitCount_0f7a4_32 : decode cJ6_bitCount_0f7a4 32 = .ok (.iand, 1) := by decide +kernel
theorem dJ6_bitCount_0f7a4_33 : decode cJ6_bitCount_0f7a4 33 = .ok (.istore_n 0, 1) := by decide +kernel
theorem dJ6_bitCount_0f7a4_34 : decode cJ6_bitCount_0f7a4 34 = .ok (.iload_n 0, 1) := by decide +kernel
theorem dJ6_bitCount_0f7a4_35 : decode cJ6_bitCount_0f7a4 35 = .ok (.iload_n 0, 1) := by decide +kernel
theorem dJ6_bitCount_0f7a4_36 : decode cJ6_bitCount_0f7a4 36 = .ok (.bipush 8, 2) := by decide +kernel
theorem dJ6_bitCount_0f7a4_38 : decode cJ6_bitCount_0f7a4 38 = .ok (.iushr, 1) := by decide +kernel
theorem dJ6_bitCount_0f7a4_39 : decode cJ6_bitCount_0f7a4 39 = .ok (.iadd, 1) := by decide +kernel
theorem dJ6_bitCount_0f7a4_40 : decode cJ6_bitCount_0f7a4 40 = .ok (.istore_n 0, 1) := by decide +kernel
theorem dJ6_bitCount_0f7a4_41 : decode cJ6_bitCount_0f7a4 41 = .ok (.iload_n 0, 1) := by decide +kernel
theorem dJ6_bitCount_0f7a4_42 : decode cJ6_bitCount_0f7a4 42 = .ok (.iload_n 0, 1) := by decide +kernel
theorem dJ6_bitCount_0f7a4_43 : decode cJ6_bitCount_0f7a4 43 = .ok (.bipush 16, 2) := by decide +kernel
theorem dJ6_bitCount_0f7a4_45 : decode cJ6_bitCount_0f7a4 45 = .ok (.iushr, 1) := by decide +kernel
theorem dJ6_bitCount_0f7a4_46 : decode cJ6_bitCount_0f7a4 46 = .ok (.iadd, 1) := by decide +kernel
theorem dJ6_bitCount_0f7a4_47 : decode cJ6_bitCount_0f7a4 47 = .ok (.istore_n 0, 1) := by decide +kernel
theorem dJ6_bitCount_0f7a4_48 : decode cJ6_bitCount_0f7a4 48 = .ok (.iload_n 0, 1) := by decide +kernel
theorem dJ6_bitCount_0f7a4_49 : decode cJ6_bitCount_0f7a4 49 = .ok (.bipush 63, 2) := by decide +kernel
theorem dJ6_bitCount_0f7a4_51 : decode cJ6_bitCount_0f7a4 51 = .ok (.iand, 1) := by decide +kernel
theorem dJ6_bitCount_0f7a4_52 : decode cJ6_bitCount_0f7a4 52 = .ok (.ireturn, 1) := by decide +kernel
theorem dJ9_max_7cf53_0 : decode cJ9_max_7cf53 0 = .ok (.iload_n 0, 1) := by decide +kernel
theorem dJ9_max_7cf53_1 : decode cJ9_max_7cf53 1 = .ok (.iload_n 1, 1) := by decide +kernel
theorem dJ9_max_7cf53_2 : decode cJ9_max_7cf53 2 = .ok (.if_icmp .lt 7, 3) := by decide +kernel
theorem dJ9_max_7cf53_5 : decode cJ9_max_7cf53 5 = .ok (.iload_n 0, 1) := by decide +kernel
theorem dJ9_max_7cf53_6 : decode cJ9_max_7cf53 6 = .ok (.goto 4, 3) := by decide +kernel
theorem dJ9_max_7cf53_9 : decode cJ9_max_7cf53 9 = .ok (.iload_n 1, 1) := by decide +kernel
theorem dJ9_max_7cf53_10 : decode cJ9_max_7cf53 10 = .ok (.ireturn, 1) := by decide +kernel
theorem dJ9_min_7cf53_0 : decode cJ9_min_7cf53 0 = .ok (.iload_n 0, 1) := by decide +kernel
theorem dJ9_min_7cf53_1 : decode cJ9_min_7cf53 1 = .ok (.iload_n 1, 1) := by decide +kernel
theorem dJ9_min_7cf53_2 : decode cJ9_min_7cf53 2 = .ok (.if_icmp .gt 7, 3) := by decide +kernel
theorem dJ9_min_7cf53_5 : decode cJ9_min_7cf53 5 = .ok (.iload_n 0, 1) := by decide +kernel
theorem dJ9_min_7cf53_6 : decode cJ9_min_7cf53 6 = .ok (.goto 4, 3) := by decide +kernel
theorem dJ9_min_7cf53_9 : decode cJ9_min_7cf53 9 = .ok (.iload_n 1, 1) := by decide +kernel
theorem dJ9_min_7cf53_10 : decode cJ9_min_7cf53 10 = .ok (.ireturn, 1) := by decide +kernel
theorem dJ0_length_8abf5_0 : decode cJ0_length_8abf5 0 = .ok (.aload_n 0, 1) := by decide +kernel
theorem dJ0_length_8abf5_1 : decode cJ0_length_8abf5 1 = .ok (.getfield 9, 3) := by decide +kernel
theorem dJ0_length_8abf5_4 : decode cJ0_length_8abf5 4 = .ok (.arraylength, 1) := by decide +kernel
theorem dJ0_length_8abf5_5 : decode cJ0_length_8abf5 5 = .ok (.aload_n 0, 1) := by decide +kernel
theorem dJ0_length_8abf5_6 : decode cJ0_length_8abf5 6 = .ok (.invokevirtual 335, 3) := by decide +kernel
theorem dJ0_length_8abf5_9 : decode cJ0_length_8abf5 9 = .ok (.ishr, 1) := by decide +kernel
theorem dJ0_length_8abf5_10 : decode cJ0_length_8abf5 10 = .ok (.ireturn, 1) := by decide +kernel
theorem dJ0_charAt_5068e_0 : decode cJ0_charAt_5068e 0 = .ok (.aload_n 0, 1) := by decide +kernel
theorem dJ0_charAt_5068e_1 : decode cJ0_charAt_5068e 1 = .ok (.invokevirtual 492, 3) := by decide +kernel
theorem dJ0_charAt_5068e_4 : decode cJ0_charAt_5068e 4 = .ok (.ifCond .eq 12, 3) := by decide +kernel
theorem dJ0_charAt_5068e_7 : decode cJ0_charAt_5068e 7 = .ok (.aload_n 0, 1) := by decide +kernel
theorem dJ0_charAt_5068e_8 : decode cJ0_charAt_5068e 8 = .ok (.getfield 9, 3) := by decide +kernel
theorem dJ0_charAt_5068e_11 : decode cJ0_charAt_5068e 11 = .ok (.iload_n 1, 1) := by decide +kernel
theorem dJ0_charAt_5068e_12 : decode cJ0_charAt_5068e 12 = .ok (.invokestatic 495, 3) := by decide +kernel
theorem dJ0_charAt_5068e_15 : decode cJ0_charAt_5068e 15 = .ok (.ireturn, 1) := by decide +kernel
theorem dJ0_charAt_5068e_16 : decode cJ0_charAt_5068e 16 = .ok (.aload_n 0, 1) := by decide +kernel
theorem dJ0_charAt_5068e_17 : decode cJ0_charAt_5068e 17 = .ok (.getfield 9, 3) := by decide +kernel
theorem dJ0_charAt_5068e_20 : decode cJ0_charAt_5068e 20 = .ok (.iload_n 1, 1) := by decide +kernel
theorem dJ0_charAt_5068e_21 : decode cJ0_charAt_5068e 21 = .ok (.invokestatic 498, 3) := by decide +kernel
theorem dJ0_charAt_5068e_24 : decode cJ0_charAt_5068e 24 = .ok (.ireturn, 1) := by decide +kernel
theorem dJ0_coder_7d493_0 : decode cJ0_coder_7d493 0 = .ok (.getstatic 38, 3) := by decide +kernel
theorem dJ0_coder_7d493_3 : decode cJ0_coder_7d493 3 = .ok (.ifCond .eq 10, 3) := by decide +kernel
theorem dJ0_coder_7d493_6 : decode cJ0_coder_7d493 6 = .ok (.aload_n 0, 1) := by decide +kernel
theorem dJ0_coder_7d493_7 : decode cJ0_coder_7d493 7 = .ok (.getfield 15, 3) := by decide +kernel
theorem dJ0_coder_7d493_10 : decode cJ0_coder_7d493 10 = .ok (.goto 4, 3) := by decide +kernel
theorem dJ0_coder_7d493_13 : decode cJ0_coder_7d493 13 = .ok (.iconst 1, 1) := by decide +kernel
theorem dJ0_coder_7d493_14 : decode cJ0_coder_7d493 14 = .ok (.ireturn, 1) := by decide +kernel
theorem dJ0_isLatin1_aae02_0 : decode cJ0_isLatin1_aae02 0 = .ok (.getstatic 38, 3) := by decide +kernel
theorem dJ0_isLatin1_aae02_3 : decode cJ0_isLatin1_aae02 3 = .ok (.ifCond .eq 14, 3) := by decide +kernel
theorem dJ0_isLatin1_aae02_6 : decode cJ0_isLatin1_aae02 6 = .ok (.aload_n 0, 1) := by decide +kernel
theorem dJ0_isLatin1_aae02_7 : decode cJ0_isLatin1_aae02 7 = .ok (.getfield 15, 3) := by decide +kernel
theorem dJ0_isLatin1_aae02_10 : decode cJ0_isLatin1_aae02 10 = .ok (.ifCond .ne 7, 3) := by decide +kernel
theorem dJ0_isLatin1_aae02_13 : decode cJ0_isLatin1_aae02 13 = .ok (.iconst 1, 1) := by decide +kernel
theorem dJ0_isLatin1_aae02_14 : decode cJ0_isLatin1_aae02 14 = .ok (.goto 4, 3) := by decide +kernel
theorem dJ0_isLatin1_aae02_17 : decode cJ0_isLatin1_aae02 17 = .ok (.iconst 0, 1) := by decide +kernel
theorem dJ0_isLatin1_aae02_18 : decode cJ0_isLatin1_aae02 18 = .ok (.ireturn, 1) := by decide +kernel
theorem dJ0_checkIndex_df160_0 : decode cJ0_checkIndex_df160 0 = .ok (.iload_n 0, 1) := by decide +kernel
theorem dJ0_checkIndex_df160_1 : decode cJ0_checkIndex_df160 1 = .ok (.iload_n 1, 1) := by decide +kernel
theorem dJ0_checkIndex_df160_2 : decode cJ0_checkIndex_df160 2 = .ok (.getstatic 1053, 3) := by decide +kernel
theorem dJ0_checkIndex_df160_5 : decode cJ0_checkIndex_df160 5 = .ok (.invokestatic 1059, 3) := by decide +kernel
theorem dJ0_checkIndex_df160_8 : decode cJ0_checkIndex_df160 8 = .ok (.pop, 1) := by decide +kernel
theorem dJ0_checkIndex_df160_9 : decode cJ0_checkIndex_df160 9 = .ok (.return_, 1) := by decide +kernel
theorem dJ1_charAt_3b067_0 : decode cJ1_charAt_3b067 0 = .ok (.iload_n 1, 1) := by decide +kernel
theorem dJ1_charAt_3b067_1 : decode cJ1_charAt_3b067 1 = .ok (.aload_n 0, 1) := by decide +kernel
theorem dJ1_charAt_3b067_2 : decode cJ1_charAt_3b067 2 = .ok (.arraylength, 1) := by decide +kernel
theorem dJ1_charAt_3b067_3 : decode cJ1_charAt_3b067 3 = .ok (.invokestatic 9, 3) := by decide +kernel
theorem dJ1_charAt_3b067_6 : decode cJ1_charAt_3b067 6 = .ok (.aload_n 0, 1) := by decide +kernel
theorem dJ1_charAt_3b067_7 : decode cJ1_charAt_3b067 7 = .ok (.iload_n 1, 1) := by decide +kernel
theorem dJ1_charAt_3b067_8 : decode cJ1_charAt_3b067 8 = .ok (.baload, 1) := by decide +kernel
theorem dJ1_charAt_3b067_9 : decode cJ1_charAt_3b067 9 = .ok (.sipush 255, 3) := by decide +kernel
theorem dJ1_charAt_3b067_12 : decode cJ1_charAt_3b067 12 = .ok (.iand, 1) := by decide +kernel
theorem dJ1_charAt_3b067_13 : decode cJ1_charAt_3b067 13 = .ok (.i2c, 1) := by decide +kernel
theorem dJ1_charAt_3b067_14 : decode cJ1_charAt_3b067 14 = .ok (.ireturn, 1) := by decide +kernel
theorem dJ2_getChar_3b067_0 : decode cJ2_getChar_3b067 0 = .ok (.getstatic 44, 3) := by decide +kernel
theorem dJ2_getChar_3b067_3 : decode cJ2_getChar_3b067 3 = .ok (.ifCond .ne 25, 3) := by decide +kernel
theorem dJ2_getChar_3b067_6 : decode cJ2_getChar_3b067 6 = .ok (.iload_n 1, 1) := by decide +kernel
theorem dJ2_getChar_3b067_7 : decode cJ2_getChar_3b067 7 = .ok (.ifCond .lt 11, 3) := by decide +kernel
theorem dJ2_getChar_3b067_10 : decode cJ2_getChar_3b067 10 = .ok (.iload_n 1, 1) := by decide +kernel
theorem dJ2_getChar_3b067_11 : decode cJ2_getChar_3b067 11 = .ok (.aload_n 0, 1) := by decide +kernel
theorem dJ2_getChar_3b067_12 : decode cJ2_getChar_3b067 12 = .ok (.invokestatic 48, 3) := by decide +kernel
theorem dJ2_getChar_3b067_15 : decode cJ2_getChar_3b067 15 = .ok (.if_icmp .lt 13, 3) := by decide +kernel
theorem dJ2_getChar_3b067_18 : decode cJ2_getChar_3b067 18 = .ok (.new 52, 3) := by decide +kernel
theorem dJ2_getChar_3b067_21 : decode cJ2_getChar_3b067 21 = .ok (.dup, 1) := by decide +kernel
theorem dJ2_getChar_3b067_22 : decode cJ2_getChar_3b067 22 = .ok (.ldc 54, 2) := by decide +kernel
theorem dJ2_getChar_3b067_24 : decode cJ2_getChar_3b067 24 = .ok (.invokespecial 56, 3) := by decide +kernel
theorem dJ2_getChar_3b067_27 : decode cJ2_getChar_3b067 27 = .ok (.athrow, 1) := by decide +kernel
theorem dJ2_getChar_3b067_28 : decode cJ2_getChar_3b067 28 = .ok (.iload_n 1, 1) := by decide +kernel
theorem dJ2_getChar_3b067_29 : decode cJ2_getChar_3b067 29 = .ok (.iconst 1, 1) := by decide +kernel
theorem dJ2_getChar_3b067_30 : decode cJ2_getChar_3b067 30 = .ok (.ishl, 1) := by decide +kernel
theorem dJ2_getChar_3b067_31 : decode cJ2_getChar_3b067 31 = .ok (.istore_n 1, 1) := by decide +kernel
theorem dJ2_getChar_3b067_32 : decode cJ2_getChar_3b067 32 = .ok (.aload_n 0, 1) := by decide +kernel
theorem dJ2_getChar_3b067_33 : decode cJ2_getChar_3b067 33 = .ok (.iload_n 1, 1) := by decide +kernel
theorem dJ2_getChar_3b067_34 : decode cJ2_getChar_3b067 34 = .ok (.iinc 1 1, 3) := by decide +kernel
theorem dJ2_getChar_3b067_37 : decode cJ2_getChar_3b067 37 = .ok (.baload, 1) := by decide +kernel
theorem dJ2_getChar_3b067_38 : decode cJ2_getChar_3b067 38 = .ok (.sipush 255, 3) := by decide +kernel
theorem dJ2_getChar_3b067_41 : decode cJ2_getChar_3b067 41 = .ok (.iand, 1) := by decide +kernel
theorem dJ2_getChar_3b067_42 : decode cJ2_getChar_3b067 42 = .ok (.getstatic 59, 3) := by decide +kernel
theorem dJ2_getChar_3b067_45 : decode cJ2_getChar_3b067 45 = .ok (.ishl, 1) := by decide +kernel
theorem dJ2_getChar_3b067_46 : decode cJ2_getChar_3b067 46 = .ok (.aload_n 0, 1) := by decide +kernel
theorem dJ2_getChar_3b067_47 : decode cJ2_getChar_3b067 47 = .ok (.iload_n 1, 1) := by decide +kernel
theorem dJ2_getChar_3b067_48 : decode cJ2_getChar_3b067 48 = .ok (.baload, 1) := by decide +kernel
theorem dJ2_getChar_3b067_49 : decode cJ2_getChar_3b067 49 = .ok (.sipush 255, 3) := by decide +kernel
theorem dJ2_getChar_3b067_52 : decode cJ2_getChar_3b067 52 = .ok (.iand, 1) := by decide +kernel
theorem dJ2_getChar_3b067_53 : decode cJ2_getChar_3b067 53 = .ok (.getstatic 63, 3) := by decide +kernel
theorem dJ2_getChar_3b067_56 : decode cJ2_getChar_3b067 56 = .ok (.ishl, 1) := by decide +kernel
theorem dJ2_getChar_3b067_57 : decode cJ2_getChar_3b067 57 = .ok (.ior, 1) := by decide +kernel
theorem dJ2_getChar_3b067_58 : decode cJ2_getChar_3b067 58 = .ok (.i2c, 1) := by decide +kernel
theorem dJ2_getChar_3b067_59 : decode cJ2_getChar_3b067 59 = .ok (.ireturn, 1) := by decide +kernel
theorem dJ2_length_9d52b_0 : decode cJ2_length_9d52b 0 = .ok (.aload_n 0, 1) := by decide +kernel
theorem dJ2_length_9d52b_1 : decode cJ2_length_9d52b 1 = .ok (.arraylength, 1) := by decide +kernel
theorem dJ2_length_9d52b_2 : decode cJ2_length_9d52b 2 = .ok (.iconst 1, 1) := by decide +kernel
theorem dJ2_length_9d52b_3 : decode cJ2_length_9d52b 3 = .ok (.ishr, 1) := by decide +kernel
theorem dJ2_length_9d52b_4 : decode cJ2_length_9d52b 4 = .ok (.ireturn, 1) := by decide +kernel
theorem dJ2_charAt_3b067_0 : decode cJ2_charAt_3b067 0 = .ok (.iload_n 1, 1) := by decide +kernel
theorem dJ2_charAt_3b067_1 : decode cJ2_charAt_3b067 1 = .ok (.aload_n 0, 1) := by decide +kernel
theorem dJ2_charAt_3b067_2 : decode cJ2_charAt_3b067 2 = .ok (.invokestatic 67, 3) := by decide +kernel
theorem dJ2_charAt_3b067_5 : decode cJ2_charAt_3b067 5 = .ok (.aload_n 0, 1) := by decide +kernel
theorem dJ2_charAt_3b067_6 : decode cJ2_charAt_3b067 6 = .ok (.iload_n 1, 1) := by decide +kernel
theorem dJ2_charAt_3b067_7 : decode cJ2_charAt_3b067 7 = .ok (.invokestatic 71, 3) := by decide +kernel
theorem dJ2_charAt_3b067_10 : decode cJ2_charAt_3b067 10 = .ok (.ireturn, 1) := by decide +kernel
theorem dJ2_checkIndex_2214a_0 : decode cJ2_checkIndex_2214a 0 = .ok (.iload_n 0, 1) := by decide +kernel
theorem dJ2_checkIndex_2214a_1 : decode cJ2_checkIndex_2214a 1 = .ok (.aload_n 1, 1) := by decide +kernel
theorem dJ2_checkIndex_2214a_2 : decode cJ2_checkIndex_2214a 2 = .ok (.invokestatic 48, 3) := by decide +kernel
theorem dJ2_checkIndex_2214a_5 : decode cJ2_checkIndex_2214a 5 = .ok (.invokestatic 414, 3) := by decide +kernel
theorem dJ2_checkIndex_2214a_8 : decode cJ2_checkIndex_2214a 8 = .ok (.return_, 1) := by decide +kernel
theorem dJ7_fill_53178_0 : decode cJ7_fill_53178 0 = .ok (.iconst 0, 1) := by decide +kernel
theorem dJ7_fill_53178_1 : decode cJ7_fill_53178 1 = .ok (.istore_n 2, 1) := by decide +kernel
theorem dJ7_fill_53178_2 : decode cJ7_fill_53178 2 = .ok (.aload_n 0, 1) := by decide +kernel
theorem dJ7_fill_53178_3 : decode cJ7_fill_53178 3 = .ok (.arraylength, 1) := by decide +kernel
theorem dJ7_fill_53178_4 : decode cJ7_fill_53178 4 = .ok (.istore_n 3, 1) := by decide +kernel
theorem dJ7_fill_53178_5 : decode cJ7_fill_53178 5 = .ok (.iload_n 2, 1) := by decide +kernel
theorem dJ7_fill_53178_6 : decode cJ7_fill_53178 6 = .ok (.iload_n 3, 1) := by decide +kernel
theorem dJ7_fill_53178_7 : decode cJ7_fill_53178 7 = .ok (.if_icmp .ge 13, 3) := by decide +kernel
theorem dJ7_fill_53178_10 : decode cJ7_fill_53178 10 = .ok (.aload_n 0, 1) := by decide +kernel
theorem dJ7_fill_53178_11 : decode cJ7_fill_53178 11 = .ok (.iload_n 2, 1) := by decide +kernel
theorem dJ7_fill_53178_12 : decode cJ7_fill_53178 12 = .ok (.iload_n 1, 1) := by decide +kernel
theorem dJ7_fill_53178_13 : decode cJ7_fill_53178 13 = .ok (.iastore, 1) := by decide +kernel
theorem dJ7_fill_53178_14 : decode cJ7_fill_53178 14 = .ok (.iinc 2 1, 3) := by decide +kernel
theorem dJ7_fill_53178_17 : decode cJ7_fill_53178 17 = .ok (.goto (-12), 3) := by decide +kernel
theorem dJ7_fill_53178_20 : decode cJ7_fill_53178 20 = .ok (.return_, 1) := by decide +kernel
theorem dJ3_checkIndex_8e157_0 : decode cJ3_checkIndex_8e157 0 = .ok (.iload_n 0, 1) := by decide +kernel
theorem dJ3_checkIndex_8e157_1 : decode cJ3_checkIndex_8e157 1 = .ok (.ifCond .lt 8, 3) := by decide +kernel
theorem dJ3_checkIndex_8e157_4 : decode cJ3_checkIndex_8e157 4 = .ok (.iload_n 0, 1) := by decide +kernel
theorem dJ3_checkIndex_8e157_5 : decode cJ3_checkIndex_8e157 5 = .ok (.iload_n 1, 1) := by decide +kernel
theorem dJ3_checkIndex_8e157_6 : decode cJ3_checkIndex_8e157 6 = .ok (.if_icmp .lt 10, 3) := by decide +kernel
theorem dJ3_checkIndex_8e157_9 : decode cJ3_checkIndex_8e157 9 = .ok (.aload_n 2, 1) := by decide +kernel
theorem dJ3_checkIndex_8e157_10 : decode cJ3_checkIndex_8e157 10 = .ok (.iload_n 0, 1) := by decide +kernel
theorem dJ3_checkIndex_8e157_11 : decode cJ3_checkIndex_8e157 11 = .ok (.iload_n 1, 1) := by decide +kernel
theorem dJ3_checkIndex_8e157_12 : decode cJ3_checkIndex_8e157 12 = .ok (.invokestatic 95, 3) := by decide +kernel
theorem dJ3_checkIndex_8e157_15 : decode cJ3_checkIndex_8e157 15 = .ok (.athrow, 1) := by decide +kernel
theorem dJ3_checkIndex_8e157_16 : decode cJ3_checkIndex_8e157 16 = .ok (.iload_n 0, 1) := by decide +kernel
theorem dJ3_checkIndex_8e157_17 : decode cJ3_checkIndex_8e157 17 = .ok (.ireturn, 1) := by decide +kernel
theorem dL_law_0 : decode cL_law 0 = .ok (.new 7, 3) := by decide +kernel
theorem dL_law_3 : decode cL_law 3 = .ok (.dup, 1) := by decide +kernel
theorem dL_law_4 : decode cL_law 4 = .ok (.invokespecial 9, 3) := by decide +kernel
theorem dL_law_7 : decode cL_law 7 = .ok (.astore_n 1, 1) := by decide +kernel
theorem dL_law_8 : decode cL_law 8 = .ok (.new 10, 3) := by decide +kernel
theorem dL_law_11 : decode cL_law 11 = .ok (.dup, 1) := by decide +kernel
theorem dL_law_12 : decode cL_law 12 = .ok (.invokespecial 12, 3) := by decide +kernel
theorem dL_law_15 : decode cL_law 15 = .ok (.astore_n 2, 1) := by decide +kernel
theorem dL_law_16 : decode cL_law 16 = .ok (.iconst 0, 1) := by decide +kernel
theorem dL_law_17 : decode cL_law 17 = .ok (.istore_n 3, 1) := by decide +kernel
theorem dL_law_18 : decode cL_law 18 = .ok (.iload_n 3, 1) := by decide +kernel
theorem dL_law_19 : decode cL_law 19 = .ok (.aload_n 0, 1) := by decide +kernel
theorem dL_law_20 : decode cL_law 20 = .ok (.arraylength, 1) := by decide +kernel
theorem dL_law_21 : decode cL_law 21 = .ok (.iconst 5, 1) := by decide +kernel
theorem dL_law_22 : decode cL_law 22 = .ok (.isub, 1) := by decide +kernel
theorem dL_law_23 : decode cL_law 23 = .ok (.if_icmp .gt 998, 3) := by decide +kernel
theorem dL_law_26 : decode cL_law 26 = .ok (.aload_n 0, 1) := by decide +kernel
theorem dL_law_27 : decode cL_law 27 = .ok (.iload_n 3, 1) := by decide +kernel
theorem dL_law_28 : decode cL_law 28 = .ok (.iaload, 1) := by decide +kernel
theorem dL_law_29 : decode cL_law 29 = .ok (.bipush 31, 2) := by decide +kernel
theorem dL_law_31 : decode cL_law 31 = .ok (.iand, 1) := by decide +kernel
theorem dL_law_32 : decode cL_law 32 = .ok (.tableswitch 983 0 30 #[140, 163, 206, 249, 282, 315, 348, 381, 414, 467, 490, 523, 546, 569, 602, 635, 678, 701, 724, 737, 760, 783, 806, 819, 842, 875, 898, 911, 934, 947, 970], 140) := by decide +kernel
theorem dL_law_172 : decode cL_law 172 = .ok (.aload_n 1, 1) := by decide +kernel
theorem dL_law_173 : decode cL_law 173 = .ok (.aload_n 0, 1) := by decide +kernel
theorem dL_law_174 : decode cL_law 174 = .ok (.iload_n 3, 1) := by decide +kernel
theorem dL_law_175 : decode cL_law 175 = .ok (.iconst 1, 1) := by decide +kernel
theorem dL_law_176 : decode cL_law 176 = .ok (.iadd, 1) := by decide +kernel
theorem dL_law_177 : decode cL_law 177 = .ok (.iaload, 1) := by decide +kernel
theorem dL_law_178 : decode cL_law 178 = .ok (.invokevirtual 13, 3) := by decide +kernel
theorem dL_law_181 : decode cL_law 181 = .ok (.aload_n 2, 1) := by decide +kernel
theorem dL_law_182 : decode cL_law 182 = .ok (.aload_n 0, 1) := by decide +kernel
theorem dL_law_183 : decode cL_law 183 = .ok (.iload_n 3, 1) := by decide +kernel
theorem dL_law_184 : decode cL_law 184 = .ok (.iconst 1, 1) := by decide +kernel
theorem dL_law_185 : decode cL_law 185 = .ok (.iadd, 1) := by decide +kernel
theorem dL_law_186 : decode cL_law 186 = .ok (.iaload, 1) := by decide +kernel
theorem dL_law_187 : decode cL_law 187 = .ok (.invokevirtual 17, 3) := by decide +kernel
theorem dL_law_190 : decode cL_law 190 = .ok (.if_icmp .eq 825, 3) := by decide +kernel
theorem dL_law_193 : decode cL_law 193 = .ok (.iconst 0, 1) := by decide +kernel
theorem dL_law_194 : decode cL_law 194 = .ok (.ireturn, 1) := by decide +kernel
theorem dL_law_195 : decode cL_law 195 = .ok (.aload_n 1, 1) := by decide +kernel
theorem dL_law_196 : decode cL_law 196 = .ok (.aload_n 0, 1) := by decide +kernel
theorem dL_law_197 : decode cL_law 197 = .ok (.iload_n 3, 1) := by decide +kernel
theorem dL_law_198 : decode cL_law 198 = .ok (.iconst 1, 1) := by decide +kernel
theorem dL_law_199 : decode cL_law 199 = .ok (.iadd, 1) := by decide +kernel
theorem dL_law_200 : decode cL_law 200 = .ok (.iaload, 1) := by decide +kernel
theorem dL_law_201 : decode cL_law 201 = .ok (.aload_n 0, 1) := by decide +kernel
theorem dL_law_202 : decode cL_law 202 = .ok (.iload_n 3, 1) := by decide +kernel
theorem dL_law_203 : decode cL_law 203 = .ok (.iconst 2, 1) := by decide +kernel
theorem dL_law_204 : decode cL_law 204 = .ok (.iadd, 1) := by decide +kernel
theorem dL_law_205 : decode cL_law 205 = .ok (.iaload, 1) := by decide +kernel
theorem dL_law_206 : decode cL_law 206 = .ok (.aload_n 0, 1) := by decide +kernel
theorem dL_law_207 : decode cL_law 207 = .ok (.iload_n 3, 1) := by decide +kernel
theorem dL_law_208 : decode cL_law 208 = .ok (.iconst 3, 1) := by decide +kernel
theorem dL_law_209 : decode cL_law 209 = .ok (.iadd, 1) := by decide +kernel
theorem dL_law_210 : decode cL_law 210 = .ok (.iaload, 1) := by decide +kernel
theorem dL_law_211 : decode cL_law 211 = .ok (.invokevirtual 18, 3) := by decide +kernel
theorem dL_law_214 : decode cL_law 214 = .ok (.aload_n 2, 1) := by decide +kernel
theorem dL_law_215 : decode cL_law 215 = .ok (.aload_n 0, 1) := by decide +kernel
theorem dL_law_216 : decode cL_law 216 = .ok (.iload_n 3, 1) := by decide +kernel
theorem dL_law_217 : decode cL_law 217 = .ok (.iconst 1, 1) := by decide +kernel
theorem dL_law_218 : decode cL_law 218 = .ok (.iadd, 1) := by decide +kernel
theorem dL_law_219 : decode cL_law 219 = .ok (.iaload, 1) := by decide +kernel
theorem dL_law_220 : decode cL_law 220 = .ok (.aload_n 0, 1) := by decide +kernel
theorem dL_law_221 : decode cL_law 221 = .ok (.iload_n 3, 1) := by decide +kernel
theorem dL_law_222 : decode cL_law 222 = .ok (.iconst 2, 1) := by decide +kernel
theorem dL_law_223 : decode cL_law 223 = .ok (.iadd, 1) := by decide +kernel
theorem dL_law_224 : decode cL_law 224 = .ok (.iaload, 1) := by decide +kernel
theorem dL_law_225 : decode cL_law 225 = .ok (.aload_n 0, 1) := by decide +kernel
theorem dL_law_226 : decode cL_law 226 = .ok (.iload_n 3, 1) := by decide +kernel
theorem dL_law_227 : decode cL_law 227 = .ok (.iconst 3, 1) := by decide +kernel
theorem dL_law_228 : decode cL_law 228 = .ok (.iadd, 1) := by decide +kernel
theorem dL_law_229 : decode cL_law 229 = .ok (.iaload, 1) := by decide +kernel
theorem dL_law_230 : decode cL_law 230 = .ok (.invokevirtual 22, 3) := by decide +kernel
theorem dL_law_233 : decode cL_law 233 = .ok (.if_icmp .eq 782, 3) := by decide +kernel
theorem dL_law_236 : decode cL_law 236 = .ok (.iconst 0, 1) := by decide +kernel
theorem dL_law_237 : decode cL_law 237 = .ok (.ireturn, 1) := by decide +kernel
theorem dL_law_238 : decode cL_law 238 = .ok (.aload_n 1, 1) := by decide +kernel
theorem dL_law_239 : decode cL_law 239 = .ok (.aload_n 0, 1) := by decide +kernel
theorem dL_law_240 : decode cL_law 240 = .ok (.iload_n 3, 1) := by decide +kernel
theorem dL_law_241 : decode cL_law 241 = .ok (.iconst 1, 1) := by decide +kernel
theorem dL_law_242 : decode cL_law 242 = .ok (.iadd, 1) := by decide +kernel
theorem dL_law_243 : decode cL_law 243 = .ok (.iaload, 1) := by decide +kernel
theorem dL_law_244 : decode cL_law 244 = .ok (.aload_n 0, 1) := by decide +kernel
theorem dL_law_245 : decode cL_law 245 = .ok (.iload_n 3, 1) := by decide +kernel
theorem dL_law_246 : decode cL_law 246 = .ok (.iconst 2, 1) := by decide +kernel
theorem dL_law_247 : decode cL_law 247 = .ok (.iadd, 1) := by decide +kernel
theorem dL_law_248 : decode cL_law 248 = .ok (.iaload, 1) := by decide +kernel
theorem dL_law_249 : decode cL_law 249 = .ok (.aload_n 0, 1) := by decide +kernel
theorem dL_law_250 : decode cL_law 250 = .ok (.iload_n 3, 1) := by decide +kernel
theorem dL_law_251 : decode cL_law 251 = .ok (.iconst 3, 1) := by decide +kernel
theorem dL_law_252 : decode cL_law 252 = .ok (.iadd, 1) := by decide +kernel
theorem dL_law_253 : decode cL_law 253 = .ok (.iaload, 1) := by decide +kernel
theorem dL_law_254 : decode cL_law 254 = .ok (.invokevirtual 23, 3) := by decide +kernel
theorem dL_law_257 : decode cL_law 257 = .ok (.aload_n 2, 1) := by decide +kernel
theorem dL_law_258 : decode cL_law 258 = .ok (.aload_n 0, 1) := by decide +kernel
theorem dL_law_259 : decode cL_law 259 = .ok (.iload_n 3, 1) := by decide +kernel
theorem dL_law_260 : decode cL_law 260 = .ok (.iconst 1, 1) := by decide +kernel
theorem dL_law_261 : decode cL_law 261 = .ok (.iadd, 1) := by decide +kernel
theorem dL_law_262 : decode cL_law 262 = .ok (.iaload, 1) := by decide +kernel
theorem dL_law_263 : decode cL_law 263 = .ok (.aload_n 0, 1) := by decide +kernel
theorem dL_law_264 : decode cL_law 264 = .ok (.iload_n 3, 1) := by decide +kernel
theorem dL_law_265 : decode cL_law 265 = .ok (.iconst 2, 1) := by decide +kernel
theorem dL_law_266 : decode cL_law 266 = .ok (.iadd, 1) := by decide +kernel
theorem dL_law_267 : decode cL_law 267 = .ok (.iaload, 1) := by decide +kernel
theorem dL_law_268 : decode cL_law 268 = .ok (.aload_n 0, 1) := by decide +kernel
theorem dL_law_269 : decode cL_law 269 = .ok (.iload_n 3, 1) := by decide +kernel
theorem dL_law_270 : decode cL_law 270 = .ok (.iconst 3, 1) := by decide +kernel
theorem dL_law_271 : decode cL_law 271 = .ok (.iadd, 1) := by decide +kernel
theorem dL_law_272 : decode cL_law 272 = .ok (.iaload, 1) := by decide +kernel
theorem dL_law_273 : decode cL_law 273 = .ok (.invokevirtual 26, 3) := by decide +kernel
theorem dL_law_276 : decode cL_law 276 = .ok (.if_icmp .eq 739, 3) := by decide +kernel
theorem dL_law_279 : decode cL_law 279 = .ok (.iconst 0, 1) := by decide +kernel
theorem dL_law_280 : decode cL_law 280 = .ok (.ireturn, 1) := by decide +kernel
theorem dL_law_281 : decode cL_law 281 = .ok (.aload_n 1, 1) := by decide +kernel
theorem dL_law_282 : decode cL_law 282 = .ok (.aload_n 0, 1) := by decide +kernel
theorem dL_law_283 : decode cL_law 283 = .ok (.iload_n 3, 1) := by decide +kernel
theorem dL_law_284 : decode cL_law 284 = .ok (.iconst 1, 1) := by decide +kernel
theorem dL_law_285 : decode cL_law 285 = .ok (.iadd, 1) := by decide +kernel
theorem dL_law_286 : decode cL_law 286 = .ok (.iaload, 1) := by decide +kernel
theorem dL_law_287 : decode cL_law 287 = .ok (.aload_n 0, 1) := by decide +kernel
theorem dL_law_288 : decode cL_law 288 = .ok (.iload_n 3, 1) := by decide +kernel
theorem dL_law_289 : decode cL_law 289 = .ok (.iconst 2, 1) := by decide +kernel
theorem dL_law_290 : decode cL_law 290 = .ok (.iadd, 1) := by decide +kernel
theorem dL_law_291 : decode cL_law 291 = .ok (.iaload, 1) := by decide +kernel
theorem dL_law_292 : decode cL_law 292 = .ok (.invokevirtual 27, 3) := by decide +kernel
theorem dL_law_295 : decode cL_law 295 = .ok (.aload_n 2, 1) := by decide +kernel
theorem dL_law_296 : decode cL_law 296 = .ok (.aload_n 0, 1) := by decide +kernel
theorem dL_law_297 : decode cL_law 297 = .ok (.iload_n 3, 1) := by decide +kernel
theorem dL_law_298 : decode cL_law 298 = .ok (.iconst 1, 1) := by decide +kernel
theorem dL_law_299 : decode cL_law 299 = .ok (.iadd, 1) := by decide +kernel
theorem dL_law_300 : decode cL_law 300 = .ok (.iaload, 1) := by decide +kernel
theorem dL_law_301 : decode cL_law 301 = .ok (.aload_n 0, 1) := by decide +kernel
theorem dL_law_302 : decode cL_law 302 = .ok (.iload_n 3, 1) := by decide +kernel
theorem dL_law_303 : decode cL_law 303 = .ok (.iconst 2, 1) := by decide +kernel
theorem dL_law_304 : decode cL_law 304 = .ok (.iadd, 1) := by decide +kernel
theorem dL_law_305 : decode cL_law 305 = .ok (.iaload, 1) := by decide +kernel
theorem dL_law_306 : decode cL_law 306 = .ok (.invokevirtual 31, 3) := by decide +kernel
theorem dL_law_309 : decode cL_law 309 = .ok (.if_icmp .eq 706, 3) := by decide +kernel
theorem dL_law_312 : decode cL_law 312 = .ok (.iconst 0, 1) := by decide +kernel
theorem dL_law_313 : decode cL_law 313 = .ok (.ireturn, 1) := by decide +kernel
theorem dL_law_314 : decode cL_law 314 = .ok (.aload_n 1, 1) := by decide +kernel
theorem dL_law_315 : decode cL_law 315 = .ok (.aload_n 0, 1) := by decide +kernel
theorem dL_law_316 : decode cL_law 316 = .ok (.iload_n 3, 1) := by decide +kernel
theorem dL_law_317 : decode cL_law 317 = .ok (.iconst 1, 1) := by decide +kernel
theorem dL_law_318 : decode cL_law 318 = .ok (.iadd, 1) := by decide +kernel
theorem dL_law_319 : decode cL_law 319 = .ok (.iaload, 1) := by decide +kernel
theorem dL_law_320 : decode cL_law 320 = .ok (.aload_n 0, 1) := by decide +kernel
theorem dL_law_321 : decode cL_law 321 = .ok (.iload_n 3, 1) := by decide +kernel
theorem dL_law_322 : decode cL_law 322 = .ok (.iconst 2, 1) := by decide +kernel
theorem dL_law_323 : decode cL_law 323 = .ok (.iadd, 1) := by decide +kernel
theorem dL_law_324 : decode cL_law 324 = .ok (.iaload, 1) := by decide +kernel
theorem dL_law_325 : decode cL_law 325 = .ok (.invokevirtual 32, 3) := by decide +kernel
theorem dL_law_328 : decode cL_law 328 = .ok (.aload_n 2, 1) := by decide +kernel
theorem dL_law_329 : decode cL_law 329 = .ok (.aload_n 0, 1) := by decide +kernel
theorem dL_law_330 : decode cL_law 330 = .ok (.iload_n 3, 1) := by decide +kernel
theorem dL_law_331 : decode cL_law 331 = .ok (.iconst 1, 1) := by decide +kernel
theorem dL_law_332 : decode cL_law 332 = .ok (.iadd, 1) := by decide +kernel
theorem dL_law_333 : decode cL_law 333 = .ok (.iaload, 1) := by decide +kernel
theorem dL_law_334 : decode cL_law 334 = .ok (.aload_n 0, 1) := by decide +kernel
theorem dL_law_335 : decode cL_law 335 = .ok (.iload_n 3, 1) := by decide +kernel
theorem dL_law_336 : decode cL_law 336 = .ok (.iconst 2, 1) := by decide +kernel
theorem dL_law_337 : decode cL_law 337 = .ok (.iadd, 1) := by decide +kernel
theorem dL_law_338 : decode cL_law 338 = .ok (.iaload, 1) := by decide +kernel
theorem dL_law_339 : decode cL_law 339 = .ok (.invokevirtual 35, 3) := by decide +kernel
theorem dL_law_342 : decode cL_law 342 = .ok (.if_icmp .eq 673, 3) := by decide +kernel
theorem dL_law_345 : decode cL_law 345 = .ok (.iconst 0, 1) := by decide +kernel
theorem dL_law_346 : decode cL_law 346 = .ok (.ireturn, 1) := by decide +kernel
theorem dL_law_347 : decode cL_law 347 = .ok (.aload_n 1, 1) := by decide +kernel
theorem dL_law_348 : decode cL_law 348 = .ok (.aload_n 0, 1) := by decide +kernel
theorem dL_law_349 : decode cL_law 349 = .ok (.iload_n 3, 1) := by decide +kernel
theorem dL_law_350 : decode cL_law 350 = .ok (.iconst 1, 1) := by decide +kernel
theorem dL_law_351 : decode cL_law 351 = .ok (.iadd, 1) := by decide +kernel
theorem dL_law_352 : decode cL_law 352 = .ok (.iaload, 1) := by decide +kernel
theorem dL_law_353 : decode cL_law 353 = .ok (.aload_n 0, 1) := by decide +kernel
theorem dL_law_354 : decode cL_law 354 = .ok (.iload_n 3, 1) := by decide +kernel
theorem dL_law_355 : decode cL_law 355 = .ok (.iconst 2, 1) := by decide +kernel
theorem dL_law_356 : decode cL_law 356 = .ok (.iadd, 1) := by decide +kernel
theorem dL_law_357 : decode cL_law 357 = .ok (.iaload, 1) := by decide +kernel
theorem dL_law_358 : decode cL_law 358 = .ok (.invokevirtual 36, 3) := by decide +kernel
theorem dL_law_361 : decode cL_law 361 = .ok (.aload_n 2, 1) := by decide +kernel
theorem dL_law_362 : decode cL_law 362 = .ok (.aload_n 0, 1) := by decide +kernel
theorem dL_law_363 : decode cL_law 363 = .ok (.iload_n 3, 1) := by decide +kernel
theorem dL_law_364 : decode cL_law 364 = .ok (.iconst 1, 1) := by decide +kernel
theorem dL_law_365 : decode cL_law 365 = .ok (.iadd, 1) := by decide +kernel
theorem dL_law_366 : decode cL_law 366 = .ok (.iaload, 1) := by decide +kernel
theorem dL_law_367 : decode cL_law 367 = .ok (.aload_n 0, 1) := by decide +kernel
theorem dL_law_368 : decode cL_law 368 = .ok (.iload_n 3, 1) := by decide +kernel
theorem dL_law_369 : decode cL_law 369 = .ok (.iconst 2, 1) := by decide +kernel
theorem dL_law_370 : decode cL_law 370 = .ok (.iadd, 1) := by decide +kernel
theorem dL_law_371 : decode cL_law 371 = .ok (.iaload, 1) := by decide +kernel
theorem dL_law_372 : decode cL_law 372 = .ok (.invokevirtual 39, 3) := by decide +kernel
theorem dL_law_375 : decode cL_law 375 = .ok (.if_icmp .eq 640, 3) := by decide +kernel
theorem dL_law_378 : decode cL_law 378 = .ok (.iconst 0, 1) := by decide +kernel
theorem dL_law_379 : decode cL_law 379 = .ok (.ireturn, 1) := by decide +kernel
theorem dL_law_380 : decode cL_law 380 = .ok (.aload_n 1, 1) := by decide +kernel
theorem dL_law_381 : decode cL_law 381 = .ok (.aload_n 0, 1) := by decide +kernel
theorem dL_law_382 : decode cL_law 382 = .ok (.iload_n 3, 1) := by decide +kernel
theorem dL_law_383 : decode cL_law 383 = .ok (.iconst 1, 1) := by decide +kernel
theorem dL_law_384 : decode cL_law 384 = .ok (.iadd, 1) := by decide +kernel
theorem dL_law_385 : decode cL_law 385 = .ok (.iaload, 1) := by decide +kernel
theorem dL_law_386 : decode cL_law 386 = .ok (.aload_n 0, 1) := by decide +kernel
theorem dL_law_387 : decode cL_law 387 = .ok (.iload_n 3, 1) := by decide +kernel
theorem dL_law_388 : decode cL_law 388 = .ok (.iconst 2, 1) := by decide +kernel
theorem dL_law_389 : decode cL_law 389 = .ok (.iadd, 1) := by decide +kernel
theorem dL_law_390 : decode cL_law 390 = .ok (.iaload, 1) := by decide +kernel
theorem dL_law_391 : decode cL_law 391 = .ok (.invokevirtual 40, 3) := by decide +kernel
theorem dL_law_394 : decode cL_law 394 = .ok (.aload_n 2, 1) := by decide +kernel
theorem dL_law_395 : decode cL_law 395 = .ok (.aload_n 0, 1) := by decide +kernel
theorem dL_law_396 : decode cL_law 396 = .ok (.iload_n 3, 1) := by decide +kernel
theorem dL_law_397 : decode cL_law 397 = .ok (.iconst 1, 1) := by decide +kernel
theorem dL_law_398 : decode cL_law 398 = .ok (.iadd, 1) := by decide +kernel
theorem dL_law_399 : decode cL_law 399 = .ok (.iaload, 1) := by decide +kernel
theorem dL_law_400 : decode cL_law 400 = .ok (.aload_n 0, 1) := by decide +kernel
theorem dL_law_401 : decode cL_law 401 = .ok (.iload_n 3, 1) := by decide +kernel
theorem dL_law_402 : decode cL_law 402 = .ok (.iconst 2, 1) := by decide +kernel
theorem dL_law_403 : decode cL_law 403 = .ok (.iadd, 1) := by decide +kernel
theorem dL_law_404 : decode cL_law 404 = .ok (.iaload, 1) := by decide +kernel
theorem dL_law_405 : decode cL_law 405 = .ok (.invokevirtual 43, 3) := by decide +kernel
theorem dL_law_408 : decode cL_law 408 = .ok (.if_icmp .eq 607, 3) := by decide +kernel
theorem dL_law_411 : decode cL_law 411 = .ok (.iconst 0, 1) := by decide +kernel
theorem dL_law_412 : decode cL_law 412 = .ok (.ireturn, 1) := by decide +kernel
theorem dL_law_413 : decode cL_law 413 = .ok (.aload_n 1, 1) := by decide +kernel
theorem dL_law_414 : decode cL_law 414 = .ok (.aload_n 0, 1) := by decide +kernel
theorem dL_law_415 : decode cL_law 415 = .ok (.iload_n 3, 1) := by decide +kernel
theorem dL_law_416 : decode cL_law 416 = .ok (.iconst 1, 1) := by decide +kernel
theorem dL_law_417 : decode cL_law 417 = .ok (.iadd, 1) := by decide +kernel
theorem dL_law_418 : decode cL_law 418 = .ok (.iaload, 1) := by decide +kernel
theorem dL_law_419 : decode cL_law 419 = .ok (.aload_n 0, 1) := by decide +kernel
theorem dL_law_420 : decode cL_law 420 = .ok (.iload_n 3, 1) := by decide +kernel
theorem dL_law_421 : decode cL_law 421 = .ok (.iconst 2, 1) := by decide +kernel
theorem dL_law_422 : decode cL_law 422 = .ok (.iadd, 1) := by decide +kernel
theorem dL_law_423 : decode cL_law 423 = .ok (.iaload, 1) := by decide +kernel
theorem dL_law_424 : decode cL_law 424 = .ok (.invokevirtual 44, 3) := by decide +kernel
theorem dL_law_427 : decode cL_law 427 = .ok (.aload_n 2, 1) := by decide +kernel
theorem dL_law_428 : decode cL_law 428 = .ok (.aload_n 0, 1) := by decide +kernel
theorem dL_law_429 : decode cL_law 429 = .ok (.iload_n 3, 1) := by decide +kernel
theorem dL_law_430 : decode cL_law 430 = .ok (.iconst 1, 1) := by decide +kernel
theorem dL_law_431 : decode cL_law 431 = .ok (.iadd, 1) := by decide +kernel
theorem dL_law_432 : decode cL_law 432 = .ok (.iaload, 1) := by decide +kernel
theorem dL_law_433 : decode cL_law 433 = .ok (.aload_n 0, 1) := by decide +kernel
theorem dL_law_434 : decode cL_law 434 = .ok (.iload_n 3, 1) := by decide +kernel
theorem dL_law_435 : decode cL_law 435 = .ok (.iconst 2, 1) := by decide +kernel
theorem dL_law_436 : decode cL_law 436 = .ok (.iadd, 1) := by decide +kernel
theorem dL_law_437 : decode cL_law 437 = .ok (.iaload, 1) := by decide +kernel
theorem dL_law_438 : decode cL_law 438 = .ok (.invokevirtual 47, 3) := by decide +kernel
theorem dL_law_441 : decode cL_law 441 = .ok (.if_icmp .eq 574, 3) := by decide +kernel
theorem dL_law_444 : decode cL_law 444 = .ok (.iconst 0, 1) := by decide +kernel
theorem dL_law_445 : decode cL_law 445 = .ok (.ireturn, 1) := by decide +kernel
theorem dL_law_446 : decode cL_law 446 = .ok (.aload_n 1, 1) := by decide +kernel
theorem dL_law_447 : decode cL_law 447 = .ok (.aload_n 0, 1) := by decide +kernel
theorem dL_law_448 : decode cL_law 448 = .ok (.iload_n 3, 1) := by decide +kernel
theorem dL_law_449 : decode cL_law 449 = .ok (.iconst 1, 1) := by decide +kernel
theorem dL_law_450 : decode cL_law 450 = .ok (.iadd, 1) := by decide +kernel
theorem dL_law_451 : decode cL_law 451 = .ok (.iaload, 1) := by decide +kernel
theorem dL_law_452 : decode cL_law 452 = .ok (.aload_n 0, 1) := by decide +kernel
theorem dL_law_453 : decode cL_law 453 = .ok (.iload_n 3, 1) := by decide +kernel
theorem dL_law_454 : decode cL_law 454 = .ok (.iconst 2, 1) := by decide +kernel
theorem dL_law_455 : decode cL_law 455 = .ok (.iadd, 1) := by decide +kernel
theorem dL_law_456 : decode cL_law 456 = .ok (.iaload, 1) := by decide +kernel
theorem dL_law_457 : decode cL_law 457 = .ok (.aload_n 0, 1) := by decide +kernel
theorem dL_law_458 : decode cL_law 458 = .ok (.iload_n 3, 1) := by decide +kernel
theorem dL_law_459 : decode cL_law 459 = .ok (.iconst 3, 1) := by decide +kernel
theorem dL_law_460 : decode cL_law 460 = .ok (.iadd, 1) := by decide +kernel
theorem dL_law_461 : decode cL_law 461 = .ok (.iaload, 1) := by decide +kernel
theorem dL_law_462 : decode cL_law 462 = .ok (.aload_n 0, 1) := by decide +kernel
theorem dL_law_463 : decode cL_law 463 = .ok (.iload_n 3, 1) := by decide +kernel
theorem dL_law_464 : decode cL_law 464 = .ok (.iconst 4, 1) := by decide +kernel
theorem dL_law_465 : decode cL_law 465 = .ok (.iadd, 1) := by decide +kernel
theorem dL_law_466 : decode cL_law 466 = .ok (.iaload, 1) := by decide +kernel
theorem dL_law_467 : decode cL_law 467 = .ok (.invokevirtual 48, 3) := by decide +kernel
theorem dL_law_470 : decode cL_law 470 = .ok (.aload_n 2, 1) := by decide +kernel
theorem dL_law_471 : decode cL_law 471 = .ok (.aload_n 0, 1) := by decide +kernel
theorem dL_law_472 : decode cL_law 472 = .ok (.iload_n 3, 1) := by decide +kernel
theorem dL_law_473 : decode cL_law 473 = .ok (.iconst 1, 1) := by decide +kernel
theorem dL_law_474 : decode cL_law 474 = .ok (.iadd, 1) := by decide +kernel
theorem dL_law_475 : decode cL_law 475 = .ok (.iaload, 1) := by decide +kernel
theorem dL_law_476 : decode cL_law 476 = .ok (.aload_n 0, 1) := by decide +kernel
theorem dL_law_477 : decode cL_law 477 = .ok (.iload_n 3, 1) := by decide +kernel
theorem dL_law_478 : decode cL_law 478 = .ok (.iconst 2, 1) := by decide +kernel
theorem dL_law_479 : decode cL_law 479 = .ok (.iadd, 1) := by decide +kernel
theorem dL_law_480 : decode cL_law 480 = .ok (.iaload, 1) := by decide +kernel
theorem dL_law_481 : decode cL_law 481 = .ok (.aload_n 0, 1) := by decide +kernel
theorem dL_law_482 : decode cL_law 482 = .ok (.iload_n 3, 1) := by decide +kernel
theorem dL_law_483 : decode cL_law 483 = .ok (.iconst 3, 1) := by decide +kernel
theorem dL_law_484 : decode cL_law 484 = .ok (.iadd, 1) := by decide +kernel
theorem dL_law_485 : decode cL_law 485 = .ok (.iaload, 1) := by decide +kernel
theorem dL_law_486 : decode cL_law 486 = .ok (.aload_n 0, 1) := by decide +kernel
theorem dL_law_487 : decode cL_law 487 = .ok (.iload_n 3, 1) := by decide +kernel
theorem dL_law_488 : decode cL_law 488 = .ok (.iconst 4, 1) := by decide +kernel
theorem dL_law_489 : decode cL_law 489 = .ok (.iadd, 1) := by decide +kernel
theorem dL_law_490 : decode cL_law 490 = .ok (.iaload, 1) := by decide +kernel
theorem dL_law_491 : decode cL_law 491 = .ok (.invokevirtual 52, 3) := by decide +kernel
theorem dL_law_494 : decode cL_law 494 = .ok (.if_icmp .eq 521, 3) := by decide +kernel
theorem dL_law_497 : decode cL_law 497 = .ok (.iconst 0, 1) := by decide +kernel
theorem dL_law_498 : decode cL_law 498 = .ok (.ireturn, 1) := by decide +kernel
theorem dL_law_499 : decode cL_law 499 = .ok (.aload_n 1, 1) := by decide +kernel
theorem dL_law_500 : decode cL_law 500 = .ok (.aload_n 0, 1) := by decide +kernel
theorem dL_law_501 : decode cL_law 501 = .ok (.iload_n 3, 1) := by decide +kernel
theorem dL_law_502 : decode cL_law 502 = .ok (.iconst 1, 1) := by decide +kernel
theorem dL_law_503 : decode cL_law 503 = .ok (.iadd, 1) := by decide +kernel
theorem dL_law_504 : decode cL_law 504 = .ok (.iaload, 1) := by decide +kernel
theorem dL_law_505 : decode cL_law 505 = .ok (.invokevirtual 53, 3) := by decide +kernel
theorem dL_law_508 : decode cL_law 508 = .ok (.aload_n 2, 1) := by decide +kernel
theorem dL_law_509 : decode cL_law 509 = .ok (.aload_n 0, 1) := by decide +kernel
theorem dL_law_510 : decode cL_law 510 = .ok (.iload_n 3, 1) := by decide +kernel
theorem dL_law_511 : decode cL_law 511 = .ok (.iconst 1, 1) := by decide +kernel
theorem dL_law_512 : decode cL_law 512 = .ok (.iadd, 1) := by decide +kernel
theorem dL_law_513 : decode cL_law 513 = .ok (.iaload, 1) := by decide +kernel
theorem dL_law_514 : decode cL_law 514 = .ok (.invokevirtual 56, 3) := by decide +kernel
theorem dL_law_517 : decode cL_law 517 = .ok (.if_icmp .eq 498, 3) := by decide +kernel
theorem dL_law_520 : decode cL_law 520 = .ok (.iconst 0, 1) := by decide +kernel
theorem dL_law_521 : decode cL_law 521 = .ok (.ireturn, 1) := by decide +kernel
theorem dL_law_522 : decode cL_law 522 = .ok (.aload_n 1, 1) := by decide +kernel
theorem dL_law_523 : decode cL_law 523 = .ok (.aload_n 0, 1) := by decide +kernel
theorem dL_law_524 : decode cL_law 524 = .ok (.iload_n 3, 1) := by decide +kernel
theorem dL_law_525 : decode cL_law 525 = .ok (.iconst 1, 1) := by decide +kernel
theorem dL_law_526 : decode cL_law 526 = .ok (.iadd, 1) := by decide +kernel
theorem dL_law_527 : decode cL_law 527 = .ok (.iaload, 1) := by decide +kernel
theorem dL_law_528 : decode cL_law 528 = .ok (.aload_n 0, 1) := by decide +kernel
theorem dL_law_529 : decode cL_law 529 = .ok (.iload_n 3, 1) := by decide +kernel
theorem dL_law_530 : decode cL_law 530 = .ok (.iconst 2, 1) := by decide +kernel
theorem dL_law_531 : decode cL_law 531 = .ok (.iadd, 1) := by decide +kernel
theorem dL_law_532 : decode cL_law 532 = .ok (.iaload, 1) := by decide +kernel
theorem dL_law_533 : decode cL_law 533 = .ok (.invokevirtual 57, 3) := by decide +kernel
theorem dL_law_536 : decode cL_law 536 = .ok (.aload_n 2, 1) := by decide +kernel
theorem dL_law_537 : decode cL_law 537 = .ok (.aload_n 0, 1) := by decide +kernel
theorem dL_law_538 : decode cL_law 538 = .ok (.iload_n 3, 1) := by decide +kernel
theorem dL_law_539 : decode cL_law 539 = .ok (.iconst 1, 1) := by decide +kernel
theorem dL_law_540 : decode cL_law 540 = .ok (.iadd, 1) := by decide +kernel
theorem dL_law_541 : decode cL_law 541 = .ok (.iaload, 1) := by decide +kernel
theorem dL_law_542 : decode cL_law 542 = .ok (.aload_n 0, 1) := by decide +kernel
theorem dL_law_543 : decode cL_law 543 = .ok (.iload_n 3, 1) := by decide +kernel
theorem dL_law_544 : decode cL_law 544 = .ok (.iconst 2, 1) := by decide +kernel
theorem dL_law_545 : decode cL_law 545 = .ok (.iadd, 1) := by decide +kernel
theorem dL_law_546 : decode cL_law 546 = .ok (.iaload, 1) := by decide +kernel
theorem dL_law_547 : decode cL_law 547 = .ok (.invokevirtual 60, 3) := by decide +kernel
theorem dL_law_550 : decode cL_law 550 = .ok (.if_icmp .eq 465, 3) := by decide +kernel
theorem dL_law_553 : decode cL_law 553 = .ok (.iconst 0, 1) := by decide +kernel
theorem dL_law_554 : decode cL_law 554 = .ok (.ireturn, 1) := by decide +kernel
theorem dL_law_555 : decode cL_law 555 = .ok (.aload_n 1, 1) := by decide +kernel
theorem dL_law_556 : decode cL_law 556 = .ok (.aload_n 0, 1) := by decide +kernel
theorem dL_law_557 : decode cL_law 557 = .ok (.iload_n 3, 1) := by decide +kernel
theorem dL_law_558 : decode cL_law 558 = .ok (.iconst 1, 1) := by decide +kernel
theorem dL_law_559 : decode cL_law 559 = .ok (.iadd, 1) := by decide +kernel
theorem dL_law_560 : decode cL_law 560 = .ok (.iaload, 1) := by decide +kernel
theorem dL_law_561 : decode cL_law 561 = .ok (.invokevirtual 61, 3) := by decide +kernel
theorem dL_law_564 : decode cL_law 564 = .ok (.aload_n 2, 1) := by decide +kernel
theorem dL_law_565 : decode cL_law 565 = .ok (.aload_n 0, 1) := by decide +kernel
theorem dL_law_566 : decode cL_law 566 = .ok (.iload_n 3, 1) := by decide +kernel
theorem dL_law_567 : decode cL_law 567 = .ok (.iconst 1, 1) := by decide +kernel
theorem dL_law_568 : decode cL_law 568 = .ok (.iadd, 1) := by decide +kernel
theorem dL_law_569 : decode cL_law 569 = .ok (.iaload, 1) := by decide +kernel
theorem dL_law_570 : decode cL_law 570 = .ok (.invokevirtual 64, 3) := by decide +kernel
theorem dL_law_573 : decode cL_law 573 = .ok (.if_icmp .eq 442, 3) := by decide +kernel
theorem dL_law_576 : decode cL_law 576 = .ok (.iconst 0, 1) := by decide +kernel
theorem dL_law_577 : decode cL_law 577 = .ok (.ireturn, 1) := by decide +kernel
theorem dL_law_578 : decode cL_law 578 = .ok (.aload_n 1, 1) := by decide +kernel
theorem dL_law_579 : decode cL_law 579 = .ok (.aload_n 0, 1) := by decide +kernel
theorem dL_law_580 : decode cL_law 580 = .ok (.iload_n 3, 1) := by decide +kernel
theorem dL_law_581 : decode cL_law 581 = .ok (.iconst 1, 1) := by decide +kernel
theorem dL_law_582 : decode cL_law 582 = .ok (.iadd, 1) := by decide +kernel
theorem dL_law_583 : decode cL_law 583 = .ok (.iaload, 1) := by decide +kernel
theorem dL_law_584 : decode cL_law 584 = .ok (.invokevirtual 65, 3) := by decide +kernel
theorem dL_law_587 : decode cL_law 587 = .ok (.aload_n 2, 1) := by decide +kernel
theorem dL_law_588 : decode cL_law 588 = .ok (.aload_n 0, 1) := by decide +kernel
theorem dL_law_589 : decode cL_law 589 = .ok (.iload_n 3, 1) := by decide +kernel
theorem dL_law_590 : decode cL_law 590 = .ok (.iconst 1, 1) := by decide +kernel
theorem dL_law_591 : decode cL_law 591 = .ok (.iadd, 1) := by decide +kernel
theorem dL_law_592 : decode cL_law 592 = .ok (.iaload, 1) := by decide +kernel
theorem dL_law_593 : decode cL_law 593 = .ok (.invokevirtual 68, 3) := by decide +kernel
theorem dL_law_596 : decode cL_law 596 = .ok (.if_icmp .eq 419, 3) := by decide +kernel
theorem dL_law_599 : decode cL_law 599 = .ok (.iconst 0, 1) := by decide +kernel
theorem dL_law_600 : decode cL_law 600 = .ok (.ireturn, 1) := by decide +kernel
theorem dL_law_601 : decode cL_law 601 = .ok (.aload_n 1, 1) := by decide +kernel
theorem dL_law_602 : decode cL_law 602 = .ok (.aload_n 0, 1) := by decide +kernel
theorem dL_law_603 : decode cL_law 603 = .ok (.iload_n 3, 1) := by decide +kernel
theorem dL_law_604 : decode cL_law 604 = .ok (.iconst 1, 1) := by decide +kernel
theorem dL_law_605 : decode cL_law 605 = .ok (.iadd, 1) := by decide +kernel
theorem dL_law_606 : decode cL_law 606 = .ok (.iaload, 1) := by decide +kernel
theorem dL_law_607 : decode cL_law 607 = .ok (.aload_n 0, 1) := by decide +kernel
theorem dL_law_608 : decode cL_law 608 = .ok (.iload_n 3, 1) := by decide +kernel
theorem dL_law_609 : decode cL_law 609 = .ok (.iconst 2, 1) := by decide +kernel
theorem dL_law_610 : decode cL_law 610 = .ok (.iadd, 1) := by decide +kernel
theorem dL_law_611 : decode cL_law 611 = .ok (.iaload, 1) := by decide +kernel
theorem dL_law_612 : decode cL_law 612 = .ok (.invokevirtual 69, 3) := by decide +kernel
theorem dL_law_615 : decode cL_law 615 = .ok (.aload_n 2, 1) := by decide +kernel
theorem dL_law_616 : decode cL_law 616 = .ok (.aload_n 0, 1) := by decide +kernel
theorem dL_law_617 : decode cL_law 617 = .ok (.iload_n 3, 1) := by decide +kernel
theorem dL_law_618 : decode cL_law 618 = .ok (.iconst 1, 1) := by decide +kernel
theorem dL_law_619 : decode cL_law 619 = .ok (.iadd, 1) := by decide +kernel
theorem dL_law_620 : decode cL_law 620 = .ok (.iaload, 1) := by decide +kernel
theorem dL_law_621 : decode cL_law 621 = .ok (.aload_n 0, 1) := by decide +kernel
theorem dL_law_622 : decode cL_law 622 = .ok (.iload_n 3, 1) := by decide +kernel
theorem dL_law_623 : decode cL_law 623 = .ok (.iconst 2, 1) := by decide +kernel
theorem dL_law_624 : decode cL_law 624 = .ok (.iadd, 1) := by decide +kernel
theorem dL_law_625 : decode cL_law 625 = .ok (.iaload, 1) := by decide +kernel
theorem dL_law_626 : decode cL_law 626 = .ok (.invokevirtual 72, 3) := by decide +kernel
theorem dL_law_629 : decode cL_law 629 = .ok (.if_icmp .eq 386, 3) := by decide +kernel
theorem dL_law_632 : decode cL_law 632 = .ok (.iconst 0, 1) := by decide +kernel
theorem dL_law_633 : decode cL_law 633 = .ok (.ireturn, 1) := by decide +kernel
theorem dL_law_634 : decode cL_law 634 = .ok (.aload_n 1, 1) := by decide +kernel
theorem dL_law_635 : decode cL_law 635 = .ok (.aload_n 0, 1) := by decide +kernel
theorem dL_law_636 : decode cL_law 636 = .ok (.iload_n 3, 1) := by decide +kernel
theorem dL_law_637 : decode cL_law 637 = .ok (.iconst 1, 1) := by decide +kernel
theorem dL_law_638 : decode cL_law 638 = .ok (.iadd, 1) := by decide +kernel
theorem dL_law_639 : decode cL_law 639 = .ok (.iaload, 1) := by decide +kernel
theorem dL_law_640 : decode cL_law 640 = .ok (.aload_n 0, 1) := by decide +kernel
theorem dL_law_641 : decode cL_law 641 = .ok (.iload_n 3, 1) := by decide +kernel
theorem dL_law_642 : decode cL_law 642 = .ok (.iconst 2, 1) := by decide +kernel
theorem dL_law_643 : decode cL_law 643 = .ok (.iadd, 1) := by decide +kernel
theorem dL_law_644 : decode cL_law 644 = .ok (.iaload, 1) := by decide +kernel
theorem dL_law_645 : decode cL_law 645 = .ok (.invokevirtual 73, 3) := by decide +kernel
theorem dL_law_648 : decode cL_law 648 = .ok (.aload_n 2, 1) := by decide +kernel
theorem dL_law_649 : decode cL_law 649 = .ok (.aload_n 0, 1) := by decide +kernel
theorem dL_law_650 : decode cL_law 650 = .ok (.iload_n 3, 1) := by decide +kernel
theorem dL_law_651 : decode cL_law 651 = .ok (.iconst 1, 1) := by decide +kernel
theorem dL_law_652 : decode cL_law 652 = .ok (.iadd, 1) := by decide +kernel
theorem dL_law_653 : decode cL_law 653 = .ok (.iaload, 1) := by decide +kernel
theorem dL_law_654 : decode cL_law 654 = .ok (.aload_n 0, 1) := by decide +kernel
theorem dL_law_655 : decode cL_law 655 = .ok (.iload_n 3, 1) := by decide +kernel
theorem dL_law_656 : decode cL_law 656 = .ok (.iconst 2, 1) := by decide +kernel
theorem dL_law_657 : decode cL_law 657 = .ok (.iadd, 1) := by decide +kernel
theorem dL_law_658 : decode cL_law 658 = .ok (.iaload, 1) := by decide +kernel
theorem dL_law_659 : decode cL_law 659 = .ok (.invokevirtual 76, 3) := by decide +kernel
theorem dL_law_662 : decode cL_law 662 = .ok (.if_icmp .eq 353, 3) := by decide +kernel
theorem dL_law_665 : decode cL_law 665 = .ok (.iconst 0, 1) := by decide +kernel
theorem dL_law_666 : decode cL_law 666 = .ok (.ireturn, 1) := by decide +kernel
theorem dL_law_667 : decode cL_law 667 = .ok (.aload_n 1, 1) := by decide +kernel
theorem dL_law_668 : decode cL_law 668 = .ok (.aload_n 0, 1) := by decide +kernel
theorem dL_law_669 : decode cL_law 669 = .ok (.iload_n 3, 1) := by decide +kernel
theorem dL_law_670 : decode cL_law 670 = .ok (.iconst 1, 1) := by decide +kernel
theorem dL_law_671 : decode cL_law 671 = .ok (.iadd, 1) := by decide +kernel
theorem dL_law_672 : decode cL_law 672 = .ok (.iaload, 1) := by decide +kernel
theorem dL_law_673 : decode cL_law 673 = .ok (.aload_n 0, 1) := by decide +kernel
theorem dL_law_674 : decode cL_law 674 = .ok (.iload_n 3, 1) := by decide +kernel
theorem dL_law_675 : decode cL_law 675 = .ok (.iconst 2, 1) := by decide +kernel
theorem dL_law_676 : decode cL_law 676 = .ok (.iadd, 1) := by decide +kernel
theorem dL_law_677 : decode cL_law 677 = .ok (.iaload, 1) := by decide +kernel
theorem dL_law_678 : decode cL_law 678 = .ok (.aload_n 0, 1) := by decide +kernel
theorem dL_law_679 : decode cL_law 679 = .ok (.iload_n 3, 1) := by decide +kernel
theorem dL_law_680 : decode cL_law 680 = .ok (.iconst 3, 1) := by decide +kernel
theorem dL_law_681 : decode cL_law 681 = .ok (.iadd, 1) := by decide +kernel
theorem dL_law_682 : decode cL_law 682 = .ok (.iaload, 1) := by decide +kernel
theorem dL_law_683 : decode cL_law 683 = .ok (.invokevirtual 77, 3) := by decide +kernel
theorem dL_law_686 : decode cL_law 686 = .ok (.aload_n 2, 1) := by decide +kernel
theorem dL_law_687 : decode cL_law 687 = .ok (.aload_n 0, 1) := by decide +kernel
theorem dL_law_688 : decode cL_law 688 = .ok (.iload_n 3, 1) := by decide +kernel
theorem dL_law_689 : decode cL_law 689 = .ok (.iconst 1, 1) := by decide +kernel
theorem dL_law_690 : decode cL_law 690 = .ok (.iadd, 1) := by decide +kernel
theorem dL_law_691 : decode cL_law 691 = .ok (.iaload, 1) := by decide +kernel
theorem dL_law_692 : decode cL_law 692 = .ok (.aload_n 0, 1) := by decide +kernel
theorem dL_law_693 : decode cL_law 693 = .ok (.iload_n 3, 1) := by decide +kernel
theorem dL_law_694 : decode cL_law 694 = .ok (.iconst 2, 1) := by decide +kernel
theorem dL_law_695 : decode cL_law 695 = .ok (.iadd, 1) := by decide +kernel
theorem dL_law_696 : decode cL_law 696 = .ok (.iaload, 1) := by decide +kernel
theorem dL_law_697 : decode cL_law 697 = .ok (.aload_n 0, 1) := by decide +kernel
theorem dL_law_698 : decode cL_law 698 = .ok (.iload_n 3, 1) := by decide +kernel
theorem dL_law_699 : decode cL_law 699 = .ok (.iconst 3, 1) := by decide +kernel
theorem dL_law_700 : decode cL_law 700 = .ok (.iadd, 1) := by decide +kernel
theorem dL_law_701 : decode cL_law 701 = .ok (.iaload, 1) := by decide +kernel
theorem dL_law_702 : decode cL_law 702 = .ok (.invokevirtual 80, 3) := by decide +kernel
theorem dL_law_705 : decode cL_law 705 = .ok (.if_icmp .eq 310, 3) := by decide +kernel
theorem dL_law_708 : decode cL_law 708 = .ok (.iconst 0, 1) := by decide +kernel
theorem dL_law_709 : decode cL_law 709 = .ok (.ireturn, 1) := by decide +kernel
theorem dL_law_710 : decode cL_law 710 = .ok (.aload_n 1, 1) := by decide +kernel
theorem dL_law_711 : decode cL_law 711 = .ok (.aload_n 0, 1) := by decide +kernel
theorem dL_law_712 : decode cL_law 712 = .ok (.iload_n 3, 1) := by decide +kernel
theorem dL_law_713 : decode cL_law 713 = .ok (.iconst 1, 1) := by decide +kernel
theorem dL_law_714 : decode cL_law 714 = .ok (.iadd, 1) := by decide +kernel
theorem dL_law_715 : decode cL_law 715 = .ok (.iaload, 1) := by decide +kernel
theorem dL_law_716 : decode cL_law 716 = .ok (.invokevirtual 81, 3) := by decide +kernel
theorem dL_law_719 : decode cL_law 719 = .ok (.aload_n 2, 1) := by decide +kernel
theorem dL_law_720 : decode cL_law 720 = .ok (.aload_n 0, 1) := by decide +kernel
theorem dL_law_721 : decode cL_law 721 = .ok (.iload_n 3, 1) := by decide +kernel
theorem dL_law_722 : decode cL_law 722 = .ok (.iconst 1, 1) := by decide +kernel
theorem dL_law_723 : decode cL_law 723 = .ok (.iadd, 1) := by decide +kernel
theorem dL_law_724 : decode cL_law 724 = .ok (.iaload, 1) := by decide +kernel
theorem dL_law_725 : decode cL_law 725 = .ok (.invokevirtual 84, 3) := by decide +kernel
theorem dL_law_728 : decode cL_law 728 = .ok (.if_icmp .eq 287, 3) := by decide +kernel
theorem dL_law_731 : decode cL_law 731 = .ok (.iconst 0, 1) := by decide +kernel
theorem dL_law_732 : decode cL_law 732 = .ok (.ireturn, 1) := by decide +kernel
theorem dL_law_733 : decode cL_law 733 = .ok (.aload_n 1, 1) := by decide +kernel
theorem dL_law_734 : decode cL_law 734 = .ok (.aload_n 0, 1) := by decide +kernel
theorem dL_law_735 : decode cL_law 735 = .ok (.iload_n 3, 1) := by decide +kernel
theorem dL_law_736 : decode cL_law 736 = .ok (.iconst 1, 1) := by decide +kernel
theorem dL_law_737 : decode cL_law 737 = .ok (.iadd, 1) := by decide +kernel
theorem dL_law_738 : decode cL_law 738 = .ok (.iaload, 1) := by decide +kernel
theorem dL_law_739 : decode cL_law 739 = .ok (.invokevirtual 85, 3) := by decide +kernel
theorem dL_law_742 : decode cL_law 742 = .ok (.aload_n 2, 1) := by decide +kernel
theorem dL_law_743 : decode cL_law 743 = .ok (.aload_n 0, 1) := by decide +kernel
theorem dL_law_744 : decode cL_law 744 = .ok (.iload_n 3, 1) := by decide +kernel
theorem dL_law_745 : decode cL_law 745 = .ok (.iconst 1, 1) := by decide +kernel
theorem dL_law_746 : decode cL_law 746 = .ok (.iadd, 1) := by decide +kernel
theorem dL_law_747 : decode cL_law 747 = .ok (.iaload, 1) := by decide +kernel
theorem dL_law_748 : decode cL_law 748 = .ok (.invokevirtual 88, 3) := by decide +kernel
theorem dL_law_751 : decode cL_law 751 = .ok (.if_icmp .eq 264, 3) := by decide +kernel
theorem dL_law_754 : decode cL_law 754 = .ok (.iconst 0, 1) := by decide +kernel
theorem dL_law_755 : decode cL_law 755 = .ok (.ireturn, 1) := by decide +kernel
theorem dL_law_756 : decode cL_law 756 = .ok (.aload_n 1, 1) := by decide +kernel
theorem dL_law_757 : decode cL_law 757 = .ok (.invokevirtual 89, 3) := by decide +kernel
theorem dL_law_760 : decode cL_law 760 = .ok (.aload_n 2, 1) := by decide +kernel
theorem dL_law_761 : decode cL_law 761 = .ok (.invokevirtual 93, 3) := by decide +kernel
theorem dL_law_764 : decode cL_law 764 = .ok (.if_icmp .eq 251, 3) := by decide +kernel
theorem dL_law_767 : decode cL_law 767 = .ok (.iconst 0, 1) := by decide +kernel
theorem dL_law_768 : decode cL_law 768 = .ok (.ireturn, 1) := by decide +kernel
theorem dL_law_769 : decode cL_law 769 = .ok (.aload_n 1, 1) := by decide +kernel
theorem dL_law_770 : decode cL_law 770 = .ok (.aload_n 0, 1) := by decide +kernel
theorem dL_law_771 : decode cL_law 771 = .ok (.iload_n 3, 1) := by decide +kernel
theorem dL_law_772 : decode cL_law 772 = .ok (.iconst 1, 1) := by decide +kernel
theorem dL_law_773 : decode cL_law 773 = .ok (.iadd, 1) := by decide +kernel
theorem dL_law_774 : decode cL_law 774 = .ok (.iaload, 1) := by decide +kernel
theorem dL_law_775 : decode cL_law 775 = .ok (.invokevirtual 94, 3) := by decide +kernel
theorem dL_law_778 : decode cL_law 778 = .ok (.aload_n 2, 1) := by decide +kernel
theorem dL_law_779 : decode cL_law 779 = .ok (.aload_n 0, 1) := by decide +kernel
theorem dL_law_780 : decode cL_law 780 = .ok (.iload_n 3, 1) := by decide +kernel
theorem dL_law_781 : decode cL_law 781 = .ok (.iconst 1, 1) := by decide +kernel
theorem dL_law_782 : decode cL_law 782 = .ok (.iadd, 1) := by decide +kernel
theorem dL_law_783 : decode cL_law 783 = .ok (.iaload, 1) := by decide +kernel
theorem dL_law_784 : decode cL_law 784 = .ok (.invokevirtual 97, 3) := by decide +kernel
theorem dL_law_787 : decode cL_law 787 = .ok (.if_icmp .eq 228, 3) := by decide +kernel
theorem dL_law_790 : decode cL_law 790 = .ok (.iconst 0, 1) := by decide +kernel
theorem dL_law_791 : decode cL_law 791 = .ok (.ireturn, 1) := by decide +kernel
theorem dL_law_792 : decode cL_law 792 = .ok (.aload_n 1, 1) := by decide +kernel
theorem dL_law_793 : decode cL_law 793 = .ok (.aload_n 0, 1) := by decide +kernel
theorem dL_law_794 : decode cL_law 794 = .ok (.iload_n 3, 1) := by decide +kernel
theorem dL_law_795 : decode cL_law 795 = .ok (.iconst 1, 1) := by decide +kernel
theorem dL_law_796 : decode cL_law 796 = .ok (.iadd, 1) := by decide +kernel
theorem dL_law_797 : decode cL_law 797 = .ok (.iaload, 1) := by decide +kernel
theorem dL_law_798 : decode cL_law 798 = .ok (.invokevirtual 98, 3) := by decide +kernel
theorem dL_law_801 : decode cL_law 801 = .ok (.aload_n 2, 1) := by decide +kernel
theorem dL_law_802 : decode cL_law 802 = .ok (.aload_n 0, 1) := by decide +kernel
theorem dL_law_803 : decode cL_law 803 = .ok (.iload_n 3, 1) := by decide +kernel
theorem dL_law_804 : decode cL_law 804 = .ok (.iconst 1, 1) := by decide +kernel
theorem dL_law_805 : decode cL_law 805 = .ok (.iadd, 1) := by decide +kernel
theorem dL_law_806 : decode cL_law 806 = .ok (.iaload, 1) := by decide +kernel
theorem dL_law_807 : decode cL_law 807 = .ok (.invokevirtual 101, 3) := by decide +kernel
theorem dL_law_810 : decode cL_law 810 = .ok (.if_icmp .eq 205, 3) := by decide +kernel
theorem dL_law_813 : decode cL_law 813 = .ok (.iconst 0, 1) := by decide +kernel
theorem dL_law_814 : decode cL_law 814 = .ok (.ireturn, 1) := by decide +kernel
theorem dL_law_815 : decode cL_law 815 = .ok (.aload_n 1, 1) := by decide +kernel
theorem dL_law_816 : decode cL_law 816 = .ok (.aload_n 0, 1) := by decide +kernel
theorem dL_law_817 : decode cL_law 817 = .ok (.iload_n 3, 1) := by decide +kernel
theorem dL_law_818 : decode cL_law 818 = .ok (.iconst 1, 1) := by decide +kernel
theorem dL_law_819 : decode cL_law 819 = .ok (.iadd, 1) := by decide +kernel
theorem dL_law_820 : decode cL_law 820 = .ok (.iaload, 1) := by decide +kernel
theorem dL_law_821 : decode cL_law 821 = .ok (.invokevirtual 102, 3) := by decide +kernel
theorem dL_law_824 : decode cL_law 824 = .ok (.aload_n 2, 1) := by decide +kernel
theorem dL_law_825 : decode cL_law 825 = .ok (.aload_n 0, 1) := by decide +kernel
theorem dL_law_826 : decode cL_law 826 = .ok (.iload_n 3, 1) := by decide +kernel
theorem dL_law_827 : decode cL_law 827 = .ok (.iconst 1, 1) := by decide +kernel
theorem dL_law_828 : decode cL_law 828 = .ok (.iadd, 1) := by decide +kernel
theorem dL_law_829 : decode cL_law 829 = .ok (.iaload, 1) := by decide +kernel
theorem dL_law_830 : decode cL_law 830 = .ok (.invokevirtual 105, 3) := by decide +kernel
theorem dL_law_833 : decode cL_law 833 = .ok (.if_icmp .eq 182, 3) := by decide +kernel
theorem dL_law_836 : decode cL_law 836 = .ok (.iconst 0, 1) := by decide +kernel
theorem dL_law_837 : decode cL_law 837 = .ok (.ireturn, 1) := by decide +kernel
theorem dL_law_838 : decode cL_law 838 = .ok (.aload_n 1, 1) := by decide +kernel
theorem dL_law_839 : decode cL_law 839 = .ok (.invokevirtual 106, 3) := by decide +kernel
theorem dL_law_842 : decode cL_law 842 = .ok (.aload_n 2, 1) := by decide +kernel
theorem dL_law_843 : decode cL_law 843 = .ok (.invokevirtual 109, 3) := by decide +kernel
theorem dL_law_846 : decode cL_law 846 = .ok (.if_icmp .eq 169, 3) := by decide +kernel
theorem dL_law_849 : decode cL_law 849 = .ok (.iconst 0, 1) := by decide +kernel
theorem dL_law_850 : decode cL_law 850 = .ok (.ireturn, 1) := by decide +kernel
theorem dL_law_851 : decode cL_law 851 = .ok (.aload_n 1, 1) := by decide +kernel
theorem dL_law_852 : decode cL_law 852 = .ok (.aload_n 0, 1) := by decide +kernel
theorem dL_law_853 : decode cL_law 853 = .ok (.iload_n 3, 1) := by decide +kernel
theorem dL_law_854 : decode cL_law 854 = .ok (.iconst 1, 1) := by decide +kernel
theorem dL_law_855 : decode cL_law 855 = .ok (.iadd, 1) := by decide +kernel
theorem dL_law_856 : decode cL_law 856 = .ok (.iaload, 1) := by decide +kernel
theorem dL_law_857 : decode cL_law 857 = .ok (.invokevirtual 110, 3) := by decide +kernel
theorem dL_law_860 : decode cL_law 860 = .ok (.aload_n 2, 1) := by decide +kernel
theorem dL_law_861 : decode cL_law 861 = .ok (.aload_n 0, 1) := by decide +kernel
theorem dL_law_862 : decode cL_law 862 = .ok (.iload_n 3, 1) := by decide +kernel
theorem dL_law_863 : decode cL_law 863 = .ok (.iconst 1, 1) := by decide +kernel
theorem dL_law_864 : decode cL_law 864 = .ok (.iadd, 1) := by decide +kernel
theorem dL_law_865 : decode cL_law 865 = .ok (.iaload, 1) := by decide +kernel
theorem dL_law_866 : decode cL_law 866 = .ok (.invokevirtual 113, 3) := by decide +kernel
theorem dL_law_869 : decode cL_law 869 = .ok (.if_icmp .eq 146, 3) := by decide +kernel
theorem dL_law_872 : decode cL_law 872 = .ok (.iconst 0, 1) := by decide +kernel
theorem dL_law_873 : decode cL_law 873 = .ok (.ireturn, 1) := by decide +kernel
theorem dL_law_874 : decode cL_law 874 = .ok (.aload_n 1, 1) := by decide +kernel
theorem dL_law_875 : decode cL_law 875 = .ok (.aload_n 0, 1) := by decide +kernel
theorem dL_law_876 : decode cL_law 876 = .ok (.iload_n 3, 1) := by decide +kernel
theorem dL_law_877 : decode cL_law 877 = .ok (.iconst 1, 1) := by decide +kernel
theorem dL_law_878 : decode cL_law 878 = .ok (.iadd, 1) := by decide +kernel
theorem dL_law_879 : decode cL_law 879 = .ok (.iaload, 1) := by decide +kernel
theorem dL_law_880 : decode cL_law 880 = .ok (.aload_n 0, 1) := by decide +kernel
theorem dL_law_881 : decode cL_law 881 = .ok (.iload_n 3, 1) := by decide +kernel
theorem dL_law_882 : decode cL_law 882 = .ok (.iconst 2, 1) := by decide +kernel
theorem dL_law_883 : decode cL_law 883 = .ok (.iadd, 1) := by decide +kernel
theorem dL_law_884 : decode cL_law 884 = .ok (.iaload, 1) := by decide +kernel
theorem dL_law_885 : decode cL_law 885 = .ok (.invokevirtual 114, 3) := by decide +kernel
theorem dL_law_888 : decode cL_law 888 = .ok (.aload_n 2, 1) := by decide +kernel
theorem dL_law_889 : decode cL_law 889 = .ok (.aload_n 0, 1) := by decide +kernel
theorem dL_law_890 : decode cL_law 890 = .ok (.iload_n 3, 1) := by decide +kernel
theorem dL_law_891 : decode cL_law 891 = .ok (.iconst 1, 1) := by decide +kernel
theorem dL_law_892 : decode cL_law 892 = .ok (.iadd, 1) := by decide +kernel
theorem dL_law_893 : decode cL_law 893 = .ok (.iaload, 1) := by decide +kernel
theorem dL_law_894 : decode cL_law 894 = .ok (.aload_n 0, 1) := by decide +kernel
theorem dL_law_895 : decode cL_law 895 = .ok (.iload_n 3, 1) := by decide +kernel
theorem dL_law_896 : decode cL_law 896 = .ok (.iconst 2, 1) := by decide +kernel
theorem dL_law_897 : decode cL_law 897 = .ok (.iadd, 1) := by decide +kernel
theorem dL_law_898 : decode cL_law 898 = .ok (.iaload, 1) := by decide +kernel
theorem dL_law_899 : decode cL_law 899 = .ok (.invokevirtual 117, 3) := by decide +kernel
theorem dL_law_902 : decode cL_law 902 = .ok (.if_icmp .eq 113, 3) := by decide +kernel
theorem dL_law_905 : decode cL_law 905 = .ok (.iconst 0, 1) := by decide +kernel
theorem dL_law_906 : decode cL_law 906 = .ok (.ireturn, 1) := by decide +kernel
theorem dL_law_907 : decode cL_law 907 = .ok (.aload_n 1, 1) := by decide +kernel
theorem dL_law_908 : decode cL_law 908 = .ok (.aload_n 0, 1) := by decide +kernel
theorem dL_law_909 : decode cL_law 909 = .ok (.iload_n 3, 1) := by decide +kernel
theorem dL_law_910 : decode cL_law 910 = .ok (.iconst 1, 1) := by decide +kernel
theorem dL_law_911 : decode cL_law 911 = .ok (.iadd, 1) := by decide +kernel
theorem dL_law_912 : decode cL_law 912 = .ok (.iaload, 1) := by decide +kernel
theorem dL_law_913 : decode cL_law 913 = .ok (.invokevirtual 118, 3) := by decide +kernel
theorem dL_law_916 : decode cL_law 916 = .ok (.aload_n 2, 1) := by decide +kernel
theorem dL_law_917 : decode cL_law 917 = .ok (.aload_n 0, 1) := by decide +kernel
theorem dL_law_918 : decode cL_law 918 = .ok (.iload_n 3, 1) := by decide +kernel
theorem dL_law_919 : decode cL_law 919 = .ok (.iconst 1, 1) := by decide +kernel
theorem dL_law_920 : decode cL_law 920 = .ok (.iadd, 1) := by decide +kernel
theorem dL_law_921 : decode cL_law 921 = .ok (.iaload, 1) := by decide +kernel
theorem dL_law_922 : decode cL_law 922 = .ok (.invokevirtual 121, 3) := by decide +kernel
theorem dL_law_925 : decode cL_law 925 = .ok (.if_icmp .eq 90, 3) := by decide +kernel
theorem dL_law_928 : decode cL_law 928 = .ok (.iconst 0, 1) := by decide +kernel
theorem dL_law_929 : decode cL_law 929 = .ok (.ireturn, 1) := by decide +kernel
theorem dL_law_930 : decode cL_law 930 = .ok (.aload_n 1, 1) := by decide +kernel
theorem dL_law_931 : decode cL_law 931 = .ok (.invokevirtual 122, 3) := by decide +kernel
theorem dL_law_934 : decode cL_law 934 = .ok (.aload_n 2, 1) := by decide +kernel
theorem dL_law_935 : decode cL_law 935 = .ok (.invokevirtual 125, 3) := by decide +kernel
theorem dL_law_938 : decode cL_law 938 = .ok (.if_icmp .eq 77, 3) := by decide +kernel
theorem dL_law_941 : decode cL_law 941 = .ok (.iconst 0, 1) := by decide +kernel
theorem dL_law_942 : decode cL_law 942 = .ok (.ireturn, 1) := by decide +kernel
theorem dL_law_943 : decode cL_law 943 = .ok (.aload_n 1, 1) := by decide +kernel
theorem dL_law_944 : decode cL_law 944 = .ok (.aload_n 0, 1) := by decide +kernel
theorem dL_law_945 : decode cL_law 945 = .ok (.iload_n 3, 1) := by decide +kernel
theorem dL_law_946 : decode cL_law 946 = .ok (.iconst 1, 1) := by decide +kernel
theorem dL_law_947 : decode cL_law 947 = .ok (.iadd, 1) := by decide +kernel
theorem dL_law_948 : decode cL_law 948 = .ok (.iaload, 1) := by decide +kernel
theorem dL_law_949 : decode cL_law 949 = .ok (.invokevirtual 126, 3) := by decide +kernel
theorem dL_law_952 : decode cL_law 952 = .ok (.aload_n 2, 1) := by decide +kernel
theorem dL_law_953 : decode cL_law 953 = .ok (.aload_n 0, 1) := by decide +kernel
theorem dL_law_954 : decode cL_law 954 = .ok (.iload_n 3, 1) := by decide +kernel
theorem dL_law_955 : decode cL_law 955 = .ok (.iconst 1, 1) := by decide +kernel
theorem dL_law_956 : decode cL_law 956 = .ok (.iadd, 1) := by decide +kernel
theorem dL_law_957 : decode cL_law 957 = .ok (.iaload, 1) := by decide +kernel
theorem dL_law_958 : decode cL_law 958 = .ok (.invokevirtual 129, 3) := by decide +kernel
theorem dL_law_961 : decode cL_law 961 = .ok (.if_icmp .eq 54, 3) := by decide +kernel
theorem dL_law_964 : decode cL_law 964 = .ok (.iconst 0, 1) := by decide +kernel
theorem dL_law_965 : decode cL_law 965 = .ok (.ireturn, 1) := by decide +kernel
theorem dL_law_966 : decode cL_law 966 = .ok (.aload_n 1, 1) := by decide +kernel
theorem dL_law_967 : decode cL_law 967 = .ok (.invokevirtual 130, 3) := by decide +kernel
theorem dL_law_970 : decode cL_law 970 = .ok (.aload_n 2, 1) := by decide +kernel
theorem dL_law_971 : decode cL_law 971 = .ok (.invokevirtual 133, 3) := by decide +kernel
theorem dL_law_974 : decode cL_law 974 = .ok (.if_icmp .eq 41, 3) := by decide +kernel
theorem dL_law_977 : decode cL_law 977 = .ok (.iconst 0, 1) := by decide +kernel
theorem dL_law_978 : decode cL_law 978 = .ok (.ireturn, 1) := by decide +kernel
theorem dL_law_979 : decode cL_law 979 = .ok (.aload_n 1, 1) := by decide +kernel
theorem dL_law_980 : decode cL_law 980 = .ok (.aload_n 0, 1) := by decide +kernel
theorem dL_law_981 : decode cL_law 981 = .ok (.iload_n 3, 1) := by decide +kernel
theorem dL_law_982 : decode cL_law 982 = .ok (.iconst 1, 1) := by decide +kernel
theorem dL_law_983 : decode cL_law 983 = .ok (.iadd, 1) := by decide +kernel
theorem dL_law_984 : decode cL_law 984 = .ok (.iaload, 1) := by decide +kernel
theorem dL_law_985 : decode cL_law 985 = .ok (.invokevirtual 134, 3) := by decide +kernel
theorem dL_law_988 : decode cL_law 988 = .ok (.aload_n 2, 1) := by decide +kernel
theorem dL_law_989 : decode cL_law 989 = .ok (.aload_n 0, 1) := by decide +kernel
theorem dL_law_990 : decode cL_law 990 = .ok (.iload_n 3, 1) := by decide +kernel
theorem dL_law_991 : decode cL_law 991 = .ok (.iconst 1, 1) := by decide +kernel
theorem dL_law_992 : decode cL_law 992 = .ok (.iadd, 1) := by decide +kernel
theorem dL_law_993 : decode cL_law 993 = .ok (.iaload, 1) := by decide +kernel
theorem dL_law_994 : decode cL_law 994 = .ok (.invokevirtual 137, 3) := by decide +kernel
theorem dL_law_997 : decode cL_law 997 = .ok (.if_icmp .eq 18, 3) := by decide +kernel
theorem dL_law_1000 : decode cL_law 1000 = .ok (.iconst 0, 1) := by decide +kernel
theorem dL_law_1001 : decode cL_law 1001 = .ok (.ireturn, 1) := by decide +kernel
theorem dL_law_1002 : decode cL_law 1002 = .ok (.aload_n 1, 1) := by decide +kernel
theorem dL_law_1003 : decode cL_law 1003 = .ok (.invokevirtual 138, 3) := by decide +kernel
theorem dL_law_1006 : decode cL_law 1006 = .ok (.aload_n 2, 1) := by decide +kernel
theorem dL_law_1007 : decode cL_law 1007 = .ok (.invokevirtual 141, 3) := by decide +kernel
theorem dL_law_1010 : decode cL_law 1010 = .ok (.if_icmp .eq 5, 3) := by decide +kernel
theorem dL_law_1013 : decode cL_law 1013 = .ok (.iconst 0, 1) := by decide +kernel
theorem dL_law_1014 : decode cL_law 1014 = .ok (.ireturn, 1) := by decide +kernel
theorem dL_law_1015 : decode cL_law 1015 = .ok (.iinc 3 5, 3) := by decide +kernel
theorem dL_law_1018 : decode cL_law 1018 = .ok (.goto (-1000), 3) := by decide +kernel
theorem dL_law_1021 : decode cL_law 1021 = .ok (.iconst 1, 1) := by decide +kernel
theorem dL_law_1022 : decode cL_law 1022 = .ok (.ireturn, 1) := by decide +kernel
end
section
/-! THE TYPED MACHINE, part one: an own judgement over worlds of numbered cells. AW says: from this pc, with these locals, stack and cells, the method goes on to its end with P. -/
abbrev zG : Type := Nat × (Nat → Nat) × va_G × (Nat → ClassId)
def zA (G : zG) (k : Nat) : Nat := if k < 1000000 then G.1 + k else G.2.1 (k - 1000000)
def zV (G : zG) : Value → Value := fun v => match v with
  | .ref k => .ref (zA G k)
  | v => v
def zX (G : zG) : vp_A → vp_A := fun x => match x with
  | (n, .inr (.inr (.inr (.inr f)))) => (n, .inr (.inr (.inr (.inr (fun j => (f j).map (zA G))))))
  | x => x
def zE (G : zG) : va_E → va_E := fun e => match e with
  | .inl (t, x) => .inl (G.2.2.2 t, zX G x)
  | .inr (ci, fs) => .inr (ci, fs.map (zV G))
abbrev zH : Type := Nat → va_E
def zu (h : zH) (a : Nat) (e : va_E) : zH := fun j => if j = a then e else h j
def zWl (G : zG) (n : Nat) (h : zH) : va_W := (List.range n).map fun i => (G.1 + i, zE G (h i))
def lw_ok : List Cond := lw_tbl.filter goodWord
theorem lw_ok_tbl {w : Cond} (h : w ∈ lw_ok) : w ∈ lw_tbl := (List.mem_filter.mp h).1
theorem lw_ok_good {w : Cond} (h : w ∈ lw_ok) : (w.onTables && w.keeps) = true ∨ ∃ ty, w = .arrayClass ty := good_of_word (List.mem_filter.mp h).2
theorem lw_ok_of {w : Cond} (i : Nat) (h : tables_1[i]? = some w) (g : goodWord w = true) : w ∈ lw_ok := List.mem_filter.mpr ⟨List.mem_append_right _ (List.mem_of_getElem? h), g⟩
theorem lw_ok_sel {w : Cond} (i : Nat) (h : (k2_sels lw_privs)[i]? = some w) (g : goodWord w = true) : w ∈ lw_ok := List.mem_filter.mpr ⟨List.mem_append_left _ (List.mem_of_getElem? h), g⟩
def zNl : List (String × Nat × MethodName) := [(RX6, 18, yX3_init), (RX0, 77, yX6_hasBit), (RX0, 81, yX6_isPin), (RX5, 78, yX6_hasBit), (RX2, 36, yX6_hasBit)]
abbrev zM : Type := MethodName × ByteArray × Nat × Option FieldType
def zTy (G : zG) : List (ClassId × FieldType) := [(G.2.2.2 0, .int), (G.2.2.2 1, .char), (G.2.2.2 2, .object RX4), (G.2.2.2 3, .object RX5), (G.2.2.2 4, .array .int)]
theorem zV_cat (G : zG) (v : Value) : (zV G v).category = v.category := by cases v <;> rfl
theorem zV_cats (G : zG) (l : List Value) : ((l.map (zV G)).map fun v => v.category) = l.map fun v => v.category := by
  rw [List.map_map]
  exact List.map_congr_left fun v _ => zV_cat G v
theorem zA_in {G : zG} {a : Nat} (h : a < 1000000) : zA G a = G.1 + a := if_pos h
theorem zWl_get {G : zG} {n i : Nat} {h : zH} (hi : i < n) : (zWl G n h)[i]? = some (G.1 + i, zE G (h i)) := by
  unfold zWl
  rw [List.getElem?_map, List.getElem?_range hi]
  rfl
theorem zWl_len {G : zG} {n : Nat} {h : zH} : (zWl G n h).length = n := by simp [zWl]
theorem zWl_inv {G : zG} {n i : Nat} {h : zH} {q : Nat × va_E} (hq : (zWl G n h)[i]? = some q) : i < n ∧ q = (G.1 + i, zE G (h i)) := by
  have hi : i < n := by
    have := (List.getElem?_eq_some_iff.mp hq).1
    rwa [zWl_len] at this
  rw [zWl_get hi] at hq
  exact ⟨hi, (Option.some.inj hq).symm⟩
theorem zWl_at {G : zG} {n a : Nat} {h : zH} {e : va_E} (hn : n ≤ 1000000) (ha : a < n) (hh : h a = e) : (zWl G n h)[a]? = some (zA G a, zE G e) := by
  rw [zWl_get ha, zA_in (by omega), hh]
theorem zWl_set {G : zG} {n a : Nat} {h : zH} {e : va_E} (hn : n ≤ 1000000) (ha : a < n) : (zWl G n h).set a (zA G a, zE G e) = zWl G n (zu h a e) := by
  apply List.ext_getElem?
  intro j
  rw [zA_in (by omega), List.getElem?_set]
  by_cases hj : j < n
  · rw [zWl_get hj, zWl_len]
    by_cases hja : a = j
    · subst hja
      rw [if_pos rfl, if_pos ha, zWl_get ha]
      simp [zu]
    · rw [if_neg hja, zWl_get hj]
      simp [zu, show ¬ j = a from fun q => hja q.symm]
  · have e1 : (zWl G n h)[j]? = none := List.getElem?_eq_none (by rw [zWl_len]; omega)
    have e2 : (zWl G n (zu h a e))[j]? = none := List.getElem?_eq_none (by rw [zWl_len]; omega)
    rw [e2, if_neg (show ¬ a = j by omega), e1]
theorem zWl_push {G : zG} {n : Nat} {h : zH} {e : va_E} : zWl G n h ++ [(G.1 + n, zE G e)] = zWl G (n + 1) (zu h n e) := by
  unfold zWl
  rw [List.range_succ, List.map_append]
  congr 1
  · apply List.map_congr_left
    intro i hi
    have := List.mem_range.mp hi
    simp [zu, show ¬ i = n by omega]
  · simp [zu]
theorem zWl_D {G : zG} {n : Nat} {h : zH} : va_D (fun q => G.1 ≤ q) (zWl G n h) := by
  refine ⟨fun i j p q hi hj e => ?_, fun k q hk => ?_⟩
  · obtain ⟨h1, rfl⟩ := zWl_inv hi
    obtain ⟨h2, rfl⟩ := zWl_inv hj
    have : G.1 + i = G.1 + j := e
    omega
  · obtain ⟨h1, rfl⟩ := zWl_inv hk
    exact Nat.le_add_right _ _
/-- the cells stand in the heap, and the heap ends with them -/
def zI (G : zG) (n : Nat) (h : zH) (H : Heap) : Prop := H.size = G.1 + n ∧ n ≤ 1000000 ∧ va_P G.2.2.1 vwCl (zWl G n h) H
def z0 : Nat → Int32 := fun k => ([2, 2, 1, 2, 1, 1, 1, 1] : List Int32).getD k 0
def z1 : Nat → Int32 := fun k => ([5, 7, 1, 2, 1, 1, 1, 8] : List Int32).getD k 0
def zSl : List Nat := [3, 4, 4, 5, 3, 4, 4, 5]
def zSb : List (List Int32) := [[110, 101, 116], [99, 104, 105, 112], [111, 112, 101, 110], [115, 104, 111, 114, 116], [108, 111, 119], [104, 105, 103, 104], [100, 101, 97, 100], [98, 108, 101, 115, 115]]
def zSt : List String := ["net", "chip", "open", "short", "low", "high", "dead", "bless"]
def zSi : List Nat := [151, 153, 155, 157, 159, 161, 163, 165]
def zAOA (U : State) : Prop := (Cond.arrayOver (.array .int)).before #[] U = true
theorem zAOA.moved {u U : State} (hvm : u.vm.Alike U.vm) (h : zAOA u) : zAOA U := by
  obtain ⟨comp, c, k, h1, h2, h3, h4, h5⟩ := arrayOverA_spec h
  obtain ⟨k', hk', he⟩ := hvm.2.2 _ _ h3
  have hi : (U.vm.classes.findIdx? fun (x : Class) => match x.kind with | .array component _ => component == comp | _ => false) = some c := by
    rw [hvm.findIdx?_eq _ (fun _ => rfl)]
    exact h2
  have hkind : k'.kind = .array comp (.array .int) := by rw [he]; exact h4
  have f1 : U.vm.findClass (FieldType.array .int).toString = some comp := by rw [hvm.findClass]; exact h1
  have f2 : U.vm.findClass ("[" ++ (FieldType.array .int).toString) = some c := by rw [hvm.findClass]; exact h5
  unfold zAOA Cond.before Cond.holds
  simp only [Cond.value]
  rw [f1, Option.bind_some]
  refine (congrArg (fun o : Option Nat => (o.bind (fun c => (U.vm.classes[c]?).map fun (k : Class) => match k.kind with | .array _ ty => decide (ty = FieldType.array .int) && decide (U.vm.findClass ("[" ++ (FieldType.array .int).toString) = some c) | _ => false) == some true)) hi).trans ?_
  simp [hk', hkind, f2]
/-- what is taken from the tables and from outside: classes, static rows, texts -/
def zS (G : zG) (U : State) (H : Heap) : Prop :=
  va_K G.2.2.1 vwCl (zTy G) U ∧ G.1 ≤ H.size ∧
  (va_Z RX3 "FEWEST_NUMBERS" "[I" (.ref (zA G 1000000)) (fun q => G.1 ≤ q) U H ∧ va_Z RX3 "MOST_NUMBERS" "[I" (.ref (zA G 1000001)) (fun q => G.1 ≤ q) U H ∧ va_Z "java/lang/String" "COMPACT_STRINGS" "Z" (.int 1) (fun q => G.1 ≤ q) U H) ∧
  (va_T .int (zA G 1000000) 8 (fun j => .int (z0 j)) (fun q => G.1 ≤ q) U H ∧ va_T .int (zA G 1000001) 8 (fun j => .int (z1 j)) (fun q => G.1 ≤ q) U H) ∧
  vk_S 8 zSl zSb (fun i => zA G (1000010 + i)) (fun i => zA G (1000020 + i)) (fun q => G.1 ≤ q) U H ∧
  (∀ i, i < 8 → vk_R RX3 (zSi.getD i 0) (zSt.getD i "") (zA G (1000010 + i)) U) ∧
  (∀ q ∈ zNl, va_Nw (.methodLinkNest q.1 q.2.1 q.2.2 RX6) U) ∧ va_AO RX4 U ∧ va_AO RX5 U ∧ zAOA U
theorem zS.go {G : zG} {s U : State} {H H1 : Heap} (h : zS G s H) (hW : s.WarmedH U.vm) (hz : H.size ≤ H1.size) (hq : ∀ a : Nat, a < H.size → ¬ G.1 ≤ a → H1[a]? = H[a]?) : zS G U H1 := by
  obtain ⟨h1, h2, ⟨a1, a2, a3⟩, ⟨b1, b2⟩, h5, h6, h7, h8, h9, h10⟩ := h
  have hv := hW.alike
  exact ⟨va_K.moved hv h1, Nat.le_trans h2 hz, ⟨(a1.moved hv).kept hq, (a2.moved hv).kept hq, (a3.moved hv).kept hq⟩, ⟨(b1.moved hv).kept hq, (b2.moved hv).kept hq⟩, (h5.moved hv).kept hq, fun i hi => (h6 i hi).warm hW, fun q hq => va_Nw.warmM hW (h7 q hq), h8.moved hv, h9.moved hv, h10.moved hv⟩
def zQ (G : zG) (N : Nat) (P : Option Value → zH → Prop) : Array Value → State → Outcome → State → Prop := fun _ st oc t =>
  (∃ (r : Option Value) (h' : zH), oc = .returned (r.map (zV G)) ∧ P r h' ∧ zI G N h' t.heap) ∧ va_F (fun q => G.1 ≤ q) st t
/-- a method's contract over cells -/
def zMt (G : zG) (d : Nat) (M : zM) (as : List Value) (n sl : Nat) (h : zH) (N S : Nat) (P : Option Value → zH → Prop) : Prop :=
  n ≤ N ∧ sl ≤ S ∧ ∀ l : Launch, Met l M.1 (.code M.1 M.2.1 M.2.2.1 M.2.2.2 :: lw_ok) { frames := d, cells := N - n, slots := S - sl, locals := 40 * d } (va_Pc (as.map (zV G)) (fun U => zI G n h U.heap ∧ zS G U U.heap)) (zQ G N P) (N - n) (S - sl) (fun q => G.1 ≤ q)
def zL (G : zG) (nL : Nat) (L : List (Option Value)) (ls : Array Slot) : Prop := ls.size = nL ∧ lv_wf ls ∧ ∀ (i : Nat) (v : Value), L[i]? = some (some v) → ls[i]? = some (.val (zV G v))
def zC (G : zG) (M : zM) (p : Program) (s : State) (m : MethodId) (args : Array Value) (meth : Method) (c : Code) : Prop :=
  p.tables.exec = Jvm.exec ∧ c.code = M.2.1 ∧ c.maxLocals = M.2.2.1 ∧ s.vm.findClass M.1.cls = some m.cls ∧ (∀ w ∈ lw_ok, w.before args s = true) ∧ meth.sig.returnType = M.2.2.2 ∧ meth.locks = false ∧ meth.name = M.1.name ∧ zS G s s.heap
def AW (G : zG) (M : zM) (d N S n0 s0 : Nat) (P : Option Value → zH → Prop) (pc : Nat) (L : List (Option Value)) (st : List Value) (n sl : Nat) (h : zH) : Prop :=
  ∀ (p : Program) (l : Launch) (e : Env) (s : State) (m : MethodId) (args : Array Value) (below : List Frame) (meth : Method) (c : Code) (H : Heap) (locs : List Loc) (ls : Array Slot),
    zC G M p s m args meth c → s.heap.size = G.1 + n0 → zI G n h H → va_S (fun q => G.1 ≤ q) s.heap H locs → zL G M.2.2.1 L ls → (n0 ≤ n ∧ n ≤ N) → (s0 ≤ sl ∧ sl ≤ S) →
    W p l e { frames := d, cells := N - n0, slots := S - s0, locals := 40 * d } s m args below meth c H locs (n - n0) (sl - s0) (MQ below (zQ G N P) args s (N - n0) (S - s0) (fun q => G.1 ≤ q)) (F0 m pc ls (st.map (zV G)))
theorem zL_at {G : zG} {nL i : Nat} {L : List (Option Value)} {ls : Array Slot} {v : Value} (h : zL G nL L ls) (hL : L[i]? = some (some v)) : ls[i]? = some (.val (zV G v)) := h.2.2 i v hL
def zas (G : zG) (L : List (Option Value)) : List (Nat × Value) := (List.range L.length).filterMap fun i => match L[i]? with
  | some (some v) => some (i, zV G v)
  | _ => none
theorem zas_in {G : zG} {L : List (Option Value)} {i : Nat} {v : Value} (h : L[i]? = some (some v)) : (i, zV G v) ∈ zas G L := by
  refine List.mem_filterMap.mpr ⟨i, List.mem_range.mpr (List.getElem?_eq_some_iff.mp h).1, ?_⟩
  simp only [h]
theorem zas_of {G : zG} {L : List (Option Value)} {q : Nat × Value} (h : q ∈ zas G L) : ∃ v, L[q.1]? = some (some v) ∧ q.2 = zV G v := by
  obtain ⟨i, -, hi⟩ := List.mem_filterMap.mp h
  split at hi
  · rename_i v hv
    cases hi
    exact ⟨v, hv, rfl⟩
  · cases hi
theorem zL_has {G : zG} {nL : Nat} {L : List (Option Value)} {ls : Array Slot} (h : zL G nL L ls) : lv_has ls nL (zas G L) := by
  refine ⟨h.1, h.2.1, fun q hq => ?_⟩
  obtain ⟨v, h1, h2⟩ := zas_of hq
  rw [h2]
  exact h.2.2 _ _ h1
def zok (L : List (Option Value)) (i : Nat) : Bool := match i with
  | 0 => true
  | j + 1 => match L[j]? with
    | some (some (.long _)) => false
    | some (some (.double _)) => false
    | _ => true
theorem zok_cat {L : List (Option Value)} {i j : Nat} {v : Value} (h : zok L i = true) (hj : j + 1 = i) (hv : L[j]? = some (some v)) : ¬ v.category = 2 := by
  subst hj
  intro hc
  change (match L[j]? with
    | some (some (.long _)) => false
    | some (some (.double _)) => false
    | _ => true) = true at h
  rw [hv] at h
  cases v <;> simp_all [Value.category]
theorem zL_store1 {G : zG} {nL i : Nat} {L : List (Option Value)} {ls' : Array Slot} {v : Value} (hok : zok L i = true) (h : lv_has ls' nL ((i, zV G v) :: (zas G L).filter (fun q => !(q.1 == i) && !(q.1 + 1 == i && q.2.category == 2)))) : zL G nL (L.set i (some v)) ls' := by
  refine ⟨h.1, h.2.1, fun j w hw => ?_⟩
  rw [List.getElem?_set] at hw
  by_cases hij : i = j
  · subst hij
    rw [if_pos rfl] at hw
    split at hw
    · have : v = w := by simpa using hw
      subst this
      exact h.2.2 _ List.mem_cons_self
    · cases hw
  · rw [if_neg hij] at hw
    refine h.2.2 (j, zV G w) (List.mem_cons_of_mem _ (List.mem_filter.mpr ⟨zas_in hw, ?_⟩))
    have h1 : ¬ j = i := fun q => hij q.symm
    by_cases h2 : j + 1 = i
    · have := zok_cat hok h2 hw
      simp [h1, zV_cat, this]
    · simp [h1, h2]
theorem zL_store2 {G : zG} {nL i : Nat} {L : List (Option Value)} {ls' : Array Slot} {v : Value} (hok : zok L i = true) (h : lv_has ls' nL ((i, zV G v) :: (zas G L).filter (fun q => !(q.1 == i) && (!(q.1 == i + 1) && !(q.1 + 1 == i && q.2.category == 2))))) : zL G nL ((L.set i (some v)).set (i + 1) none) ls' := by
  refine ⟨h.1, h.2.1, fun j w hw => ?_⟩
  rw [List.getElem?_set] at hw
  by_cases hij1 : i + 1 = j
  · subst hij1
    rw [if_pos rfl] at hw
    split at hw
    · simp at hw
    · cases hw
  · rw [if_neg hij1, List.getElem?_set] at hw
    by_cases hij : i = j
    · subst hij
      rw [if_pos rfl] at hw
      split at hw
      · have : v = w := by simpa using hw
        subst this
        exact h.2.2 _ List.mem_cons_self
      · cases hw
    · rw [if_neg hij] at hw
      refine h.2.2 (j, zV G w) (List.mem_cons_of_mem _ (List.mem_filter.mpr ⟨zas_in hw, ?_⟩))
      have h1 : ¬ j = i := fun q => hij q.symm
      have h3 : ¬ j = i + 1 := fun q => hij1 q.symm
      by_cases h2 : j + 1 = i
      · have := zok_cat hok h2 hw
        simp [h1, h3, zV_cat, this]
      · simp [h1, h2, h3]
/-- fewer locals are known -/
def zle : List (Option Value) → List (Option Value) → Prop
  | [], _ => True
  | none :: a, b => zle a b.tail
  | some v :: a, b => b.head? = some (some v) ∧ zle a b.tail
theorem zle_at : ∀ {a b : List (Option Value)}, zle a b → ∀ (i : Nat) (v : Value), a[i]? = some (some v) → b[i]? = some (some v)
  | [], _, _, i, v, h => by simp at h
  | none :: a, b, hl, 0, v, h => by simp at h
  | none :: a, [], hl, i + 1, v, h => by
    have := zle_at (a := a) (b := []) hl i v (by simpa using h)
    simp at this
  | none :: a, y :: b, hl, i + 1, v, h => by
    have := zle_at (a := a) (b := b) hl i v (by simpa using h)
    simpa using this
  | some w :: a, [], hl, i, v, h => by
    have := hl.1
    simp at this
  | some w :: a, y :: b, hl, 0, v, h => by
    have h1 : y = some w := by simpa using hl.1
    have h2 : w = v := by simpa using h
    subst h2; subst h1; rfl
  | some w :: a, y :: b, hl, i + 1, v, h => by
    have := zle_at (a := a) (b := b) hl.2 i v (by simpa using h)
    simpa using this
end
section
section ZR
variable {G : zG} {M : zM} {d N S n0 s0 : Nat} {P : Option Value → zH → Prop} {pc q : Nat} {L L' : List (Option Value)} {st : List Value} {n sl : Nat} {h : zH}
theorem aw_iconst {k : Int} {v : Int32} (hd : decode M.2.1 pc = .ok (.iconst k, 1)) (hq : pc + 1 = q) (hv : Int32.ofInt k = v) (K : AW G M d N S n0 s0 P q L (.int v :: st) n sl h) : AW G M d N S n0 s0 P pc L (st) n sl h := by
  subst hq
  intro p l e s m args below meth c H locs ls C hs hI hS hl hn hsl
  exact lv_iconst C.1 C.2.1 hd hv (K p l e s m args below meth c H locs ls C hs hI hS hl hn hsl)
theorem aw_bipush {k : Int} {v : Int32} (hd : decode M.2.1 pc = .ok (.bipush k, 2)) (hq : pc + 2 = q) (hv : (Int8.ofInt k).toInt32 = v) (K : AW G M d N S n0 s0 P q L (.int v :: st) n sl h) : AW G M d N S n0 s0 P pc L (st) n sl h := by
  subst hq
  intro p l e s m args below meth c H locs ls C hs hI hS hl hn hsl
  exact lv_bipush C.1 C.2.1 hd hv (K p l e s m args below meth c H locs ls C hs hI hS hl hn hsl)
theorem aw_sipush {k : Int} {v : Int32} (hd : decode M.2.1 pc = .ok (.sipush k, 3)) (hq : pc + 3 = q) (hv : (Int16.ofInt k).toInt32 = v) (K : AW G M d N S n0 s0 P q L (.int v :: st) n sl h) : AW G M d N S n0 s0 P pc L (st) n sl h := by
  subst hq
  intro p l e s m args below meth c H locs ls C hs hI hS hl hn hsl
  exact lv_sipush C.1 C.2.1 hd hv (K p l e s m args below meth c H locs ls C hs hI hS hl hn hsl)
theorem aw_lconst {k : Fin 2} {v : Int64} (hd : decode M.2.1 pc = .ok (.lconst k, 1)) (hq : pc + 1 = q) (hv : Int64.ofNat (k : Nat) = v) (K : AW G M d N S n0 s0 P q L (.long v :: st) n sl h) : AW G M d N S n0 s0 P pc L (st) n sl h := by
  subst hq
  intro p l e s m args below meth c H locs ls C hs hI hS hl hn hsl
  exact lv_lconst C.1 C.2.1 hd hv (K p l e s m args below meth c H locs ls C hs hI hS hl hn hsl)
theorem aw_ldc {i : Nat} {v : Int32} (hd : decode M.2.1 pc = .ok (.ldc i, 2)) (hq : pc + 2 = q) (hw : Jvm.Cond.constant M.1.cls i v ∈ lw_ok) (K : AW G M d N S n0 s0 P q L (.int v :: st) n sl h) : AW G M d N S n0 s0 P pc L (st) n sl h := by
  subst hq
  intro p l e s m args below meth c H locs ls C hs hI hS hl hn hsl
  exact lv_ldc C.1 C.2.1 C.2.2.2.1 (C.2.2.2.2.1 _ hw) hd (K p l e s m args below meth c H locs ls C hs hI hS hl hn hsl)
theorem aw_ldcw {i : Nat} {v : Int32} (hd : decode M.2.1 pc = .ok (.ldc_w i, 3)) (hq : pc + 3 = q) (hw : Jvm.Cond.constant M.1.cls i v ∈ lw_ok) (K : AW G M d N S n0 s0 P q L (.int v :: st) n sl h) : AW G M d N S n0 s0 P pc L (st) n sl h := by
  subst hq
  intro p l e s m args below meth c H locs ls C hs hI hS hl hn hsl
  exact lv_ldcw C.1 C.2.1 C.2.2.2.1 (C.2.2.2.2.1 _ hw) hd (K p l e s m args below meth c H locs ls C hs hI hS hl hn hsl)
theorem aw_ldcf {i : Nat} {v : UInt32} (hd : decode M.2.1 pc = .ok (.ldc i, 2)) (hq : pc + 2 = q) (hw : Jvm.Cond.constantFloat M.1.cls i v ∈ lw_ok) (K : AW G M d N S n0 s0 P q L (.float v :: st) n sl h) : AW G M d N S n0 s0 P pc L (st) n sl h := by
  subst hq
  intro p l e s m args below meth c H locs ls C hs hI hS hl hn hsl
  exact lv_ldcf C.1 C.2.1 C.2.2.2.1 (C.2.2.2.2.1 _ hw) hd (K p l e s m args below meth c H locs ls C hs hI hS hl hn hsl)
theorem aw_ldc2 {i : Nat} {v : Int64} (hd : decode M.2.1 pc = .ok (.ldc2_w i, 3)) (hq : pc + 3 = q) (hw : Jvm.Cond.constantLong M.1.cls i v ∈ lw_ok) (K : AW G M d N S n0 s0 P q L (.long v :: st) n sl h) : AW G M d N S n0 s0 P pc L (st) n sl h := by
  subst hq
  intro p l e s m args below meth c H locs ls C hs hI hS hl hn hsl
  exact lv_ldc2 C.1 C.2.1 C.2.2.2.1 (C.2.2.2.2.1 _ hw) hd (K p l e s m args below meth c H locs ls C hs hI hS hl hn hsl)
theorem aw_iload {i : Nat} {x : Int32} (hd : decode M.2.1 pc = .ok (.iload i, 2)) (hq : pc + 2 = q) (hL : L[i]? = some (some (.int x))) (K : AW G M d N S n0 s0 P q L (.int x :: st) n sl h) : AW G M d N S n0 s0 P pc L (st) n sl h := by
  subst hq
  intro p l e s m args below meth c H locs ls C hs hI hS hl hn hsl
  exact lv_iload C.1 C.2.1 hd (zL_at hl hL) (K p l e s m args below meth c H locs ls C hs hI hS hl hn hsl)
theorem aw_iload_n {k : Fin 4} {x : Int32} (hd : decode M.2.1 pc = .ok (.iload_n k, 1)) (hq : pc + 1 = q) (hL : L[(k : Nat)]? = some (some (.int x))) (K : AW G M d N S n0 s0 P q L (.int x :: st) n sl h) : AW G M d N S n0 s0 P pc L (st) n sl h := by
  subst hq
  intro p l e s m args below meth c H locs ls C hs hI hS hl hn hsl
  exact lv_iload_n C.1 C.2.1 hd rfl (zL_at hl hL) (K p l e s m args below meth c H locs ls C hs hI hS hl hn hsl)
theorem aw_lload {i : Nat} {x : Int64} (hd : decode M.2.1 pc = .ok (.lload i, 2)) (hq : pc + 2 = q) (hL : L[i]? = some (some (.long x))) (K : AW G M d N S n0 s0 P q L (.long x :: st) n sl h) : AW G M d N S n0 s0 P pc L (st) n sl h := by
  subst hq
  intro p l e s m args below meth c H locs ls C hs hI hS hl hn hsl
  exact lv_lload C.1 C.2.1 hd (zL_at hl hL) (K p l e s m args below meth c H locs ls C hs hI hS hl hn hsl)
theorem aw_lload_n {k : Fin 4} {x : Int64} (hd : decode M.2.1 pc = .ok (.lload_n k, 1)) (hq : pc + 1 = q) (hL : L[(k : Nat)]? = some (some (.long x))) (K : AW G M d N S n0 s0 P q L (.long x :: st) n sl h) : AW G M d N S n0 s0 P pc L (st) n sl h := by
  subst hq
  intro p l e s m args below meth c H locs ls C hs hI hS hl hn hsl
  exact lv_lload_n C.1 C.2.1 hd rfl (zL_at hl hL) (K p l e s m args below meth c H locs ls C hs hI hS hl hn hsl)
theorem aw_fload {i : Nat} {x : UInt32} (hd : decode M.2.1 pc = .ok (.fload i, 2)) (hq : pc + 2 = q) (hL : L[i]? = some (some (.float x))) (K : AW G M d N S n0 s0 P q L (.float x :: st) n sl h) : AW G M d N S n0 s0 P pc L (st) n sl h := by
  subst hq
  intro p l e s m args below meth c H locs ls C hs hI hS hl hn hsl
  exact lv_fload C.1 C.2.1 hd (zL_at hl hL) (K p l e s m args below meth c H locs ls C hs hI hS hl hn hsl)
theorem aw_fload_n {k : Fin 4} {x : UInt32} (hd : decode M.2.1 pc = .ok (.fload_n k, 1)) (hq : pc + 1 = q) (hL : L[(k : Nat)]? = some (some (.float x))) (K : AW G M d N S n0 s0 P q L (.float x :: st) n sl h) : AW G M d N S n0 s0 P pc L (st) n sl h := by
  subst hq
  intro p l e s m args below meth c H locs ls C hs hI hS hl hn hsl
  exact lv_fload_n C.1 C.2.1 hd rfl (zL_at hl hL) (K p l e s m args below meth c H locs ls C hs hI hS hl hn hsl)
theorem aw_aload {i : Nat} {x : Nat} (hd : decode M.2.1 pc = .ok (.aload i, 2)) (hq : pc + 2 = q) (hL : L[i]? = some (some (.ref x))) (K : AW G M d N S n0 s0 P q L (.ref x :: st) n sl h) : AW G M d N S n0 s0 P pc L (st) n sl h := by
  subst hq
  intro p l e s m args below meth c H locs ls C hs hI hS hl hn hsl
  exact lv_aload C.1 C.2.1 hd (zL_at hl hL) (K p l e s m args below meth c H locs ls C hs hI hS hl hn hsl)
theorem aw_aload_n {k : Fin 4} {x : Nat} (hd : decode M.2.1 pc = .ok (.aload_n k, 1)) (hq : pc + 1 = q) (hL : L[(k : Nat)]? = some (some (.ref x))) (K : AW G M d N S n0 s0 P q L (.ref x :: st) n sl h) : AW G M d N S n0 s0 P pc L (st) n sl h := by
  subst hq
  intro p l e s m args below meth c H locs ls C hs hI hS hl hn hsl
  exact lv_aload_n C.1 C.2.1 hd rfl (zL_at hl hL) (K p l e s m args below meth c H locs ls C hs hI hS hl hn hsl)
theorem aw_istore {i : Nat} {x : Int32} (hd : decode M.2.1 pc = .ok (.istore i, 2)) (hq : pc + 2 = q) (hi : i < M.2.2.1) (hok : zok L i = true) (hL : L.set i (some (.int x)) = L') (K : AW G M d N S n0 s0 P q L' st n sl h) : AW G M d N S n0 s0 P pc L (.int x :: st) n sl h := by
  subst hq
  subst hL
  intro p l e s m args below meth c H locs ls C hs hI hS hl hn hsl
  exact lv_istore C.1 C.2.1 hd (zL_has hl) hi rfl (fun ls' hl' => K p l e s m args below meth c H locs ls' C hs hI hS (zL_store1 (v := .int x) hok hl') hn hsl)
theorem aw_istore_n {k : Fin 4} {x : Int32} (hd : decode M.2.1 pc = .ok (.istore_n k, 1)) (hq : pc + 1 = q) (hi : (k : Nat) < M.2.2.1) (hok : zok L (k : Nat) = true) (hL : L.set (k : Nat) (some (.int x)) = L') (K : AW G M d N S n0 s0 P q L' st n sl h) : AW G M d N S n0 s0 P pc L (.int x :: st) n sl h := by
  subst hq
  subst hL
  intro p l e s m args below meth c H locs ls C hs hI hS hl hn hsl
  exact lv_istore_n C.1 C.2.1 hd rfl (zL_has hl) hi rfl (fun ls' hl' => K p l e s m args below meth c H locs ls' C hs hI hS (zL_store1 (v := .int x) hok hl') hn hsl)
theorem aw_fstore_n {k : Fin 4} {x : UInt32} (hd : decode M.2.1 pc = .ok (.fstore_n k, 1)) (hq : pc + 1 = q) (hi : (k : Nat) < M.2.2.1) (hok : zok L (k : Nat) = true) (hL : L.set (k : Nat) (some (.float x)) = L') (K : AW G M d N S n0 s0 P q L' st n sl h) : AW G M d N S n0 s0 P pc L (.float x :: st) n sl h := by
  subst hq
  subst hL
  intro p l e s m args below meth c H locs ls C hs hI hS hl hn hsl
  exact lv_fstore_n C.1 C.2.1 hd rfl (zL_has hl) hi rfl (fun ls' hl' => K p l e s m args below meth c H locs ls' C hs hI hS (zL_store1 (v := .float x) hok hl') hn hsl)
theorem aw_astore {i : Nat} {x : Nat} (hd : decode M.2.1 pc = .ok (.astore i, 2)) (hq : pc + 2 = q) (hi : i < M.2.2.1) (hok : zok L i = true) (hL : L.set i (some (.ref x)) = L') (K : AW G M d N S n0 s0 P q L' st n sl h) : AW G M d N S n0 s0 P pc L (.ref x :: st) n sl h := by
  subst hq
  subst hL
  intro p l e s m args below meth c H locs ls C hs hI hS hl hn hsl
  exact lv_astore C.1 C.2.1 hd (zL_has hl) hi rfl (fun ls' hl' => K p l e s m args below meth c H locs ls' C hs hI hS (zL_store1 (v := .ref x) hok hl') hn hsl)
theorem aw_astore_n {k : Fin 4} {x : Nat} (hd : decode M.2.1 pc = .ok (.astore_n k, 1)) (hq : pc + 1 = q) (hi : (k : Nat) < M.2.2.1) (hok : zok L (k : Nat) = true) (hL : L.set (k : Nat) (some (.ref x)) = L') (K : AW G M d N S n0 s0 P q L' st n sl h) : AW G M d N S n0 s0 P pc L (.ref x :: st) n sl h := by
  subst hq
  subst hL
  intro p l e s m args below meth c H locs ls C hs hI hS hl hn hsl
  exact lv_astore_n C.1 C.2.1 hd rfl (zL_has hl) hi rfl (fun ls' hl' => K p l e s m args below meth c H locs ls' C hs hI hS (zL_store1 (v := .ref x) hok hl') hn hsl)
theorem aw_lstore {i : Nat} {x : Int64} (hd : decode M.2.1 pc = .ok (.lstore i, 2)) (hq : pc + 2 = q) (hi : i + 1 < M.2.2.1) (hok : zok L i = true) (hL : (L.set i (some (.long x))).set (i + 1) none = L') (K : AW G M d N S n0 s0 P q L' st n sl h) : AW G M d N S n0 s0 P pc L (.long x :: st) n sl h := by
  subst hq
  subst hL
  intro p l e s m args below meth c H locs ls C hs hI hS hl hn hsl
  exact lv_lstore C.1 C.2.1 hd (zL_has hl) hi rfl (fun ls' hl' => K p l e s m args below meth c H locs ls' C hs hI hS (zL_store2 (v := .long x) hok hl') hn hsl)
theorem aw_lstore_n {k : Fin 4} {x : Int64} (hd : decode M.2.1 pc = .ok (.lstore_n k, 1)) (hq : pc + 1 = q) (hi : (k : Nat) + 1 < M.2.2.1) (hok : zok L (k : Nat) = true) (hL : (L.set (k : Nat) (some (.long x))).set ((k : Nat) + 1) none = L') (K : AW G M d N S n0 s0 P q L' st n sl h) : AW G M d N S n0 s0 P pc L (.long x :: st) n sl h := by
  subst hq
  subst hL
  intro p l e s m args below meth c H locs ls C hs hI hS hl hn hsl
  exact lv_lstore_n C.1 C.2.1 hd rfl (zL_has hl) hi rfl (fun ls' hl' => K p l e s m args below meth c H locs ls' C hs hI hS (zL_store2 (v := .long x) hok hl') hn hsl)
theorem aw_iinc {i : Nat} {k : Int} {x v : Int32} (hd : decode M.2.1 pc = .ok (.iinc i k, 3)) (hq : pc + 3 = q) (hx : L[i]? = some (some (.int x))) (hv : x + Int32.ofInt k = v) (hi : i < M.2.2.1) (hok : zok L i = true) (hL : L.set i (some (.int v)) = L') (K : AW G M d N S n0 s0 P q L' st n sl h) : AW G M d N S n0 s0 P pc L st n sl h := by
  subst hq
  subst hL
  intro p l e s m args below meth c H locs ls C hs hI hS hl hn hsl
  obtain ⟨k9, hk9⟩ := List.getElem?_of_mem (zas_in (G := G) hx)
  exact lv_iinc C.1 C.2.1 hd (zL_has hl) hk9 hv hi rfl (fun ls' hl' => K p l e s m args below meth c H locs ls' C hs hI hS (zL_store1 (v := .int v) hok hl') hn hsl)
theorem aw_iadd {x y : Int32} (hd : decode M.2.1 pc = .ok (.iadd, 1)) (hq : pc + 1 = q) (K : AW G M d N S n0 s0 P q L (.int (x + y) :: st) n sl h) : AW G M d N S n0 s0 P pc L (.int y :: .int x :: st) n sl h := by
  subst hq
  intro p l e s m args below meth c H locs ls C hs hI hS hl hn hsl
  exact lv_iadd C.1 C.2.1 hd (K p l e s m args below meth c H locs ls C hs hI hS hl hn hsl)
theorem aw_isub {x y : Int32} (hd : decode M.2.1 pc = .ok (.isub, 1)) (hq : pc + 1 = q) (K : AW G M d N S n0 s0 P q L (.int (x - y) :: st) n sl h) : AW G M d N S n0 s0 P pc L (.int y :: .int x :: st) n sl h := by
  subst hq
  intro p l e s m args below meth c H locs ls C hs hI hS hl hn hsl
  exact lv_isub C.1 C.2.1 hd (K p l e s m args below meth c H locs ls C hs hI hS hl hn hsl)
theorem aw_imul {x y : Int32} (hd : decode M.2.1 pc = .ok (.imul, 1)) (hq : pc + 1 = q) (K : AW G M d N S n0 s0 P q L (.int (x * y) :: st) n sl h) : AW G M d N S n0 s0 P pc L (.int y :: .int x :: st) n sl h := by
  subst hq
  intro p l e s m args below meth c H locs ls C hs hI hS hl hn hsl
  exact lv_imul C.1 C.2.1 hd (K p l e s m args below meth c H locs ls C hs hI hS hl hn hsl)
theorem aw_iand {x y : Int32} (hd : decode M.2.1 pc = .ok (.iand, 1)) (hq : pc + 1 = q) (K : AW G M d N S n0 s0 P q L (.int (x &&& y) :: st) n sl h) : AW G M d N S n0 s0 P pc L (.int y :: .int x :: st) n sl h := by
  subst hq
  intro p l e s m args below meth c H locs ls C hs hI hS hl hn hsl
  exact lv_iand C.1 C.2.1 hd (K p l e s m args below meth c H locs ls C hs hI hS hl hn hsl)
theorem aw_ior {x y : Int32} (hd : decode M.2.1 pc = .ok (.ior, 1)) (hq : pc + 1 = q) (K : AW G M d N S n0 s0 P q L (.int (x ||| y) :: st) n sl h) : AW G M d N S n0 s0 P pc L (.int y :: .int x :: st) n sl h := by
  subst hq
  intro p l e s m args below meth c H locs ls C hs hI hS hl hn hsl
  exact lv_ior C.1 C.2.1 hd (K p l e s m args below meth c H locs ls C hs hI hS hl hn hsl)
theorem aw_ixor {x y : Int32} (hd : decode M.2.1 pc = .ok (.ixor, 1)) (hq : pc + 1 = q) (K : AW G M d N S n0 s0 P q L (.int (x ^^^ y) :: st) n sl h) : AW G M d N S n0 s0 P pc L (.int y :: .int x :: st) n sl h := by
  subst hq
  intro p l e s m args below meth c H locs ls C hs hI hS hl hn hsl
  exact lv_ixor C.1 C.2.1 hd (K p l e s m args below meth c H locs ls C hs hI hS hl hn hsl)
theorem aw_ishl {x y : Int32} (hd : decode M.2.1 pc = .ok (.ishl, 1)) (hq : pc + 1 = q) (K : AW G M d N S n0 s0 P q L (.int (x <<< (y &&& 31)) :: st) n sl h) : AW G M d N S n0 s0 P pc L (.int y :: .int x :: st) n sl h := by
  subst hq
  intro p l e s m args below meth c H locs ls C hs hI hS hl hn hsl
  exact lv_ishl C.1 C.2.1 hd (K p l e s m args below meth c H locs ls C hs hI hS hl hn hsl)
theorem aw_ishr {x y : Int32} (hd : decode M.2.1 pc = .ok (.ishr, 1)) (hq : pc + 1 = q) (K : AW G M d N S n0 s0 P q L (.int (x >>> (y &&& 31)) :: st) n sl h) : AW G M d N S n0 s0 P pc L (.int y :: .int x :: st) n sl h := by
  subst hq
  intro p l e s m args below meth c H locs ls C hs hI hS hl hn hsl
  exact lv_ishr C.1 C.2.1 hd (K p l e s m args below meth c H locs ls C hs hI hS hl hn hsl)
theorem aw_irem {x y : Int32} (hd : decode M.2.1 pc = .ok (.irem, 1)) (hq : pc + 1 = q) (hne : ¬ y = 0) (K : AW G M d N S n0 s0 P q L (.int (x - x / y * y) :: st) n sl h) : AW G M d N S n0 s0 P pc L (.int y :: .int x :: st) n sl h := by
  subst hq
  intro p l e s m args below meth c H locs ls C hs hI hS hl hn hsl
  exact lv_irem C.1 C.2.1 hd hne (K p l e s m args below meth c H locs ls C hs hI hS hl hn hsl)
theorem aw_iushr {x y : Int32} (hd : decode M.2.1 pc = .ok (.iushr, 1)) (hq : pc + 1 = q) (K : AW G M d N S n0 s0 P q L (.int ((x.toUInt32 >>> (y.toUInt32 &&& Int32.toUInt32 31)).toInt32) :: st) n sl h) : AW G M d N S n0 s0 P pc L (.int y :: .int x :: st) n sl h := by
  subst hq
  intro p l e s m args below meth c H locs ls C hs hI hS hl hn hsl
  exact lv_iushr C.1 C.2.1 hd rfl (K p l e s m args below meth c H locs ls C hs hI hS hl hn hsl)
theorem aw_dup {v : Value} (hd : decode M.2.1 pc = .ok (.dup, 1)) (hq : pc + 1 = q) (hv : v.category = 1) (K : AW G M d N S n0 s0 P q L (v :: v :: st) n sl h) : AW G M d N S n0 s0 P pc L (v :: st) n sl h := by
  subst hq
  intro p l e s m args below meth c H locs ls C hs hI hS hl hn hsl
  exact lv_dup C.1 C.2.1 hd ((zV_cat G v).trans hv) (K p l e s m args below meth c H locs ls C hs hI hS hl hn hsl)
theorem aw_dup2 {v w : Value} (hd : decode M.2.1 pc = .ok (.dup2, 1)) (hq : pc + 1 = q) (hv : v.category = 1) (hw : w.category = 1) (K : AW G M d N S n0 s0 P q L (v :: w :: v :: w :: st) n sl h) : AW G M d N S n0 s0 P pc L (v :: w :: st) n sl h := by
  subst hq
  intro p l e s m args below meth c H locs ls C hs hI hS hl hn hsl
  exact lv_dup2_11 C.1 C.2.1 hd ((zV_cat G v).trans hv) ((zV_cat G w).trans hw) (K p l e s m args below meth c H locs ls C hs hI hS hl hn hsl)
theorem aw_pop {v : Value} (hd : decode M.2.1 pc = .ok (.pop, 1)) (hq : pc + 1 = q) (hv : v.category = 1) (K : AW G M d N S n0 s0 P q L (st) n sl h) : AW G M d N S n0 s0 P pc L (v :: st) n sl h := by
  subst hq
  intro p l e s m args below meth c H locs ls C hs hI hS hl hn hsl
  exact lv_pop C.1 C.2.1 hd ((zV_cat G v).trans hv) (K p l e s m args below meth c H locs ls C hs hI hS hl hn hsl)
theorem aw_i2l {x : Int32} (hd : decode M.2.1 pc = .ok (.i2l, 1)) (hq : pc + 1 = q) (K : AW G M d N S n0 s0 P q L (.long x.toInt64 :: st) n sl h) : AW G M d N S n0 s0 P pc L (.int x :: st) n sl h := by
  subst hq
  intro p l e s m args below meth c H locs ls C hs hI hS hl hn hsl
  exact lv_i2l C.1 C.2.1 hd rfl (K p l e s m args below meth c H locs ls C hs hI hS hl hn hsl)
theorem aw_l2i {x : Int64} (hd : decode M.2.1 pc = .ok (.l2i, 1)) (hq : pc + 1 = q) (K : AW G M d N S n0 s0 P q L (.int x.toInt32 :: st) n sl h) : AW G M d N S n0 s0 P pc L (.long x :: st) n sl h := by
  subst hq
  intro p l e s m args below meth c H locs ls C hs hI hS hl hn hsl
  exact lv_l2i C.1 C.2.1 hd rfl (K p l e s m args below meth c H locs ls C hs hI hS hl hn hsl)
theorem aw_i2c {x : Int32} (hd : decode M.2.1 pc = .ok (.i2c, 1)) (hq : pc + 1 = q) (K : AW G M d N S n0 s0 P q L (.int (x.toUInt32 % 65536).toInt32 :: st) n sl h) : AW G M d N S n0 s0 P pc L (.int x :: st) n sl h := by
  subst hq
  intro p l e s m args below meth c H locs ls C hs hI hS hl hn hsl
  exact lv_i2c C.1 C.2.1 hd rfl (K p l e s m args below meth c H locs ls C hs hI hS hl hn hsl)
theorem aw_i2f {x : Int32} (hd : decode M.2.1 pc = .ok (.i2f, 1)) (hq : pc + 1 = q) (K : AW G M d N S n0 s0 P q L (.float (FP.i2f x) :: st) n sl h) : AW G M d N S n0 s0 P pc L (.int x :: st) n sl h := by
  subst hq
  intro p l e s m args below meth c H locs ls C hs hI hS hl hn hsl
  exact lv_i2f C.1 C.2.1 hd (K p l e s m args below meth c H locs ls C hs hI hS hl hn hsl)
theorem aw_f2i {x : UInt32} (hd : decode M.2.1 pc = .ok (.f2i, 1)) (hq : pc + 1 = q) (K : AW G M d N S n0 s0 P q L (.int (FP.f2i x) :: st) n sl h) : AW G M d N S n0 s0 P pc L (.float x :: st) n sl h := by
  subst hq
  intro p l e s m args below meth c H locs ls C hs hI hS hl hn hsl
  exact lv_f2i C.1 C.2.1 hd (K p l e s m args below meth c H locs ls C hs hI hS hl hn hsl)
theorem aw_lmul {x y : Int64} (hd : decode M.2.1 pc = .ok (.lmul, 1)) (hq : pc + 1 = q) (K : AW G M d N S n0 s0 P q L (.long (x * y) :: st) n sl h) : AW G M d N S n0 s0 P pc L (.long y :: .long x :: st) n sl h := by
  subst hq
  intro p l e s m args below meth c H locs ls C hs hI hS hl hn hsl
  exact lv_lmul C.1 C.2.1 hd (K p l e s m args below meth c H locs ls C hs hI hS hl hn hsl)
theorem aw_ladd {x y : Int64} (hd : decode M.2.1 pc = .ok (.ladd, 1)) (hq : pc + 1 = q) (K : AW G M d N S n0 s0 P q L (.long (x + y) :: st) n sl h) : AW G M d N S n0 s0 P pc L (.long y :: .long x :: st) n sl h := by
  subst hq
  intro p l e s m args below meth c H locs ls C hs hI hS hl hn hsl
  exact lv_ladd C.1 C.2.1 hd (K p l e s m args below meth c H locs ls C hs hI hS hl hn hsl)
theorem aw_lsub {x y : Int64} (hd : decode M.2.1 pc = .ok (.lsub, 1)) (hq : pc + 1 = q) (K : AW G M d N S n0 s0 P q L (.long (x - y) :: st) n sl h) : AW G M d N S n0 s0 P pc L (.long y :: .long x :: st) n sl h := by
  subst hq
  intro p l e s m args below meth c H locs ls C hs hI hS hl hn hsl
  exact lv_lsub C.1 C.2.1 hd (K p l e s m args below meth c H locs ls C hs hI hS hl hn hsl)
theorem aw_ldiv {x y : Int64} (hd : decode M.2.1 pc = .ok (.ldiv, 1)) (hq : pc + 1 = q) (hne : ¬ y = 0) (K : AW G M d N S n0 s0 P q L (.long (x / y) :: st) n sl h) : AW G M d N S n0 s0 P pc L (.long y :: .long x :: st) n sl h := by
  subst hq
  intro p l e s m args below meth c H locs ls C hs hI hS hl hn hsl
  exact lv_ldiv C.1 C.2.1 hd hne (K p l e s m args below meth c H locs ls C hs hI hS hl hn hsl)
theorem aw_lrem {x y : Int64} (hd : decode M.2.1 pc = .ok (.lrem, 1)) (hq : pc + 1 = q) (hne : ¬ y = 0) (K : AW G M d N S n0 s0 P q L (.long (x - x / y * y) :: st) n sl h) : AW G M d N S n0 s0 P pc L (.long y :: .long x :: st) n sl h := by
  subst hq
  intro p l e s m args below meth c H locs ls C hs hI hS hl hn hsl
  exact lv_lrem C.1 C.2.1 hd hne (K p l e s m args below meth c H locs ls C hs hI hS hl hn hsl)
theorem aw_lcmp {x y : Int64} (hd : decode M.2.1 pc = .ok (.lcmp, 1)) (hq : pc + 1 = q) (K : AW G M d N S n0 s0 P q L (.int (lg_cmp x y) :: st) n sl h) : AW G M d N S n0 s0 P pc L (.long y :: .long x :: st) n sl h := by
  subst hq
  intro p l e s m args below meth c H locs ls C hs hI hS hl hn hsl
  exact W.lcmp C.1 C.2.1 hd (K p l e s m args below meth c H locs ls C hs hI hS hl hn hsl)
theorem aw_fmul {x y : UInt32} (hd : decode M.2.1 pc = .ok (.fmul, 1)) (hq : pc + 1 = q) (hne : vf_n32 (FP.fmul x y)) (K : AW G M d N S n0 s0 P q L (.float (FP.fmul x y) :: st) n sl h) : AW G M d N S n0 s0 P pc L (.float y :: .float x :: st) n sl h := by
  subst hq
  intro p l e s m args below meth c H locs ls C hs hI hS hl hn hsl
  exact lv_fmul C.1 C.2.1 hd hne (K p l e s m args below meth c H locs ls C hs hI hS hl hn hsl)
theorem aw_fdiv {x y : UInt32} (hd : decode M.2.1 pc = .ok (.fdiv, 1)) (hq : pc + 1 = q) (hne : vf_n32 (FP.fdiv x y)) (K : AW G M d N S n0 s0 P q L (.float (FP.fdiv x y) :: st) n sl h) : AW G M d N S n0 s0 P pc L (.float y :: .float x :: st) n sl h := by
  subst hq
  intro p l e s m args below meth c H locs ls C hs hI hS hl hn hsl
  exact lv_fdiv C.1 C.2.1 hd hne (K p l e s m args below meth c H locs ls C hs hI hS hl hn hsl)
theorem aw_fsub {x y : UInt32} (hd : decode M.2.1 pc = .ok (.fsub, 1)) (hq : pc + 1 = q) (hne : vf_n32 (FP.fsub x y)) (K : AW G M d N S n0 s0 P q L (.float (FP.fsub x y) :: st) n sl h) : AW G M d N S n0 s0 P pc L (.float y :: .float x :: st) n sl h := by
  subst hq
  intro p l e s m args below meth c H locs ls C hs hI hS hl hn hsl
  exact lv_fsub C.1 C.2.1 hd hne (K p l e s m args below meth c H locs ls C hs hI hS hl hn hsl)
theorem aw_fcmp {x y : UInt32} {op : CmpOp} (hd : decode M.2.1 pc = .ok (.fcmp op, 1)) (hq : pc + 1 = q) (K : AW G M d N S n0 s0 P q L (.int (Op.cmpValue (FP.fcmp x y) op) :: st) n sl h) : AW G M d N S n0 s0 P pc L (.float y :: .float x :: st) n sl h := by
  subst hq
  intro p l e s m args below meth c H locs ls C hs hI hS hl hn hsl
  exact lv_fcmp C.1 C.2.1 hd (K p l e s m args below meth c H locs ls C hs hI hS hl hn hsl)
theorem aw_if_eq {x : Int32} {off : Int} {t : Nat} (hd : decode M.2.1 pc = .ok (.ifCond .eq off, 3)) (hq : pc + 3 = q) (ht : (pc : Int) + off = (t : Int)) (K1 : x = 0 → AW G M d N S n0 s0 P t L st n sl h) (K2 : ¬ (x = 0) → AW G M d N S n0 s0 P q L st n sl h) : AW G M d N S n0 s0 P pc L (.int x :: st) n sl h := by
  subst hq
  intro p l e s m args below meth c H locs ls C hs hI hS hl hn hsl
  exact lv_if_eq C.1 C.2.1 hd ht (fun z => K1 z p l e s m args below meth c H locs ls C hs hI hS hl hn hsl) (fun z => K2 z p l e s m args below meth c H locs ls C hs hI hS hl hn hsl)
theorem aw_icmp_eq {x y : Int32} {off : Int} {t : Nat} (hd : decode M.2.1 pc = .ok (.if_icmp .eq off, 3)) (hq : pc + 3 = q) (ht : (pc : Int) + off = (t : Int)) (K1 : x = y → AW G M d N S n0 s0 P t L st n sl h) (K2 : ¬ (x = y) → AW G M d N S n0 s0 P q L st n sl h) : AW G M d N S n0 s0 P pc L (.int y :: .int x :: st) n sl h := by
  subst hq
  intro p l e s m args below meth c H locs ls C hs hI hS hl hn hsl
  exact lv_icmp_eq C.1 C.2.1 hd ht (fun z => K1 z p l e s m args below meth c H locs ls C hs hI hS hl hn hsl) (fun z => K2 z p l e s m args below meth c H locs ls C hs hI hS hl hn hsl)
theorem aw_if_ne {x : Int32} {off : Int} {t : Nat} (hd : decode M.2.1 pc = .ok (.ifCond .ne off, 3)) (hq : pc + 3 = q) (ht : (pc : Int) + off = (t : Int)) (K1 : ¬ x = 0 → AW G M d N S n0 s0 P t L st n sl h) (K2 : ¬ (¬ x = 0) → AW G M d N S n0 s0 P q L st n sl h) : AW G M d N S n0 s0 P pc L (.int x :: st) n sl h := by
  subst hq
  intro p l e s m args below meth c H locs ls C hs hI hS hl hn hsl
  exact lv_if_ne C.1 C.2.1 hd ht (fun z => K1 z p l e s m args below meth c H locs ls C hs hI hS hl hn hsl) (fun z => K2 (fun z9 => z9 z) p l e s m args below meth c H locs ls C hs hI hS hl hn hsl)
theorem aw_icmp_ne {x y : Int32} {off : Int} {t : Nat} (hd : decode M.2.1 pc = .ok (.if_icmp .ne off, 3)) (hq : pc + 3 = q) (ht : (pc : Int) + off = (t : Int)) (K1 : ¬ x = y → AW G M d N S n0 s0 P t L st n sl h) (K2 : ¬ (¬ x = y) → AW G M d N S n0 s0 P q L st n sl h) : AW G M d N S n0 s0 P pc L (.int y :: .int x :: st) n sl h := by
  subst hq
  intro p l e s m args below meth c H locs ls C hs hI hS hl hn hsl
  exact lv_icmp_ne C.1 C.2.1 hd ht (fun z => K1 z p l e s m args below meth c H locs ls C hs hI hS hl hn hsl) (fun z => K2 (fun z9 => z9 z) p l e s m args below meth c H locs ls C hs hI hS hl hn hsl)
theorem aw_if_lt {x : Int32} {off : Int} {t : Nat} (hd : decode M.2.1 pc = .ok (.ifCond .lt off, 3)) (hq : pc + 3 = q) (ht : (pc : Int) + off = (t : Int)) (K1 : x < 0 → AW G M d N S n0 s0 P t L st n sl h) (K2 : ¬ (x < 0) → AW G M d N S n0 s0 P q L st n sl h) : AW G M d N S n0 s0 P pc L (.int x :: st) n sl h := by
  subst hq
  intro p l e s m args below meth c H locs ls C hs hI hS hl hn hsl
  exact lv_if_lt C.1 C.2.1 hd ht (fun z => K1 z p l e s m args below meth c H locs ls C hs hI hS hl hn hsl) (fun z => K2 z p l e s m args below meth c H locs ls C hs hI hS hl hn hsl)
theorem aw_icmp_lt {x y : Int32} {off : Int} {t : Nat} (hd : decode M.2.1 pc = .ok (.if_icmp .lt off, 3)) (hq : pc + 3 = q) (ht : (pc : Int) + off = (t : Int)) (K1 : x < y → AW G M d N S n0 s0 P t L st n sl h) (K2 : ¬ (x < y) → AW G M d N S n0 s0 P q L st n sl h) : AW G M d N S n0 s0 P pc L (.int y :: .int x :: st) n sl h := by
  subst hq
  intro p l e s m args below meth c H locs ls C hs hI hS hl hn hsl
  exact lv_icmp_lt C.1 C.2.1 hd ht (fun z => K1 z p l e s m args below meth c H locs ls C hs hI hS hl hn hsl) (fun z => K2 z p l e s m args below meth c H locs ls C hs hI hS hl hn hsl)
theorem aw_if_ge {x : Int32} {off : Int} {t : Nat} (hd : decode M.2.1 pc = .ok (.ifCond .ge off, 3)) (hq : pc + 3 = q) (ht : (pc : Int) + off = (t : Int)) (K1 : 0 ≤ x → AW G M d N S n0 s0 P t L st n sl h) (K2 : ¬ (0 ≤ x) → AW G M d N S n0 s0 P q L st n sl h) : AW G M d N S n0 s0 P pc L (.int x :: st) n sl h := by
  subst hq
  intro p l e s m args below meth c H locs ls C hs hI hS hl hn hsl
  exact lv_if_ge C.1 C.2.1 hd ht (fun z => K1 z p l e s m args below meth c H locs ls C hs hI hS hl hn hsl) (fun z => K2 z p l e s m args below meth c H locs ls C hs hI hS hl hn hsl)
theorem aw_icmp_ge {x y : Int32} {off : Int} {t : Nat} (hd : decode M.2.1 pc = .ok (.if_icmp .ge off, 3)) (hq : pc + 3 = q) (ht : (pc : Int) + off = (t : Int)) (K1 : y ≤ x → AW G M d N S n0 s0 P t L st n sl h) (K2 : ¬ (y ≤ x) → AW G M d N S n0 s0 P q L st n sl h) : AW G M d N S n0 s0 P pc L (.int y :: .int x :: st) n sl h := by
  subst hq
  intro p l e s m args below meth c H locs ls C hs hI hS hl hn hsl
  exact lv_icmp_ge C.1 C.2.1 hd ht (fun z => K1 z p l e s m args below meth c H locs ls C hs hI hS hl hn hsl) (fun z => K2 z p l e s m args below meth c H locs ls C hs hI hS hl hn hsl)
theorem aw_if_gt {x : Int32} {off : Int} {t : Nat} (hd : decode M.2.1 pc = .ok (.ifCond .gt off, 3)) (hq : pc + 3 = q) (ht : (pc : Int) + off = (t : Int)) (K1 : 0 < x → AW G M d N S n0 s0 P t L st n sl h) (K2 : ¬ (0 < x) → AW G M d N S n0 s0 P q L st n sl h) : AW G M d N S n0 s0 P pc L (.int x :: st) n sl h := by
  subst hq
  intro p l e s m args below meth c H locs ls C hs hI hS hl hn hsl
  exact lv_if_gt C.1 C.2.1 hd ht (fun z => K1 z p l e s m args below meth c H locs ls C hs hI hS hl hn hsl) (fun z => K2 z p l e s m args below meth c H locs ls C hs hI hS hl hn hsl)
theorem aw_icmp_gt {x y : Int32} {off : Int} {t : Nat} (hd : decode M.2.1 pc = .ok (.if_icmp .gt off, 3)) (hq : pc + 3 = q) (ht : (pc : Int) + off = (t : Int)) (K1 : y < x → AW G M d N S n0 s0 P t L st n sl h) (K2 : ¬ (y < x) → AW G M d N S n0 s0 P q L st n sl h) : AW G M d N S n0 s0 P pc L (.int y :: .int x :: st) n sl h := by
  subst hq
  intro p l e s m args below meth c H locs ls C hs hI hS hl hn hsl
  exact lv_icmp_gt C.1 C.2.1 hd ht (fun z => K1 z p l e s m args below meth c H locs ls C hs hI hS hl hn hsl) (fun z => K2 z p l e s m args below meth c H locs ls C hs hI hS hl hn hsl)
theorem aw_if_le {x : Int32} {off : Int} {t : Nat} (hd : decode M.2.1 pc = .ok (.ifCond .le off, 3)) (hq : pc + 3 = q) (ht : (pc : Int) + off = (t : Int)) (K1 : x ≤ 0 → AW G M d N S n0 s0 P t L st n sl h) (K2 : ¬ (x ≤ 0) → AW G M d N S n0 s0 P q L st n sl h) : AW G M d N S n0 s0 P pc L (.int x :: st) n sl h := by
  subst hq
  intro p l e s m args below meth c H locs ls C hs hI hS hl hn hsl
  exact lv_if_le C.1 C.2.1 hd ht (fun z => K1 z p l e s m args below meth c H locs ls C hs hI hS hl hn hsl) (fun z => K2 z p l e s m args below meth c H locs ls C hs hI hS hl hn hsl)
theorem aw_icmp_le {x y : Int32} {off : Int} {t : Nat} (hd : decode M.2.1 pc = .ok (.if_icmp .le off, 3)) (hq : pc + 3 = q) (ht : (pc : Int) + off = (t : Int)) (K1 : x ≤ y → AW G M d N S n0 s0 P t L st n sl h) (K2 : ¬ (x ≤ y) → AW G M d N S n0 s0 P q L st n sl h) : AW G M d N S n0 s0 P pc L (.int y :: .int x :: st) n sl h := by
  subst hq
  intro p l e s m args below meth c H locs ls C hs hI hS hl hn hsl
  exact lv_icmp_le C.1 C.2.1 hd ht (fun z => K1 z p l e s m args below meth c H locs ls C hs hI hS hl hn hsl) (fun z => K2 z p l e s m args below meth c H locs ls C hs hI hS hl hn hsl)
/-- a truth value on the stack -/
def zb (b : Bool) : Int32 := bif b then 1 else 0
theorem zb_0 {b : Bool} : zb b = 0 ↔ b = false := by cases b <;> simp [zb]
theorem aw_ifeqB {b : Bool} {off : Int} {t : Nat} (hd : decode M.2.1 pc = .ok (.ifCond .eq off, 3)) (hq : pc + 3 = q) (ht : (pc : Int) + off = (t : Int)) (K1 : b = true → AW G M d N S n0 s0 P q L st n sl h) (K2 : ¬ (b = true) → AW G M d N S n0 s0 P t L st n sl h) : AW G M d N S n0 s0 P pc L (.int (zb b) :: st) n sl h :=
  aw_if_eq hd hq ht (fun z => K2 (by simp [zb_0.mp z])) (fun z => K1 (by cases b <;> simp_all [zb]))
theorem aw_ifneB {b : Bool} {off : Int} {t : Nat} (hd : decode M.2.1 pc = .ok (.ifCond .ne off, 3)) (hq : pc + 3 = q) (ht : (pc : Int) + off = (t : Int)) (K1 : b = true → AW G M d N S n0 s0 P t L st n sl h) (K2 : ¬ (b = true) → AW G M d N S n0 s0 P q L st n sl h) : AW G M d N S n0 s0 P pc L (.int (zb b) :: st) n sl h :=
  aw_if_ne hd hq ht (fun z => K1 (by cases b <;> simp_all [zb])) (fun z => K2 (by cases b <;> simp_all [zb]))
theorem aw_goto {off : Int} (hd : decode M.2.1 pc = .ok (.goto off, 3)) (ht : (pc : Int) + off = (q : Int)) (K : AW G M d N S n0 s0 P q L st n sl h) : AW G M d N S n0 s0 P pc L st n sl h := by
  intro p l e s m args below meth c H locs ls C hs hI hS hl hn hsl
  exact lv_goto C.1 C.2.1 hd ht (K p l e s m args below meth c H locs ls C hs hI hS hl hn hsl)
theorem aw_tabOut {dflt lo hi : Int} {offs : Array Int} {len : Nat} {x : Int32} (hd : decode M.2.1 pc = .ok (.tableswitch dflt lo hi offs, len)) (hx : x.toInt < lo ∨ hi < x.toInt) (ht : (pc : Int) + dflt = (q : Int)) (K : AW G M d N S n0 s0 P q L st n sl h) : AW G M d N S n0 s0 P pc L (.int x :: st) n sl h := by
  intro p l e s m args below meth c H locs ls C hs hI hS hl hn hsl
  exact lv_tableOut C.1 C.2.1 hd hx ht (K p l e s m args below meth c H locs ls C hs hI hS hl hn hsl)
theorem aw_tabIn {dflt lo hi : Int} {offs : Array Int} {len : Nat} {x : Int32} {off : Int} (hd : decode M.2.1 pc = .ok (.tableswitch dflt lo hi offs, len)) (h1 : ¬ x.toInt < lo) (h2 : ¬ hi < x.toInt) (ho : offs[(x.toInt - lo).toNat]? = some off) (ht : (pc : Int) + off = (q : Int)) (K : AW G M d N S n0 s0 P q L st n sl h) : AW G M d N S n0 s0 P pc L (.int x :: st) n sl h := by
  intro p l e s m args below meth c H locs ls C hs hI hS hl hn hsl
  exact lv_tableIn C.1 C.2.1 hd h1 h2 ho ht (K p l e s m args below meth c H locs ls C hs hI hS hl hn hsl)
/-- fewer locals, another name of a state -/
theorem aw_fewer (hz : zle L' L) (K : AW G M d N S n0 s0 P pc L' st n sl h) : AW G M d N S n0 s0 P pc L st n sl h := by
  intro p l e s m args below meth c H locs ls C hs hI hS hl hn hsl
  exact K p l e s m args below meth c H locs ls C hs hI hS ⟨hl.1, hl.2.1, fun i v hv => hl.2.2 i v (zle_at hz i v hv)⟩ hn hsl
/-- a field, as a pool's entry names it: class and slot, and the tables' words of it -/
def zF (own : String) (idx ci k : Nat) (fin : Bool) (ft : FieldType) : Prop := ∃ (C : String) (T : u_T) (N : Nat) (ty : Nat → FieldType), vwCl[ci]? = some (C, T, N) ∧ k < N ∧ Cond.fieldLink own idx (T k).1 (T k).2.1 (T k).2.2.1 ∈ lw_ok ∧ (∀ w ∈ u_ws C T N, w ∈ lw_ok) ∧ (∀ k, k < N → parseFieldDescriptor (T k).2.2.1 = some (ty k)) ∧ (∀ a, a < N → ∀ b, b < N → a ≠ b → (T a).2.1 ≠ (T b).2.1) ∧ (T k).2.2.2 = fin ∧ parseFieldDescriptor (T k).2.2.1 = some ft ∧ (fin = true → (T k).1 = own)
theorem aw_getf {idx ci k a : Nat} {fin : Bool} {ft : FieldType} {fs : List Value} {v : Value} (hd : decode M.2.1 pc = .ok (.getfield idx, 3)) (hq : pc + 3 = q) (hf : zF M.1.cls idx ci k fin ft) (ha : a < n) (hh : h a = .inr (ci, fs)) (hv : fs[k]? = some v) (K : AW G M d N S n0 s0 P q L (v :: st) n sl h) : AW G M d N S n0 s0 P pc L (.ref a :: st) n sl h := by
  subst hq
  intro p l e s m args below meth c H locs ls C hs hI hS hl hn hsl
  obtain ⟨Cn, T, N9, ty, hc, hk, hlink, hin, -⟩ := hf
  refine va_get (v := zV G v) C.1 C.2.1 C.2.2.2.2.1 hin C.2.2.2.1 C.2.2.2.2.2.2.2.2.1 hI.2.2 a (zWl_at hI.2.1 ha hh) hc k hk (C.2.2.2.2.1 _ hlink) (fun _ h9 => h9) ?_ hd (K p l e s m args below meth c H locs ls C hs hI hS hl hn hsl)
  rw [List.getElem?_map, hv]
  rfl
end ZR
end
section
section ZW
variable {p : Program} {l : Launch} {e : Env} {R : Room} {s : State} {m : MethodId} {args : Array Value} {below : List Frame} {meth : Method} {c : Code} {H : Heap} {locs : List Loc} {cells slots : Nat} {Q : State → Prop}
theorem w_size {g : JFrame} (k : H.size ≤ s.heap.size + cells → W p l e R s m args below meth c H locs cells slots Q g) : W p l e R s m args below meth c H locs cells slots Q g := by
  intro T hT X
  exact k (by rw [← hT]; exact X.heapSize) T hT X
theorem zI_of {G : zG} {n n0 a : Nat} {h : zH} (hs : s.heap.size = G.1 + n0) (hn0 : n0 ≤ n) (hn : n ≤ 1000000) (ha : a < n) (hP : va_P G.2.2.1 vwCl (zWl G n h) H) (hz : H.size ≤ s.heap.size + (n - n0)) : zI G n h H := by
  refine ⟨?_, hn, hP⟩
  have := (hP (n - 1) _ (zWl_get (show n - 1 < n by omega))).lt
  have h2 : G.1 + (n - 1) < H.size := this
  omega
/-- behind a call: the callee's answer and cells -/
theorem zrun {G : zG} {N' : Nat} {P' : Option Value → zH → Prop} {pc : Nat} {ls : Array Slot} {rest st0 : List Value} {a : Array Value} {mc ms : Nat}
    (hr : va_Run p l e R s m args below meth c H locs cells slots mc ms (F0 m pc ls st0) rest (zQ G N' P' a) (fun q => G.1 ≤ q)) (hS : va_S (fun q => G.1 ≤ q) s.heap H locs)
    (kk : ∀ (r : Option Value) (h' : zH) (H1 : Heap) (locs1 : List Loc), P' r h' → zI G N' h' H1 → va_S (fun q => G.1 ≤ q) s.heap H1 locs1 → W p l e R s m args below meth c H1 locs1 (cells + mc) (slots + ms) Q (F0 m (pc + 3) ls ((r.map (zV G)).toList ++ rest))) : W p l e R s m args below meth c H locs cells slots Q (F0 m pc ls st0) := by
  intro T hT X
  obtain ⟨v, st₀, t, T', L, h0, X', hL, e1, e2, ⟨⟨r, h', hv, hp, hI⟩, hz, hk⟩, st⟩ := hr T hT X
  cases hv
  rw [h0] at hz hk
  obtain ⟨t2, a1, b1⟩ := kk r h' T'.heap (locs ++ L) hp (by rw [e1]; exact hI) ⟨Nat.le_trans hS.1 (by rw [e1]; exact hz), fun q h1 h2 => by rw [e1, hk q (Nat.lt_of_lt_of_le h1 hS.1) h2]; exact hS.2.1 q h1 h2, fun q hq => by
      rcases List.mem_append.mp hq with h | h
      · exact hS.2.2 q h
      · exact hL q h⟩ T' rfl X'
  exact ⟨t2, st t2 a1, b1⟩
end ZW
section ZR2
variable {G : zG} {M : zM} {d N S n0 s0 : Nat} {P : Option Value → zH → Prop} {pc q : Nat} {L L' : List (Option Value)} {st stk : List Value} {n sl : Nat} {h h' : zH}
theorem aw_put {idx ci k a : Nat} {ft : FieldType} {fs : List Value} {v : Value} (hd : decode M.2.1 pc = .ok (.putfield idx, 3)) (hq : pc + 3 = q) (hf : zF M.1.cls idx ci k false ft) (ha : a < n) (hh : h a = .inr (ci, fs)) (hn9 : narrow ft (zV G v) = zV G v) (hfit : fits ft (zV G v) = true) (hk9 : k < fs.length) (hH : zu h a (.inr (ci, fs.set k v)) = h') (K : AW G M d N S n0 s0 P q L st n sl h') : AW G M d N S n0 s0 P pc L (v :: .ref a :: st) n sl h := by
  subst hq
  subst hH
  intro p l e s m args below meth c H locs ls C hs hI hS hl hn hsl
  obtain ⟨Cn, T, N9, ty, hc, hk, hlink, hin, hty, hnm, hfin, hdsc, -⟩ := hf
  refine va_put (v := zV G v) C.1 C.2.1 C.2.2.2.2.1 hin ty hty hnm C.2.2.2.1 C.2.2.2.2.2.2.2.2.1 hI.2.2 zWl_D hS a (zWl_at hI.2.1 ha hh) hc k hk (C.2.2.2.2.1 _ hlink) (fun _ h9 => h9) hfin hdsc hn9 hfit (by rw [List.length_map]; exact hk9) hd (fun H1 locs1 hP hD hS1 => w_size fun hz => ?_)
  have e1 : (fs.map (zV G)).set k (zV G v) = (fs.set k v).map (zV G) := List.map_set.symm
  have hP : va_P G.2.2.1 vwCl (zWl G n (zu h a (.inr (ci, fs.set k v)))) H1 := by
    rw [← zWl_set hI.2.1 ha]
    rw [e1] at hP
    exact hP
  exact K p l e s m args below meth c H1 locs1 ls C hs (zI_of hs hn.1 hI.2.1 ha hP hz) hS1 hl hn hsl
theorem aw_putF {idx ci k a : Nat} {ft : FieldType} {fs : List Value} {v : Value} (hd : decode M.2.1 pc = .ok (.putfield idx, 3)) (hq : pc + 3 = q) (hf : zF M.1.cls idx ci k true ft) (hini : M.1.name = "<init>") (ha : a < n) (hh : h a = .inr (ci, fs)) (hn9 : narrow ft (zV G v) = zV G v) (hfit : fits ft (zV G v) = true) (hk9 : k < fs.length) (hH : zu h a (.inr (ci, fs.set k v)) = h') (K : AW G M d N S n0 s0 P q L st n sl h') : AW G M d N S n0 s0 P pc L (v :: .ref a :: st) n sl h := by
  subst hq
  subst hH
  intro p l e s m args below meth c H locs ls C hs hI hS hl hn hsl
  obtain ⟨Cn, T, N9, ty, hc, hk, hlink, hin, hty, hnm, hfin, hdsc, hown⟩ := hf
  refine va_putF (v := zV G v) C.1 C.2.1 C.2.2.2.2.1 hin ty hty hnm C.2.2.2.1 C.2.2.2.2.2.2.2.2.1 hI.2.2 zWl_D hS a (zWl_at hI.2.1 ha hh) hc k hk (C.2.2.2.2.1 _ hlink) (fun _ h9 => h9) hfin (C.2.2.2.2.2.2.2.1.trans hini) (hown rfl) hdsc hn9 hfit (by rw [List.length_map]; exact hk9) hd (fun H1 locs1 hP hD hS1 => w_size fun hz => ?_)
  have e1 : (fs.map (zV G)).set k (zV G v) = (fs.set k v).map (zV G) := List.map_set.symm
  have hP : va_P G.2.2.1 vwCl (zWl G n (zu h a (.inr (ci, fs.set k v)))) H1 := by
    rw [← zWl_set hI.2.1 ha]
    rw [e1] at hP
    exact hP
  exact K p l e s m args below meth c H1 locs1 ls C hs (zI_of hs hn.1 hI.2.1 ha hP hz) hS1 hl hn hsl
theorem aw_iald {a len : Nat} {f : Nat → Int32} {i : Int32} (hd : decode M.2.1 pc = .ok (.iaload, 1)) (hq : pc + 1 = q) (ha : a < n) (hh : h a = .inl (0, len, .inl f)) (hin : vp_in i len) (K : AW G M d N S n0 s0 P q L (.int (f i.toNatClampNeg) :: st) n sl h) : AW G M d N S n0 s0 P pc L (.int i :: .ref a :: st) n sl h := by
  subst hq
  intro p l e s m args below meth c H locs ls C hs hI hS hl hn hsl
  exact va_iald C.1 C.2.1 C.2.2.2.2.2.2.2.2.1 hI.2.2 a 0 (zWl_at hI.2.1 ha hh) rfl hin hd (K p l e s m args below meth c H locs ls C hs hI hS hl hn hsl)
theorem aw_cald {a len : Nat} {f : Nat → Int32} {i : Int32} (hd : decode M.2.1 pc = .ok (.caload, 1)) (hq : pc + 1 = q) (ha : a < n) (hh : h a = .inl (1, len, .inl f)) (hin : vp_in i len) (K : AW G M d N S n0 s0 P q L (.int (f i.toNatClampNeg) :: st) n sl h) : AW G M d N S n0 s0 P pc L (.int i :: .ref a :: st) n sl h := by
  subst hq
  intro p l e s m args below meth c H locs ls C hs hI hS hl hn hsl
  exact va_cald C.1 C.2.1 C.2.2.2.2.2.2.2.2.1 hI.2.2 a 1 (zWl_at hI.2.1 ha hh) rfl hin hd (K p l e s m args below meth c H locs ls C hs hI hS hl hn hsl)
theorem aw_iast {a len : Nat} {f : Nat → Int32} {i x : Int32} (hd : decode M.2.1 pc = .ok (.iastore, 1)) (hq : pc + 1 = q) (ha : a < n) (hh : h a = .inl (0, len, .inl f)) (hin : vp_in i len) (hH : zu h a (.inl (0, len, .inl (upd f i.toNatClampNeg x))) = h') (K : AW G M d N S n0 s0 P q L st n sl h') : AW G M d N S n0 s0 P pc L (.int x :: .int i :: .ref a :: st) n sl h := by
  subst hq
  subst hH
  intro p l e s m args below meth c H locs ls C hs hI hS hl hn hsl
  refine va_iast C.1 C.2.1 C.2.2.2.2.2.2.2.2.1 hI.2.2 zWl_D hS a 0 (zWl_at hI.2.1 ha hh) rfl hin hd (fun H1 locs1 hP hD hS1 => w_size fun hz => ?_)
  have hP : va_P G.2.2.1 vwCl (zWl G n (zu h a (.inl (0, len, .inl (upd f i.toNatClampNeg x))))) H1 := by
    rw [← zWl_set hI.2.1 ha]
    exact hP
  exact K p l e s m args below meth c H1 locs1 ls C hs (zI_of hs hn.1 hI.2.1 ha hP hz) hS1 hl hn hsl
theorem aw_cast {a len : Nat} {f : Nat → Int32} {i x : Int32} (hd : decode M.2.1 pc = .ok (.castore, 1)) (hq : pc + 1 = q) (ha : a < n) (hh : h a = .inl (1, len, .inl f)) (hin : vp_in i len) (hH : zu h a (.inl (1, len, .inl (upd f i.toNatClampNeg (vp_nar .char x)))) = h') (K : AW G M d N S n0 s0 P q L st n sl h') : AW G M d N S n0 s0 P pc L (.int x :: .int i :: .ref a :: st) n sl h := by
  subst hq
  subst hH
  intro p l e s m args below meth c H locs ls C hs hI hS hl hn hsl
  refine va_cast C.1 C.2.1 C.2.2.2.2.2.2.2.2.1 hI.2.2 zWl_D hS a 1 (zWl_at hI.2.1 ha hh) rfl hin hd (fun H1 locs1 hP hD hS1 => w_size fun hz => ?_)
  have hP : va_P G.2.2.1 vwCl (zWl G n (zu h a (.inl (1, len, .inl (upd f i.toNatClampNeg (vp_nar .char x)))))) H1 := by
    rw [← zWl_set hI.2.1 ha]
    exact hP
  exact K p l e s m args below meth c H1 locs1 ls C hs (zI_of hs hn.1 hI.2.1 ha hP hz) hS1 hl hn hsl
/-- an entry of a row of references -/
theorem aw_aald {a len t b : Nat} {f : Nat → Option Nat} {i : Int32} (hd : decode M.2.1 pc = .ok (.aaload, 1)) (hq : pc + 1 = q) (ha : a < n) (ht : t = 2 ∨ t = 3 ∨ t = 4) (hh : h a = .inl (t, len, .inr (.inr (.inr (.inr f))))) (hin : vp_in i len) (hf : f i.toNatClampNeg = some b) (K : AW G M d N S n0 s0 P q L (.ref b :: st) n sl h) : AW G M d N S n0 s0 P pc L (.int i :: .ref a :: st) n sl h := by
  subst hq
  intro p l e s m args below meth c H locs ls C hs hI hS hl hn hsl
  have hlt : i.toNatClampNeg < len := Nat.not_le.mp fun q => hin (Or.inr q)
  have ha9 := zWl_at (G := G) hI.2.1 ha hh
  have hty : ∃ ty : FieldType, (zTy G)[t]? = some (G.2.2.2 t, ty) ∧ ty.isReference = true := by
    rcases ht with rfl | rfl | rfl <;> exact ⟨_, rfl, rfl⟩
  obtain ⟨ty, ht9, hr9⟩ := hty
  have hc9 := hI.2.2 a _ ha9
  refine W.aald (v := .ref (zA G b)) (ty := ty) C.1 C.2.1 hc9 ((C.2.2.2.2.2.2.2.2.1.2 t _ ht9).1 len (fun j => va_rf ((f j).map (zA G)))) hr9 (fun q => by cases q) ?_ ?_ rfl rfl hd (K p l e s m args below meth c H locs ls C hs hI hS hl hn hsl)
  · show ¬ (i < 0 ∨ (arrV _ _ _).slots.size ≤ _)
    rw [arrV_size]
    exact hin
  · show (arrV (G.2.2.2 t) len (fun j => va_rf ((f j).map (zA G)))).slots[i.toNatClampNeg]? = _
    rw [arrV_read _ _ hlt]
    show some (va_rf ((f i.toNatClampNeg).map (zA G))) = _
    rw [hf]
    rfl
theorem aw_alen {a t : Nat} {x : vp_A} {v : Int32} (hd : decode M.2.1 pc = .ok (.arraylength, 1)) (hq : pc + 1 = q) (ha : a < n) (ht : t < 5) (hh : h a = .inl (t, x)) (hv : Int32.ofNat x.1 = v) (K : AW G M d N S n0 s0 P q L (.int v :: st) n sl h) : AW G M d N S n0 s0 P pc L (.ref a :: st) n sl h := by
  subst hq
  intro p l e s m args below meth c H locs ls C hs hI hS hl hn hsl
  have hty : ∃ ty : FieldType, (zTy G)[t]? = some (G.2.2.2 t, ty) := by
    rcases (by omega : t = 0 ∨ t = 1 ∨ t = 2 ∨ t = 3 ∨ t = 4) with rfl | rfl | rfl | rfl | rfl <;> exact ⟨_, rfl⟩
  obtain ⟨ty, ht9⟩ := hty
  have e1 : (zX G x).1 = x.1 := by
    obtain ⟨n9, f | f | f | f | f⟩ := x <;> rfl
  exact va_alen C.1 C.2.1 C.2.2.2.2.2.2.2.2.1 hI.2.2 a t (zWl_at hI.2.1 ha hh) ht9 (by rw [e1]; exact hv) hd (K p l e s m args below meth c H locs ls C hs hI hS hl hn hsl)
/-- static rows of numbers -/
theorem aw_gets0 {idx : Nat} (hd : decode M.2.1 pc = .ok (.getstatic idx, 3)) (hq : pc + 3 = q) (hw : Cond.fieldLink M.1.cls idx RX3 "FEWEST_NUMBERS" "[I" ∈ lw_ok) (K : AW G M d N S n0 s0 P q L (.ref 1000000 :: st) n sl h) : AW G M d N S n0 s0 P pc L st n sl h := by
  subst hq
  intro p l e s m args below meth c H locs ls C hs hI hS hl hn hsl
  exact va_gets C.1 C.2.1 C.2.2.2.2.2.2.2.2.2.2.1.1 hS C.2.2.2.1 (C.2.2.2.2.1 _ hw) (fun _ h9 => h9) hd (K p l e s m args below meth c H locs ls C hs hI hS hl hn hsl)
theorem aw_gets1 {idx : Nat} (hd : decode M.2.1 pc = .ok (.getstatic idx, 3)) (hq : pc + 3 = q) (hw : Cond.fieldLink M.1.cls idx RX3 "MOST_NUMBERS" "[I" ∈ lw_ok) (K : AW G M d N S n0 s0 P q L (.ref 1000001 :: st) n sl h) : AW G M d N S n0 s0 P pc L st n sl h := by
  subst hq
  intro p l e s m args below meth c H locs ls C hs hI hS hl hn hsl
  exact va_gets C.1 C.2.1 C.2.2.2.2.2.2.2.2.2.2.1.2.1 hS C.2.2.2.1 (C.2.2.2.2.1 _ hw) (fun _ h9 => h9) hd (K p l e s m args below meth c H locs ls C hs hI hS hl hn hsl)
theorem aw_getsC {idx : Nat} (hd : decode M.2.1 pc = .ok (.getstatic idx, 3)) (hq : pc + 3 = q) (hw : Cond.fieldLink M.1.cls idx "java/lang/String" "COMPACT_STRINGS" "Z" ∈ lw_ok) (K : AW G M d N S n0 s0 P q L (.int 1 :: st) n sl h) : AW G M d N S n0 s0 P pc L st n sl h := by
  subst hq
  intro p l e s m args below meth c H locs ls C hs hI hS hl hn hsl
  exact va_gets C.1 C.2.1 C.2.2.2.2.2.2.2.2.2.2.1.2.2 hS C.2.2.2.1 (C.2.2.2.2.1 _ hw) (fun _ h9 => h9) hd (K p l e s m args below meth c H locs ls C hs hI hS hl hn hsl)
theorem aw_ti0 {i : Int32} (hd : decode M.2.1 pc = .ok (.iaload, 1)) (hq : pc + 1 = q) (hin : vp_in i 8) (K : AW G M d N S n0 s0 P q L (.int (z0 i.toNatClampNeg) :: st) n sl h) : AW G M d N S n0 s0 P pc L (.int i :: .ref 1000000 :: st) n sl h := by
  subst hq
  intro p l e s m args below meth c H locs ls C hs hI hS hl hn hsl
  exact va_ti C.1 C.2.1 C.2.2.2.2.2.2.2.2.2.2.2.1.1 hS hin rfl hd (K p l e s m args below meth c H locs ls C hs hI hS hl hn hsl)
theorem aw_ti1 {i : Int32} (hd : decode M.2.1 pc = .ok (.iaload, 1)) (hq : pc + 1 = q) (hin : vp_in i 8) (K : AW G M d N S n0 s0 P q L (.int (z1 i.toNatClampNeg) :: st) n sl h) : AW G M d N S n0 s0 P pc L (.int i :: .ref 1000001 :: st) n sl h := by
  subst hq
  intro p l e s m args below meth c H locs ls C hs hI hS hl hn hsl
  exact va_ti C.1 C.2.1 C.2.2.2.2.2.2.2.2.2.2.2.1.2 hS hin rfl hd (K p l e s m args below meth c H locs ls C hs hI hS hl hn hsl)
/-- the end -/
theorem aw_ret {ty : FieldType} {x : Int32} (hd : decode M.2.1 pc = .ok (.ireturn, 1)) (hr : M.2.2.2 = some ty) (hna : narrow ty (.int x) = .int x) (hN : n = N) (hSl : sl = S) (hP : P (some (.int x)) h) : AW G M d N S n0 s0 P pc L [.int x] n sl h := by
  subst hN
  subst hSl
  intro p l e s m args below meth c H locs ls C hs hI hS hl hn hsl
  exact W.zret (v := x) C.1 C.2.1 (C.2.2.2.2.2.1.trans hr) hna (fun t ht hW => ⟨⟨some (.int x), h, rfl, hP, by rw [ht]; exact hI⟩, hS.F ht⟩) hS.2.2 hd C.2.2.2.2.2.2.1
theorem aw_retB {b : Bool} (hd : decode M.2.1 pc = .ok (.ireturn, 1)) (hr : M.2.2.2 = some .boolean) (hN : n = N) (hSl : sl = S) (hP : P (some (.int (zb b))) h) : AW G M d N S n0 s0 P pc L [.int (zb b)] n sl h :=
  aw_ret hd hr (by cases b <;> rfl) hN hSl hP
theorem aw_vret (hd : decode M.2.1 pc = .ok (.return_, 1)) (hr : M.2.2.2 = none) (hN : n = N) (hSl : sl = S) (hP : P none h) : AW G M d N S n0 s0 P pc L [] n sl h := by
  subst hN
  subst hSl
  intro p l e s m args below meth c H locs ls C hs hI hS hl hn hsl
  exact W.vret C.1 C.2.1 (C.2.2.2.2.2.1.trans hr) (fun t ht hW => ⟨⟨none, h, rfl, hP, by rw [ht]; exact hI⟩, hS.F ht⟩) hS.2.2 hd C.2.2.2.2.2.2.1
theorem aw_aret {Cn : String} {a : Nat} (hd : decode M.2.1 pc = .ok (.areturn, 1)) (hr : M.2.2.2 = some (.object Cn)) (hN : n = N) (hSl : sl = S) (hP : P (some (.ref a)) h) : AW G M d N S n0 s0 P pc L [.ref a] n sl h := by
  subst hN
  subst hSl
  intro p l e s m args below meth c H locs ls C hs hI hS hl hn hsl
  exact W.aret (v := .ref (zA G a)) C.1 C.2.1 (C.2.2.2.2.2.1.trans hr) (Or.inl ⟨_, rfl⟩) (Or.inr ⟨_, rfl⟩) (fun t ht hW => ⟨⟨some (.ref a), h, rfl, hP, by rw [ht]; exact hI⟩, hS.F ht⟩) hS.2.2 hd C.2.2.2.2.2.2.1
end ZR2
end
section
section ZCALL
variable {G : zG} {M M' : zM} {d d' N S n0 s0 N' S' : Nat} {P P' : Option Value → zH → Prop} {pc q : Nat} {L L' : List (Option Value)} {st stk as : List Value} {n sl : Nat} {h h' : zH}
/-- what the tables say of a callee -/
def zW (M' : zM) (na : Nat) : Prop := Cond.initialized M'.1.cls ∈ lw_ok ∧ Cond.code M'.1 M'.2.1 M'.2.2.1 M'.2.2.2 ∈ lw_ok ∧ (M'.1.cls ≠ "java/lang/invoke/MethodHandle" ∧ M'.1.cls ≠ "java/lang/invoke/VarHandle") ∧ (parseMethodDescriptor M'.1.desc).map (fun d => d.parameters.length) = some na ∧ M'.2.2.1 ≤ 21
theorem zpay {s : State} {args : Array Value} (hts : ∀ w ∈ lw_ok, w.before args s = true) (hw : zW M' n) : ∀ w ∈ (.code M'.1 M'.2.1 M'.2.2.1 M'.2.2.2 :: lw_ok : List Cond), ∀ (a' : Array Value) (U : State), s.WarmedH U.vm → w.before a' U = true :=
  pay_in hts (fun w h => by
    rcases List.mem_cons.mp h with rfl | h
    · exact ⟨hw.2.1, lw_ok_good hw.2.1⟩
    · exact ⟨h, lw_ok_good h⟩)
theorem zlen {na : Nat} {sig : MethodDescriptor} (h : (parseMethodDescriptor M'.1.desc).map (fun d => d.parameters.length) = some na) (hs : parseMethodDescriptor M'.1.desc = some sig) : na = sig.parameters.length := by
  rw [hs] at h
  exact (Option.some.inj h).symm
theorem zblind {Ps : Array Value → State → Prop} {as : List Value} : FrameBlind (va_Pc as (fun U => zI G n h U.heap ∧ zS G U U.heap)) := by
  intro a U g mk hq
  obtain ⟨h1, h2, h3⟩ := hq
  exact ⟨h1, h2, zS.go h3 (State.WarmedH.refl U) (Nat.le_refl _) (fun _ _ _ => rfl)⟩
theorem zpre {s U : State} {H : Heap} {locs : List Loc} (hZ : zS G s s.heap) (hI : zI G n h H) (hS : va_S (fun q => G.1 ≤ q) s.heap H locs) (hU : U.heap = H) (hW : s.WarmedH U.vm) : zI G n h U.heap ∧ zS G U U.heap := by
  rw [hU]
  exact ⟨hI, hZ.go hW hS.1 hS.2.1⟩
theorem zroom {d d' : Nat} (h : d' + 1 ≤ d) (hm : M'.2.2.1 ≤ 21) : 8 + (M'.2.2.1 + 11) + 40 * d' ≤ 40 * d := by omega
theorem ztail {r : Option Value} : (r.map (zV G)).toList ++ st.map (zV G) = (r.toList ++ st).map (zV G) := by cases r <;> rfl
theorem znext {mc : Nat} (h1 : n ≤ N') (h2 : n0 ≤ n) (e : mc = N' - n) : (n - n0) + mc = N' - n0 := by omega
theorem zcat (h : (st.map fun v => v.category).sum ≤ 8) : ((st.map (zV G)).map fun v => v.category).sum ≤ 8 := by rw [zV_cats]; exact h
theorem aw_cs {idx na : Nat} (hd : decode M.2.1 pc = .ok (.invokestatic idx, 3)) (hq : pc + 3 = q) (hw : zW M' na) (hl : Cond.methodLink M.1.cls idx M'.1 ∈ lw_ok) (hst : Cond.static M'.1 ∈ lw_ok) (hk : stk = as.reverse ++ st) (hna : as.length = na) (hdep : d' + 1 ≤ d) (hcat : (st.map fun v => v.category).sum ≤ 8) (hM : zMt G d' M' as n sl h N' S' P') (hN : N' ≤ N) (hS' : S' ≤ S) (K : ∀ r h', P' r h' → AW G M d N S n0 s0 P q L (r.toList ++ st) N' S' h') : AW G M d N S n0 s0 P pc L stk n sl h := by
  subst hq
  subst hk
  intro p l e s m args below meth c H locs ls C hs hI hS hl9 hn hsl
  obtain ⟨hM1, hM2, hM3⟩ := hM
  obtain ⟨w1, w2, w3, w4, w5⟩ := id hw
  have hts := C.2.2.2.2.1
  refine zrun (N' := N') (P' := P') (mc := N' - n) (ms := S' - sl) (va_runS (own := M.1.cls) (index := idx) (n := na) (As := as.map (zV G)) (rest := st.map (zV G)) (g := F0 m pc ls ((as.reverse ++ st).map (zV G))) ⟨C.1, C.2.1, C.2.2.1, C.2.2.2.1, hts⟩ (hM3 l) ⟨⟨rfl, rfl, hdep, zroom hdep w5, zpay hts hw, List.mem_cons_self, hts _ w2, hts _ w1, w3, fun sig hs9 => zlen w4 hs9, hts _ hl⟩, hts _ hst⟩
    ⟨zblind (Ps := fun _ _ => True), fun U hU hW => ⟨rfl, zpre C.2.2.2.2.2.2.2.2 hI hS hU hW⟩⟩ rfl (by rw [List.length_map]; exact hna) hl9.1 (by simp) (lv_room (zcat hcat)) hd
    ⟨by show n - n0 + (N' - n) ≤ N - n0; omega, by show sl - s0 + (S' - sl) ≤ S - s0; omega⟩) hS (fun r h' H1 locs1 hp hI1 hS1 => ?_)
  rw [ztail, znext hM1 hn.1 rfl, znext (n0 := s0) hM2 hsl.1 rfl]
  exact K r h' hp p l e s m args below meth c H1 locs1 ls C hs hI1 hS1 hl9 ⟨by omega, hN⟩ ⟨by omega, hS'⟩
theorem aw_csN {idx na : Nat} (hd : decode M.2.1 pc = .ok (.invokestatic idx, 3)) (hq : pc + 3 = q) (hw : zW M' na) (hl : (M.1.cls, idx, M'.1) ∈ zNl) (hst : Cond.static M'.1 ∈ lw_ok) (hk : stk = as.reverse ++ st) (hna : as.length = na) (hdep : d' + 1 ≤ d) (hcat : (st.map fun v => v.category).sum ≤ 8) (hM : zMt G d' M' as n sl h N' S' P') (hN : N' ≤ N) (hS' : S' ≤ S) (K : ∀ r h', P' r h' → AW G M d N S n0 s0 P q L (r.toList ++ st) N' S' h') : AW G M d N S n0 s0 P pc L stk n sl h := by
  subst hq
  subst hk
  intro p l e s m args below meth c H locs ls C hs hI hS hl9 hn hsl
  obtain ⟨hM1, hM2, hM3⟩ := hM
  obtain ⟨w1, w2, w3, w4, w5⟩ := id hw
  have hts := C.2.2.2.2.1
  refine zrun (N' := N') (P' := P') (mc := N' - n) (ms := S' - sl) (va_runSN (host := RX6) (own := M.1.cls) (index := idx) (n := na) (As := as.map (zV G)) (rest := st.map (zV G)) (g := F0 m pc ls ((as.reverse ++ st).map (zV G))) ⟨C.1, C.2.1, C.2.2.1, C.2.2.2.1, hts⟩ (hM3 l) ⟨⟨⟨rfl, rfl, hdep, zroom hdep w5, zpay hts hw, List.mem_cons_self⟩, hts _ w2, hts _ w1, w3, fun sig hs9 => zlen w4 hs9, va_Nw.use rfl (C.2.2.2.2.2.2.2.2.2.2.2.2.2.2.1 _ hl)⟩, hts _ hst, trivial⟩
    ⟨zblind (Ps := fun _ _ => True), fun U hU hW => ⟨rfl, zpre C.2.2.2.2.2.2.2.2 hI hS hU hW⟩⟩ rfl (by rw [List.length_map]; exact hna) hl9.1 (by simp) (lv_room (zcat hcat)) hd
    ⟨by show n - n0 + (N' - n) ≤ N - n0; omega, by show sl - s0 + (S' - sl) ≤ S - s0; omega⟩) hS (fun r h' H1 locs1 hp hI1 hS1 => ?_)
  rw [ztail, znext hM1 hn.1 rfl, znext (n0 := s0) hM2 hsl.1 rfl]
  exact K r h' hp p l e s m args below meth c H1 locs1 ls C hs hI1 hS1 hl9 ⟨by omega, hN⟩ ⟨by omega, hS'⟩
theorem aw_cv {idx na ci b : Nat} {T : u_T} {Nf : Nat} {fs : List Value} (hd : decode M.2.1 pc = .ok (.invokevirtual idx, 3)) (hq : pc + 3 = q) (hw : zW M' na) (hl : Cond.methodLink M.1.cls idx M'.1 ∈ lw_ok) (hin : Cond.instanceMethod M'.1 ∈ lw_ok) (hsel : Cond.selects M'.1.cls M'.1 M'.1 ∈ lw_ok) (hb : b < n) (hh : h b = .inr (ci, fs)) (hc : vwCl[ci]? = some (M'.1.cls, T, Nf)) (hk : stk = as.reverse ++ .ref b :: st) (hna : as.length = na) (hdep : d' + 1 ≤ d) (hcat : (st.map fun v => v.category).sum ≤ 8) (hM : zMt G d' M' (.ref b :: as) n sl h N' S' P') (hN : N' ≤ N) (hS' : S' ≤ S) (K : ∀ r h', P' r h' → AW G M d N S n0 s0 P q L (r.toList ++ st) N' S' h') : AW G M d N S n0 s0 P pc L stk n sl h := by
  subst hq
  subst hk
  intro p l e s m args below meth c H locs ls C hs hI hS hl9 hn hsl
  obtain ⟨hM1, hM2, hM3⟩ := hM
  obtain ⟨w1, w2, w3, w4, w5⟩ := id hw
  have hts := C.2.2.2.2.1
  refine zrun (N' := N') (P' := P') (mc := N' - n) (ms := S' - sl) (va_runV (C := M'.1.cls) (b := zA G b) (own := M.1.cls) (index := idx) (n := na) (As := as.map (zV G)) (rest := st.map (zV G)) (g := F0 m pc ls ((as.reverse ++ .ref b :: st).map (zV G))) ⟨C.1, C.2.1, C.2.2.1, C.2.2.2.1, hts⟩ (hM3 l) ⟨⟨rfl, rfl, hdep, zroom hdep w5, zpay hts hw, List.mem_cons_self, hts _ w2, hts _ w1, w3, fun sig hs9 => zlen w4 hs9, hts _ hl⟩, hts _ hin, hts _ hsel⟩
    ⟨zblind (Ps := fun _ _ => True), va_recv C.2.2.2.2.2.2.2.2.1 hI.2.2 hc (zWl_at hI.2.1 hb hh), fun U hU hW => ⟨rfl, zpre C.2.2.2.2.2.2.2.2 hI hS hU hW⟩⟩ rfl (by rw [List.length_map]; exact hna) hl9.1 (by simp [zV]) (lv_room (zcat hcat)) hd
    ⟨by show n - n0 + (N' - n) ≤ N - n0; omega, by show sl - s0 + (S' - sl) ≤ S - s0; omega⟩) hS (fun r h' H1 locs1 hp hI1 hS1 => ?_)
  rw [ztail, znext hM1 hn.1 rfl, znext (n0 := s0) hM2 hsl.1 rfl]
  exact K r h' hp p l e s m args below meth c H1 locs1 ls C hs hI1 hS1 hl9 ⟨by omega, hN⟩ ⟨by omega, hS'⟩
theorem aw_ci {idx na b : Nat} (hd : decode M.2.1 pc = .ok (.invokespecial idx, 3)) (hq : pc + 3 = q) (hw : zW M' na) (hl : Cond.methodLink M.1.cls idx M'.1 ∈ lw_ok) (hin : Cond.instanceMethod M'.1 ∈ lw_ok) (hini : M'.1.name = "<init>") (hret : M'.2.2.2 = none) (hk : stk = as.reverse ++ .ref b :: st) (hna : as.length = na) (hdep : d' + 1 ≤ d) (hcat : (st.map fun v => v.category).sum ≤ 8) (hM : zMt G d' M' (.ref b :: as) n sl h N' S' P') (hN : N' ≤ N) (hS' : S' ≤ S) (K : ∀ r h', P' r h' → AW G M d N S n0 s0 P q L (r.toList ++ st) N' S' h') : AW G M d N S n0 s0 P pc L stk n sl h := by
  subst hq
  subst hk
  intro p l e s m args below meth c H locs ls C hs hI hS hl9 hn hsl
  obtain ⟨hM1, hM2, hM3⟩ := hM
  obtain ⟨w1, w2, w3, w4, w5⟩ := id hw
  have hts := C.2.2.2.2.1
  obtain ⟨My, Mb, Mm, Mr⟩ := M'
  dsimp only at hret
  subst hret
  refine zrun (N' := N') (P' := P') (mc := N' - n) (ms := S' - sl) (va_runI (b := zA G b) (own := M.1.cls) (index := idx) (n := na) (As := as.map (zV G)) (rest := st.map (zV G)) (g := F0 m pc ls ((as.reverse ++ .ref b :: st).map (zV G))) ⟨C.1, C.2.1, C.2.2.1, C.2.2.2.1, hts⟩ (hM3 l) ⟨⟨rfl, rfl, hdep, zroom hdep w5, zpay hts hw, List.mem_cons_self, hts _ w2, hts _ w1, w3, fun sig hs9 => zlen w4 hs9, hts _ hl⟩, hini, hts _ hin⟩
    ⟨zblind (Ps := fun _ _ => True), fun U hU hW => ⟨rfl, zpre C.2.2.2.2.2.2.2.2 hI hS hU hW⟩⟩ rfl (by rw [List.length_map]; exact hna) hl9.1 (by simp [zV]) (lv_room (zcat hcat)) hd
    ⟨by show n - n0 + (N' - n) ≤ N - n0; omega, by show sl - s0 + (S' - sl) ≤ S - s0; omega⟩) hS (fun r h' H1 locs1 hp hI1 hS1 => ?_)
  rw [ztail, znext hM1 hn.1 rfl, znext (n0 := s0) hM2 hsl.1 rfl]
  exact K r h' hp p l e s m args below meth c H1 locs1 ls C hs hI1 hS1 hl9 ⟨by omega, hN⟩ ⟨by omega, hS'⟩
theorem aw_ciN {idx na b : Nat} (hd : decode M.2.1 pc = .ok (.invokespecial idx, 3)) (hq : pc + 3 = q) (hw : zW M' na) (hl : (M.1.cls, idx, M'.1) ∈ zNl) (hin : Cond.instanceMethod M'.1 ∈ lw_ok) (hini : M'.1.name = "<init>") (hret : M'.2.2.2 = none) (hk : stk = as.reverse ++ .ref b :: st) (hna : as.length = na) (hdep : d' + 1 ≤ d) (hcat : (st.map fun v => v.category).sum ≤ 8) (hM : zMt G d' M' (.ref b :: as) n sl h N' S' P') (hN : N' ≤ N) (hS' : S' ≤ S) (K : ∀ r h', P' r h' → AW G M d N S n0 s0 P q L (r.toList ++ st) N' S' h') : AW G M d N S n0 s0 P pc L stk n sl h := by
  subst hq
  subst hk
  intro p l e s m args below meth c H locs ls C hs hI hS hl9 hn hsl
  obtain ⟨hM1, hM2, hM3⟩ := hM
  obtain ⟨w1, w2, w3, w4, w5⟩ := id hw
  have hts := C.2.2.2.2.1
  obtain ⟨My, Mb, Mm, Mr⟩ := M'
  dsimp only at hret
  subst hret
  refine zrun (N' := N') (P' := P') (mc := N' - n) (ms := S' - sl) (va_runIN (host := RX6) (b := zA G b) (own := M.1.cls) (index := idx) (n := na) (As := as.map (zV G)) (rest := st.map (zV G)) (g := F0 m pc ls ((as.reverse ++ .ref b :: st).map (zV G))) ⟨C.1, C.2.1, C.2.2.1, C.2.2.2.1, hts⟩ (hM3 l) ⟨⟨⟨rfl, rfl, hdep, zroom hdep w5, zpay hts hw, List.mem_cons_self⟩, hts _ w2, hts _ w1, w3, fun sig hs9 => zlen w4 hs9, va_Nw.use rfl (C.2.2.2.2.2.2.2.2.2.2.2.2.2.2.1 _ hl)⟩, hini, hts _ hin⟩
    ⟨zblind (Ps := fun _ _ => True), fun U hU hW => ⟨rfl, zpre C.2.2.2.2.2.2.2.2 hI hS hU hW⟩⟩ rfl (by rw [List.length_map]; exact hna) hl9.1 (by simp [zV]) (lv_room (zcat hcat)) hd
    ⟨by show n - n0 + (N' - n) ≤ N - n0; omega, by show sl - s0 + (S' - sl) ≤ S - s0; omega⟩) hS (fun r h' H1 locs1 hp hI1 hS1 => ?_)
  rw [ztail, znext hM1 hn.1 rfl, znext (n0 := s0) hM2 hsl.1 rfl]
  exact K r h' hp p l e s m args below meth c H1 locs1 ls C hs hI1 hS1 hl9 ⟨by omega, hN⟩ ⟨by omega, hS'⟩
/-- a body gives the contract -/
theorem zMt_of (hy : plainName M.1.cls = true) (hc1 : ∀ v ∈ as, v.category = 1) (hlen : as.length ≤ M.2.2.1) (hN : n ≤ N) (hSl : sl ≤ S) (hL : as.map some ++ List.replicate (M.2.2.1 - as.length) none = L) (K : AW G M d N S n sl P 0 L [] n sl h) : zMt G d M as n sl h N S P := by
  subst hL
  refine ⟨hN, hSl, fun l => ?_⟩
  refine Met.ofW (cc := M.2.1) (maxL := M.2.2.1) (ret := M.2.2.2) hy rfl ?_
  intro p e s m args below meth c s₁ B hml hv
  obtain ⟨rfl, hI, hZ⟩ := hv
  have hts := atoms_spec (ws := .code M.1 M.2.1 M.2.2.1 M.2.2.2 :: lw_ok) B.pre
  have hcat : ∀ v ∈ as.map (zV G), v.category = 1 := fun v hv => by
    obtain ⟨w, hw, rfl⟩ := List.mem_map.mp hv
    rw [zV_cat]
    exact hc1 w hw
  have e0 : ∀ l : List Value, (∀ v ∈ l, v.category = 1) → lg_sl l = l.map Slot.val := by
    intro l
    induction l with
    | nil => intro _; rfl
    | cons v t ih =>
      intro h1
      have h2 : ¬ v.category = 2 := by
        rw [h1 v List.mem_cons_self]
        decide
      have h3 := ih (fun w hw => h1 w (List.mem_cons_of_mem _ hw))
      simp only [lg_sl, List.flatMap_cons, List.map_cons] at h3 ⊢
      rw [h3]
      simp [h2]
  have hl := lv_entry (as.map (zV G)) (n := M.2.2.1) (by rw [e0 _ hcat]; simpa using hlen)
  rw [lg_entry_eq]
  generalize hls : (lg_sl (as.map (zV G)) ++ List.replicate (M.2.2.1 - (lg_sl (as.map (zV G))).length) Slot.unset).toArray = ls at hl ⊢
  have hzL : zL G M.2.2.1 (as.map some ++ List.replicate (M.2.2.1 - as.length) none) ls := by
    refine ⟨hl.1, hl.2.1, fun i v hv => ?_⟩
    rw [← hls, e0 _ hcat]
    by_cases hi : i < as.length
    · rw [List.getElem?_append_left (by simpa using hi)] at hv
      rw [List.getElem?_toArray, List.getElem?_append_left (by simpa using hi)]
      rw [List.getElem?_map] at hv ⊢
      rw [List.getElem?_map]
      cases hx : as[i]? with
      | none => rw [hx] at hv; cases hv
      | some w =>
        rw [hx] at hv
        simp at hv
        subst hv
        rfl
    · rw [List.getElem?_append_right (by simpa using hi)] at hv
      have := List.mem_of_getElem? hv
      have := List.eq_of_mem_replicate this
      cases this
  have key := K p l e s m _ below meth c s.heap [] ls ⟨B.exec, B.bytes, hml, findClass_of_methodNamed B.named, fun w hw => hts w (List.mem_cons_of_mem _ hw), B.returns, B.notSynchronized, (name_of_methodNamed B.named B.method).1, hZ⟩ hI.1 hI va_S.rf hzL ⟨Nat.le_refl _, hN⟩ ⟨Nat.le_refl _, hSl⟩
  rw [Nat.sub_self, Nat.sub_self] at key
  exact key
end ZCALL
end
section
/-- a field that is read -/
def zFr (own : String) (idx ci k : Nat) : Prop := ∃ (C : String) (T : u_T) (N : Nat), vwCl[ci]? = some (C, T, N) ∧ k < N ∧ Cond.fieldLink own idx (T k).1 (T k).2.1 (T k).2.2.1 ∈ lw_ok ∧ (∀ w ∈ u_ws C T N, w ∈ lw_ok)
abbrev M_X0_init : zM := (yX0_init, cX0_init, 1, none)
theorem W_X0_init : zW M_X0_init 0 := ⟨lw_ok_of 4 (by decide +kernel) rfl, lw_ok_of 38 (by decide +kernel) rfl, ⟨by decide +kernel, by decide +kernel⟩, by decide +kernel, by decide⟩
theorem i_X0_init : Cond.instanceMethod yX0_init ∈ lw_ok := lw_ok_of 37 (by decide +kernel) rfl
abbrev M_X0_copyFrom : zM := (yX0_copyFrom, cX0_copyFrom, 2, none)
theorem W_X0_copyFrom : zW M_X0_copyFrom 1 := ⟨lw_ok_of 4 (by decide +kernel) rfl, lw_ok_of 298 (by decide +kernel) rfl, ⟨by decide +kernel, by decide +kernel⟩, by decide +kernel, by decide⟩
theorem i_X0_copyFrom : Cond.instanceMethod yX0_copyFrom ∈ lw_ok := lw_ok_of 296 (by decide +kernel) rfl
theorem v_X0_copyFrom : Cond.selects yX0_copyFrom.cls yX0_copyFrom yX0_copyFrom ∈ lw_ok := lw_ok_of 297 (by decide +kernel) rfl
abbrev M_X0_refusalOfNet : zM := (yX0_refusalOfNet, cX0_refusalOfNet, 3, (some .int))
theorem W_X0_refusalOfNet : zW M_X0_refusalOfNet 1 := ⟨lw_ok_of 4 (by decide +kernel) rfl, lw_ok_of 272 (by decide +kernel) rfl, ⟨by decide +kernel, by decide +kernel⟩, by decide +kernel, by decide⟩
theorem i_X0_refusalOfNet : Cond.instanceMethod yX0_refusalOfNet ∈ lw_ok := lw_ok_of 270 (by decide +kernel) rfl
theorem v_X0_refusalOfNet : Cond.selects yX0_refusalOfNet.cls yX0_refusalOfNet yX0_refusalOfNet ∈ lw_ok := lw_ok_of 271 (by decide +kernel) rfl
abbrev M_X0_addNet : zM := (yX0_addNet, cX0_addNet, 3, (some .int))
theorem W_X0_addNet : zW M_X0_addNet 1 := ⟨lw_ok_of 4 (by decide +kernel) rfl, lw_ok_of 306 (by decide +kernel) rfl, ⟨by decide +kernel, by decide +kernel⟩, by decide +kernel, by decide⟩
theorem i_X0_addNet : Cond.instanceMethod yX0_addNet ∈ lw_ok := lw_ok_of 304 (by decide +kernel) rfl
theorem v_X0_addNet : Cond.selects yX0_addNet.cls yX0_addNet yX0_addNet ∈ lw_ok := lw_ok_of 305 (by decide +kernel) rfl
abbrev M_X0_refusalOfChip : zM := (yX0_refusalOfChip, cX0_refusalOfChip, 4, (some .int))
theorem W_X0_refusalOfChip : zW M_X0_refusalOfChip 3 := ⟨lw_ok_of 4 (by decide +kernel) rfl, lw_ok_of 317 (by decide +kernel) rfl, ⟨by decide +kernel, by decide +kernel⟩, by decide +kernel, by decide⟩
theorem i_X0_refusalOfChip : Cond.instanceMethod yX0_refusalOfChip ∈ lw_ok := lw_ok_of 315 (by decide +kernel) rfl
theorem v_X0_refusalOfChip : Cond.selects yX0_refusalOfChip.cls yX0_refusalOfChip yX0_refusalOfChip ∈ lw_ok := lw_ok_of 316 (by decide +kernel) rfl
abbrev M_X0_addChip : zM := (yX0_addChip, cX0_addChip, 4, (some .int))
theorem W_X0_addChip : zW M_X0_addChip 3 := ⟨lw_ok_of 4 (by decide +kernel) rfl, lw_ok_of 324 (by decide +kernel) rfl, ⟨by decide +kernel, by decide +kernel⟩, by decide +kernel, by decide⟩
theorem i_X0_addChip : Cond.instanceMethod yX0_addChip ∈ lw_ok := lw_ok_of 322 (by decide +kernel) rfl
theorem v_X0_addChip : Cond.selects yX0_addChip.cls yX0_addChip yX0_addChip ∈ lw_ok := lw_ok_of 323 (by decide +kernel) rfl
abbrev M_X0_refusalOfFault : zM := (yX0_refusalOfFault, cX0_refusalOfFault, 6, (some .int))
theorem W_X0_refusalOfFault : zW M_X0_refusalOfFault 3 := ⟨lw_ok_of 4 (by decide +kernel) rfl, lw_ok_of 332 (by decide +kernel) rfl, ⟨by decide +kernel, by decide +kernel⟩, by decide +kernel, by decide⟩
theorem i_X0_refusalOfFault : Cond.instanceMethod yX0_refusalOfFault ∈ lw_ok := lw_ok_of 330 (by decide +kernel) rfl
theorem v_X0_refusalOfFault : Cond.selects yX0_refusalOfFault.cls yX0_refusalOfFault yX0_refusalOfFault ∈ lw_ok := lw_ok_of 331 (by decide +kernel) rfl
abbrev M_X0_placesFor : zM := (yX0_placesFor, cX0_placesFor, 2, (some .int))
theorem W_X0_placesFor : zW M_X0_placesFor 1 := ⟨lw_ok_of 4 (by decide +kernel) rfl, lw_ok_of 336 (by decide +kernel) rfl, ⟨by decide +kernel, by decide +kernel⟩, by decide +kernel, by decide⟩
theorem i_X0_placesFor : Cond.instanceMethod yX0_placesFor ∈ lw_ok := lw_ok_of 334 (by decide +kernel) rfl
theorem v_X0_placesFor : Cond.selects yX0_placesFor.cls yX0_placesFor yX0_placesFor ∈ lw_ok := lw_ok_of 335 (by decide +kernel) rfl
abbrev M_X0_addFault : zM := (yX0_addFault, cX0_addFault, 4, (some .int))
theorem W_X0_addFault : zW M_X0_addFault 3 := ⟨lw_ok_of 4 (by decide +kernel) rfl, lw_ok_of 340 (by decide +kernel) rfl, ⟨by decide +kernel, by decide +kernel⟩, by decide +kernel, by decide⟩
theorem i_X0_addFault : Cond.instanceMethod yX0_addFault ∈ lw_ok := lw_ok_of 338 (by decide +kernel) rfl
theorem v_X0_addFault : Cond.selects yX0_addFault.cls yX0_addFault yX0_addFault ∈ lw_ok := lw_ok_of 339 (by decide +kernel) rfl
abbrev M_X0_setBlessing : zM := (yX0_setBlessing, cX0_setBlessing, 4, (some .int))
theorem W_X0_setBlessing : zW M_X0_setBlessing 2 := ⟨lw_ok_of 4 (by decide +kernel) rfl, lw_ok_of 350 (by decide +kernel) rfl, ⟨by decide +kernel, by decide +kernel⟩, by decide +kernel, by decide⟩
theorem i_X0_setBlessing : Cond.instanceMethod yX0_setBlessing ∈ lw_ok := lw_ok_of 348 (by decide +kernel) rfl
theorem v_X0_setBlessing : Cond.selects yX0_setBlessing.cls yX0_setBlessing yX0_setBlessing ∈ lw_ok := lw_ok_of 349 (by decide +kernel) rfl
abbrev M_X0_blessedOn : zM := (yX0_blessedOn, cX0_blessedOn, 4, (some .int))
theorem W_X0_blessedOn : zW M_X0_blessedOn 1 := ⟨lw_ok_of 4 (by decide +kernel) rfl, lw_ok_of 379 (by decide +kernel) rfl, ⟨by decide +kernel, by decide +kernel⟩, by decide +kernel, by decide⟩
theorem i_X0_blessedOn : Cond.instanceMethod yX0_blessedOn ∈ lw_ok := lw_ok_of 377 (by decide +kernel) rfl
theorem v_X0_blessedOn : Cond.selects yX0_blessedOn.cls yX0_blessedOn yX0_blessedOn ∈ lw_ok := lw_ok_of 378 (by decide +kernel) rfl
abbrev M_X0_chipWith : zM := (yX0_chipWith, cX0_chipWith, 3, (some .int))
theorem W_X0_chipWith : zW M_X0_chipWith 1 := ⟨lw_ok_of 4 (by decide +kernel) rfl, lw_ok_of 362 (by decide +kernel) rfl, ⟨by decide +kernel, by decide +kernel⟩, by decide +kernel, by decide⟩
theorem i_X0_chipWith : Cond.instanceMethod yX0_chipWith ∈ lw_ok := lw_ok_of 360 (by decide +kernel) rfl
theorem v_X0_chipWith : Cond.selects yX0_chipWith.cls yX0_chipWith yX0_chipWith ∈ lw_ok := lw_ok_of 361 (by decide +kernel) rfl
abbrev M_X0_roleOf : zM := (yX0_roleOf, cX0_roleOf, 3, (some .int))
theorem W_X0_roleOf : zW M_X0_roleOf 1 := ⟨lw_ok_of 4 (by decide +kernel) rfl, lw_ok_of 366 (by decide +kernel) rfl, ⟨by decide +kernel, by decide +kernel⟩, by decide +kernel, by decide⟩
theorem i_X0_roleOf : Cond.instanceMethod yX0_roleOf ∈ lw_ok := lw_ok_of 364 (by decide +kernel) rfl
theorem v_X0_roleOf : Cond.selects yX0_roleOf.cls yX0_roleOf yX0_roleOf ∈ lw_ok := lw_ok_of 365 (by decide +kernel) rfl
abbrev M_X0_isFault : zM := (yX0_isFault, cX0_isFault, 2, (some .boolean))
theorem W_X0_isFault : zW M_X0_isFault 1 := ⟨lw_ok_of 4 (by decide +kernel) rfl, lw_ok_of 388 (by decide +kernel) rfl, ⟨by decide +kernel, by decide +kernel⟩, by decide +kernel, by decide⟩
theorem i_X0_isFault : Cond.instanceMethod yX0_isFault ∈ lw_ok := lw_ok_of 386 (by decide +kernel) rfl
theorem v_X0_isFault : Cond.selects yX0_isFault.cls yX0_isFault yX0_isFault ∈ lw_ok := lw_ok_of 387 (by decide +kernel) rfl
abbrev M_X0_allSuspects : zM := (yX0_allSuspects, cX0_allSuspects, 1, (some .int))
theorem W_X0_allSuspects : zW M_X0_allSuspects 0 := ⟨lw_ok_of 4 (by decide +kernel) rfl, lw_ok_of 470 (by decide +kernel) rfl, ⟨by decide +kernel, by decide +kernel⟩, by decide +kernel, by decide⟩
theorem i_X0_allSuspects : Cond.instanceMethod yX0_allSuspects ∈ lw_ok := lw_ok_of 468 (by decide +kernel) rfl
theorem v_X0_allSuspects : Cond.selects yX0_allSuspects.cls yX0_allSuspects yX0_allSuspects ∈ lw_ok := lw_ok_of 469 (by decide +kernel) rfl
abbrev M_X0_suffers : zM := (yX0_suffers, cX0_suffers, 4, (some .boolean))
theorem W_X0_suffers : zW M_X0_suffers 3 := ⟨lw_ok_of 4 (by decide +kernel) rfl, lw_ok_of 419 (by decide +kernel) rfl, ⟨by decide +kernel, by decide +kernel⟩, by decide +kernel, by decide⟩
theorem i_X0_suffers : Cond.instanceMethod yX0_suffers ∈ lw_ok := lw_ok_of 417 (by decide +kernel) rfl
theorem v_X0_suffers : Cond.selects yX0_suffers.cls yX0_suffers yX0_suffers ∈ lw_ok := lw_ok_of 418 (by decide +kernel) rfl
abbrev M_X0_shortedWith : zM := (yX0_shortedWith, cX0_shortedWith, 3, (some .int))
theorem W_X0_shortedWith : zW M_X0_shortedWith 2 := ⟨lw_ok_of 4 (by decide +kernel) rfl, lw_ok_of 428 (by decide +kernel) rfl, ⟨by decide +kernel, by decide +kernel⟩, by decide +kernel, by decide⟩
theorem i_X0_shortedWith : Cond.instanceMethod yX0_shortedWith ∈ lw_ok := lw_ok_of 426 (by decide +kernel) rfl
theorem v_X0_shortedWith : Cond.selects yX0_shortedWith.cls yX0_shortedWith yX0_shortedWith ∈ lw_ok := lw_ok_of 427 (by decide +kernel) rfl
abbrev M_X1_init : zM := (yX1_init, cX1_init, 2, none)
theorem W_X1_init : zW M_X1_init 0 := ⟨lw_ok_of 2 (by decide +kernel) rfl, lw_ok_of 29 (by decide +kernel) rfl, ⟨by decide +kernel, by decide +kernel⟩, by decide +kernel, by decide⟩
theorem i_X1_init : Cond.instanceMethod yX1_init ∈ lw_ok := lw_ok_of 28 (by decide +kernel) rfl
abbrev M_X1_keep : zM := (yX1_keep, cX1_keep, 2, none)
theorem W_X1_keep : zW M_X1_keep 1 := ⟨lw_ok_of 2 (by decide +kernel) rfl, lw_ok_of 286 (by decide +kernel) rfl, ⟨by decide +kernel, by decide +kernel⟩, by decide +kernel, by decide⟩
theorem i_X1_keep : Cond.instanceMethod yX1_keep ∈ lw_ok := lw_ok_of 284 (by decide +kernel) rfl
theorem v_X1_keep : Cond.selects yX1_keep.cls yX1_keep yX1_keep ∈ lw_ok := lw_ok_of 285 (by decide +kernel) rfl
abbrev M_X1_dropOldest : zM := (yX1_dropOldest, cX1_dropOldest, 3, none)
theorem W_X1_dropOldest : zW M_X1_dropOldest 0 := ⟨lw_ok_of 2 (by decide +kernel) rfl, lw_ok_of 290 (by decide +kernel) rfl, ⟨by decide +kernel, by decide +kernel⟩, by decide +kernel, by decide⟩
theorem i_X1_dropOldest : Cond.instanceMethod yX1_dropOldest ∈ lw_ok := lw_ok_of 288 (by decide +kernel) rfl
theorem v_X1_dropOldest : Cond.selects yX1_dropOldest.cls yX1_dropOldest yX1_dropOldest ∈ lw_ok := lw_ok_of 289 (by decide +kernel) rfl
abbrev M_X1_restore : zM := (yX1_restore, cX1_restore, 2, none)
theorem W_X1_restore : zW M_X1_restore 1 := ⟨lw_ok_of 2 (by decide +kernel) rfl, lw_ok_of 638 (by decide +kernel) rfl, ⟨by decide +kernel, by decide +kernel⟩, by decide +kernel, by decide⟩
theorem i_X1_restore : Cond.instanceMethod yX1_restore ∈ lw_ok := lw_ok_of 636 (by decide +kernel) rfl
theorem v_X1_restore : Cond.selects yX1_restore.cls yX1_restore yX1_restore ∈ lw_ok := lw_ok_of 637 (by decide +kernel) rfl
abbrev M_X2_init : zM := (yX2_init, cX2_init, 3, none)
theorem W_X2_init : zW M_X2_init 1 := ⟨lw_ok_of 7 (by decide +kernel) rfl, lw_ok_of 202 (by decide +kernel) rfl, ⟨by decide +kernel, by decide +kernel⟩, by decide +kernel, by decide⟩
theorem i_X2_init : Cond.instanceMethod yX2_init ∈ lw_ok := lw_ok_of 201 (by decide +kernel) rfl
abbrev M_X2_suppose : zM := (yX2_suppose, cX2_suppose, 2, (some (.object "BlessedPins$SuspectBoard")))
theorem W_X2_suppose : zW M_X2_suppose 1 := ⟨lw_ok_of 7 (by decide +kernel) rfl, lw_ok_of 406 (by decide +kernel) rfl, ⟨by decide +kernel, by decide +kernel⟩, by decide +kernel, by decide⟩
theorem i_X2_suppose : Cond.instanceMethod yX2_suppose ∈ lw_ok := lw_ok_of 404 (by decide +kernel) rfl
theorem v_X2_suppose : Cond.selects yX2_suppose.cls yX2_suppose yX2_suppose ∈ lw_ok := lw_ok_of 405 (by decide +kernel) rfl
abbrev M_X2_supposeAll : zM := (yX2_supposeAll, cX2_supposeAll, 3, none)
theorem W_X2_supposeAll : zW M_X2_supposeAll 1 := ⟨lw_ok_of 7 (by decide +kernel) rfl, lw_ok_of 474 (by decide +kernel) rfl, ⟨by decide +kernel, by decide +kernel⟩, by decide +kernel, by decide⟩
theorem i_X2_supposeAll : Cond.instanceMethod yX2_supposeAll ∈ lw_ok := lw_ok_of 472 (by decide +kernel) rfl
theorem v_X2_supposeAll : Cond.selects yX2_supposeAll.cls yX2_supposeAll yX2_supposeAll ∈ lw_ok := lw_ok_of 473 (by decide +kernel) rfl
abbrev M_X2_probeAll : zM := (yX2_probeAll, cX2_probeAll, 4, none)
theorem W_X2_probeAll : zW M_X2_probeAll 2 := ⟨lw_ok_of 7 (by decide +kernel) rfl, lw_ok_of 480 (by decide +kernel) rfl, ⟨by decide +kernel, by decide +kernel⟩, by decide +kernel, by decide⟩
theorem i_X2_probeAll : Cond.instanceMethod yX2_probeAll ∈ lw_ok := lw_ok_of 478 (by decide +kernel) rfl
theorem v_X2_probeAll : Cond.selects yX2_probeAll.cls yX2_probeAll yX2_probeAll ∈ lw_ok := lw_ok_of 479 (by decide +kernel) rfl
abbrev M_X2_probedLike : zM := (yX2_probedLike, cX2_probedLike, 5, (some .int))
theorem W_X2_probedLike : zW M_X2_probedLike 2 := ⟨lw_ok_of 7 (by decide +kernel) rfl, lw_ok_of 583 (by decide +kernel) rfl, ⟨by decide +kernel, by decide +kernel⟩, by decide +kernel, by decide⟩
theorem i_X2_probedLike : Cond.instanceMethod yX2_probedLike ∈ lw_ok := lw_ok_of 581 (by decide +kernel) rfl
theorem v_X2_probedLike : Cond.selects yX2_probedLike.cls yX2_probedLike yX2_probedLike ∈ lw_ok := lw_ok_of 582 (by decide +kernel) rfl
abbrev M_X2_leftBy : zM := (yX2_leftBy, cX2_leftBy, 4, (some .int))
theorem W_X2_leftBy : zW M_X2_leftBy 3 := ⟨lw_ok_of 7 (by decide +kernel) rfl, lw_ok_of 579 (by decide +kernel) rfl, ⟨by decide +kernel, by decide +kernel⟩, by decide +kernel, by decide⟩
theorem i_X2_leftBy : Cond.instanceMethod yX2_leftBy ∈ lw_ok := lw_ok_of 577 (by decide +kernel) rfl
theorem v_X2_leftBy : Cond.selects yX2_leftBy.cls yX2_leftBy yX2_leftBy ∈ lw_ok := lw_ok_of 578 (by decide +kernel) rfl
abbrev M_X2_measureWeek : zM := (yX2_measureWeek, cX2_measureWeek, 4, none)
theorem W_X2_measureWeek : zW M_X2_measureWeek 0 := ⟨lw_ok_of 7 (by decide +kernel) rfl, lw_ok_of 466 (by decide +kernel) rfl, ⟨by decide +kernel, by decide +kernel⟩, by decide +kernel, by decide⟩
theorem i_X2_measureWeek : Cond.instanceMethod yX2_measureWeek ∈ lw_ok := lw_ok_of 464 (by decide +kernel) rfl
theorem v_X2_measureWeek : Cond.selects yX2_measureWeek.cls yX2_measureWeek yX2_measureWeek ∈ lw_ok := lw_ok_of 465 (by decide +kernel) rfl
abbrev M_X2_firstProbedLike : zM := (yX2_firstProbedLike, cX2_firstProbedLike, 4, (some .int))
theorem W_X2_firstProbedLike : zW M_X2_firstProbedLike 2 := ⟨lw_ok_of 7 (by decide +kernel) rfl, lw_ok_of 485 (by decide +kernel) rfl, ⟨by decide +kernel, by decide +kernel⟩, by decide +kernel, by decide⟩
theorem i_X2_firstProbedLike : Cond.instanceMethod yX2_firstProbedLike ∈ lw_ok := lw_ok_of 483 (by decide +kernel) rfl
theorem v_X2_firstProbedLike : Cond.selects yX2_firstProbedLike.cls yX2_firstProbedLike yX2_firstProbedLike ∈ lw_ok := lw_ok_of 484 (by decide +kernel) rfl
abbrev M_X2_daysAlike : zM := (yX2_daysAlike, cX2_daysAlike, 5, (some .int))
theorem W_X2_daysAlike : zW M_X2_daysAlike 2 := ⟨lw_ok_of 7 (by decide +kernel) rfl, lw_ok_of 498 (by decide +kernel) rfl, ⟨by decide +kernel, by decide +kernel⟩, by decide +kernel, by decide⟩
theorem i_X2_daysAlike : Cond.instanceMethod yX2_daysAlike ∈ lw_ok := lw_ok_of 496 (by decide +kernel) rfl
theorem v_X2_daysAlike : Cond.selects yX2_daysAlike.cls yX2_daysAlike yX2_daysAlike ∈ lw_ok := lw_ok_of 497 (by decide +kernel) rfl
abbrev M_X2_daysUnlike : zM := (yX2_daysUnlike, cX2_daysUnlike, 3, (some .int))
theorem W_X2_daysUnlike : zW M_X2_daysUnlike 2 := ⟨lw_ok_of 7 (by decide +kernel) rfl, lw_ok_of 494 (by decide +kernel) rfl, ⟨by decide +kernel, by decide +kernel⟩, by decide +kernel, by decide⟩
theorem i_X2_daysUnlike : Cond.instanceMethod yX2_daysUnlike ∈ lw_ok := lw_ok_of 492 (by decide +kernel) rfl
theorem v_X2_daysUnlike : Cond.selects yX2_daysUnlike.cls yX2_daysUnlike yX2_daysUnlike ∈ lw_ok := lw_ok_of 493 (by decide +kernel) rfl
abbrev M_X2_suspectsLike : zM := (yX2_suspectsLike, cX2_suspectsLike, 5, (some .int))
theorem W_X2_suspectsLike : zW M_X2_suspectsLike 2 := ⟨lw_ok_of 7 (by decide +kernel) rfl, lw_ok_of 523 (by decide +kernel) rfl, ⟨by decide +kernel, by decide +kernel⟩, by decide +kernel, by decide⟩
theorem i_X2_suspectsLike : Cond.instanceMethod yX2_suspectsLike ∈ lw_ok := lw_ok_of 521 (by decide +kernel) rfl
theorem v_X2_suspectsLike : Cond.selects yX2_suspectsLike.cls yX2_suspectsLike yX2_suspectsLike ∈ lw_ok := lw_ok_of 522 (by decide +kernel) rfl
abbrev M_X2_unlikeOutcomes : zM := (yX2_unlikeOutcomes, cX2_unlikeOutcomes, 4, (some .int))
theorem W_X2_unlikeOutcomes : zW M_X2_unlikeOutcomes 1 := ⟨lw_ok_of 7 (by decide +kernel) rfl, lw_ok_of 515 (by decide +kernel) rfl, ⟨by decide +kernel, by decide +kernel⟩, by decide +kernel, by decide⟩
theorem i_X2_unlikeOutcomes : Cond.instanceMethod yX2_unlikeOutcomes ∈ lw_ok := lw_ok_of 513 (by decide +kernel) rfl
theorem v_X2_unlikeOutcomes : Cond.selects yX2_unlikeOutcomes.cls yX2_unlikeOutcomes yX2_unlikeOutcomes ∈ lw_ok := lw_ok_of 514 (by decide +kernel) rfl
abbrev M_X2_worstOn : zM := (yX2_worstOn, cX2_worstOn, 5, (some .int))
theorem W_X2_worstOn : zW M_X2_worstOn 2 := ⟨lw_ok_of 7 (by decide +kernel) rfl, lw_ok_of 610 (by decide +kernel) rfl, ⟨by decide +kernel, by decide +kernel⟩, by decide +kernel, by decide⟩
theorem i_X2_worstOn : Cond.instanceMethod yX2_worstOn ∈ lw_ok := lw_ok_of 608 (by decide +kernel) rfl
theorem v_X2_worstOn : Cond.selects yX2_worstOn.cls yX2_worstOn yX2_worstOn ∈ lw_ok := lw_ok_of 609 (by decide +kernel) rfl
abbrev M_X2_fewestDaysFor : zM := (yX2_fewestDaysFor, cX2_fewestDaysFor, 4, (some .int))
theorem W_X2_fewestDaysFor : zW M_X2_fewestDaysFor 1 := ⟨lw_ok_of 7 (by decide +kernel) rfl, lw_ok_of 531 (by decide +kernel) rfl, ⟨by decide +kernel, by decide +kernel⟩, by decide +kernel, by decide⟩
theorem i_X2_fewestDaysFor : Cond.instanceMethod yX2_fewestDaysFor ∈ lw_ok := lw_ok_of 529 (by decide +kernel) rfl
theorem v_X2_fewestDaysFor : Cond.selects yX2_fewestDaysFor.cls yX2_fewestDaysFor yX2_fewestDaysFor ∈ lw_ok := lw_ok_of 530 (by decide +kernel) rfl
abbrev M_X2_collectDaysWanted : zM := (yX2_collectDaysWanted, cX2_collectDaysWanted, 6, none)
theorem W_X2_collectDaysWanted : zW M_X2_collectDaysWanted 1 := ⟨lw_ok_of 7 (by decide +kernel) rfl, lw_ok_of 535 (by decide +kernel) rfl, ⟨by decide +kernel, by decide +kernel⟩, by decide +kernel, by decide⟩
theorem i_X2_collectDaysWanted : Cond.instanceMethod yX2_collectDaysWanted ∈ lw_ok := lw_ok_of 533 (by decide +kernel) rfl
theorem v_X2_collectDaysWanted : Cond.selects yX2_collectDaysWanted.cls yX2_collectDaysWanted yX2_collectDaysWanted ∈ lw_ok := lw_ok_of 534 (by decide +kernel) rfl
abbrev M_X2_suffice : zM := (yX2_suffice, cX2_suffice, 3, (some .boolean))
theorem W_X2_suffice : zW M_X2_suffice 1 := ⟨lw_ok_of 7 (by decide +kernel) rfl, lw_ok_of 541 (by decide +kernel) rfl, ⟨by decide +kernel, by decide +kernel⟩, by decide +kernel, by decide⟩
theorem i_X2_suffice : Cond.instanceMethod yX2_suffice ∈ lw_ok := lw_ok_of 539 (by decide +kernel) rfl
theorem v_X2_suffice : Cond.selects yX2_suffice.cls yX2_suffice yX2_suffice ∈ lw_ok := lw_ok_of 540 (by decide +kernel) rfl
abbrev M_X2_fewestPinsTelling : zM := (yX2_fewestPinsTelling, cX2_fewestPinsTelling, 5, (some .int))
theorem W_X2_fewestPinsTelling : zW M_X2_fewestPinsTelling 2 := ⟨lw_ok_of 7 (by decide +kernel) rfl, lw_ok_of 553 (by decide +kernel) rfl, ⟨by decide +kernel, by decide +kernel⟩, by decide +kernel, by decide⟩
theorem i_X2_fewestPinsTelling : Cond.instanceMethod yX2_fewestPinsTelling ∈ lw_ok := lw_ok_of 551 (by decide +kernel) rfl
theorem v_X2_fewestPinsTelling : Cond.selects yX2_fewestPinsTelling.cls yX2_fewestPinsTelling yX2_fewestPinsTelling ∈ lw_ok := lw_ok_of 552 (by decide +kernel) rfl
abbrev M_X2_tells : zM := (yX2_tells, cX2_tells, 3, (some .boolean))
theorem W_X2_tells : zW M_X2_tells 2 := ⟨lw_ok_of 7 (by decide +kernel) rfl, lw_ok_of 558 (by decide +kernel) rfl, ⟨by decide +kernel, by decide +kernel⟩, by decide +kernel, by decide⟩
theorem i_X2_tells : Cond.instanceMethod yX2_tells ∈ lw_ok := lw_ok_of 556 (by decide +kernel) rfl
theorem v_X2_tells : Cond.selects yX2_tells.cls yX2_tells yX2_tells ∈ lw_ok := lw_ok_of 557 (by decide +kernel) rfl
abbrev M_X3_init : zM := (yX3_init, cX3_init, 1, none)
theorem W_X3_init : zW M_X3_init 0 := ⟨lw_ok_of 6 (by decide +kernel) rfl, lw_ok_of 156 (by decide +kernel) rfl, ⟨by decide +kernel, by decide +kernel⟩, by decide +kernel, by decide⟩
theorem i_X3_init : Cond.instanceMethod yX3_init ∈ lw_ok := lw_ok_of 155 (by decide +kernel) rfl
abbrev M_X3_append : zM := (yX3_append, cX3_append, 2, none)
theorem W_X3_append : zW M_X3_append 1 := ⟨lw_ok_of 6 (by decide +kernel) rfl, lw_ok_of 646 (by decide +kernel) rfl, ⟨by decide +kernel, by decide +kernel⟩, by decide +kernel, by decide⟩
theorem i_X3_append : Cond.instanceMethod yX3_append ∈ lw_ok := lw_ok_of 644 (by decide +kernel) rfl
theorem v_X3_append : Cond.selects yX3_append.cls yX3_append yX3_append ∈ lw_ok := lw_ok_of 645 (by decide +kernel) rfl
abbrev M_X3_tryOn : zM := (yX3_tryOn, cX3_tryOn, 4, none)
theorem W_X3_tryOn : zW M_X3_tryOn 1 := ⟨lw_ok_of 6 (by decide +kernel) rfl, lw_ok_of 658 (by decide +kernel) rfl, ⟨by decide +kernel, by decide +kernel⟩, by decide +kernel, by decide⟩
theorem i_X3_tryOn : Cond.instanceMethod yX3_tryOn ∈ lw_ok := lw_ok_of 656 (by decide +kernel) rfl
theorem v_X3_tryOn : Cond.selects yX3_tryOn.cls yX3_tryOn yX3_tryOn ∈ lw_ok := lw_ok_of 657 (by decide +kernel) rfl
abbrev M_X3_skipSpaces : zM := (yX3_skipSpaces, cX3_skipSpaces, 4, (some .int))
theorem W_X3_skipSpaces : zW M_X3_skipSpaces 2 := ⟨lw_ok_of 6 (by decide +kernel) rfl, lw_ok_of 663 (by decide +kernel) rfl, ⟨by decide +kernel, by decide +kernel⟩, by decide +kernel, by decide⟩
theorem i_X3_skipSpaces : Cond.instanceMethod yX3_skipSpaces ∈ lw_ok := lw_ok_of 661 (by decide +kernel) rfl
theorem v_X3_skipSpaces : Cond.selects yX3_skipSpaces.cls yX3_skipSpaces yX3_skipSpaces ∈ lw_ok := lw_ok_of 662 (by decide +kernel) rfl
abbrev M_X3_endOfCommand : zM := (yX3_endOfCommand, cX3_endOfCommand, 3, (some .int))
theorem W_X3_endOfCommand : zW M_X3_endOfCommand 1 := ⟨lw_ok_of 6 (by decide +kernel) rfl, lw_ok_of 667 (by decide +kernel) rfl, ⟨by decide +kernel, by decide +kernel⟩, by decide +kernel, by decide⟩
theorem i_X3_endOfCommand : Cond.instanceMethod yX3_endOfCommand ∈ lw_ok := lw_ok_of 665 (by decide +kernel) rfl
theorem v_X3_endOfCommand : Cond.selects yX3_endOfCommand.cls yX3_endOfCommand yX3_endOfCommand ∈ lw_ok := lw_ok_of 666 (by decide +kernel) rfl
abbrev M_X3_endOfToken : zM := (yX3_endOfToken, cX3_endOfToken, 4, (some .int))
theorem W_X3_endOfToken : zW M_X3_endOfToken 2 := ⟨lw_ok_of 6 (by decide +kernel) rfl, lw_ok_of 679 (by decide +kernel) rfl, ⟨by decide +kernel, by decide +kernel⟩, by decide +kernel, by decide⟩
theorem i_X3_endOfToken : Cond.instanceMethod yX3_endOfToken ∈ lw_ok := lw_ok_of 677 (by decide +kernel) rfl
theorem v_X3_endOfToken : Cond.selects yX3_endOfToken.cls yX3_endOfToken yX3_endOfToken ∈ lw_ok := lw_ok_of 678 (by decide +kernel) rfl
abbrev M_X3_perform : zM := (yX3_perform, cX3_perform, 4, (some .int))
theorem W_X3_perform : zW M_X3_perform 2 := ⟨lw_ok_of 6 (by decide +kernel) rfl, lw_ok_of 671 (by decide +kernel) rfl, ⟨by decide +kernel, by decide +kernel⟩, by decide +kernel, by decide⟩
theorem i_X3_perform : Cond.instanceMethod yX3_perform ∈ lw_ok := lw_ok_of 669 (by decide +kernel) rfl
theorem v_X3_perform : Cond.selects yX3_perform.cls yX3_perform yX3_perform ∈ lw_ok := lw_ok_of 670 (by decide +kernel) rfl
abbrev M_X3_parse : zM := (yX3_parse, cX3_parse, 5, (some .boolean))
theorem W_X3_parse : zW M_X3_parse 2 := ⟨lw_ok_of 6 (by decide +kernel) rfl, lw_ok_of 675 (by decide +kernel) rfl, ⟨by decide +kernel, by decide +kernel⟩, by decide +kernel, by decide⟩
theorem i_X3_parse : Cond.instanceMethod yX3_parse ∈ lw_ok := lw_ok_of 673 (by decide +kernel) rfl
theorem v_X3_parse : Cond.selects yX3_parse.cls yX3_parse yX3_parse ∈ lw_ok := lw_ok_of 674 (by decide +kernel) rfl
abbrev M_X3_wordBetween : zM := (yX3_wordBetween, cX3_wordBetween, 4, (some .int))
theorem W_X3_wordBetween : zW M_X3_wordBetween 2 := ⟨lw_ok_of 6 (by decide +kernel) rfl, lw_ok_of 683 (by decide +kernel) rfl, ⟨by decide +kernel, by decide +kernel⟩, by decide +kernel, by decide⟩
theorem i_X3_wordBetween : Cond.instanceMethod yX3_wordBetween ∈ lw_ok := lw_ok_of 681 (by decide +kernel) rfl
theorem v_X3_wordBetween : Cond.selects yX3_wordBetween.cls yX3_wordBetween yX3_wordBetween ∈ lw_ok := lw_ok_of 682 (by decide +kernel) rfl
abbrev M_X3_spelling : zM := (yX3_spelling, cX3_spelling, 1, (some (.object "java/lang/String")))
theorem W_X3_spelling : zW M_X3_spelling 1 := ⟨lw_ok_of 6 (by decide +kernel) rfl, lw_ok_of 686 (by decide +kernel) rfl, ⟨by decide +kernel, by decide +kernel⟩, by decide +kernel, by decide⟩
theorem s_X3_spelling : Cond.static yX3_spelling ∈ lw_ok := lw_ok_of 685 (by decide +kernel) rfl
abbrev M_X3_isWritten : zM := (yX3_isWritten, cX3_isWritten, 5, (some .boolean))
theorem W_X3_isWritten : zW M_X3_isWritten 3 := ⟨lw_ok_of 6 (by decide +kernel) rfl, lw_ok_of 698 (by decide +kernel) rfl, ⟨by decide +kernel, by decide +kernel⟩, by decide +kernel, by decide⟩
theorem i_X3_isWritten : Cond.instanceMethod yX3_isWritten ∈ lw_ok := lw_ok_of 696 (by decide +kernel) rfl
theorem v_X3_isWritten : Cond.selects yX3_isWritten.cls yX3_isWritten yX3_isWritten ∈ lw_ok := lw_ok_of 697 (by decide +kernel) rfl
abbrev M_X3_numberBetween : zM := (yX3_numberBetween, cX3_numberBetween, 6, (some .int))
theorem W_X3_numberBetween : zW M_X3_numberBetween 2 := ⟨lw_ok_of 6 (by decide +kernel) rfl, lw_ok_of 752 (by decide +kernel) rfl, ⟨by decide +kernel, by decide +kernel⟩, by decide +kernel, by decide⟩
theorem i_X3_numberBetween : Cond.instanceMethod yX3_numberBetween ∈ lw_ok := lw_ok_of 750 (by decide +kernel) rfl
theorem v_X3_numberBetween : Cond.selects yX3_numberBetween.cls yX3_numberBetween yX3_numberBetween ∈ lw_ok := lw_ok_of 751 (by decide +kernel) rfl
abbrev M_X3_areUnlike : zM := (yX3_areUnlike, cX3_areUnlike, 4, (some .boolean))
theorem W_X3_areUnlike : zW M_X3_areUnlike 0 := ⟨lw_ok_of 6 (by decide +kernel) rfl, lw_ok_of 758 (by decide +kernel) rfl, ⟨by decide +kernel, by decide +kernel⟩, by decide +kernel, by decide⟩
theorem i_X3_areUnlike : Cond.instanceMethod yX3_areUnlike ∈ lw_ok := lw_ok_of 756 (by decide +kernel) rfl
theorem v_X3_areUnlike : Cond.selects yX3_areUnlike.cls yX3_areUnlike yX3_areUnlike ∈ lw_ok := lw_ok_of 757 (by decide +kernel) rfl
abbrev M_X3_rangeOfNumber : zM := (yX3_rangeOfNumber, cX3_rangeOfNumber, 2, (some .int))
theorem W_X3_rangeOfNumber : zW M_X3_rangeOfNumber 1 := ⟨lw_ok_of 6 (by decide +kernel) rfl, lw_ok_of 762 (by decide +kernel) rfl, ⟨by decide +kernel, by decide +kernel⟩, by decide +kernel, by decide⟩
theorem i_X3_rangeOfNumber : Cond.instanceMethod yX3_rangeOfNumber ∈ lw_ok := lw_ok_of 760 (by decide +kernel) rfl
theorem v_X3_rangeOfNumber : Cond.selects yX3_rangeOfNumber.cls yX3_rangeOfNumber yX3_rangeOfNumber ∈ lw_ok := lw_ok_of 761 (by decide +kernel) rfl
abbrev M_X3_doCommand : zM := (yX3_doCommand, cX3_doCommand, 1, (some .int))
theorem W_X3_doCommand : zW M_X3_doCommand 0 := ⟨lw_ok_of 6 (by decide +kernel) rfl, lw_ok_of 766 (by decide +kernel) rfl, ⟨by decide +kernel, by decide +kernel⟩, by decide +kernel, by decide⟩
theorem i_X3_doCommand : Cond.instanceMethod yX3_doCommand ∈ lw_ok := lw_ok_of 764 (by decide +kernel) rfl
theorem v_X3_doCommand : Cond.selects yX3_doCommand.cls yX3_doCommand yX3_doCommand ∈ lw_ok := lw_ok_of 765 (by decide +kernel) rfl
abbrev M_X3_doNet : zM := (yX3_doNet, cX3_doNet, 3, (some .int))
theorem W_X3_doNet : zW M_X3_doNet 0 := ⟨lw_ok_of 6 (by decide +kernel) rfl, lw_ok_of 770 (by decide +kernel) rfl, ⟨by decide +kernel, by decide +kernel⟩, by decide +kernel, by decide⟩
theorem i_X3_doNet : Cond.instanceMethod yX3_doNet ∈ lw_ok := lw_ok_of 768 (by decide +kernel) rfl
theorem v_X3_doNet : Cond.selects yX3_doNet.cls yX3_doNet yX3_doNet ∈ lw_ok := lw_ok_of 769 (by decide +kernel) rfl
abbrev M_X3_doChip : zM := (yX3_doChip, cX3_doChip, 3, (some .int))
theorem W_X3_doChip : zW M_X3_doChip 0 := ⟨lw_ok_of 6 (by decide +kernel) rfl, lw_ok_of 780 (by decide +kernel) rfl, ⟨by decide +kernel, by decide +kernel⟩, by decide +kernel, by decide⟩
theorem i_X3_doChip : Cond.instanceMethod yX3_doChip ∈ lw_ok := lw_ok_of 778 (by decide +kernel) rfl
theorem v_X3_doChip : Cond.selects yX3_doChip.cls yX3_doChip yX3_doChip ∈ lw_ok := lw_ok_of 779 (by decide +kernel) rfl
abbrev M_X3_doFault : zM := (yX3_doFault, cX3_doFault, 5, (some .int))
theorem W_X3_doFault : zW M_X3_doFault 3 := ⟨lw_ok_of 6 (by decide +kernel) rfl, lw_ok_of 786 (by decide +kernel) rfl, ⟨by decide +kernel, by decide +kernel⟩, by decide +kernel, by decide⟩
theorem i_X3_doFault : Cond.instanceMethod yX3_doFault ∈ lw_ok := lw_ok_of 784 (by decide +kernel) rfl
theorem v_X3_doFault : Cond.selects yX3_doFault.cls yX3_doFault yX3_doFault ∈ lw_ok := lw_ok_of 785 (by decide +kernel) rfl
abbrev M_X3_setFrom : zM := (yX3_setFrom, cX3_setFrom, 4, (some .int))
theorem W_X3_setFrom : zW M_X3_setFrom 1 := ⟨lw_ok_of 6 (by decide +kernel) rfl, lw_ok_of 774 (by decide +kernel) rfl, ⟨by decide +kernel, by decide +kernel⟩, by decide +kernel, by decide⟩
theorem i_X3_setFrom : Cond.instanceMethod yX3_setFrom ∈ lw_ok := lw_ok_of 772 (by decide +kernel) rfl
theorem v_X3_setFrom : Cond.selects yX3_setFrom.cls yX3_setFrom yX3_setFrom ∈ lw_ok := lw_ok_of 773 (by decide +kernel) rfl
abbrev M_X4_init : zM := (yX4_init, cX4_init, 2, none)
theorem W_X4_init : zW M_X4_init 1 := ⟨lw_ok_of 3 (by decide +kernel) rfl, lw_ok_of 108 (by decide +kernel) rfl, ⟨by decide +kernel, by decide +kernel⟩, by decide +kernel, by decide⟩
theorem i_X4_init : Cond.instanceMethod yX4_init ∈ lw_ok := lw_ok_of 107 (by decide +kernel) rfl
abbrev M_X4_copyFrom : zM := (yX4_copyFrom, cX4_copyFrom, 2, none)
theorem W_X4_copyFrom : zW M_X4_copyFrom 1 := ⟨lw_ok_of 3 (by decide +kernel) rfl, lw_ok_of 294 (by decide +kernel) rfl, ⟨by decide +kernel, by decide +kernel⟩, by decide +kernel, by decide⟩
theorem i_X4_copyFrom : Cond.instanceMethod yX4_copyFrom ∈ lw_ok := lw_ok_of 292 (by decide +kernel) rfl
theorem v_X4_copyFrom : Cond.selects yX4_copyFrom.cls yX4_copyFrom yX4_copyFrom ∈ lw_ok := lw_ok_of 293 (by decide +kernel) rfl
abbrev M_X4_weekday : zM := (yX4_weekday, cX4_weekday, 1, (some .int))
theorem W_X4_weekday : zW M_X4_weekday 0 := ⟨lw_ok_of 3 (by decide +kernel) rfl, lw_ok_of 375 (by decide +kernel) rfl, ⟨by decide +kernel, by decide +kernel⟩, by decide +kernel, by decide⟩
theorem i_X4_weekday : Cond.instanceMethod yX4_weekday ∈ lw_ok := lw_ok_of 373 (by decide +kernel) rfl
theorem v_X4_weekday : Cond.selects yX4_weekday.cls yX4_weekday yX4_weekday ∈ lw_ok := lw_ok_of 374 (by decide +kernel) rfl
abbrev M_X4_touchedNow : zM := (yX4_touchedNow, cX4_touchedNow, 1, (some .int))
theorem W_X4_touchedNow : zW M_X4_touchedNow 0 := ⟨lw_ok_of 3 (by decide +kernel) rfl, lw_ok_of 371 (by decide +kernel) rfl, ⟨by decide +kernel, by decide +kernel⟩, by decide +kernel, by decide⟩
theorem i_X4_touchedNow : Cond.instanceMethod yX4_touchedNow ∈ lw_ok := lw_ok_of 369 (by decide +kernel) rfl
theorem v_X4_touchedNow : Cond.selects yX4_touchedNow.cls yX4_touchedNow yX4_touchedNow ∈ lw_ok := lw_ok_of 370 (by decide +kernel) rfl
abbrev M_X4_filedIn : zM := (yX4_filedIn, cX4_filedIn, 4, (some .int))
theorem W_X4_filedIn : zW M_X4_filedIn 1 := ⟨lw_ok_of 3 (by decide +kernel) rfl, lw_ok_of 622 (by decide +kernel) rfl, ⟨by decide +kernel, by decide +kernel⟩, by decide +kernel, by decide⟩
theorem i_X4_filedIn : Cond.instanceMethod yX4_filedIn ∈ lw_ok := lw_ok_of 620 (by decide +kernel) rfl
theorem v_X4_filedIn : Cond.selects yX4_filedIn.cls yX4_filedIn yX4_filedIn ∈ lw_ok := lw_ok_of 621 (by decide +kernel) rfl
abbrev M_X5_init : zM := (yX5_init, cX5_init, 3, none)
theorem W_X5_init : zW M_X5_init 2 := ⟨lw_ok_of 8 (by decide +kernel) rfl, lw_ok_of 211 (by decide +kernel) rfl, ⟨by decide +kernel, by decide +kernel⟩, by decide +kernel, by decide⟩
theorem i_X5_init : Cond.instanceMethod yX5_init ∈ lw_ok := lw_ok_of 210 (by decide +kernel) rfl
abbrev M_X5_setUp : zM := (yX5_setUp, cX5_setUp, 5, none)
theorem W_X5_setUp : zW M_X5_setUp 0 := ⟨lw_ok_of 8 (by decide +kernel) rfl, lw_ok_of 410 (by decide +kernel) rfl, ⟨by decide +kernel, by decide +kernel⟩, by decide +kernel, by decide⟩
theorem i_X5_setUp : Cond.instanceMethod yX5_setUp ∈ lw_ok := lw_ok_of 408 (by decide +kernel) rfl
theorem v_X5_setUp : Cond.selects yX5_setUp.cls yX5_setUp yX5_setUp ∈ lw_ok := lw_ok_of 409 (by decide +kernel) rfl
abbrev M_X5_linkingNet : zM := (yX5_linkingNet, cX5_linkingNet, 3, (some .int))
theorem W_X5_linkingNet : zW M_X5_linkingNet 1 := ⟨lw_ok_of 8 (by decide +kernel) rfl, lw_ok_of 415 (by decide +kernel) rfl, ⟨by decide +kernel, by decide +kernel⟩, by decide +kernel, by decide⟩
theorem i_X5_linkingNet : Cond.instanceMethod yX5_linkingNet ∈ lw_ok := lw_ok_of 413 (by decide +kernel) rfl
theorem v_X5_linkingNet : Cond.selects yX5_linkingNet.cls yX5_linkingNet yX5_linkingNet ∈ lw_ok := lw_ok_of 414 (by decide +kernel) rfl
abbrev M_X5_followers : zM := (yX5_followers, cX5_followers, 5, (some .int))
theorem W_X5_followers : zW M_X5_followers 1 := ⟨lw_ok_of 8 (by decide +kernel) rfl, lw_ok_of 424 (by decide +kernel) rfl, ⟨by decide +kernel, by decide +kernel⟩, by decide +kernel, by decide⟩
theorem i_X5_followers : Cond.instanceMethod yX5_followers ∈ lw_ok := lw_ok_of 422 (by decide +kernel) rfl
theorem v_X5_followers : Cond.selects yX5_followers.cls yX5_followers yX5_followers ∈ lw_ok := lw_ok_of 423 (by decide +kernel) rfl
abbrev M_X5_scannedChips : zM := (yX5_scannedChips, cX5_scannedChips, 4, (some .int))
theorem W_X5_scannedChips : zW M_X5_scannedChips 1 := ⟨lw_ok_of 8 (by decide +kernel) rfl, lw_ok_of 437 (by decide +kernel) rfl, ⟨by decide +kernel, by decide +kernel⟩, by decide +kernel, by decide⟩
theorem i_X5_scannedChips : Cond.instanceMethod yX5_scannedChips ∈ lw_ok := lw_ok_of 435 (by decide +kernel) rfl
theorem v_X5_scannedChips : Cond.selects yX5_scannedChips.cls yX5_scannedChips yX5_scannedChips ∈ lw_ok := lw_ok_of 436 (by decide +kernel) rfl
abbrev M_X5_spread : zM := (yX5_spread, cX5_spread, 9, (some .int))
theorem W_X5_spread : zW M_X5_spread 3 := ⟨lw_ok_of 8 (by decide +kernel) rfl, lw_ok_of 441 (by decide +kernel) rfl, ⟨by decide +kernel, by decide +kernel⟩, by decide +kernel, by decide⟩
theorem i_X5_spread : Cond.instanceMethod yX5_spread ∈ lw_ok := lw_ok_of 439 (by decide +kernel) rfl
theorem v_X5_spread : Cond.selects yX5_spread.cls yX5_spread yX5_spread ∈ lw_ok := lw_ok_of 440 (by decide +kernel) rfl
abbrev M_X5_probe : zM := (yX5_probe, cX5_probe, 4, none)
theorem W_X5_probe : zW M_X5_probe 1 := ⟨lw_ok_of 8 (by decide +kernel) rfl, lw_ok_of 433 (by decide +kernel) rfl, ⟨by decide +kernel, by decide +kernel⟩, by decide +kernel, by decide⟩
theorem i_X5_probe : Cond.instanceMethod yX5_probe ∈ lw_ok := lw_ok_of 431 (by decide +kernel) rfl
theorem v_X5_probe : Cond.selects yX5_probe.cls yX5_probe yX5_probe ∈ lw_ok := lw_ok_of 432 (by decide +kernel) rfl
abbrev M_X5_pinsAtOne : zM := (yX5_pinsAtOne, cX5_pinsAtOne, 4, (some .int))
theorem W_X5_pinsAtOne : zW M_X5_pinsAtOne 2 := ⟨lw_ok_of 8 (by decide +kernel) rfl, lw_ok_of 458 (by decide +kernel) rfl, ⟨by decide +kernel, by decide +kernel⟩, by decide +kernel, by decide⟩
theorem i_X5_pinsAtOne : Cond.instanceMethod yX5_pinsAtOne ∈ lw_ok := lw_ok_of 456 (by decide +kernel) rfl
theorem v_X5_pinsAtOne : Cond.selects yX5_pinsAtOne.cls yX5_pinsAtOne yX5_pinsAtOne ∈ lw_ok := lw_ok_of 457 (by decide +kernel) rfl
abbrev M_X5_sameOutcome : zM := (yX5_sameOutcome, cX5_sameOutcome, 3, (some .boolean))
theorem W_X5_sameOutcome : zW M_X5_sameOutcome 1 := ⟨lw_ok_of 8 (by decide +kernel) rfl, lw_ok_of 489 (by decide +kernel) rfl, ⟨by decide +kernel, by decide +kernel⟩, by decide +kernel, by decide⟩
theorem i_X5_sameOutcome : Cond.instanceMethod yX5_sameOutcome ∈ lw_ok := lw_ok_of 487 (by decide +kernel) rfl
theorem v_X5_sameOutcome : Cond.selects yX5_sameOutcome.cls yX5_sameOutcome yX5_sameOutcome ∈ lw_ok := lw_ok_of 488 (by decide +kernel) rfl
abbrev M_X6_init : zM := (yX6_init, cX6_init, 2, none)
theorem W_X6_init : zW M_X6_init 0 := ⟨lw_ok_of 1 (by decide +kernel) rfl, lw_ok_of 21 (by decide +kernel) rfl, ⟨by decide +kernel, by decide +kernel⟩, by decide +kernel, by decide⟩
theorem i_X6_init : Cond.instanceMethod yX6_init ∈ lw_ok := lw_ok_of 20 (by decide +kernel) rfl
abbrev M_X6_net : zM := (yX6_net, cX6_net, 3, (some .int))
theorem W_X6_net : zW M_X6_net 1 := ⟨lw_ok_of 1 (by decide +kernel) rfl, lw_ok_of 268 (by decide +kernel) rfl, ⟨by decide +kernel, by decide +kernel⟩, by decide +kernel, by decide⟩
theorem i_X6_net : Cond.instanceMethod yX6_net ∈ lw_ok := lw_ok_of 266 (by decide +kernel) rfl
theorem v_X6_net : Cond.selects yX6_net.cls yX6_net yX6_net ∈ lw_ok := lw_ok_of 267 (by decide +kernel) rfl
abbrev M_X6_chip : zM := (yX6_chip, cX6_chip, 5, (some .int))
theorem W_X6_chip : zW M_X6_chip 3 := ⟨lw_ok_of 1 (by decide +kernel) rfl, lw_ok_of 313 (by decide +kernel) rfl, ⟨by decide +kernel, by decide +kernel⟩, by decide +kernel, by decide⟩
theorem i_X6_chip : Cond.instanceMethod yX6_chip ∈ lw_ok := lw_ok_of 311 (by decide +kernel) rfl
theorem v_X6_chip : Cond.selects yX6_chip.cls yX6_chip yX6_chip ∈ lw_ok := lw_ok_of 312 (by decide +kernel) rfl
abbrev M_X6_fault : zM := (yX6_fault, cX6_fault, 5, (some .int))
theorem W_X6_fault : zW M_X6_fault 3 := ⟨lw_ok_of 1 (by decide +kernel) rfl, lw_ok_of 328 (by decide +kernel) rfl, ⟨by decide +kernel, by decide +kernel⟩, by decide +kernel, by decide⟩
theorem i_X6_fault : Cond.instanceMethod yX6_fault ∈ lw_ok := lw_ok_of 326 (by decide +kernel) rfl
theorem v_X6_fault : Cond.selects yX6_fault.cls yX6_fault yX6_fault ∈ lw_ok := lw_ok_of 327 (by decide +kernel) rfl
abbrev M_X6_bless : zM := (yX6_bless, cX6_bless, 3, (some .int))
theorem W_X6_bless : zW M_X6_bless 2 := ⟨lw_ok_of 1 (by decide +kernel) rfl, lw_ok_of 344 (by decide +kernel) rfl, ⟨by decide +kernel, by decide +kernel⟩, by decide +kernel, by decide⟩
theorem i_X6_bless : Cond.instanceMethod yX6_bless ∈ lw_ok := lw_ok_of 342 (by decide +kernel) rfl
theorem v_X6_bless : Cond.selects yX6_bless.cls yX6_bless yX6_bless ∈ lw_ok := lw_ok_of 343 (by decide +kernel) rfl
abbrev M_X6_pinOf : zM := (yX6_pinOf, cX6_pinOf, 4, (some .int))
theorem W_X6_pinOf : zW M_X6_pinOf 2 := ⟨lw_ok_of 1 (by decide +kernel) rfl, lw_ok_of 354 (by decide +kernel) rfl, ⟨by decide +kernel, by decide +kernel⟩, by decide +kernel, by decide⟩
theorem i_X6_pinOf : Cond.instanceMethod yX6_pinOf ∈ lw_ok := lw_ok_of 352 (by decide +kernel) rfl
theorem v_X6_pinOf : Cond.selects yX6_pinOf.cls yX6_pinOf yX6_pinOf ∈ lw_ok := lw_ok_of 353 (by decide +kernel) rfl
abbrev M_X6_faultOf : zM := (yX6_faultOf, cX6_faultOf, 4, (some .int))
theorem W_X6_faultOf : zW M_X6_faultOf 2 := ⟨lw_ok_of 1 (by decide +kernel) rfl, lw_ok_of 384 (by decide +kernel) rfl, ⟨by decide +kernel, by decide +kernel⟩, by decide +kernel, by decide⟩
theorem i_X6_faultOf : Cond.instanceMethod yX6_faultOf ∈ lw_ok := lw_ok_of 382 (by decide +kernel) rfl
theorem v_X6_faultOf : Cond.selects yX6_faultOf.cls yX6_faultOf yX6_faultOf ∈ lw_ok := lw_ok_of 383 (by decide +kernel) rfl
abbrev M_X6_reached : zM := (yX6_reached, cX6_reached, 4, (some .int))
theorem W_X6_reached : zW M_X6_reached 2 := ⟨lw_ok_of 1 (by decide +kernel) rfl, lw_ok_of 392 (by decide +kernel) rfl, ⟨by decide +kernel, by decide +kernel⟩, by decide +kernel, by decide⟩
theorem i_X6_reached : Cond.instanceMethod yX6_reached ∈ lw_ok := lw_ok_of 390 (by decide +kernel) rfl
theorem v_X6_reached : Cond.selects yX6_reached.cls yX6_reached yX6_reached ∈ lw_ok := lw_ok_of 391 (by decide +kernel) rfl
abbrev M_X6_scanned : zM := (yX6_scanned, cX6_scanned, 3, (some .int))
theorem W_X6_scanned : zW M_X6_scanned 2 := ⟨lw_ok_of 1 (by decide +kernel) rfl, lw_ok_of 446 (by decide +kernel) rfl, ⟨by decide +kernel, by decide +kernel⟩, by decide +kernel, by decide⟩
theorem i_X6_scanned : Cond.instanceMethod yX6_scanned ∈ lw_ok := lw_ok_of 444 (by decide +kernel) rfl
theorem v_X6_scanned : Cond.selects yX6_scanned.cls yX6_scanned yX6_scanned ∈ lw_ok := lw_ok_of 445 (by decide +kernel) rfl
abbrev M_X6_reads : zM := (yX6_reads, cX6_reads, 6, (some .int))
theorem W_X6_reads : zW M_X6_reads 4 := ⟨lw_ok_of 1 (by decide +kernel) rfl, lw_ok_of 451 (by decide +kernel) rfl, ⟨by decide +kernel, by decide +kernel⟩, by decide +kernel, by decide⟩
theorem i_X6_reads : Cond.instanceMethod yX6_reads ∈ lw_ok := lw_ok_of 449 (by decide +kernel) rfl
theorem v_X6_reads : Cond.selects yX6_reads.cls yX6_reads yX6_reads ∈ lw_ok := lw_ok_of 450 (by decide +kernel) rfl
abbrev M_X6_daysOf : zM := (yX6_daysOf, cX6_daysOf, 2, (some .int))
theorem W_X6_daysOf : zW M_X6_daysOf 1 := ⟨lw_ok_of 1 (by decide +kernel) rfl, lw_ok_of 462 (by decide +kernel) rfl, ⟨by decide +kernel, by decide +kernel⟩, by decide +kernel, by decide⟩
theorem i_X6_daysOf : Cond.instanceMethod yX6_daysOf ∈ lw_ok := lw_ok_of 460 (by decide +kernel) rfl
theorem v_X6_daysOf : Cond.selects yX6_daysOf.cls yX6_daysOf yX6_daysOf ∈ lw_ok := lw_ok_of 461 (by decide +kernel) rfl
abbrev M_X6_alike : zM := (yX6_alike, cX6_alike, 3, (some .int))
theorem W_X6_alike : zW M_X6_alike 2 := ⟨lw_ok_of 1 (by decide +kernel) rfl, lw_ok_of 502 (by decide +kernel) rfl, ⟨by decide +kernel, by decide +kernel⟩, by decide +kernel, by decide⟩
theorem i_X6_alike : Cond.instanceMethod yX6_alike ∈ lw_ok := lw_ok_of 500 (by decide +kernel) rfl
theorem v_X6_alike : Cond.selects yX6_alike.cls yX6_alike yX6_alike ∈ lw_ok := lw_ok_of 501 (by decide +kernel) rfl
abbrev M_X6_twin : zM := (yX6_twin, cX6_twin, 3, (some .int))
theorem W_X6_twin : zW M_X6_twin 1 := ⟨lw_ok_of 1 (by decide +kernel) rfl, lw_ok_of 507 (by decide +kernel) rfl, ⟨by decide +kernel, by decide +kernel⟩, by decide +kernel, by decide⟩
theorem i_X6_twin : Cond.instanceMethod yX6_twin ∈ lw_ok := lw_ok_of 505 (by decide +kernel) rfl
theorem v_X6_twin : Cond.selects yX6_twin.cls yX6_twin yX6_twin ∈ lw_ok := lw_ok_of 506 (by decide +kernel) rfl
abbrev M_X6_outcomes : zM := (yX6_outcomes, cX6_outcomes, 2, (some .int))
theorem W_X6_outcomes : zW M_X6_outcomes 1 := ⟨lw_ok_of 1 (by decide +kernel) rfl, lw_ok_of 511 (by decide +kernel) rfl, ⟨by decide +kernel, by decide +kernel⟩, by decide +kernel, by decide⟩
theorem i_X6_outcomes : Cond.instanceMethod yX6_outcomes ∈ lw_ok := lw_ok_of 509 (by decide +kernel) rfl
theorem v_X6_outcomes : Cond.selects yX6_outcomes.cls yX6_outcomes yX6_outcomes ∈ lw_ok := lw_ok_of 510 (by decide +kernel) rfl
abbrev M_X6_likes : zM := (yX6_likes, cX6_likes, 3, (some .int))
theorem W_X6_likes : zW M_X6_likes 2 := ⟨lw_ok_of 1 (by decide +kernel) rfl, lw_ok_of 519 (by decide +kernel) rfl, ⟨by decide +kernel, by decide +kernel⟩, by decide +kernel, by decide⟩
theorem i_X6_likes : Cond.instanceMethod yX6_likes ∈ lw_ok := lw_ok_of 517 (by decide +kernel) rfl
theorem v_X6_likes : Cond.selects yX6_likes.cls yX6_likes yX6_likes ∈ lw_ok := lw_ok_of 518 (by decide +kernel) rfl
abbrev M_X6_fewestDays : zM := (yX6_fewestDays, cX6_fewestDays, 3, (some .int))
theorem W_X6_fewestDays : zW M_X6_fewestDays 2 := ⟨lw_ok_of 1 (by decide +kernel) rfl, lw_ok_of 527 (by decide +kernel) rfl, ⟨by decide +kernel, by decide +kernel⟩, by decide +kernel, by decide⟩
theorem i_X6_fewestDays : Cond.instanceMethod yX6_fewestDays ∈ lw_ok := lw_ok_of 525 (by decide +kernel) rfl
theorem v_X6_fewestDays : Cond.selects yX6_fewestDays.cls yX6_fewestDays yX6_fewestDays ∈ lw_ok := lw_ok_of 526 (by decide +kernel) rfl
abbrev M_X6_wanted : zM := (yX6_wanted, cX6_wanted, 5, (some .int))
theorem W_X6_wanted : zW M_X6_wanted 3 := ⟨lw_ok_of 1 (by decide +kernel) rfl, lw_ok_of 549 (by decide +kernel) rfl, ⟨by decide +kernel, by decide +kernel⟩, by decide +kernel, by decide⟩
theorem i_X6_wanted : Cond.instanceMethod yX6_wanted ∈ lw_ok := lw_ok_of 547 (by decide +kernel) rfl
theorem v_X6_wanted : Cond.selects yX6_wanted.cls yX6_wanted yX6_wanted ∈ lw_ok := lw_ok_of 548 (by decide +kernel) rfl
abbrev M_X6_share : zM := (yX6_share, cX6_share, 4, (some .int))
theorem W_X6_share : zW M_X6_share 1 := ⟨lw_ok_of 1 (by decide +kernel) rfl, lw_ok_of 562 (by decide +kernel) rfl, ⟨by decide +kernel, by decide +kernel⟩, by decide +kernel, by decide⟩
theorem i_X6_share : Cond.instanceMethod yX6_share ∈ lw_ok := lw_ok_of 560 (by decide +kernel) rfl
theorem v_X6_share : Cond.selects yX6_share.cls yX6_share yX6_share ∈ lw_ok := lw_ok_of 561 (by decide +kernel) rfl
abbrev M_X6_plant : zM := (yX6_plant, cX6_plant, 2, (some .int))
theorem W_X6_plant : zW M_X6_plant 1 := ⟨lw_ok_of 1 (by decide +kernel) rfl, lw_ok_of 570 (by decide +kernel) rfl, ⟨by decide +kernel, by decide +kernel⟩, by decide +kernel, by decide⟩
theorem i_X6_plant : Cond.instanceMethod yX6_plant ∈ lw_ok := lw_ok_of 568 (by decide +kernel) rfl
theorem v_X6_plant : Cond.selects yX6_plant.cls yX6_plant yX6_plant ∈ lw_ok := lw_ok_of 569 (by decide +kernel) rfl
abbrev M_X6_test : zM := (yX6_test, cX6_test, 1, (some .int))
theorem W_X6_test : zW M_X6_test 0 := ⟨lw_ok_of 1 (by decide +kernel) rfl, lw_ok_of 575 (by decide +kernel) rfl, ⟨by decide +kernel, by decide +kernel⟩, by decide +kernel, by decide⟩
theorem i_X6_test : Cond.instanceMethod yX6_test ∈ lw_ok := lw_ok_of 573 (by decide +kernel) rfl
theorem v_X6_test : Cond.selects yX6_test.cls yX6_test yX6_test ∈ lw_ok := lw_ok_of 574 (by decide +kernel) rfl
abbrev M_X6_vouch : zM := (yX6_vouch, cX6_vouch, 2, (some .int))
theorem W_X6_vouch : zW M_X6_vouch 1 := ⟨lw_ok_of 1 (by decide +kernel) rfl, lw_ok_of 587 (by decide +kernel) rfl, ⟨by decide +kernel, by decide +kernel⟩, by decide +kernel, by decide⟩
theorem i_X6_vouch : Cond.instanceMethod yX6_vouch ∈ lw_ok := lw_ok_of 585 (by decide +kernel) rfl
theorem v_X6_vouch : Cond.selects yX6_vouch.cls yX6_vouch yX6_vouch ∈ lw_ok := lw_ok_of 586 (by decide +kernel) rfl
abbrev M_X6_vouchers : zM := (yX6_vouchers, cX6_vouchers, 3, (some .int))
theorem W_X6_vouchers : zW M_X6_vouchers 1 := ⟨lw_ok_of 1 (by decide +kernel) rfl, lw_ok_of 593 (by decide +kernel) rfl, ⟨by decide +kernel, by decide +kernel⟩, by decide +kernel, by decide⟩
theorem i_X6_vouchers : Cond.instanceMethod yX6_vouchers ∈ lw_ok := lw_ok_of 591 (by decide +kernel) rfl
theorem v_X6_vouchers : Cond.selects yX6_vouchers.cls yX6_vouchers yX6_vouchers ∈ lw_ok := lw_ok_of 592 (by decide +kernel) rfl
abbrev M_X6_pass : zM := (yX6_pass, cX6_pass, 2, (some .int))
theorem W_X6_pass : zW M_X6_pass 1 := ⟨lw_ok_of 1 (by decide +kernel) rfl, lw_ok_of 597 (by decide +kernel) rfl, ⟨by decide +kernel, by decide +kernel⟩, by decide +kernel, by decide⟩
theorem i_X6_pass : Cond.instanceMethod yX6_pass ∈ lw_ok := lw_ok_of 595 (by decide +kernel) rfl
theorem v_X6_pass : Cond.selects yX6_pass.cls yX6_pass yX6_pass ∈ lw_ok := lw_ok_of 596 (by decide +kernel) rfl
abbrev M_X6_suspects : zM := (yX6_suspects, cX6_suspects, 1, (some .int))
theorem W_X6_suspects : zW M_X6_suspects 0 := ⟨lw_ok_of 1 (by decide +kernel) rfl, lw_ok_of 602 (by decide +kernel) rfl, ⟨by decide +kernel, by decide +kernel⟩, by decide +kernel, by decide⟩
theorem i_X6_suspects : Cond.instanceMethod yX6_suspects ∈ lw_ok := lw_ok_of 600 (by decide +kernel) rfl
theorem v_X6_suspects : Cond.selects yX6_suspects.cls yX6_suspects yX6_suspects ∈ lw_ok := lw_ok_of 601 (by decide +kernel) rfl
abbrev M_X6_bestDay : zM := (yX6_bestDay, cX6_bestDay, 7, (some .int))
theorem W_X6_bestDay : zW M_X6_bestDay 1 := ⟨lw_ok_of 1 (by decide +kernel) rfl, lw_ok_of 606 (by decide +kernel) rfl, ⟨by decide +kernel, by decide +kernel⟩, by decide +kernel, by decide⟩
theorem i_X6_bestDay : Cond.instanceMethod yX6_bestDay ∈ lw_ok := lw_ok_of 604 (by decide +kernel) rfl
theorem v_X6_bestDay : Cond.selects yX6_bestDay.cls yX6_bestDay yX6_bestDay ∈ lw_ok := lw_ok_of 605 (by decide +kernel) rfl
abbrev M_X6_file : zM := (yX6_file, cX6_file, 3, (some .int))
theorem W_X6_file : zW M_X6_file 2 := ⟨lw_ok_of 1 (by decide +kernel) rfl, lw_ok_of 618 (by decide +kernel) rfl, ⟨by decide +kernel, by decide +kernel⟩, by decide +kernel, by decide⟩
theorem i_X6_file : Cond.instanceMethod yX6_file ∈ lw_ok := lw_ok_of 616 (by decide +kernel) rfl
theorem v_X6_file : Cond.selects yX6_file.cls yX6_file yX6_file ∈ lw_ok := lw_ok_of 617 (by decide +kernel) rfl
abbrev M_X6_count : zM := (yX6_count, cX6_count, 2, (some .int))
theorem W_X6_count : zW M_X6_count 1 := ⟨lw_ok_of 1 (by decide +kernel) rfl, lw_ok_of 626 (by decide +kernel) rfl, ⟨by decide +kernel, by decide +kernel⟩, by decide +kernel, by decide⟩
theorem i_X6_count : Cond.instanceMethod yX6_count ∈ lw_ok := lw_ok_of 624 (by decide +kernel) rfl
theorem v_X6_count : Cond.selects yX6_count.cls yX6_count yX6_count ∈ lw_ok := lw_ok_of 625 (by decide +kernel) rfl
abbrev M_X6_undo : zM := (yX6_undo, cX6_undo, 1, (some .int))
theorem W_X6_undo : zW M_X6_undo 0 := ⟨lw_ok_of 1 (by decide +kernel) rfl, lw_ok_of 634 (by decide +kernel) rfl, ⟨by decide +kernel, by decide +kernel⟩, by decide +kernel, by decide⟩
theorem i_X6_undo : Cond.instanceMethod yX6_undo ∈ lw_ok := lw_ok_of 632 (by decide +kernel) rfl
theorem v_X6_undo : Cond.selects yX6_undo.cls yX6_undo yX6_undo ∈ lw_ok := lw_ok_of 633 (by decide +kernel) rfl
abbrev M_X6_type : zM := (yX6_type, cX6_type, 2, (some .int))
theorem W_X6_type : zW M_X6_type 1 := ⟨lw_ok_of 1 (by decide +kernel) rfl, lw_ok_of 642 (by decide +kernel) rfl, ⟨by decide +kernel, by decide +kernel⟩, by decide +kernel, by decide⟩
theorem i_X6_type : Cond.instanceMethod yX6_type ∈ lw_ok := lw_ok_of 640 (by decide +kernel) rfl
theorem v_X6_type : Cond.selects yX6_type.cls yX6_type yX6_type ∈ lw_ok := lw_ok_of 641 (by decide +kernel) rfl
abbrev M_X6_clearText : zM := (yX6_clearText, cX6_clearText, 2, (some .int))
theorem W_X6_clearText : zW M_X6_clearText 0 := ⟨lw_ok_of 1 (by decide +kernel) rfl, lw_ok_of 650 (by decide +kernel) rfl, ⟨by decide +kernel, by decide +kernel⟩, by decide +kernel, by decide⟩
theorem i_X6_clearText : Cond.instanceMethod yX6_clearText ∈ lw_ok := lw_ok_of 648 (by decide +kernel) rfl
theorem v_X6_clearText : Cond.selects yX6_clearText.cls yX6_clearText yX6_clearText ∈ lw_ok := lw_ok_of 649 (by decide +kernel) rfl
abbrev M_X6_place : zM := (yX6_place, cX6_place, 2, (some .int))
theorem W_X6_place : zW M_X6_place 1 := ⟨lw_ok_of 1 (by decide +kernel) rfl, lw_ok_of 654 (by decide +kernel) rfl, ⟨by decide +kernel, by decide +kernel⟩, by decide +kernel, by decide⟩
theorem i_X6_place : Cond.instanceMethod yX6_place ∈ lw_ok := lw_ok_of 652 (by decide +kernel) rfl
theorem v_X6_place : Cond.selects yX6_place.cls yX6_place yX6_place ∈ lw_ok := lw_ok_of 653 (by decide +kernel) rfl
abbrev M_X6_run : zM := (yX6_run, cX6_run, 1, (some .int))
theorem W_X6_run : zW M_X6_run 0 := ⟨lw_ok_of 1 (by decide +kernel) rfl, lw_ok_of 798 (by decide +kernel) rfl, ⟨by decide +kernel, by decide +kernel⟩, by decide +kernel, by decide⟩
theorem i_X6_run : Cond.instanceMethod yX6_run ∈ lw_ok := lw_ok_of 796 (by decide +kernel) rfl
theorem v_X6_run : Cond.selects yX6_run.cls yX6_run yX6_run ∈ lw_ok := lw_ok_of 797 (by decide +kernel) rfl
abbrev M_X6_reachedNow : zM := (yX6_reachedNow, cX6_reachedNow, 2, (some .int))
theorem W_X6_reachedNow : zW M_X6_reachedNow 0 := ⟨lw_ok_of 1 (by decide +kernel) rfl, lw_ok_of 630 (by decide +kernel) rfl, ⟨by decide +kernel, by decide +kernel⟩, by decide +kernel, by decide⟩
theorem i_X6_reachedNow : Cond.instanceMethod yX6_reachedNow ∈ lw_ok := lw_ok_of 629 (by decide +kernel) rfl
theorem v_X6_reachedNow : Cond.selects yX6_reachedNow.cls yX6_reachedNow yX6_reachedNow ∈ lw_ok := lw_ok_sel 1 (by decide +kernel) rfl
abbrev M_X6_isFaultOrNone : zM := (yX6_isFaultOrNone, cX6_isFaultOrNone, 2, (some .boolean))
theorem W_X6_isFaultOrNone : zW M_X6_isFaultOrNone 1 := ⟨lw_ok_of 1 (by decide +kernel) rfl, lw_ok_of 399 (by decide +kernel) rfl, ⟨by decide +kernel, by decide +kernel⟩, by decide +kernel, by decide⟩
theorem i_X6_isFaultOrNone : Cond.instanceMethod yX6_isFaultOrNone ∈ lw_ok := lw_ok_of 398 (by decide +kernel) rfl
theorem v_X6_isFaultOrNone : Cond.selects yX6_isFaultOrNone.cls yX6_isFaultOrNone yX6_isFaultOrNone ∈ lw_ok := lw_ok_sel 0 (by decide +kernel) rfl
abbrev M_X6_suspectFor : zM := (yX6_suspectFor, cX6_suspectFor, 1, (some .int))
theorem W_X6_suspectFor : zW M_X6_suspectFor 1 := ⟨lw_ok_of 1 (by decide +kernel) rfl, lw_ok_of 402 (by decide +kernel) rfl, ⟨by decide +kernel, by decide +kernel⟩, by decide +kernel, by decide⟩
theorem s_X6_suspectFor : Cond.static yX6_suspectFor ∈ lw_ok := lw_ok_of 401 (by decide +kernel) rfl
abbrev M_X6_foundOrNot : zM := (yX6_foundOrNot, cX6_foundOrNot, 1, (some .int))
theorem W_X6_foundOrNot : zW M_X6_foundOrNot 1 := ⟨lw_ok_of 1 (by decide +kernel) rfl, lw_ok_of 357 (by decide +kernel) rfl, ⟨by decide +kernel, by decide +kernel⟩, by decide +kernel, by decide⟩
theorem s_X6_foundOrNot : Cond.static yX6_foundOrNot ∈ lw_ok := lw_ok_of 356 (by decide +kernel) rfl
abbrev M_X6_sizeOrSet : zM := (yX6_sizeOrSet, cX6_sizeOrSet, 2, (some .int))
theorem W_X6_sizeOrSet : zW M_X6_sizeOrSet 2 := ⟨lw_ok_of 1 (by decide +kernel) rfl, lw_ok_of 544 (by decide +kernel) rfl, ⟨by decide +kernel, by decide +kernel⟩, by decide +kernel, by decide⟩
theorem s_X6_sizeOrSet : Cond.static yX6_sizeOrSet ∈ lw_ok := lw_ok_of 543 (by decide +kernel) rfl
abbrev M_X6_isPin : zM := (yX6_isPin, cX6_isPin, 1, (some .boolean))
theorem W_X6_isPin : zW M_X6_isPin 1 := ⟨lw_ok_of 1 (by decide +kernel) rfl, lw_ok_of 320 (by decide +kernel) rfl, ⟨by decide +kernel, by decide +kernel⟩, by decide +kernel, by decide⟩
theorem s_X6_isPin : Cond.static yX6_isPin ∈ lw_ok := lw_ok_of 319 (by decide +kernel) rfl
abbrev M_X6_isDay : zM := (yX6_isDay, cX6_isDay, 1, (some .boolean))
theorem W_X6_isDay : zW M_X6_isDay 1 := ⟨lw_ok_of 1 (by decide +kernel) rfl, lw_ok_of 395 (by decide +kernel) rfl, ⟨by decide +kernel, by decide +kernel⟩, by decide +kernel, by decide⟩
theorem s_X6_isDay : Cond.static yX6_isDay ∈ lw_ok := lw_ok_of 394 (by decide +kernel) rfl
abbrev M_X6_isZeroOrOne : zM := (yX6_isZeroOrOne, cX6_isZeroOrOne, 1, (some .boolean))
theorem W_X6_isZeroOrOne : zW M_X6_isZeroOrOne 1 := ⟨lw_ok_of 1 (by decide +kernel) rfl, lw_ok_of 454 (by decide +kernel) rfl, ⟨by decide +kernel, by decide +kernel⟩, by decide +kernel, by decide⟩
theorem s_X6_isZeroOrOne : Cond.static yX6_isZeroOrOne ∈ lw_ok := lw_ok_of 453 (by decide +kernel) rfl
abbrev M_X6_hasBit : zM := (yX6_hasBit, cX6_hasBit, 2, (some .boolean))
theorem W_X6_hasBit : zW M_X6_hasBit 2 := ⟨lw_ok_of 1 (by decide +kernel) rfl, lw_ok_of 309 (by decide +kernel) rfl, ⟨by decide +kernel, by decide +kernel⟩, by decide +kernel, by decide⟩
theorem s_X6_hasBit : Cond.static yX6_hasBit ∈ lw_ok := lw_ok_of 308 (by decide +kernel) rfl
abbrev M_X6_bitsOf : zM := (yX6_bitsOf, cX6_bitsOf, 3, (some .int))
theorem W_X6_bitsOf : zW M_X6_bitsOf 1 := ⟨lw_ok_of 1 (by decide +kernel) rfl, lw_ok_of 565 (by decide +kernel) rfl, ⟨by decide +kernel, by decide +kernel⟩, by decide +kernel, by decide⟩
theorem s_X6_bitsOf : Cond.static yX6_bitsOf ∈ lw_ok := lw_ok_of 564 (by decide +kernel) rfl
abbrev M_X7_init : zM := (yX7_init, cX7_init, 2, none)
theorem W_X7_init : zW M_X7_init 0 := ⟨lw_ok_of 9 (by decide +kernel) rfl, lw_ok_of 804 (by decide +kernel) rfl, ⟨by decide +kernel, by decide +kernel⟩, by decide +kernel, by decide⟩
theorem i_X7_init : Cond.instanceMethod yX7_init ∈ lw_ok := lw_ok_of 803 (by decide +kernel) rfl
abbrev M_X7_isIn : zM := (yX7_isIn, cX7_isIn, 3, (some .boolean))
theorem W_X7_isIn : zW M_X7_isIn 3 := ⟨lw_ok_of 9 (by decide +kernel) rfl, lw_ok_of 868 (by decide +kernel) rfl, ⟨by decide +kernel, by decide +kernel⟩, by decide +kernel, by decide⟩
theorem s_X7_isIn : Cond.static yX7_isIn ∈ lw_ok := lw_ok_of 867 (by decide +kernel) rfl
abbrev M_X7_has : zM := (yX7_has, cX7_has, 2, (some .boolean))
theorem W_X7_has : zW M_X7_has 2 := ⟨lw_ok_of 9 (by decide +kernel) rfl, lw_ok_of 875 (by decide +kernel) rfl, ⟨by decide +kernel, by decide +kernel⟩, by decide +kernel, by decide⟩
theorem s_X7_has : Cond.static yX7_has ∈ lw_ok := lw_ok_of 874 (by decide +kernel) rfl
abbrev M_X7_ones : zM := (yX7_ones, cX7_ones, 3, (some .int))
theorem W_X7_ones : zW M_X7_ones 1 := ⟨lw_ok_of 9 (by decide +kernel) rfl, lw_ok_of 871 (by decide +kernel) rfl, ⟨by decide +kernel, by decide +kernel⟩, by decide +kernel, by decide⟩
theorem s_X7_ones : Cond.static yX7_ones ∈ lw_ok := lw_ok_of 870 (by decide +kernel) rfl
abbrev M_X7_records : zM := (yX7_records, cX7_records, 2, none)
theorem W_X7_records : zW M_X7_records 0 := ⟨lw_ok_of 9 (by decide +kernel) rfl, lw_ok_of 884 (by decide +kernel) rfl, ⟨by decide +kernel, by decide +kernel⟩, by decide +kernel, by decide⟩
theorem i_X7_records : Cond.instanceMethod yX7_records ∈ lw_ok := lw_ok_of 883 (by decide +kernel) rfl
theorem v_X7_records : Cond.selects yX7_records.cls yX7_records yX7_records ∈ lw_ok := lw_ok_sel 4 (by decide +kernel) rfl
abbrev M_X7_undo : zM := (yX7_undo, cX7_undo, 2, (some .int))
theorem W_X7_undo : zW M_X7_undo 0 := ⟨lw_ok_of 9 (by decide +kernel) rfl, lw_ok_of 855 (by decide +kernel) rfl, ⟨by decide +kernel, by decide +kernel⟩, by decide +kernel, by decide⟩
theorem i_X7_undo : Cond.instanceMethod yX7_undo ∈ lw_ok := lw_ok_of 853 (by decide +kernel) rfl
theorem v_X7_undo : Cond.selects yX7_undo.cls yX7_undo yX7_undo ∈ lw_ok := lw_ok_of 854 (by decide +kernel) rfl
abbrev M_X7_netOf : zM := (yX7_netOf, cX7_netOf, 3, (some .int))
theorem W_X7_netOf : zW M_X7_netOf 1 := ⟨lw_ok_of 9 (by decide +kernel) rfl, lw_ok_of 879 (by decide +kernel) rfl, ⟨by decide +kernel, by decide +kernel⟩, by decide +kernel, by decide⟩
theorem i_X7_netOf : Cond.instanceMethod yX7_netOf ∈ lw_ok := lw_ok_of 878 (by decide +kernel) rfl
theorem v_X7_netOf : Cond.selects yX7_netOf.cls yX7_netOf yX7_netOf ∈ lw_ok := lw_ok_sel 3 (by decide +kernel) rfl
abbrev M_X7_roleOf : zM := (yX7_roleOf, cX7_roleOf, 3, (some .int))
theorem W_X7_roleOf : zW M_X7_roleOf 2 := ⟨lw_ok_of 9 (by decide +kernel) rfl, lw_ok_of 904 (by decide +kernel) rfl, ⟨by decide +kernel, by decide +kernel⟩, by decide +kernel, by decide⟩
theorem i_X7_roleOf : Cond.instanceMethod yX7_roleOf ∈ lw_ok := lw_ok_of 903 (by decide +kernel) rfl
theorem v_X7_roleOf : Cond.selects yX7_roleOf.cls yX7_roleOf yX7_roleOf ∈ lw_ok := lw_ok_sel 8 (by decide +kernel) rfl
abbrev M_X7_chipOf : zM := (yX7_chipOf, cX7_chipOf, 3, (some .int))
theorem W_X7_chipOf : zW M_X7_chipOf 1 := ⟨lw_ok_of 9 (by decide +kernel) rfl, lw_ok_of 900 (by decide +kernel) rfl, ⟨by decide +kernel, by decide +kernel⟩, by decide +kernel, by decide⟩
theorem i_X7_chipOf : Cond.instanceMethod yX7_chipOf ∈ lw_ok := lw_ok_of 899 (by decide +kernel) rfl
theorem v_X7_chipOf : Cond.selects yX7_chipOf.cls yX7_chipOf yX7_chipOf ∈ lw_ok := lw_ok_sel 7 (by decide +kernel) rfl
abbrev M_X7_checksNet : zM := (yX7_checksNet, cX7_checksNet, 3, (some .int))
theorem W_X7_checksNet : zW M_X7_checksNet 1 := ⟨lw_ok_of 9 (by decide +kernel) rfl, lw_ok_of 864 (by decide +kernel) rfl, ⟨by decide +kernel, by decide +kernel⟩, by decide +kernel, by decide⟩
theorem i_X7_checksNet : Cond.instanceMethod yX7_checksNet ∈ lw_ok := lw_ok_of 863 (by decide +kernel) rfl
theorem v_X7_checksNet : Cond.selects yX7_checksNet.cls yX7_checksNet yX7_checksNet ∈ lw_ok := lw_ok_sel 2 (by decide +kernel) rfl
abbrev M_X7_addsNet : zM := (yX7_addsNet, cX7_addsNet, 2, (some .int))
theorem W_X7_addsNet : zW M_X7_addsNet 1 := ⟨lw_ok_of 9 (by decide +kernel) rfl, lw_ok_of 888 (by decide +kernel) rfl, ⟨by decide +kernel, by decide +kernel⟩, by decide +kernel, by decide⟩
theorem i_X7_addsNet : Cond.instanceMethod yX7_addsNet ∈ lw_ok := lw_ok_of 887 (by decide +kernel) rfl
theorem v_X7_addsNet : Cond.selects yX7_addsNet.cls yX7_addsNet yX7_addsNet ∈ lw_ok := lw_ok_sel 5 (by decide +kernel) rfl
abbrev M_X7_net : zM := (yX7_net, cX7_net, 3, (some .int))
theorem W_X7_net : zW M_X7_net 1 := ⟨lw_ok_of 9 (by decide +kernel) rfl, lw_ok_of 860 (by decide +kernel) rfl, ⟨by decide +kernel, by decide +kernel⟩, by decide +kernel, by decide⟩
theorem i_X7_net : Cond.instanceMethod yX7_net ∈ lw_ok := lw_ok_of 858 (by decide +kernel) rfl
theorem v_X7_net : Cond.selects yX7_net.cls yX7_net yX7_net ∈ lw_ok := lw_ok_of 859 (by decide +kernel) rfl
abbrev M_X7_checksChip : zM := (yX7_checksChip, cX7_checksChip, 6, (some .int))
theorem W_X7_checksChip : zW M_X7_checksChip 3 := ⟨lw_ok_of 9 (by decide +kernel) rfl, lw_ok_of 896 (by decide +kernel) rfl, ⟨by decide +kernel, by decide +kernel⟩, by decide +kernel, by decide⟩
theorem i_X7_checksChip : Cond.instanceMethod yX7_checksChip ∈ lw_ok := lw_ok_of 895 (by decide +kernel) rfl
theorem v_X7_checksChip : Cond.selects yX7_checksChip.cls yX7_checksChip yX7_checksChip ∈ lw_ok := lw_ok_sel 6 (by decide +kernel) rfl
abbrev M_X7_addsChip : zM := (yX7_addsChip, cX7_addsChip, 5, (some .int))
theorem W_X7_addsChip : zW M_X7_addsChip 3 := ⟨lw_ok_of 9 (by decide +kernel) rfl, lw_ok_of 908 (by decide +kernel) rfl, ⟨by decide +kernel, by decide +kernel⟩, by decide +kernel, by decide⟩
theorem i_X7_addsChip : Cond.instanceMethod yX7_addsChip ∈ lw_ok := lw_ok_of 907 (by decide +kernel) rfl
theorem v_X7_addsChip : Cond.selects yX7_addsChip.cls yX7_addsChip yX7_addsChip ∈ lw_ok := lw_ok_sel 9 (by decide +kernel) rfl
abbrev M_X7_chip : zM := (yX7_chip, cX7_chip, 5, (some .int))
theorem W_X7_chip : zW M_X7_chip 3 := ⟨lw_ok_of 9 (by decide +kernel) rfl, lw_ok_of 892 (by decide +kernel) rfl, ⟨by decide +kernel, by decide +kernel⟩, by decide +kernel, by decide⟩
theorem i_X7_chip : Cond.instanceMethod yX7_chip ∈ lw_ok := lw_ok_of 890 (by decide +kernel) rfl
theorem v_X7_chip : Cond.selects yX7_chip.cls yX7_chip yX7_chip ∈ lw_ok := lw_ok_of 891 (by decide +kernel) rfl
abbrev M_X7_manyOf : zM := (yX7_manyOf, cX7_manyOf, 2, (some .int))
theorem W_X7_manyOf : zW M_X7_manyOf 1 := ⟨lw_ok_of 9 (by decide +kernel) rfl, lw_ok_of 920 (by decide +kernel) rfl, ⟨by decide +kernel, by decide +kernel⟩, by decide +kernel, by decide⟩
theorem i_X7_manyOf : Cond.instanceMethod yX7_manyOf ∈ lw_ok := lw_ok_of 919 (by decide +kernel) rfl
theorem v_X7_manyOf : Cond.selects yX7_manyOf.cls yX7_manyOf yX7_manyOf ∈ lw_ok := lw_ok_sel 11 (by decide +kernel) rfl
abbrev M_X7_checksFault : zM := (yX7_checksFault, cX7_checksFault, 5, (some .int))
theorem W_X7_checksFault : zW M_X7_checksFault 3 := ⟨lw_ok_of 9 (by decide +kernel) rfl, lw_ok_of 916 (by decide +kernel) rfl, ⟨by decide +kernel, by decide +kernel⟩, by decide +kernel, by decide⟩
theorem i_X7_checksFault : Cond.instanceMethod yX7_checksFault ∈ lw_ok := lw_ok_of 915 (by decide +kernel) rfl
theorem v_X7_checksFault : Cond.selects yX7_checksFault.cls yX7_checksFault yX7_checksFault ∈ lw_ok := lw_ok_sel 10 (by decide +kernel) rfl
abbrev M_X7_addsFault : zM := (yX7_addsFault, cX7_addsFault, 5, (some .int))
theorem W_X7_addsFault : zW M_X7_addsFault 3 := ⟨lw_ok_of 9 (by decide +kernel) rfl, lw_ok_of 924 (by decide +kernel) rfl, ⟨by decide +kernel, by decide +kernel⟩, by decide +kernel, by decide⟩
theorem i_X7_addsFault : Cond.instanceMethod yX7_addsFault ∈ lw_ok := lw_ok_of 923 (by decide +kernel) rfl
theorem v_X7_addsFault : Cond.selects yX7_addsFault.cls yX7_addsFault yX7_addsFault ∈ lw_ok := lw_ok_sel 12 (by decide +kernel) rfl
abbrev M_X7_fault : zM := (yX7_fault, cX7_fault, 5, (some .int))
theorem W_X7_fault : zW M_X7_fault 3 := ⟨lw_ok_of 9 (by decide +kernel) rfl, lw_ok_of 912 (by decide +kernel) rfl, ⟨by decide +kernel, by decide +kernel⟩, by decide +kernel, by decide⟩
theorem i_X7_fault : Cond.instanceMethod yX7_fault ∈ lw_ok := lw_ok_of 910 (by decide +kernel) rfl
theorem v_X7_fault : Cond.selects yX7_fault.cls yX7_fault yX7_fault ∈ lw_ok := lw_ok_of 911 (by decide +kernel) rfl
abbrev M_X7_bless : zM := (yX7_bless, cX7_bless, 4, (some .int))
theorem W_X7_bless : zW M_X7_bless 2 := ⟨lw_ok_of 9 (by decide +kernel) rfl, lw_ok_of 928 (by decide +kernel) rfl, ⟨by decide +kernel, by decide +kernel⟩, by decide +kernel, by decide⟩
theorem i_X7_bless : Cond.instanceMethod yX7_bless ∈ lw_ok := lw_ok_of 926 (by decide +kernel) rfl
theorem v_X7_bless : Cond.selects yX7_bless.cls yX7_bless yX7_bless ∈ lw_ok := lw_ok_of 927 (by decide +kernel) rfl
abbrev M_X7_weekday : zM := (yX7_weekday, cX7_weekday, 1, (some .int))
theorem W_X7_weekday : zW M_X7_weekday 0 := ⟨lw_ok_of 9 (by decide +kernel) rfl, lw_ok_of 944 (by decide +kernel) rfl, ⟨by decide +kernel, by decide +kernel⟩, by decide +kernel, by decide⟩
theorem i_X7_weekday : Cond.instanceMethod yX7_weekday ∈ lw_ok := lw_ok_of 943 (by decide +kernel) rfl
theorem v_X7_weekday : Cond.selects yX7_weekday.cls yX7_weekday yX7_weekday ∈ lw_ok := lw_ok_sel 14 (by decide +kernel) rfl
abbrev M_X7_touchedOn : zM := (yX7_touchedOn, cX7_touchedOn, 4, (some .int))
theorem W_X7_touchedOn : zW M_X7_touchedOn 1 := ⟨lw_ok_of 9 (by decide +kernel) rfl, lw_ok_of 948 (by decide +kernel) rfl, ⟨by decide +kernel, by decide +kernel⟩, by decide +kernel, by decide⟩
theorem i_X7_touchedOn : Cond.instanceMethod yX7_touchedOn ∈ lw_ok := lw_ok_of 947 (by decide +kernel) rfl
theorem v_X7_touchedOn : Cond.selects yX7_touchedOn.cls yX7_touchedOn yX7_touchedOn ∈ lw_ok := lw_ok_sel 15 (by decide +kernel) rfl
abbrev M_X7_touchedNow : zM := (yX7_touchedNow, cX7_touchedNow, 1, (some .int))
theorem W_X7_touchedNow : zW M_X7_touchedNow 0 := ⟨lw_ok_of 9 (by decide +kernel) rfl, lw_ok_of 940 (by decide +kernel) rfl, ⟨by decide +kernel, by decide +kernel⟩, by decide +kernel, by decide⟩
theorem i_X7_touchedNow : Cond.instanceMethod yX7_touchedNow ∈ lw_ok := lw_ok_of 939 (by decide +kernel) rfl
theorem v_X7_touchedNow : Cond.selects yX7_touchedNow.cls yX7_touchedNow yX7_touchedNow ∈ lw_ok := lw_ok_sel 13 (by decide +kernel) rfl
abbrev M_X7_orMissing : zM := (yX7_orMissing, cX7_orMissing, 1, (some .int))
theorem W_X7_orMissing : zW M_X7_orMissing 1 := ⟨lw_ok_of 9 (by decide +kernel) rfl, lw_ok_of 935 (by decide +kernel) rfl, ⟨by decide +kernel, by decide +kernel⟩, by decide +kernel, by decide⟩
theorem s_X7_orMissing : Cond.static yX7_orMissing ∈ lw_ok := lw_ok_of 934 (by decide +kernel) rfl
abbrev M_X7_pinOf : zM := (yX7_pinOf, cX7_pinOf, 4, (some .int))
theorem W_X7_pinOf : zW M_X7_pinOf 2 := ⟨lw_ok_of 9 (by decide +kernel) rfl, lw_ok_of 932 (by decide +kernel) rfl, ⟨by decide +kernel, by decide +kernel⟩, by decide +kernel, by decide⟩
theorem i_X7_pinOf : Cond.instanceMethod yX7_pinOf ∈ lw_ok := lw_ok_of 930 (by decide +kernel) rfl
theorem v_X7_pinOf : Cond.selects yX7_pinOf.cls yX7_pinOf yX7_pinOf ∈ lw_ok := lw_ok_of 931 (by decide +kernel) rfl
abbrev M_X7_isFault : zM := (yX7_isFault, cX7_isFault, 2, (some .boolean))
theorem W_X7_isFault : zW M_X7_isFault 1 := ⟨lw_ok_of 9 (by decide +kernel) rfl, lw_ok_of 956 (by decide +kernel) rfl, ⟨by decide +kernel, by decide +kernel⟩, by decide +kernel, by decide⟩
theorem i_X7_isFault : Cond.instanceMethod yX7_isFault ∈ lw_ok := lw_ok_of 955 (by decide +kernel) rfl
theorem v_X7_isFault : Cond.selects yX7_isFault.cls yX7_isFault yX7_isFault ∈ lw_ok := lw_ok_sel 16 (by decide +kernel) rfl
abbrev M_X7_isFaultOrNone : zM := (yX7_isFaultOrNone, cX7_isFaultOrNone, 2, (some .boolean))
theorem W_X7_isFaultOrNone : zW M_X7_isFaultOrNone 1 := ⟨lw_ok_of 9 (by decide +kernel) rfl, lw_ok_of 967 (by decide +kernel) rfl, ⟨by decide +kernel, by decide +kernel⟩, by decide +kernel, by decide⟩
theorem i_X7_isFaultOrNone : Cond.instanceMethod yX7_isFaultOrNone ∈ lw_ok := lw_ok_of 966 (by decide +kernel) rfl
theorem v_X7_isFaultOrNone : Cond.selects yX7_isFaultOrNone.cls yX7_isFaultOrNone yX7_isFaultOrNone ∈ lw_ok := lw_ok_sel 17 (by decide +kernel) rfl
abbrev M_X7_faultOf : zM := (yX7_faultOf, cX7_faultOf, 3, (some .int))
theorem W_X7_faultOf : zW M_X7_faultOf 2 := ⟨lw_ok_of 9 (by decide +kernel) rfl, lw_ok_of 952 (by decide +kernel) rfl, ⟨by decide +kernel, by decide +kernel⟩, by decide +kernel, by decide⟩
theorem i_X7_faultOf : Cond.instanceMethod yX7_faultOf ∈ lw_ok := lw_ok_of 950 (by decide +kernel) rfl
theorem v_X7_faultOf : Cond.selects yX7_faultOf.cls yX7_faultOf yX7_faultOf ∈ lw_ok := lw_ok_of 951 (by decide +kernel) rfl
abbrev M_X7_hasFault : zM := (yX7_hasFault, cX7_hasFault, 4, (some .boolean))
theorem W_X7_hasFault : zW M_X7_hasFault 3 := ⟨lw_ok_of 9 (by decide +kernel) rfl, lw_ok_of 987 (by decide +kernel) rfl, ⟨by decide +kernel, by decide +kernel⟩, by decide +kernel, by decide⟩
theorem i_X7_hasFault : Cond.instanceMethod yX7_hasFault ∈ lw_ok := lw_ok_of 986 (by decide +kernel) rfl
theorem v_X7_hasFault : Cond.selects yX7_hasFault.cls yX7_hasFault yX7_hasFault ∈ lw_ok := lw_ok_sel 22 (by decide +kernel) rfl
abbrev M_X7_areLinked : zM := (yX7_areLinked, cX7_areLinked, 6, (some .boolean))
theorem W_X7_areLinked : zW M_X7_areLinked 3 := ⟨lw_ok_of 9 (by decide +kernel) rfl, lw_ok_of 991 (by decide +kernel) rfl, ⟨by decide +kernel, by decide +kernel⟩, by decide +kernel, by decide⟩
theorem i_X7_areLinked : Cond.instanceMethod yX7_areLinked ∈ lw_ok := lw_ok_of 990 (by decide +kernel) rfl
theorem v_X7_areLinked : Cond.selects yX7_areLinked.cls yX7_areLinked yX7_areLinked ∈ lw_ok := lw_ok_sel 23 (by decide +kernel) rfl
abbrev M_X7_comesTo : zM := (yX7_comesTo, cX7_comesTo, 8, (some .boolean))
theorem W_X7_comesTo : zW M_X7_comesTo 5 := ⟨lw_ok_of 9 (by decide +kernel) rfl, lw_ok_of 983 (by decide +kernel) rfl, ⟨by decide +kernel, by decide +kernel⟩, by decide +kernel, by decide⟩
theorem i_X7_comesTo : Cond.instanceMethod yX7_comesTo ∈ lw_ok := lw_ok_of 982 (by decide +kernel) rfl
theorem v_X7_comesTo : Cond.selects yX7_comesTo.cls yX7_comesTo yX7_comesTo ∈ lw_ok := lw_ok_sel 21 (by decide +kernel) rfl
abbrev M_X7_along : zM := (yX7_along, cX7_along, 7, (some .int))
theorem W_X7_along : zW M_X7_along 3 := ⟨lw_ok_of 9 (by decide +kernel) rfl, lw_ok_of 979 (by decide +kernel) rfl, ⟨by decide +kernel, by decide +kernel⟩, by decide +kernel, by decide⟩
theorem i_X7_along : Cond.instanceMethod yX7_along ∈ lw_ok := lw_ok_of 978 (by decide +kernel) rfl
theorem v_X7_along : Cond.selects yX7_along.cls yX7_along yX7_along ∈ lw_ok := lw_ok_sel 20 (by decide +kernel) rfl
abbrev M_X7_scannedBy : zM := (yX7_scannedBy, cX7_scannedBy, 3, (some .int))
theorem W_X7_scannedBy : zW M_X7_scannedBy 2 := ⟨lw_ok_of 9 (by decide +kernel) rfl, lw_ok_of 975 (by decide +kernel) rfl, ⟨by decide +kernel, by decide +kernel⟩, by decide +kernel, by decide⟩
theorem i_X7_scannedBy : Cond.instanceMethod yX7_scannedBy ∈ lw_ok := lw_ok_of 974 (by decide +kernel) rfl
theorem v_X7_scannedBy : Cond.selects yX7_scannedBy.cls yX7_scannedBy yX7_scannedBy ∈ lw_ok := lw_ok_sel 19 (by decide +kernel) rfl
abbrev M_X7_reachedBy : zM := (yX7_reachedBy, cX7_reachedBy, 6, (some .int))
theorem W_X7_reachedBy : zW M_X7_reachedBy 2 := ⟨lw_ok_of 9 (by decide +kernel) rfl, lw_ok_of 971 (by decide +kernel) rfl, ⟨by decide +kernel, by decide +kernel⟩, by decide +kernel, by decide⟩
theorem i_X7_reachedBy : Cond.instanceMethod yX7_reachedBy ∈ lw_ok := lw_ok_of 970 (by decide +kernel) rfl
theorem v_X7_reachedBy : Cond.selects yX7_reachedBy.cls yX7_reachedBy yX7_reachedBy ∈ lw_ok := lw_ok_sel 18 (by decide +kernel) rfl
abbrev M_X7_areJoined : zM := (yX7_areJoined, cX7_areJoined, 6, (some .boolean))
theorem W_X7_areJoined : zW M_X7_areJoined 3 := ⟨lw_ok_of 9 (by decide +kernel) rfl, lw_ok_of 1011 (by decide +kernel) rfl, ⟨by decide +kernel, by decide +kernel⟩, by decide +kernel, by decide⟩
theorem i_X7_areJoined : Cond.instanceMethod yX7_areJoined ∈ lw_ok := lw_ok_of 1010 (by decide +kernel) rfl
theorem v_X7_areJoined : Cond.selects yX7_areJoined.cls yX7_areJoined yX7_areJoined ∈ lw_ok := lw_ok_sel 26 (by decide +kernel) rfl
abbrev M_X7_readsOne : zM := (yX7_readsOne, cX7_readsOne, 8, (some .int))
theorem W_X7_readsOne : zW M_X7_readsOne 4 := ⟨lw_ok_of 9 (by decide +kernel) rfl, lw_ok_of 1007 (by decide +kernel) rfl, ⟨by decide +kernel, by decide +kernel⟩, by decide +kernel, by decide⟩
theorem i_X7_readsOne : Cond.instanceMethod yX7_readsOne ∈ lw_ok := lw_ok_of 1006 (by decide +kernel) rfl
theorem v_X7_readsOne : Cond.selects yX7_readsOne.cls yX7_readsOne yX7_readsOne ∈ lw_ok := lw_ok_sel 25 (by decide +kernel) rfl
abbrev M_X7_readsBy : zM := (yX7_readsBy, cX7_readsBy, 7, (some .int))
theorem W_X7_readsBy : zW M_X7_readsBy 4 := ⟨lw_ok_of 9 (by decide +kernel) rfl, lw_ok_of 1003 (by decide +kernel) rfl, ⟨by decide +kernel, by decide +kernel⟩, by decide +kernel, by decide⟩
theorem i_X7_readsBy : Cond.instanceMethod yX7_readsBy ∈ lw_ok := lw_ok_of 1002 (by decide +kernel) rfl
theorem v_X7_readsBy : Cond.selects yX7_readsBy.cls yX7_readsBy yX7_readsBy ∈ lw_ok := lw_ok_sel 24 (by decide +kernel) rfl
abbrev M_X7_measuresOne : zM := (yX7_measuresOne, cX7_measuresOne, 8, none)
theorem W_X7_measuresOne : zW M_X7_measuresOne 3 := ⟨lw_ok_of 9 (by decide +kernel) rfl, lw_ok_of 1026 (by decide +kernel) rfl, ⟨by decide +kernel, by decide +kernel⟩, by decide +kernel, by decide⟩
theorem i_X7_measuresOne : Cond.instanceMethod yX7_measuresOne ∈ lw_ok := lw_ok_of 1025 (by decide +kernel) rfl
theorem v_X7_measuresOne : Cond.selects yX7_measuresOne.cls yX7_measuresOne yX7_measuresOne ∈ lw_ok := lw_ok_sel 28 (by decide +kernel) rfl
abbrev M_X7_isBoard : zM := (yX7_isBoard, cX7_isBoard, 2, (some .boolean))
theorem W_X7_isBoard : zW M_X7_isBoard 1 := ⟨lw_ok_of 9 (by decide +kernel) rfl, lw_ok_of 1050 (by decide +kernel) rfl, ⟨by decide +kernel, by decide +kernel⟩, by decide +kernel, by decide⟩
theorem i_X7_isBoard : Cond.instanceMethod yX7_isBoard ∈ lw_ok := lw_ok_of 1049 (by decide +kernel) rfl
theorem v_X7_isBoard : Cond.selects yX7_isBoard.cls yX7_isBoard yX7_isBoard ∈ lw_ok := lw_ok_sel 31 (by decide +kernel) rfl
abbrev M_X7_slotOf : zM := (yX7_slotOf, cX7_slotOf, 1, (some .int))
theorem W_X7_slotOf : zW M_X7_slotOf 1 := ⟨lw_ok_of 9 (by decide +kernel) rfl, lw_ok_of 1022 (by decide +kernel) rfl, ⟨by decide +kernel, by decide +kernel⟩, by decide +kernel, by decide⟩
theorem s_X7_slotOf : Cond.static yX7_slotOf ∈ lw_ok := lw_ok_of 1021 (by decide +kernel) rfl
abbrev M_X7_measures : zM := (yX7_measures, cX7_measures, 3, none)
theorem W_X7_measures : zW M_X7_measures 1 := ⟨lw_ok_of 9 (by decide +kernel) rfl, lw_ok_of 1046 (by decide +kernel) rfl, ⟨by decide +kernel, by decide +kernel⟩, by decide +kernel, by decide⟩
theorem i_X7_measures : Cond.instanceMethod yX7_measures ∈ lw_ok := lw_ok_of 1045 (by decide +kernel) rfl
theorem v_X7_measures : Cond.selects yX7_measures.cls yX7_measures yX7_measures ∈ lw_ok := lw_ok_sel 30 (by decide +kernel) rfl
abbrev M_X7_isLike : zM := (yX7_isLike, cX7_isLike, 4, (some .boolean))
theorem W_X7_isLike : zW M_X7_isLike 2 := ⟨lw_ok_of 9 (by decide +kernel) rfl, lw_ok_of 1030 (by decide +kernel) rfl, ⟨by decide +kernel, by decide +kernel⟩, by decide +kernel, by decide⟩
theorem i_X7_isLike : Cond.instanceMethod yX7_isLike ∈ lw_ok := lw_ok_of 1029 (by decide +kernel) rfl
theorem v_X7_isLike : Cond.selects yX7_isLike.cls yX7_isLike yX7_isLike ∈ lw_ok := lw_ok_sel 29 (by decide +kernel) rfl
abbrev M_X7_likeSet : zM := (yX7_likeSet, cX7_likeSet, 4, (some .int))
theorem W_X7_likeSet : zW M_X7_likeSet 1 := ⟨lw_ok_of 9 (by decide +kernel) rfl, lw_ok_of 1054 (by decide +kernel) rfl, ⟨by decide +kernel, by decide +kernel⟩, by decide +kernel, by decide⟩
theorem i_X7_likeSet : Cond.instanceMethod yX7_likeSet ∈ lw_ok := lw_ok_of 1053 (by decide +kernel) rfl
theorem v_X7_likeSet : Cond.selects yX7_likeSet.cls yX7_likeSet yX7_likeSet ∈ lw_ok := lw_ok_sel 32 (by decide +kernel) rfl
abbrev M_X7_isDay : zM := (yX7_isDay, cX7_isDay, 1, (some .boolean))
theorem W_X7_isDay : zW M_X7_isDay 1 := ⟨lw_ok_of 9 (by decide +kernel) rfl, lw_ok_of 963 (by decide +kernel) rfl, ⟨by decide +kernel, by decide +kernel⟩, by decide +kernel, by decide⟩
theorem s_X7_isDay : Cond.static yX7_isDay ∈ lw_ok := lw_ok_of 962 (by decide +kernel) rfl
abbrev M_X7_reached : zM := (yX7_reached, cX7_reached, 3, (some .int))
theorem W_X7_reached : zW M_X7_reached 2 := ⟨lw_ok_of 9 (by decide +kernel) rfl, lw_ok_of 960 (by decide +kernel) rfl, ⟨by decide +kernel, by decide +kernel⟩, by decide +kernel, by decide⟩
theorem i_X7_reached : Cond.instanceMethod yX7_reached ∈ lw_ok := lw_ok_of 958 (by decide +kernel) rfl
theorem v_X7_reached : Cond.selects yX7_reached.cls yX7_reached yX7_reached ∈ lw_ok := lw_ok_of 959 (by decide +kernel) rfl
abbrev M_X7_scanned : zM := (yX7_scanned, cX7_scanned, 3, (some .int))
theorem W_X7_scanned : zW M_X7_scanned 2 := ⟨lw_ok_of 9 (by decide +kernel) rfl, lw_ok_of 995 (by decide +kernel) rfl, ⟨by decide +kernel, by decide +kernel⟩, by decide +kernel, by decide⟩
theorem i_X7_scanned : Cond.instanceMethod yX7_scanned ∈ lw_ok := lw_ok_of 993 (by decide +kernel) rfl
theorem v_X7_scanned : Cond.selects yX7_scanned.cls yX7_scanned yX7_scanned ∈ lw_ok := lw_ok_of 994 (by decide +kernel) rfl
abbrev M_X7_reads : zM := (yX7_reads, cX7_reads, 6, (some .int))
theorem W_X7_reads : zW M_X7_reads 4 := ⟨lw_ok_of 9 (by decide +kernel) rfl, lw_ok_of 999 (by decide +kernel) rfl, ⟨by decide +kernel, by decide +kernel⟩, by decide +kernel, by decide⟩
theorem i_X7_reads : Cond.instanceMethod yX7_reads ∈ lw_ok := lw_ok_of 997 (by decide +kernel) rfl
theorem v_X7_reads : Cond.selects yX7_reads.cls yX7_reads yX7_reads ∈ lw_ok := lw_ok_of 998 (by decide +kernel) rfl
abbrev M_X7_alikeDays : zM := (yX7_alikeDays, cX7_alikeDays, 6, (some .int))
theorem W_X7_alikeDays : zW M_X7_alikeDays 2 := ⟨lw_ok_of 9 (by decide +kernel) rfl, lw_ok_of 1019 (by decide +kernel) rfl, ⟨by decide +kernel, by decide +kernel⟩, by decide +kernel, by decide⟩
theorem i_X7_alikeDays : Cond.instanceMethod yX7_alikeDays ∈ lw_ok := lw_ok_of 1018 (by decide +kernel) rfl
theorem v_X7_alikeDays : Cond.selects yX7_alikeDays.cls yX7_alikeDays yX7_alikeDays ∈ lw_ok := lw_ok_sel 27 (by decide +kernel) rfl
abbrev M_X7_daysOf : zM := (yX7_daysOf, cX7_daysOf, 2, (some .int))
theorem W_X7_daysOf : zW M_X7_daysOf 1 := ⟨lw_ok_of 9 (by decide +kernel) rfl, lw_ok_of 1015 (by decide +kernel) rfl, ⟨by decide +kernel, by decide +kernel⟩, by decide +kernel, by decide⟩
theorem i_X7_daysOf : Cond.instanceMethod yX7_daysOf ∈ lw_ok := lw_ok_of 1013 (by decide +kernel) rfl
theorem v_X7_daysOf : Cond.selects yX7_daysOf.cls yX7_daysOf yX7_daysOf ∈ lw_ok := lw_ok_of 1014 (by decide +kernel) rfl
abbrev M_X7_alike : zM := (yX7_alike, cX7_alike, 3, (some .int))
theorem W_X7_alike : zW M_X7_alike 2 := ⟨lw_ok_of 9 (by decide +kernel) rfl, lw_ok_of 1034 (by decide +kernel) rfl, ⟨by decide +kernel, by decide +kernel⟩, by decide +kernel, by decide⟩
theorem i_X7_alike : Cond.instanceMethod yX7_alike ∈ lw_ok := lw_ok_of 1032 (by decide +kernel) rfl
theorem v_X7_alike : Cond.selects yX7_alike.cls yX7_alike yX7_alike ∈ lw_ok := lw_ok_of 1033 (by decide +kernel) rfl
abbrev M_X7_twin : zM := (yX7_twin, cX7_twin, 3, (some .int))
theorem W_X7_twin : zW M_X7_twin 1 := ⟨lw_ok_of 9 (by decide +kernel) rfl, lw_ok_of 1038 (by decide +kernel) rfl, ⟨by decide +kernel, by decide +kernel⟩, by decide +kernel, by decide⟩
theorem i_X7_twin : Cond.instanceMethod yX7_twin ∈ lw_ok := lw_ok_of 1036 (by decide +kernel) rfl
theorem v_X7_twin : Cond.selects yX7_twin.cls yX7_twin yX7_twin ∈ lw_ok := lw_ok_of 1037 (by decide +kernel) rfl
abbrev M_X7_outcomes : zM := (yX7_outcomes, cX7_outcomes, 5, (some .int))
theorem W_X7_outcomes : zW M_X7_outcomes 1 := ⟨lw_ok_of 9 (by decide +kernel) rfl, lw_ok_of 1042 (by decide +kernel) rfl, ⟨by decide +kernel, by decide +kernel⟩, by decide +kernel, by decide⟩
theorem i_X7_outcomes : Cond.instanceMethod yX7_outcomes ∈ lw_ok := lw_ok_of 1040 (by decide +kernel) rfl
theorem v_X7_outcomes : Cond.selects yX7_outcomes.cls yX7_outcomes yX7_outcomes ∈ lw_ok := lw_ok_of 1041 (by decide +kernel) rfl
abbrev M_X7_likes : zM := (yX7_likes, cX7_likes, 3, (some .int))
theorem W_X7_likes : zW M_X7_likes 2 := ⟨lw_ok_of 9 (by decide +kernel) rfl, lw_ok_of 1058 (by decide +kernel) rfl, ⟨by decide +kernel, by decide +kernel⟩, by decide +kernel, by decide⟩
theorem i_X7_likes : Cond.instanceMethod yX7_likes ∈ lw_ok := lw_ok_of 1056 (by decide +kernel) rfl
theorem v_X7_likes : Cond.selects yX7_likes.cls yX7_likes yX7_likes ∈ lw_ok := lw_ok_of 1057 (by decide +kernel) rfl
abbrev M_X7_findsLikes : zM := (yX7_findsLikes, cX7_findsLikes, 3, none)
theorem W_X7_findsLikes : zW M_X7_findsLikes 0 := ⟨lw_ok_of 9 (by decide +kernel) rfl, lw_ok_of 1066 (by decide +kernel) rfl, ⟨by decide +kernel, by decide +kernel⟩, by decide +kernel, by decide⟩
theorem i_X7_findsLikes : Cond.instanceMethod yX7_findsLikes ∈ lw_ok := lw_ok_of 1065 (by decide +kernel) rfl
theorem v_X7_findsLikes : Cond.selects yX7_findsLikes.cls yX7_findsLikes yX7_findsLikes ∈ lw_ok := lw_ok_sel 33 (by decide +kernel) rfl
abbrev M_X7_areApart : zM := (yX7_areApart, cX7_areApart, 6, (some .boolean))
theorem W_X7_areApart : zW M_X7_areApart 3 := ⟨lw_ok_of 9 (by decide +kernel) rfl, lw_ok_of 1074 (by decide +kernel) rfl, ⟨by decide +kernel, by decide +kernel⟩, by decide +kernel, by decide⟩
theorem i_X7_areApart : Cond.instanceMethod yX7_areApart ∈ lw_ok := lw_ok_of 1073 (by decide +kernel) rfl
theorem v_X7_areApart : Cond.selects yX7_areApart.cls yX7_areApart yX7_areApart ∈ lw_ok := lw_ok_sel 35 (by decide +kernel) rfl
abbrev M_X7_doesAll : zM := (yX7_doesAll, cX7_doesAll, 7, (some .boolean))
theorem W_X7_doesAll : zW M_X7_doesAll 2 := ⟨lw_ok_of 9 (by decide +kernel) rfl, lw_ok_of 1070 (by decide +kernel) rfl, ⟨by decide +kernel, by decide +kernel⟩, by decide +kernel, by decide⟩
theorem i_X7_doesAll : Cond.instanceMethod yX7_doesAll ∈ lw_ok := lw_ok_of 1069 (by decide +kernel) rfl
theorem v_X7_doesAll : Cond.selects yX7_doesAll.cls yX7_doesAll yX7_doesAll ∈ lw_ok := lw_ok_sel 34 (by decide +kernel) rfl
abbrev M_X7_fewestDays : zM := (yX7_fewestDays, cX7_fewestDays, 5, (some .int))
theorem W_X7_fewestDays : zW M_X7_fewestDays 2 := ⟨lw_ok_of 9 (by decide +kernel) rfl, lw_ok_of 1062 (by decide +kernel) rfl, ⟨by decide +kernel, by decide +kernel⟩, by decide +kernel, by decide⟩
theorem i_X7_fewestDays : Cond.instanceMethod yX7_fewestDays ∈ lw_ok := lw_ok_of 1060 (by decide +kernel) rfl
theorem v_X7_fewestDays : Cond.selects yX7_fewestDays.cls yX7_fewestDays yX7_fewestDays ∈ lw_ok := lw_ok_of 1061 (by decide +kernel) rfl
abbrev M_X7_isTold : zM := (yX7_isTold, cX7_isTold, 3, (some .boolean))
theorem W_X7_isTold : zW M_X7_isTold 2 := ⟨lw_ok_of 9 (by decide +kernel) rfl, lw_ok_of 1086 (by decide +kernel) rfl, ⟨by decide +kernel, by decide +kernel⟩, by decide +kernel, by decide⟩
theorem i_X7_isTold : Cond.instanceMethod yX7_isTold ∈ lw_ok := lw_ok_of 1085 (by decide +kernel) rfl
theorem v_X7_isTold : Cond.selects yX7_isTold.cls yX7_isTold yX7_isTold ∈ lw_ok := lw_ok_sel 37 (by decide +kernel) rfl
abbrev M_X7_wantedSet : zM := (yX7_wantedSet, cX7_wantedSet, 6, (some .int))
theorem W_X7_wantedSet : zW M_X7_wantedSet 2 := ⟨lw_ok_of 9 (by decide +kernel) rfl, lw_ok_of 1082 (by decide +kernel) rfl, ⟨by decide +kernel, by decide +kernel⟩, by decide +kernel, by decide⟩
theorem i_X7_wantedSet : Cond.instanceMethod yX7_wantedSet ∈ lw_ok := lw_ok_of 1081 (by decide +kernel) rfl
theorem v_X7_wantedSet : Cond.selects yX7_wantedSet.cls yX7_wantedSet yX7_wantedSet ∈ lw_ok := lw_ok_sel 36 (by decide +kernel) rfl
abbrev M_X7_wanted : zM := (yX7_wanted, cX7_wanted, 5, (some .int))
theorem W_X7_wanted : zW M_X7_wanted 3 := ⟨lw_ok_of 9 (by decide +kernel) rfl, lw_ok_of 1078 (by decide +kernel) rfl, ⟨by decide +kernel, by decide +kernel⟩, by decide +kernel, by decide⟩
theorem i_X7_wanted : Cond.instanceMethod yX7_wanted ∈ lw_ok := lw_ok_of 1076 (by decide +kernel) rfl
theorem v_X7_wanted : Cond.selects yX7_wanted.cls yX7_wanted yX7_wanted ∈ lw_ok := lw_ok_of 1077 (by decide +kernel) rfl
abbrev M_X7_floatBits : zM := (yX7_floatBits, cX7_floatBits, 11, (some .int))
theorem W_X7_floatBits : zW M_X7_floatBits 2 := ⟨lw_ok_of 9 (by decide +kernel) rfl, lw_ok_of 1093 (by decide +kernel) rfl, ⟨by decide +kernel, by decide +kernel⟩, by decide +kernel, by decide⟩
theorem s_X7_floatBits : Cond.static yX7_floatBits ∈ lw_ok := lw_ok_of 1092 (by decide +kernel) rfl
abbrev M_X7_share : zM := (yX7_share, cX7_share, 4, (some .int))
theorem W_X7_share : zW M_X7_share 1 := ⟨lw_ok_of 9 (by decide +kernel) rfl, lw_ok_of 1090 (by decide +kernel) rfl, ⟨by decide +kernel, by decide +kernel⟩, by decide +kernel, by decide⟩
theorem i_X7_share : Cond.instanceMethod yX7_share ∈ lw_ok := lw_ok_of 1088 (by decide +kernel) rfl
theorem v_X7_share : Cond.selects yX7_share.cls yX7_share yX7_share ∈ lw_ok := lw_ok_of 1089 (by decide +kernel) rfl
abbrev M_X7_plant : zM := (yX7_plant, cX7_plant, 2, (some .int))
theorem W_X7_plant : zW M_X7_plant 1 := ⟨lw_ok_of 9 (by decide +kernel) rfl, lw_ok_of 1099 (by decide +kernel) rfl, ⟨by decide +kernel, by decide +kernel⟩, by decide +kernel, by decide⟩
theorem i_X7_plant : Cond.instanceMethod yX7_plant ∈ lw_ok := lw_ok_of 1097 (by decide +kernel) rfl
theorem v_X7_plant : Cond.selects yX7_plant.cls yX7_plant yX7_plant ∈ lw_ok := lw_ok_of 1098 (by decide +kernel) rfl
abbrev M_X7_test : zM := (yX7_test, cX7_test, 1, (some .int))
theorem W_X7_test : zW M_X7_test 0 := ⟨lw_ok_of 9 (by decide +kernel) rfl, lw_ok_of 1103 (by decide +kernel) rfl, ⟨by decide +kernel, by decide +kernel⟩, by decide +kernel, by decide⟩
theorem i_X7_test : Cond.instanceMethod yX7_test ∈ lw_ok := lw_ok_of 1101 (by decide +kernel) rfl
theorem v_X7_test : Cond.selects yX7_test.cls yX7_test yX7_test ∈ lw_ok := lw_ok_of 1102 (by decide +kernel) rfl
abbrev M_X7_vouch : zM := (yX7_vouch, cX7_vouch, 2, (some .int))
theorem W_X7_vouch : zW M_X7_vouch 1 := ⟨lw_ok_of 9 (by decide +kernel) rfl, lw_ok_of 1107 (by decide +kernel) rfl, ⟨by decide +kernel, by decide +kernel⟩, by decide +kernel, by decide⟩
theorem i_X7_vouch : Cond.instanceMethod yX7_vouch ∈ lw_ok := lw_ok_of 1105 (by decide +kernel) rfl
theorem v_X7_vouch : Cond.selects yX7_vouch.cls yX7_vouch yX7_vouch ∈ lw_ok := lw_ok_of 1106 (by decide +kernel) rfl
abbrev M_X7_vouchers : zM := (yX7_vouchers, cX7_vouchers, 3, (some .int))
theorem W_X7_vouchers : zW M_X7_vouchers 1 := ⟨lw_ok_of 9 (by decide +kernel) rfl, lw_ok_of 1111 (by decide +kernel) rfl, ⟨by decide +kernel, by decide +kernel⟩, by decide +kernel, by decide⟩
theorem i_X7_vouchers : Cond.instanceMethod yX7_vouchers ∈ lw_ok := lw_ok_of 1109 (by decide +kernel) rfl
theorem v_X7_vouchers : Cond.selects yX7_vouchers.cls yX7_vouchers yX7_vouchers ∈ lw_ok := lw_ok_of 1110 (by decide +kernel) rfl
abbrev M_X7_pass : zM := (yX7_pass, cX7_pass, 2, (some .int))
theorem W_X7_pass : zW M_X7_pass 1 := ⟨lw_ok_of 9 (by decide +kernel) rfl, lw_ok_of 1115 (by decide +kernel) rfl, ⟨by decide +kernel, by decide +kernel⟩, by decide +kernel, by decide⟩
theorem i_X7_pass : Cond.instanceMethod yX7_pass ∈ lw_ok := lw_ok_of 1113 (by decide +kernel) rfl
theorem v_X7_pass : Cond.selects yX7_pass.cls yX7_pass yX7_pass ∈ lw_ok := lw_ok_of 1114 (by decide +kernel) rfl
abbrev M_X7_suspects : zM := (yX7_suspects, cX7_suspects, 1, (some .int))
theorem W_X7_suspects : zW M_X7_suspects 0 := ⟨lw_ok_of 9 (by decide +kernel) rfl, lw_ok_of 1119 (by decide +kernel) rfl, ⟨by decide +kernel, by decide +kernel⟩, by decide +kernel, by decide⟩
theorem i_X7_suspects : Cond.instanceMethod yX7_suspects ∈ lw_ok := lw_ok_of 1117 (by decide +kernel) rfl
theorem v_X7_suspects : Cond.selects yX7_suspects.cls yX7_suspects yX7_suspects ∈ lw_ok := lw_ok_of 1118 (by decide +kernel) rfl
abbrev M_X7_worstOn : zM := (yX7_worstOn, cX7_worstOn, 5, (some .int))
theorem W_X7_worstOn : zW M_X7_worstOn 1 := ⟨lw_ok_of 9 (by decide +kernel) rfl, lw_ok_of 1127 (by decide +kernel) rfl, ⟨by decide +kernel, by decide +kernel⟩, by decide +kernel, by decide⟩
theorem i_X7_worstOn : Cond.instanceMethod yX7_worstOn ∈ lw_ok := lw_ok_of 1126 (by decide +kernel) rfl
theorem v_X7_worstOn : Cond.selects yX7_worstOn.cls yX7_worstOn yX7_worstOn ∈ lw_ok := lw_ok_sel 38 (by decide +kernel) rfl
abbrev M_X7_bestDay : zM := (yX7_bestDay, cX7_bestDay, 7, (some .int))
theorem W_X7_bestDay : zW M_X7_bestDay 1 := ⟨lw_ok_of 9 (by decide +kernel) rfl, lw_ok_of 1123 (by decide +kernel) rfl, ⟨by decide +kernel, by decide +kernel⟩, by decide +kernel, by decide⟩
theorem i_X7_bestDay : Cond.instanceMethod yX7_bestDay ∈ lw_ok := lw_ok_of 1121 (by decide +kernel) rfl
theorem v_X7_bestDay : Cond.selects yX7_bestDay.cls yX7_bestDay yX7_bestDay ∈ lw_ok := lw_ok_of 1122 (by decide +kernel) rfl
abbrev M_X7_inDrawer : zM := (yX7_inDrawer, cX7_inDrawer, 4, (some .int))
theorem W_X7_inDrawer : zW M_X7_inDrawer 1 := ⟨lw_ok_of 9 (by decide +kernel) rfl, lw_ok_of 1135 (by decide +kernel) rfl, ⟨by decide +kernel, by decide +kernel⟩, by decide +kernel, by decide⟩
theorem i_X7_inDrawer : Cond.instanceMethod yX7_inDrawer ∈ lw_ok := lw_ok_of 1134 (by decide +kernel) rfl
theorem v_X7_inDrawer : Cond.selects yX7_inDrawer.cls yX7_inDrawer yX7_inDrawer ∈ lw_ok := lw_ok_sel 39 (by decide +kernel) rfl
abbrev M_X7_file : zM := (yX7_file, cX7_file, 3, (some .int))
theorem W_X7_file : zW M_X7_file 2 := ⟨lw_ok_of 9 (by decide +kernel) rfl, lw_ok_of 1131 (by decide +kernel) rfl, ⟨by decide +kernel, by decide +kernel⟩, by decide +kernel, by decide⟩
theorem i_X7_file : Cond.instanceMethod yX7_file ∈ lw_ok := lw_ok_of 1129 (by decide +kernel) rfl
theorem v_X7_file : Cond.selects yX7_file.cls yX7_file yX7_file ∈ lw_ok := lw_ok_of 1130 (by decide +kernel) rfl
abbrev M_X7_count : zM := (yX7_count, cX7_count, 2, (some .int))
theorem W_X7_count : zW M_X7_count 1 := ⟨lw_ok_of 9 (by decide +kernel) rfl, lw_ok_of 1139 (by decide +kernel) rfl, ⟨by decide +kernel, by decide +kernel⟩, by decide +kernel, by decide⟩
theorem i_X7_count : Cond.instanceMethod yX7_count ∈ lw_ok := lw_ok_of 1137 (by decide +kernel) rfl
theorem v_X7_count : Cond.selects yX7_count.cls yX7_count yX7_count ∈ lw_ok := lw_ok_of 1138 (by decide +kernel) rfl
abbrev M_X7_type : zM := (yX7_type, cX7_type, 2, (some .int))
theorem W_X7_type : zW M_X7_type 1 := ⟨lw_ok_of 9 (by decide +kernel) rfl, lw_ok_of 1143 (by decide +kernel) rfl, ⟨by decide +kernel, by decide +kernel⟩, by decide +kernel, by decide⟩
theorem i_X7_type : Cond.instanceMethod yX7_type ∈ lw_ok := lw_ok_of 1141 (by decide +kernel) rfl
theorem v_X7_type : Cond.selects yX7_type.cls yX7_type yX7_type ∈ lw_ok := lw_ok_of 1142 (by decide +kernel) rfl
abbrev M_X7_clearText : zM := (yX7_clearText, cX7_clearText, 2, (some .int))
theorem W_X7_clearText : zW M_X7_clearText 0 := ⟨lw_ok_of 9 (by decide +kernel) rfl, lw_ok_of 1147 (by decide +kernel) rfl, ⟨by decide +kernel, by decide +kernel⟩, by decide +kernel, by decide⟩
theorem i_X7_clearText : Cond.instanceMethod yX7_clearText ∈ lw_ok := lw_ok_of 1145 (by decide +kernel) rfl
theorem v_X7_clearText : Cond.selects yX7_clearText.cls yX7_clearText yX7_clearText ∈ lw_ok := lw_ok_of 1146 (by decide +kernel) rfl
abbrev M_X7_isHere : zM := (yX7_isHere, cX7_isHere, 3, (some .boolean))
theorem W_X7_isHere : zW M_X7_isHere 2 := ⟨lw_ok_of 9 (by decide +kernel) rfl, lw_ok_of 1167 (by decide +kernel) rfl, ⟨by decide +kernel, by decide +kernel⟩, by decide +kernel, by decide⟩
theorem i_X7_isHere : Cond.instanceMethod yX7_isHere ∈ lw_ok := lw_ok_of 1166 (by decide +kernel) rfl
theorem v_X7_isHere : Cond.selects yX7_isHere.cls yX7_isHere yX7_isHere ∈ lw_ok := lw_ok_sel 43 (by decide +kernel) rfl
abbrev M_X7_passesSpaces : zM := (yX7_passesSpaces, cX7_passesSpaces, 1, none)
theorem W_X7_passesSpaces : zW M_X7_passesSpaces 0 := ⟨lw_ok_of 9 (by decide +kernel) rfl, lw_ok_of 1163 (by decide +kernel) rfl, ⟨by decide +kernel, by decide +kernel⟩, by decide +kernel, by decide⟩
theorem i_X7_passesSpaces : Cond.instanceMethod yX7_passesSpaces ∈ lw_ok := lw_ok_of 1162 (by decide +kernel) rfl
theorem v_X7_passesSpaces : Cond.selects yX7_passesSpaces.cls yX7_passesSpaces yX7_passesSpaces ∈ lw_ok := lw_ok_sel 42 (by decide +kernel) rfl
abbrev M_X7_isEnded : zM := (yX7_isEnded, cX7_isEnded, 1, (some .boolean))
theorem W_X7_isEnded : zW M_X7_isEnded 0 := ⟨lw_ok_of 9 (by decide +kernel) rfl, lw_ok_of 1183 (by decide +kernel) rfl, ⟨by decide +kernel, by decide +kernel⟩, by decide +kernel, by decide⟩
theorem i_X7_isEnded : Cond.instanceMethod yX7_isEnded ∈ lw_ok := lw_ok_of 1182 (by decide +kernel) rfl
theorem v_X7_isEnded : Cond.selects yX7_isEnded.cls yX7_isEnded yX7_isEnded ∈ lw_ok := lw_ok_sel 47 (by decide +kernel) rfl
abbrev M_X7_readsWord : zM := (yX7_readsWord, cX7_readsWord, 3, (some .int))
theorem W_X7_readsWord : zW M_X7_readsWord 0 := ⟨lw_ok_of 9 (by decide +kernel) rfl, lw_ok_of 1179 (by decide +kernel) rfl, ⟨by decide +kernel, by decide +kernel⟩, by decide +kernel, by decide⟩
theorem i_X7_readsWord : Cond.instanceMethod yX7_readsWord ∈ lw_ok := lw_ok_of 1178 (by decide +kernel) rfl
theorem v_X7_readsWord : Cond.selects yX7_readsWord.cls yX7_readsWord yX7_readsWord ∈ lw_ok := lw_ok_sel 46 (by decide +kernel) rfl
abbrev M_X7_readsNumber : zM := (yX7_readsNumber, cX7_readsNumber, 3, (some .int))
theorem W_X7_readsNumber : zW M_X7_readsNumber 0 := ⟨lw_ok_of 9 (by decide +kernel) rfl, lw_ok_of 1187 (by decide +kernel) rfl, ⟨by decide +kernel, by decide +kernel⟩, by decide +kernel, by decide⟩
theorem i_X7_readsNumber : Cond.instanceMethod yX7_readsNumber ∈ lw_ok := lw_ok_of 1186 (by decide +kernel) rfl
theorem v_X7_readsNumber : Cond.selects yX7_readsNumber.cls yX7_readsNumber yX7_readsNumber ∈ lw_ok := lw_ok_sel 48 (by decide +kernel) rfl
abbrev M_X7_readsCommand : zM := (yX7_readsCommand, cX7_readsCommand, 2, (some .boolean))
theorem W_X7_readsCommand : zW M_X7_readsCommand 0 := ⟨lw_ok_of 9 (by decide +kernel) rfl, lw_ok_of 1175 (by decide +kernel) rfl, ⟨by decide +kernel, by decide +kernel⟩, by decide +kernel, by decide⟩
theorem i_X7_readsCommand : Cond.instanceMethod yX7_readsCommand ∈ lw_ok := lw_ok_of 1174 (by decide +kernel) rfl
theorem v_X7_readsCommand : Cond.selects yX7_readsCommand.cls yX7_readsCommand yX7_readsCommand ∈ lw_ok := lw_ok_sel 45 (by decide +kernel) rfl
abbrev M_X7_codeOf : zM := (yX7_codeOf, cX7_codeOf, 6, (some .int))
theorem W_X7_codeOf : zW M_X7_codeOf 5 := ⟨lw_ok_of 9 (by decide +kernel) rfl, lw_ok_of 1194 (by decide +kernel) rfl, ⟨by decide +kernel, by decide +kernel⟩, by decide +kernel, by decide⟩
theorem s_X7_codeOf : Cond.static yX7_codeOf ∈ lw_ok := lw_ok_of 1193 (by decide +kernel) rfl
abbrev M_X7_commandKind : zM := (yX7_commandKind, cX7_commandKind, 1, (some .int))
theorem W_X7_commandKind : zW M_X7_commandKind 0 := ⟨lw_ok_of 9 (by decide +kernel) rfl, lw_ok_of 1191 (by decide +kernel) rfl, ⟨by decide +kernel, by decide +kernel⟩, by decide +kernel, by decide⟩
theorem i_X7_commandKind : Cond.instanceMethod yX7_commandKind ∈ lw_ok := lw_ok_of 1190 (by decide +kernel) rfl
theorem v_X7_commandKind : Cond.selects yX7_commandKind.cls yX7_commandKind yX7_commandKind ∈ lw_ok := lw_ok_sel 49 (by decide +kernel) rfl
abbrev M_X7_areUnlike : zM := (yX7_areUnlike, cX7_areUnlike, 4, (some .boolean))
theorem W_X7_areUnlike : zW M_X7_areUnlike 1 := ⟨lw_ok_of 9 (by decide +kernel) rfl, lw_ok_of 1202 (by decide +kernel) rfl, ⟨by decide +kernel, by decide +kernel⟩, by decide +kernel, by decide⟩
theorem i_X7_areUnlike : Cond.instanceMethod yX7_areUnlike ∈ lw_ok := lw_ok_of 1201 (by decide +kernel) rfl
theorem v_X7_areUnlike : Cond.selects yX7_areUnlike.cls yX7_areUnlike yX7_areUnlike ∈ lw_ok := lw_ok_sel 51 (by decide +kernel) rfl
abbrev M_X7_isOfForm : zM := (yX7_isOfForm, cX7_isOfForm, 2, (some .boolean))
theorem W_X7_isOfForm : zW M_X7_isOfForm 1 := ⟨lw_ok_of 9 (by decide +kernel) rfl, lw_ok_of 1198 (by decide +kernel) rfl, ⟨by decide +kernel, by decide +kernel⟩, by decide +kernel, by decide⟩
theorem i_X7_isOfForm : Cond.instanceMethod yX7_isOfForm ∈ lw_ok := lw_ok_of 1197 (by decide +kernel) rfl
theorem v_X7_isOfForm : Cond.selects yX7_isOfForm.cls yX7_isOfForm yX7_isOfForm ∈ lw_ok := lw_ok_sel 50 (by decide +kernel) rfl
abbrev M_X7_areThere : zM := (yX7_areThere, cX7_areThere, 5, (some .boolean))
theorem W_X7_areThere : zW M_X7_areThere 1 := ⟨lw_ok_of 9 (by decide +kernel) rfl, lw_ok_of 1206 (by decide +kernel) rfl, ⟨by decide +kernel, by decide +kernel⟩, by decide +kernel, by decide⟩
theorem i_X7_areThere : Cond.instanceMethod yX7_areThere ∈ lw_ok := lw_ok_of 1205 (by decide +kernel) rfl
theorem v_X7_areThere : Cond.selects yX7_areThere.cls yX7_areThere yX7_areThere ∈ lw_ok := lw_ok_sel 52 (by decide +kernel) rfl
abbrev M_X7_numberSet : zM := (yX7_numberSet, cX7_numberSet, 4, (some .int))
theorem W_X7_numberSet : zW M_X7_numberSet 1 := ⟨lw_ok_of 9 (by decide +kernel) rfl, lw_ok_of 1214 (by decide +kernel) rfl, ⟨by decide +kernel, by decide +kernel⟩, by decide +kernel, by decide⟩
theorem i_X7_numberSet : Cond.instanceMethod yX7_numberSet ∈ lw_ok := lw_ok_of 1213 (by decide +kernel) rfl
theorem v_X7_numberSet : Cond.selects yX7_numberSet.cls yX7_numberSet yX7_numberSet ∈ lw_ok := lw_ok_sel 54 (by decide +kernel) rfl
abbrev M_X7_does : zM := (yX7_does, cX7_does, 5, (some .int))
theorem W_X7_does : zW M_X7_does 1 := ⟨lw_ok_of 9 (by decide +kernel) rfl, lw_ok_of 1210 (by decide +kernel) rfl, ⟨by decide +kernel, by decide +kernel⟩, by decide +kernel, by decide⟩
theorem i_X7_does : Cond.instanceMethod yX7_does ∈ lw_ok := lw_ok_of 1209 (by decide +kernel) rfl
theorem v_X7_does : Cond.selects yX7_does.cls yX7_does yX7_does ∈ lw_ok := lw_ok_sel 53 (by decide +kernel) rfl
abbrev M_X7_reasonOf : zM := (yX7_reasonOf, cX7_reasonOf, 2, (some .int))
theorem W_X7_reasonOf : zW M_X7_reasonOf 0 := ⟨lw_ok_of 9 (by decide +kernel) rfl, lw_ok_of 1171 (by decide +kernel) rfl, ⟨by decide +kernel, by decide +kernel⟩, by decide +kernel, by decide⟩
theorem i_X7_reasonOf : Cond.instanceMethod yX7_reasonOf ∈ lw_ok := lw_ok_of 1170 (by decide +kernel) rfl
theorem v_X7_reasonOf : Cond.selects yX7_reasonOf.cls yX7_reasonOf yX7_reasonOf ∈ lw_ok := lw_ok_sel 44 (by decide +kernel) rfl
abbrev M_X7_goesThrough : zM := (yX7_goesThrough, cX7_goesThrough, 2, none)
theorem W_X7_goesThrough : zW M_X7_goesThrough 0 := ⟨lw_ok_of 9 (by decide +kernel) rfl, lw_ok_of 1159 (by decide +kernel) rfl, ⟨by decide +kernel, by decide +kernel⟩, by decide +kernel, by decide⟩
theorem i_X7_goesThrough : Cond.instanceMethod yX7_goesThrough ∈ lw_ok := lw_ok_of 1158 (by decide +kernel) rfl
theorem v_X7_goesThrough : Cond.selects yX7_goesThrough.cls yX7_goesThrough yX7_goesThrough ∈ lw_ok := lw_ok_sel 41 (by decide +kernel) rfl
abbrev M_X7_triesAll : zM := (yX7_triesAll, cX7_triesAll, 2, none)
theorem W_X7_triesAll : zW M_X7_triesAll 0 := ⟨lw_ok_of 9 (by decide +kernel) rfl, lw_ok_of 1155 (by decide +kernel) rfl, ⟨by decide +kernel, by decide +kernel⟩, by decide +kernel, by decide⟩
theorem i_X7_triesAll : Cond.instanceMethod yX7_triesAll ∈ lw_ok := lw_ok_of 1154 (by decide +kernel) rfl
theorem v_X7_triesAll : Cond.selects yX7_triesAll.cls yX7_triesAll yX7_triesAll ∈ lw_ok := lw_ok_sel 40 (by decide +kernel) rfl
abbrev M_X7_place : zM := (yX7_place, cX7_place, 2, (some .int))
theorem W_X7_place : zW M_X7_place 1 := ⟨lw_ok_of 9 (by decide +kernel) rfl, lw_ok_of 1151 (by decide +kernel) rfl, ⟨by decide +kernel, by decide +kernel⟩, by decide +kernel, by decide⟩
theorem i_X7_place : Cond.instanceMethod yX7_place ∈ lw_ok := lw_ok_of 1149 (by decide +kernel) rfl
theorem v_X7_place : Cond.selects yX7_place.cls yX7_place yX7_place ∈ lw_ok := lw_ok_of 1150 (by decide +kernel) rfl
abbrev M_X7_run : zM := (yX7_run, cX7_run, 1, (some .int))
theorem W_X7_run : zW M_X7_run 0 := ⟨lw_ok_of 9 (by decide +kernel) rfl, lw_ok_of 1218 (by decide +kernel) rfl, ⟨by decide +kernel, by decide +kernel⟩, by decide +kernel, by decide⟩
theorem i_X7_run : Cond.instanceMethod yX7_run ∈ lw_ok := lw_ok_of 1216 (by decide +kernel) rfl
theorem v_X7_run : Cond.selects yX7_run.cls yX7_run yX7_run ∈ lw_ok := lw_ok_of 1217 (by decide +kernel) rfl
abbrev M_J6_bitCount_0f7a4 : zM := (yJ6_bitCount_0f7a4, cJ6_bitCount_0f7a4, 1, (some .int))
theorem W_J6_bitCount_0f7a4 : zW M_J6_bitCount_0f7a4 1 := ⟨lw_ok_of 10 (by decide +kernel) rfl, lw_ok_of 275 (by decide +kernel) rfl, ⟨by decide +kernel, by decide +kernel⟩, by decide +kernel, by decide⟩
theorem s_J6_bitCount_0f7a4 : Cond.static yJ6_bitCount_0f7a4 ∈ lw_ok := lw_ok_of 274 (by decide +kernel) rfl
abbrev M_J9_max_7cf53 : zM := (yJ9_max_7cf53, cJ9_max_7cf53, 2, (some .int))
theorem W_J9_max_7cf53 : zW M_J9_max_7cf53 2 := ⟨lw_ok_of 12 (by decide +kernel) rfl, lw_ok_of 614 (by decide +kernel) rfl, ⟨by decide +kernel, by decide +kernel⟩, by decide +kernel, by decide⟩
theorem s_J9_max_7cf53 : Cond.static yJ9_max_7cf53 ∈ lw_ok := lw_ok_of 613 (by decide +kernel) rfl
abbrev M_J9_min_7cf53 : zM := (yJ9_min_7cf53, cJ9_min_7cf53, 2, (some .int))
theorem W_J9_min_7cf53 : zW M_J9_min_7cf53 2 := ⟨lw_ok_of 12 (by decide +kernel) rfl, lw_ok_of 791 (by decide +kernel) rfl, ⟨by decide +kernel, by decide +kernel⟩, by decide +kernel, by decide⟩
theorem s_J9_min_7cf53 : Cond.static yJ9_min_7cf53 ∈ lw_ok := lw_ok_of 790 (by decide +kernel) rfl
abbrev M_J0_length_8abf5 : zM := (yJ0_length_8abf5, cJ0_length_8abf5, 1, (some .int))
theorem W_J0_length_8abf5 : zW M_J0_length_8abf5 0 := ⟨lw_ok_of 13 (by decide +kernel) rfl, lw_ok_of 702 (by decide +kernel) rfl, ⟨by decide +kernel, by decide +kernel⟩, by decide +kernel, by decide⟩
theorem i_J0_length_8abf5 : Cond.instanceMethod yJ0_length_8abf5 ∈ lw_ok := lw_ok_of 700 (by decide +kernel) rfl
theorem v_J0_length_8abf5 : Cond.selects yJ0_length_8abf5.cls yJ0_length_8abf5 yJ0_length_8abf5 ∈ lw_ok := lw_ok_of 701 (by decide +kernel) rfl
abbrev M_J0_charAt_5068e : zM := (yJ0_charAt_5068e, cJ0_charAt_5068e, 2, (some .char))
theorem W_J0_charAt_5068e : zW M_J0_charAt_5068e 1 := ⟨lw_ok_of 13 (by decide +kernel) rfl, lw_ok_of 712 (by decide +kernel) rfl, ⟨by decide +kernel, by decide +kernel⟩, by decide +kernel, by decide⟩
theorem i_J0_charAt_5068e : Cond.instanceMethod yJ0_charAt_5068e ∈ lw_ok := lw_ok_of 710 (by decide +kernel) rfl
theorem v_J0_charAt_5068e : Cond.selects yJ0_charAt_5068e.cls yJ0_charAt_5068e yJ0_charAt_5068e ∈ lw_ok := lw_ok_of 711 (by decide +kernel) rfl
abbrev M_J0_coder_7d493 : zM := (yJ0_coder_7d493, cJ0_coder_7d493, 1, (some .byte))
theorem W_J0_coder_7d493 : zW M_J0_coder_7d493 0 := ⟨lw_ok_of 13 (by decide +kernel) rfl, lw_ok_of 706 (by decide +kernel) rfl, ⟨by decide +kernel, by decide +kernel⟩, by decide +kernel, by decide⟩
theorem i_J0_coder_7d493 : Cond.instanceMethod yJ0_coder_7d493 ∈ lw_ok := lw_ok_of 704 (by decide +kernel) rfl
theorem v_J0_coder_7d493 : Cond.selects yJ0_coder_7d493.cls yJ0_coder_7d493 yJ0_coder_7d493 ∈ lw_ok := lw_ok_of 705 (by decide +kernel) rfl
abbrev M_J0_isLatin1_aae02 : zM := (yJ0_isLatin1_aae02, cJ0_isLatin1_aae02, 1, (some .boolean))
theorem W_J0_isLatin1_aae02 : zW M_J0_isLatin1_aae02 0 := ⟨lw_ok_of 13 (by decide +kernel) rfl, lw_ok_of 716 (by decide +kernel) rfl, ⟨by decide +kernel, by decide +kernel⟩, by decide +kernel, by decide⟩
theorem i_J0_isLatin1_aae02 : Cond.instanceMethod yJ0_isLatin1_aae02 ∈ lw_ok := lw_ok_of 714 (by decide +kernel) rfl
theorem v_J0_isLatin1_aae02 : Cond.selects yJ0_isLatin1_aae02.cls yJ0_isLatin1_aae02 yJ0_isLatin1_aae02 ∈ lw_ok := lw_ok_of 715 (by decide +kernel) rfl
abbrev M_J0_checkIndex_df160 : zM := (yJ0_checkIndex_df160, cJ0_checkIndex_df160, 2, none)
theorem W_J0_checkIndex_df160 : zW M_J0_checkIndex_df160 2 := ⟨lw_ok_of 13 (by decide +kernel) rfl, lw_ok_of 722 (by decide +kernel) rfl, ⟨by decide +kernel, by decide +kernel⟩, by decide +kernel, by decide⟩
theorem s_J0_checkIndex_df160 : Cond.static yJ0_checkIndex_df160 ∈ lw_ok := lw_ok_of 721 (by decide +kernel) rfl
abbrev M_J1_charAt_3b067 : zM := (yJ1_charAt_3b067, cJ1_charAt_3b067, 2, (some .char))
theorem W_J1_charAt_3b067 : zW M_J1_charAt_3b067 2 := ⟨lw_ok_of 14 (by decide +kernel) rfl, lw_ok_of 719 (by decide +kernel) rfl, ⟨by decide +kernel, by decide +kernel⟩, by decide +kernel, by decide⟩
theorem s_J1_charAt_3b067 : Cond.static yJ1_charAt_3b067 ∈ lw_ok := lw_ok_of 718 (by decide +kernel) rfl
abbrev M_J2_getChar_3b067 : zM := (yJ2_getChar_3b067, cJ2_getChar_3b067, 2, (some .char))
theorem W_J2_getChar_3b067 : zW M_J2_getChar_3b067 2 := ⟨lw_ok_of 16 (by decide +kernel) rfl, lw_ok_of 740 (by decide +kernel) rfl, ⟨by decide +kernel, by decide +kernel⟩, by decide +kernel, by decide⟩
theorem s_J2_getChar_3b067 : Cond.static yJ2_getChar_3b067 ∈ lw_ok := lw_ok_of 739 (by decide +kernel) rfl
abbrev M_J2_length_9d52b : zM := (yJ2_length_9d52b, cJ2_length_9d52b, 1, (some .int))
theorem W_J2_length_9d52b : zW M_J2_length_9d52b 1 := ⟨lw_ok_of 16 (by decide +kernel) rfl, lw_ok_of 736 (by decide +kernel) rfl, ⟨by decide +kernel, by decide +kernel⟩, by decide +kernel, by decide⟩
theorem s_J2_length_9d52b : Cond.static yJ2_length_9d52b ∈ lw_ok := lw_ok_of 735 (by decide +kernel) rfl
abbrev M_J2_charAt_3b067 : zM := (yJ2_charAt_3b067, cJ2_charAt_3b067, 2, (some .char))
theorem W_J2_charAt_3b067 : zW M_J2_charAt_3b067 2 := ⟨lw_ok_of 16 (by decide +kernel) rfl, lw_ok_of 730 (by decide +kernel) rfl, ⟨by decide +kernel, by decide +kernel⟩, by decide +kernel, by decide⟩
theorem s_J2_charAt_3b067 : Cond.static yJ2_charAt_3b067 ∈ lw_ok := lw_ok_of 729 (by decide +kernel) rfl
abbrev M_J2_checkIndex_2214a : zM := (yJ2_checkIndex_2214a, cJ2_checkIndex_2214a, 2, none)
theorem W_J2_checkIndex_2214a : zW M_J2_checkIndex_2214a 2 := ⟨lw_ok_of 16 (by decide +kernel) rfl, lw_ok_of 733 (by decide +kernel) rfl, ⟨by decide +kernel, by decide +kernel⟩, by decide +kernel, by decide⟩
theorem s_J2_checkIndex_2214a : Cond.static yJ2_checkIndex_2214a ∈ lw_ok := lw_ok_of 732 (by decide +kernel) rfl
abbrev M_J7_fill_53178 : zM := (yJ7_fill_53178, cJ7_fill_53178, 4, none)
theorem W_J7_fill_53178 : zW M_J7_fill_53178 2 := ⟨lw_ok_of 5 (by decide +kernel) rfl, lw_ok_of 42 (by decide +kernel) rfl, ⟨by decide +kernel, by decide +kernel⟩, by decide +kernel, by decide⟩
theorem s_J7_fill_53178 : Cond.static yJ7_fill_53178 ∈ lw_ok := lw_ok_of 41 (by decide +kernel) rfl
abbrev M_J3_checkIndex_8e157 : zM := (yJ3_checkIndex_8e157, cJ3_checkIndex_8e157, 3, (some .int))
theorem W_J3_checkIndex_8e157 : zW M_J3_checkIndex_8e157 3 := ⟨lw_ok_of 15 (by decide +kernel) rfl, lw_ok_of 727 (by decide +kernel) rfl, ⟨by decide +kernel, by decide +kernel⟩, by decide +kernel, by decide⟩
theorem s_J3_checkIndex_8e157 : Cond.static yJ3_checkIndex_8e157 ∈ lw_ok := lw_ok_of 726 (by decide +kernel) rfl
theorem k_L_9 : Cond.methodLink RL 9 yX6_init ∈ lw_ok := lw_ok_of 19 (by decide +kernel) rfl
theorem k_X6_3 : Cond.methodLink RX6 3 objectInit ∈ lw_ok := lw_ok_of 22 (by decide +kernel) rfl
theorem k_X6_11 : Cond.methodLink RX6 11 yX1_init ∈ lw_ok := lw_ok_of 27 (by decide +kernel) rfl
theorem k_X1_3 : Cond.methodLink RX1 3 objectInit ∈ lw_ok := lw_ok_of 30 (by decide +kernel) rfl
theorem k_X1_19 : Cond.methodLink RX1 19 yX0_init ∈ lw_ok := lw_ok_of 36 (by decide +kernel) rfl
theorem k_X0_3 : Cond.methodLink RX0 3 objectInit ∈ lw_ok := lw_ok_of 39 (by decide +kernel) rfl
theorem k_X0_39 : Cond.methodLink RX0 39 yJ7_fill_53178 ∈ lw_ok := lw_ok_of 40 (by decide +kernel) rfl
theorem k_X1_20 : Cond.methodLink RX1 20 yX4_init ∈ lw_ok := lw_ok_of 106 (by decide +kernel) rfl
theorem k_X4_3 : Cond.methodLink RX4 3 objectInit ∈ lw_ok := lw_ok_of 109 (by decide +kernel) rfl
theorem k_X4_29 : Cond.methodLink RX4 29 yJ7_fill_53178 ∈ lw_ok := lw_ok_of 110 (by decide +kernel) rfl
theorem k_X3_3 : Cond.methodLink RX3 3 objectInit ∈ lw_ok := lw_ok_of 157 (by decide +kernel) rfl
theorem k_X3_11 : Cond.methodLink RX3 11 yX0_init ∈ lw_ok := lw_ok_of 159 (by decide +kernel) rfl
theorem k_X6_25 : Cond.methodLink RX6 25 yX0_init ∈ lw_ok := lw_ok_of 195 (by decide +kernel) rfl
theorem k_X6_28 : Cond.methodLink RX6 28 yX4_init ∈ lw_ok := lw_ok_of 197 (by decide +kernel) rfl
theorem k_X6_37 : Cond.methodLink RX6 37 yX2_init ∈ lw_ok := lw_ok_of 200 (by decide +kernel) rfl
theorem k_X2_3 : Cond.methodLink RX2 3 objectInit ∈ lw_ok := lw_ok_of 203 (by decide +kernel) rfl
theorem k_X2_30 : Cond.methodLink RX2 30 yX5_init ∈ lw_ok := lw_ok_of 209 (by decide +kernel) rfl
theorem k_X5_3 : Cond.methodLink RX5 3 objectInit ∈ lw_ok := lw_ok_of 212 (by decide +kernel) rfl
theorem k_L_13 : Cond.methodLink RL 13 yX6_net ∈ lw_ok := lw_ok_of 265 (by decide +kernel) rfl
theorem k_X6_46 : Cond.methodLink RX6 46 yX0_refusalOfNet ∈ lw_ok := lw_ok_of 269 (by decide +kernel) rfl
theorem k_X0_67 : Cond.methodLink RX0 67 yJ6_bitCount_0f7a4 ∈ lw_ok := lw_ok_of 273 (by decide +kernel) rfl
theorem q_J6_265 : Cond.constant RJ6 265 (1431655765) ∈ lw_ok := lw_ok_of 276 (by decide +kernel) rfl
theorem q_J6_266 : Cond.constant RJ6 266 (858993459) ∈ lw_ok := lw_ok_of 277 (by decide +kernel) rfl
theorem q_J6_267 : Cond.constant RJ6 267 (252645135) ∈ lw_ok := lw_ok_of 278 (by decide +kernel) rfl
theorem q_X0_73 : Cond.constant RX0 73 (-65536) ∈ lw_ok := lw_ok_of 279 (by decide +kernel) rfl
theorem q_X0_74 : Cond.constant RX0 74 (-1000001) ∈ lw_ok := lw_ok_of 280 (by decide +kernel) rfl
theorem q_X0_75 : Cond.constant RX0 75 (-1000002) ∈ lw_ok := lw_ok_of 281 (by decide +kernel) rfl
theorem q_X0_76 : Cond.constant RX0 76 (-1000003) ∈ lw_ok := lw_ok_of 282 (by decide +kernel) rfl
theorem k_X6_50 : Cond.methodLink RX6 50 yX1_keep ∈ lw_ok := lw_ok_of 283 (by decide +kernel) rfl
theorem k_X1_27 : Cond.methodLink RX1 27 yX1_dropOldest ∈ lw_ok := lw_ok_of 287 (by decide +kernel) rfl
theorem k_X1_30 : Cond.methodLink RX1 30 yX4_copyFrom ∈ lw_ok := lw_ok_of 291 (by decide +kernel) rfl
theorem k_X4_35 : Cond.methodLink RX4 35 yX0_copyFrom ∈ lw_ok := lw_ok_of 295 (by decide +kernel) rfl
theorem k_X0_45 : Cond.methodLink RX0 45 arraycopyName ∈ lw_ok := lw_ok_of 299 (by decide +kernel) rfl
theorem k_X4_41 : Cond.methodLink RX4 41 arraycopyName ∈ lw_ok := lw_ok_of 302 (by decide +kernel) rfl
theorem k_X6_54 : Cond.methodLink RX6 54 yX0_addNet ∈ lw_ok := lw_ok_of 303 (by decide +kernel) rfl
theorem k_L_18 : Cond.methodLink RL 18 yX6_chip ∈ lw_ok := lw_ok_of 310 (by decide +kernel) rfl
theorem k_X6_57 : Cond.methodLink RX6 57 yX0_refusalOfChip ∈ lw_ok := lw_ok_of 314 (by decide +kernel) rfl
theorem k_X6_61 : Cond.methodLink RX6 61 yX0_addChip ∈ lw_ok := lw_ok_of 321 (by decide +kernel) rfl
theorem k_L_23 : Cond.methodLink RL 23 yX6_fault ∈ lw_ok := lw_ok_of 325 (by decide +kernel) rfl
theorem k_X6_64 : Cond.methodLink RX6 64 yX0_refusalOfFault ∈ lw_ok := lw_ok_of 329 (by decide +kernel) rfl
theorem k_X0_85 : Cond.methodLink RX0 85 yX0_placesFor ∈ lw_ok := lw_ok_of 333 (by decide +kernel) rfl
theorem k_X6_67 : Cond.methodLink RX6 67 yX0_addFault ∈ lw_ok := lw_ok_of 337 (by decide +kernel) rfl
theorem k_L_27 : Cond.methodLink RL 27 yX6_bless ∈ lw_ok := lw_ok_of 341 (by decide +kernel) rfl
theorem k_X6_70 : Cond.methodLink RX6 70 yX6_isPin ∈ lw_ok := lw_ok_of 345 (by decide +kernel) rfl
theorem q_X6_74 : Cond.constant RX6 74 (-1000001) ∈ lw_ok := lw_ok_of 346 (by decide +kernel) rfl
theorem k_X6_75 : Cond.methodLink RX6 75 yX0_setBlessing ∈ lw_ok := lw_ok_of 347 (by decide +kernel) rfl
theorem k_L_32 : Cond.methodLink RL 32 yX6_pinOf ∈ lw_ok := lw_ok_of 351 (by decide +kernel) rfl
theorem k_X6_83 : Cond.methodLink RX6 83 yX6_foundOrNot ∈ lw_ok := lw_ok_of 355 (by decide +kernel) rfl
theorem q_X6_115 : Cond.constant RX6 115 (-1000004) ∈ lw_ok := lw_ok_of 358 (by decide +kernel) rfl
theorem k_X6_86 : Cond.methodLink RX6 86 yX0_chipWith ∈ lw_ok := lw_ok_of 359 (by decide +kernel) rfl
theorem k_X6_89 : Cond.methodLink RX6 89 yX0_roleOf ∈ lw_ok := lw_ok_of 363 (by decide +kernel) rfl
theorem k_X0_88 : Cond.methodLink RX0 88 yX0_chipWith ∈ lw_ok := lw_ok_of 367 (by decide +kernel) rfl
theorem k_X6_95 : Cond.methodLink RX6 95 yX4_touchedNow ∈ lw_ok := lw_ok_of 368 (by decide +kernel) rfl
theorem k_X4_56 : Cond.methodLink RX4 56 yX4_weekday ∈ lw_ok := lw_ok_of 372 (by decide +kernel) rfl
theorem k_X4_60 : Cond.methodLink RX4 60 yX0_blessedOn ∈ lw_ok := lw_ok_of 376 (by decide +kernel) rfl
theorem k_X6_99 : Cond.methodLink RX6 99 yX6_hasBit ∈ lw_ok := lw_ok_of 380 (by decide +kernel) rfl
theorem k_L_36 : Cond.methodLink RL 36 yX6_faultOf ∈ lw_ok := lw_ok_of 381 (by decide +kernel) rfl
theorem k_X6_103 : Cond.methodLink RX6 103 yX0_isFault ∈ lw_ok := lw_ok_of 385 (by decide +kernel) rfl
theorem k_L_40 : Cond.methodLink RL 40 yX6_reached ∈ lw_ok := lw_ok_of 389 (by decide +kernel) rfl
theorem k_X6_119 : Cond.methodLink RX6 119 yX6_isDay ∈ lw_ok := lw_ok_of 393 (by decide +kernel) rfl
theorem k_X6_122 : Cond.methodLink RX6 122 yX6_isFaultOrNone ∈ lw_ok := lw_ok_of 396 (by decide +kernel) rfl
theorem k_X6_125 : Cond.methodLink RX6 125 yX6_suspectFor ∈ lw_ok := lw_ok_of 400 (by decide +kernel) rfl
theorem k_X6_128 : Cond.methodLink RX6 128 yX2_suppose ∈ lw_ok := lw_ok_of 403 (by decide +kernel) rfl
theorem k_X2_33 : Cond.methodLink RX2 33 yX5_setUp ∈ lw_ok := lw_ok_of 407 (by decide +kernel) rfl
theorem k_X5_26 : Cond.methodLink RX5 26 yX0_isFault ∈ lw_ok := lw_ok_of 411 (by decide +kernel) rfl
theorem k_X5_47 : Cond.methodLink RX5 47 yX5_linkingNet ∈ lw_ok := lw_ok_of 412 (by decide +kernel) rfl
theorem k_X5_57 : Cond.methodLink RX5 57 yX0_suffers ∈ lw_ok := lw_ok_of 416 (by decide +kernel) rfl
theorem k_X0_91 : Cond.methodLink RX0 91 yX0_isFault ∈ lw_ok := lw_ok_of 420 (by decide +kernel) rfl
theorem k_X5_51 : Cond.methodLink RX5 51 yX5_followers ∈ lw_ok := lw_ok_of 421 (by decide +kernel) rfl
theorem k_X5_61 : Cond.methodLink RX5 61 yX0_shortedWith ∈ lw_ok := lw_ok_of 425 (by decide +kernel) rfl
theorem k_X6_132 : Cond.methodLink RX6 132 yX0_blessedOn ∈ lw_ok := lw_ok_of 429 (by decide +kernel) rfl
theorem k_X6_135 : Cond.methodLink RX6 135 yX5_probe ∈ lw_ok := lw_ok_of 430 (by decide +kernel) rfl
theorem k_X5_82 : Cond.methodLink RX5 82 yX5_scannedChips ∈ lw_ok := lw_ok_of 434 (by decide +kernel) rfl
theorem k_X5_71 : Cond.methodLink RX5 71 yX5_spread ∈ lw_ok := lw_ok_of 438 (by decide +kernel) rfl
theorem k_L_44 : Cond.methodLink RL 44 yX6_scanned ∈ lw_ok := lw_ok_of 443 (by decide +kernel) rfl
theorem k_X6_145 : Cond.methodLink RX6 145 yX5_scannedChips ∈ lw_ok := lw_ok_of 447 (by decide +kernel) rfl
theorem k_L_48 : Cond.methodLink RL 48 yX6_reads ∈ lw_ok := lw_ok_of 448 (by decide +kernel) rfl
theorem k_X6_148 : Cond.methodLink RX6 148 yX6_isZeroOrOne ∈ lw_ok := lw_ok_of 452 (by decide +kernel) rfl
theorem k_X6_151 : Cond.methodLink RX6 151 yX5_pinsAtOne ∈ lw_ok := lw_ok_of 455 (by decide +kernel) rfl
theorem k_L_53 : Cond.methodLink RL 53 yX6_daysOf ∈ lw_ok := lw_ok_of 459 (by decide +kernel) rfl
theorem k_X6_154 : Cond.methodLink RX6 154 yX2_measureWeek ∈ lw_ok := lw_ok_of 463 (by decide +kernel) rfl
theorem k_X2_59 : Cond.methodLink RX2 59 yX0_allSuspects ∈ lw_ok := lw_ok_of 467 (by decide +kernel) rfl
theorem k_X2_48 : Cond.methodLink RX2 48 yX2_supposeAll ∈ lw_ok := lw_ok_of 471 (by decide +kernel) rfl
theorem k_X2_65 : Cond.methodLink RX2 65 yX0_blessedOn ∈ lw_ok := lw_ok_of 476 (by decide +kernel) rfl
theorem k_X2_51 : Cond.methodLink RX2 51 yX2_probeAll ∈ lw_ok := lw_ok_of 477 (by decide +kernel) rfl
theorem k_X2_40 : Cond.methodLink RX2 40 yX5_probe ∈ lw_ok := lw_ok_of 481 (by decide +kernel) rfl
theorem k_X2_69 : Cond.methodLink RX2 69 yX2_firstProbedLike ∈ lw_ok := lw_ok_of 482 (by decide +kernel) rfl
theorem k_X2_44 : Cond.methodLink RX2 44 yX5_sameOutcome ∈ lw_ok := lw_ok_of 486 (by decide +kernel) rfl
theorem k_X5_91 : Cond.methodLink RX5 91 yX5_pinsAtOne ∈ lw_ok := lw_ok_of 490 (by decide +kernel) rfl
theorem k_X6_157 : Cond.methodLink RX6 157 yX2_daysUnlike ∈ lw_ok := lw_ok_of 491 (by decide +kernel) rfl
theorem k_X2_72 : Cond.methodLink RX2 72 yX2_daysAlike ∈ lw_ok := lw_ok_of 495 (by decide +kernel) rfl
theorem k_L_57 : Cond.methodLink RL 57 yX6_alike ∈ lw_ok := lw_ok_of 499 (by decide +kernel) rfl
theorem k_X6_160 : Cond.methodLink RX6 160 yX2_daysAlike ∈ lw_ok := lw_ok_of 503 (by decide +kernel) rfl
theorem k_L_61 : Cond.methodLink RL 61 yX6_twin ∈ lw_ok := lw_ok_of 504 (by decide +kernel) rfl
theorem k_L_65 : Cond.methodLink RL 65 yX6_outcomes ∈ lw_ok := lw_ok_of 508 (by decide +kernel) rfl
theorem k_X6_166 : Cond.methodLink RX6 166 yX2_unlikeOutcomes ∈ lw_ok := lw_ok_of 512 (by decide +kernel) rfl
theorem k_L_69 : Cond.methodLink RL 69 yX6_likes ∈ lw_ok := lw_ok_of 516 (by decide +kernel) rfl
theorem k_X6_169 : Cond.methodLink RX6 169 yX2_suspectsLike ∈ lw_ok := lw_ok_of 520 (by decide +kernel) rfl
theorem k_L_73 : Cond.methodLink RL 73 yX6_fewestDays ∈ lw_ok := lw_ok_of 524 (by decide +kernel) rfl
theorem k_X6_172 : Cond.methodLink RX6 172 yX2_fewestDaysFor ∈ lw_ok := lw_ok_of 528 (by decide +kernel) rfl
theorem k_X2_88 : Cond.methodLink RX2 88 yX2_collectDaysWanted ∈ lw_ok := lw_ok_of 532 (by decide +kernel) rfl
theorem k_X2_100 : Cond.methodLink RX2 100 yX2_daysUnlike ∈ lw_ok := lw_ok_of 536 (by decide +kernel) rfl
theorem k_X2_78 : Cond.methodLink RX2 78 yJ6_bitCount_0f7a4 ∈ lw_ok := lw_ok_of 537 (by decide +kernel) rfl
theorem k_X2_92 : Cond.methodLink RX2 92 yX2_suffice ∈ lw_ok := lw_ok_of 538 (by decide +kernel) rfl
theorem k_X6_176 : Cond.methodLink RX6 176 yX6_sizeOrSet ∈ lw_ok := lw_ok_of 542 (by decide +kernel) rfl
theorem k_X6_186 : Cond.methodLink RX6 186 yJ6_bitCount_0f7a4 ∈ lw_ok := lw_ok_of 545 (by decide +kernel) rfl
theorem k_L_77 : Cond.methodLink RL 77 yX6_wanted ∈ lw_ok := lw_ok_of 546 (by decide +kernel) rfl
theorem k_X6_179 : Cond.methodLink RX6 179 yX2_fewestPinsTelling ∈ lw_ok := lw_ok_of 550 (by decide +kernel) rfl
theorem k_X2_103 : Cond.methodLink RX2 103 yX2_suppose ∈ lw_ok := lw_ok_of 554 (by decide +kernel) rfl
theorem k_X2_107 : Cond.methodLink RX2 107 yX2_tells ∈ lw_ok := lw_ok_of 555 (by decide +kernel) rfl
theorem k_L_81 : Cond.methodLink RL 81 yX6_share ∈ lw_ok := lw_ok_of 559 (by decide +kernel) rfl
theorem k_X6_182 : Cond.methodLink RX6 182 yX6_bitsOf ∈ lw_ok := lw_ok_of 563 (by decide +kernel) rfl
theorem q_X6_266 : Cond.constantFloat RX6 266 (1258291200) ∈ lw_ok := lw_ok_of 566 (by decide +kernel) rfl
theorem k_L_85 : Cond.methodLink RL 85 yX6_plant ∈ lw_ok := lw_ok_of 567 (by decide +kernel) rfl
theorem k_X6_194 : Cond.methodLink RX6 194 yX0_allSuspects ∈ lw_ok := lw_ok_of 571 (by decide +kernel) rfl
theorem k_L_89 : Cond.methodLink RL 89 yX6_test ∈ lw_ok := lw_ok_of 572 (by decide +kernel) rfl
theorem k_X6_203 : Cond.methodLink RX6 203 yX2_leftBy ∈ lw_ok := lw_ok_of 576 (by decide +kernel) rfl
theorem k_X2_55 : Cond.methodLink RX2 55 yX2_probedLike ∈ lw_ok := lw_ok_of 580 (by decide +kernel) rfl
theorem k_L_94 : Cond.methodLink RL 94 yX6_vouch ∈ lw_ok := lw_ok_of 584 (by decide +kernel) rfl
theorem q_X6_206 : Cond.constant RX6 206 (-1000002) ∈ lw_ok := lw_ok_of 588 (by decide +kernel) rfl
theorem q_X6_210 : Cond.constant RX6 210 (-1000003) ∈ lw_ok := lw_ok_of 589 (by decide +kernel) rfl
theorem k_L_98 : Cond.methodLink RL 98 yX6_vouchers ∈ lw_ok := lw_ok_of 590 (by decide +kernel) rfl
theorem k_L_102 : Cond.methodLink RL 102 yX6_pass ∈ lw_ok := lw_ok_of 594 (by decide +kernel) rfl
theorem k_X6_217 : Cond.methodLink RX6 217 yX4_weekday ∈ lw_ok := lw_ok_of 598 (by decide +kernel) rfl
theorem k_L_106 : Cond.methodLink RL 106 yX6_suspects ∈ lw_ok := lw_ok_of 599 (by decide +kernel) rfl
theorem k_L_110 : Cond.methodLink RL 110 yX6_bestDay ∈ lw_ok := lw_ok_of 603 (by decide +kernel) rfl
theorem k_X6_220 : Cond.methodLink RX6 220 yX2_worstOn ∈ lw_ok := lw_ok_of 607 (by decide +kernel) rfl
theorem k_X2_75 : Cond.methodLink RX2 75 yX2_suspectsLike ∈ lw_ok := lw_ok_of 611 (by decide +kernel) rfl
theorem k_X2_83 : Cond.methodLink RX2 83 yJ9_max_7cf53 ∈ lw_ok := lw_ok_of 612 (by decide +kernel) rfl
theorem k_L_114 : Cond.methodLink RL 114 yX6_file ∈ lw_ok := lw_ok_of 615 (by decide +kernel) rfl
theorem k_X6_223 : Cond.methodLink RX6 223 yX4_filedIn ∈ lw_ok := lw_ok_of 619 (by decide +kernel) rfl
theorem k_L_118 : Cond.methodLink RL 118 yX6_count ∈ lw_ok := lw_ok_of 623 (by decide +kernel) rfl
theorem k_X6_232 : Cond.methodLink RX6 232 yX6_reachedNow ∈ lw_ok := lw_ok_of 627 (by decide +kernel) rfl
theorem k_L_122 : Cond.methodLink RL 122 yX6_undo ∈ lw_ok := lw_ok_of 631 (by decide +kernel) rfl
theorem k_X6_241 : Cond.methodLink RX6 241 yX1_restore ∈ lw_ok := lw_ok_of 635 (by decide +kernel) rfl
theorem k_L_126 : Cond.methodLink RL 126 yX6_type ∈ lw_ok := lw_ok_of 639 (by decide +kernel) rfl
theorem k_X6_244 : Cond.methodLink RX6 244 yX3_append ∈ lw_ok := lw_ok_of 643 (by decide +kernel) rfl
theorem k_L_130 : Cond.methodLink RL 130 yX6_clearText ∈ lw_ok := lw_ok_of 647 (by decide +kernel) rfl
theorem k_L_134 : Cond.methodLink RL 134 yX6_place ∈ lw_ok := lw_ok_of 651 (by decide +kernel) rfl
theorem k_X6_248 : Cond.methodLink RX6 248 yX3_tryOn ∈ lw_ok := lw_ok_of 655 (by decide +kernel) rfl
theorem k_X3_30 : Cond.methodLink RX3 30 yX0_copyFrom ∈ lw_ok := lw_ok_of 659 (by decide +kernel) rfl
theorem k_X3_43 : Cond.methodLink RX3 43 yX3_skipSpaces ∈ lw_ok := lw_ok_of 660 (by decide +kernel) rfl
theorem k_X3_47 : Cond.methodLink RX3 47 yX3_endOfCommand ∈ lw_ok := lw_ok_of 664 (by decide +kernel) rfl
theorem k_X3_51 : Cond.methodLink RX3 51 yX3_perform ∈ lw_ok := lw_ok_of 668 (by decide +kernel) rfl
theorem k_X3_54 : Cond.methodLink RX3 54 yX3_parse ∈ lw_ok := lw_ok_of 672 (by decide +kernel) rfl
theorem k_X3_68 : Cond.methodLink RX3 68 yX3_endOfToken ∈ lw_ok := lw_ok_of 676 (by decide +kernel) rfl
theorem k_X3_71 : Cond.methodLink RX3 71 yX3_wordBetween ∈ lw_ok := lw_ok_of 680 (by decide +kernel) rfl
theorem k_X3_90 : Cond.methodLink RX3 90 yX3_spelling ∈ lw_ok := lw_ok_of 684 (by decide +kernel) rfl
theorem k_X3_94 : Cond.methodLink RX3 94 yX3_isWritten ∈ lw_ok := lw_ok_of 695 (by decide +kernel) rfl
theorem k_X3_114 : Cond.methodLink RX3 114 yJ0_length_8abf5 ∈ lw_ok := lw_ok_of 699 (by decide +kernel) rfl
theorem k_J0_335 : Cond.methodLink RJ0 335 yJ0_coder_7d493 ∈ lw_ok := lw_ok_of 703 (by decide +kernel) rfl
theorem k_X3_118 : Cond.methodLink RX3 118 yJ0_charAt_5068e ∈ lw_ok := lw_ok_of 709 (by decide +kernel) rfl
theorem k_J0_492 : Cond.methodLink RJ0 492 yJ0_isLatin1_aae02 ∈ lw_ok := lw_ok_of 713 (by decide +kernel) rfl
theorem k_J0_495 : Cond.methodLink RJ0 495 yJ1_charAt_3b067 ∈ lw_ok := lw_ok_of 717 (by decide +kernel) rfl
theorem k_J1_9 : Cond.methodLink RJ1 9 yJ0_checkIndex_df160 ∈ lw_ok := lw_ok_of 720 (by decide +kernel) rfl
theorem k_J0_1059 : Cond.methodLink RJ0 1059 yJ3_checkIndex_8e157 ∈ lw_ok := lw_ok_of 725 (by decide +kernel) rfl
theorem k_J0_498 : Cond.methodLink RJ0 498 yJ2_charAt_3b067 ∈ lw_ok := lw_ok_of 728 (by decide +kernel) rfl
theorem k_J2_67 : Cond.methodLink RJ2 67 yJ2_checkIndex_2214a ∈ lw_ok := lw_ok_of 731 (by decide +kernel) rfl
theorem k_J2_48 : Cond.methodLink RJ2 48 yJ2_length_9d52b ∈ lw_ok := lw_ok_of 734 (by decide +kernel) rfl
theorem k_J2_414 : Cond.methodLink RJ2 414 yJ0_checkIndex_df160 ∈ lw_ok := lw_ok_of 737 (by decide +kernel) rfl
theorem k_J2_71 : Cond.methodLink RJ2 71 yJ2_getChar_3b067 ∈ lw_ok := lw_ok_of 738 (by decide +kernel) rfl
theorem k_X3_80 : Cond.methodLink RX3 80 yX3_numberBetween ∈ lw_ok := lw_ok_of 749 (by decide +kernel) rfl
theorem k_X3_86 : Cond.methodLink RX3 86 yX3_areUnlike ∈ lw_ok := lw_ok_of 755 (by decide +kernel) rfl
theorem k_X3_61 : Cond.methodLink RX3 61 yX3_rangeOfNumber ∈ lw_ok := lw_ok_of 759 (by decide +kernel) rfl
theorem k_X3_64 : Cond.methodLink RX3 64 yX3_doCommand ∈ lw_ok := lw_ok_of 763 (by decide +kernel) rfl
theorem k_X3_128 : Cond.methodLink RX3 128 yX3_doNet ∈ lw_ok := lw_ok_of 767 (by decide +kernel) rfl
theorem k_X3_146 : Cond.methodLink RX3 146 yX3_setFrom ∈ lw_ok := lw_ok_of 771 (by decide +kernel) rfl
theorem k_X3_152 : Cond.methodLink RX3 152 yX0_refusalOfNet ∈ lw_ok := lw_ok_of 775 (by decide +kernel) rfl
theorem k_X3_155 : Cond.methodLink RX3 155 yX0_addNet ∈ lw_ok := lw_ok_of 776 (by decide +kernel) rfl
theorem k_X3_131 : Cond.methodLink RX3 131 yX3_doChip ∈ lw_ok := lw_ok_of 777 (by decide +kernel) rfl
theorem k_X3_158 : Cond.methodLink RX3 158 yX0_refusalOfChip ∈ lw_ok := lw_ok_of 781 (by decide +kernel) rfl
theorem k_X3_161 : Cond.methodLink RX3 161 yX0_addChip ∈ lw_ok := lw_ok_of 782 (by decide +kernel) rfl
theorem k_X3_134 : Cond.methodLink RX3 134 yX3_doFault ∈ lw_ok := lw_ok_of 783 (by decide +kernel) rfl
theorem k_X3_164 : Cond.methodLink RX3 164 yX0_refusalOfFault ∈ lw_ok := lw_ok_of 787 (by decide +kernel) rfl
theorem k_X3_167 : Cond.methodLink RX3 167 yX0_addFault ∈ lw_ok := lw_ok_of 788 (by decide +kernel) rfl
theorem k_X3_138 : Cond.methodLink RX3 138 yJ9_min_7cf53 ∈ lw_ok := lw_ok_of 789 (by decide +kernel) rfl
theorem k_X3_143 : Cond.methodLink RX3 143 yJ9_max_7cf53 ∈ lw_ok := lw_ok_of 792 (by decide +kernel) rfl
theorem k_X3_149 : Cond.methodLink RX3 149 yX0_setBlessing ∈ lw_ok := lw_ok_of 793 (by decide +kernel) rfl
theorem k_L_138 : Cond.methodLink RL 138 yX6_run ∈ lw_ok := lw_ok_of 795 (by decide +kernel) rfl
theorem k_X6_260 : Cond.methodLink RX6 260 yX0_copyFrom ∈ lw_ok := lw_ok_of 799 (by decide +kernel) rfl
theorem k_L_12 : Cond.methodLink RL 12 yX7_init ∈ lw_ok := lw_ok_of 802 (by decide +kernel) rfl
theorem k_X7_1 : Cond.methodLink RX7 1 objectInit ∈ lw_ok := lw_ok_of 805 (by decide +kernel) rfl
theorem k_L_125 : Cond.methodLink RL 125 yX7_undo ∈ lw_ok := lw_ok_of 852 (by decide +kernel) rfl
theorem q_X7_35 : Cond.constant RX7 35 (-1000002) ∈ lw_ok := lw_ok_of 856 (by decide +kernel) rfl
theorem k_L_17 : Cond.methodLink RL 17 yX7_net ∈ lw_ok := lw_ok_of 857 (by decide +kernel) rfl
theorem k_X7_58 : Cond.methodLink RX7 58 yX7_checksNet ∈ lw_ok := lw_ok_of 861 (by decide +kernel) rfl
theorem q_X7_44 : Cond.constant RX7 44 (65535) ∈ lw_ok := lw_ok_of 865 (by decide +kernel) rfl
theorem k_X7_45 : Cond.methodLink RX7 45 yX7_isIn ∈ lw_ok := lw_ok_of 866 (by decide +kernel) rfl
theorem k_X7_49 : Cond.methodLink RX7 49 yX7_ones ∈ lw_ok := lw_ok_of 869 (by decide +kernel) rfl
theorem q_X7_53 : Cond.constant RX7 53 (-1000001) ∈ lw_ok := lw_ok_of 872 (by decide +kernel) rfl
theorem k_X7_36 : Cond.methodLink RX7 36 yX7_has ∈ lw_ok := lw_ok_of 873 (by decide +kernel) rfl
theorem k_X7_54 : Cond.methodLink RX7 54 yX7_netOf ∈ lw_ok := lw_ok_of 876 (by decide +kernel) rfl
theorem q_X7_57 : Cond.constant RX7 57 (-1000003) ∈ lw_ok := lw_ok_of 880 (by decide +kernel) rfl
theorem k_X7_61 : Cond.methodLink RX7 61 yX7_records ∈ lw_ok := lw_ok_of 881 (by decide +kernel) rfl
theorem k_X7_64 : Cond.methodLink RX7 64 yX7_addsNet ∈ lw_ok := lw_ok_of 885 (by decide +kernel) rfl
theorem k_L_22 : Cond.methodLink RL 22 yX7_chip ∈ lw_ok := lw_ok_of 889 (by decide +kernel) rfl
theorem k_X7_70 : Cond.methodLink RX7 70 yX7_checksChip ∈ lw_ok := lw_ok_of 893 (by decide +kernel) rfl
theorem k_X7_67 : Cond.methodLink RX7 67 yX7_chipOf ∈ lw_ok := lw_ok_of 897 (by decide +kernel) rfl
theorem k_X7_40 : Cond.methodLink RX7 40 yX7_roleOf ∈ lw_ok := lw_ok_of 901 (by decide +kernel) rfl
theorem k_X7_74 : Cond.methodLink RX7 74 yX7_addsChip ∈ lw_ok := lw_ok_of 905 (by decide +kernel) rfl
theorem k_L_26 : Cond.methodLink RL 26 yX7_fault ∈ lw_ok := lw_ok_of 909 (by decide +kernel) rfl
theorem k_X7_80 : Cond.methodLink RX7 80 yX7_checksFault ∈ lw_ok := lw_ok_of 913 (by decide +kernel) rfl
theorem k_X7_77 : Cond.methodLink RX7 77 yX7_manyOf ∈ lw_ok := lw_ok_of 917 (by decide +kernel) rfl
theorem k_X7_83 : Cond.methodLink RX7 83 yX7_addsFault ∈ lw_ok := lw_ok_of 921 (by decide +kernel) rfl
theorem k_L_31 : Cond.methodLink RL 31 yX7_bless ∈ lw_ok := lw_ok_of 925 (by decide +kernel) rfl
theorem k_L_35 : Cond.methodLink RL 35 yX7_pinOf ∈ lw_ok := lw_ok_of 929 (by decide +kernel) rfl
theorem k_X7_94 : Cond.methodLink RX7 94 yX7_orMissing ∈ lw_ok := lw_ok_of 933 (by decide +kernel) rfl
theorem q_X7_93 : Cond.constant RX7 93 (-1000004) ∈ lw_ok := lw_ok_of 936 (by decide +kernel) rfl
theorem k_X7_97 : Cond.methodLink RX7 97 yX7_touchedNow ∈ lw_ok := lw_ok_of 937 (by decide +kernel) rfl
theorem k_X7_86 : Cond.methodLink RX7 86 yX7_weekday ∈ lw_ok := lw_ok_of 941 (by decide +kernel) rfl
theorem k_X7_90 : Cond.methodLink RX7 90 yX7_touchedOn ∈ lw_ok := lw_ok_of 945 (by decide +kernel) rfl
theorem k_L_39 : Cond.methodLink RL 39 yX7_faultOf ∈ lw_ok := lw_ok_of 949 (by decide +kernel) rfl
theorem k_X7_100 : Cond.methodLink RX7 100 yX7_isFault ∈ lw_ok := lw_ok_of 953 (by decide +kernel) rfl
theorem k_L_43 : Cond.methodLink RL 43 yX7_reached ∈ lw_ok := lw_ok_of 957 (by decide +kernel) rfl
theorem k_X7_144 : Cond.methodLink RX7 144 yX7_isDay ∈ lw_ok := lw_ok_of 961 (by decide +kernel) rfl
theorem k_X7_147 : Cond.methodLink RX7 147 yX7_isFaultOrNone ∈ lw_ok := lw_ok_of 964 (by decide +kernel) rfl
theorem k_X7_128 : Cond.methodLink RX7 128 yX7_reachedBy ∈ lw_ok := lw_ok_of 968 (by decide +kernel) rfl
theorem k_X7_118 : Cond.methodLink RX7 118 yX7_scannedBy ∈ lw_ok := lw_ok_of 972 (by decide +kernel) rfl
theorem k_X7_114 : Cond.methodLink RX7 114 yX7_along ∈ lw_ok := lw_ok_of 976 (by decide +kernel) rfl
theorem k_X7_110 : Cond.methodLink RX7 110 yX7_comesTo ∈ lw_ok := lw_ok_of 980 (by decide +kernel) rfl
theorem k_X7_104 : Cond.methodLink RX7 104 yX7_hasFault ∈ lw_ok := lw_ok_of 984 (by decide +kernel) rfl
theorem k_X7_107 : Cond.methodLink RX7 107 yX7_areLinked ∈ lw_ok := lw_ok_of 988 (by decide +kernel) rfl
theorem k_L_47 : Cond.methodLink RL 47 yX7_scanned ∈ lw_ok := lw_ok_of 992 (by decide +kernel) rfl
theorem k_L_52 : Cond.methodLink RL 52 yX7_reads ∈ lw_ok := lw_ok_of 996 (by decide +kernel) rfl
theorem k_X7_131 : Cond.methodLink RX7 131 yX7_readsBy ∈ lw_ok := lw_ok_of 1000 (by decide +kernel) rfl
theorem k_X7_124 : Cond.methodLink RX7 124 yX7_readsOne ∈ lw_ok := lw_ok_of 1004 (by decide +kernel) rfl
theorem k_X7_121 : Cond.methodLink RX7 121 yX7_areJoined ∈ lw_ok := lw_ok_of 1008 (by decide +kernel) rfl
theorem k_L_56 : Cond.methodLink RL 56 yX7_daysOf ∈ lw_ok := lw_ok_of 1012 (by decide +kernel) rfl
theorem k_X7_153 : Cond.methodLink RX7 153 yX7_alikeDays ∈ lw_ok := lw_ok_of 1016 (by decide +kernel) rfl
theorem k_X7_150 : Cond.methodLink RX7 150 yX7_slotOf ∈ lw_ok := lw_ok_of 1020 (by decide +kernel) rfl
theorem k_X7_137 : Cond.methodLink RX7 137 yX7_measuresOne ∈ lw_ok := lw_ok_of 1023 (by decide +kernel) rfl
theorem k_X7_141 : Cond.methodLink RX7 141 yX7_isLike ∈ lw_ok := lw_ok_of 1027 (by decide +kernel) rfl
theorem k_L_60 : Cond.methodLink RL 60 yX7_alike ∈ lw_ok := lw_ok_of 1031 (by decide +kernel) rfl
theorem k_L_64 : Cond.methodLink RL 64 yX7_twin ∈ lw_ok := lw_ok_of 1035 (by decide +kernel) rfl
theorem k_L_68 : Cond.methodLink RL 68 yX7_outcomes ∈ lw_ok := lw_ok_of 1039 (by decide +kernel) rfl
theorem k_X7_156 : Cond.methodLink RX7 156 yX7_measures ∈ lw_ok := lw_ok_of 1043 (by decide +kernel) rfl
theorem k_X7_134 : Cond.methodLink RX7 134 yX7_isBoard ∈ lw_ok := lw_ok_of 1047 (by decide +kernel) rfl
theorem k_X7_160 : Cond.methodLink RX7 160 yX7_likeSet ∈ lw_ok := lw_ok_of 1051 (by decide +kernel) rfl
theorem k_L_72 : Cond.methodLink RL 72 yX7_likes ∈ lw_ok := lw_ok_of 1055 (by decide +kernel) rfl
theorem k_L_76 : Cond.methodLink RL 76 yX7_fewestDays ∈ lw_ok := lw_ok_of 1059 (by decide +kernel) rfl
theorem k_X7_166 : Cond.methodLink RX7 166 yX7_findsLikes ∈ lw_ok := lw_ok_of 1063 (by decide +kernel) rfl
theorem k_X7_169 : Cond.methodLink RX7 169 yX7_doesAll ∈ lw_ok := lw_ok_of 1067 (by decide +kernel) rfl
theorem k_X7_163 : Cond.methodLink RX7 163 yX7_areApart ∈ lw_ok := lw_ok_of 1071 (by decide +kernel) rfl
theorem k_L_80 : Cond.methodLink RL 80 yX7_wanted ∈ lw_ok := lw_ok_of 1075 (by decide +kernel) rfl
theorem k_X7_175 : Cond.methodLink RX7 175 yX7_wantedSet ∈ lw_ok := lw_ok_of 1079 (by decide +kernel) rfl
theorem k_X7_172 : Cond.methodLink RX7 172 yX7_isTold ∈ lw_ok := lw_ok_of 1083 (by decide +kernel) rfl
theorem k_L_84 : Cond.methodLink RL 84 yX7_share ∈ lw_ok := lw_ok_of 1087 (by decide +kernel) rfl
theorem k_X7_182 : Cond.methodLink RX7 182 yX7_floatBits ∈ lw_ok := lw_ok_of 1091 (by decide +kernel) rfl
theorem q_X7_178 : Cond.constantLong RX7 178 (2) ∈ lw_ok := lw_ok_of 1094 (by decide +kernel) rfl
theorem q_X7_180 : Cond.constantLong RX7 180 (8388608) ∈ lw_ok := lw_ok_of 1095 (by decide +kernel) rfl
theorem k_L_88 : Cond.methodLink RL 88 yX7_plant ∈ lw_ok := lw_ok_of 1096 (by decide +kernel) rfl
theorem k_L_93 : Cond.methodLink RL 93 yX7_test ∈ lw_ok := lw_ok_of 1100 (by decide +kernel) rfl
theorem k_L_97 : Cond.methodLink RL 97 yX7_vouch ∈ lw_ok := lw_ok_of 1104 (by decide +kernel) rfl
theorem k_L_101 : Cond.methodLink RL 101 yX7_vouchers ∈ lw_ok := lw_ok_of 1108 (by decide +kernel) rfl
theorem k_L_105 : Cond.methodLink RL 105 yX7_pass ∈ lw_ok := lw_ok_of 1112 (by decide +kernel) rfl
theorem k_L_109 : Cond.methodLink RL 109 yX7_suspects ∈ lw_ok := lw_ok_of 1116 (by decide +kernel) rfl
theorem k_L_113 : Cond.methodLink RL 113 yX7_bestDay ∈ lw_ok := lw_ok_of 1120 (by decide +kernel) rfl
theorem k_X7_185 : Cond.methodLink RX7 185 yX7_worstOn ∈ lw_ok := lw_ok_of 1124 (by decide +kernel) rfl
theorem k_L_117 : Cond.methodLink RL 117 yX7_file ∈ lw_ok := lw_ok_of 1128 (by decide +kernel) rfl
theorem k_X7_188 : Cond.methodLink RX7 188 yX7_inDrawer ∈ lw_ok := lw_ok_of 1132 (by decide +kernel) rfl
theorem k_L_121 : Cond.methodLink RL 121 yX7_count ∈ lw_ok := lw_ok_of 1136 (by decide +kernel) rfl
theorem k_L_129 : Cond.methodLink RL 129 yX7_type ∈ lw_ok := lw_ok_of 1140 (by decide +kernel) rfl
theorem k_L_133 : Cond.methodLink RL 133 yX7_clearText ∈ lw_ok := lw_ok_of 1144 (by decide +kernel) rfl
theorem k_L_137 : Cond.methodLink RL 137 yX7_place ∈ lw_ok := lw_ok_of 1148 (by decide +kernel) rfl
theorem k_X7_259 : Cond.methodLink RX7 259 yX7_triesAll ∈ lw_ok := lw_ok_of 1152 (by decide +kernel) rfl
theorem k_X7_256 : Cond.methodLink RX7 256 yX7_goesThrough ∈ lw_ok := lw_ok_of 1156 (by decide +kernel) rfl
theorem k_X7_213 : Cond.methodLink RX7 213 yX7_passesSpaces ∈ lw_ok := lw_ok_of 1160 (by decide +kernel) rfl
theorem k_X7_197 : Cond.methodLink RX7 197 yX7_isHere ∈ lw_ok := lw_ok_of 1164 (by decide +kernel) rfl
theorem k_X7_253 : Cond.methodLink RX7 253 yX7_reasonOf ∈ lw_ok := lw_ok_of 1168 (by decide +kernel) rfl
theorem k_X7_229 : Cond.methodLink RX7 229 yX7_readsCommand ∈ lw_ok := lw_ok_of 1172 (by decide +kernel) rfl
theorem k_X7_207 : Cond.methodLink RX7 207 yX7_readsWord ∈ lw_ok := lw_ok_of 1176 (by decide +kernel) rfl
theorem k_X7_200 : Cond.methodLink RX7 200 yX7_isEnded ∈ lw_ok := lw_ok_of 1180 (by decide +kernel) rfl
theorem k_X7_216 : Cond.methodLink RX7 216 yX7_readsNumber ∈ lw_ok := lw_ok_of 1184 (by decide +kernel) rfl
theorem k_X7_232 : Cond.methodLink RX7 232 yX7_commandKind ∈ lw_ok := lw_ok_of 1188 (by decide +kernel) rfl
theorem k_X7_219 : Cond.methodLink RX7 219 yX7_codeOf ∈ lw_ok := lw_ok_of 1192 (by decide +kernel) rfl
theorem k_X7_235 : Cond.methodLink RX7 235 yX7_isOfForm ∈ lw_ok := lw_ok_of 1195 (by decide +kernel) rfl
theorem k_X7_223 : Cond.methodLink RX7 223 yX7_areUnlike ∈ lw_ok := lw_ok_of 1199 (by decide +kernel) rfl
theorem k_X7_238 : Cond.methodLink RX7 238 yX7_areThere ∈ lw_ok := lw_ok_of 1203 (by decide +kernel) rfl
theorem k_X7_241 : Cond.methodLink RX7 241 yX7_does ∈ lw_ok := lw_ok_of 1207 (by decide +kernel) rfl
theorem k_X7_226 : Cond.methodLink RX7 226 yX7_numberSet ∈ lw_ok := lw_ok_of 1211 (by decide +kernel) rfl
theorem k_L_141 : Cond.methodLink RL 141 yX7_run ∈ lw_ok := lw_ok_of 1215 (by decide +kernel) rfl
theorem u_X0 : ∀ w ∈ u_ws RX0 TX0 14, w ∈ lw_ok := by
  have h : (u_ws RX0 TX0 14).all (fun w => goodWord w && lw_tbl.contains w) = true := by decide +kernel
  intro w hw
  have h1 := List.all_eq_true.mp h w hw
  rw [Bool.and_eq_true] at h1
  exact List.mem_filter.mpr ⟨List.contains_iff_mem.mp h1.2, h1.1⟩
theorem u_X1 : ∀ w ∈ u_ws RX1 TX1 2, w ∈ lw_ok := by
  have h : (u_ws RX1 TX1 2).all (fun w => goodWord w && lw_tbl.contains w) = true := by decide +kernel
  intro w hw
  have h1 := List.all_eq_true.mp h w hw
  rw [Bool.and_eq_true] at h1
  exact List.mem_filter.mpr ⟨List.contains_iff_mem.mp h1.2, h1.1⟩
theorem u_X2 : ∀ w ∈ u_ws RX2 TX2 5, w ∈ lw_ok := by
  have h : (u_ws RX2 TX2 5).all (fun w => goodWord w && lw_tbl.contains w) = true := by decide +kernel
  intro w hw
  have h1 := List.all_eq_true.mp h w hw
  rw [Bool.and_eq_true] at h1
  exact List.mem_filter.mpr ⟨List.contains_iff_mem.mp h1.2, h1.1⟩
theorem u_X3 : ∀ w ∈ u_ws RX3 TX3 9, w ∈ lw_ok := by
  have h : (u_ws RX3 TX3 9).all (fun w => goodWord w && lw_tbl.contains w) = true := by decide +kernel
  intro w hw
  have h1 := List.all_eq_true.mp h w hw
  rw [Bool.and_eq_true] at h1
  exact List.mem_filter.mpr ⟨List.contains_iff_mem.mp h1.2, h1.1⟩
theorem u_X4 : ∀ w ∈ u_ws RX4 TX4 8, w ∈ lw_ok := by
  have h : (u_ws RX4 TX4 8).all (fun w => goodWord w && lw_tbl.contains w) = true := by decide +kernel
  intro w hw
  have h1 := List.all_eq_true.mp h w hw
  rw [Bool.and_eq_true] at h1
  exact List.mem_filter.mpr ⟨List.contains_iff_mem.mp h1.2, h1.1⟩
theorem u_X5 : ∀ w ∈ u_ws RX5 TX5 7, w ∈ lw_ok := by
  have h : (u_ws RX5 TX5 7).all (fun w => goodWord w && lw_tbl.contains w) = true := by decide +kernel
  intro w hw
  have h1 := List.all_eq_true.mp h w hw
  rw [Bool.and_eq_true] at h1
  exact List.mem_filter.mpr ⟨List.contains_iff_mem.mp h1.2, h1.1⟩
theorem u_X6 : ∀ w ∈ u_ws RX6 TX6 4, w ∈ lw_ok := by
  have h : (u_ws RX6 TX6 4).all (fun w => goodWord w && lw_tbl.contains w) = true := by decide +kernel
  intro w hw
  have h1 := List.all_eq_true.mp h w hw
  rw [Bool.and_eq_true] at h1
  exact List.mem_filter.mpr ⟨List.contains_iff_mem.mp h1.2, h1.1⟩
theorem u_X7 : ∀ w ∈ u_ws RX7 TX7 15, w ∈ lw_ok := by
  have h : (u_ws RX7 TX7 15).all (fun w => goodWord w && lw_tbl.contains w) = true := by decide +kernel
  intro w hw
  have h1 := List.all_eq_true.mp h w hw
  rw [Bool.and_eq_true] at h1
  exact List.mem_filter.mpr ⟨List.contains_iff_mem.mp h1.2, h1.1⟩
theorem f_X0_9 : zF RX0 9 0 0 true (.array .int) := ⟨RX0, TX0, 14, tyX0, rfl, by decide, lw_ok_of 43 (by decide +kernel) rfl, u_X0, tyX0_ok, nmX0, rfl, by decide +kernel, fun _ => rfl⟩
theorem e_X0_9 : zFr RX0 9 0 0 := ⟨RX0, TX0, 14, rfl, by decide, lw_ok_of 43 (by decide +kernel) rfl, u_X0⟩
theorem e_X5_35 : zFr RX5 35 0 0 := ⟨RX0, TX0, 14, rfl, by decide, lw_ok_of 44 (by decide +kernel) rfl, u_X0⟩
theorem f_X0_15 : zF RX0 15 0 1 true (.array .int) := ⟨RX0, TX0, 14, tyX0, rfl, by decide, lw_ok_of 45 (by decide +kernel) rfl, u_X0, tyX0_ok, nmX0, rfl, by decide +kernel, fun _ => rfl⟩
theorem e_X0_15 : zFr RX0 15 0 1 := ⟨RX0, TX0, 14, rfl, by decide, lw_ok_of 45 (by decide +kernel) rfl, u_X0⟩
theorem e_X5_54 : zFr RX5 54 0 1 := ⟨RX0, TX0, 14, rfl, by decide, lw_ok_of 46 (by decide +kernel) rfl, u_X0⟩
theorem e_X6_79 : zFr RX6 79 0 1 := ⟨RX0, TX0, 14, rfl, by decide, lw_ok_of 47 (by decide +kernel) rfl, u_X0⟩
theorem f_X0_18 : zF RX0 18 0 2 true (.array .int) := ⟨RX0, TX0, 14, tyX0, rfl, by decide, lw_ok_of 48 (by decide +kernel) rfl, u_X0, tyX0_ok, nmX0, rfl, by decide +kernel, fun _ => rfl⟩
theorem e_X0_18 : zFr RX0 18 0 2 := ⟨RX0, TX0, 14, rfl, by decide, lw_ok_of 48 (by decide +kernel) rfl, u_X0⟩
theorem e_X5_65 : zFr RX5 65 0 2 := ⟨RX0, TX0, 14, rfl, by decide, lw_ok_of 49 (by decide +kernel) rfl, u_X0⟩
theorem f_X0_21 : zF RX0 21 0 3 true (.array .int) := ⟨RX0, TX0, 14, tyX0, rfl, by decide, lw_ok_of 50 (by decide +kernel) rfl, u_X0, tyX0_ok, nmX0, rfl, by decide +kernel, fun _ => rfl⟩
theorem e_X0_21 : zFr RX0 21 0 3 := ⟨RX0, TX0, 14, rfl, by decide, lw_ok_of 50 (by decide +kernel) rfl, u_X0⟩
theorem e_X5_68 : zFr RX5 68 0 3 := ⟨RX0, TX0, 14, rfl, by decide, lw_ok_of 51 (by decide +kernel) rfl, u_X0⟩
theorem f_X0_24 : zF RX0 24 0 4 true (.array .int) := ⟨RX0, TX0, 14, tyX0, rfl, by decide, lw_ok_of 52 (by decide +kernel) rfl, u_X0, tyX0_ok, nmX0, rfl, by decide +kernel, fun _ => rfl⟩
theorem e_X0_24 : zFr RX0 24 0 4 := ⟨RX0, TX0, 14, rfl, by decide, lw_ok_of 52 (by decide +kernel) rfl, u_X0⟩
theorem e_X5_88 : zFr RX5 88 0 4 := ⟨RX0, TX0, 14, rfl, by decide, lw_ok_of 53 (by decide +kernel) rfl, u_X0⟩
theorem f_X0_27 : zF RX0 27 0 5 true (.array .int) := ⟨RX0, TX0, 14, tyX0, rfl, by decide, lw_ok_of 54 (by decide +kernel) rfl, u_X0, tyX0_ok, nmX0, rfl, by decide +kernel, fun _ => rfl⟩
theorem e_X0_27 : zFr RX0 27 0 5 := ⟨RX0, TX0, 14, rfl, by decide, lw_ok_of 54 (by decide +kernel) rfl, u_X0⟩
theorem e_X5_32 : zFr RX5 32 0 5 := ⟨RX0, TX0, 14, rfl, by decide, lw_ok_of 55 (by decide +kernel) rfl, u_X0⟩
theorem e_X6_106 : zFr RX6 106 0 5 := ⟨RX0, TX0, 14, rfl, by decide, lw_ok_of 56 (by decide +kernel) rfl, u_X0⟩
theorem f_X0_30 : zF RX0 30 0 6 true (.array .int) := ⟨RX0, TX0, 14, tyX0, rfl, by decide, lw_ok_of 57 (by decide +kernel) rfl, u_X0, tyX0_ok, nmX0, rfl, by decide +kernel, fun _ => rfl⟩
theorem e_X0_30 : zFr RX0 30 0 6 := ⟨RX0, TX0, 14, rfl, by decide, lw_ok_of 57 (by decide +kernel) rfl, u_X0⟩
theorem e_X5_38 : zFr RX5 38 0 6 := ⟨RX0, TX0, 14, rfl, by decide, lw_ok_of 58 (by decide +kernel) rfl, u_X0⟩
theorem e_X6_109 : zFr RX6 109 0 6 := ⟨RX0, TX0, 14, rfl, by decide, lw_ok_of 59 (by decide +kernel) rfl, u_X0⟩
theorem f_X0_33 : zF RX0 33 0 7 true (.array .int) := ⟨RX0, TX0, 14, tyX0, rfl, by decide, lw_ok_of 60 (by decide +kernel) rfl, u_X0, tyX0_ok, nmX0, rfl, by decide +kernel, fun _ => rfl⟩
theorem e_X0_33 : zFr RX0 33 0 7 := ⟨RX0, TX0, 14, rfl, by decide, lw_ok_of 60 (by decide +kernel) rfl, u_X0⟩
theorem e_X6_112 : zFr RX6 112 0 7 := ⟨RX0, TX0, 14, rfl, by decide, lw_ok_of 61 (by decide +kernel) rfl, u_X0⟩
theorem f_X0_36 : zF RX0 36 0 8 true (.array .int) := ⟨RX0, TX0, 14, tyX0, rfl, by decide, lw_ok_of 62 (by decide +kernel) rfl, u_X0, tyX0_ok, nmX0, rfl, by decide +kernel, fun _ => rfl⟩
theorem e_X0_36 : zFr RX0 36 0 8 := ⟨RX0, TX0, 14, rfl, by decide, lw_ok_of 62 (by decide +kernel) rfl, u_X0⟩
theorem e_X6_92 : zFr RX6 92 0 8 := ⟨RX0, TX0, 14, rfl, by decide, lw_ok_of 63 (by decide +kernel) rfl, u_X0⟩
theorem f_X0_51 : zF RX0 51 0 9 false .int := ⟨RX0, TX0, 14, tyX0, rfl, by decide, lw_ok_of 64 (by decide +kernel) rfl, u_X0, tyX0_ok, nmX0, rfl, by decide +kernel, fun _ => rfl⟩
theorem e_X0_51 : zFr RX0 51 0 9 := ⟨RX0, TX0, 14, rfl, by decide, lw_ok_of 64 (by decide +kernel) rfl, u_X0⟩
theorem f_X3_122 : zF RX3 122 0 9 false .int := ⟨RX0, TX0, 14, tyX0, rfl, by decide, lw_ok_of 65 (by decide +kernel) rfl, u_X0, tyX0_ok, nmX0, rfl, by decide +kernel, fun h => by cases h⟩
theorem e_X3_122 : zFr RX3 122 0 9 := ⟨RX0, TX0, 14, rfl, by decide, lw_ok_of 65 (by decide +kernel) rfl, u_X0⟩
theorem f_X6_226 : zF RX6 226 0 9 false .int := ⟨RX0, TX0, 14, tyX0, rfl, by decide, lw_ok_of 66 (by decide +kernel) rfl, u_X0, tyX0_ok, nmX0, rfl, by decide +kernel, fun h => by cases h⟩
theorem e_X6_226 : zFr RX6 226 0 9 := ⟨RX0, TX0, 14, rfl, by decide, lw_ok_of 66 (by decide +kernel) rfl, u_X0⟩
theorem f_X0_55 : zF RX0 55 0 10 false .int := ⟨RX0, TX0, 14, tyX0, rfl, by decide, lw_ok_of 67 (by decide +kernel) rfl, u_X0, tyX0_ok, nmX0, rfl, by decide +kernel, fun _ => rfl⟩
theorem e_X0_55 : zFr RX0 55 0 10 := ⟨RX0, TX0, 14, rfl, by decide, lw_ok_of 67 (by decide +kernel) rfl, u_X0⟩
theorem f_X5_75 : zF RX5 75 0 10 false .int := ⟨RX0, TX0, 14, tyX0, rfl, by decide, lw_ok_of 68 (by decide +kernel) rfl, u_X0, tyX0_ok, nmX0, rfl, by decide +kernel, fun h => by cases h⟩
theorem e_X5_75 : zFr RX5 75 0 10 := ⟨RX0, TX0, 14, rfl, by decide, lw_ok_of 68 (by decide +kernel) rfl, u_X0⟩
theorem f_X3_125 : zF RX3 125 0 10 false .int := ⟨RX0, TX0, 14, tyX0, rfl, by decide, lw_ok_of 69 (by decide +kernel) rfl, u_X0, tyX0_ok, nmX0, rfl, by decide +kernel, fun h => by cases h⟩
theorem e_X3_125 : zFr RX3 125 0 10 := ⟨RX0, TX0, 14, rfl, by decide, lw_ok_of 69 (by decide +kernel) rfl, u_X0⟩
theorem f_X6_229 : zF RX6 229 0 10 false .int := ⟨RX0, TX0, 14, tyX0, rfl, by decide, lw_ok_of 70 (by decide +kernel) rfl, u_X0, tyX0_ok, nmX0, rfl, by decide +kernel, fun h => by cases h⟩
theorem e_X6_229 : zFr RX6 229 0 10 := ⟨RX0, TX0, 14, rfl, by decide, lw_ok_of 70 (by decide +kernel) rfl, u_X0⟩
theorem f_X0_58 : zF RX0 58 0 11 false .int := ⟨RX0, TX0, 14, tyX0, rfl, by decide, lw_ok_of 71 (by decide +kernel) rfl, u_X0, tyX0_ok, nmX0, rfl, by decide +kernel, fun _ => rfl⟩
theorem e_X0_58 : zFr RX0 58 0 11 := ⟨RX0, TX0, 14, rfl, by decide, lw_ok_of 71 (by decide +kernel) rfl, u_X0⟩
theorem f_X4_64 : zF RX4 64 0 11 false .int := ⟨RX0, TX0, 14, tyX0, rfl, by decide, lw_ok_of 72 (by decide +kernel) rfl, u_X0, tyX0_ok, nmX0, rfl, by decide +kernel, fun h => by cases h⟩
theorem e_X4_64 : zFr RX4 64 0 11 := ⟨RX0, TX0, 14, rfl, by decide, lw_ok_of 72 (by decide +kernel) rfl, u_X0⟩
theorem f_X6_163 : zF RX6 163 0 11 false .int := ⟨RX0, TX0, 14, tyX0, rfl, by decide, lw_ok_of 73 (by decide +kernel) rfl, u_X0, tyX0_ok, nmX0, rfl, by decide +kernel, fun h => by cases h⟩
theorem e_X6_163 : zFr RX6 163 0 11 := ⟨RX0, TX0, 14, rfl, by decide, lw_ok_of 73 (by decide +kernel) rfl, u_X0⟩
theorem f_X0_61 : zF RX0 61 0 12 false .int := ⟨RX0, TX0, 14, tyX0, rfl, by decide, lw_ok_of 74 (by decide +kernel) rfl, u_X0, tyX0_ok, nmX0, rfl, by decide +kernel, fun _ => rfl⟩
theorem e_X0_61 : zFr RX0 61 0 12 := ⟨RX0, TX0, 14, rfl, by decide, lw_ok_of 74 (by decide +kernel) rfl, u_X0⟩
theorem f_X0_64 : zF RX0 64 0 13 false .int := ⟨RX0, TX0, 14, tyX0, rfl, by decide, lw_ok_of 75 (by decide +kernel) rfl, u_X0, tyX0_ok, nmX0, rfl, by decide +kernel, fun _ => rfl⟩
theorem e_X0_64 : zFr RX0 64 0 13 := ⟨RX0, TX0, 14, rfl, by decide, lw_ok_of 75 (by decide +kernel) rfl, u_X0⟩
theorem f_X4_25 : zF RX4 25 4 0 true (.object "BlessedPins$Board") := ⟨RX4, TX4, 8, tyX4, rfl, by decide, lw_ok_of 111 (by decide +kernel) rfl, u_X4, tyX4_ok, nmX4, rfl, by decide +kernel, fun _ => rfl⟩
theorem e_X4_25 : zFr RX4 25 4 0 := ⟨RX4, TX4, 8, rfl, by decide, lw_ok_of 111 (by decide +kernel) rfl, u_X4⟩
theorem e_X6_42 : zFr RX6 42 4 0 := ⟨RX4, TX4, 8, rfl, by decide, lw_ok_of 112 (by decide +kernel) rfl, u_X4⟩
theorem f_X4_9 : zF RX4 9 4 1 true (.array .int) := ⟨RX4, TX4, 8, tyX4, rfl, by decide, lw_ok_of 113 (by decide +kernel) rfl, u_X4, tyX4_ok, nmX4, rfl, by decide +kernel, fun _ => rfl⟩
theorem e_X4_9 : zFr RX4 9 4 1 := ⟨RX4, TX4, 8, rfl, by decide, lw_ok_of 113 (by decide +kernel) rfl, u_X4⟩
theorem e_X6_116 : zFr RX6 116 4 1 := ⟨RX4, TX4, 8, rfl, by decide, lw_ok_of 114 (by decide +kernel) rfl, u_X4⟩
theorem f_X4_47 : zF RX4 47 4 2 false .int := ⟨RX4, TX4, 8, tyX4, rfl, by decide, lw_ok_of 115 (by decide +kernel) rfl, u_X4, tyX4_ok, nmX4, rfl, by decide +kernel, fun _ => rfl⟩
theorem e_X4_47 : zFr RX4 47 4 2 := ⟨RX4, TX4, 8, rfl, by decide, lw_ok_of 115 (by decide +kernel) rfl, u_X4⟩
theorem f_X6_214 : zF RX6 214 4 2 false .int := ⟨RX4, TX4, 8, tyX4, rfl, by decide, lw_ok_of 116 (by decide +kernel) rfl, u_X4, tyX4_ok, nmX4, rfl, by decide +kernel, fun h => by cases h⟩
theorem e_X6_214 : zFr RX6 214 4 2 := ⟨RX4, TX4, 8, rfl, by decide, lw_ok_of 116 (by decide +kernel) rfl, u_X4⟩
theorem f_X4_15 : zF RX4 15 4 3 false .int := ⟨RX4, TX4, 8, tyX4, rfl, by decide, lw_ok_of 117 (by decide +kernel) rfl, u_X4, tyX4_ok, nmX4, rfl, by decide +kernel, fun _ => rfl⟩
theorem e_X4_15 : zFr RX4 15 4 3 := ⟨RX4, TX4, 8, rfl, by decide, lw_ok_of 117 (by decide +kernel) rfl, u_X4⟩
theorem f_X6_191 : zF RX6 191 4 3 false .int := ⟨RX4, TX4, 8, tyX4, rfl, by decide, lw_ok_of 118 (by decide +kernel) rfl, u_X4, tyX4_ok, nmX4, rfl, by decide +kernel, fun h => by cases h⟩
theorem e_X6_191 : zFr RX6 191 4 3 := ⟨RX4, TX4, 8, rfl, by decide, lw_ok_of 118 (by decide +kernel) rfl, u_X4⟩
theorem f_X4_19 : zF RX4 19 4 4 false .int := ⟨RX4, TX4, 8, tyX4, rfl, by decide, lw_ok_of 119 (by decide +kernel) rfl, u_X4, tyX4_ok, nmX4, rfl, by decide +kernel, fun _ => rfl⟩
theorem e_X4_19 : zFr RX4 19 4 4 := ⟨RX4, TX4, 8, rfl, by decide, lw_ok_of 119 (by decide +kernel) rfl, u_X4⟩
theorem f_X6_197 : zF RX6 197 4 4 false .int := ⟨RX4, TX4, 8, tyX4, rfl, by decide, lw_ok_of 120 (by decide +kernel) rfl, u_X4, tyX4_ok, nmX4, rfl, by decide +kernel, fun h => by cases h⟩
theorem e_X6_197 : zFr RX6 197 4 4 := ⟨RX4, TX4, 8, rfl, by decide, lw_ok_of 120 (by decide +kernel) rfl, u_X4⟩
theorem f_X4_22 : zF RX4 22 4 5 false .int := ⟨RX4, TX4, 8, tyX4, rfl, by decide, lw_ok_of 121 (by decide +kernel) rfl, u_X4, tyX4_ok, nmX4, rfl, by decide +kernel, fun _ => rfl⟩
theorem e_X4_22 : zFr RX4 22 4 5 := ⟨RX4, TX4, 8, rfl, by decide, lw_ok_of 121 (by decide +kernel) rfl, u_X4⟩
theorem f_X6_207 : zF RX6 207 4 5 false .int := ⟨RX4, TX4, 8, tyX4, rfl, by decide, lw_ok_of 122 (by decide +kernel) rfl, u_X4, tyX4_ok, nmX4, rfl, by decide +kernel, fun h => by cases h⟩
theorem e_X6_207 : zFr RX6 207 4 5 := ⟨RX4, TX4, 8, rfl, by decide, lw_ok_of 122 (by decide +kernel) rfl, u_X4⟩
theorem f_X4_50 : zF RX4 50 4 6 false .int := ⟨RX4, TX4, 8, tyX4, rfl, by decide, lw_ok_of 123 (by decide +kernel) rfl, u_X4, tyX4_ok, nmX4, rfl, by decide +kernel, fun _ => rfl⟩
theorem e_X4_50 : zFr RX4 50 4 6 := ⟨RX4, TX4, 8, rfl, by decide, lw_ok_of 123 (by decide +kernel) rfl, u_X4⟩
theorem f_X6_211 : zF RX6 211 4 6 false .int := ⟨RX4, TX4, 8, tyX4, rfl, by decide, lw_ok_of 124 (by decide +kernel) rfl, u_X4, tyX4_ok, nmX4, rfl, by decide +kernel, fun h => by cases h⟩
theorem e_X6_211 : zFr RX6 211 4 6 := ⟨RX4, TX4, 8, rfl, by decide, lw_ok_of 124 (by decide +kernel) rfl, u_X4⟩
theorem f_X4_53 : zF RX4 53 4 7 false .int := ⟨RX4, TX4, 8, tyX4, rfl, by decide, lw_ok_of 125 (by decide +kernel) rfl, u_X4, tyX4_ok, nmX4, rfl, by decide +kernel, fun _ => rfl⟩
theorem e_X4_53 : zFr RX4 53 4 7 := ⟨RX4, TX4, 8, rfl, by decide, lw_ok_of 125 (by decide +kernel) rfl, u_X4⟩
theorem f_X6_200 : zF RX6 200 4 7 false .int := ⟨RX4, TX4, 8, tyX4, rfl, by decide, lw_ok_of 126 (by decide +kernel) rfl, u_X4, tyX4_ok, nmX4, rfl, by decide +kernel, fun h => by cases h⟩
theorem e_X6_200 : zFr RX6 200 4 7 := ⟨RX4, TX4, 8, rfl, by decide, lw_ok_of 126 (by decide +kernel) rfl, u_X4⟩
theorem f_X1_11 : zF RX1 11 1 0 true (.array (.object "BlessedPins$State")) := ⟨RX1, TX1, 2, tyX1, rfl, by decide, lw_ok_of 144 (by decide +kernel) rfl, u_X1, tyX1_ok, nmX1, rfl, by decide +kernel, fun _ => rfl⟩
theorem e_X1_11 : zFr RX1 11 1 0 := ⟨RX1, TX1, 2, rfl, by decide, lw_ok_of 144 (by decide +kernel) rfl, u_X1⟩
theorem f_X1_23 : zF RX1 23 1 1 false .int := ⟨RX1, TX1, 2, tyX1, rfl, by decide, lw_ok_of 145 (by decide +kernel) rfl, u_X1, tyX1_ok, nmX1, rfl, by decide +kernel, fun _ => rfl⟩
theorem e_X1_23 : zFr RX1 23 1 1 := ⟨RX1, TX1, 2, rfl, by decide, lw_ok_of 145 (by decide +kernel) rfl, u_X1⟩
theorem f_X6_235 : zF RX6 235 1 1 false .int := ⟨RX1, TX1, 2, tyX1, rfl, by decide, lw_ok_of 146 (by decide +kernel) rfl, u_X1, tyX1_ok, nmX1, rfl, by decide +kernel, fun h => by cases h⟩
theorem e_X6_235 : zFr RX6 235 1 1 := ⟨RX1, TX1, 2, rfl, by decide, lw_ok_of 146 (by decide +kernel) rfl, u_X1⟩
theorem f_X3_12 : zF RX3 12 3 0 true (.object "BlessedPins$Board") := ⟨RX3, TX3, 9, tyX3, rfl, by decide, lw_ok_of 160 (by decide +kernel) rfl, u_X3, tyX3_ok, nmX3, rfl, by decide +kernel, fun _ => rfl⟩
theorem e_X3_12 : zFr RX3 12 3 0 := ⟨RX3, TX3, 9, rfl, by decide, lw_ok_of 160 (by decide +kernel) rfl, u_X3⟩
theorem e_X6_257 : zFr RX6 257 3 0 := ⟨RX3, TX3, 9, rfl, by decide, lw_ok_of 161 (by decide +kernel) rfl, u_X3⟩
theorem f_X3_18 : zF RX3 18 3 1 true (.array .char) := ⟨RX3, TX3, 9, tyX3, rfl, by decide, lw_ok_of 162 (by decide +kernel) rfl, u_X3, tyX3_ok, nmX3, rfl, by decide +kernel, fun _ => rfl⟩
theorem e_X3_18 : zFr RX3 18 3 1 := ⟨RX3, TX3, 9, rfl, by decide, lw_ok_of 162 (by decide +kernel) rfl, u_X3⟩
theorem f_X3_22 : zF RX3 22 3 2 true (.array .int) := ⟨RX3, TX3, 9, tyX3, rfl, by decide, lw_ok_of 163 (by decide +kernel) rfl, u_X3, tyX3_ok, nmX3, rfl, by decide +kernel, fun _ => rfl⟩
theorem e_X3_22 : zFr RX3 22 3 2 := ⟨RX3, TX3, 9, rfl, by decide, lw_ok_of 163 (by decide +kernel) rfl, u_X3⟩
theorem f_X3_26 : zF RX3 26 3 3 false .int := ⟨RX3, TX3, 9, tyX3, rfl, by decide, lw_ok_of 164 (by decide +kernel) rfl, u_X3, tyX3_ok, nmX3, rfl, by decide +kernel, fun _ => rfl⟩
theorem e_X3_26 : zFr RX3 26 3 3 := ⟨RX3, TX3, 9, rfl, by decide, lw_ok_of 164 (by decide +kernel) rfl, u_X3⟩
theorem f_X6_238 : zF RX6 238 3 3 false .int := ⟨RX3, TX3, 9, tyX3, rfl, by decide, lw_ok_of 165 (by decide +kernel) rfl, u_X3, tyX3_ok, nmX3, rfl, by decide +kernel, fun h => by cases h⟩
theorem e_X6_238 : zFr RX6 238 3 3 := ⟨RX3, TX3, 9, rfl, by decide, lw_ok_of 165 (by decide +kernel) rfl, u_X3⟩
theorem f_X3_74 : zF RX3 74 3 4 false .int := ⟨RX3, TX3, 9, tyX3, rfl, by decide, lw_ok_of 166 (by decide +kernel) rfl, u_X3, tyX3_ok, nmX3, rfl, by decide +kernel, fun _ => rfl⟩
theorem e_X3_74 : zFr RX3 74 3 4 := ⟨RX3, TX3, 9, rfl, by decide, lw_ok_of 166 (by decide +kernel) rfl, u_X3⟩
theorem f_X3_58 : zF RX3 58 3 5 false .int := ⟨RX3, TX3, 9, tyX3, rfl, by decide, lw_ok_of 167 (by decide +kernel) rfl, u_X3, tyX3_ok, nmX3, rfl, by decide +kernel, fun _ => rfl⟩
theorem e_X3_58 : zFr RX3 58 3 5 := ⟨RX3, TX3, 9, rfl, by decide, lw_ok_of 167 (by decide +kernel) rfl, u_X3⟩
theorem f_X3_34 : zF RX3 34 3 6 false .int := ⟨RX3, TX3, 9, tyX3, rfl, by decide, lw_ok_of 168 (by decide +kernel) rfl, u_X3, tyX3_ok, nmX3, rfl, by decide +kernel, fun _ => rfl⟩
theorem e_X3_34 : zFr RX3 34 3 6 := ⟨RX3, TX3, 9, rfl, by decide, lw_ok_of 168 (by decide +kernel) rfl, u_X3⟩
theorem f_X6_263 : zF RX6 263 3 6 false .int := ⟨RX3, TX3, 9, tyX3, rfl, by decide, lw_ok_of 169 (by decide +kernel) rfl, u_X3, tyX3_ok, nmX3, rfl, by decide +kernel, fun h => by cases h⟩
theorem e_X6_263 : zFr RX6 263 3 6 := ⟨RX3, TX3, 9, rfl, by decide, lw_ok_of 169 (by decide +kernel) rfl, u_X3⟩
theorem f_X3_37 : zF RX3 37 3 7 false .int := ⟨RX3, TX3, 9, tyX3, rfl, by decide, lw_ok_of 170 (by decide +kernel) rfl, u_X3, tyX3_ok, nmX3, rfl, by decide +kernel, fun _ => rfl⟩
theorem e_X3_37 : zFr RX3 37 3 7 := ⟨RX3, TX3, 9, rfl, by decide, lw_ok_of 170 (by decide +kernel) rfl, u_X3⟩
theorem f_X6_254 : zF RX6 254 3 7 false .int := ⟨RX3, TX3, 9, tyX3, rfl, by decide, lw_ok_of 171 (by decide +kernel) rfl, u_X3, tyX3_ok, nmX3, rfl, by decide +kernel, fun h => by cases h⟩
theorem e_X6_254 : zFr RX6 254 3 7 := ⟨RX3, TX3, 9, rfl, by decide, lw_ok_of 171 (by decide +kernel) rfl, u_X3⟩
theorem f_X3_40 : zF RX3 40 3 8 false .int := ⟨RX3, TX3, 9, tyX3, rfl, by decide, lw_ok_of 172 (by decide +kernel) rfl, u_X3, tyX3_ok, nmX3, rfl, by decide +kernel, fun _ => rfl⟩
theorem e_X3_40 : zFr RX3 40 3 8 := ⟨RX3, TX3, 9, rfl, by decide, lw_ok_of 172 (by decide +kernel) rfl, u_X3⟩
theorem f_X6_251 : zF RX6 251 3 8 false .int := ⟨RX3, TX3, 9, tyX3, rfl, by decide, lw_ok_of 173 (by decide +kernel) rfl, u_X3, tyX3_ok, nmX3, rfl, by decide +kernel, fun h => by cases h⟩
theorem e_X6_251 : zFr RX6 251 3 8 := ⟨RX3, TX3, 9, rfl, by decide, lw_ok_of 173 (by decide +kernel) rfl, u_X3⟩
theorem f_X5_18 : zF RX5 18 5 0 true (.object "BlessedPins$Board") := ⟨RX5, TX5, 7, tyX5, rfl, by decide, lw_ok_of 213 (by decide +kernel) rfl, u_X5, tyX5_ok, nmX5, rfl, by decide +kernel, fun _ => rfl⟩
theorem e_X5_18 : zFr RX5 18 5 0 := ⟨RX5, TX5, 7, rfl, by decide, lw_ok_of 213 (by decide +kernel) rfl, u_X5⟩
theorem f_X5_22 : zF RX5 22 5 1 true .int := ⟨RX5, TX5, 7, tyX5, rfl, by decide, lw_ok_of 214 (by decide +kernel) rfl, u_X5, tyX5_ok, nmX5, rfl, by decide +kernel, fun _ => rfl⟩
theorem e_X5_22 : zFr RX5 22 5 1 := ⟨RX5, TX5, 7, rfl, by decide, lw_ok_of 214 (by decide +kernel) rfl, u_X5⟩
theorem f_X5_9 : zF RX5 9 5 2 true (.array .int) := ⟨RX5, TX5, 7, tyX5, rfl, by decide, lw_ok_of 215 (by decide +kernel) rfl, u_X5, tyX5_ok, nmX5, rfl, by decide +kernel, fun _ => rfl⟩
theorem e_X5_9 : zFr RX5 9 5 2 := ⟨RX5, TX5, 7, rfl, by decide, lw_ok_of 215 (by decide +kernel) rfl, u_X5⟩
theorem f_X5_15 : zF RX5 15 5 3 true (.array .int) := ⟨RX5, TX5, 7, tyX5, rfl, by decide, lw_ok_of 216 (by decide +kernel) rfl, u_X5, tyX5_ok, nmX5, rfl, by decide +kernel, fun _ => rfl⟩
theorem e_X5_15 : zFr RX5 15 5 3 := ⟨RX5, TX5, 7, rfl, by decide, lw_ok_of 216 (by decide +kernel) rfl, u_X5⟩
theorem f_X5_41 : zF RX5 41 5 4 false .int := ⟨RX5, TX5, 7, tyX5, rfl, by decide, lw_ok_of 217 (by decide +kernel) rfl, u_X5, tyX5_ok, nmX5, rfl, by decide +kernel, fun _ => rfl⟩
theorem e_X5_41 : zFr RX5 41 5 4 := ⟨RX5, TX5, 7, rfl, by decide, lw_ok_of 217 (by decide +kernel) rfl, u_X5⟩
theorem f_X5_44 : zF RX5 44 5 5 false .int := ⟨RX5, TX5, 7, tyX5, rfl, by decide, lw_ok_of 218 (by decide +kernel) rfl, u_X5, tyX5_ok, nmX5, rfl, by decide +kernel, fun _ => rfl⟩
theorem e_X5_44 : zFr RX5 44 5 5 := ⟨RX5, TX5, 7, rfl, by decide, lw_ok_of 218 (by decide +kernel) rfl, u_X5⟩
theorem f_X5_85 : zF RX5 85 5 6 false .int := ⟨RX5, TX5, 7, tyX5, rfl, by decide, lw_ok_of 219 (by decide +kernel) rfl, u_X5, tyX5_ok, nmX5, rfl, by decide +kernel, fun _ => rfl⟩
theorem e_X5_85 : zFr RX5 85 5 6 := ⟨RX5, TX5, 7, rfl, by decide, lw_ok_of 219 (by decide +kernel) rfl, u_X5⟩
theorem f_X6_141 : zF RX6 141 5 6 false .int := ⟨RX5, TX5, 7, tyX5, rfl, by decide, lw_ok_of 220 (by decide +kernel) rfl, u_X5, tyX5_ok, nmX5, rfl, by decide +kernel, fun h => by cases h⟩
theorem e_X6_141 : zFr RX6 141 5 6 := ⟨RX5, TX5, 7, rfl, by decide, lw_ok_of 220 (by decide +kernel) rfl, u_X5⟩
theorem f_X2_26 : zF RX2 26 2 0 true (.object "BlessedPins$Board") := ⟨RX2, TX2, 5, tyX2, rfl, by decide, lw_ok_of 236 (by decide +kernel) rfl, u_X2, tyX2_ok, nmX2, rfl, by decide +kernel, fun _ => rfl⟩
theorem e_X2_26 : zFr RX2 26 2 0 := ⟨RX2, TX2, 5, rfl, by decide, lw_ok_of 236 (by decide +kernel) rfl, u_X2⟩
theorem f_X2_11 : zF RX2 11 2 1 true (.array (.object "BlessedPins$SuspectBoard")) := ⟨RX2, TX2, 5, tyX2, rfl, by decide, lw_ok_of 237 (by decide +kernel) rfl, u_X2, tyX2_ok, nmX2, rfl, by decide +kernel, fun _ => rfl⟩
theorem e_X2_11 : zFr RX2 11 2 1 := ⟨RX2, TX2, 5, rfl, by decide, lw_ok_of 237 (by decide +kernel) rfl, u_X2⟩
theorem f_X2_19 : zF RX2 19 2 2 true (.array (.array .int)) := ⟨RX2, TX2, 5, tyX2, rfl, by decide, lw_ok_of 238 (by decide +kernel) rfl, u_X2, tyX2_ok, nmX2, rfl, by decide +kernel, fun _ => rfl⟩
theorem e_X2_19 : zFr RX2 19 2 2 := ⟨RX2, TX2, 5, rfl, by decide, lw_ok_of 238 (by decide +kernel) rfl, u_X2⟩
theorem f_X2_22 : zF RX2 22 2 3 true (.array .int) := ⟨RX2, TX2, 5, tyX2, rfl, by decide, lw_ok_of 239 (by decide +kernel) rfl, u_X2, tyX2_ok, nmX2, rfl, by decide +kernel, fun _ => rfl⟩
theorem e_X2_22 : zFr RX2 22 2 3 := ⟨RX2, TX2, 5, rfl, by decide, lw_ok_of 239 (by decide +kernel) rfl, u_X2⟩
theorem f_X2_96 : zF RX2 96 2 4 false .int := ⟨RX2, TX2, 5, tyX2, rfl, by decide, lw_ok_of 240 (by decide +kernel) rfl, u_X2, tyX2_ok, nmX2, rfl, by decide +kernel, fun _ => rfl⟩
theorem e_X2_96 : zFr RX2 96 2 4 := ⟨RX2, TX2, 5, rfl, by decide, lw_ok_of 240 (by decide +kernel) rfl, u_X2⟩
theorem f_X6_31 : zF RX6 31 6 0 true (.object "BlessedPins$State") := ⟨RX6, TX6, 4, tyX6, rfl, by decide, lw_ok_of 252 (by decide +kernel) rfl, u_X6, tyX6_ok, nmX6, rfl, by decide +kernel, fun _ => rfl⟩
theorem e_X6_31 : zFr RX6 31 6 0 := ⟨RX6, TX6, 4, rfl, by decide, lw_ok_of 252 (by decide +kernel) rfl, u_X6⟩
theorem f_X6_38 : zF RX6 38 6 1 true (.object "BlessedPins$Meter") := ⟨RX6, TX6, 4, tyX6, rfl, by decide, lw_ok_of 253 (by decide +kernel) rfl, u_X6, tyX6_ok, nmX6, rfl, by decide +kernel, fun _ => rfl⟩
theorem e_X6_38 : zFr RX6 38 6 1 := ⟨RX6, TX6, 4, rfl, by decide, lw_ok_of 253 (by decide +kernel) rfl, u_X6⟩
theorem f_X6_12 : zF RX6 12 6 2 true (.object "BlessedPins$History") := ⟨RX6, TX6, 4, tyX6, rfl, by decide, lw_ok_of 254 (by decide +kernel) rfl, u_X6, tyX6_ok, nmX6, rfl, by decide +kernel, fun _ => rfl⟩
theorem e_X6_12 : zFr RX6 12 6 2 := ⟨RX6, TX6, 4, rfl, by decide, lw_ok_of 254 (by decide +kernel) rfl, u_X6⟩
theorem f_X6_19 : zF RX6 19 6 3 true (.object "BlessedPins$Program") := ⟨RX6, TX6, 4, tyX6, rfl, by decide, lw_ok_of 255 (by decide +kernel) rfl, u_X6, tyX6_ok, nmX6, rfl, by decide +kernel, fun _ => rfl⟩
theorem e_X6_19 : zFr RX6 19 6 3 := ⟨RX6, TX6, 4, rfl, by decide, lw_ok_of 255 (by decide +kernel) rfl, u_X6⟩
theorem g_J0_38 : Cond.fieldLink RJ0 38 "java/lang/String" "COMPACT_STRINGS" "Z" ∈ lw_ok := lw_ok_of 707 (by decide +kernel) rfl
theorem g_J0_1053 : Cond.fieldLink RJ0 1053 "jdk/internal/util/Preconditions" "SIOOBE_FORMATTER" "Ljava/util/function/BiFunction;" ∈ lw_ok := lw_ok_of 723 (by decide +kernel) rfl
theorem g_J2_44 : Cond.fieldLink RJ2 44 "java/lang/StringUTF16" "$assertionsDisabled" "Z" ∈ lw_ok := lw_ok_of 741 (by decide +kernel) rfl
theorem g_J2_59 : Cond.fieldLink RJ2 59 "java/lang/StringUTF16" "HI_BYTE_SHIFT" "I" ∈ lw_ok := lw_ok_of 743 (by decide +kernel) rfl
theorem g_J2_63 : Cond.fieldLink RJ2 63 "java/lang/StringUTF16" "LO_BYTE_SHIFT" "I" ∈ lw_ok := lw_ok_of 745 (by decide +kernel) rfl
theorem g_X3_77 : Cond.fieldLink RX3 77 RX3 "MOST_NUMBERS" "[I" ∈ lw_ok := lw_ok_of 747 (by decide +kernel) rfl
theorem g_X3_83 : Cond.fieldLink RX3 83 RX3 "FEWEST_NUMBERS" "[I" ∈ lw_ok := lw_ok_of 753 (by decide +kernel) rfl
theorem f_X7_7 : zF RX7 7 7 0 true (.array .int) := ⟨RX7, TX7, 15, tyX7, rfl, by decide, lw_ok_of 806 (by decide +kernel) rfl, u_X7, tyX7_ok, nmX7, rfl, by decide +kernel, fun _ => rfl⟩
theorem e_X7_7 : zFr RX7 7 7 0 := ⟨RX7, TX7, 15, rfl, by decide, lw_ok_of 806 (by decide +kernel) rfl, u_X7⟩
theorem f_X7_13 : zF RX7 13 7 1 true (.array .int) := ⟨RX7, TX7, 15, tyX7, rfl, by decide, lw_ok_of 807 (by decide +kernel) rfl, u_X7, tyX7_ok, nmX7, rfl, by decide +kernel, fun _ => rfl⟩
theorem e_X7_13 : zFr RX7 13 7 1 := ⟨RX7, TX7, 15, rfl, by decide, lw_ok_of 807 (by decide +kernel) rfl, u_X7⟩
theorem f_X7_16 : zF RX7 16 7 2 true (.array .int) := ⟨RX7, TX7, 15, tyX7, rfl, by decide, lw_ok_of 808 (by decide +kernel) rfl, u_X7, tyX7_ok, nmX7, rfl, by decide +kernel, fun _ => rfl⟩
theorem e_X7_16 : zFr RX7 16 7 2 := ⟨RX7, TX7, 15, rfl, by decide, lw_ok_of 808 (by decide +kernel) rfl, u_X7⟩
theorem f_X7_31 : zF RX7 31 7 3 false .int := ⟨RX7, TX7, 15, tyX7, rfl, by decide, lw_ok_of 809 (by decide +kernel) rfl, u_X7, tyX7_ok, nmX7, rfl, by decide +kernel, fun _ => rfl⟩
theorem e_X7_31 : zFr RX7 31 7 3 := ⟨RX7, TX7, 15, rfl, by decide, lw_ok_of 809 (by decide +kernel) rfl, u_X7⟩
theorem f_X7_19 : zF RX7 19 7 4 true (.array .int) := ⟨RX7, TX7, 15, tyX7, rfl, by decide, lw_ok_of 810 (by decide +kernel) rfl, u_X7, tyX7_ok, nmX7, rfl, by decide +kernel, fun _ => rfl⟩
theorem e_X7_19 : zFr RX7 19 7 4 := ⟨RX7, TX7, 15, rfl, by decide, lw_ok_of 810 (by decide +kernel) rfl, u_X7⟩
theorem f_X7_22 : zF RX7 22 7 5 true (.array .int) := ⟨RX7, TX7, 15, tyX7, rfl, by decide, lw_ok_of 811 (by decide +kernel) rfl, u_X7, tyX7_ok, nmX7, rfl, by decide +kernel, fun _ => rfl⟩
theorem e_X7_22 : zFr RX7 22 7 5 := ⟨RX7, TX7, 15, rfl, by decide, lw_ok_of 811 (by decide +kernel) rfl, u_X7⟩
theorem f_X7_25 : zF RX7 25 7 6 true (.array .int) := ⟨RX7, TX7, 15, tyX7, rfl, by decide, lw_ok_of 812 (by decide +kernel) rfl, u_X7, tyX7_ok, nmX7, rfl, by decide +kernel, fun _ => rfl⟩
theorem e_X7_25 : zFr RX7 25 7 6 := ⟨RX7, TX7, 15, rfl, by decide, lw_ok_of 812 (by decide +kernel) rfl, u_X7⟩
theorem f_X7_191 : zF RX7 191 7 7 false .int := ⟨RX7, TX7, 15, tyX7, rfl, by decide, lw_ok_of 813 (by decide +kernel) rfl, u_X7, tyX7_ok, nmX7, rfl, by decide +kernel, fun _ => rfl⟩
theorem e_X7_191 : zFr RX7 191 7 7 := ⟨RX7, TX7, 15, rfl, by decide, lw_ok_of 813 (by decide +kernel) rfl, u_X7⟩
theorem f_X7_194 : zF RX7 194 7 8 false .int := ⟨RX7, TX7, 15, tyX7, rfl, by decide, lw_ok_of 814 (by decide +kernel) rfl, u_X7, tyX7_ok, nmX7, rfl, by decide +kernel, fun _ => rfl⟩
theorem e_X7_194 : zFr RX7 194 7 8 := ⟨RX7, TX7, 15, rfl, by decide, lw_ok_of 814 (by decide +kernel) rfl, u_X7⟩
theorem f_X7_210 : zF RX7 210 7 9 false .int := ⟨RX7, TX7, 15, tyX7, rfl, by decide, lw_ok_of 815 (by decide +kernel) rfl, u_X7, tyX7_ok, nmX7, rfl, by decide +kernel, fun _ => rfl⟩
theorem e_X7_210 : zFr RX7 210 7 9 := ⟨RX7, TX7, 15, rfl, by decide, lw_ok_of 815 (by decide +kernel) rfl, u_X7⟩
theorem f_X7_204 : zF RX7 204 7 10 false .int := ⟨RX7, TX7, 15, tyX7, rfl, by decide, lw_ok_of 816 (by decide +kernel) rfl, u_X7, tyX7_ok, nmX7, rfl, by decide +kernel, fun _ => rfl⟩
theorem e_X7_204 : zFr RX7 204 7 10 := ⟨RX7, TX7, 15, rfl, by decide, lw_ok_of 816 (by decide +kernel) rfl, u_X7⟩
theorem f_X7_28 : zF RX7 28 7 11 true (.array .int) := ⟨RX7, TX7, 15, tyX7, rfl, by decide, lw_ok_of 817 (by decide +kernel) rfl, u_X7, tyX7_ok, nmX7, rfl, by decide +kernel, fun _ => rfl⟩
theorem e_X7_28 : zFr RX7 28 7 11 := ⟨RX7, TX7, 15, rfl, by decide, lw_ok_of 817 (by decide +kernel) rfl, u_X7⟩
theorem f_X7_244 : zF RX7 244 7 12 false .int := ⟨RX7, TX7, 15, tyX7, rfl, by decide, lw_ok_of 818 (by decide +kernel) rfl, u_X7, tyX7_ok, nmX7, rfl, by decide +kernel, fun _ => rfl⟩
theorem e_X7_244 : zFr RX7 244 7 12 := ⟨RX7, TX7, 15, rfl, by decide, lw_ok_of 818 (by decide +kernel) rfl, u_X7⟩
theorem f_X7_247 : zF RX7 247 7 13 false .int := ⟨RX7, TX7, 15, tyX7, rfl, by decide, lw_ok_of 819 (by decide +kernel) rfl, u_X7, tyX7_ok, nmX7, rfl, by decide +kernel, fun _ => rfl⟩
theorem e_X7_247 : zFr RX7 247 7 13 := ⟨RX7, TX7, 15, rfl, by decide, lw_ok_of 819 (by decide +kernel) rfl, u_X7⟩
theorem f_X7_250 : zF RX7 250 7 14 false .int := ⟨RX7, TX7, 15, tyX7, rfl, by decide, lw_ok_of 820 (by decide +kernel) rfl, u_X7, tyX7_ok, nmX7, rfl, by decide +kernel, fun _ => rfl⟩
theorem e_X7_250 : zFr RX7 250 7 14 := ⟨RX7, TX7, 15, rfl, by decide, lw_ok_of 820 (by decide +kernel) rfl, u_X7⟩
theorem g_J0_9 : Cond.fieldLink RJ0 9 "java/lang/String" "value" "[B" ∈ lw_ok := lw_ok_of 1219 (by decide +kernel) rfl
theorem g_J0_15 : Cond.fieldLink RJ0 15 "java/lang/String" "coder" "B" ∈ lw_ok := lw_ok_of 1220 (by decide +kernel) rfl
end
