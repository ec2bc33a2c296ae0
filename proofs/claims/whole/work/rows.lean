section
-- ===== PART A: goes FIRST, ahead of the names: the tables' words, and 'selects' of the private methods out of them =====
/-- a private method of a class that the tables say can be made, by its rows of tables_1 -/
def lw_okq (q : MethodName × Nat) : Prop := (q.1.cls ≠ "java/lang/invoke/MethodHandle" ∧ q.1.cls ≠ "java/lang/invoke/VarHandle") ∧ Cond.instantiable q.1.cls q.2 ∈ tables_1 ∧ Cond.privateMethod q.1 ∈ tables_1 ∧ Cond.instanceMethod q.1 ∈ tables_1
theorem lw_p0 : lw_okq (⟨"CueBook", "countClashingPairs", "()I"⟩, 8) := ⟨⟨by decide +kernel, by decide +kernel⟩, List.mem_of_getElem? (i := 31) (by decide +kernel), List.mem_of_getElem? (i := 94) (by decide +kernel), List.mem_of_getElem? (i := 95) (by decide +kernel)⟩
theorem lw_p1 : lw_okq (⟨"CueBook", "findCasting", "()V"⟩, 8) := ⟨⟨by decide +kernel, by decide +kernel⟩, List.mem_of_getElem? (i := 31) (by decide +kernel), List.mem_of_getElem? (i := 130) (by decide +kernel), List.mem_of_getElem? (i := 131) (by decide +kernel)⟩
theorem lw_p2 : lw_okq (⟨"CueBook", "orderStays", "()V"⟩, 8) := ⟨⟨by decide +kernel, by decide +kernel⟩, List.mem_of_getElem? (i := 31) (by decide +kernel), List.mem_of_getElem? (i := 142) (by decide +kernel), List.mem_of_getElem? (i := 143) (by decide +kernel)⟩
theorem lw_p3 : lw_okq (⟨"CueBook", "putInOrder", "(LCueBook$Stay;)V"⟩, 8) := ⟨⟨by decide +kernel, by decide +kernel⟩, List.mem_of_getElem? (i := 31) (by decide +kernel), List.mem_of_getElem? (i := 151) (by decide +kernel), List.mem_of_getElem? (i := 152) (by decide +kernel)⟩
theorem lw_p4 : lw_okq (⟨"java/util/ArrayList", "rangeCheckForAdd", "(I)V"⟩, 3) := ⟨⟨by decide +kernel, by decide +kernel⟩, List.mem_of_getElem? (i := 39) (by decide +kernel), List.mem_of_getElem? (i := 159) (by decide +kernel), List.mem_of_getElem? (i := 160) (by decide +kernel)⟩
theorem lw_p5 : lw_okq (⟨"java/lang/Throwable", "fillInStackTrace", "(I)Ljava/lang/Throwable;"⟩, 6) := ⟨⟨by decide +kernel, by decide +kernel⟩, List.mem_of_getElem? (i := 201) (by decide +kernel), List.mem_of_getElem? (i := 199) (by decide +kernel), List.mem_of_getElem? (i := 200) (by decide +kernel)⟩
theorem lw_p6 : lw_okq (⟨"java/util/ArrayList", "outOfBoundsMsg", "(I)Ljava/lang/String;"⟩, 3) := ⟨⟨by decide +kernel, by decide +kernel⟩, List.mem_of_getElem? (i := 39) (by decide +kernel), List.mem_of_getElem? (i := 204) (by decide +kernel), List.mem_of_getElem? (i := 205) (by decide +kernel)⟩
theorem lw_p7 : lw_okq (⟨"java/util/ArrayList", "grow", "()[Ljava/lang/Object;"⟩, 3) := ⟨⟨by decide +kernel, by decide +kernel⟩, List.mem_of_getElem? (i := 39) (by decide +kernel), List.mem_of_getElem? (i := 493) (by decide +kernel), List.mem_of_getElem? (i := 494) (by decide +kernel)⟩
theorem lw_p8 : lw_okq (⟨"java/util/ArrayList", "grow", "(I)[Ljava/lang/Object;"⟩, 3) := ⟨⟨by decide +kernel, by decide +kernel⟩, List.mem_of_getElem? (i := 39) (by decide +kernel), List.mem_of_getElem? (i := 497) (by decide +kernel), List.mem_of_getElem? (i := 498) (by decide +kernel)⟩
theorem lw_p9 : lw_okq (⟨"CueBook", "namePlayer", "(LCueBook$Stay;)V"⟩, 8) := ⟨⟨by decide +kernel, by decide +kernel⟩, List.mem_of_getElem? (i := 31) (by decide +kernel), List.mem_of_getElem? (i := 531) (by decide +kernel), List.mem_of_getElem? (i := 532) (by decide +kernel)⟩
theorem lw_p10 : lw_okq (⟨"CueBook", "canDo", "(LCueBook$Player;LCueBook$Stay;)Z"⟩, 8) := ⟨⟨by decide +kernel, by decide +kernel⟩, List.mem_of_getElem? (i := 31) (by decide +kernel), List.mem_of_getElem? (i := 535) (by decide +kernel), List.mem_of_getElem? (i := 536) (by decide +kernel)⟩
theorem lw_p11 : lw_okq (⟨"CueBook", "canComeToBeginning", "(LCueBook$Player;LCueBook$Stay;)Z"⟩, 8) := ⟨⟨by decide +kernel, by decide +kernel⟩, List.mem_of_getElem? (i := 31) (by decide +kernel), List.mem_of_getElem? (i := 539) (by decide +kernel), List.mem_of_getElem? (i := 540) (by decide +kernel)⟩
theorem lw_p12 : lw_okq (⟨"CueBook", "placeOfHeld", "(LCueBook$Player;I)I"⟩, 8) := ⟨⟨by decide +kernel, by decide +kernel⟩, List.mem_of_getElem? (i := 31) (by decide +kernel), List.mem_of_getElem? (i := 543) (by decide +kernel), List.mem_of_getElem? (i := 544) (by decide +kernel)⟩
theorem lw_p13 : lw_okq (⟨"CueBook", "canHold", "(LCueBook$Player;LCueBook$Puppet;I)Z"⟩, 8) := ⟨⟨by decide +kernel, by decide +kernel⟩, List.mem_of_getElem? (i := 31) (by decide +kernel), List.mem_of_getElem? (i := 557) (by decide +kernel), List.mem_of_getElem? (i := 558) (by decide +kernel)⟩
theorem lw_p14 : lw_okq (⟨"java/util/ArrayList", "add", "(Ljava/lang/Object;[Ljava/lang/Object;I)V"⟩, 3) := ⟨⟨by decide +kernel, by decide +kernel⟩, List.mem_of_getElem? (i := 39) (by decide +kernel), List.mem_of_getElem? (i := 676) (by decide +kernel), List.mem_of_getElem? (i := 677) (by decide +kernel)⟩
theorem lw_p15 : lw_okq (⟨"CueBook", "puppetNumbered", "(I)LCueBook$Puppet;"⟩, 8) := ⟨⟨by decide +kernel, by decide +kernel⟩, List.mem_of_getElem? (i := 31) (by decide +kernel), List.mem_of_getElem? (i := 719) (by decide +kernel), List.mem_of_getElem? (i := 720) (by decide +kernel)⟩
def lw_privs_1 : List (MethodName × Nat) := [(⟨"CueBook", "countClashingPairs", "()I"⟩, 8), (⟨"CueBook", "findCasting", "()V"⟩, 8), (⟨"CueBook", "orderStays", "()V"⟩, 8), (⟨"CueBook", "putInOrder", "(LCueBook$Stay;)V"⟩, 8), (⟨"java/util/ArrayList", "rangeCheckForAdd", "(I)V"⟩, 3), (⟨"java/lang/Throwable", "fillInStackTrace", "(I)Ljava/lang/Throwable;"⟩, 6), (⟨"java/util/ArrayList", "outOfBoundsMsg", "(I)Ljava/lang/String;"⟩, 3), (⟨"java/util/ArrayList", "grow", "()[Ljava/lang/Object;"⟩, 3), (⟨"java/util/ArrayList", "grow", "(I)[Ljava/lang/Object;"⟩, 3), (⟨"CueBook", "namePlayer", "(LCueBook$Stay;)V"⟩, 8), (⟨"CueBook", "canDo", "(LCueBook$Player;LCueBook$Stay;)Z"⟩, 8), (⟨"CueBook", "canComeToBeginning", "(LCueBook$Player;LCueBook$Stay;)Z"⟩, 8), (⟨"CueBook", "placeOfHeld", "(LCueBook$Player;I)I"⟩, 8), (⟨"CueBook", "canHold", "(LCueBook$Player;LCueBook$Puppet;I)Z"⟩, 8), (⟨"java/util/ArrayList", "add", "(Ljava/lang/Object;[Ljava/lang/Object;I)V"⟩, 3), (⟨"CueBook", "puppetNumbered", "(I)LCueBook$Puppet;"⟩, 8)]
theorem lw_r1 : ∀ q ∈ lw_privs_1, lw_okq q := List.forall_mem_cons.mpr ⟨lw_p0, List.forall_mem_cons.mpr ⟨lw_p1, List.forall_mem_cons.mpr ⟨lw_p2, List.forall_mem_cons.mpr ⟨lw_p3, List.forall_mem_cons.mpr ⟨lw_p4, List.forall_mem_cons.mpr ⟨lw_p5, List.forall_mem_cons.mpr ⟨lw_p6, List.forall_mem_cons.mpr ⟨lw_p7, List.forall_mem_cons.mpr ⟨lw_p8, List.forall_mem_cons.mpr ⟨lw_p9, List.forall_mem_cons.mpr ⟨lw_p10, List.forall_mem_cons.mpr ⟨lw_p11, List.forall_mem_cons.mpr ⟨lw_p12, List.forall_mem_cons.mpr ⟨lw_p13, List.forall_mem_cons.mpr ⟨lw_p14, List.forall_mem_cons.mpr ⟨lw_p15, fun _ h => absurd h List.not_mem_nil⟩⟩⟩⟩⟩⟩⟩⟩⟩⟩⟩⟩⟩⟩⟩⟩
theorem lw_p16 : lw_okq (⟨"CueBook", "write", "(LCueBook$Cue;)I"⟩, 8) := ⟨⟨by decide +kernel, by decide +kernel⟩, List.mem_of_getElem? (i := 31) (by decide +kernel), List.mem_of_getElem? (i := 780) (by decide +kernel), List.mem_of_getElem? (i := 781) (by decide +kernel)⟩
theorem lw_p17 : lw_okq (⟨"CueBook$Puppet", "isScriptRight", "()Z"⟩, 8) := ⟨⟨by decide +kernel, by decide +kernel⟩, List.mem_of_getElem? (i := 628) (by decide +kernel), List.mem_of_getElem? (i := 793) (by decide +kernel), List.mem_of_getElem? (i := 794) (by decide +kernel)⟩
theorem lw_p18 : lw_okq (⟨"CueBook$Path", "walk", "(III)V"⟩, 7) := ⟨⟨by decide +kernel, by decide +kernel⟩, List.mem_of_getElem? (i := 797) (by decide +kernel), List.mem_of_getElem? (i := 834) (by decide +kernel), List.mem_of_getElem? (i := 835) (by decide +kernel)⟩
theorem lw_p19 : lw_okq (⟨"java/util/ArrayList", "fastRemove", "([Ljava/lang/Object;I)V"⟩, 3) := ⟨⟨by decide +kernel, by decide +kernel⟩, List.mem_of_getElem? (i := 39) (by decide +kernel), List.mem_of_getElem? (i := 842) (by decide +kernel), List.mem_of_getElem? (i := 843) (by decide +kernel)⟩
theorem lw_p20 : lw_okq (⟨"CueBook$Puppet", "playScript", "()V"⟩, 8) := ⟨⟨by decide +kernel, by decide +kernel⟩, List.mem_of_getElem? (i := 628) (by decide +kernel), List.mem_of_getElem? (i := 846) (by decide +kernel), List.mem_of_getElem? (i := 847) (by decide +kernel)⟩
theorem lw_p21 : lw_okq (⟨"CueBook$Puppet", "playBeats", "(LCueBook$Path;II)V"⟩, 8) := ⟨⟨by decide +kernel, by decide +kernel⟩, List.mem_of_getElem? (i := 628) (by decide +kernel), List.mem_of_getElem? (i := 851) (by decide +kernel), List.mem_of_getElem? (i := 852) (by decide +kernel)⟩
theorem lw_p22 : lw_okq (⟨"CueBook$Puppet", "recordStay", "(LCueBook$Cue;)V"⟩, 8) := ⟨⟨by decide +kernel, by decide +kernel⟩, List.mem_of_getElem? (i := 628) (by decide +kernel), List.mem_of_getElem? (i := 863) (by decide +kernel), List.mem_of_getElem? (i := 864) (by decide +kernel)⟩
theorem lw_p23 : lw_okq (⟨"CueBook", "forgetWhatWasFound", "()V"⟩, 8) := ⟨⟨by decide +kernel, by decide +kernel⟩, List.mem_of_getElem? (i := 31) (by decide +kernel), List.mem_of_getElem? (i := 900) (by decide +kernel), List.mem_of_getElem? (i := 901) (by decide +kernel)⟩
theorem lw_p24 : lw_okq (⟨"CueBook", "cueNumbered", "(I)LCueBook$Cue;"⟩, 8) := ⟨⟨by decide +kernel, by decide +kernel⟩, List.mem_of_getElem? (i := 31) (by decide +kernel), List.mem_of_getElem? (i := 932) (by decide +kernel), List.mem_of_getElem? (i := 933) (by decide +kernel)⟩
theorem lw_p25 : lw_okq (⟨"CueBook", "playerNumbered", "(I)LCueBook$Player;"⟩, 8) := ⟨⟨by decide +kernel, by decide +kernel⟩, List.mem_of_getElem? (i := 31) (by decide +kernel), List.mem_of_getElem? (i := 1016) (by decide +kernel), List.mem_of_getElem? (i := 1017) (by decide +kernel)⟩
theorem lw_p26 : lw_okq (⟨"CueBookModel", "fail", "(I)I"⟩, 22) := ⟨⟨by decide +kernel, by decide +kernel⟩, List.mem_of_getElem? (i := 1044) (by decide +kernel), List.mem_of_getElem? (i := 1129) (by decide +kernel), List.mem_of_getElem? (i := 1130) (by decide +kernel)⟩
theorem lw_p27 : lw_okq (⟨"CueBookModel", "written", "(IIIII)I"⟩, 22) := ⟨⟨by decide +kernel, by decide +kernel⟩, List.mem_of_getElem? (i := 1044) (by decide +kernel), List.mem_of_getElem? (i := 1141) (by decide +kernel), List.mem_of_getElem? (i := 1142) (by decide +kernel)⟩
theorem lw_p28 : lw_okq (⟨"CueBookModel", "isPuppet", "(I)Z"⟩, 22) := ⟨⟨by decide +kernel, by decide +kernel⟩, List.mem_of_getElem? (i := 1044) (by decide +kernel), List.mem_of_getElem? (i := 1145) (by decide +kernel), List.mem_of_getElem? (i := 1146) (by decide +kernel)⟩
theorem lw_p29 : lw_okq (⟨"CueBookModel", "write", "(IIIII)I"⟩, 22) := ⟨⟨by decide +kernel, by decide +kernel⟩, List.mem_of_getElem? (i := 1044) (by decide +kernel), List.mem_of_getElem? (i := 1152) (by decide +kernel), List.mem_of_getElem? (i := 1153) (by decide +kernel)⟩
theorem lw_p30 : lw_okq (⟨"CueBookModel", "areRight", "(I)Z"⟩, 22) := ⟨⟨by decide +kernel, by decide +kernel⟩, List.mem_of_getElem? (i := 1044) (by decide +kernel), List.mem_of_getElem? (i := 1156) (by decide +kernel), List.mem_of_getElem? (i := 1157) (by decide +kernel)⟩
theorem lw_p31 : lw_okq (⟨"CueBookModel", "behind", "(II)I"⟩, 22) := ⟨⟨by decide +kernel, by decide +kernel⟩, List.mem_of_getElem? (i := 1044) (by decide +kernel), List.mem_of_getElem? (i := 1160) (by decide +kernel), List.mem_of_getElem? (i := 1161) (by decide +kernel)⟩
def lw_privs_2 : List (MethodName × Nat) := [(⟨"CueBook", "write", "(LCueBook$Cue;)I"⟩, 8), (⟨"CueBook$Puppet", "isScriptRight", "()Z"⟩, 8), (⟨"CueBook$Path", "walk", "(III)V"⟩, 7), (⟨"java/util/ArrayList", "fastRemove", "([Ljava/lang/Object;I)V"⟩, 3), (⟨"CueBook$Puppet", "playScript", "()V"⟩, 8), (⟨"CueBook$Puppet", "playBeats", "(LCueBook$Path;II)V"⟩, 8), (⟨"CueBook$Puppet", "recordStay", "(LCueBook$Cue;)V"⟩, 8), (⟨"CueBook", "forgetWhatWasFound", "()V"⟩, 8), (⟨"CueBook", "cueNumbered", "(I)LCueBook$Cue;"⟩, 8), (⟨"CueBook", "playerNumbered", "(I)LCueBook$Player;"⟩, 8), (⟨"CueBookModel", "fail", "(I)I"⟩, 22), (⟨"CueBookModel", "written", "(IIIII)I"⟩, 22), (⟨"CueBookModel", "isPuppet", "(I)Z"⟩, 22), (⟨"CueBookModel", "write", "(IIIII)I"⟩, 22), (⟨"CueBookModel", "areRight", "(I)Z"⟩, 22), (⟨"CueBookModel", "behind", "(II)I"⟩, 22)]
theorem lw_r2 : ∀ q ∈ lw_privs_2, lw_okq q := List.forall_mem_cons.mpr ⟨lw_p16, List.forall_mem_cons.mpr ⟨lw_p17, List.forall_mem_cons.mpr ⟨lw_p18, List.forall_mem_cons.mpr ⟨lw_p19, List.forall_mem_cons.mpr ⟨lw_p20, List.forall_mem_cons.mpr ⟨lw_p21, List.forall_mem_cons.mpr ⟨lw_p22, List.forall_mem_cons.mpr ⟨lw_p23, List.forall_mem_cons.mpr ⟨lw_p24, List.forall_mem_cons.mpr ⟨lw_p25, List.forall_mem_cons.mpr ⟨lw_p26, List.forall_mem_cons.mpr ⟨lw_p27, List.forall_mem_cons.mpr ⟨lw_p28, List.forall_mem_cons.mpr ⟨lw_p29, List.forall_mem_cons.mpr ⟨lw_p30, List.forall_mem_cons.mpr ⟨lw_p31, fun _ h => absurd h List.not_mem_nil⟩⟩⟩⟩⟩⟩⟩⟩⟩⟩⟩⟩⟩⟩⟩⟩
theorem lw_p32 : lw_okq (⟨"CueBookModel", "isBehind", "(II)Z"⟩, 22) := ⟨⟨by decide +kernel, by decide +kernel⟩, List.mem_of_getElem? (i := 1044) (by decide +kernel), List.mem_of_getElem? (i := 1164) (by decide +kernel), List.mem_of_getElem? (i := 1165) (by decide +kernel)⟩
theorem lw_p33 : lw_okq (⟨"CueBookModel", "beat", "(I)I"⟩, 22) := ⟨⟨by decide +kernel, by decide +kernel⟩, List.mem_of_getElem? (i := 1044) (by decide +kernel), List.mem_of_getElem? (i := 1168) (by decide +kernel), List.mem_of_getElem? (i := 1169) (by decide +kernel)⟩
theorem lw_p34 : lw_okq (⟨"CueBookModel", "kind", "(I)I"⟩, 22) := ⟨⟨by decide +kernel, by decide +kernel⟩, List.mem_of_getElem? (i := 1044) (by decide +kernel), List.mem_of_getElem? (i := 1172) (by decide +kernel), List.mem_of_getElem? (i := 1173) (by decide +kernel)⟩
theorem lw_p35 : lw_okq (⟨"CueBookModel", "isCue", "(I)Z"⟩, 22) := ⟨⟨by decide +kernel, by decide +kernel⟩, List.mem_of_getElem? (i := 1044) (by decide +kernel), List.mem_of_getElem? (i := 1193) (by decide +kernel), List.mem_of_getElem? (i := 1194) (by decide +kernel)⟩
theorem lw_p36 : lw_okq (⟨"CueBookModel", "whyBeat", "(I)I"⟩, 22) := ⟨⟨by decide +kernel, by decide +kernel⟩, List.mem_of_getElem? (i := 1044) (by decide +kernel), List.mem_of_getElem? (i := 1209) (by decide +kernel), List.mem_of_getElem? (i := 1210) (by decide +kernel)⟩
theorem lw_p37 : lw_okq (⟨"CueBookModel", "workOut", "()V"⟩, 22) := ⟨⟨by decide +kernel, by decide +kernel⟩, List.mem_of_getElem? (i := 1044) (by decide +kernel), List.mem_of_getElem? (i := 1213) (by decide +kernel), List.mem_of_getElem? (i := 1214) (by decide +kernel)⟩
theorem lw_p38 : lw_okq (⟨"CueBookModel", "workOut", "(I)V"⟩, 22) := ⟨⟨by decide +kernel, by decide +kernel⟩, List.mem_of_getElem? (i := 1044) (by decide +kernel), List.mem_of_getElem? (i := 1217) (by decide +kernel), List.mem_of_getElem? (i := 1218) (by decide +kernel)⟩
theorem lw_p39 : lw_okq (⟨"CueBookModel", "castAll", "()V"⟩, 22) := ⟨⟨by decide +kernel, by decide +kernel⟩, List.mem_of_getElem? (i := 1044) (by decide +kernel), List.mem_of_getElem? (i := 1224) (by decide +kernel), List.mem_of_getElem? (i := 1225) (by decide +kernel)⟩
theorem lw_p40 : lw_okq (⟨"CueBookModel", "canDo", "(I)Z"⟩, 22) := ⟨⟨by decide +kernel, by decide +kernel⟩, List.mem_of_getElem? (i := 1044) (by decide +kernel), List.mem_of_getElem? (i := 1228) (by decide +kernel), List.mem_of_getElem? (i := 1229) (by decide +kernel)⟩
theorem lw_p41 : lw_okq (⟨"CueBookModel", "playerAt", "(II)I"⟩, 22) := ⟨⟨by decide +kernel, by decide +kernel⟩, List.mem_of_getElem? (i := 1044) (by decide +kernel), List.mem_of_getElem? (i := 1232) (by decide +kernel), List.mem_of_getElem? (i := 1233) (by decide +kernel)⟩
theorem lw_p42 : lw_okq (⟨"CueBookModel", "placeAt", "(II)I"⟩, 22) := ⟨⟨by decide +kernel, by decide +kernel⟩, List.mem_of_getElem? (i := 1044) (by decide +kernel), List.mem_of_getElem? (i := 1236) (by decide +kernel), List.mem_of_getElem? (i := 1237) (by decide +kernel)⟩
theorem lw_p43 : lw_okq (⟨"CueBookModel", "trackAt", "(II)I"⟩, 22) := ⟨⟨by decide +kernel, by decide +kernel⟩, List.mem_of_getElem? (i := 1044) (by decide +kernel), List.mem_of_getElem? (i := 1244) (by decide +kernel), List.mem_of_getElem? (i := 1245) (by decide +kernel)⟩
theorem lw_p44 : lw_okq (⟨"CueBookModel", "firstClash", "(II)I"⟩, 22) := ⟨⟨by decide +kernel, by decide +kernel⟩, List.mem_of_getElem? (i := 1044) (by decide +kernel), List.mem_of_getElem? (i := 1256) (by decide +kernel), List.mem_of_getElem? (i := 1257) (by decide +kernel)⟩
theorem lw_p45 : lw_okq (⟨"CueBookModel", "areOnOneTrack", "(III)Z"⟩, 22) := ⟨⟨by decide +kernel, by decide +kernel⟩, List.mem_of_getElem? (i := 1044) (by decide +kernel), List.mem_of_getElem? (i := 1260) (by decide +kernel), List.mem_of_getElem? (i := 1261) (by decide +kernel)⟩
theorem lw_p46 : lw_okq (⟨"CueBookModel", "allClashes", "()I"⟩, 22) := ⟨⟨by decide +kernel, by decide +kernel⟩, List.mem_of_getElem? (i := 1044) (by decide +kernel), List.mem_of_getElem? (i := 1268) (by decide +kernel), List.mem_of_getElem? (i := 1269) (by decide +kernel)⟩
theorem lw_p47 : lw_okq (⟨"CueBookModel", "stayTold", "(III)I"⟩, 22) := ⟨⟨by decide +kernel, by decide +kernel⟩, List.mem_of_getElem? (i := 1044) (by decide +kernel), List.mem_of_getElem? (i := 1284) (by decide +kernel), List.mem_of_getElem? (i := 1285) (by decide +kernel)⟩
def lw_privs_3 : List (MethodName × Nat) := [(⟨"CueBookModel", "isBehind", "(II)Z"⟩, 22), (⟨"CueBookModel", "beat", "(I)I"⟩, 22), (⟨"CueBookModel", "kind", "(I)I"⟩, 22), (⟨"CueBookModel", "isCue", "(I)Z"⟩, 22), (⟨"CueBookModel", "whyBeat", "(I)I"⟩, 22), (⟨"CueBookModel", "workOut", "()V"⟩, 22), (⟨"CueBookModel", "workOut", "(I)V"⟩, 22), (⟨"CueBookModel", "castAll", "()V"⟩, 22), (⟨"CueBookModel", "canDo", "(I)Z"⟩, 22), (⟨"CueBookModel", "playerAt", "(II)I"⟩, 22), (⟨"CueBookModel", "placeAt", "(II)I"⟩, 22), (⟨"CueBookModel", "trackAt", "(II)I"⟩, 22), (⟨"CueBookModel", "firstClash", "(II)I"⟩, 22), (⟨"CueBookModel", "areOnOneTrack", "(III)Z"⟩, 22), (⟨"CueBookModel", "allClashes", "()I"⟩, 22), (⟨"CueBookModel", "stayTold", "(III)I"⟩, 22)]
theorem lw_r3 : ∀ q ∈ lw_privs_3, lw_okq q := List.forall_mem_cons.mpr ⟨lw_p32, List.forall_mem_cons.mpr ⟨lw_p33, List.forall_mem_cons.mpr ⟨lw_p34, List.forall_mem_cons.mpr ⟨lw_p35, List.forall_mem_cons.mpr ⟨lw_p36, List.forall_mem_cons.mpr ⟨lw_p37, List.forall_mem_cons.mpr ⟨lw_p38, List.forall_mem_cons.mpr ⟨lw_p39, List.forall_mem_cons.mpr ⟨lw_p40, List.forall_mem_cons.mpr ⟨lw_p41, List.forall_mem_cons.mpr ⟨lw_p42, List.forall_mem_cons.mpr ⟨lw_p43, List.forall_mem_cons.mpr ⟨lw_p44, List.forall_mem_cons.mpr ⟨lw_p45, List.forall_mem_cons.mpr ⟨lw_p46, List.forall_mem_cons.mpr ⟨lw_p47, fun _ h => absurd h List.not_mem_nil⟩⟩⟩⟩⟩⟩⟩⟩⟩⟩⟩⟩⟩⟩⟩⟩
theorem lw_p48 : lw_okq (⟨"CueBookModel", "isPlayer", "(I)Z"⟩, 22) := ⟨⟨by decide +kernel, by decide +kernel⟩, List.mem_of_getElem? (i := 1044) (by decide +kernel), List.mem_of_getElem? (i := 1296) (by decide +kernel), List.mem_of_getElem? (i := 1297) (by decide +kernel)⟩
theorem lw_p49 : lw_okq (⟨"CueBookModel", "handsOf", "(II)I"⟩, 22) := ⟨⟨by decide +kernel, by decide +kernel⟩, List.mem_of_getElem? (i := 1044) (by decide +kernel), List.mem_of_getElem? (i := 1300) (by decide +kernel), List.mem_of_getElem? (i := 1301) (by decide +kernel)⟩
theorem lw_p50 : lw_okq (⟨"CueBookModel", "loadOf", "(I)I"⟩, 22) := ⟨⟨by decide +kernel, by decide +kernel⟩, List.mem_of_getElem? (i := 1044) (by decide +kernel), List.mem_of_getElem? (i := 1308) (by decide +kernel), List.mem_of_getElem? (i := 1309) (by decide +kernel)⟩
def lw_privs_4 : List (MethodName × Nat) := [(⟨"CueBookModel", "isPlayer", "(I)Z"⟩, 22), (⟨"CueBookModel", "handsOf", "(II)I"⟩, 22), (⟨"CueBookModel", "loadOf", "(I)I"⟩, 22)]
theorem lw_r4 : ∀ q ∈ lw_privs_4, lw_okq q := List.forall_mem_cons.mpr ⟨lw_p48, List.forall_mem_cons.mpr ⟨lw_p49, List.forall_mem_cons.mpr ⟨lw_p50, fun _ h => absurd h List.not_mem_nil⟩⟩⟩
def lw_privs : List (MethodName × Nat) := lw_privs_1 ++ (lw_privs_2 ++ (lw_privs_3 ++ (lw_privs_4)))
def lw_tbl : List Cond := k2_sels lw_privs ++ tables_1
theorem lw_privs_ok : ∀ q ∈ lw_privs, lw_okq q := by
  show ∀ q ∈ lw_privs_1 ++ (lw_privs_2 ++ (lw_privs_3 ++ (lw_privs_4))), lw_okq q
  exact List.forall_mem_append.mpr ⟨lw_r1, List.forall_mem_append.mpr ⟨lw_r2, List.forall_mem_append.mpr ⟨lw_r3, lw_r4⟩⟩⟩
/-- the streams that the claim lets the run draw from -/
abbrev lw_cs : List Choice := [Jvm.Choice.named "NaN.bits"]
theorem lw_bits : nanBits ∈ lw_cs := by first | decide | exact List.mem_cons_self | simp [lw_cs, nanBits]
-- ===== end of PART A; then your names; then what follows =====
/-! ===== BEGIN words of one list among another's, by their places ===== -/
theorem goodIn_r {big : List Cond} (ws : List Cond) (ps : List Nat) (hp : ws = ps.filterMap (fun i => big[i]?)) (h : ws.all goodWord = true) : GoodIn big ws := by
  intro w hw
  have h1 := List.all_eq_true.mp h w hw
  rw [hp] at hw
  obtain ⟨i, -, hi⟩ := List.mem_filterMap.mp hw
  have hm : w ∈ big := by first | exact List.mem_of_getElem? hi | exact List.getElem?_mem hi
  exact ⟨hm, good_of_word h1⟩
theorem goodIn_app {big a b : List Cond} (ha : GoodIn big a) (hb : GoodIn big b) : GoodIn big (a ++ b) := fun w h => (List.mem_append.mp h).elim (ha w) (hb w)
theorem goodIn_ca {big a b : List Cond} {c : Cond} (ha : GoodIn big (c :: a)) (hb : GoodIn big b) : GoodIn big (c :: (a ++ b)) := fun w h => (List.mem_cons.mp h).elim (fun e => ha w (List.mem_cons.mpr (Or.inl e))) (fun h => (List.mem_append.mp h).elim (fun h => ha w (List.mem_cons.mpr (Or.inr h))) (hb w))
theorem goodIn_sub {big ws : List Cond} (hm : ∀ w ∈ ws, w ∈ big) (h : ws.all goodWord = true) : GoodIn big ws := fun w hw => ⟨hm w hw, good_of_word (List.all_eq_true.mp h w hw)⟩
/-! ===== END ===== -/

/-! ===== BEGIN exceptions that leave a method, and their catching by the caller (launches without stack traces) ===== -/
section VXA
/-! The laws vx_back, vx_callV, vx_callS, vx_callSW, vx_throw0, vx_throwS follow proofs of the library, with one case more: JvmDerived/Free/Laws.lean (Back.of_free), Shelf42/LK1.lean (callV, callS), Shelf/KitTraced.lean (throwNew0V, throwNewS). -/
/-- where a method has thrown q: the class by its name, the cell, what was written, the world -/
def vx_T (XC : String → State → State → Prop) (st : State) (q : Addr) (t : State) (mc ms : Nat) (free : Addr → Prop) : Prop :=
  ∃ (E : String) (ce : Cell) (L : List Loc), XC E st t ∧ t.heap[q]? = some ce ∧ ce.vm = .none ∧ st.vm.findClass E = some ce.cls ∧ st.WarmedH t.vm ∧ st.sameButNew ({ t with vm := st.vm } : State) L mc ms ∧ ∀ z ∈ L, free z.base
def vx_Q (Qc : Array Value → State → Outcome → State → Prop) (XC : String → State → State → Prop) (mc ms : Nat) (free : Addr → Prop) : Array Value → State → Outcome → State → Prop := fun a st o t =>
  (Qc a st o t ∧ ∃ L, FrameEnd st o t L mc ms ∧ ∀ q ∈ L, free q.base) ∨ ∃ q, o = .threw q ∧ vx_T XC st q t mc ms free
/-- a callee that returns or throws -/
def vx_Met (l : Launch) (y : MethodName) (ws : List Cond) (rm : Room) (Pc : Array Value → State → Prop) (Qc : Array Value → State → Outcome → State → Prop) (XC : String → State → State → Prop) (mc ms : Nat) (free : Addr → Prop) : Prop :=
  MetFree l y (headSpec ws rm) Pc (fun _ _ _ _ _ => True) (vx_Q Qc XC mc ms free)
def vx_Post (XC : String → State → State → Prop) (mc ms : Nat) (free : Addr → Prop) : Pt → Array Value → Addr → Pt → Prop := fun A a q B =>
  ∃ (g : JFrame) (mk : MethodId) (t : State) (L : List Loc) (E : String) (ce : Cell), B.U.heap = t.heap ∧ B.U.vm = t.vm ∧ XC E (A.U.calling g mk a) t ∧ t.heap[q]? = some ce ∧ ce.vm = .none ∧ A.U.vm.findClass E = some ce.cls ∧ B.locs = A.locs ++ L ∧ (∀ z ∈ L, free z.base) ∧ B.cells = A.cells + mc ∧ B.slots = A.slots + ms
def vx_Back (l : Launch) (R : Room) (p : Program) (e : Env) (below : List Frame) (s : State) (sargs : Array Value) (y : MethodName) (len W9 : Nat)
    (Pre : Pt → Array Value → Prop) (Post : Pt → Array Value → Option Value → Pt → Prop) (PostX : Pt → Array Value → Addr → Pt → Prop) : Prop :=
  ∀ (m : MethodId) (meth : Method) (c : Code) (A : Pt) (g : JFrame) (ig : Instr) (mk : MethodId) (a : Array Value),
    Stand p l e R s m sargs below meth c A.U A.locs A.cells A.slots → g.method = m → g.locals.size = c.maxLocals → decode c.code g.pc = .ok (ig, len) →
    2 * g.monitorRoom + (g.stack.map fun v => v.category).sum ≤ W9 → A.U.methodNamed? y = some mk → Pre A a →
    (∃ (v : Option Value) (B : Pt), Stand p l e R s m sargs below meth c B.U B.locs B.cells B.slots ∧ Post A a v B ∧
      Steps p.tables e below (doInvoke e (A.U.setTop g) [] mk a).1 (B.U.setTop { g with pc := g.pc + len, stack := v.toList ++ g.stack })) ∨
    (∃ (q : Addr) (B : Pt), Stand p l e R s m sargs below meth c B.U B.locs B.cells B.slots ∧ PostX A a q B ∧
      Steps p.tables e below (doInvoke e (A.U.setTop g) [] mk a).1 ((B.U.setTop g).pushFrame (.throwing q)))
section Payer
variable {l : Launch} {R : Room} {p : Program} {e : Env} {below : List Frame} {s : State} {sargs : Array Value} {y : MethodName} {len W9 : Nat}
theorem vx_back {ws : List Cond} {rm : Room} {Pc : Array Value → State → Prop} {Qc : Array Value → State → Outcome → State → Prop} {XC : String → State → State → Prop} {mc ms : Nat} {free : Addr → Prop} {bytes : ByteArray} {maxL : Nat} {ret : Option FieldType}
    (hM : vx_Met l y ws rm Pc Qc XC mc ms free) (hblind : FrameBlind Pc) (hrc : rm.cells = mc) (hrs : rm.slots = ms)
    (hframes : rm.frames + 1 ≤ R.frames) (hlocals : W9 + (maxL + 11) + rm.locals ≤ R.locals)
    (hws : ∀ w ∈ ws, ∀ a' U, s.WarmedH U.vm → w.before a' U = true) (hcode : Cond.code y bytes maxL ret ∈ ws) (hinit : ∀ a' U, s.WarmedH U.vm → (Cond.initialized y.cls).before a' U = true) :
    vx_Back l R p e below s sargs y len W9 (PreOf R mc ms Pc) (PostOf Qc mc ms free) (vx_Post XC mc ms free) := by
  intro m meth c A g ig mk a X hg hsize hdg hW hn hp
  have h1 : (headSpec ws rm).pre.before a A.U = true := atoms_intro fun w hw => hws w hw _ _ X.warmed
  have h2 : (Cond.code y bytes maxL ret).before a A.U = true := hws _ hcode _ _ X.warmed
  have h3 : (Cond.initialized y.cls).before a A.U = true := hinit _ _ X.warmed
  have h4 : A.cells + (headSpec ws rm).room.cells ≤ R.cells := by rw [show (headSpec ws rm).room.cells = mc from hrc]; exact hp.1
  have h5 : A.slots + (headSpec ws rm).room.slots ≤ R.slots := by rw [show (headSpec ws rm).room.slots = ms from hrs]; exact hp.2.1
  have hPc : Pc a (A.U.calling g mk a) := hblind _ _ _ _ hp.2.2
  obtain ⟨U, Ls, c0, s0⟩ := A
  dsimp only [Pt.U, Pt.locs, Pt.cells, Pt.slots] at h1 h2 h3 h4 h5 X hn hPc ⊢
  obtain ⟨methY, cY, hmY, hcY, -, hlY, -, -, -, -⟩ := Cond.code_spec hn h2
  obtain ⟨kY, hkY, -⟩ := className_of_methodNamed hn
  have hinitY : kY.init = .initialized := Cond.initialized_spec (findClass_of_methodNamed hn) hkY h3
  have h : At U g.method c below := by rw [hg]; exact X.here
  have hlocals9 : W9 + (maxL + 11) + (headSpec ws rm).room.locals ≤ R.locals := hlocals
  have happ : (headSpec ws rm).appliesLoose y e.platform (U.calling g mk a) = true :=
    Spec.appliesLoose_calling (g := g) h hdg hn hkY hinitY
      (X.room_calling (g := g) (R' := (headSpec ws rm).room) hsize hmY hcY hframes (by rw [hlY]; omega) h4 h5) h1
  obtain ⟨mid, hmid⟩ := h.above
  have hfr : (U.setTop g).frames = (.java g :: mid) ++ below := by rw [State.frames_setTop' g h.top, hmid]; rfl
  obtain ⟨o, s₂, hsteps, -, hend, hq⟩ := Steps.callFree hM p X.admits X.cas X.clock (acts := []) hfr happ hPc trivial
  have hq' : vx_Q Qc XC mc ms free a (U.calling g mk a) o s₂ := hq
  rw [State.frames_setTop' g h.top] at hend
  obtain ⟨g₀, hg0⟩ := Option.isSome_iff_exists.mp h.top
  obtain ⟨r, hr⟩ := State.topJava?_eq_some.mp hg0
  have hr' : (({ U with heap := s₂.heap, slotsUsed := s₂.slotsUsed } : State).setVm s₂.vm).frames = .java g₀ :: r := hr
  rcases hq' with ⟨hqc, L, hfe, hL⟩ | ⟨q, rfl, E, ce, L, hx, hce, hcv, hcl, hW₂, hsm, hL⟩
  · obtain ⟨⟨v, rfl⟩, hW₂, e2, q2, q3, q4, q5, q6⟩ := id hfe
    have e3 : s₂ = ({ (U.calling g mk a).setFrames s₂.frames with heap := s₂.heap, slotsUsed := s₂.slotsUsed } : State).setVm s₂.vm := by
      have : s₂ = ({ s₂ with vm := (U.calling g mk a).vm } : State).setVm s₂.vm := rfl
      rw [e2] at this
      exact this
    obtain ⟨c₂, i₂, len₂, hc₂, hd₂, hf₂⟩ := hend
    have hW' : U.WarmedH s₂.vm := hW₂
    have hcc : c₂ = c := by
      have h1 : s₂.code? g.method = U.code? g.method := by
        rw [State.code?_eq, State.code?_eq, hW'.alike.method?]
      exact Option.some.inj (hc₂.symm.trans (h1.trans h.code))
    subst hcc
    have hlen : len₂ = len := by rw [hdg] at hd₂; cases hd₂; rfl
    subst hlen
    have hs₂ : s₂ = (({ U with heap := s₂.heap, slotsUsed := s₂.slotsUsed } : State).setVm s₂.vm).setTop { g with pc := g.pc + len₂, stack := v.toList ++ g.stack } := by
      refine e3.trans ?_
      rw [hf₂, State.calling_eq h.top, State.setFrames_setFrames, State.setTop_of_frames _ hr', hr]
      rfl
    have hsame : U.sameButNew ({ U with heap := s₂.heap, slotsUsed := s₂.slotsUsed } : State) L mc ms := by
      refine ⟨?_, q2, q3, q4, q5, q6⟩
      obtain ⟨t, ht, -⟩ := State.frames_cons hr
      show ({ U with heap := s₂.heap, slotsUsed := s₂.slotsUsed } : State) = { U.setFrames U.frames with heap := s₂.heap, slotsUsed := s₂.slotsUsed }
      rw [State.setFrames_self ht]
    subst hg
    refine Or.inl ⟨v, ⟨(({ U with heap := s₂.heap, slotsUsed := s₂.slotsUsed } : State).setVm s₂.vm), Ls ++ L, c0 + mc, s0 + ms⟩,
      ⟨X.admits, X.cas, X.clock, X.frames, X.room, X.hears, X.method, X.code, (X.here.setHeapUsed s₂.heap s₂.slotsUsed).setVm hW'.alike, X.tail, State.WarmedH.trans X.warmed hW', X.limits, X.bytes, X.same.trans (hsame.setVm s.vm)⟩,
      ⟨g, mk, s₂, L, rfl, rfl, hqc, rfl, hL, rfl, rfl⟩, ?_⟩
    show Steps p.tables e below _ ((({ U with heap := s₂.heap, slotsUsed := s₂.slotsUsed } : State).setVm s₂.vm).setTop { g with pc := g.pc + len₂, stack := v.toList ++ g.stack })
    rw [← hs₂]
    exact hsteps
  · obtain ⟨e2, q2, q3, q4, q5, q6⟩ := id hsm
    have e3 : s₂ = ({ (U.calling g mk a).setFrames s₂.frames with heap := s₂.heap, slotsUsed := s₂.slotsUsed } : State).setVm s₂.vm := by
      have : s₂ = ({ s₂ with vm := (U.calling g mk a).vm } : State).setVm s₂.vm := rfl
      rw [e2] at this
      exact this
    have hf₂ : s₂.frames = .throwing q :: .java g :: U.frames.tail := hend
    have hW' : U.WarmedH s₂.vm := hW₂
    have hs₂ : s₂ = ((({ U with heap := s₂.heap, slotsUsed := s₂.slotsUsed } : State).setVm s₂.vm).setTop g).pushFrame (.throwing q) := by
      refine e3.trans ?_
      rw [hf₂, State.calling_eq h.top, State.setFrames_setFrames, State.pushFrame, State.frames_setTop _ hr', State.setTop_of_frames _ hr', State.setFrames_setFrames, hr]
      rfl
    have hsame : U.sameButNew ({ U with heap := s₂.heap, slotsUsed := s₂.slotsUsed } : State) L mc ms := by
      refine ⟨?_, q2, q3, q4, q5, q6⟩
      obtain ⟨t, ht, -⟩ := State.frames_cons hr
      show ({ U with heap := s₂.heap, slotsUsed := s₂.slotsUsed } : State) = { U.setFrames U.frames with heap := s₂.heap, slotsUsed := s₂.slotsUsed }
      rw [State.setFrames_self ht]
    subst hg
    refine Or.inr ⟨q, ⟨(({ U with heap := s₂.heap, slotsUsed := s₂.slotsUsed } : State).setVm s₂.vm), Ls ++ L, c0 + mc, s0 + ms⟩,
      ⟨X.admits, X.cas, X.clock, X.frames, X.room, X.hears, X.method, X.code, (X.here.setHeapUsed s₂.heap s₂.slotsUsed).setVm hW'.alike, X.tail, State.WarmedH.trans X.warmed hW', X.limits, X.bytes, X.same.trans (hsame.setVm s.vm)⟩,
      ⟨g, mk, s₂, L, E, ce, rfl, rfl, hx, hce, hcv, hcl, rfl, hL, rfl, rfl⟩, ?_⟩
    show Steps p.tables e below _ (((({ U with heap := s₂.heap, slotsUsed := s₂.slotsUsed } : State).setVm s₂.vm).setTop g).pushFrame (.throwing q))
    rw [← hs₂]
    exact hsteps
end Payer
section Calls
variable {p : Program} {l : Launch} {e : Env} {R : Room} {s : State} {m : MethodId} {args : Array Value} {below : List Frame} {meth : Method} {c : Code} {T : State} {locs : List Loc} {cells slots : Nat}
theorem vx_callV (X : Stand p l e R s m args below meth c T locs cells slots) (hexec : p.tables.exec = Jvm.exec) {own C : String} {index : Nat} {y : MethodName} {bytes : ByteArray} {maxL : Nat} {ret : Option FieldType}
    (hown : s.vm.findClass own = some m.cls) (hlink : (Cond.methodLink own index y).before args s = true) (hinst : (Cond.instanceMethod y).before args s = true) (hsel : (Cond.selects C y y).before args s = true)
    (hcode : (Cond.code y bytes maxL ret).before args s = true) (hy : y.cls ≠ "java/lang/invoke/MethodHandle" ∧ y.cls ≠ "java/lang/invoke/VarHandle")
    {W9 : Nat} {Pre : Pt → Array Value → Prop} {Post : Pt → Array Value → Option Value → Pt → Prop} {PostX : Pt → Array Value → Addr → Pt → Prop} (hK : vx_Back l R p e below s args y 3 W9 Pre Post PostX)
    {b : Addr} {cellB : Cell} (hcell : T.heap[b]? = some cellB) (hobj : cellB.vm.isStatics = false) (hcls : s.vm.findClass C = some cellB.cls)
    {g : JFrame} (hg : g.method = m) (hsize : g.locals.size = c.maxLocals) {argsL rest : List Value} (hlen : ∀ sig, parseMethodDescriptor y.desc = some sig → argsL.length = sig.parameters.length)
    (hstack : g.stack = argsL.reverse ++ .ref b :: rest) (hW : 2 * g.monitorRoom + (rest.map fun v => v.category).sum ≤ W9) (hdg : decode c.code g.pc = .ok (.invokevirtual index, 3))
    (hpre : ∀ vm₁, s.WarmedH vm₁ → Pre ⟨T.setVm vm₁, locs, cells, slots⟩ (Value.ref b :: argsL).toArray) :
    (∃ (v : Option Value) (vm₁ : Vm) (B : Pt), s.WarmedH vm₁ ∧ Stand p l e R s m args below meth c B.U B.locs B.cells B.slots ∧ Post ⟨T.setVm vm₁, locs, cells, slots⟩ (Value.ref b :: argsL).toArray v B ∧
      ∀ target, Steps p.tables e below (B.U.setTop { g with pc := g.pc + 3, stack := v.toList ++ rest }) target → Steps p.tables e below (T.setTop g) target) ∨
    (∃ (q : Addr) (vm₁ : Vm) (B : Pt), s.WarmedH vm₁ ∧ Stand p l e R s m args below meth c B.U B.locs B.cells B.slots ∧ PostX ⟨T.setVm vm₁, locs, cells, slots⟩ (Value.ref b :: argsL).toArray q B ∧
      Steps p.tables e below (T.setTop g) ((B.U.setTop { g with stack := rest }).pushFrame (.throwing q))) := by
  obtain ⟨mk, methM, hnamed, hmethM, hstM, habM⟩ := Cond.instanceMethod_spec hinst
  obtain ⟨methM', cM, hmethM', -, -, -, -, -, -, hsigM⟩ := Cond.code_spec hnamed hcode
  cases hmethM.symm.trans hmethM'
  obtain ⟨c2, r2, m2, q1, q2, q3, q4, kP, hkP, hkPi⟩ := Cond.selects_spec hsel
  cases hcls.symm.trans q1
  cases (State.methodFound?_of_named hnamed hy).symm.trans q2
  cases hnamed.symm.trans q3
  have hselP : selectMethod e.platform s.vm cellB.cls mk = .method mk := by rw [Launch.admits_selectMethod X.admits]; exact q4
  obtain ⟨vm₁, X₁, hstep₁⟩ := X.invokevirtual hexec hown hlink hnamed hmethM hstM hkP hkPi hy (a := b) (cell := cellB) hcell
    (fun z h => by rw [h] at hobj; cases hobj) hselP hmethM habM hkP hkPi (g := g) hg (argsL := argsL) (rest := rest) (hlen _ hsigM) hstack hdg
  rcases hK m meth c ⟨T.setVm vm₁, locs, cells, slots⟩ { g with stack := rest } (.invokevirtual index) mk (Value.ref b :: argsL).toArray X₁ hg hsize hdg hW (X₁.named hnamed) (hpre vm₁ X₁.warmed) with ⟨v, B, X', hpost, hsteps⟩ | ⟨q, B, X', hpost, hsteps⟩
  · exact Or.inl ⟨v, vm₁, B, X₁.warmed, X', hpost, fun target h => hstep₁ _ fun acts => by rw [doInvoke_state]; exact hsteps.trans h⟩
  · exact Or.inr ⟨q, vm₁, B, X₁.warmed, X', hpost, hstep₁ _ fun acts => by rw [doInvoke_state]; exact hsteps⟩
theorem vx_callS (X : Stand p l e R s m args below meth c T locs cells slots) (hexec : p.tables.exec = Jvm.exec) {own : String} {index : Nat} {y : MethodName} {bytes : ByteArray} {maxL : Nat} {ret : Option FieldType}
    (hown : s.vm.findClass own = some m.cls) (hlink : (Cond.methodLink own index y).before args s = true) (hstat : (Cond.static y).before args s = true) (hinit : (Cond.initialized y.cls).before args s = true)
    (hcode : (Cond.code y bytes maxL ret).before args s = true) (hy : y.cls ≠ "java/lang/invoke/MethodHandle" ∧ y.cls ≠ "java/lang/invoke/VarHandle")
    {W9 : Nat} {Pre : Pt → Array Value → Prop} {Post : Pt → Array Value → Option Value → Pt → Prop} {PostX : Pt → Array Value → Addr → Pt → Prop} (hK : vx_Back l R p e below s args y 3 W9 Pre Post PostX)
    {g : JFrame} (hg : g.method = m) (hsize : g.locals.size = c.maxLocals) {argsL rest : List Value} (hlen : ∀ sig, parseMethodDescriptor y.desc = some sig → argsL.length = sig.parameters.length)
    (hstack : g.stack = argsL.reverse ++ rest) (hW : 2 * g.monitorRoom + (rest.map fun v => v.category).sum ≤ W9) (hdg : decode c.code g.pc = .ok (.invokestatic index, 3))
    (hpre : ∀ vm₁, s.WarmedH vm₁ → Pre ⟨T.setVm vm₁, locs, cells, slots⟩ argsL.toArray) :
    (∃ (v : Option Value) (vm₁ : Vm) (B : Pt), s.WarmedH vm₁ ∧ Stand p l e R s m args below meth c B.U B.locs B.cells B.slots ∧ Post ⟨T.setVm vm₁, locs, cells, slots⟩ argsL.toArray v B ∧
      ∀ target, Steps p.tables e below (B.U.setTop { g with pc := g.pc + 3, stack := v.toList ++ rest }) target → Steps p.tables e below (T.setTop g) target) ∨
    (∃ (q : Addr) (vm₁ : Vm) (B : Pt), s.WarmedH vm₁ ∧ Stand p l e R s m args below meth c B.U B.locs B.cells B.slots ∧ PostX ⟨T.setVm vm₁, locs, cells, slots⟩ argsL.toArray q B ∧
      Steps p.tables e below (T.setTop g) ((B.U.setTop { g with stack := rest }).pushFrame (.throwing q))) := by
  obtain ⟨mk, hnamed⟩ := Cond.code_named hcode
  obtain ⟨methM, cM, hmethM, -, -, -, -, -, -, hsigM⟩ := Cond.code_spec hnamed hcode
  have hstatic : methM.isStatic = true := Cond.static_spec hnamed hmethM hstat
  obtain ⟨kP, hkP, -⟩ := className_of_methodNamed hnamed
  have hinitP : kP.init = .initialized := Cond.initialized_spec (findClass_of_methodNamed hnamed) hkP hinit
  obtain ⟨vm₁, X₁, hstep₁⟩ := X.invokestatic hexec hown hlink hnamed hmethM hstatic hkP hinitP hy (g := g) hg (argsL := argsL) (rest := rest) (hlen _ hsigM) hstack hdg
  rcases hK m meth c ⟨T.setVm vm₁, locs, cells, slots⟩ { g with stack := rest } (.invokestatic index) mk argsL.toArray X₁ hg hsize hdg hW (X₁.named hnamed) (hpre vm₁ X₁.warmed) with ⟨v, B, X', hpost, hsteps⟩ | ⟨q, B, X', hpost, hsteps⟩
  · exact Or.inl ⟨v, vm₁, B, X₁.warmed, X', hpost, fun target h => hstep₁ _ fun acts => by rw [doInvoke_state]; exact hsteps.trans h⟩
  · exact Or.inr ⟨q, vm₁, B, X₁.warmed, X', hpost, hstep₁ _ fun acts => by rw [doInvoke_state]; exact hsteps⟩
end Calls
theorem vx_cls {s : State} {T : State} {vm₁ : Vm} {E : String} {k : ClassId} (hW : s.WarmedH vm₁) (h : (T.setVm vm₁).vm.findClass E = some k) : s.vm.findClass E = some k := by
  have h1 : vm₁.findClass E = some k := h
  rw [hW.alike.findClass] at h1
  exact h1
/-- the method's frame g, with q thrown over it -/
def vx_W (p : Program) (l : Launch) (e : Env) (R : Room) (s : State) (m : MethodId) (args : Array Value) (below : List Frame) (meth : Method) (c : Code) (H : Heap) (locs : List Loc) (cells slots : Nat) (Q : State → Prop) (g : JFrame) (q : Addr) : Prop :=
  ∀ T : State, T.heap = H → Stand p l e R s m args below meth c T locs cells slots → ∃ t, Steps p.tables e below ((T.setTop g).pushFrame (.throwing q)) t ∧ Q t
def vx_Run (p : Program) (l : Launch) (e : Env) (R : Room) (s : State) (m : MethodId) (args : Array Value) (below : List Frame) (meth : Method) (c : Code) (H : Heap) (locs : List Loc) (cells slots mc ms : Nat) (g : JFrame) (rest : List Value) (Qa : State → Outcome → State → Prop) (XC : String → State → State → Prop) (free : Addr → Prop) : Prop :=
  ∀ T : State, T.heap = H → Stand p l e R s m args below meth c T locs cells slots →
    (∃ (v : Option Value) (st₀ t T' : State) (L : List Loc), st₀.heap = H ∧ Stand p l e R s m args below meth c T' (locs ++ L) (cells + mc) (slots + ms) ∧ (∀ q ∈ L, free q.base) ∧ T'.heap = t.heap ∧ T'.vm = t.vm ∧ Qa st₀ (.returned v) t ∧
      Goes p e below T g T' { g with pc := g.pc + 3, stack := v.toList ++ rest }) ∨
    (∃ (q : Addr) (st₀ t T' : State) (L : List Loc) (E : String) (ce : Cell), st₀.heap = H ∧ Stand p l e R s m args below meth c T' (locs ++ L) (cells + mc) (slots + ms) ∧ (∀ z ∈ L, free z.base) ∧ T'.heap = t.heap ∧ T'.vm = t.vm ∧ XC E st₀ t ∧ t.heap[q]? = some ce ∧ ce.vm = .none ∧ s.vm.findClass E = some ce.cls ∧
      Steps p.tables e below (T.setTop g) ((T'.setTop { g with stack := rest }).pushFrame (.throwing q)))
def vx_X {S : Type} (px : S → Prop) (B : String → S → State → Prop) (A : Nat → Prop) : String → State → State → Prop := fun E st t => ∃ u : S, px u ∧ B E u t ∧ va_F A st t
section Runs
variable {p : Program} {l : Launch} {e : Env} {R : Room} {s : State} {m : MethodId} {args : Array Value} {below : List Frame} {meth : Method} {c : Code} {H : Heap} {locs : List Loc} {cells slots : Nat}
variable {y : MethodName} {bytes cc : ByteArray} {maxL nL mc ms n index : Nat} {ret : Option FieldType} {ws : List Cond} {rm : Room} {Pc : Array Value → State → Prop} {Qc : Array Value → State → Outcome → State → Prop} {XC : String → State → State → Prop} {free : Addr → Prop} {Ts : List Cond} {own C : String} {b : Addr} {As rest : List Value} {g : JFrame}
theorem vx_callBack (cb : CallB R s args own index y bytes maxL ret ws rm mc ms n) (hM : vx_Met l y ws rm Pc Qc XC mc ms free) (hbl : FrameBlind Pc) : vx_Back l R p e below s args y 3 8 (PreOf R mc ms Pc) (PostOf Qc mc ms free) (vx_Post XC mc ms free) := by
  obtain ⟨hrc, hrs, hfr, hlo, hws, hcw, -, hini, -⟩ := cb
  exact vx_back (bytes := bytes) (maxL := maxL) (ret := ret) hM hbl hrc hrs hfr hlo hws hcw (fun a' U hW => word_at hW (Or.inl (by first | rfl | simp [Cond.onTables, Cond.keeps, Cond.steady])) hini)
theorem vx_runV (S : CallFix p m c cc nL s args Ts own) (hM : vx_Met l y ws rm Pc Qc XC mc ms free) (cw : CallW R s args own C index y bytes maxL ret ws rm mc ms n) (hp : PreV s H C b Pc As)
    (hg : g.method = m) (hn : As.length = n) (hsize : g.locals.size = nL) (hstack : g.stack = As.reverse ++ .ref b :: rest) (hW : 2 * g.monitorRoom + (rest.map fun v => v.category).sum ≤ 8) (hdg : decode cc g.pc = .ok (.invokevirtual index, 3)) (hf : cells + mc ≤ R.cells ∧ slots + ms ≤ R.slots) :
    vx_Run p l e R s m args below meth c H locs cells slots mc ms g rest (Qc (Value.ref b :: As).toArray) XC free := by
  have hK : vx_Back l R p e below s args y 3 8 (PreOf R mc ms Pc) (PostOf Qc mc ms free) (vx_Post XC mc ms free) := vx_callBack cw.1 hM hp.1
  obtain ⟨⟨-, -, -, -, -, -, hcode, -, hy, hlen, hl⟩, hin, hse⟩ := cw
  obtain ⟨hx, hb, hml, ho, -⟩ := S
  obtain ⟨-, ⟨cellB, hcB, hoB, hclB⟩, hPc⟩ := hp
  intro T hT X
  rcases vx_callV X hx (C := C) (bytes := bytes) (maxL := maxL) (ret := ret) ho hl hin hse hcode hy hK (by rw [hT]; exact hcB) hoB hclB hg (hsize.trans hml.symm) (argsL := As) (rest := rest) (fun sig h => hn.trans (hlen sig h)) hstack hW (by rw [hb]; exact hdg)
    (fun vm₁ hW₁ => ⟨hf.1, hf.2, hPc (T.setVm vm₁) hT hW₁⟩) with ⟨v, vm₁, ⟨U', l2, c2, s2⟩, hW₁, X', ⟨g', mk, t, L, e1, e2, hq, h1, hL, h2, h3⟩, st⟩ | ⟨q, vm₁, ⟨U', l2, c2, s2⟩, hW₁, X', ⟨g', mk, t, L, E, ce, e1, e2, hq, hce, hcv, hcl, h1, hL, h2, h3⟩, st⟩
  · dsimp only [Pt.U, Pt.locs, Pt.cells, Pt.slots] at X' e1 e2 h1 h2 h3 st
    subst h1; subst h2; subst h3
    exact Or.inl ⟨v, (T.setVm vm₁).calling g' mk (Value.ref b :: As).toArray, t, U', L, hT, X', hL, e1, e2, hq, st⟩
  · dsimp only [Pt.U, Pt.locs, Pt.cells, Pt.slots] at X' e1 e2 h1 h2 h3 st hcl
    subst h1; subst h2; subst h3
    exact Or.inr ⟨q, (T.setVm vm₁).calling g' mk (Value.ref b :: As).toArray, t, U', L, E, ce, hT, X', hL, e1, e2, hq, hce, hcv, vx_cls hW₁ hcl, st⟩
theorem vx_runS (S : CallFix p m c cc nL s args Ts own) (hM : vx_Met l y ws rm Pc Qc XC mc ms free) (cw : CallB R s args own index y bytes maxL ret ws rm mc ms n ∧ (Cond.static y).before args s = true) (hp : PreS s H Pc As)
    (hg : g.method = m) (hn : As.length = n) (hsize : g.locals.size = nL) (hstack : g.stack = As.reverse ++ rest) (hW : 2 * g.monitorRoom + (rest.map fun v => v.category).sum ≤ 8) (hdg : decode cc g.pc = .ok (.invokestatic index, 3)) (hf : cells + mc ≤ R.cells ∧ slots + ms ≤ R.slots) :
    vx_Run p l e R s m args below meth c H locs cells slots mc ms g rest (Qc As.toArray) XC free := by
  have hK : vx_Back l R p e below s args y 3 8 (PreOf R mc ms Pc) (PostOf Qc mc ms free) (vx_Post XC mc ms free) := vx_callBack cw.1 hM hp.1
  obtain ⟨⟨-, -, -, -, -, -, hcode, hini, hy, hlen, hl⟩, hstt⟩ := cw
  obtain ⟨hx, hb, hml, ho, -⟩ := S
  intro T hT X
  rcases vx_callS X hx (bytes := bytes) (maxL := maxL) (ret := ret) ho hl hstt hini hcode hy hK hg (hsize.trans hml.symm) (argsL := As) (rest := rest) (fun sig h => hn.trans (hlen sig h)) hstack hW (by rw [hb]; exact hdg)
    (fun vm₁ hW₁ => ⟨hf.1, hf.2, hp.2 (T.setVm vm₁) hT hW₁⟩) with ⟨v, vm₁, ⟨U', l2, c2, s2⟩, hW₁, X', ⟨g', mk, t, L, e1, e2, hq, h1, hL, h2, h3⟩, st⟩ | ⟨q, vm₁, ⟨U', l2, c2, s2⟩, hW₁, X', ⟨g', mk, t, L, E, ce, e1, e2, hq, hce, hcv, hcl, h1, hL, h2, h3⟩, st⟩
  · dsimp only [Pt.U, Pt.locs, Pt.cells, Pt.slots] at X' e1 e2 h1 h2 h3 st
    subst h1; subst h2; subst h3
    exact Or.inl ⟨v, (T.setVm vm₁).calling g' mk As.toArray, t, U', L, hT, X', hL, e1, e2, hq, st⟩
  · dsimp only [Pt.U, Pt.locs, Pt.cells, Pt.slots] at X' e1 e2 h1 h2 h3 st hcl
    subst h1; subst h2; subst h3
    exact Or.inr ⟨q, (T.setVm vm₁).calling g' mk As.toArray, t, U', L, E, ce, hT, X', hL, e1, e2, hq, hce, hcv, vx_cls hW₁ hcl, st⟩
end Runs
section Rows
variable {p : Program} {l : Launch} {e : Env} {R : Room} {s : State} {m : MethodId} {args : Array Value} {below : List Frame} {meth : Method} {c : Code} {H : Heap} {locs : List Loc} {cells slots : Nat} {Q : State → Prop}
variable {mc ms : Nat} {free : Addr → Prop} {A0 A1 : Nat → Prop} {H0 : Heap} {a : Array Value} {pc : Nat} {ls : Array Slot} {st0 rest : List Value}
theorem vx_keep {st₀ t T' : State} {L : List Loc} (h0 : st₀.heap = H) (e1 : T'.heap = t.heap) (hS : va_S A0 H0 H locs) (hA : ∀ q, q < H.size → A1 q → A0 q) (hf : ∀ q, free q → A0 q) (hL : ∀ q ∈ L, free q.base) (hF : va_F A1 st₀ t) :
    H.size ≤ T'.heap.size ∧ (∀ q : Nat, q < H.size → ¬ A1 q → T'.heap[q]? = H[q]?) ∧ va_S A0 H0 T'.heap (locs ++ L) := by
  obtain ⟨hz, hk⟩ := hF
  rw [h0] at hz hk
  exact ⟨by rw [e1]; exact hz, fun q h1 h2 => by rw [e1]; exact hk q h1 h2,
    ⟨Nat.le_trans hS.1 (by rw [e1]; exact hz), fun q h1 h2 => by rw [e1, hk q (Nat.lt_of_lt_of_le h1 hS.1) (fun z => h2 (hA q (Nat.lt_of_lt_of_le h1 hS.1) z))]; exact hS.2.1 q h1 h2, fun q hq => by
      rcases List.mem_append.mp hq with h | h
      · exact hS.2.2 q h
      · exact hf _ (hL q h)⟩⟩
theorem vx_calli {S SX : Type} {post : Int32 → S → Prop} {px : SX → Prop} {B : S → State → Prop} {BX : String → SX → State → Prop} {AX : Nat → Prop} (hr : vx_Run p l e R s m args below meth c H locs cells slots mc ms (F0 m pc ls st0) rest (va_Qi post B A1 a) (vx_X px BX AX) free) (hS : va_S A0 H0 H locs) (hA : ∀ q, q < H.size → A1 q → A0 q) (hf : ∀ q, free q → A0 q) (hAX : ∀ q, q < H.size → AX q → A0 q)
    (kx : ∀ (E : String) (ce : Cell) (q9 : Addr) (u : SX) (t : State) (H1 : Heap) (locs1 : List Loc), t.heap = H1 → s.vm.Alike t.vm → px u → BX E u t → H.size ≤ H1.size → (∀ q : Nat, q < H.size → ¬ AX q → H1[q]? = H[q]?) → va_S A0 H0 H1 locs1 → H1[q9]? = some ce → ce.vm = .none → s.vm.findClass E = some ce.cls → vx_W p l e R s m args below meth c H1 locs1 (cells + mc) (slots + ms) Q (F0 m pc ls rest) q9)
    (kk : ∀ (r : Int32) (u : S) (t : State) (H1 : Heap) (locs1 : List Loc), t.heap = H1 → s.vm.Alike t.vm → post r u → B u t → H.size ≤ H1.size → (∀ q : Nat, q < H.size → ¬ A1 q → H1[q]? = H[q]?) → va_S A0 H0 H1 locs1 → W p l e R s m args below meth c H1 locs1 (cells + mc) (slots + ms) Q (F0 m (pc + 3) ls (.int r :: rest))) : W p l e R s m args below meth c H locs cells slots Q (F0 m pc ls st0) := by
  intro T hT X
  rcases hr T hT X with ⟨v, st₀, t, T', L, h0, X', hL, e1, e2, ⟨⟨r, u, hv, hp, hb⟩, hF⟩, st⟩ | ⟨q, st₀, t, T', L, E, ce, h0, X', hL, e1, e2, ⟨u, hp, hb, hF⟩, hce, hcv, hcl, st⟩
  · cases hv
    obtain ⟨k1, k2, k3⟩ := vx_keep h0 e1 hS hA hf hL hF
    obtain ⟨t2, a1, b1⟩ := kk r u t T'.heap (locs ++ L) e1.symm (by rw [← e2]; exact X'.warmed.alike) hp hb k1 k2 k3 T' rfl X'
    exact ⟨t2, st t2 a1, b1⟩
  · obtain ⟨k1, k2, k3⟩ := vx_keep h0 e1 hS hAX hf hL hF
    obtain ⟨t2, a1, b1⟩ := kx E ce q u t T'.heap (locs ++ L) e1.symm (by rw [← e2]; exact X'.warmed.alike) hp hb k1 k2 k3 (by rw [e1]; exact hce) hcv hcl T' rfl X'
    exact ⟨t2, st.trans a1, b1⟩
theorem vx_calll {S SX : Type} {post : Int64 → S → Prop} {px : SX → Prop} {B : S → State → Prop} {BX : String → SX → State → Prop} {AX : Nat → Prop} (hr : vx_Run p l e R s m args below meth c H locs cells slots mc ms (F0 m pc ls st0) rest (va_Ql post B A1 a) (vx_X px BX AX) free) (hS : va_S A0 H0 H locs) (hA : ∀ q, q < H.size → A1 q → A0 q) (hf : ∀ q, free q → A0 q) (hAX : ∀ q, q < H.size → AX q → A0 q)
    (kx : ∀ (E : String) (ce : Cell) (q9 : Addr) (u : SX) (t : State) (H1 : Heap) (locs1 : List Loc), t.heap = H1 → s.vm.Alike t.vm → px u → BX E u t → H.size ≤ H1.size → (∀ q : Nat, q < H.size → ¬ AX q → H1[q]? = H[q]?) → va_S A0 H0 H1 locs1 → H1[q9]? = some ce → ce.vm = .none → s.vm.findClass E = some ce.cls → vx_W p l e R s m args below meth c H1 locs1 (cells + mc) (slots + ms) Q (F0 m pc ls rest) q9)
    (kk : ∀ (r : Int64) (u : S) (t : State) (H1 : Heap) (locs1 : List Loc), t.heap = H1 → s.vm.Alike t.vm → post r u → B u t → H.size ≤ H1.size → (∀ q : Nat, q < H.size → ¬ A1 q → H1[q]? = H[q]?) → va_S A0 H0 H1 locs1 → W p l e R s m args below meth c H1 locs1 (cells + mc) (slots + ms) Q (F0 m (pc + 3) ls (.long r :: rest))) : W p l e R s m args below meth c H locs cells slots Q (F0 m pc ls st0) := by
  intro T hT X
  rcases hr T hT X with ⟨v, st₀, t, T', L, h0, X', hL, e1, e2, ⟨⟨r, u, hv, hp, hb⟩, hF⟩, st⟩ | ⟨q, st₀, t, T', L, E, ce, h0, X', hL, e1, e2, ⟨u, hp, hb, hF⟩, hce, hcv, hcl, st⟩
  · cases hv
    obtain ⟨k1, k2, k3⟩ := vx_keep h0 e1 hS hA hf hL hF
    obtain ⟨t2, a1, b1⟩ := kk r u t T'.heap (locs ++ L) e1.symm (by rw [← e2]; exact X'.warmed.alike) hp hb k1 k2 k3 T' rfl X'
    exact ⟨t2, st t2 a1, b1⟩
  · obtain ⟨k1, k2, k3⟩ := vx_keep h0 e1 hS hAX hf hL hF
    obtain ⟨t2, a1, b1⟩ := kx E ce q u t T'.heap (locs ++ L) e1.symm (by rw [← e2]; exact X'.warmed.alike) hp hb k1 k2 k3 (by rw [e1]; exact hce) hcv hcl T' rfl X'
    exact ⟨t2, st.trans a1, b1⟩
theorem vx_callf {S SX : Type} {post : UInt32 → S → Prop} {px : SX → Prop} {B : S → State → Prop} {BX : String → SX → State → Prop} {AX : Nat → Prop} (hr : vx_Run p l e R s m args below meth c H locs cells slots mc ms (F0 m pc ls st0) rest (va_Qf post B A1 a) (vx_X px BX AX) free) (hS : va_S A0 H0 H locs) (hA : ∀ q, q < H.size → A1 q → A0 q) (hf : ∀ q, free q → A0 q) (hAX : ∀ q, q < H.size → AX q → A0 q)
    (kx : ∀ (E : String) (ce : Cell) (q9 : Addr) (u : SX) (t : State) (H1 : Heap) (locs1 : List Loc), t.heap = H1 → s.vm.Alike t.vm → px u → BX E u t → H.size ≤ H1.size → (∀ q : Nat, q < H.size → ¬ AX q → H1[q]? = H[q]?) → va_S A0 H0 H1 locs1 → H1[q9]? = some ce → ce.vm = .none → s.vm.findClass E = some ce.cls → vx_W p l e R s m args below meth c H1 locs1 (cells + mc) (slots + ms) Q (F0 m pc ls rest) q9)
    (kk : ∀ (r : UInt32) (u : S) (t : State) (H1 : Heap) (locs1 : List Loc), t.heap = H1 → s.vm.Alike t.vm → post r u → B u t → H.size ≤ H1.size → (∀ q : Nat, q < H.size → ¬ A1 q → H1[q]? = H[q]?) → va_S A0 H0 H1 locs1 → W p l e R s m args below meth c H1 locs1 (cells + mc) (slots + ms) Q (F0 m (pc + 3) ls (.float r :: rest))) : W p l e R s m args below meth c H locs cells slots Q (F0 m pc ls st0) := by
  intro T hT X
  rcases hr T hT X with ⟨v, st₀, t, T', L, h0, X', hL, e1, e2, ⟨⟨r, u, hv, hp, hb⟩, hF⟩, st⟩ | ⟨q, st₀, t, T', L, E, ce, h0, X', hL, e1, e2, ⟨u, hp, hb, hF⟩, hce, hcv, hcl, st⟩
  · cases hv
    obtain ⟨k1, k2, k3⟩ := vx_keep h0 e1 hS hA hf hL hF
    obtain ⟨t2, a1, b1⟩ := kk r u t T'.heap (locs ++ L) e1.symm (by rw [← e2]; exact X'.warmed.alike) hp hb k1 k2 k3 T' rfl X'
    exact ⟨t2, st t2 a1, b1⟩
  · obtain ⟨k1, k2, k3⟩ := vx_keep h0 e1 hS hAX hf hL hF
    obtain ⟨t2, a1, b1⟩ := kx E ce q u t T'.heap (locs ++ L) e1.symm (by rw [← e2]; exact X'.warmed.alike) hp hb k1 k2 k3 (by rw [e1]; exact hce) hcv hcl T' rfl X'
    exact ⟨t2, st.trans a1, b1⟩
theorem vx_calld {S SX : Type} {post : UInt64 → S → Prop} {px : SX → Prop} {B : S → State → Prop} {BX : String → SX → State → Prop} {AX : Nat → Prop} (hr : vx_Run p l e R s m args below meth c H locs cells slots mc ms (F0 m pc ls st0) rest (va_Qd post B A1 a) (vx_X px BX AX) free) (hS : va_S A0 H0 H locs) (hA : ∀ q, q < H.size → A1 q → A0 q) (hf : ∀ q, free q → A0 q) (hAX : ∀ q, q < H.size → AX q → A0 q)
    (kx : ∀ (E : String) (ce : Cell) (q9 : Addr) (u : SX) (t : State) (H1 : Heap) (locs1 : List Loc), t.heap = H1 → s.vm.Alike t.vm → px u → BX E u t → H.size ≤ H1.size → (∀ q : Nat, q < H.size → ¬ AX q → H1[q]? = H[q]?) → va_S A0 H0 H1 locs1 → H1[q9]? = some ce → ce.vm = .none → s.vm.findClass E = some ce.cls → vx_W p l e R s m args below meth c H1 locs1 (cells + mc) (slots + ms) Q (F0 m pc ls rest) q9)
    (kk : ∀ (r : UInt64) (u : S) (t : State) (H1 : Heap) (locs1 : List Loc), t.heap = H1 → s.vm.Alike t.vm → post r u → B u t → H.size ≤ H1.size → (∀ q : Nat, q < H.size → ¬ A1 q → H1[q]? = H[q]?) → va_S A0 H0 H1 locs1 → W p l e R s m args below meth c H1 locs1 (cells + mc) (slots + ms) Q (F0 m (pc + 3) ls (.double r :: rest))) : W p l e R s m args below meth c H locs cells slots Q (F0 m pc ls st0) := by
  intro T hT X
  rcases hr T hT X with ⟨v, st₀, t, T', L, h0, X', hL, e1, e2, ⟨⟨r, u, hv, hp, hb⟩, hF⟩, st⟩ | ⟨q, st₀, t, T', L, E, ce, h0, X', hL, e1, e2, ⟨u, hp, hb, hF⟩, hce, hcv, hcl, st⟩
  · cases hv
    obtain ⟨k1, k2, k3⟩ := vx_keep h0 e1 hS hA hf hL hF
    obtain ⟨t2, a1, b1⟩ := kk r u t T'.heap (locs ++ L) e1.symm (by rw [← e2]; exact X'.warmed.alike) hp hb k1 k2 k3 T' rfl X'
    exact ⟨t2, st t2 a1, b1⟩
  · obtain ⟨k1, k2, k3⟩ := vx_keep h0 e1 hS hAX hf hL hF
    obtain ⟨t2, a1, b1⟩ := kx E ce q u t T'.heap (locs ++ L) e1.symm (by rw [← e2]; exact X'.warmed.alike) hp hb k1 k2 k3 (by rw [e1]; exact hce) hcv hcl T' rfl X'
    exact ⟨t2, st.trans a1, b1⟩
theorem vx_callv {S SX : Type} {post : S → Prop} {px : SX → Prop} {B : S → State → Prop} {BX : String → SX → State → Prop} {AX : Nat → Prop} (hr : vx_Run p l e R s m args below meth c H locs cells slots mc ms (F0 m pc ls st0) rest (va_Qv post B A1 a) (vx_X px BX AX) free) (hS : va_S A0 H0 H locs) (hA : ∀ q, q < H.size → A1 q → A0 q) (hf : ∀ q, free q → A0 q) (hAX : ∀ q, q < H.size → AX q → A0 q)
    (kx : ∀ (E : String) (ce : Cell) (q9 : Addr) (u : SX) (t : State) (H1 : Heap) (locs1 : List Loc), t.heap = H1 → s.vm.Alike t.vm → px u → BX E u t → H.size ≤ H1.size → (∀ q : Nat, q < H.size → ¬ AX q → H1[q]? = H[q]?) → va_S A0 H0 H1 locs1 → H1[q9]? = some ce → ce.vm = .none → s.vm.findClass E = some ce.cls → vx_W p l e R s m args below meth c H1 locs1 (cells + mc) (slots + ms) Q (F0 m pc ls rest) q9)
    (kk : ∀ (u : S) (t : State) (H1 : Heap) (locs1 : List Loc), t.heap = H1 → s.vm.Alike t.vm → post u → B u t → H.size ≤ H1.size → (∀ q : Nat, q < H.size → ¬ A1 q → H1[q]? = H[q]?) → va_S A0 H0 H1 locs1 → W p l e R s m args below meth c H1 locs1 (cells + mc) (slots + ms) Q (F0 m (pc + 3) ls (rest))) : W p l e R s m args below meth c H locs cells slots Q (F0 m pc ls st0) := by
  intro T hT X
  rcases hr T hT X with ⟨v, st₀, t, T', L, h0, X', hL, e1, e2, ⟨⟨u, hv, hp, hb⟩, hF⟩, st⟩ | ⟨q, st₀, t, T', L, E, ce, h0, X', hL, e1, e2, ⟨u, hp, hb, hF⟩, hce, hcv, hcl, st⟩
  · cases hv
    obtain ⟨k1, k2, k3⟩ := vx_keep h0 e1 hS hA hf hL hF
    obtain ⟨t2, a1, b1⟩ := kk u t T'.heap (locs ++ L) e1.symm (by rw [← e2]; exact X'.warmed.alike) hp hb k1 k2 k3 T' rfl X'
    exact ⟨t2, st t2 a1, b1⟩
  · obtain ⟨k1, k2, k3⟩ := vx_keep h0 e1 hS hAX hf hL hF
    obtain ⟨t2, a1, b1⟩ := kx E ce q u t T'.heap (locs ++ L) e1.symm (by rw [← e2]; exact X'.warmed.alike) hp hb k1 k2 k3 (by rw [e1]; exact hce) hcv hcl T' rfl X'
    exact ⟨t2, st.trans a1, b1⟩
/-- caught by the row x of this method's table; the rows ahead don't take it -/
theorem vx_catch {own name : String} {E : String} {ce : Cell} {q : Addr} (hown : s.vm.findClass own = some m.cls) (pre : List ExceptionTableEntry) (x : ExceptionTableEntry) (suf : List ExceptionTableEntry) (hsplit : c.exceptionTable.toList = pre ++ x :: suf)
    (hpass : ∀ z ∈ pre, covers z pc = false ∨ (z.catchType ≠ 0 ∧ ∃ nm : String, (Cond.classLink own z.catchType nm).before args s = true ∧ va_Nc E nm s)) (hx : covers x pc = true) (h0 : x.catchType ≠ 0)
    (hlink : (Cond.classLink own x.catchType name).before args s = true) (hcast : (Cond.castable E name).before args s = true) (hcell : H[q]? = some ce) (hv : ce.vm = .none) (hcl : s.vm.findClass E = some ce.cls)
    (kk : W p l e R s m args below meth c H locs cells slots Q (F0 m x.handlerPc ls [.ref q])) : vx_W p l e R s m args below meth c H locs cells slots Q (F0 m pc ls rest) q := by
  intro T hT X
  have hpl : e.platform.magicAccessors = ({} : Platform).magicAccessors := by rw [X.admits.platform]
  obtain ⟨c3, c4, hc3, hc4, hasg⟩ := Cond.castable_spec hcast
  cases Option.some.inj (hc3.symm.trans hcl)
  obtain ⟨c5, hc5, hcl5⟩ := Cond.classLink_spec hown hlink e.platform hpl
  cases Option.some.inj (hc4.symm.trans hc5)
  obtain ⟨vm', X', st⟩ := X.thenCaughtThrough q (g := F0 m pc ls rest) rfl (Steps.refl _) (by rw [hT]; exact hcell) (by rw [hv]; rfl) (by obtain ⟨k9, h9, -⟩ := Vm.findClass_spec hcl; exact ⟨k9, h9⟩) pre x suf hsplit
    (fun z hz => by
      rcases hpass z hz with h | ⟨hz0, nm, hl1, hn1⟩
      · exact Or.inl h
      · obtain ⟨c6, hc6, hcl6⟩ := Cond.classLink_spec hown hl1 e.platform hpl
        obtain ⟨a8, b8, h1, h2, h3⟩ := hn1
        cases Option.some.inj (h1.symm.trans hcl)
        cases Option.some.inj (h2.symm.trans hc6)
        exact Or.inr ⟨hz0, _, hcl6, h3⟩) hx (Or.inr ⟨h0, c4, hcl5, hasg⟩)
  obtain ⟨t, a1, b1⟩ := kk (T.setVm vm') hT X'
  exact ⟨t, st.trans a1, b1⟩
end Rows
section Ends
variable {p : Program} {l : Launch} {e : Env} {R : Room} {s : State} {m : MethodId} {args : Array Value} {below : List Frame} {meth : Method} {c : Code} {H : Heap} {locs : List Loc} {cells slots : Nat} {Q : State → Prop}
variable {mc ms : Nat} {free : Addr → Prop} {A0 A1 : Nat → Prop} {H0 : Heap} {a : Array Value} {ls : Array Slot} {st0 rest : List Value}
variable {Qc : Array Value → State → Outcome → State → Prop} {XC : String → State → State → Prop}
/-- what a body that may throw owes at its end -/
def vx_MQ (below : List Frame) (Qc : Array Value → State → Outcome → State → Prop) (XC : String → State → State → Prop) (a : Array Value) (s : State) (mc ms : Nat) (free : Addr → Prop) : State → Prop := fun t =>
  ∃ o, t.status = .running ∧ Ended t below o ∧ vx_Q Qc XC mc ms free a s o t
theorem vx_ret {g : JFrame} {mc ms : Nat} (k : W p l e R s m args below meth c H locs cells slots (MQ below Qc args s mc ms free) g) : W p l e R s m args below meth c H locs cells slots (vx_MQ below Qc XC args s mc ms free) g := by
  intro T hT X
  obtain ⟨t, a1, o, b1, b2, b3, b4⟩ := k T hT X
  exact ⟨t, a1, o, b1, b2, Or.inl ⟨b3, b4⟩⟩
/-- not caught here: it goes on to the caller -/
theorem vx_widen {g : JFrame} {q : Addr} {k n : Nat} (h1 : cells ≤ k) (h2 : slots ≤ n) (kk : vx_W p l e R s m args below meth c H locs k n Q g q) : vx_W p l e R s m args below meth c H locs cells slots Q g q := fun T hT X => kk T hT (stand_widen X h1 h2)
theorem vx_out {pc : Nat} {E : String} {ce : Cell} {q : Addr} {mc ms : Nat} (hout : ∀ x ∈ c.exceptionTable.toList, covers x pc = false) (hlocks : meth.locks = false) (hcell : H[q]? = some ce) (hv : ce.vm = .none) (hcl : s.vm.findClass E = some ce.cls)
    (hx : ∀ t : State, t.heap = H → s.vm.Alike t.vm → XC E s t) (hf : ∀ z ∈ locs, free z.base) (hc : cells ≤ mc) (hs : slots ≤ ms) :
    vx_W p l e R s m args below meth c H locs cells slots (vx_MQ below Qc XC args s mc ms free) (F0 m pc ls rest) q := by
  intro T hT X
  obtain ⟨st1, hrun, hend, hW, hsm⟩ := X.leaveThrown q (g := F0 m pc ls rest) rfl rfl rfl hout hlocks
  have hcell9 : (T.setFrames (.throwing q :: below)).heap[q]? = some ce := by
    show T.heap[q]? = some ce
    rw [hT]; exact hcell
  exact ⟨_, st1, .threw q, hrun, hend, Or.inr ⟨q, rfl, E, ce, locs, hx _ hT hW.alike, hcell9, hv, hcl, hW, hsm.mono hc hs, hf⟩⟩
theorem vx_frame {U : State} {k n : Nat} (h : s.sameButNew ({ U with vm := s.vm } : State) locs k n) : s.heap.size ≤ U.heap.size ∧ ∀ q : Nat, q < s.heap.size → (∀ z ∈ locs, z.base ≠ q) → U.heap[q]? = s.heap[q]? := by
  obtain ⟨-, h2, -, -, -, h6⟩ := h
  refine ⟨h2, fun q hq hz => ?_⟩
  obtain ⟨c9, e1, e2, e3, e4⟩ := h6 q _ (Array.getElem?_eq_getElem hq)
  have hs : c9.slots = (s.heap[q]).slots := Array.ext_getElem? fun i => e4 i fun hm => hz _ hm rfl
  have h9 : c9 = s.heap[q] := by
    rw [hs] at e2
    exact e2
  have e5 : U.heap[q]? = some c9 := e1
  rw [e5, h9, Array.getElem?_eq_getElem hq]
/-- the words of a throw but the four that speak of the heap -/
def vx_no (w : Cond) : Bool := decide (w ≠ .isRef (.static Bundle.tN "UNASSIGNED_STACK" Bundle.steD)) && decide (w ≠ .isRef (.static Bundle.tN "SUPPRESSED_SENTINEL" Bundle.listD)) && decide (w ≠ .laysStatic Bundle.tN "UNASSIGNED_STACK" Bundle.steD) && decide (w ≠ .laysStatic Bundle.tN "SUPPRESSED_SENTINEL" Bundle.listD)
def vx_at0 (own : String) (ic : Nat) (X : String) (names : List String) : List Cond := (Bundle.ownAtoms0 own ic X names).filter vx_no
def vx_atS (own : String) (ic : Nat) (X : String) (names : List String) : List Cond := (Bundle.ownAtoms own ic X names).filter vx_no
/-- a word that the tables alone decide, or a good one -/
def vx_ot (w : Cond) : Bool := w.onTables || goodWord w
theorem vx_ot_at {args a' : Array Value} {s U : State} {w : Cond} (hW : s.WarmedH U.vm) (hvm : s.vm = U.vm) (hg : vx_ot w = true) (h : w.before args s = true) : w.before a' U = true := by
  simp only [vx_ot, Bool.or_eq_true] at hg
  rcases hg with hg | hg
  · exact va_tabs hg hvm h
  · exact word_at hW (good_of_word hg) h
/-- a list's words: the good ones out of the method's own list, the others by premises of their own -/
theorem vx_hat {args : Array Value} {s : State} {L B : List Cond} (h1 : ∀ w ∈ L.filter goodWord, w.before args s = true) (h2 : ∀ w ∈ L.filter (fun w => !goodWord w), w ∈ B) (h3 : ∀ w ∈ B, w.before args s = true) : ∀ w ∈ L, w.before args s = true := by
  intro w hw
  by_cases g : goodWord w = true
  · exact h1 w (List.mem_filter.mpr ⟨hw, g⟩)
  · refine h3 w (h2 w (List.mem_filter.mpr ⟨hw, ?_⟩))
    show (!goodWord w) = true
    cases hgw : goodWord w
    · rfl
    · exact absurd hgw g
theorem vx_c {args : Array Value} {s : State} {w : Cond} {B : List Cond} (h : w.before args s = true) (t : ∀ w ∈ B, w.before args s = true) : ∀ w' ∈ w :: B, w'.before args s = true := fun w' h' => (List.mem_cons.mp h').elim (fun e => by rw [e]; exact h) (t w')
theorem vx_n {args : Array Value} {s : State} : ∀ w ∈ ([] : List Cond), w.before args s = true := fun _ h => nomatch h
theorem vx_own {args : Array Value} {s : State} {L : List Cond} (h1 : ∀ w ∈ L.filter vx_no, w.before args s = true)
    (hU : (Cond.isRef (.static Bundle.tN "UNASSIGNED_STACK" Bundle.steD)).before args s = true) (hN : (Cond.isRef (.static Bundle.tN "SUPPRESSED_SENTINEL" Bundle.listD)).before args s = true)
    (lU : (Cond.laysStatic Bundle.tN "UNASSIGNED_STACK" Bundle.steD).before args s = true) (lN : (Cond.laysStatic Bundle.tN "SUPPRESSED_SENTINEL" Bundle.listD).before args s = true) : ∀ w ∈ L, w.before args s = true := by
  intro w hw
  by_cases e1 : w = .isRef (.static Bundle.tN "UNASSIGNED_STACK" Bundle.steD)
  · rw [e1]; exact hU
  · by_cases e2 : w = .isRef (.static Bundle.tN "SUPPRESSED_SENTINEL" Bundle.listD)
    · rw [e2]; exact hN
    · by_cases e3 : w = .laysStatic Bundle.tN "UNASSIGNED_STACK" Bundle.steD
      · rw [e3]; exact lU
      · by_cases e4 : w = .laysStatic Bundle.tN "SUPPRESSED_SENTINEL" Bundle.listD
        · rw [e4]; exact lN
        · exact h1 w (List.mem_filter.mpr ⟨hw, by unfold vx_no; rw [decide_eq_true e1, decide_eq_true e2, decide_eq_true e3, decide_eq_true e4]; rfl⟩)
/-- where a static field lies, its class's statics cell in H -/
def vx_L (C n d : String) (A : Nat → Prop) (U : State) (H : Heap) : Prop := ∃ (c : ClassId) (k : Class) (i : Nat) (f : Field) (a : Nat) (cell : Cell), U.vm.findClass C = some c ∧ U.fieldFound? C n d = some (c, k, i, f) ∧ f.isStatic = true ∧ k.statics = some a ∧ H[a]? = some cell ∧ cell.vm.isStatics = true ∧ cell.cls = c ∧ f.slot < cell.slots.size ∧ k.staticTypes[f.slot]? = some f.type ∧ ¬ A a
theorem vx_L.moved {C n d : String} {A : Nat → Prop} {u U : State} {H : Heap} (hvm : u.vm.Alike U.vm) (h : vx_L C n d A u H) : vx_L C n d A U H := by
  obtain ⟨c, k, i, f, a, cell, h1, h2, h3, h4, h5, h6, h7, h8, h9, h10⟩ := h
  obtain ⟨k', hi', he⟩ := State.fieldFound?_setVm hvm h2
  exact ⟨c, k', i, f, a, cell, by rw [hvm.findClass]; exact h1, hi', h3, by rw [he]; exact h4, h5, h6, h7, h8, by rw [he]; exact h9, h10⟩
theorem vx_L.kept {C n d : String} {A : Nat → Prop} {U : State} {H H1 : Heap} (h : vx_L C n d A U H) (hq : ∀ a : Nat, a < H.size → ¬ A a → H1[a]? = H[a]?) : vx_L C n d A U H1 := by
  obtain ⟨c, k, i, f, a, cell, h1, h2, h3, h4, h5, h6, h7, h8, h9, h10⟩ := h
  exact ⟨c, k, i, f, a, cell, h1, h2, h3, h4, by rw [hq a (Array.getElem?_eq_some_iff.mp h5).1 h10]; exact h5, h6, h7, h8, h9, h10⟩
theorem vx_L.narrow {C n d : String} {A B : Nat → Prop} {U : State} {H : Heap} (h : vx_L C n d A U H) (hAB : ∀ q, B q → A q) : vx_L C n d B U H := by
  obtain ⟨c, k, i, f, a, cell, h1, h2, h3, h4, h5, h6, h7, h8, h9, h10⟩ := h
  exact ⟨c, k, i, f, a, cell, h1, h2, h3, h4, h5, h6, h7, h8, h9, fun z => h10 (hAB _ z)⟩
theorem vx_L.word {C n d : String} {A : Nat → Prop} {s : State} {args : Array Value} (h : vx_L C n d A s s.heap) : (Cond.laysStatic C n d).before args s = true := by
  obtain ⟨c, k, i, f, a, cell, h1, h2, h3, h4, h5, h6, h7, h8, h9, -⟩ := h
  show (Cond.laysStatic C n d).holds args s none s [] = true
  exact Cond.laysStatic_of h1 h2 h3 h4 h5 h6 h7 h8 h9
/-- .. and what it holds: null or some reference -/
def vx_Zq (C n d : String) (A : Nat → Prop) (U : State) (H : Heap) : Prop := va_Zq C n d A U H ∧ vx_L C n d A U H
theorem vx_Zq.moved {C n d : String} {A : Nat → Prop} {u U : State} {H : Heap} (hvm : u.vm.Alike U.vm) (h : vx_Zq C n d A u H) : vx_Zq C n d A U H := ⟨va_Zq.moved hvm h.1, vx_L.moved hvm h.2⟩
theorem vx_Zq.kept {C n d : String} {A : Nat → Prop} {U : State} {H H1 : Heap} (h : vx_Zq C n d A U H) (hq : ∀ a : Nat, a < H.size → ¬ A a → H1[a]? = H[a]?) : vx_Zq C n d A U H1 := ⟨va_Zq.kept h.1 hq, vx_L.kept h.2 hq⟩
theorem vx_Zq.narrow {C n d : String} {A B : Nat → Prop} {U : State} {H : Heap} (h : vx_Zq C n d A U H) (hAB : ∀ q, B q → A q) : vx_Zq C n d B U H := ⟨va_Zq.narrow h.1 hAB, vx_L.narrow h.2 hAB⟩
theorem vx_Zqof {args : Array Value} {s : State} {C n d : String} {A : Nat → Prop} (hl : (Cond.laysStatic C n d).before args s = true) (hini : (Cond.initialized C).before args s = true) (h : (Cond.isRef (.static C n d)).before args s = true) (hA : ∀ a : Nat, a < s.heap.size → ¬ A a) : vx_Zq C n d A s s.heap := by
  refine ⟨va_Zqof hl hini h hA, ?_⟩
  obtain ⟨c, k, i, f, a, cell, h1, h2, h3, h4, h5, h6, h7, h8, h9⟩ := Cond.laysStatic_spec hl
  exact ⟨c, k, i, f, a, cell, h1, h2, h3, h4, h5, h6, h7, h8, h9, hA a (Array.getElem?_eq_some_iff.mp h5).1⟩
theorem vx_isRef {C n d : String} {v : Value} {A : Nat → Prop} {s : State} {args : Array Value} (h : va_Z C n d v A s s.heap) (hv : v.isRef = true) : (Cond.isRef (.static C n d)).before args s = true := by
  obtain ⟨cf, kf, fi, f, a, cell, h1, h2, h3, h4, h5, h6, h7, -⟩ := h
  have he : (Term.static C n d).eval args s none [] s = some v := by
    simp [Term.eval, State.fieldNamed?, h1, h2, h4, h5, h6, h7]
  simp only [Cond.before, Cond.holds, Cond.value, he]
  cases v <;> simp_all [Value.isRef]
theorem vx_isRefq {C n d : String} {A : Nat → Prop} {s : State} {args : Array Value} (h : va_Zq C n d A s s.heap) : (Cond.isRef (.static C n d)).before args s = true := by
  rcases h with h | ⟨t, h⟩
  · exact vx_isRef h rfl
  · exact vx_isRef h rfl
/-- the same frame, seen from here: as if the method were called anew in this heap -/
theorem vx_rebase {T : State} (X : Stand p l e R s m args below meth c T locs cells slots) {R' : Room} (hf : R'.frames ≤ R.frames) (hl : R'.locals ≤ R.locals) (hc : cells + R'.cells ≤ R.cells) (hs : slots + R'.slots ≤ R.slots) :
    Stand p l e R' ((T.setVm s.vm).setFrames (.invoking m args :: below)) m args below meth c T [] 0 0 := by
  have htop : (T.setVm s.vm).topJava?.isSome := X.here.top
  have hF : ((T.setVm s.vm).setFrames (.invoking m args :: below)).frames = .invoking m args :: below := State.frames_setFrames _ (State.cur_lt_of_top htop)
  obtain ⟨g₀, hg0⟩ := Option.isSome_iff_exists.mp htop
  obtain ⟨r, hr⟩ := State.topJava?_eq_some.mp hg0
  have hl9 : e.platform.stackLimits (T.setVm s.vm).me = e.platform.stackLimits s.me := X.limits
  have hb9 : (T.setVm s.vm).me.stackBytes = s.me.stackBytes := X.bytes
  refine ⟨X.admits, X.cas, X.clock, hF, ?_, X.hears, X.method, X.code, X.here, X.tail, X.warmed, ?_, ?_, ?_⟩
  · have h := X.room
    have hU : ((T.setVm s.vm).setFrames (.invoking m args :: below)).localsInUse = s.localsInUse := by
      rw [State.localsInUse_invoking hF (meth := meth) (c := c) X.method X.code, State.localsInUse_invoking X.frames X.method X.code]
    simp only [State.hasRoom, Bool.and_eq_true, decide_eq_true_eq] at h ⊢
    obtain ⟨⟨⟨⟨h1, h2, h3, h4, h5, h6⟩, h7⟩, h8⟩, h9⟩ := h
    rw [X.frames, List.length_cons] at h2 h3
    have q1 := X.heapSize
    have q2 := X.used
    simp only [hF, hU, List.length_cons, State.stackLimits_setFrames, State.stackBytes_setFrames, hl9, hb9]
    refine ⟨⟨⟨⟨by omega, by omega, by omega, by omega, by omega, h6⟩, ?_⟩, ?_⟩, X.book⟩
    · show T.heap.size + R'.cells ≤ e.platform.maxCells
      omega
    · show T.slotsUsed + R'.slots ≤ e.platform.maxSlots
      omega
  · rw [State.stackLimits_setFrames]; rfl
  · rw [State.stackBytes_setFrames]; rfl
  · refine ⟨?_, Nat.le_refl _, Nat.le_refl _, ?_, ?_, fun a c9 h9 => ⟨c9, h9, rfl, rfl, fun _ _ => rfl⟩⟩
    · obtain ⟨t, ht, -⟩ := State.frames_cons hr
      show T.setVm s.vm = { ((T.setVm s.vm).setFrames (.invoking m args :: below)).setFrames (T.setVm s.vm).frames with heap := T.heap, slotsUsed := T.slotsUsed }
      rw [State.setFrames_setFrames, State.setFrames_self ht]
      rfl
    · show T.slotsUsed = T.slotsUsed + ((T.heap.toList.drop T.heap.size).map (·.slots.size)).sum
      rw [List.drop_eq_nil_of_le (Nat.le_of_eq Array.length_toList)]
      rfl
    · show ((T.heap.toList.drop T.heap.size).map (·.slots.size)).sum ≤ 0
      rw [List.drop_eq_nil_of_le (Nat.le_of_eq Array.length_toList)]
      exact Nat.le_refl _
/-- 'throw new E()': new; dup; invokespecial; athrow -/
theorem vx_throw0 {cc : ByteArray} {pc : Nat} (hexec : p.tables.exec = Jvm.exec) (hb : c.code = cc) (hl : l.stackTraces = false) {own cls : String} {names : List String} {ik ic mc ms : Nat} {A : Nat → Prop}
    (hown : s.vm.findClass own = some m.cls) (hcls : Bundle.fit cls = true) (hnames : ∀ n ∈ names, Bundle.fit n = true)
    (hk : (Cond.classLink own ik cls).before args s = true) (hini : (Cond.initialized cls).before args s = true) (hat : ∀ w ∈ vx_at0 own ic cls names, w.before args s = true)
    (hgood : ∀ w ∈ Cond.classLink own ik cls :: Cond.initialized cls :: vx_at0 own ic cls names, vx_ot w = true)
    (hU : vx_Zq Bundle.tN "UNASSIGNED_STACK" Bundle.steD A s s.heap) (hN : vx_Zq Bundle.tN "SUPPRESSED_SENTINEL" Bundle.listD A s s.heap) (hS : va_S A s.heap H locs) (hsize : ls.size = c.maxLocals)
    (d0 : decode cc pc = .ok (.new ik, 3)) (d3 : decode cc (pc + 3) = .ok (.dup, 1)) (d4 : decode cc (pc + 4) = .ok (.invokespecial ic, 3)) (d7 : decode cc (pc + 7) = .ok (.athrow, 1))
    (hout : ∀ x ∈ c.exceptionTable.toList, covers x (pc + 7) = false)
    (hRframes : names.length + 3 < R.frames) (hRlocals : (rest.map fun v => v.category).sum + (13 * (names.length + 1) + 42) ≤ R.locals) (hRcells : cells + 1 ≤ R.cells) (hRslots : slots + 6 ≤ R.slots) (hlocks : meth.locks = false)
    (hx : ∀ t : State, s.vm.Alike t.vm → H.size ≤ t.heap.size → (∀ q : Nat, q < H.size → t.heap[q]? = H[q]?) → XC cls s t)
    (hf : ∀ z ∈ locs, free z.base) (hc : cells + 1 ≤ mc) (hs : slots + 6 ≤ ms) :
    W p l e R s m args below meth c H locs cells slots (vx_MQ below Qc XC args s mc ms free) (F0 m pc ls rest) := by
  intro T hT X
  have htr : e.platform.stackTraces = false := (show e.platform.stackTraces = l.stackTraces by rw [X.admits.platform]).trans hl
  have Y := vx_rebase X (R' := { frames := R.frames, locals := R.locals, cells := 1, slots := 6 }) (Nat.le_refl _) (Nat.le_refl _) hRcells hRslots
  obtain ⟨s', hA⟩ : ∃ z, z = (T.setVm s.vm).setFrames (.invoking m args :: below) := ⟨_, rfl⟩
  rw [← hA] at Y
  have hvm : s'.vm = s.vm := by rw [hA]; rfl
  have hhp : s'.heap = H := by rw [hA]; exact hT
  have hW0 : s.WarmedH s'.vm := by rw [hvm]; exact State.WarmedH.refl s
  have hat' : ∀ w ∈ vx_at0 own ic cls names, w.before args s' = true := fun w hw => vx_ot_at hW0 hvm.symm (hgood w (List.mem_cons_of_mem _ (List.mem_cons_of_mem _ hw))) (hat w hw)
  have hk' : (Cond.classLink own ik cls).before args s' = true := vx_ot_at hW0 hvm.symm (hgood _ List.mem_cons_self) hk
  have hini' : (Cond.initialized cls).before args s' = true := vx_ot_at hW0 hvm.symm (hgood _ (List.mem_cons_of_mem _ List.mem_cons_self)) hini
  have hU' : vx_Zq Bundle.tN "UNASSIGNED_STACK" Bundle.steD A s' s'.heap := by rw [hhp]; exact vx_Zq.moved hW0.alike (hU.kept hS.2.1)
  have hN' : vx_Zq Bundle.tN "SUPPRESSED_SENTINEL" Bundle.listD A s' s'.heap := by rw [hhp]; exact vx_Zq.moved hW0.alike (hN.kept hS.2.1)
  have h : ∀ w ∈ Bundle.ownAtoms0 own ic cls names, w.before args s' = true := vx_own hat' (vx_isRefq hU'.1) (vx_isRefq hN'.1) hU'.2.word hN'.2.word
  have hown' : s'.vm.findClass own = some m.cls := by rw [hvm]; exact hown
  have hins : (Cond.instantiable cls 6).before args s' = true := h _ (by simp [Bundle.ownAtoms0])
  obtain ⟨vm₁, cX, kX, hfX, hkX, -, -, X₁, st1⟩ := Y.newCold hexec (own := own) (C := cls) (index := ik) (n := 6) hown' hk' hins hini'
    (g := F0 m pc ls rest) rfl (by rw [hb]; exact d0) (Nat.le_refl _) (Nat.le_refl _)
  generalize hT1 : (T.setVm vm₁).pushCell { cls := cX, slots := kX.instanceTypes.map defaultValue, vm := .none } = T1 at X₁ st1
  have hcat : (Value.ref T.heap.size).category = 1 := rfl
  have hcellA : T1.heap[T.heap.size]? = some (freshCell cX kX) := by rw [← hT1]; exact State.heap_pushCell_size _ _
  have d3' : decode c.code (pc + 3) = .ok (.dup, 1) := by rw [hb]; exact d3
  obtain ⟨U, hsteps, hrun, hend, hW, hsame, ce, hce, hO⟩ := X₁.ctorThrow0 hexec htr (own := own) (cls := cls) (names := names) (ic := ic) hown' hcls hnames h (fun x hx => nomatch hx) hfX hkX hcellA (by rw [hhp, hT]; exact Nat.le_refl _)
    (g := { method := m, pc := pc + 4, locals := ls, stack := .ref T.heap.size :: .ref T.heap.size :: rest, locked := none }) rfl hsize rfl rfl (rest := rest) rfl
    (by rw [hb]; exact d4) (by rw [hb]; exact d7) hout hRframes (by simp only [List.map_cons, List.sum_cons, hcat]; omega) hlocks
  obtain ⟨f1, f2⟩ := vx_frame hsame
  rw [hhp] at f1 f2
  have hWs : s.WarmedH U.vm := State.WarmedH.trans hW0 hW
  have hcl : s.vm.findClass cls = some ce.cls := by
    have h9 := hO.cls
    rw [hvm] at h9
    exact h9
  have hall : s.sameButNew ({ U with vm := s.vm } : State) locs mc ms := by
    subst hA
    obtain ⟨e1, e2⟩ := hsame
    rw [State.setFrames_setFrames] at e1
    have h2 : (T.setVm s.vm).sameButNew ({ U with vm := s.vm } : State) [] (0 + 1) (0 + 6) := ⟨e1, e2⟩
    have h3 := X.same.trans h2
    rw [List.append_nil] at h3
    exact h3.mono hc hs
  refine ⟨U, ?_, .threw T.heap.size, hrun, hend, Or.inr ⟨T.heap.size, rfl, cls, ce, locs, hx U hWs.alike f1 (fun q hq => f2 q hq (fun z hz => nomatch hz)), hce, hO.vm, hcl, hWs, hall, hf⟩⟩
  refine st1 _ ?_
  show Steps p.tables e below (T1.setTop { method := m, pc := pc + 3, locals := ls, stack := .ref T.heap.size :: rest, locked := none }) _
  jvm_step X₁.here [X₁.here.top, hexec, d3', Value.category]
  exact hsteps
/-- 'throw new E("text")': new; dup; ldc; invokespecial; athrow -/
theorem vx_throwS {cc : ByteArray} {pc : Nat} (hexec : p.tables.exec = Jvm.exec) (hb : c.code = cc) (hl : l.stackTraces = false) {own cls text : String} {names : List String} {ik is ic mc ms sa : Nat} {A : Nat → Prop}
    (hown : s.vm.findClass own = some m.cls) (hcls : Bundle.fit cls = true) (hnames : ∀ n ∈ names, Bundle.fit n = true)
    (hk : (Cond.classLink own ik cls).before args s = true) (hini : (Cond.initialized cls).before args s = true) (hstr : vk_R own is text sa s) (hat : ∀ w ∈ vx_atS own ic cls names, w.before args s = true)
    (hgood : ∀ w ∈ Cond.classLink own ik cls :: Cond.initialized cls :: vx_atS own ic cls names, vx_ot w = true)
    (hU : vx_Zq Bundle.tN "UNASSIGNED_STACK" Bundle.steD A s s.heap) (hN : vx_Zq Bundle.tN "SUPPRESSED_SENTINEL" Bundle.listD A s s.heap) (hS : va_S A s.heap H locs) (hsize : ls.size = c.maxLocals)
    (d0 : decode cc pc = .ok (.new ik, 3)) (d3 : decode cc (pc + 3) = .ok (.dup, 1)) (d4 : decode cc (pc + 4) = .ok (.ldc is, 2)) (d6 : decode cc (pc + 6) = .ok (.invokespecial ic, 3)) (d9 : decode cc (pc + 9) = .ok (.athrow, 1))
    (hout : ∀ x ∈ c.exceptionTable.toList, covers x (pc + 9) = false)
    (hRframes : names.length + 3 < R.frames) (hRlocals : (rest.map fun v => v.category).sum + (13 * (names.length + 1) + 43) ≤ R.locals) (hRcells : cells + 1 ≤ R.cells) (hRslots : slots + 6 ≤ R.slots) (hlocks : meth.locks = false)
    (hx : ∀ t : State, s.vm.Alike t.vm → H.size ≤ t.heap.size → (∀ q : Nat, q < H.size → t.heap[q]? = H[q]?) → XC cls s t)
    (hf : ∀ z ∈ locs, free z.base) (hc : cells + 1 ≤ mc) (hs : slots + 6 ≤ ms) :
    W p l e R s m args below meth c H locs cells slots (vx_MQ below Qc XC args s mc ms free) (F0 m pc ls rest) := by
  intro T hT X
  have htr : e.platform.stackTraces = false := (show e.platform.stackTraces = l.stackTraces by rw [X.admits.platform]).trans hl
  have Y := vx_rebase X (R' := { frames := R.frames, locals := R.locals, cells := 1, slots := 6 }) (Nat.le_refl _) (Nat.le_refl _) hRcells hRslots
  obtain ⟨s', hA⟩ : ∃ z, z = (T.setVm s.vm).setFrames (.invoking m args :: below) := ⟨_, rfl⟩
  rw [← hA] at Y
  have hvm : s'.vm = s.vm := by rw [hA]; rfl
  have hhp : s'.heap = H := by rw [hA]; exact hT
  have hW0 : s.WarmedH s'.vm := by rw [hvm]; exact State.WarmedH.refl s
  have hat' : ∀ w ∈ vx_atS own ic cls names, w.before args s' = true := fun w hw => vx_ot_at hW0 hvm.symm (hgood w (List.mem_cons_of_mem _ (List.mem_cons_of_mem _ hw))) (hat w hw)
  have hk' : (Cond.classLink own ik cls).before args s' = true := vx_ot_at hW0 hvm.symm (hgood _ List.mem_cons_self) hk
  have hini' : (Cond.initialized cls).before args s' = true := vx_ot_at hW0 hvm.symm (hgood _ (List.mem_cons_of_mem _ List.mem_cons_self)) hini
  have hU' : vx_Zq Bundle.tN "UNASSIGNED_STACK" Bundle.steD A s' s'.heap := by rw [hhp]; exact vx_Zq.moved hW0.alike (hU.kept hS.2.1)
  have hN' : vx_Zq Bundle.tN "SUPPRESSED_SENTINEL" Bundle.listD A s' s'.heap := by rw [hhp]; exact vx_Zq.moved hW0.alike (hN.kept hS.2.1)
  have h : ∀ w ∈ Bundle.ownAtoms own ic cls names, w.before args s' = true := vx_own hat' (vx_isRefq hU'.1) (vx_isRefq hN'.1) hU'.2.word hN'.2.word
  have hown' : s'.vm.findClass own = some m.cls := by rw [hvm]; exact hown
  have hins : (Cond.instantiable cls 6).before args s' = true := h _ (by simp [Bundle.ownAtoms])
  obtain ⟨vm₁, cX, kX, hfX, hkX, -, -, X₁, st1⟩ := Y.newCold hexec (own := own) (C := cls) (index := ik) (n := 6) hown' hk' hins hini'
    (g := F0 m pc ls rest) rfl (by rw [hb]; exact d0) (Nat.le_refl _) (Nat.le_refl _)
  generalize hT1 : (T.setVm vm₁).pushCell { cls := cX, slots := kX.instanceTypes.map defaultValue, vm := .none } = T1 at X₁ st1
  have hcat : (Value.ref T.heap.size).category = 1 := rfl
  have hcellA : T1.heap[T.heap.size]? = some (freshCell cX kX) := by rw [← hT1]; exact State.heap_pushCell_size _ _
  have d3' : decode c.code (pc + 3) = .ok (.dup, 1) := by rw [hb]; exact d3
  have d4' : decode c.code (pc + 4) = .ok (.ldc is, 2) := by rw [hb]; exact d4
  have hstr' : vk_R own is text sa s' := vk_R.warm hW0 hstr
  obtain ⟨U, hsteps, hrun, hend, hW, hsame, ce, hce, hO⟩ := X₁.ctorThrowS hexec htr (own := own) (cls := cls) (names := names) (ic := ic) hown' hcls hnames h (fun x hx => nomatch hx) hfX hkX hcellA (by rw [hhp, hT]; exact Nat.le_refl _) (msg := .ref sa) rfl
    (g := { method := m, pc := pc + 6, locals := ls, stack := .ref sa :: .ref T.heap.size :: .ref T.heap.size :: rest, locked := none }) rfl hsize rfl rfl (rest := rest) rfl
    (by rw [hb]; exact d6) (by rw [hb]; exact d9) hout hRframes (by simp only [List.map_cons, List.sum_cons, hcat]; omega) hlocks
  obtain ⟨f1, f2⟩ := vx_frame hsame
  rw [hhp] at f1 f2
  have hWs : s.WarmedH U.vm := State.WarmedH.trans hW0 hW
  have hcl : s.vm.findClass cls = some ce.cls := by
    have h9 := hO.cls
    rw [hvm] at h9
    exact h9
  have hall : s.sameButNew ({ U with vm := s.vm } : State) locs mc ms := by
    subst hA
    obtain ⟨e1, e2⟩ := hsame
    rw [State.setFrames_setFrames] at e1
    have h2 : (T.setVm s.vm).sameButNew ({ U with vm := s.vm } : State) [] (0 + 1) (0 + 6) := ⟨e1, e2⟩
    have h3 := X.same.trans h2
    rw [List.append_nil] at h3
    exact h3.mono hc hs
  refine ⟨U, ?_, .threw T.heap.size, hrun, hend, Or.inr ⟨T.heap.size, rfl, cls, ce, locs, hx U hWs.alike f1 (fun q hq => f2 q hq (fun z hz => nomatch hz)), hce, hO.vm, hcl, hWs, hall, hf⟩⟩
  refine st1 _ ?_
  show Steps p.tables e below (T1.setTop { method := m, pc := pc + 3, locals := ls, stack := .ref T.heap.size :: rest, locked := none }) _
  jvm_step X₁.here [X₁.here.top, hexec, d3', Value.category]
  exact X₁.ldcString hexec (own := own) (text := text) (index := is) (a := sa) hown' hstr'.1 hstr'.2
    (g := { method := m, pc := pc + 4, locals := ls, stack := .ref T.heap.size :: .ref T.heap.size :: rest, locked := none }) rfl d4' _ hsteps
/-- 'throw new E("text")', the text by a wide index -/
theorem vx_throwSW {cc : ByteArray} {pc : Nat} (hexec : p.tables.exec = Jvm.exec) (hb : c.code = cc) (hl : l.stackTraces = false) {own cls text : String} {names : List String} {ik is ic mc ms sa : Nat} {A : Nat → Prop}
    (hown : s.vm.findClass own = some m.cls) (hcls : Bundle.fit cls = true) (hnames : ∀ n ∈ names, Bundle.fit n = true)
    (hk : (Cond.classLink own ik cls).before args s = true) (hini : (Cond.initialized cls).before args s = true) (hstr : vk_R own is text sa s) (hat : ∀ w ∈ vx_atS own ic cls names, w.before args s = true)
    (hgood : ∀ w ∈ Cond.classLink own ik cls :: Cond.initialized cls :: vx_atS own ic cls names, vx_ot w = true)
    (hU : vx_Zq Bundle.tN "UNASSIGNED_STACK" Bundle.steD A s s.heap) (hN : vx_Zq Bundle.tN "SUPPRESSED_SENTINEL" Bundle.listD A s s.heap) (hS : va_S A s.heap H locs) (hsize : ls.size = c.maxLocals)
    (d0 : decode cc pc = .ok (.new ik, 3)) (d3 : decode cc (pc + 3) = .ok (.dup, 1)) (d4 : decode cc (pc + 4) = .ok (.ldc_w is, 3)) (d7 : decode cc (pc + 7) = .ok (.invokespecial ic, 3)) (d10 : decode cc (pc + 10) = .ok (.athrow, 1))
    (hout : ∀ x ∈ c.exceptionTable.toList, covers x (pc + 10) = false)
    (hRframes : names.length + 3 < R.frames) (hRlocals : (rest.map fun v => v.category).sum + (13 * (names.length + 1) + 43) ≤ R.locals) (hRcells : cells + 1 ≤ R.cells) (hRslots : slots + 6 ≤ R.slots) (hlocks : meth.locks = false)
    (hx : ∀ t : State, s.vm.Alike t.vm → H.size ≤ t.heap.size → (∀ q : Nat, q < H.size → t.heap[q]? = H[q]?) → XC cls s t)
    (hf : ∀ z ∈ locs, free z.base) (hc : cells + 1 ≤ mc) (hs : slots + 6 ≤ ms) :
    W p l e R s m args below meth c H locs cells slots (vx_MQ below Qc XC args s mc ms free) (F0 m pc ls rest) := by
  intro T hT X
  have htr : e.platform.stackTraces = false := (show e.platform.stackTraces = l.stackTraces by rw [X.admits.platform]).trans hl
  have Y := vx_rebase X (R' := { frames := R.frames, locals := R.locals, cells := 1, slots := 6 }) (Nat.le_refl _) (Nat.le_refl _) hRcells hRslots
  obtain ⟨s', hA⟩ : ∃ z, z = (T.setVm s.vm).setFrames (.invoking m args :: below) := ⟨_, rfl⟩
  rw [← hA] at Y
  have hvm : s'.vm = s.vm := by rw [hA]; rfl
  have hhp : s'.heap = H := by rw [hA]; exact hT
  have hW0 : s.WarmedH s'.vm := by rw [hvm]; exact State.WarmedH.refl s
  have hat' : ∀ w ∈ vx_atS own ic cls names, w.before args s' = true := fun w hw => vx_ot_at hW0 hvm.symm (hgood w (List.mem_cons_of_mem _ (List.mem_cons_of_mem _ hw))) (hat w hw)
  have hk' : (Cond.classLink own ik cls).before args s' = true := vx_ot_at hW0 hvm.symm (hgood _ List.mem_cons_self) hk
  have hini' : (Cond.initialized cls).before args s' = true := vx_ot_at hW0 hvm.symm (hgood _ (List.mem_cons_of_mem _ List.mem_cons_self)) hini
  have hU' : vx_Zq Bundle.tN "UNASSIGNED_STACK" Bundle.steD A s' s'.heap := by rw [hhp]; exact vx_Zq.moved hW0.alike (hU.kept hS.2.1)
  have hN' : vx_Zq Bundle.tN "SUPPRESSED_SENTINEL" Bundle.listD A s' s'.heap := by rw [hhp]; exact vx_Zq.moved hW0.alike (hN.kept hS.2.1)
  have h : ∀ w ∈ Bundle.ownAtoms own ic cls names, w.before args s' = true := vx_own hat' (vx_isRefq hU'.1) (vx_isRefq hN'.1) hU'.2.word hN'.2.word
  have hown' : s'.vm.findClass own = some m.cls := by rw [hvm]; exact hown
  have hins : (Cond.instantiable cls 6).before args s' = true := h _ (by simp [Bundle.ownAtoms])
  obtain ⟨vm₁, cX, kX, hfX, hkX, -, -, X₁, st1⟩ := Y.newCold hexec (own := own) (C := cls) (index := ik) (n := 6) hown' hk' hins hini'
    (g := F0 m pc ls rest) rfl (by rw [hb]; exact d0) (Nat.le_refl _) (Nat.le_refl _)
  generalize hT1 : (T.setVm vm₁).pushCell { cls := cX, slots := kX.instanceTypes.map defaultValue, vm := .none } = T1 at X₁ st1
  have hcat : (Value.ref T.heap.size).category = 1 := rfl
  have hcellA : T1.heap[T.heap.size]? = some (freshCell cX kX) := by rw [← hT1]; exact State.heap_pushCell_size _ _
  have d3' : decode c.code (pc + 3) = .ok (.dup, 1) := by rw [hb]; exact d3
  have d4' : decode c.code (pc + 4) = .ok (.ldc_w is, 3) := by rw [hb]; exact d4
  have hstr' : vk_R own is text sa s' := vk_R.warm hW0 hstr
  obtain ⟨U, hsteps, hrun, hend, hW, hsame, ce, hce, hO⟩ := X₁.ctorThrowS hexec htr (own := own) (cls := cls) (names := names) (ic := ic) hown' hcls hnames h (fun x hx => nomatch hx) hfX hkX hcellA (by rw [hhp, hT]; exact Nat.le_refl _) (msg := .ref sa) rfl
    (g := { method := m, pc := pc + 7, locals := ls, stack := .ref sa :: .ref T.heap.size :: .ref T.heap.size :: rest, locked := none }) rfl hsize rfl rfl (rest := rest) rfl
    (by rw [hb]; exact d7) (by rw [hb]; exact d10) hout hRframes (by simp only [List.map_cons, List.sum_cons, hcat]; omega) hlocks
  obtain ⟨f1, f2⟩ := vx_frame hsame
  rw [hhp] at f1 f2
  have hWs : s.WarmedH U.vm := State.WarmedH.trans hW0 hW
  have hcl : s.vm.findClass cls = some ce.cls := by
    have h9 := hO.cls
    rw [hvm] at h9
    exact h9
  have hall : s.sameButNew ({ U with vm := s.vm } : State) locs mc ms := by
    subst hA
    obtain ⟨e1, e2⟩ := hsame
    rw [State.setFrames_setFrames] at e1
    have h2 : (T.setVm s.vm).sameButNew ({ U with vm := s.vm } : State) [] (0 + 1) (0 + 6) := ⟨e1, e2⟩
    have h3 := X.same.trans h2
    rw [List.append_nil] at h3
    exact h3.mono hc hs
  refine ⟨U, ?_, .threw T.heap.size, hrun, hend, Or.inr ⟨T.heap.size, rfl, cls, ce, locs, hx U hWs.alike f1 (fun q hq => f2 q hq (fun z hz => nomatch hz)), hce, hO.vm, hcl, hWs, hall, hf⟩⟩
  refine st1 _ ?_
  show Steps p.tables e below (T1.setTop { method := m, pc := pc + 3, locals := ls, stack := .ref T.heap.size :: rest, locked := none }) _
  jvm_step X₁.here [X₁.here.top, hexec, d3', Value.category]
  exact X₁.ldcStringW hexec (own := own) (text := text) (index := is) (a := sa) hown' hstr'.1 hstr'.2
    (g := { method := m, pc := pc + 4, locals := ls, stack := .ref T.heap.size :: .ref T.heap.size :: rest, locked := none }) rfl d4' _ hsteps
end Ends
section Bodies
variable {l : Launch}
theorem vx_ofW {y : MethodName} {ws ws' : List Cond} {rm : Room} {Pc : Array Value → State → Prop} {Qc : Array Value → State → Outcome → State → Prop} {XC : String → State → State → Prop} {mc ms : Nat} {free : Addr → Prop} {cc : ByteArray} {maxL : Nat} {ret : Option FieldType}
    (hy : plainName y.cls = true) (hw : ws = Cond.code y cc maxL ret :: ws')
    (body : ∀ p e s m args below meth c s₁, BodyLoose p l y (headSpec ws rm) cc maxL ret e s m args below meth c s₁ → c.maxLocals = maxL → (∀ x ∈ c.exceptionTable.toList, False) → Pc args s →
      W p l e (headSpec ws rm).room s m args below meth c s.heap [] 0 0 (vx_MQ below Qc XC args s mc ms free) (entryFrame m args maxL)) : vx_Met l y ws rm Pc Qc XC mc ms free := by
  refine MetFree.of_bodyS (code := cc) (maxLocals := maxL) (ret := ret) hy ?_ ?_
  · intro args s m h hn
    obtain ⟨meth, c, h1, h2, h3, h4, h5, h6, -, -⟩ := Cond.code_spec hn (atoms_spec (ws := ws) h _ (by rw [hw]; exact List.mem_cons_self))
    exact ⟨meth, c, h1, h2, h3, h4, h5, h6⟩
  · intro p e s m args below meth c s₁ B hml hP _
    have hh0 : s₁.heap = s.heap := by rw [B.state]; rfl
    have ht : ∀ x ∈ c.exceptionTable.toList, False := by
      obtain ⟨meth9, c9, h1, h2, -, -, -, -, h7, -⟩ := Cond.code_spec B.named (atoms_spec (ws := ws) B.pre _ (by rw [hw]; exact List.mem_cons_self))
      cases Option.some.inj (h1.symm.trans B.method)
      cases Option.some.inj (h2.symm.trans (Stand.of_body B).code)
      intro x hx
      rw [Array.isEmpty_iff.mp h7] at hx
      cases hx
    obtain ⟨t, a1, o, b1, b2, b3⟩ := body p e s m args below meth c s₁ B hml ht hP s₁ hh0 (Stand.of_body B)
    exact ⟨t, o, a1, b1, b2, b3⟩
/-- the table of a body with handlers -/
theorem vx_table {p : Program} {x y : MethodName} {S : Spec} {cc bytes : ByteArray} {maxL maxL' : Nat} {ret ret' : Option FieldType} {e : Env} {s s₁ : State} {m : MethodId} {args : Array Value} {below : List Frame} {meth : Method} {c : Code} {hh : List (Nat × Nat × Nat × Nat)}
    (B : BodyLoose p l y S cc maxL ret e s m args below meth c s₁) (h : (Cond.codeWith y bytes maxL' ret' hh).before args s = true) : c.exceptionTable.toList = tableOf hh := by
  obtain ⟨m9, meth9, c9, hn9, h1, h2, -, -, h6, -⟩ := Cond.codeWith_spec h
  cases Option.some.inj (hn9.symm.trans B.named)
  cases Option.some.inj (h1.symm.trans B.method)
  cases Option.some.inj (h2.symm.trans (Stand.of_body B).code)
  rw [← h6, table_eq]
end Bodies
end VXA
/-! ===== END ===== -/
/-! ===== BEGIN a static call of a method with an exception table ===== -/
section VXS
variable {p : Program} {l : Launch} {e : Env} {R : Room} {s : State} {m : MethodId} {args : Array Value} {below : List Frame} {meth : Method} {c : Code} {T : State} {H : Heap} {locs : List Loc} {cells slots : Nat}
abbrev vx_CSW (R : Room) (s : State) (args : Array Value) (own : String) (index : Nat) (y : MethodName) (bytes : ByteArray) (maxL : Nat) (ret : Option FieldType) (hh : List (Nat × Nat × Nat × Nat)) (ws : List Cond) (rm : Room) (mc ms n : Nat) : Prop :=
  (rm.cells = mc ∧ rm.slots = ms ∧ rm.frames + 1 ≤ R.frames ∧ 8 + (maxL + 11) + rm.locals ≤ R.locals ∧ (∀ w ∈ ws, ∀ (a' : Array Value) (U : State), s.WarmedH U.vm → w.before a' U = true) ∧ Cond.codeWith y bytes maxL ret hh ∈ ws) ∧
  (Cond.codeWith y bytes maxL ret hh).before args s = true ∧ (Cond.initialized y.cls).before args s = true ∧ (y.cls ≠ "java/lang/invoke/MethodHandle" ∧ y.cls ≠ "java/lang/invoke/VarHandle") ∧
  (∀ sig, parseMethodDescriptor y.desc = some sig → n = sig.parameters.length) ∧ (Cond.methodLink own index y).before args s = true ∧ (Cond.static y).before args s = true
theorem vx_cwSW {own : String} {index maxL mc ms : Nat} {y : MethodName} {bytes : ByteArray} {ret : Option FieldType} {hh : List (Nat × Nat × Nat × Nat)} {Ts ws ws' : List Cond} {rm : Room} (n : Nat) (ht : ∀ w ∈ Ts, w.before args s = true) (hT : GoodIn Ts (va_wsS own index y ws)) (hw : ws = Cond.codeWith y bytes maxL ret hh :: ws') (hrc : rm.cells = mc) (hrs : rm.slots = ms)
    (hd : y.cls ≠ "java/lang/invoke/MethodHandle" ∧ y.cls ≠ "java/lang/invoke/VarHandle" ∧ (parseMethodDescriptor y.desc).map (fun d => d.parameters.length) = some n) (hR : rm.frames + 1 ≤ R.frames ∧ 8 + (maxL + 11) + rm.locals ≤ R.locals) :
    vx_CSW R s args own index y bytes maxL ret hh ws rm mc ms n := by
  have ok : ∀ w ∈ va_wsS own index y ws, w.before args s = true := fun w h => ht w (hT w h).1
  have hG : GoodIn Ts ws := fun w h => hT w (by unfold va_wsS; exact List.mem_append_right _ h)
  have hc : Cond.codeWith y bytes maxL ret hh ∈ ws := by rw [hw]; exact List.mem_cons_self
  refine ⟨⟨hrc, hrs, hR.1, hR.2, pay_in ht hG, hc⟩, ht _ (hG _ hc).1, ok _ (by simp [va_wsS]), ⟨hd.1, hd.2.1⟩, fun sig h => ?_, ok _ (by simp [va_wsS]), ok _ (by simp [va_wsS])⟩
  have h2 := hd.2.2
  rw [h] at h2
  exact (Option.some.inj h2).symm
theorem vx_callSW (X : Stand p l e R s m args below meth c T locs cells slots) (hexec : p.tables.exec = Jvm.exec) {own : String} {index : Nat} {y : MethodName} {bytes : ByteArray} {maxL : Nat} {ret : Option FieldType} {hh : List (Nat × Nat × Nat × Nat)}
    (hown : s.vm.findClass own = some m.cls) (hlink : (Cond.methodLink own index y).before args s = true) (hstat : (Cond.static y).before args s = true) (hinit : (Cond.initialized y.cls).before args s = true)
    (hcode : (Cond.codeWith y bytes maxL ret hh).before args s = true) (hy : y.cls ≠ "java/lang/invoke/MethodHandle" ∧ y.cls ≠ "java/lang/invoke/VarHandle")
    {W9 : Nat} {Pre : Pt → Array Value → Prop} {Post : Pt → Array Value → Option Value → Pt → Prop} (hK : Back l R p e below s args y 3 W9 Pre Post)
    {g : JFrame} (hg : g.method = m) (hsize : g.locals.size = c.maxLocals) {argsL rest : List Value} (hlen : ∀ sig, parseMethodDescriptor y.desc = some sig → argsL.length = sig.parameters.length)
    (hstack : g.stack = argsL.reverse ++ rest) (hW : 2 * g.monitorRoom + (rest.map fun v => v.category).sum ≤ W9) (hdg : decode c.code g.pc = .ok (.invokestatic index, 3))
    (hpre : ∀ vm₁, s.WarmedH vm₁ → Pre ⟨T.setVm vm₁, locs, cells, slots⟩ argsL.toArray) :
    ∃ (v : Option Value) (vm₁ : Vm) (B : Pt), s.WarmedH vm₁ ∧ Stand p l e R s m args below meth c B.U B.locs B.cells B.slots ∧ Post ⟨T.setVm vm₁, locs, cells, slots⟩ argsL.toArray v B ∧
      ∀ target, Steps p.tables e below (B.U.setTop { g with pc := g.pc + 3, stack := v.toList ++ rest }) target → Steps p.tables e below (T.setTop g) target := by
  obtain ⟨mk, methM, cM, hnamed, hmethM, -, -, -, -, -, -, hsigM⟩ := Cond.codeWith_spec hcode
  have hstatic : methM.isStatic = true := Cond.static_spec hnamed hmethM hstat
  obtain ⟨kP, hkP, -⟩ := className_of_methodNamed hnamed
  have hinitP : kP.init = .initialized := Cond.initialized_spec (findClass_of_methodNamed hnamed) hkP hinit
  obtain ⟨vm₁, X₁, hstep₁⟩ := X.invokestatic hexec hown hlink hnamed hmethM hstatic hkP hinitP hy (g := g) hg (argsL := argsL) (rest := rest) (hlen _ hsigM) hstack hdg
  obtain ⟨v, B, X', hpost, hsteps⟩ := hK m meth c ⟨T.setVm vm₁, locs, cells, slots⟩ { g with stack := rest } (.invokestatic index) mk argsL.toArray X₁ hg hsize hdg hW (X₁.named hnamed) (hpre vm₁ X₁.warmed)
  exact ⟨v, vm₁, B, X₁.warmed, X', hpost, fun target h => hstep₁ _ fun acts => by rw [doInvoke_state]; exact hsteps.trans h⟩
theorem vx_runSW {y : MethodName} {bytes cc : ByteArray} {maxL nL mc ms n index : Nat} {ret : Option FieldType} {hh : List (Nat × Nat × Nat × Nat)} {ws : List Cond} {rm : Room} {Pc : Array Value → State → Prop} {Qc : Array Value → State → Outcome → State → Prop} {free : Addr → Prop} {Ts : List Cond} {own : String} {As rest : List Value} {g : JFrame}
    (S : CallFix p m c cc nL s args Ts own) (hM : Met l y ws rm Pc Qc mc ms free) (cw : vx_CSW R s args own index y bytes maxL ret hh ws rm mc ms n) (hp : PreS s H Pc As)
    (hg : g.method = m) (hn : As.length = n) (hsize : g.locals.size = nL) (hstack : g.stack = As.reverse ++ rest) (hW : 2 * g.monitorRoom + (rest.map fun v => v.category).sum ≤ 8) (hdg : decode cc g.pc = .ok (.invokestatic index, 3)) (hf : cells + mc ≤ R.cells ∧ slots + ms ≤ R.slots) :
    va_Run p l e R s m args below meth c H locs cells slots mc ms g rest (Qc As.toArray) (free) := by
  obtain ⟨⟨hrc, hrs, hfr, hlo, hws, hcw⟩, hcode, hini, hy, hlen, hl, hstt⟩ := cw
  have hK : Back l R p e below s args y 3 8 (PreOf R mc ms Pc) (PostOf Qc mc ms free) := va_backW (hh := hh) (bytes := bytes) (maxL := maxL) (ret := ret) hM hp.1 hrc hrs hfr hlo hws hcw (fun a' U hW => word_at hW (Or.inl (by first | rfl | simp [Cond.onTables, Cond.keeps, Cond.steady])) hini)
  obtain ⟨hx, hb, hml, ho, -⟩ := S
  intro T hT X
  obtain ⟨v, vm₁, ⟨U', l2, c2, s2⟩, hW₁, X', ⟨g', mk, t, L, e1, e2, hq, h1, hL, h2, h3⟩, st⟩ := vx_callSW X hx (hh := hh) (bytes := bytes) (maxL := maxL) (ret := ret) ho hl hstt hini hcode hy hK hg (hsize.trans hml.symm) (argsL := As) (rest := rest) (fun sig h => hn.trans (hlen sig h)) hstack hW (by rw [hb]; exact hdg)
    (fun vm₁ hW₁ => ⟨hf.1, hf.2, hp.2 (T.setVm vm₁) hT hW₁⟩)
  dsimp only [Pt.U, Pt.locs, Pt.cells, Pt.slots] at X' e1 e2 h1 h2 h3 st
  subst h1; subst h2; subst h3
  exact ⟨v, (T.setVm vm₁).calling g' mk As.toArray, t, U', L, hT, X', hL, e1, e2, hq, st⟩
/-- not caught here, past rows that name other classes: it goes on to the caller -/
theorem vx_outP {p : Program} {l : Launch} {e : Env} {R : Room} {s : State} {m : MethodId} {args : Array Value} {below : List Frame} {meth : Method} {c : Code} {H : Heap} {locs : List Loc} {cells slots : Nat} {free : Addr → Prop} {ls : Array Slot} {rest : List Value} {Qc : Array Value → State → Outcome → State → Prop} {XC : String → State → State → Prop}
    {pc : Nat} {own E : String} {ce : Cell} {q : Addr} {mc ms : Nat} (hown : s.vm.findClass own = some m.cls) (hlocks : meth.locks = false)
    (hpass : ∀ z ∈ c.exceptionTable.toList, covers z pc = false ∨ (z.catchType ≠ 0 ∧ ∃ nm : String, (Cond.classLink own z.catchType nm).before args s = true ∧ va_Nc E nm s)) (hcell : H[q]? = some ce) (hv : ce.vm = .none) (hcl : s.vm.findClass E = some ce.cls)
    (hx : ∀ t : State, t.heap = H → s.vm.Alike t.vm → XC E s t) (hf : ∀ z ∈ locs, free z.base) (hc : cells ≤ mc) (hs : slots ≤ ms) :
    vx_W p l e R s m args below meth c H locs cells slots (vx_MQ below Qc XC args s mc ms free) (F0 m pc ls rest) q := by
  intro T hT X
  have hpl : e.platform.magicAccessors = ({} : Platform).magicAccessors := by rw [X.admits.platform]
  obtain ⟨vm', hW', X', st⟩ := X.outThrough hlocks q (g := F0 m pc ls rest) rfl rfl rfl (cell := ce) (by rw [hT]; exact hcell) (by rw [hv]; rfl)
    (by obtain ⟨k9, h9, -⟩ := Vm.findClass_spec hcl; exact ⟨k9, h9⟩) (fun z hz => by
      rcases hpass z hz with h | ⟨hz0, nm, hl1, hn1⟩
      · exact Or.inl h
      · obtain ⟨c6, hc6, hcl6⟩ := Cond.classLink_spec hown hl1 e.platform hpl
        obtain ⟨a8, b8, h1, h2, h3⟩ := hn1
        cases Option.some.inj (h1.symm.trans hcl)
        cases Option.some.inj (h2.symm.trans hc6)
        exact Or.inr ⟨hz0, _, hcl6, h3⟩)
  obtain ⟨g₀, hfr⟩ := X'.frames_eq
  have hcell9 : ((T.setVm vm').setFrames (.throwing q :: below)).heap[q]? = some ce := by
    show T.heap[q]? = some ce
    rw [hT]; exact hcell
  have hend : Ended ((T.setVm vm').setFrames (.throwing q :: below)) below (.threw q) := State.frames_setFrames _ (State.cur_lt_of_frames hfr)
  refine ⟨(T.setVm vm').setFrames (.throwing q :: below), ?_, .threw q, X'.here.running, hend, Or.inr ⟨q, rfl, E, ce, locs, hx _ hT (X'.ends _).1.alike, hcell9, hv, hcl, (X'.ends _).1, (X'.ends _).2.mono hc hs, hf⟩⟩
  rw [X.pushThrowing_eq]
  exact st
/-- a thing of a world lies in the heap -/
theorem vx_lt {D : va_G} {cl : List vw_C} {ws : va_W} {H1 : Heap} (h : va_P D cl ws H1) {k : Nat} {q : Nat × va_E} (hk : ws[k]? = some q) : q.1 < H1.size := (h k q hk).lt
end VXS
/-! ===== END ===== -/
/-! ===== BEGIN methods with a table of their own: called by a name, returning or throwing ===== -/
section VXH
/-! vx_backW, vx_callVX, vx_callSX, vx_callVW, vx_runVW, vx_runVX, vx_runSX, vx_ofWH follow the same proofs as their sisters above (Free/Laws.lean, Shelf42/LK1.lean); vx_outP calls Shelf42/NT130.lean (outThrough). -/
section
variable {l : Launch} {R : Room} {p : Program} {e : Env} {below : List Frame} {s : State} {sargs : Array Value} {y : MethodName} {len W9 : Nat}
theorem vx_backW {ws : List Cond} {rm : Room} {Pc : Array Value → State → Prop} {Qc : Array Value → State → Outcome → State → Prop} {XC : String → State → State → Prop} {mc ms : Nat} {free : Addr → Prop} {bytes : ByteArray} {maxL : Nat} {ret : Option FieldType} {hh : List (Nat × Nat × Nat × Nat)}
    (hM : vx_Met l y ws rm Pc Qc XC mc ms free) (hblind : FrameBlind Pc) (hrc : rm.cells = mc) (hrs : rm.slots = ms)
    (hframes : rm.frames + 1 ≤ R.frames) (hlocals : W9 + (maxL + 11) + rm.locals ≤ R.locals)
    (hws : ∀ w ∈ ws, ∀ a' U, s.WarmedH U.vm → w.before a' U = true) (hcode : Cond.codeWith y bytes maxL ret hh ∈ ws) (hinit : ∀ a' U, s.WarmedH U.vm → (Cond.initialized y.cls).before a' U = true) :
    vx_Back l R p e below s sargs y len W9 (PreOf R mc ms Pc) (PostOf Qc mc ms free) (vx_Post XC mc ms free) := by
  intro m meth c A g ig mk a X hg hsize hdg hW hn hp
  have h1 : (headSpec ws rm).pre.before a A.U = true := atoms_intro fun w hw => hws w hw _ _ X.warmed
  have h2 : (Cond.codeWith y bytes maxL ret hh).before a A.U = true := hws _ hcode _ _ X.warmed
  have h3 : (Cond.initialized y.cls).before a A.U = true := hinit _ _ X.warmed
  have h4 : A.cells + (headSpec ws rm).room.cells ≤ R.cells := by rw [show (headSpec ws rm).room.cells = mc from hrc]; exact hp.1
  have h5 : A.slots + (headSpec ws rm).room.slots ≤ R.slots := by rw [show (headSpec ws rm).room.slots = ms from hrs]; exact hp.2.1
  have hPc : Pc a (A.U.calling g mk a) := hblind _ _ _ _ hp.2.2
  obtain ⟨U, Ls, c0, s0⟩ := A
  dsimp only [Pt.U, Pt.locs, Pt.cells, Pt.slots] at h1 h2 h3 h4 h5 X hn hPc ⊢
  obtain ⟨m9, methY, cY, hn9, hmY, hcY, -, hlY, -⟩ := Cond.codeWith_spec h2
  cases Option.some.inj (hn9.symm.trans hn)
  obtain ⟨kY, hkY, -⟩ := className_of_methodNamed hn
  have hinitY : kY.init = .initialized := Cond.initialized_spec (findClass_of_methodNamed hn) hkY h3
  have h : At U g.method c below := by rw [hg]; exact X.here
  have hlocals9 : W9 + (maxL + 11) + (headSpec ws rm).room.locals ≤ R.locals := hlocals
  have happ : (headSpec ws rm).appliesLoose y e.platform (U.calling g mk a) = true :=
    Spec.appliesLoose_calling (g := g) h hdg hn hkY hinitY
      (X.room_calling (g := g) (R' := (headSpec ws rm).room) hsize hmY hcY hframes (by rw [hlY]; omega) h4 h5) h1
  obtain ⟨mid, hmid⟩ := h.above
  have hfr : (U.setTop g).frames = (.java g :: mid) ++ below := by rw [State.frames_setTop' g h.top, hmid]; rfl
  obtain ⟨o, s₂, hsteps, -, hend, hq⟩ := Steps.callFree hM p X.admits X.cas X.clock (acts := []) hfr happ hPc trivial
  have hq' : vx_Q Qc XC mc ms free a (U.calling g mk a) o s₂ := hq
  rw [State.frames_setTop' g h.top] at hend
  obtain ⟨g₀, hg0⟩ := Option.isSome_iff_exists.mp h.top
  obtain ⟨r, hr⟩ := State.topJava?_eq_some.mp hg0
  have hr' : (({ U with heap := s₂.heap, slotsUsed := s₂.slotsUsed } : State).setVm s₂.vm).frames = .java g₀ :: r := hr
  rcases hq' with ⟨hqc, L, hfe, hL⟩ | ⟨q, rfl, E, ce, L, hx, hce, hcv, hcl, hW₂, hsm, hL⟩
  · obtain ⟨⟨v, rfl⟩, hW₂, e2, q2, q3, q4, q5, q6⟩ := id hfe
    have e3 : s₂ = ({ (U.calling g mk a).setFrames s₂.frames with heap := s₂.heap, slotsUsed := s₂.slotsUsed } : State).setVm s₂.vm := by
      have : s₂ = ({ s₂ with vm := (U.calling g mk a).vm } : State).setVm s₂.vm := rfl
      rw [e2] at this
      exact this
    obtain ⟨c₂, i₂, len₂, hc₂, hd₂, hf₂⟩ := hend
    have hW' : U.WarmedH s₂.vm := hW₂
    have hcc : c₂ = c := by
      have h1 : s₂.code? g.method = U.code? g.method := by
        rw [State.code?_eq, State.code?_eq, hW'.alike.method?]
      exact Option.some.inj (hc₂.symm.trans (h1.trans h.code))
    subst hcc
    have hlen : len₂ = len := by rw [hdg] at hd₂; cases hd₂; rfl
    subst hlen
    have hs₂ : s₂ = (({ U with heap := s₂.heap, slotsUsed := s₂.slotsUsed } : State).setVm s₂.vm).setTop { g with pc := g.pc + len₂, stack := v.toList ++ g.stack } := by
      refine e3.trans ?_
      rw [hf₂, State.calling_eq h.top, State.setFrames_setFrames, State.setTop_of_frames _ hr', hr]
      rfl
    have hsame : U.sameButNew ({ U with heap := s₂.heap, slotsUsed := s₂.slotsUsed } : State) L mc ms := by
      refine ⟨?_, q2, q3, q4, q5, q6⟩
      obtain ⟨t, ht, -⟩ := State.frames_cons hr
      show ({ U with heap := s₂.heap, slotsUsed := s₂.slotsUsed } : State) = { U.setFrames U.frames with heap := s₂.heap, slotsUsed := s₂.slotsUsed }
      rw [State.setFrames_self ht]
    subst hg
    refine Or.inl ⟨v, ⟨(({ U with heap := s₂.heap, slotsUsed := s₂.slotsUsed } : State).setVm s₂.vm), Ls ++ L, c0 + mc, s0 + ms⟩,
      ⟨X.admits, X.cas, X.clock, X.frames, X.room, X.hears, X.method, X.code, (X.here.setHeapUsed s₂.heap s₂.slotsUsed).setVm hW'.alike, X.tail, State.WarmedH.trans X.warmed hW', X.limits, X.bytes, X.same.trans (hsame.setVm s.vm)⟩,
      ⟨g, mk, s₂, L, rfl, rfl, hqc, rfl, hL, rfl, rfl⟩, ?_⟩
    show Steps p.tables e below _ ((({ U with heap := s₂.heap, slotsUsed := s₂.slotsUsed } : State).setVm s₂.vm).setTop { g with pc := g.pc + len₂, stack := v.toList ++ g.stack })
    rw [← hs₂]
    exact hsteps
  · obtain ⟨e2, q2, q3, q4, q5, q6⟩ := id hsm
    have e3 : s₂ = ({ (U.calling g mk a).setFrames s₂.frames with heap := s₂.heap, slotsUsed := s₂.slotsUsed } : State).setVm s₂.vm := by
      have : s₂ = ({ s₂ with vm := (U.calling g mk a).vm } : State).setVm s₂.vm := rfl
      rw [e2] at this
      exact this
    have hf₂ : s₂.frames = .throwing q :: .java g :: U.frames.tail := hend
    have hW' : U.WarmedH s₂.vm := hW₂
    have hs₂ : s₂ = ((({ U with heap := s₂.heap, slotsUsed := s₂.slotsUsed } : State).setVm s₂.vm).setTop g).pushFrame (.throwing q) := by
      refine e3.trans ?_
      rw [hf₂, State.calling_eq h.top, State.setFrames_setFrames, State.pushFrame, State.frames_setTop _ hr', State.setTop_of_frames _ hr', State.setFrames_setFrames, hr]
      rfl
    have hsame : U.sameButNew ({ U with heap := s₂.heap, slotsUsed := s₂.slotsUsed } : State) L mc ms := by
      refine ⟨?_, q2, q3, q4, q5, q6⟩
      obtain ⟨t, ht, -⟩ := State.frames_cons hr
      show ({ U with heap := s₂.heap, slotsUsed := s₂.slotsUsed } : State) = { U.setFrames U.frames with heap := s₂.heap, slotsUsed := s₂.slotsUsed }
      rw [State.setFrames_self ht]
    subst hg
    refine Or.inr ⟨q, ⟨(({ U with heap := s₂.heap, slotsUsed := s₂.slotsUsed } : State).setVm s₂.vm), Ls ++ L, c0 + mc, s0 + ms⟩,
      ⟨X.admits, X.cas, X.clock, X.frames, X.room, X.hears, X.method, X.code, (X.here.setHeapUsed s₂.heap s₂.slotsUsed).setVm hW'.alike, X.tail, State.WarmedH.trans X.warmed hW', X.limits, X.bytes, X.same.trans (hsame.setVm s.vm)⟩,
      ⟨g, mk, s₂, L, E, ce, rfl, rfl, hx, hce, hcv, hcl, rfl, hL, rfl, rfl⟩, ?_⟩
    show Steps p.tables e below _ (((({ U with heap := s₂.heap, slotsUsed := s₂.slotsUsed } : State).setVm s₂.vm).setTop g).pushFrame (.throwing q))
    rw [← hs₂]
    exact hsteps
end
variable {p : Program} {l : Launch} {e : Env} {R : Room} {s : State} {m : MethodId} {args : Array Value} {below : List Frame} {meth : Method} {c : Code} {T : State} {H : Heap} {locs : List Loc} {cells slots : Nat}
theorem vx_callVX (X : Stand p l e R s m args below meth c T locs cells slots) (hexec : p.tables.exec = Jvm.exec) {own C : String} {index : Nat} {y : MethodName} {bytes : ByteArray} {maxL : Nat} {ret : Option FieldType} {hh : List (Nat × Nat × Nat × Nat)}
    (hown : s.vm.findClass own = some m.cls) (hlink : (Cond.methodLink own index y).before args s = true) (hinst : (Cond.instanceMethod y).before args s = true) (hsel : (Cond.selects C y y).before args s = true)
    (hcode : (Cond.codeWith y bytes maxL ret hh).before args s = true) (hy : y.cls ≠ "java/lang/invoke/MethodHandle" ∧ y.cls ≠ "java/lang/invoke/VarHandle")
    {W9 : Nat} {Pre : Pt → Array Value → Prop} {Post : Pt → Array Value → Option Value → Pt → Prop} {PostX : Pt → Array Value → Addr → Pt → Prop} (hK : vx_Back l R p e below s args y 3 W9 Pre Post PostX)
    {b : Addr} {cellB : Cell} (hcell : T.heap[b]? = some cellB) (hobj : cellB.vm.isStatics = false) (hcls : s.vm.findClass C = some cellB.cls)
    {g : JFrame} (hg : g.method = m) (hsize : g.locals.size = c.maxLocals) {argsL rest : List Value} (hlen : ∀ sig, parseMethodDescriptor y.desc = some sig → argsL.length = sig.parameters.length)
    (hstack : g.stack = argsL.reverse ++ .ref b :: rest) (hW : 2 * g.monitorRoom + (rest.map fun v => v.category).sum ≤ W9) (hdg : decode c.code g.pc = .ok (.invokevirtual index, 3))
    (hpre : ∀ vm₁, s.WarmedH vm₁ → Pre ⟨T.setVm vm₁, locs, cells, slots⟩ (Value.ref b :: argsL).toArray) :
    (∃ (v : Option Value) (vm₁ : Vm) (B : Pt), s.WarmedH vm₁ ∧ Stand p l e R s m args below meth c B.U B.locs B.cells B.slots ∧ Post ⟨T.setVm vm₁, locs, cells, slots⟩ (Value.ref b :: argsL).toArray v B ∧
      ∀ target, Steps p.tables e below (B.U.setTop { g with pc := g.pc + 3, stack := v.toList ++ rest }) target → Steps p.tables e below (T.setTop g) target) ∨
    (∃ (q : Addr) (vm₁ : Vm) (B : Pt), s.WarmedH vm₁ ∧ Stand p l e R s m args below meth c B.U B.locs B.cells B.slots ∧ PostX ⟨T.setVm vm₁, locs, cells, slots⟩ (Value.ref b :: argsL).toArray q B ∧
      Steps p.tables e below (T.setTop g) ((B.U.setTop { g with stack := rest }).pushFrame (.throwing q))) := by
  obtain ⟨mk, methM, hnamed, hmethM, hstM, habM⟩ := Cond.instanceMethod_spec hinst
  obtain ⟨m8, methM', cM, hn8, hmethM', -, -, -, -, -, -, hsigM⟩ := Cond.codeWith_spec hcode
  cases Option.some.inj (hn8.symm.trans hnamed)
  cases hmethM.symm.trans hmethM'
  obtain ⟨c2, r2, m2, q1, q2, q3, q4, kP, hkP, hkPi⟩ := Cond.selects_spec hsel
  cases hcls.symm.trans q1
  cases (State.methodFound?_of_named hnamed hy).symm.trans q2
  cases hnamed.symm.trans q3
  have hselP : selectMethod e.platform s.vm cellB.cls mk = .method mk := by rw [Launch.admits_selectMethod X.admits]; exact q4
  obtain ⟨vm₁, X₁, hstep₁⟩ := X.invokevirtual hexec hown hlink hnamed hmethM hstM hkP hkPi hy (a := b) (cell := cellB) hcell
    (fun z h => by rw [h] at hobj; cases hobj) hselP hmethM habM hkP hkPi (g := g) hg (argsL := argsL) (rest := rest) (hlen _ hsigM) hstack hdg
  rcases hK m meth c ⟨T.setVm vm₁, locs, cells, slots⟩ { g with stack := rest } (.invokevirtual index) mk (Value.ref b :: argsL).toArray X₁ hg hsize hdg hW (X₁.named hnamed) (hpre vm₁ X₁.warmed) with ⟨v, B, X', hpost, hsteps⟩ | ⟨q, B, X', hpost, hsteps⟩
  · exact Or.inl ⟨v, vm₁, B, X₁.warmed, X', hpost, fun target h => hstep₁ _ fun acts => by rw [doInvoke_state]; exact hsteps.trans h⟩
  · exact Or.inr ⟨q, vm₁, B, X₁.warmed, X', hpost, hstep₁ _ fun acts => by rw [doInvoke_state]; exact hsteps⟩
theorem vx_callSX (X : Stand p l e R s m args below meth c T locs cells slots) (hexec : p.tables.exec = Jvm.exec) {own : String} {index : Nat} {y : MethodName} {bytes : ByteArray} {maxL : Nat} {ret : Option FieldType} {hh : List (Nat × Nat × Nat × Nat)}
    (hown : s.vm.findClass own = some m.cls) (hlink : (Cond.methodLink own index y).before args s = true) (hstat : (Cond.static y).before args s = true) (hinit : (Cond.initialized y.cls).before args s = true)
    (hcode : (Cond.codeWith y bytes maxL ret hh).before args s = true) (hy : y.cls ≠ "java/lang/invoke/MethodHandle" ∧ y.cls ≠ "java/lang/invoke/VarHandle")
    {W9 : Nat} {Pre : Pt → Array Value → Prop} {Post : Pt → Array Value → Option Value → Pt → Prop} {PostX : Pt → Array Value → Addr → Pt → Prop} (hK : vx_Back l R p e below s args y 3 W9 Pre Post PostX)
    {g : JFrame} (hg : g.method = m) (hsize : g.locals.size = c.maxLocals) {argsL rest : List Value} (hlen : ∀ sig, parseMethodDescriptor y.desc = some sig → argsL.length = sig.parameters.length)
    (hstack : g.stack = argsL.reverse ++ rest) (hW : 2 * g.monitorRoom + (rest.map fun v => v.category).sum ≤ W9) (hdg : decode c.code g.pc = .ok (.invokestatic index, 3))
    (hpre : ∀ vm₁, s.WarmedH vm₁ → Pre ⟨T.setVm vm₁, locs, cells, slots⟩ argsL.toArray) :
    (∃ (v : Option Value) (vm₁ : Vm) (B : Pt), s.WarmedH vm₁ ∧ Stand p l e R s m args below meth c B.U B.locs B.cells B.slots ∧ Post ⟨T.setVm vm₁, locs, cells, slots⟩ argsL.toArray v B ∧
      ∀ target, Steps p.tables e below (B.U.setTop { g with pc := g.pc + 3, stack := v.toList ++ rest }) target → Steps p.tables e below (T.setTop g) target) ∨
    (∃ (q : Addr) (vm₁ : Vm) (B : Pt), s.WarmedH vm₁ ∧ Stand p l e R s m args below meth c B.U B.locs B.cells B.slots ∧ PostX ⟨T.setVm vm₁, locs, cells, slots⟩ argsL.toArray q B ∧
      Steps p.tables e below (T.setTop g) ((B.U.setTop { g with stack := rest }).pushFrame (.throwing q))) := by
  obtain ⟨mk, methM, cM, hnamed, hmethM, -, -, -, -, -, -, hsigM⟩ := Cond.codeWith_spec hcode
  have hstatic : methM.isStatic = true := Cond.static_spec hnamed hmethM hstat
  obtain ⟨kP, hkP, -⟩ := className_of_methodNamed hnamed
  have hinitP : kP.init = .initialized := Cond.initialized_spec (findClass_of_methodNamed hnamed) hkP hinit
  obtain ⟨vm₁, X₁, hstep₁⟩ := X.invokestatic hexec hown hlink hnamed hmethM hstatic hkP hinitP hy (g := g) hg (argsL := argsL) (rest := rest) (hlen _ hsigM) hstack hdg
  rcases hK m meth c ⟨T.setVm vm₁, locs, cells, slots⟩ { g with stack := rest } (.invokestatic index) mk argsL.toArray X₁ hg hsize hdg hW (X₁.named hnamed) (hpre vm₁ X₁.warmed) with ⟨v, B, X', hpost, hsteps⟩ | ⟨q, B, X', hpost, hsteps⟩
  · exact Or.inl ⟨v, vm₁, B, X₁.warmed, X', hpost, fun target h => hstep₁ _ fun acts => by rw [doInvoke_state]; exact hsteps.trans h⟩
  · exact Or.inr ⟨q, vm₁, B, X₁.warmed, X', hpost, hstep₁ _ fun acts => by rw [doInvoke_state]; exact hsteps⟩
theorem vx_callVW (X : Stand p l e R s m args below meth c T locs cells slots) (hexec : p.tables.exec = Jvm.exec) {own C : String} {index : Nat} {y : MethodName} {bytes : ByteArray} {maxL : Nat} {ret : Option FieldType} {hh : List (Nat × Nat × Nat × Nat)}
    (hown : s.vm.findClass own = some m.cls) (hlink : (Cond.methodLink own index y).before args s = true) (hinst : (Cond.instanceMethod y).before args s = true) (hsel : (Cond.selects C y y).before args s = true)
    (hcode : (Cond.codeWith y bytes maxL ret hh).before args s = true) (hy : y.cls ≠ "java/lang/invoke/MethodHandle" ∧ y.cls ≠ "java/lang/invoke/VarHandle")
    {W9 : Nat} {Pre : Pt → Array Value → Prop} {Post : Pt → Array Value → Option Value → Pt → Prop} (hK : Back l R p e below s args y 3 W9 Pre Post)
    {b : Addr} {cellB : Cell} (hcell : T.heap[b]? = some cellB) (hobj : cellB.vm.isStatics = false) (hcls : s.vm.findClass C = some cellB.cls)
    {g : JFrame} (hg : g.method = m) (hsize : g.locals.size = c.maxLocals) {argsL rest : List Value} (hlen : ∀ sig, parseMethodDescriptor y.desc = some sig → argsL.length = sig.parameters.length)
    (hstack : g.stack = argsL.reverse ++ .ref b :: rest) (hW : 2 * g.monitorRoom + (rest.map fun v => v.category).sum ≤ W9) (hdg : decode c.code g.pc = .ok (.invokevirtual index, 3))
    (hpre : ∀ vm₁, s.WarmedH vm₁ → Pre ⟨T.setVm vm₁, locs, cells, slots⟩ (Value.ref b :: argsL).toArray) :
    ∃ (v : Option Value) (vm₁ : Vm) (B : Pt), s.WarmedH vm₁ ∧ Stand p l e R s m args below meth c B.U B.locs B.cells B.slots ∧ Post ⟨T.setVm vm₁, locs, cells, slots⟩ (Value.ref b :: argsL).toArray v B ∧
      ∀ target, Steps p.tables e below (B.U.setTop { g with pc := g.pc + 3, stack := v.toList ++ rest }) target → Steps p.tables e below (T.setTop g) target := by
  obtain ⟨mk, methM, hnamed, hmethM, hstM, habM⟩ := Cond.instanceMethod_spec hinst
  obtain ⟨m8, methM', cM, hn8, hmethM', -, -, -, -, -, -, hsigM⟩ := Cond.codeWith_spec hcode
  cases Option.some.inj (hn8.symm.trans hnamed)
  cases hmethM.symm.trans hmethM'
  obtain ⟨c2, r2, m2, q1, q2, q3, q4, kP, hkP, hkPi⟩ := Cond.selects_spec hsel
  cases hcls.symm.trans q1
  cases (State.methodFound?_of_named hnamed hy).symm.trans q2
  cases hnamed.symm.trans q3
  have hselP : selectMethod e.platform s.vm cellB.cls mk = .method mk := by rw [Launch.admits_selectMethod X.admits]; exact q4
  obtain ⟨vm₁, X₁, hstep₁⟩ := X.invokevirtual hexec hown hlink hnamed hmethM hstM hkP hkPi hy (a := b) (cell := cellB) hcell
    (fun z h => by rw [h] at hobj; cases hobj) hselP hmethM habM hkP hkPi (g := g) hg (argsL := argsL) (rest := rest) (hlen _ hsigM) hstack hdg
  obtain ⟨v, B, X', hpost, hsteps⟩ := hK m meth c ⟨T.setVm vm₁, locs, cells, slots⟩ { g with stack := rest } (.invokevirtual index) mk (Value.ref b :: argsL).toArray X₁ hg hsize hdg hW (X₁.named hnamed) (hpre vm₁ X₁.warmed)
  exact ⟨v, vm₁, B, X₁.warmed, X', hpost, fun target h => hstep₁ _ fun acts => by rw [doInvoke_state]; exact hsteps.trans h⟩
abbrev vx_CVW (R : Room) (s : State) (args : Array Value) (own C : String) (index : Nat) (y : MethodName) (bytes : ByteArray) (maxL : Nat) (ret : Option FieldType) (hh : List (Nat × Nat × Nat × Nat)) (ws : List Cond) (rm : Room) (mc ms n : Nat) : Prop :=
  (rm.cells = mc ∧ rm.slots = ms ∧ rm.frames + 1 ≤ R.frames ∧ 8 + (maxL + 11) + rm.locals ≤ R.locals ∧ (∀ w ∈ ws, ∀ (a' : Array Value) (U : State), s.WarmedH U.vm → w.before a' U = true) ∧ Cond.codeWith y bytes maxL ret hh ∈ ws) ∧
  (Cond.codeWith y bytes maxL ret hh).before args s = true ∧ (Cond.initialized y.cls).before args s = true ∧ (y.cls ≠ "java/lang/invoke/MethodHandle" ∧ y.cls ≠ "java/lang/invoke/VarHandle") ∧
  (∀ sig, parseMethodDescriptor y.desc = some sig → n = sig.parameters.length) ∧ (Cond.methodLink own index y).before args s = true ∧ (Cond.instanceMethod y).before args s = true ∧ (Cond.selects C y y).before args s = true
theorem vx_cwVW {own C : String} {index maxL mc ms : Nat} {y : MethodName} {bytes : ByteArray} {ret : Option FieldType} {hh : List (Nat × Nat × Nat × Nat)} {Ts ws ws' : List Cond} {rm : Room} (n : Nat) (ht : ∀ w ∈ Ts, w.before args s = true) (hT : GoodIn Ts (wsV own index C y ws)) (hw : ws = Cond.codeWith y bytes maxL ret hh :: ws') (hrc : rm.cells = mc) (hrs : rm.slots = ms)
    (hd : y.cls = C ∧ y.cls ≠ "java/lang/invoke/MethodHandle" ∧ y.cls ≠ "java/lang/invoke/VarHandle" ∧ (parseMethodDescriptor y.desc).map (fun d => d.parameters.length) = some n) (hR : rm.frames + 1 ≤ R.frames ∧ 8 + (maxL + 11) + rm.locals ≤ R.locals) :
    vx_CVW R s args own C index y bytes maxL ret hh ws rm mc ms n := by
  obtain ⟨hC, hd⟩ := hd
  subst hC
  have ok : ∀ w ∈ wsV own index y.cls y ws, w.before args s = true := fun w h => ht w (hT w h).1
  have hG : GoodIn Ts ws := fun w h => hT w (by unfold wsV; exact List.mem_append_right _ h)
  have hc : Cond.codeWith y bytes maxL ret hh ∈ ws := by rw [hw]; exact List.mem_cons_self
  refine ⟨⟨hrc, hrs, hR.1, hR.2, pay_in ht hG, hc⟩, ht _ (hG _ hc).1, ok _ (by simp [wsV]), ⟨hd.1, hd.2.1⟩, fun sig h => ?_, ok _ (by simp [wsV]), ok _ (by simp [wsV]), ok _ (by simp [wsV])⟩
  have h2 := hd.2.2
  rw [h] at h2
  exact (Option.some.inj h2).symm
theorem vx_runVW {y : MethodName} {bytes cc : ByteArray} {maxL nL mc ms n index : Nat} {ret : Option FieldType} {hh : List (Nat × Nat × Nat × Nat)} {ws : List Cond} {rm : Room} {Pc : Array Value → State → Prop} {Qc : Array Value → State → Outcome → State → Prop} {free : Addr → Prop} {Ts : List Cond} {own C : String} {b : Addr} {As rest : List Value} {g : JFrame}
    (S : CallFix p m c cc nL s args Ts own) (hM : Met l y ws rm Pc Qc mc ms free) (cw : vx_CVW R s args own C index y bytes maxL ret hh ws rm mc ms n) (hp : PreV s H C b Pc As)
    (hg : g.method = m) (hn : As.length = n) (hsize : g.locals.size = nL) (hstack : g.stack = As.reverse ++ .ref b :: rest) (hW : 2 * g.monitorRoom + (rest.map fun v => v.category).sum ≤ 8) (hdg : decode cc g.pc = .ok (.invokevirtual index, 3)) (hf : cells + mc ≤ R.cells ∧ slots + ms ≤ R.slots) :
    va_Run p l e R s m args below meth c H locs cells slots mc ms g rest (Qc (Value.ref b :: As).toArray) free := by
  obtain ⟨⟨hrc, hrs, hfr, hlo, hws, hcw⟩, hcode, hini, hy, hlen, hl, hin, hse⟩ := cw
  have hK : Back l R p e below s args y 3 8 (PreOf R mc ms Pc) (PostOf Qc mc ms free) := va_backW (hh := hh) (bytes := bytes) (maxL := maxL) (ret := ret) hM hp.1 hrc hrs hfr hlo hws hcw (fun a' U hW => word_at hW (Or.inl (by first | rfl | simp [Cond.onTables, Cond.keeps, Cond.steady])) hini)
  obtain ⟨hx, hb, hml, ho, -⟩ := S
  obtain ⟨-, ⟨cellB, hcB, hoB, hclB⟩, hPc⟩ := hp
  intro T hT X
  obtain ⟨v, vm₁, ⟨U', l2, c2, s2⟩, hW₁, X', ⟨g', mk, t, L, e1, e2, hq, h1, hL, h2, h3⟩, st⟩ := vx_callVW X hx (C := C) (hh := hh) (bytes := bytes) (maxL := maxL) (ret := ret) ho hl hin hse hcode hy hK (by rw [hT]; exact hcB) hoB hclB hg (hsize.trans hml.symm) (argsL := As) (rest := rest) (fun sig h => hn.trans (hlen sig h)) hstack hW (by rw [hb]; exact hdg)
    (fun vm₁ hW₁ => ⟨hf.1, hf.2, hPc (T.setVm vm₁) hT hW₁⟩)
  dsimp only [Pt.U, Pt.locs, Pt.cells, Pt.slots] at X' e1 e2 h1 h2 h3 st
  subst h1; subst h2; subst h3
  exact ⟨v, (T.setVm vm₁).calling g' mk (Value.ref b :: As).toArray, t, U', L, hT, X', hL, e1, e2, hq, st⟩
section
variable {y : MethodName} {bytes cc : ByteArray} {maxL nL mc ms n index : Nat} {ret : Option FieldType} {ws : List Cond} {rm : Room} {Pc : Array Value → State → Prop} {Qc : Array Value → State → Outcome → State → Prop} {XC : String → State → State → Prop} {free : Addr → Prop} {Ts : List Cond} {own C : String} {b : Addr} {As rest : List Value} {g : JFrame}
theorem vx_runVX {hh : List (Nat × Nat × Nat × Nat)} (S : CallFix p m c cc nL s args Ts own) (hM : vx_Met l y ws rm Pc Qc XC mc ms free) (cw : vx_CVW R s args own C index y bytes maxL ret hh ws rm mc ms n) (hp : PreV s H C b Pc As)
    (hg : g.method = m) (hn : As.length = n) (hsize : g.locals.size = nL) (hstack : g.stack = As.reverse ++ .ref b :: rest) (hW : 2 * g.monitorRoom + (rest.map fun v => v.category).sum ≤ 8) (hdg : decode cc g.pc = .ok (.invokevirtual index, 3)) (hf : cells + mc ≤ R.cells ∧ slots + ms ≤ R.slots) :
    vx_Run p l e R s m args below meth c H locs cells slots mc ms g rest (Qc (Value.ref b :: As).toArray) XC free := by
  obtain ⟨⟨hrc, hrs, hfr, hlo, hws, hcw⟩, hcode, hini, hy, hlen, hl, hin, hse⟩ := cw
  have hK : vx_Back l R p e below s args y 3 8 (PreOf R mc ms Pc) (PostOf Qc mc ms free) (vx_Post XC mc ms free) := vx_backW (hh := hh) (bytes := bytes) (maxL := maxL) (ret := ret) hM hp.1 hrc hrs hfr hlo hws hcw (fun a' U hW => word_at hW (Or.inl (by first | rfl | simp [Cond.onTables, Cond.keeps, Cond.steady])) hini)
  obtain ⟨hx, hb, hml, ho, -⟩ := S
  obtain ⟨-, ⟨cellB, hcB, hoB, hclB⟩, hPc⟩ := hp
  intro T hT X
  rcases vx_callVX X hx (C := C) (hh := hh) (bytes := bytes) (maxL := maxL) (ret := ret) ho hl hin hse hcode hy hK (by rw [hT]; exact hcB) hoB hclB hg (hsize.trans hml.symm) (argsL := As) (rest := rest) (fun sig h => hn.trans (hlen sig h)) hstack hW (by rw [hb]; exact hdg)
    (fun vm₁ hW₁ => ⟨hf.1, hf.2, hPc (T.setVm vm₁) hT hW₁⟩) with ⟨v, vm₁, ⟨U', l2, c2, s2⟩, hW₁, X', ⟨g', mk, t, L, e1, e2, hq, h1, hL, h2, h3⟩, st⟩ | ⟨q, vm₁, ⟨U', l2, c2, s2⟩, hW₁, X', ⟨g', mk, t, L, E, ce, e1, e2, hq, hce, hcv, hcl, h1, hL, h2, h3⟩, st⟩
  · dsimp only [Pt.U, Pt.locs, Pt.cells, Pt.slots] at X' e1 e2 h1 h2 h3 st
    subst h1; subst h2; subst h3
    exact Or.inl ⟨v, (T.setVm vm₁).calling g' mk (Value.ref b :: As).toArray, t, U', L, hT, X', hL, e1, e2, hq, st⟩
  · dsimp only [Pt.U, Pt.locs, Pt.cells, Pt.slots] at X' e1 e2 h1 h2 h3 st hcl
    subst h1; subst h2; subst h3
    exact Or.inr ⟨q, (T.setVm vm₁).calling g' mk (Value.ref b :: As).toArray, t, U', L, E, ce, hT, X', hL, e1, e2, hq, hce, hcv, vx_cls hW₁ hcl, st⟩
theorem vx_runSX {hh : List (Nat × Nat × Nat × Nat)} (S : CallFix p m c cc nL s args Ts own) (hM : vx_Met l y ws rm Pc Qc XC mc ms free) (cw : vx_CSW R s args own index y bytes maxL ret hh ws rm mc ms n) (hp : PreS s H Pc As)
    (hg : g.method = m) (hn : As.length = n) (hsize : g.locals.size = nL) (hstack : g.stack = As.reverse ++ rest) (hW : 2 * g.monitorRoom + (rest.map fun v => v.category).sum ≤ 8) (hdg : decode cc g.pc = .ok (.invokestatic index, 3)) (hf : cells + mc ≤ R.cells ∧ slots + ms ≤ R.slots) :
    vx_Run p l e R s m args below meth c H locs cells slots mc ms g rest (Qc As.toArray) XC free := by
  obtain ⟨⟨hrc, hrs, hfr, hlo, hws, hcw⟩, hcode, hini, hy, hlen, hl, hstt⟩ := cw
  have hK : vx_Back l R p e below s args y 3 8 (PreOf R mc ms Pc) (PostOf Qc mc ms free) (vx_Post XC mc ms free) := vx_backW (hh := hh) (bytes := bytes) (maxL := maxL) (ret := ret) hM hp.1 hrc hrs hfr hlo hws hcw (fun a' U hW => word_at hW (Or.inl (by first | rfl | simp [Cond.onTables, Cond.keeps, Cond.steady])) hini)
  obtain ⟨hx, hb, hml, ho, -⟩ := S
  intro T hT X
  rcases vx_callSX X hx (hh := hh) (bytes := bytes) (maxL := maxL) (ret := ret) ho hl hstt hini hcode hy hK hg (hsize.trans hml.symm) (argsL := As) (rest := rest) (fun sig h => hn.trans (hlen sig h)) hstack hW (by rw [hb]; exact hdg)
    (fun vm₁ hW₁ => ⟨hf.1, hf.2, hp.2 (T.setVm vm₁) hT hW₁⟩) with ⟨v, vm₁, ⟨U', l2, c2, s2⟩, hW₁, X', ⟨g', mk, t, L, e1, e2, hq, h1, hL, h2, h3⟩, st⟩ | ⟨q, vm₁, ⟨U', l2, c2, s2⟩, hW₁, X', ⟨g', mk, t, L, E, ce, e1, e2, hq, hce, hcv, hcl, h1, hL, h2, h3⟩, st⟩
  · dsimp only [Pt.U, Pt.locs, Pt.cells, Pt.slots] at X' e1 e2 h1 h2 h3 st
    subst h1; subst h2; subst h3
    exact Or.inl ⟨v, (T.setVm vm₁).calling g' mk As.toArray, t, U', L, hT, X', hL, e1, e2, hq, st⟩
  · dsimp only [Pt.U, Pt.locs, Pt.cells, Pt.slots] at X' e1 e2 h1 h2 h3 st hcl
    subst h1; subst h2; subst h3
    exact Or.inr ⟨q, (T.setVm vm₁).calling g' mk As.toArray, t, U', L, E, ce, hT, X', hL, e1, e2, hq, hce, hcv, vx_cls hW₁ hcl, st⟩
end
end VXH
theorem vx_ofWH {l : Launch} {y : MethodName} {ws ws' : List Cond} {rm : Room} {Pc : Array Value → State → Prop} {Qc : Array Value → State → Outcome → State → Prop} {XC : String → State → State → Prop} {mc ms : Nat} {free : Addr → Prop} {cc : ByteArray} {maxL : Nat} {ret : Option FieldType} {hh : List (Nat × Nat × Nat × Nat)}
    (hy : plainName y.cls = true) (hw : ws = Cond.codeWith y cc maxL ret hh :: ws')
    (body : ∀ p e s m args below meth c s₁, BodyLoose p l y (headSpec ws rm) cc maxL ret e s m args below meth c s₁ → c.maxLocals = maxL → Pc args s →
      W p l e (headSpec ws rm).room s m args below meth c s.heap [] 0 0 (vx_MQ below Qc XC args s mc ms free) (entryFrame m args maxL)) : vx_Met l y ws rm Pc Qc XC mc ms free := by
  refine MetFree.of_bodyS (code := cc) (maxLocals := maxL) (ret := ret) hy ?_ ?_
  · intro args s m h hn
    obtain ⟨m9, meth, c, hn9, h1, h2, h3, h4, -, h5, h6, -⟩ := Cond.codeWith_spec (atoms_spec (ws := ws) h _ (by rw [hw]; exact List.mem_cons_self))
    cases hn.symm.trans hn9
    exact ⟨meth, c, h1, h2, h3, h4, h5, h6⟩
  · intro p e s m args below meth c s₁ B hml hP _
    have hh0 : s₁.heap = s.heap := by rw [B.state]; rfl
    obtain ⟨t, a1, o, b1, b2, b3⟩ := body p e s m args below meth c s₁ B hml hP s₁ hh0 (Stand.of_body B)
    exact ⟨t, o, a1, b1, b2, b3⟩
/-! ===== END ===== -/
end
section
def RX0 : String := "CueBook$Cue"
def TX0 : u_T := fun k => match k with
  | 0 => ("CueBook$Cue", "kind", "I", true)
  | 1 => ("CueBook$Cue", "puppet", "LCueBook$Puppet;", true)
  | 2 => ("CueBook$Cue", "beat", "I", true)
  | 3 => ("CueBook$Cue", "place", "I", true)
  | 4 => ("CueBook$Cue", "track", "I", true)
  | 5 => ("CueBook$Cue", "isStruck", "Z", false)
  | 6 => ("CueBook$Cue", "notes", "I", false)
  | 7 => ("CueBook$Cue", "sumLate", "I", false)
  | _ => ("CueBook$Cue", "sumOff", "I", false)
def tyX0 : Nat → FieldType := fun k => match k with
  | 0 => .int
  | 1 => .object "CueBook$Puppet"
  | 2 => .int
  | 3 => .int
  | 4 => .int
  | 5 => .boolean
  | 6 => .int
  | 7 => .int
  | _ => .int
theorem nmX0 : ∀ a, a < 9 → ∀ b, b < 9 → a ≠ b → (TX0 a).2.1 ≠ (TX0 b).2.1 := by decide +kernel
theorem tyX0_ok : ∀ k, k < 9 → parseFieldDescriptor (TX0 k).2.2.1 = some (tyX0 k) := by decide +kernel
abbrev cX0_init : ByteArray := prog_2_method_1_code
def yX0_init : MethodName := ⟨RX0, "<init>", "(ILCueBook$Puppet;III)V"⟩
def RX1 : String := "CueBook$Path"
def TX1 : u_T := fun k => match k with
  | 0 => ("CueBook$Path", "isOnStage", "Z", false)
  | 1 => ("CueBook$Path", "enteredAt", "I", false)
  | 2 => ("CueBook$Path", "track", "I", false)
  | 3 => ("CueBook$Path", "fromPlace", "I", false)
  | 4 => ("CueBook$Path", "toPlace", "I", false)
  | 5 => ("CueBook$Path", "fromBeat", "I", false)
  | _ => ("CueBook$Path", "toBeat", "I", false)
def tyX1 : Nat → FieldType := fun k => match k with
  | 0 => .boolean
  | 1 => .int
  | 2 => .int
  | 3 => .int
  | 4 => .int
  | 5 => .int
  | _ => .int
theorem nmX1 : ∀ a, a < 7 → ∀ b, b < 7 → a ≠ b → (TX1 a).2.1 ≠ (TX1 b).2.1 := by decide +kernel
theorem tyX1_ok : ∀ k, k < 7 → parseFieldDescriptor (TX1 k).2.2.1 = some (tyX1 k) := by decide +kernel
abbrev cX1_init : ByteArray := prog_3_method_1_code
def yX1_init : MethodName := ⟨RX1, "<init>", "()V"⟩
abbrev cX1_allows : ByteArray := prog_3_method_2_code
def yX1_allows : MethodName := ⟨RX1, "allows", "(LCueBook$Cue;)Z"⟩
abbrev cX1_follow : ByteArray := prog_3_method_3_code
def yX1_follow : MethodName := ⟨RX1, "follow", "(LCueBook$Cue;)V"⟩
abbrev cX1_walk : ByteArray := prog_3_method_4_code
def yX1_walk : MethodName := ⟨RX1, "walk", "(III)V"⟩
abbrev cX1_placeAtBeat : ByteArray := prog_3_method_5_code
def yX1_placeAtBeat : MethodName := ⟨RX1, "placeAtBeat", "(I)I"⟩
abbrev cX1_trackNow : ByteArray := prog_3_method_6_code
def yX1_trackNow : MethodName := ⟨RX1, "trackNow", "()I"⟩
def RX2 : String := "CueBook$Player"
def TX2 : u_T := fun k => match k with
  | 0 => ("CueBook$Player", "strength", "I", true)
  | 1 => ("CueBook$Player", "placeAtFirst", "I", true)
  | _ => ("CueBook$Player", "heldAt", "[I", true)
def tyX2 : Nat → FieldType := fun k => match k with
  | 0 => .int
  | 1 => .int
  | _ => .array .int
theorem nmX2 : ∀ a, a < 3 → ∀ b, b < 3 → a ≠ b → (TX2 a).2.1 ≠ (TX2 b).2.1 := by decide +kernel
theorem tyX2_ok : ∀ k, k < 3 → parseFieldDescriptor (TX2 k).2.2.1 = some (tyX2 k) := by decide +kernel
abbrev cX2_init : ByteArray := prog_4_method_1_code
def yX2_init : MethodName := ⟨RX2, "<init>", "(II)V"⟩
abbrev cX2_holds : ByteArray := prog_4_method_2_code
def yX2_holds : MethodName := ⟨RX2, "holds", "(LCueBook$Puppet;I)Z"⟩
abbrev cX2_putDownAll : ByteArray := prog_4_method_3_code
def yX2_putDownAll : MethodName := ⟨RX2, "putDownAll", "()V"⟩
abbrev cX2_take : ByteArray := prog_4_method_4_code
def yX2_take : MethodName := ⟨RX2, "take", "(LCueBook$Stay;)V"⟩
abbrev cX2_busyBeats : ByteArray := prog_4_method_5_code
def yX2_busyBeats : MethodName := ⟨RX2, "busyBeats", "()I"⟩
def RX3 : String := "CueBook$Puppet"
def TX3 : u_T := fun k => match k with
  | 0 => ("CueBook$Puppet", "number", "I", true)
  | 1 => ("CueBook$Puppet", "bit", "I", true)
  | 2 => ("CueBook$Puppet", "weight", "I", true)
  | 3 => ("CueBook$Puppet", "handsNeeded", "I", true)
  | 4 => ("CueBook$Puppet", "script", "Ljava/util/ArrayList;", true)
  | 5 => ("CueBook$Puppet", "stayList", "Ljava/util/ArrayList;", true)
  | 6 => ("CueBook$Puppet", "placeAt", "[I", true)
  | _ => ("CueBook$Puppet", "trackAt", "[I", true)
def tyX3 : Nat → FieldType := fun k => match k with
  | 0 => .int
  | 1 => .int
  | 2 => .int
  | 3 => .int
  | 4 => .object "java/util/ArrayList"
  | 5 => .object "java/util/ArrayList"
  | 6 => .array .int
  | _ => .array .int
theorem nmX3 : ∀ a, a < 8 → ∀ b, b < 8 → a ≠ b → (TX3 a).2.1 ≠ (TX3 b).2.1 := by decide +kernel
theorem tyX3_ok : ∀ k, k < 8 → parseFieldDescriptor (TX3 k).2.2.1 = some (tyX3 k) := by decide +kernel
abbrev cX3_init : ByteArray := prog_5_method_1_code
def yX3_init : MethodName := ⟨RX3, "<init>", "(III)V"⟩
abbrev cX3_takesIn : ByteArray := prog_5_method_2_code
def yX3_takesIn : MethodName := ⟨RX3, "takesIn", "(LCueBook$Cue;)Z"⟩
abbrev cX3_takesOut : ByteArray := prog_5_method_3_code
def yX3_takesOut : MethodName := ⟨RX3, "takesOut", "(LCueBook$Cue;)Z"⟩
abbrev cX3_isScriptRight : ByteArray := prog_5_method_4_code
def yX3_isScriptRight : MethodName := ⟨RX3, "isScriptRight", "()Z"⟩
abbrev cX3_playScript : ByteArray := prog_5_method_5_code
def yX3_playScript : MethodName := ⟨RX3, "playScript", "()V"⟩
abbrev cX3_playBeats : ByteArray := prog_5_method_6_code
def yX3_playBeats : MethodName := ⟨RX3, "playBeats", "(LCueBook$Path;II)V"⟩
abbrev cX3_recordStay : ByteArray := prog_5_method_7_code
def yX3_recordStay : MethodName := ⟨RX3, "recordStay", "(LCueBook$Cue;)V"⟩
def RX4 : String := "CueBook$Stay"
def TX4 : u_T := fun k => match k with
  | 0 => ("CueBook$Stay", "puppet", "LCueBook$Puppet;", true)
  | 1 => ("CueBook$Stay", "begin", "I", true)
  | 2 => ("CueBook$Stay", "end", "I", false)
  | _ => ("CueBook$Stay", "player", "I", false)
def tyX4 : Nat → FieldType := fun k => match k with
  | 0 => .object "CueBook$Puppet"
  | 1 => .int
  | 2 => .int
  | _ => .int
theorem nmX4 : ∀ a, a < 4 → ∀ b, b < 4 → a ≠ b → (TX4 a).2.1 ≠ (TX4 b).2.1 := by decide +kernel
theorem tyX4_ok : ∀ k, k < 4 → parseFieldDescriptor (TX4 k).2.2.1 = some (tyX4 k) := by decide +kernel
abbrev cX4_init : ByteArray := prog_6_method_1_code
def yX4_init : MethodName := ⟨RX4, "<init>", "(LCueBook$Puppet;I)V"⟩
def RX5 : String := "CueBook"
def TX5 : u_T := fun k => match k with
  | 0 => ("CueBook", "puppets", "Ljava/util/ArrayList;", true)
  | 1 => ("CueBook", "players", "Ljava/util/ArrayList;", true)
  | 2 => ("CueBook", "cues", "Ljava/util/ArrayList;", true)
  | 3 => ("CueBook", "castingOrder", "Ljava/util/ArrayList;", true)
  | 4 => ("CueBook", "struckCues", "I", false)
  | 5 => ("CueBook", "castingStands", "Z", false)
  | 6 => ("CueBook", "clashesStand", "Z", false)
  | _ => ("CueBook", "clashingPairs", "I", false)
def tyX5 : Nat → FieldType := fun k => match k with
  | 0 => .object "java/util/ArrayList"
  | 1 => .object "java/util/ArrayList"
  | 2 => .object "java/util/ArrayList"
  | 3 => .object "java/util/ArrayList"
  | 4 => .int
  | 5 => .boolean
  | 6 => .boolean
  | _ => .int
theorem nmX5 : ∀ a, a < 8 → ∀ b, b < 8 → a ≠ b → (TX5 a).2.1 ≠ (TX5 b).2.1 := by decide +kernel
theorem tyX5_ok : ∀ k, k < 8 → parseFieldDescriptor (TX5 k).2.2.1 = some (tyX5 k) := by decide +kernel
abbrev cX5_init : ByteArray := prog_1_method_1_code
def yX5_init : MethodName := ⟨RX5, "<init>", "()V"⟩
abbrev cX5_addPuppet : ByteArray := prog_1_method_2_code
def yX5_addPuppet : MethodName := ⟨RX5, "addPuppet", "(II)I"⟩
abbrev cX5_addPlayer : ByteArray := prog_1_method_3_code
def yX5_addPlayer : MethodName := ⟨RX5, "addPlayer", "(II)I"⟩
abbrev cX5_enter : ByteArray := prog_1_method_4_code
def yX5_enter : MethodName := ⟨RX5, "enter", "(IIII)I"⟩
abbrev cX5_move : ByteArray := prog_1_method_5_code
def yX5_move : MethodName := ⟨RX5, "move", "(III)I"⟩
abbrev cX5_shift : ByteArray := prog_1_method_6_code
def yX5_shift : MethodName := ⟨RX5, "shift", "(III)I"⟩
abbrev cX5_leave : ByteArray := prog_1_method_7_code
def yX5_leave : MethodName := ⟨RX5, "leave", "(II)I"⟩
abbrev cX5_strike : ByteArray := prog_1_method_8_code
def yX5_strike : MethodName := ⟨RX5, "strike", "(I)I"⟩
abbrev cX5_count : ByteArray := prog_1_method_9_code
def yX5_count : MethodName := ⟨RX5, "count", "(I)I"⟩
abbrev cX5_cue : ByteArray := prog_1_method_10_code
def yX5_cue : MethodName := ⟨RX5, "cue", "(II)I"⟩
abbrev cX5_place : ByteArray := prog_1_method_11_code
def yX5_place : MethodName := ⟨RX5, "place", "(II)I"⟩
abbrev cX5_track : ByteArray := prog_1_method_12_code
def yX5_track : MethodName := ⟨RX5, "track", "(II)I"⟩
abbrev cX5_onStage : ByteArray := prog_1_method_13_code
def yX5_onStage : MethodName := ⟨RX5, "onStage", "(I)I"⟩
abbrev cX5_clash : ByteArray := prog_1_method_14_code
def yX5_clash : MethodName := ⟨RX5, "clash", "(II)I"⟩
abbrev cX5_clashes : ByteArray := prog_1_method_15_code
def yX5_clashes : MethodName := ⟨RX5, "clashes", "()I"⟩
abbrev cX5_beats : ByteArray := prog_1_method_16_code
def yX5_beats : MethodName := ⟨RX5, "beats", "(I)I"⟩
abbrev cX5_stays : ByteArray := prog_1_method_17_code
def yX5_stays : MethodName := ⟨RX5, "stays", "(I)I"⟩
abbrev cX5_stay : ByteArray := prog_1_method_18_code
def yX5_stay : MethodName := ⟨RX5, "stay", "(III)I"⟩
abbrev cX5_uncast : ByteArray := prog_1_method_19_code
def yX5_uncast : MethodName := ⟨RX5, "uncast", "()I"⟩
abbrev cX5_hands : ByteArray := prog_1_method_20_code
def yX5_hands : MethodName := ⟨RX5, "hands", "(II)I"⟩
abbrev cX5_load : ByteArray := prog_1_method_21_code
def yX5_load : MethodName := ⟨RX5, "load", "(I)I"⟩
abbrev cX5_note : ByteArray := prog_1_method_22_code
def yX5_note : MethodName := ⟨RX5, "note", "(II)I"⟩
abbrev cX5_mean : ByteArray := prog_1_method_23_code
def yX5_mean : MethodName := ⟨RX5, "mean", "(I)D"⟩
abbrev cX5_worst : ByteArray := prog_1_method_24_code
def yX5_worst : MethodName := ⟨RX5, "worst", "()I"⟩
abbrev cX5_digest : ByteArray := prog_1_method_25_code
def yX5_digest : MethodName := ⟨RX5, "digest", "()J"⟩
abbrev cX5_puppetNumbered : ByteArray := prog_1_method_26_code
def yX5_puppetNumbered : MethodName := ⟨RX5, "puppetNumbered", "(I)LCueBook$Puppet;"⟩
abbrev cX5_playerNumbered : ByteArray := prog_1_method_27_code
def yX5_playerNumbered : MethodName := ⟨RX5, "playerNumbered", "(I)LCueBook$Player;"⟩
abbrev cX5_cueNumbered : ByteArray := prog_1_method_28_code
def yX5_cueNumbered : MethodName := ⟨RX5, "cueNumbered", "(I)LCueBook$Cue;"⟩
abbrev cX5_requireBeat : ByteArray := prog_1_method_29_code
def yX5_requireBeat : MethodName := ⟨RX5, "requireBeat", "(I)V"⟩
abbrev cX5_requirePlace : ByteArray := prog_1_method_30_code
def yX5_requirePlace : MethodName := ⟨RX5, "requirePlace", "(I)V"⟩
abbrev cX5_requireTrack : ByteArray := prog_1_method_31_code
def yX5_requireTrack : MethodName := ⟨RX5, "requireTrack", "(I)V"⟩
abbrev cX5_write : ByteArray := prog_1_method_32_code
def yX5_write : MethodName := ⟨RX5, "write", "(LCueBook$Cue;)I"⟩
abbrev cX5_forgetWhatWasFound : ByteArray := prog_1_method_33_code
def yX5_forgetWhatWasFound : MethodName := ⟨RX5, "forgetWhatWasFound", "()V"⟩
abbrev cX5_tellOfCue : ByteArray := prog_1_method_34_code
def yX5_tellOfCue : MethodName := ⟨RX5, "tellOfCue", "(LCueBook$Cue;I)I"⟩
abbrev cX5_tellOfStay : ByteArray := prog_1_method_35_code
def yX5_tellOfStay : MethodName := ⟨RX5, "tellOfStay", "(LCueBook$Stay;I)I"⟩
abbrev cX5_distance : ByteArray := prog_1_method_36_code
def yX5_distance : MethodName := ⟨RX5, "distance", "(II)I"⟩
abbrev cX5_countClashingPairs : ByteArray := prog_1_method_37_code
def yX5_countClashingPairs : MethodName := ⟨RX5, "countClashingPairs", "()I"⟩
abbrev cX5_firstClash : ByteArray := prog_1_method_38_code
def yX5_firstClash : MethodName := ⟨RX5, "firstClash", "(LCueBook$Puppet;LCueBook$Puppet;)I"⟩
abbrev cX5_areOnOneTrack : ByteArray := prog_1_method_39_code
def yX5_areOnOneTrack : MethodName := ⟨RX5, "areOnOneTrack", "(LCueBook$Puppet;LCueBook$Puppet;I)Z"⟩
abbrev cX5_exchangePlaces : ByteArray := prog_1_method_40_code
def yX5_exchangePlaces : MethodName := ⟨RX5, "exchangePlaces", "(LCueBook$Puppet;LCueBook$Puppet;I)Z"⟩
abbrev cX5_findCasting : ByteArray := prog_1_method_41_code
def yX5_findCasting : MethodName := ⟨RX5, "findCasting", "()V"⟩
abbrev cX5_orderStays : ByteArray := prog_1_method_42_code
def yX5_orderStays : MethodName := ⟨RX5, "orderStays", "()V"⟩
abbrev cX5_putInOrder : ByteArray := prog_1_method_43_code
def yX5_putInOrder : MethodName := ⟨RX5, "putInOrder", "(LCueBook$Stay;)V"⟩
abbrev cX5_namePlayer : ByteArray := prog_1_method_44_code
def yX5_namePlayer : MethodName := ⟨RX5, "namePlayer", "(LCueBook$Stay;)V"⟩
abbrev cX5_canDo : ByteArray := prog_1_method_45_code
def yX5_canDo : MethodName := ⟨RX5, "canDo", "(LCueBook$Player;LCueBook$Stay;)Z"⟩
abbrev cX5_canComeToBeginning : ByteArray := prog_1_method_46_code
def yX5_canComeToBeginning : MethodName := ⟨RX5, "canComeToBeginning", "(LCueBook$Player;LCueBook$Stay;)Z"⟩
abbrev cX5_placeOfHeld : ByteArray := prog_1_method_47_code
def yX5_placeOfHeld : MethodName := ⟨RX5, "placeOfHeld", "(LCueBook$Player;I)I"⟩
abbrev cX5_canHold : ByteArray := prog_1_method_48_code
def yX5_canHold : MethodName := ⟨RX5, "canHold", "(LCueBook$Player;LCueBook$Puppet;I)Z"⟩
abbrev cX5_digestWith : ByteArray := prog_1_method_49_code
def yX5_digestWith : MethodName := ⟨RX5, "digestWith", "(JI)J"⟩
abbrev cX5_digestWithStays : ByteArray := prog_1_method_50_code
def yX5_digestWithStays : MethodName := ⟨RX5, "digestWithStays", "(JLjava/util/ArrayList;)J"⟩
abbrev cX5_digestWithCue : ByteArray := prog_1_method_51_code
def yX5_digestWithCue : MethodName := ⟨RX5, "digestWithCue", "(JLCueBook$Cue;)J"⟩
def RX6 : String := "CueBookModel"
def TX6 : u_T := fun k => match k with
  | 0 => ("CueBookModel", "thrown", "I", false)
  | 1 => ("CueBookModel", "puppets", "I", false)
  | 2 => ("CueBookModel", "weights", "[I", true)
  | 3 => ("CueBookModel", "needs", "[I", true)
  | 4 => ("CueBookModel", "players", "I", false)
  | 5 => ("CueBookModel", "strengths", "[I", true)
  | 6 => ("CueBookModel", "homes", "[I", true)
  | 7 => ("CueBookModel", "cues", "I", false)
  | 8 => ("CueBookModel", "table", "[I", true)
  | 9 => ("CueBookModel", "areStruck", "[Z", true)
  | 10 => ("CueBookModel", "struck", "I", false)
  | 11 => ("CueBookModel", "noted", "[I", true)
  | 12 => ("CueBookModel", "sums", "[I", true)
  | 13 => ("CueBookModel", "greatness", "[I", true)
  | 14 => ("CueBookModel", "isFresh", "Z", false)
  | 15 => ("CueBookModel", "places", "[I", true)
  | 16 => ("CueBookModel", "tracks", "[I", true)
  | 17 => ("CueBookModel", "stays", "[I", true)
  | 18 => ("CueBookModel", "manyStays", "[I", true)
  | 19 => ("CueBookModel", "begins", "[I", true)
  | 20 => ("CueBookModel", "ends", "[I", true)
  | _ => ("CueBookModel", "cast", "[I", true)
def tyX6 : Nat → FieldType := fun k => match k with
  | 0 => .int
  | 1 => .int
  | 2 => .array .int
  | 3 => .array .int
  | 4 => .int
  | 5 => .array .int
  | 6 => .array .int
  | 7 => .int
  | 8 => .array .int
  | 9 => .array .boolean
  | 10 => .int
  | 11 => .array .int
  | 12 => .array .int
  | 13 => .array .int
  | 14 => .boolean
  | 15 => .array .int
  | 16 => .array .int
  | 17 => .array .int
  | 18 => .array .int
  | 19 => .array .int
  | 20 => .array .int
  | _ => .array .int
theorem nmX6 : ∀ a, a < 22 → ∀ b, b < 22 → a ≠ b → (TX6 a).2.1 ≠ (TX6 b).2.1 := by decide +kernel
theorem tyX6_ok : ∀ k, k < 22 → parseFieldDescriptor (TX6 k).2.2.1 = some (tyX6 k) := by decide +kernel
abbrev cX6_init : ByteArray := prog_8_method_1_code
def yX6_init : MethodName := ⟨RX6, "<init>", "()V"⟩
abbrev cX6_thrown : ByteArray := prog_8_method_2_code
def yX6_thrown : MethodName := ⟨RX6, "thrown", "()I"⟩
abbrev cX6_fail : ByteArray := prog_8_method_3_code
def yX6_fail : MethodName := ⟨RX6, "fail", "(I)I"⟩
abbrev cX6_isIn : ByteArray := prog_8_method_4_code
def yX6_isIn : MethodName := ⟨RX6, "isIn", "(III)Z"⟩
abbrev cX6_isPuppet : ByteArray := prog_8_method_5_code
def yX6_isPuppet : MethodName := ⟨RX6, "isPuppet", "(I)Z"⟩
abbrev cX6_isPlayer : ByteArray := prog_8_method_6_code
def yX6_isPlayer : MethodName := ⟨RX6, "isPlayer", "(I)Z"⟩
abbrev cX6_isBeat : ByteArray := prog_8_method_7_code
def yX6_isBeat : MethodName := ⟨RX6, "isBeat", "(I)Z"⟩
abbrev cX6_addPuppet : ByteArray := prog_8_method_8_code
def yX6_addPuppet : MethodName := ⟨RX6, "addPuppet", "(II)I"⟩
abbrev cX6_addPlayer : ByteArray := prog_8_method_9_code
def yX6_addPlayer : MethodName := ⟨RX6, "addPlayer", "(II)I"⟩
abbrev cX6_kind : ByteArray := prog_8_method_10_code
def yX6_kind : MethodName := ⟨RX6, "kind", "(I)I"⟩
abbrev cX6_beat : ByteArray := prog_8_method_11_code
def yX6_beat : MethodName := ⟨RX6, "beat", "(I)I"⟩
abbrev cX6_behind : ByteArray := prog_8_method_12_code
def yX6_behind : MethodName := ⟨RX6, "behind", "(II)I"⟩
abbrev cX6_isBehind : ByteArray := prog_8_method_13_code
def yX6_isBehind : MethodName := ⟨RX6, "isBehind", "(II)Z"⟩
abbrev cX6_areRight : ByteArray := prog_8_method_14_code
def yX6_areRight : MethodName := ⟨RX6, "areRight", "(I)Z"⟩
abbrev cX6_write : ByteArray := prog_8_method_15_code
def yX6_write : MethodName := ⟨RX6, "write", "(IIIII)I"⟩
abbrev cX6_written : ByteArray := prog_8_method_16_code
def yX6_written : MethodName := ⟨RX6, "written", "(IIIII)I"⟩
abbrev cX6_enter : ByteArray := prog_8_method_17_code
def yX6_enter : MethodName := ⟨RX6, "enter", "(IIII)I"⟩
abbrev cX6_move : ByteArray := prog_8_method_18_code
def yX6_move : MethodName := ⟨RX6, "move", "(III)I"⟩
abbrev cX6_shift : ByteArray := prog_8_method_19_code
def yX6_shift : MethodName := ⟨RX6, "shift", "(III)I"⟩
abbrev cX6_leave : ByteArray := prog_8_method_20_code
def yX6_leave : MethodName := ⟨RX6, "leave", "(II)I"⟩
abbrev cX6_isCue : ByteArray := prog_8_method_21_code
def yX6_isCue : MethodName := ⟨RX6, "isCue", "(I)Z"⟩
abbrev cX6_strike : ByteArray := prog_8_method_22_code
def yX6_strike : MethodName := ⟨RX6, "strike", "(I)I"⟩
abbrev cX6_count : ByteArray := prog_8_method_23_code
def yX6_count : MethodName := ⟨RX6, "count", "(I)I"⟩
abbrev cX6_cue : ByteArray := prog_8_method_24_code
def yX6_cue : MethodName := ⟨RX6, "cue", "(II)I"⟩
abbrev cX6_workOut : ByteArray := prog_8_method_25_code
def yX6_workOut : MethodName := ⟨RX6, "workOut", "()V"⟩
abbrev cX6_workOut_ : ByteArray := prog_8_method_26_code
def yX6_workOut_ : MethodName := ⟨RX6, "workOut", "(I)V"⟩
abbrev cX6_playerAt : ByteArray := prog_8_method_27_code
def yX6_playerAt : MethodName := ⟨RX6, "playerAt", "(II)I"⟩
abbrev cX6_canDo : ByteArray := prog_8_method_28_code
def yX6_canDo : MethodName := ⟨RX6, "canDo", "(I)Z"⟩
abbrev cX6_castAll : ByteArray := prog_8_method_29_code
def yX6_castAll : MethodName := ⟨RX6, "castAll", "()V"⟩
abbrev cX6_placeAt : ByteArray := prog_8_method_30_code
def yX6_placeAt : MethodName := ⟨RX6, "placeAt", "(II)I"⟩
abbrev cX6_trackAt : ByteArray := prog_8_method_31_code
def yX6_trackAt : MethodName := ⟨RX6, "trackAt", "(II)I"⟩
abbrev cX6_whyBeat : ByteArray := prog_8_method_32_code
def yX6_whyBeat : MethodName := ⟨RX6, "whyBeat", "(I)I"⟩
abbrev cX6_place : ByteArray := prog_8_method_33_code
def yX6_place : MethodName := ⟨RX6, "place", "(II)I"⟩
abbrev cX6_track : ByteArray := prog_8_method_34_code
def yX6_track : MethodName := ⟨RX6, "track", "(II)I"⟩
abbrev cX6_onStage : ByteArray := prog_8_method_35_code
def yX6_onStage : MethodName := ⟨RX6, "onStage", "(I)I"⟩
abbrev cX6_areOnOneTrack : ByteArray := prog_8_method_36_code
def yX6_areOnOneTrack : MethodName := ⟨RX6, "areOnOneTrack", "(III)Z"⟩
abbrev cX6_firstClash : ByteArray := prog_8_method_37_code
def yX6_firstClash : MethodName := ⟨RX6, "firstClash", "(II)I"⟩
abbrev cX6_clash : ByteArray := prog_8_method_38_code
def yX6_clash : MethodName := ⟨RX6, "clash", "(II)I"⟩
abbrev cX6_allClashes : ByteArray := prog_8_method_39_code
def yX6_allClashes : MethodName := ⟨RX6, "allClashes", "()I"⟩
abbrev cX6_clashes : ByteArray := prog_8_method_40_code
def yX6_clashes : MethodName := ⟨RX6, "clashes", "()I"⟩
abbrev cX6_beats : ByteArray := prog_8_method_41_code
def yX6_beats : MethodName := ⟨RX6, "beats", "(I)I"⟩
abbrev cX6_stays : ByteArray := prog_8_method_42_code
def yX6_stays : MethodName := ⟨RX6, "stays", "(I)I"⟩
abbrev cX6_stayTold : ByteArray := prog_8_method_43_code
def yX6_stayTold : MethodName := ⟨RX6, "stayTold", "(III)I"⟩
abbrev cX6_stay : ByteArray := prog_8_method_44_code
def yX6_stay : MethodName := ⟨RX6, "stay", "(III)I"⟩
abbrev cX6_uncast : ByteArray := prog_8_method_45_code
def yX6_uncast : MethodName := ⟨RX6, "uncast", "()I"⟩
abbrev cX6_handsOf : ByteArray := prog_8_method_46_code
def yX6_handsOf : MethodName := ⟨RX6, "handsOf", "(II)I"⟩
abbrev cX6_hands : ByteArray := prog_8_method_47_code
def yX6_hands : MethodName := ⟨RX6, "hands", "(II)I"⟩
abbrev cX6_loadOf : ByteArray := prog_8_method_48_code
def yX6_loadOf : MethodName := ⟨RX6, "loadOf", "(I)I"⟩
abbrev cX6_load : ByteArray := prog_8_method_49_code
def yX6_load : MethodName := ⟨RX6, "load", "(I)I"⟩
abbrev cX6_note : ByteArray := prog_8_method_50_code
def yX6_note : MethodName := ⟨RX6, "note", "(II)I"⟩
abbrev cX6_mean : ByteArray := prog_8_method_51_code
def yX6_mean : MethodName := ⟨RX6, "mean", "(I)D"⟩
abbrev cX6_worst : ByteArray := prog_8_method_52_code
def yX6_worst : MethodName := ⟨RX6, "worst", "()I"⟩
abbrev cX6_digest : ByteArray := prog_8_method_53_code
def yX6_digest : MethodName := ⟨RX6, "digest", "()J"⟩
def RJx145de : String := "java/io/Serializable"
def TJx145de : u_T := fun k => match k with
  | _ => ("", "", "", false)
def tyJx145de : Nat → FieldType := fun k => match k with
  | _ => .int
theorem nmJx145de : ∀ a, a < 0 → ∀ b, b < 0 → a ≠ b → (TJx145de a).2.1 ≠ (TJx145de b).2.1 := by decide +kernel
theorem tyJx145de_ok : ∀ k, k < 0 → parseFieldDescriptor (TJx145de k).2.2.1 = some (tyJx145de k) := by decide +kernel
def RJ5 : String := "java/lang/AbstractStringBuilder"
def TJ5 : u_T := fun k => match k with
  | _ => ("", "", "", false)
def tyJ5 : Nat → FieldType := fun k => match k with
  | _ => .int
theorem nmJ5 : ∀ a, a < 0 → ∀ b, b < 0 → a ≠ b → (TJ5 a).2.1 ≠ (TJ5 b).2.1 := by decide +kernel
theorem tyJ5_ok : ∀ k, k < 0 → parseFieldDescriptor (TJ5 k).2.2.1 = some (tyJ5 k) := by decide +kernel
abbrev cJ5_init_d00df : ByteArray := prog_10_method_2_code
def yJ5_init_d00df : MethodName := ⟨RJ5, "<init>", "(I)V"⟩
abbrev cJ5_length_8abf5 : ByteArray := prog_10_method_6_code
def yJ5_length_8abf5 : MethodName := ⟨RJ5, "length", "()I"⟩
abbrev cJ5_ensureCapacityInternal_d00df : ByteArray := prog_10_method_9_code
def yJ5_ensureCapacityInternal_d00df : MethodName := ⟨RJ5, "ensureCapacityInternal", "(I)V"⟩
abbrev cJ5_newCapacity_0f7a4 : ByteArray := prog_10_method_10_code
def yJ5_newCapacity_0f7a4 : MethodName := ⟨RJ5, "newCapacity", "(I)I"⟩
abbrev cJ5_inflate_da8c8 : ByteArray := prog_10_method_11_code
def yJ5_inflate_da8c8 : MethodName := ⟨RJ5, "inflate", "()V"⟩
abbrev cJ5_append_cf1ce : ByteArray := prog_10_method_22_code
def yJ5_append_cf1ce : MethodName := ⟨RJ5, "append", "(Ljava/lang/String;)Ljava/lang/AbstractStringBuilder;"⟩
abbrev cJ5_appendNull_278bc : ByteArray := prog_10_method_26_code
def yJ5_appendNull_278bc : MethodName := ⟨RJ5, "appendNull", "()Ljava/lang/AbstractStringBuilder;"⟩
abbrev cJ5_append_c97b9 : ByteArray := prog_10_method_32_code
def yJ5_append_c97b9 : MethodName := ⟨RJ5, "append", "(I)Ljava/lang/AbstractStringBuilder;"⟩
abbrev cJ5_getValue_6d5f1 : ByteArray := prog_10_method_64_code
def yJ5_getValue_6d5f1 : MethodName := ⟨RJ5, "getValue", "()[B"⟩
abbrev cJ5_isLatin1_aae02 : ByteArray := prog_10_method_68_code
def yJ5_isLatin1_aae02 : MethodName := ⟨RJ5, "isLatin1", "()Z"⟩
abbrev cJ5_inflateIfNeededFor_a7421 : ByteArray := prog_10_method_71_code
def yJ5_inflateIfNeededFor_a7421 : MethodName := ⟨RJ5, "inflateIfNeededFor", "(Ljava/lang/String;)V"⟩
abbrev cJ5_putStringAt_47b60 : ByteArray := prog_10_method_73_code
def yJ5_putStringAt_47b60 : MethodName := ⟨RJ5, "putStringAt", "(ILjava/lang/String;)V"⟩
def RJx2cfe8 : String := "java/lang/Appendable"
def TJx2cfe8 : u_T := fun k => match k with
  | _ => ("", "", "", false)
def tyJx2cfe8 : Nat → FieldType := fun k => match k with
  | _ => .int
theorem nmJx2cfe8 : ∀ a, a < 0 → ∀ b, b < 0 → a ≠ b → (TJx2cfe8 a).2.1 ≠ (TJx2cfe8 b).2.1 := by decide +kernel
theorem tyJx2cfe8_ok : ∀ k, k < 0 → parseFieldDescriptor (TJx2cfe8 k).2.2.1 = some (tyJx2cfe8 k) := by decide +kernel
def RJx9f9b0 : String := "java/lang/CharSequence"
def TJx9f9b0 : u_T := fun k => match k with
  | _ => ("", "", "", false)
def tyJx9f9b0 : Nat → FieldType := fun k => match k with
  | _ => .int
theorem nmJx9f9b0 : ∀ a, a < 0 → ∀ b, b < 0 → a ≠ b → (TJx9f9b0 a).2.1 ≠ (TJx9f9b0 b).2.1 := by decide +kernel
theorem tyJx9f9b0_ok : ∀ k, k < 0 → parseFieldDescriptor (TJx9f9b0 k).2.2.1 = some (tyJx9f9b0 k) := by decide +kernel
def RJx8e188 : String := "java/lang/Cloneable"
def TJx8e188 : u_T := fun k => match k with
  | _ => ("", "", "", false)
def tyJx8e188 : Nat → FieldType := fun k => match k with
  | _ => .int
theorem nmJx8e188 : ∀ a, a < 0 → ∀ b, b < 0 → a ≠ b → (TJx8e188 a).2.1 ≠ (TJx8e188 b).2.1 := by decide +kernel
theorem tyJx8e188_ok : ∀ k, k < 0 → parseFieldDescriptor (TJx8e188 k).2.2.1 = some (tyJx8e188 k) := by decide +kernel
def RJxb160c : String := "java/lang/Comparable"
def TJxb160c : u_T := fun k => match k with
  | _ => ("", "", "", false)
def tyJxb160c : Nat → FieldType := fun k => match k with
  | _ => .int
theorem nmJxb160c : ∀ a, a < 0 → ∀ b, b < 0 → a ≠ b → (TJxb160c a).2.1 ≠ (TJxb160c b).2.1 := by decide +kernel
theorem tyJxb160c_ok : ∀ k, k < 0 → parseFieldDescriptor (TJxb160c k).2.2.1 = some (tyJxb160c k) := by decide +kernel
def RJ6 : String := "java/lang/Integer"
def TJ6 : u_T := fun k => match k with
  | _ => ("", "", "", false)
def tyJ6 : Nat → FieldType := fun k => match k with
  | _ => .int
theorem nmJ6 : ∀ a, a < 0 → ∀ b, b < 0 → a ≠ b → (TJ6 a).2.1 ≠ (TJ6 b).2.1 := by decide +kernel
theorem tyJ6_ok : ∀ k, k < 0 → parseFieldDescriptor (TJ6 k).2.2.1 = some (tyJ6 k) := by decide +kernel
abbrev cJ6_getChars_ba4f3 : ByteArray := prog_19_method_12_code
def yJ6_getChars_ba4f3 : MethodName := ⟨RJ6, "getChars", "(II[B)I"⟩
abbrev cJ6_stringSize_0f7a4 : ByteArray := prog_19_method_13_code
def yJ6_stringSize_0f7a4 : MethodName := ⟨RJ6, "stringSize", "(I)I"⟩
abbrev cJ6_signum_0f7a4 : ByteArray := prog_19_method_56_code
def yJ6_signum_0f7a4 : MethodName := ⟨RJ6, "signum", "(I)I"⟩
def RJxab1ab : String := "java/lang/Iterable"
def TJxab1ab : u_T := fun k => match k with
  | _ => ("", "", "", false)
def tyJxab1ab : Nat → FieldType := fun k => match k with
  | _ => .int
theorem nmJxab1ab : ∀ a, a < 0 → ∀ b, b < 0 → a ≠ b → (TJxab1ab a).2.1 ≠ (TJxab1ab b).2.1 := by decide +kernel
theorem tyJxab1ab_ok : ∀ k, k < 0 → parseFieldDescriptor (TJxab1ab k).2.2.1 = some (tyJxab1ab k) := by decide +kernel
def RJ9 : String := "java/lang/Math"
def TJ9 : u_T := fun k => match k with
  | _ => ("", "", "", false)
def tyJ9 : Nat → FieldType := fun k => match k with
  | _ => .int
theorem nmJ9 : ∀ a, a < 0 → ∀ b, b < 0 → a ≠ b → (TJ9 a).2.1 ≠ (TJ9 b).2.1 := by decide +kernel
theorem tyJ9_ok : ∀ k, k < 0 → parseFieldDescriptor (TJ9 k).2.2.1 = some (tyJ9 k) := by decide +kernel
abbrev cJ9_abs_0f7a4 : ByteArray := prog_21_method_59_code
def yJ9_abs_0f7a4 : MethodName := ⟨RJ9, "abs", "(I)I"⟩
abbrev cJ9_max_7cf53 : ByteArray := prog_21_method_65_code
def yJ9_max_7cf53 : MethodName := ⟨RJ9, "max", "(II)I"⟩
abbrev cJ9_min_7cf53 : ByteArray := prog_21_method_69_code
def yJ9_min_7cf53 : MethodName := ⟨RJ9, "min", "(II)I"⟩
def RJxd2413 : String := "java/lang/Number"
def TJxd2413 : u_T := fun k => match k with
  | _ => ("", "", "", false)
def tyJxd2413 : Nat → FieldType := fun k => match k with
  | _ => .int
theorem nmJxd2413 : ∀ a, a < 0 → ∀ b, b < 0 → a ≠ b → (TJxd2413 a).2.1 ≠ (TJxd2413 b).2.1 := by decide +kernel
theorem tyJxd2413_ok : ∀ k, k < 0 → parseFieldDescriptor (TJxd2413 k).2.2.1 = some (tyJxd2413 k) := by decide +kernel
def RJ0 : String := "java/lang/String"
def TJ0 : u_T := fun k => match k with
  | 0 => ("java/lang/String", "value", "[B", true)
  | 1 => ("java/lang/String", "coder", "B", true)
  | 2 => ("java/lang/String", "hash", "I", false)
  | _ => ("java/lang/String", "hashIsZero", "Z", false)
def tyJ0 : Nat → FieldType := fun k => match k with
  | 0 => .array .byte
  | 1 => .byte
  | 2 => .int
  | _ => .boolean
theorem nmJ0 : ∀ a, a < 4 → ∀ b, b < 4 → a ≠ b → (TJ0 a).2.1 ≠ (TJ0 b).2.1 := by decide +kernel
theorem tyJ0_ok : ∀ k, k < 4 → parseFieldDescriptor (TJ0 k).2.2.1 = some (tyJ0 k) := by decide +kernel
abbrev cJ0_init_81219 : ByteArray := prog_24_method_53_code
def yJ0_init_81219 : MethodName := ⟨RJ0, "<init>", "(Ljava/lang/StringBuilder;)V"⟩
abbrev cJ0_length_8abf5 : ByteArray := prog_24_method_54_code
def yJ0_length_8abf5 : MethodName := ⟨RJ0, "length", "()I"⟩
abbrev cJ0_getBytes_840e7 : ByteArray := prog_24_method_147_code
def yJ0_getBytes_840e7 : MethodName := ⟨RJ0, "getBytes", "([BIB)V"⟩
abbrev cJ0_init_db425 : ByteArray := prog_24_method_150_code
def yJ0_init_db425 : MethodName := ⟨RJ0, "<init>", "(Ljava/lang/AbstractStringBuilder;Ljava/lang/Void;)V"⟩
abbrev cJ0_coder_7d493 : ByteArray := prog_24_method_152_code
def yJ0_coder_7d493 : MethodName := ⟨RJ0, "coder", "()B"⟩
abbrev cJ0_checkBoundsOffCount_cabcc : ByteArray := prog_24_method_157_code
def yJ0_checkBoundsOffCount_cabcc : MethodName := ⟨RJ0, "checkBoundsOffCount", "(III)I"⟩
abbrev cJ0_checkBoundsBeginEnd_23922 : ByteArray := prog_24_method_158_code
def yJ0_checkBoundsBeginEnd_23922 : MethodName := ⟨RJ0, "checkBoundsBeginEnd", "(III)V"⟩
def RJ4 : String := "java/lang/StringBuilder"
def TJ4 : u_T := fun k => match k with
  | 0 => ("java/lang/AbstractStringBuilder", "value", "[B", false)
  | 1 => ("java/lang/AbstractStringBuilder", "coder", "B", false)
  | 2 => ("java/lang/AbstractStringBuilder", "maybeLatin1", "Z", false)
  | _ => ("java/lang/AbstractStringBuilder", "count", "I", false)
def tyJ4 : Nat → FieldType := fun k => match k with
  | 0 => .array .byte
  | 1 => .byte
  | 2 => .boolean
  | _ => .int
theorem nmJ4 : ∀ a, a < 4 → ∀ b, b < 4 → a ≠ b → (TJ4 a).2.1 ≠ (TJ4 b).2.1 := by decide +kernel
theorem tyJ4_ok : ∀ k, k < 4 → parseFieldDescriptor (TJ4 k).2.2.1 = some (tyJ4 k) := by decide +kernel
abbrev cJ4_init_da8c8 : ByteArray := prog_25_method_1_code
def yJ4_init_da8c8 : MethodName := ⟨RJ4, "<init>", "()V"⟩
abbrev cJ4_append_15ec4 : ByteArray := prog_25_method_7_code
def yJ4_append_15ec4 : MethodName := ⟨RJ4, "append", "(Ljava/lang/String;)Ljava/lang/StringBuilder;"⟩
abbrev cJ4_append_bf812 : ByteArray := prog_25_method_15_code
def yJ4_append_bf812 : MethodName := ⟨RJ4, "append", "(I)Ljava/lang/StringBuilder;"⟩
abbrev cJ4_toString_0e30d : ByteArray := prog_25_method_42_code
def yJ4_toString_0e30d : MethodName := ⟨RJ4, "toString", "()Ljava/lang/String;"⟩
abbrev cJ4_length_8abf5 : ByteArray := prog_25_method_93_code
def yJ4_length_8abf5 : MethodName := ⟨RJ4, "length", "()I"⟩
def RJ1 : String := "java/lang/StringLatin1"
def TJ1 : u_T := fun k => match k with
  | _ => ("", "", "", false)
def tyJ1 : Nat → FieldType := fun k => match k with
  | _ => .int
theorem nmJ1 : ∀ a, a < 0 → ∀ b, b < 0 → a ≠ b → (TJ1 a).2.1 ≠ (TJ1 b).2.1 := by decide +kernel
theorem tyJ1_ok : ∀ k, k < 0 → parseFieldDescriptor (TJ1 k).2.2.1 = some (tyJ1 k) := by decide +kernel
abbrev cJ1_inflate_0e8fd : ByteArray := prog_26_method_50_code
def yJ1_inflate_0e8fd : MethodName := ⟨RJ1, "inflate", "([BI[BII)V"⟩
def RJ2 : String := "java/lang/StringUTF16"
def TJ2 : u_T := fun k => match k with
  | _ => ("", "", "", false)
def tyJ2 : Nat → FieldType := fun k => match k with
  | _ => .int
theorem nmJ2 : ∀ a, a < 0 → ∀ b, b < 0 → a ≠ b → (TJ2 a).2.1 ≠ (TJ2 b).2.1 := by decide +kernel
theorem tyJ2_ok : ∀ k, k < 0 → parseFieldDescriptor (TJ2 k).2.2.1 = some (tyJ2 k) := by decide +kernel
abbrev cJ2_newBytesFor_77867 : ByteArray := prog_27_method_2_code
def yJ2_newBytesFor_77867 : MethodName := ⟨RJ2, "newBytesFor", "(I)[B"⟩
abbrev cJ2_newBytesLength_0f7a4 : ByteArray := prog_27_method_3_code
def yJ2_newBytesLength_0f7a4 : MethodName := ⟨RJ2, "newBytesLength", "(I)I"⟩
abbrev cJ2_putChar_b72d1 : ByteArray := prog_27_method_4_code
def yJ2_putChar_b72d1 : MethodName := ⟨RJ2, "putChar", "([BII)V"⟩
abbrev cJ2_getChar_3b067 : ByteArray := prog_27_method_5_code
def yJ2_getChar_3b067 : MethodName := ⟨RJ2, "getChar", "([BI)C"⟩
abbrev cJ2_length_9d52b : ByteArray := prog_27_method_6_code
def yJ2_length_9d52b : MethodName := ⟨RJ2, "length", "([B)I"⟩
abbrev cJ2_coderFromArrayLen_85cad : ByteArray := prog_27_method_15_code
def yJ2_coderFromArrayLen_85cad : MethodName := ⟨RJ2, "coderFromArrayLen", "([BI)B"⟩
abbrev cJ2_compress_39247 : ByteArray := prog_27_method_17_code
def yJ2_compress_39247 : MethodName := ⟨RJ2, "compress", "([BII)[B"⟩
abbrev cJ2_compress_5af95 : ByteArray := prog_27_method_22_code
def yJ2_compress_5af95 : MethodName := ⟨RJ2, "compress", "([BI[BII)I"⟩
abbrev cJ2_getChars_46870 : ByteArray := prog_27_method_77_code
def yJ2_getChars_46870 : MethodName := ⟨RJ2, "getChars", "(III[B)I"⟩
abbrev cJ2_putCharsAt_cd4e5 : ByteArray := prog_27_method_81_code
def yJ2_putCharsAt_cd4e5 : MethodName := ⟨RJ2, "putCharsAt", "([BICCCC)I"⟩
abbrev cJ2_inflate_0e8fd : ByteArray := prog_27_method_86_code
def yJ2_inflate_0e8fd : MethodName := ⟨RJ2, "inflate", "([BI[BII)V"⟩
abbrev cJ2_getChars_ba4f3 : ByteArray := prog_27_method_89_code
def yJ2_getChars_ba4f3 : MethodName := ⟨RJ2, "getChars", "(II[B)I"⟩
abbrev cJ2_checkBoundsBeginEnd_d044e : ByteArray := prog_27_method_93_code
def yJ2_checkBoundsBeginEnd_d044e : MethodName := ⟨RJ2, "checkBoundsBeginEnd", "(II[B)V"⟩
abbrev cJ2_checkBoundsOffCount_d044e : ByteArray := prog_27_method_94_code
def yJ2_checkBoundsOffCount_d044e : MethodName := ⟨RJ2, "checkBoundsOffCount", "(II[B)V"⟩
def RJ10 : String := "java/lang/System"
def TJ10 : u_T := fun k => match k with
  | _ => ("", "", "", false)
def tyJ10 : Nat → FieldType := fun k => match k with
  | _ => .int
theorem nmJ10 : ∀ a, a < 0 → ∀ b, b < 0 → a ≠ b → (TJ10 a).2.1 ≠ (TJ10 b).2.1 := by decide +kernel
theorem tyJ10_ok : ∀ k, k < 0 → parseFieldDescriptor (TJ10 k).2.2.1 = some (tyJ10 k) := by decide +kernel
def RJxfd54e : String := "java/lang/constant/Constable"
def TJxfd54e : u_T := fun k => match k with
  | _ => ("", "", "", false)
def tyJxfd54e : Nat → FieldType := fun k => match k with
  | _ => .int
theorem nmJxfd54e : ∀ a, a < 0 → ∀ b, b < 0 → a ≠ b → (TJxfd54e a).2.1 ≠ (TJxfd54e b).2.1 := by decide +kernel
theorem tyJxfd54e_ok : ∀ k, k < 0 → parseFieldDescriptor (TJxfd54e k).2.2.1 = some (tyJxfd54e k) := by decide +kernel
def RJx3cf43 : String := "java/lang/constant/ConstantDesc"
def TJx3cf43 : u_T := fun k => match k with
  | _ => ("", "", "", false)
def tyJx3cf43 : Nat → FieldType := fun k => match k with
  | _ => .int
theorem nmJx3cf43 : ∀ a, a < 0 → ∀ b, b < 0 → a ≠ b → (TJx3cf43 a).2.1 ≠ (TJx3cf43 b).2.1 := by decide +kernel
theorem tyJx3cf43_ok : ∀ k, k < 0 → parseFieldDescriptor (TJx3cf43 k).2.2.1 = some (tyJx3cf43 k) := by decide +kernel
def RJxa1e45 : String := "java/util/AbstractCollection"
def TJxa1e45 : u_T := fun k => match k with
  | _ => ("", "", "", false)
def tyJxa1e45 : Nat → FieldType := fun k => match k with
  | _ => .int
theorem nmJxa1e45 : ∀ a, a < 0 → ∀ b, b < 0 → a ≠ b → (TJxa1e45 a).2.1 ≠ (TJxa1e45 b).2.1 := by decide +kernel
theorem tyJxa1e45_ok : ∀ k, k < 0 → parseFieldDescriptor (TJxa1e45 k).2.2.1 = some (tyJxa1e45 k) := by decide +kernel
abbrev cJxa1e45_init_da8c8 : ByteArray := prog_32_method_1_code
def yJxa1e45_init_da8c8 : MethodName := ⟨RJxa1e45, "<init>", "()V"⟩
def RJxc12de : String := "java/util/AbstractList"
def TJxc12de : u_T := fun k => match k with
  | _ => ("", "", "", false)
def tyJxc12de : Nat → FieldType := fun k => match k with
  | _ => .int
theorem nmJxc12de : ∀ a, a < 0 → ∀ b, b < 0 → a ≠ b → (TJxc12de a).2.1 ≠ (TJxc12de b).2.1 := by decide +kernel
theorem tyJxc12de_ok : ∀ k, k < 0 → parseFieldDescriptor (TJxc12de k).2.2.1 = some (tyJxc12de k) := by decide +kernel
abbrev cJxc12de_init_da8c8 : ByteArray := prog_33_method_1_code
def yJxc12de_init_da8c8 : MethodName := ⟨RJxc12de, "<init>", "()V"⟩
def RJx4a65c : String := "java/util/ArrayList"
def TJx4a65c : u_T := fun k => match k with
  | 0 => ("java/util/AbstractList", "modCount", "I", false)
  | 1 => ("java/util/ArrayList", "elementData", "[Ljava/lang/Object;", false)
  | _ => ("java/util/ArrayList", "size", "I", false)
def tyJx4a65c : Nat → FieldType := fun k => match k with
  | 0 => .int
  | 1 => .array (.object "java/lang/Object")
  | _ => .int
theorem nmJx4a65c : ∀ a, a < 3 → ∀ b, b < 3 → a ≠ b → (TJx4a65c a).2.1 ≠ (TJx4a65c b).2.1 := by decide +kernel
theorem tyJx4a65c_ok : ∀ k, k < 3 → parseFieldDescriptor (TJx4a65c k).2.2.1 = some (tyJx4a65c k) := by decide +kernel
abbrev cJx4a65c_init_da8c8 : ByteArray := prog_34_method_2_code
def yJx4a65c_init_da8c8 : MethodName := ⟨RJx4a65c, "<init>", "()V"⟩
abbrev cJx4a65c_grow_92f84 : ByteArray := prog_34_method_6_code
def yJx4a65c_grow_92f84 : MethodName := ⟨RJx4a65c, "grow", "(I)[Ljava/lang/Object;"⟩
abbrev cJx4a65c_grow_d5877 : ByteArray := prog_34_method_7_code
def yJx4a65c_grow_d5877 : MethodName := ⟨RJx4a65c, "grow", "()[Ljava/lang/Object;"⟩
abbrev cJx4a65c_size_8abf5 : ByteArray := prog_34_method_8_code
def yJx4a65c_size_8abf5 : MethodName := ⟨RJx4a65c, "size", "()I"⟩
abbrev cJx4a65c_isEmpty_aae02 : ByteArray := prog_34_method_9_code
def yJx4a65c_isEmpty_aae02 : MethodName := ⟨RJx4a65c, "isEmpty", "()Z"⟩
abbrev cJx4a65c_elementData_915e3 : ByteArray := prog_34_method_18_code
def yJx4a65c_elementData_915e3 : MethodName := ⟨RJx4a65c, "elementData", "(I)Ljava/lang/Object;"⟩
abbrev cJx4a65c_get_915e3 : ByteArray := prog_34_method_20_code
def yJx4a65c_get_915e3 : MethodName := ⟨RJx4a65c, "get", "(I)Ljava/lang/Object;"⟩
abbrev cJx4a65c_add_72be8 : ByteArray := prog_34_method_24_code
def yJx4a65c_add_72be8 : MethodName := ⟨RJx4a65c, "add", "(Ljava/lang/Object;[Ljava/lang/Object;I)V"⟩
abbrev cJx4a65c_add_9ea2d : ByteArray := prog_34_method_25_code
def yJx4a65c_add_9ea2d : MethodName := ⟨RJx4a65c, "add", "(Ljava/lang/Object;)Z"⟩
abbrev cJx4a65c_add_7a177 : ByteArray := prog_34_method_26_code
def yJx4a65c_add_7a177 : MethodName := ⟨RJx4a65c, "add", "(ILjava/lang/Object;)V"⟩
abbrev cJx4a65c_remove_915e3 : ByteArray := prog_34_method_29_code
def yJx4a65c_remove_915e3 : MethodName := ⟨RJx4a65c, "remove", "(I)Ljava/lang/Object;"⟩
abbrev cJx4a65c_fastRemove_b59b0 : ByteArray := prog_34_method_39_code
def yJx4a65c_fastRemove_b59b0 : MethodName := ⟨RJx4a65c, "fastRemove", "([Ljava/lang/Object;I)V"⟩
abbrev cJx4a65c_clear_da8c8 : ByteArray := prog_34_method_40_code
def yJx4a65c_clear_da8c8 : MethodName := ⟨RJx4a65c, "clear", "()V"⟩
abbrev cJx4a65c_rangeCheckForAdd_d00df : ByteArray := prog_34_method_45_code
def yJx4a65c_rangeCheckForAdd_d00df : MethodName := ⟨RJx4a65c, "rangeCheckForAdd", "(I)V"⟩
abbrev cJx4a65c_outOfBoundsMsg_b52d3 : ByteArray := prog_34_method_46_code
def yJx4a65c_outOfBoundsMsg_b52d3 : MethodName := ⟨RJx4a65c, "outOfBoundsMsg", "(I)Ljava/lang/String;"⟩
def RJ7 : String := "java/util/Arrays"
def TJ7 : u_T := fun k => match k with
  | _ => ("", "", "", false)
def tyJ7 : Nat → FieldType := fun k => match k with
  | _ => .int
theorem nmJ7 : ∀ a, a < 0 → ∀ b, b < 0 → a ≠ b → (TJ7 a).2.1 ≠ (TJ7 b).2.1 := by decide +kernel
theorem tyJ7_ok : ∀ k, k < 0 → parseFieldDescriptor (TJ7 k).2.2.1 = some (tyJ7 k) := by decide +kernel
abbrev cJ7_fill_53178 : ByteArray := prog_35_method_103_code
def yJ7_fill_53178 : MethodName := ⟨RJ7, "fill", "([II)V"⟩
abbrev cJ7_copyOf_1904c : ByteArray := prog_35_method_119_code
def yJ7_copyOf_1904c : MethodName := ⟨RJ7, "copyOf", "([Ljava/lang/Object;I)[Ljava/lang/Object;"⟩
abbrev cJ7_copyOf_6403c : ByteArray := prog_35_method_120_code
def yJ7_copyOf_6403c : MethodName := ⟨RJ7, "copyOf", "([Ljava/lang/Object;ILjava/lang/Class;)[Ljava/lang/Object;"⟩
abbrev cJ7_copyOf_9075b : ByteArray := prog_35_method_121_code
def yJ7_copyOf_9075b : MethodName := ⟨RJ7, "copyOf", "([BI)[B"⟩
abbrev cJ7_checkLength_df160 : ByteArray := prog_35_method_131_code
def yJ7_checkLength_df160 : MethodName := ⟨RJ7, "checkLength", "(II)V"⟩
abbrev cJ7_copyOfRange_39247 : ByteArray := prog_35_method_132_code
def yJ7_copyOfRange_39247 : MethodName := ⟨RJ7, "copyOfRange", "([BII)[B"⟩
abbrev cJ7_copyOfRangeByte_39247 : ByteArray := prog_35_method_133_code
def yJ7_copyOfRangeByte_39247 : MethodName := ⟨RJ7, "copyOfRangeByte", "([BII)[B"⟩
def RJx5ef63 : String := "java/util/Collection"
def TJx5ef63 : u_T := fun k => match k with
  | _ => ("", "", "", false)
def tyJx5ef63 : Nat → FieldType := fun k => match k with
  | _ => .int
theorem nmJx5ef63 : ∀ a, a < 0 → ∀ b, b < 0 → a ≠ b → (TJx5ef63 a).2.1 ≠ (TJx5ef63 b).2.1 := by decide +kernel
theorem tyJx5ef63_ok : ∀ k, k < 0 → parseFieldDescriptor (TJx5ef63 k).2.2.1 = some (tyJx5ef63 k) := by decide +kernel
def RJxbd725 : String := "java/util/List"
def TJxbd725 : u_T := fun k => match k with
  | _ => ("", "", "", false)
def tyJxbd725 : Nat → FieldType := fun k => match k with
  | _ => .int
theorem nmJxbd725 : ∀ a, a < 0 → ∀ b, b < 0 → a ≠ b → (TJxbd725 a).2.1 ≠ (TJxbd725 b).2.1 := by decide +kernel
theorem tyJxbd725_ok : ∀ k, k < 0 → parseFieldDescriptor (TJxbd725 k).2.2.1 = some (tyJxbd725 k) := by decide +kernel
def RJ15 : String := "java/util/Objects"
def TJ15 : u_T := fun k => match k with
  | _ => ("", "", "", false)
def tyJ15 : Nat → FieldType := fun k => match k with
  | _ => .int
theorem nmJ15 : ∀ a, a < 0 → ∀ b, b < 0 → a ≠ b → (TJ15 a).2.1 ≠ (TJ15 b).2.1 := by decide +kernel
theorem tyJ15_ok : ∀ k, k < 0 → parseFieldDescriptor (TJ15 k).2.2.1 = some (tyJ15 k) := by decide +kernel
abbrev cJ15_checkIndex_7cf53 : ByteArray := prog_38_method_17_code
def yJ15_checkIndex_7cf53 : MethodName := ⟨RJ15, "checkIndex", "(II)I"⟩
def RJxf0a74 : String := "java/util/RandomAccess"
def TJxf0a74 : u_T := fun k => match k with
  | _ => ("", "", "", false)
def tyJxf0a74 : Nat → FieldType := fun k => match k with
  | _ => .int
theorem nmJxf0a74 : ∀ a, a < 0 → ∀ b, b < 0 → a ≠ b → (TJxf0a74 a).2.1 ≠ (TJxf0a74 b).2.1 := by decide +kernel
theorem tyJxf0a74_ok : ∀ k, k < 0 → parseFieldDescriptor (TJxf0a74 k).2.2.1 = some (tyJxf0a74 k) := by decide +kernel
def RJxa66e6 : String := "java/util/SequencedCollection"
def TJxa66e6 : u_T := fun k => match k with
  | _ => ("", "", "", false)
def tyJxa66e6 : Nat → FieldType := fun k => match k with
  | _ => .int
theorem nmJxa66e6 : ∀ a, a < 0 → ∀ b, b < 0 → a ≠ b → (TJxa66e6 a).2.1 ≠ (TJxa66e6 b).2.1 := by decide +kernel
theorem tyJxa66e6_ok : ∀ k, k < 0 → parseFieldDescriptor (TJxa66e6 k).2.2.1 = some (tyJxa66e6 k) := by decide +kernel
def RJ8 : String := "jdk/internal/util/ArraysSupport"
def TJ8 : u_T := fun k => match k with
  | _ => ("", "", "", false)
def tyJ8 : Nat → FieldType := fun k => match k with
  | _ => .int
theorem nmJ8 : ∀ a, a < 0 → ∀ b, b < 0 → a ≠ b → (TJ8 a).2.1 ≠ (TJ8 b).2.1 := by decide +kernel
theorem tyJ8_ok : ∀ k, k < 0 → parseFieldDescriptor (TJ8 k).2.2.1 = some (tyJ8 k) := by decide +kernel
abbrev cJ8_newLength_cabcc : ByteArray := prog_41_method_27_code
def yJ8_newLength_cabcc : MethodName := ⟨RJ8, "newLength", "(III)I"⟩
abbrev cJ8_hugeLength_7cf53 : ByteArray := prog_41_method_28_code
def yJ8_hugeLength_7cf53 : MethodName := ⟨RJ8, "hugeLength", "(II)I"⟩
def RJ3 : String := "jdk/internal/util/Preconditions"
def TJ3 : u_T := fun k => match k with
  | _ => ("", "", "", false)
def tyJ3 : Nat → FieldType := fun k => match k with
  | _ => .int
theorem nmJ3 : ∀ a, a < 0 → ∀ b, b < 0 → a ≠ b → (TJ3 a).2.1 ≠ (TJ3 b).2.1 := by decide +kernel
theorem tyJ3_ok : ∀ k, k < 0 → parseFieldDescriptor (TJ3 k).2.2.1 = some (tyJ3 k) := by decide +kernel
abbrev cJ3_checkIndex_8e157 : ByteArray := prog_42_method_11_code
def yJ3_checkIndex_8e157 : MethodName := ⟨RJ3, "checkIndex", "(IILjava/util/function/BiFunction;)I"⟩
abbrev cJ3_checkFromToIndex_8c36e : ByteArray := prog_42_method_12_code
def yJ3_checkFromToIndex_8c36e : MethodName := ⟨RJ3, "checkFromToIndex", "(IIILjava/util/function/BiFunction;)I"⟩
abbrev cJ3_checkFromIndexSize_8c36e : ByteArray := prog_42_method_13_code
def yJ3_checkFromIndexSize_8c36e : MethodName := ⟨RJ3, "checkFromIndexSize", "(IIILjava/util/function/BiFunction;)I"⟩
def RL : String := "CueBookLaw"
abbrev cL_addPuppet : ByteArray := method_3_code
def yL_addPuppet : MethodName := ⟨RL, "addPuppet", "(LCueBook;II[J)I"⟩
abbrev cL_addPlayer : ByteArray := method_4_code
def yL_addPlayer : MethodName := ⟨RL, "addPlayer", "(LCueBook;II[J)I"⟩
abbrev cL_enter : ByteArray := method_5_code
def yL_enter : MethodName := ⟨RL, "enter", "(LCueBook;IIII[J)I"⟩
abbrev cL_move : ByteArray := method_6_code
def yL_move : MethodName := ⟨RL, "move", "(LCueBook;III[J)I"⟩
abbrev cL_shift : ByteArray := method_7_code
def yL_shift : MethodName := ⟨RL, "shift", "(LCueBook;III[J)I"⟩
abbrev cL_leave : ByteArray := method_8_code
def yL_leave : MethodName := ⟨RL, "leave", "(LCueBook;II[J)I"⟩
abbrev cL_strike : ByteArray := method_9_code
def yL_strike : MethodName := ⟨RL, "strike", "(LCueBook;I[J)I"⟩
abbrev cL_count : ByteArray := method_10_code
def yL_count : MethodName := ⟨RL, "count", "(LCueBook;I[J)I"⟩
abbrev cL_cue : ByteArray := method_11_code
def yL_cue : MethodName := ⟨RL, "cue", "(LCueBook;II[J)I"⟩
abbrev cL_place : ByteArray := method_12_code
def yL_place : MethodName := ⟨RL, "place", "(LCueBook;II[J)I"⟩
abbrev cL_track : ByteArray := method_13_code
def yL_track : MethodName := ⟨RL, "track", "(LCueBook;II[J)I"⟩
abbrev cL_onStage : ByteArray := method_14_code
def yL_onStage : MethodName := ⟨RL, "onStage", "(LCueBook;I[J)I"⟩
abbrev cL_clash : ByteArray := method_15_code
def yL_clash : MethodName := ⟨RL, "clash", "(LCueBook;II[J)I"⟩
abbrev cL_beats : ByteArray := method_16_code
def yL_beats : MethodName := ⟨RL, "beats", "(LCueBook;I[J)I"⟩
abbrev cL_stays : ByteArray := method_17_code
def yL_stays : MethodName := ⟨RL, "stays", "(LCueBook;I[J)I"⟩
abbrev cL_stay : ByteArray := method_18_code
def yL_stay : MethodName := ⟨RL, "stay", "(LCueBook;III[J)I"⟩
abbrev cL_hands : ByteArray := method_19_code
def yL_hands : MethodName := ⟨RL, "hands", "(LCueBook;II[J)I"⟩
abbrev cL_load : ByteArray := method_20_code
def yL_load : MethodName := ⟨RL, "load", "(LCueBook;I[J)I"⟩
abbrev cL_note : ByteArray := method_21_code
def yL_note : MethodName := ⟨RL, "note", "(LCueBook;II[J)I"⟩
abbrev cL_mean : ByteArray := method_22_code
def yL_mean : MethodName := ⟨RL, "mean", "(LCueBook;I[D)I"⟩
abbrev cL_law : ByteArray := code
def yL_law : MethodName := ⟨RL, "law", "([I)Z"⟩
end
section
theorem dX0_init_0 : decode cX0_init 0 = .ok (.aload_n 0, 1) := by decide +kernel
theorem dX0_init_1 : decode cX0_init 1 = .ok (.invokespecial 1, 3) := by decide +kernel
theorem dX0_init_4 : decode cX0_init 4 = .ok (.aload_n 0, 1) := by decide +kernel
theorem dX0_init_5 : decode cX0_init 5 = .ok (.iconst 0, 1) := by decide +kernel
theorem dX0_init_6 : decode cX0_init 6 = .ok (.putfield 7, 3) := by decide +kernel
theorem dX0_init_9 : decode cX0_init 9 = .ok (.aload_n 0, 1) := by decide +kernel
theorem dX0_init_10 : decode cX0_init 10 = .ok (.iconst 0, 1) := by decide +kernel
theorem dX0_init_11 : decode cX0_init 11 = .ok (.putfield 13, 3) := by decide +kernel
theorem dX0_init_14 : decode cX0_init 14 = .ok (.aload_n 0, 1) := by decide +kernel
theorem dX0_init_15 : decode cX0_init 15 = .ok (.iconst 0, 1) := by decide +kernel
theorem dX0_init_16 : decode cX0_init 16 = .ok (.putfield 17, 3) := by decide +kernel
theorem dX0_init_19 : decode cX0_init 19 = .ok (.aload_n 0, 1) := by decide +kernel
theorem dX0_init_20 : decode cX0_init 20 = .ok (.iconst 0, 1) := by decide +kernel
theorem dX0_init_21 : decode cX0_init 21 = .ok (.putfield 20, 3) := by decide +kernel
theorem dX0_init_24 : decode cX0_init 24 = .ok (.aload_n 0, 1) := by decide +kernel
theorem dX0_init_25 : decode cX0_init 25 = .ok (.iload_n 1, 1) := by decide +kernel
theorem dX0_init_26 : decode cX0_init 26 = .ok (.putfield 23, 3) := by decide +kernel
theorem dX0_init_29 : decode cX0_init 29 = .ok (.aload_n 0, 1) := by decide +kernel
theorem dX0_init_30 : decode cX0_init 30 = .ok (.aload_n 2, 1) := by decide +kernel
theorem dX0_init_31 : decode cX0_init 31 = .ok (.putfield 26, 3) := by decide +kernel
theorem dX0_init_34 : decode cX0_init 34 = .ok (.aload_n 0, 1) := by decide +kernel
theorem dX0_init_35 : decode cX0_init 35 = .ok (.iload_n 3, 1) := by decide +kernel
theorem dX0_init_36 : decode cX0_init 36 = .ok (.putfield 30, 3) := by decide +kernel
theorem dX0_init_39 : decode cX0_init 39 = .ok (.aload_n 0, 1) := by decide +kernel
theorem dX0_init_40 : decode cX0_init 40 = .ok (.iload 4, 2) := by decide +kernel
theorem dX0_init_42 : decode cX0_init 42 = .ok (.putfield 33, 3) := by decide +kernel
theorem dX0_init_45 : decode cX0_init 45 = .ok (.aload_n 0, 1) := by decide +kernel
theorem dX0_init_46 : decode cX0_init 46 = .ok (.iload 5, 2) := by decide +kernel
theorem dX0_init_48 : decode cX0_init 48 = .ok (.putfield 36, 3) := by decide +kernel
theorem dX0_init_51 : decode cX0_init 51 = .ok (.return_, 1) := by decide +kernel
theorem dX1_init_0 : decode cX1_init 0 = .ok (.aload_n 0, 1) := by decide +kernel
theorem dX1_init_1 : decode cX1_init 1 = .ok (.invokespecial 3, 3) := by decide +kernel
theorem dX1_init_4 : decode cX1_init 4 = .ok (.aload_n 0, 1) := by decide +kernel
theorem dX1_init_5 : decode cX1_init 5 = .ok (.iconst 0, 1) := by decide +kernel
theorem dX1_init_6 : decode cX1_init 6 = .ok (.putfield 9, 3) := by decide +kernel
theorem dX1_init_9 : decode cX1_init 9 = .ok (.aload_n 0, 1) := by decide +kernel
theorem dX1_init_10 : decode cX1_init 10 = .ok (.iconst 0, 1) := by decide +kernel
theorem dX1_init_11 : decode cX1_init 11 = .ok (.putfield 15, 3) := by decide +kernel
theorem dX1_init_14 : decode cX1_init 14 = .ok (.aload_n 0, 1) := by decide +kernel
theorem dX1_init_15 : decode cX1_init 15 = .ok (.iconst (-1), 1) := by decide +kernel
theorem dX1_init_16 : decode cX1_init 16 = .ok (.putfield 19, 3) := by decide +kernel
theorem dX1_init_19 : decode cX1_init 19 = .ok (.aload_n 0, 1) := by decide +kernel
theorem dX1_init_20 : decode cX1_init 20 = .ok (.iconst (-1), 1) := by decide +kernel
theorem dX1_init_21 : decode cX1_init 21 = .ok (.putfield 22, 3) := by decide +kernel
theorem dX1_init_24 : decode cX1_init 24 = .ok (.aload_n 0, 1) := by decide +kernel
theorem dX1_init_25 : decode cX1_init 25 = .ok (.iconst (-1), 1) := by decide +kernel
theorem dX1_init_26 : decode cX1_init 26 = .ok (.putfield 25, 3) := by decide +kernel
theorem dX1_init_29 : decode cX1_init 29 = .ok (.aload_n 0, 1) := by decide +kernel
theorem dX1_init_30 : decode cX1_init 30 = .ok (.iconst 0, 1) := by decide +kernel
theorem dX1_init_31 : decode cX1_init 31 = .ok (.putfield 28, 3) := by decide +kernel
theorem dX1_init_34 : decode cX1_init 34 = .ok (.aload_n 0, 1) := by decide +kernel
theorem dX1_init_35 : decode cX1_init 35 = .ok (.iconst 0, 1) := by decide +kernel
theorem dX1_init_36 : decode cX1_init 36 = .ok (.putfield 31, 3) := by decide +kernel
theorem dX1_init_39 : decode cX1_init 39 = .ok (.return_, 1) := by decide +kernel
theorem dX1_allows_0 : decode cX1_allows 0 = .ok (.aload_n 1, 1) := by decide +kernel
theorem dX1_allows_1 : decode cX1_allows 1 = .ok (.getfield 34, 3) := by decide +kernel
theorem dX1_allows_4 : decode cX1_allows 4 = .ok (.ifCond .ne 16, 3) := by decide +kernel
theorem dX1_allows_7 : decode cX1_allows 7 = .ok (.aload_n 0, 1) := by decide +kernel
theorem dX1_allows_8 : decode cX1_allows 8 = .ok (.getfield 9, 3) := by decide +kernel
theorem dX1_allows_11 : decode cX1_allows 11 = .ok (.ifCond .ne 7, 3) := by decide +kernel
theorem dX1_allows_14 : decode cX1_allows 14 = .ok (.iconst 1, 1) := by decide +kernel
theorem dX1_allows_15 : decode cX1_allows 15 = .ok (.goto 4, 3) := by decide +kernel
theorem dX1_allows_18 : decode cX1_allows 18 = .ok (.iconst 0, 1) := by decide +kernel
theorem dX1_allows_19 : decode cX1_allows 19 = .ok (.ireturn, 1) := by decide +kernel
theorem dX1_allows_20 : decode cX1_allows 20 = .ok (.aload_n 0, 1) := by decide +kernel
theorem dX1_allows_21 : decode cX1_allows 21 = .ok (.getfield 9, 3) := by decide +kernel
theorem dX1_allows_24 : decode cX1_allows 24 = .ok (.ifCond .eq 14, 3) := by decide +kernel
theorem dX1_allows_27 : decode cX1_allows 27 = .ok (.aload_n 1, 1) := by decide +kernel
theorem dX1_allows_28 : decode cX1_allows 28 = .ok (.getfield 39, 3) := by decide +kernel
theorem dX1_allows_31 : decode cX1_allows 31 = .ok (.aload_n 0, 1) := by decide +kernel
theorem dX1_allows_32 : decode cX1_allows 32 = .ok (.getfield 31, 3) := by decide +kernel
theorem dX1_allows_35 : decode cX1_allows 35 = .ok (.if_icmp .ge 5, 3) := by decide +kernel
theorem dX1_allows_38 : decode cX1_allows 38 = .ok (.iconst 0, 1) := by decide +kernel
theorem dX1_allows_39 : decode cX1_allows 39 = .ok (.ireturn, 1) := by decide +kernel
theorem dX1_allows_40 : decode cX1_allows 40 = .ok (.aload_n 1, 1) := by decide +kernel
theorem dX1_allows_41 : decode cX1_allows 41 = .ok (.getfield 34, 3) := by decide +kernel
theorem dX1_allows_44 : decode cX1_allows 44 = .ok (.iconst 1, 1) := by decide +kernel
theorem dX1_allows_45 : decode cX1_allows 45 = .ok (.if_icmp .ne 31, 3) := by decide +kernel
theorem dX1_allows_48 : decode cX1_allows 48 = .ok (.aload_n 1, 1) := by decide +kernel
theorem dX1_allows_49 : decode cX1_allows 49 = .ok (.getfield 39, 3) := by decide +kernel
theorem dX1_allows_52 : decode cX1_allows 52 = .ok (.aload_n 0, 1) := by decide +kernel
theorem dX1_allows_53 : decode cX1_allows 53 = .ok (.getfield 25, 3) := by decide +kernel
theorem dX1_allows_56 : decode cX1_allows 56 = .ok (.aload_n 1, 1) := by decide +kernel
theorem dX1_allows_57 : decode cX1_allows 57 = .ok (.getfield 42, 3) := by decide +kernel
theorem dX1_allows_60 : decode cX1_allows 60 = .ok (.invokestatic 45, 3) := by decide +kernel
theorem dX1_allows_63 : decode cX1_allows 63 = .ok (.iadd, 1) := by decide +kernel
theorem dX1_allows_64 : decode cX1_allows 64 = .ok (.sipush 1000, 3) := by decide +kernel
theorem dX1_allows_67 : decode cX1_allows 67 = .ok (.if_icmp .ge 7, 3) := by decide +kernel
theorem dX1_allows_70 : decode cX1_allows 70 = .ok (.iconst 1, 1) := by decide +kernel
theorem dX1_allows_71 : decode cX1_allows 71 = .ok (.goto 4, 3) := by decide +kernel
theorem dX1_allows_74 : decode cX1_allows 74 = .ok (.iconst 0, 1) := by decide +kernel
theorem dX1_allows_75 : decode cX1_allows 75 = .ok (.ireturn, 1) := by decide +kernel
theorem dX1_allows_76 : decode cX1_allows 76 = .ok (.aload_n 1, 1) := by decide +kernel
theorem dX1_allows_77 : decode cX1_allows 77 = .ok (.getfield 34, 3) := by decide +kernel
theorem dX1_allows_80 : decode cX1_allows 80 = .ok (.iconst 3, 1) := by decide +kernel
theorem dX1_allows_81 : decode cX1_allows 81 = .ok (.if_icmp .ne 14, 3) := by decide +kernel
theorem dX1_allows_84 : decode cX1_allows 84 = .ok (.aload_n 1, 1) := by decide +kernel
theorem dX1_allows_85 : decode cX1_allows 85 = .ok (.getfield 39, 3) := by decide +kernel
theorem dX1_allows_88 : decode cX1_allows 88 = .ok (.aload_n 0, 1) := by decide +kernel
theorem dX1_allows_89 : decode cX1_allows 89 = .ok (.getfield 15, 3) := by decide +kernel
theorem dX1_allows_92 : decode cX1_allows 92 = .ok (.if_icmp .le 7, 3) := by decide +kernel
theorem dX1_allows_95 : decode cX1_allows 95 = .ok (.iconst 1, 1) := by decide +kernel
theorem dX1_allows_96 : decode cX1_allows 96 = .ok (.goto 4, 3) := by decide +kernel
theorem dX1_allows_99 : decode cX1_allows 99 = .ok (.iconst 0, 1) := by decide +kernel
theorem dX1_allows_100 : decode cX1_allows 100 = .ok (.ireturn, 1) := by decide +kernel
theorem dX1_follow_0 : decode cX1_follow 0 = .ok (.aload_n 1, 1) := by decide +kernel
theorem dX1_follow_1 : decode cX1_follow 1 = .ok (.getfield 34, 3) := by decide +kernel
theorem dX1_follow_4 : decode cX1_follow 4 = .ok (.tableswitch 98 0 2 #[28, 68, 87], 28) := by decide +kernel
theorem dX1_follow_32 : decode cX1_follow 32 = .ok (.aload_n 0, 1) := by decide +kernel
theorem dX1_follow_33 : decode cX1_follow 33 = .ok (.iconst 1, 1) := by decide +kernel
theorem dX1_follow_34 : decode cX1_follow 34 = .ok (.putfield 9, 3) := by decide +kernel
theorem dX1_follow_37 : decode cX1_follow 37 = .ok (.aload_n 0, 1) := by decide +kernel
theorem dX1_follow_38 : decode cX1_follow 38 = .ok (.aload_n 1, 1) := by decide +kernel
theorem dX1_follow_39 : decode cX1_follow 39 = .ok (.getfield 39, 3) := by decide +kernel
theorem dX1_follow_42 : decode cX1_follow 42 = .ok (.putfield 15, 3) := by decide +kernel
theorem dX1_follow_45 : decode cX1_follow 45 = .ok (.aload_n 0, 1) := by decide +kernel
theorem dX1_follow_46 : decode cX1_follow 46 = .ok (.aload_n 1, 1) := by decide +kernel
theorem dX1_follow_47 : decode cX1_follow 47 = .ok (.getfield 49, 3) := by decide +kernel
theorem dX1_follow_50 : decode cX1_follow 50 = .ok (.putfield 19, 3) := by decide +kernel
theorem dX1_follow_53 : decode cX1_follow 53 = .ok (.aload_n 0, 1) := by decide +kernel
theorem dX1_follow_54 : decode cX1_follow 54 = .ok (.aload_n 1, 1) := by decide +kernel
theorem dX1_follow_55 : decode cX1_follow 55 = .ok (.getfield 42, 3) := by decide +kernel
theorem dX1_follow_58 : decode cX1_follow 58 = .ok (.aload_n 1, 1) := by decide +kernel
theorem dX1_follow_59 : decode cX1_follow 59 = .ok (.getfield 42, 3) := by decide +kernel
theorem dX1_follow_62 : decode cX1_follow 62 = .ok (.aload_n 1, 1) := by decide +kernel
theorem dX1_follow_63 : decode cX1_follow 63 = .ok (.getfield 39, 3) := by decide +kernel
theorem dX1_follow_66 : decode cX1_follow 66 = .ok (.invokevirtual 50, 3) := by decide +kernel
theorem dX1_follow_69 : decode cX1_follow 69 = .ok (.goto 38, 3) := by decide +kernel
theorem dX1_follow_72 : decode cX1_follow 72 = .ok (.aload_n 0, 1) := by decide +kernel
theorem dX1_follow_73 : decode cX1_follow 73 = .ok (.aload_n 0, 1) := by decide +kernel
theorem dX1_follow_74 : decode cX1_follow 74 = .ok (.getfield 25, 3) := by decide +kernel
theorem dX1_follow_77 : decode cX1_follow 77 = .ok (.aload_n 1, 1) := by decide +kernel
theorem dX1_follow_78 : decode cX1_follow 78 = .ok (.getfield 42, 3) := by decide +kernel
theorem dX1_follow_81 : decode cX1_follow 81 = .ok (.aload_n 1, 1) := by decide +kernel
theorem dX1_follow_82 : decode cX1_follow 82 = .ok (.getfield 39, 3) := by decide +kernel
theorem dX1_follow_85 : decode cX1_follow 85 = .ok (.invokevirtual 50, 3) := by decide +kernel
theorem dX1_follow_88 : decode cX1_follow 88 = .ok (.goto 19, 3) := by decide +kernel
theorem dX1_follow_91 : decode cX1_follow 91 = .ok (.aload_n 0, 1) := by decide +kernel
theorem dX1_follow_92 : decode cX1_follow 92 = .ok (.aload_n 1, 1) := by decide +kernel
theorem dX1_follow_93 : decode cX1_follow 93 = .ok (.getfield 49, 3) := by decide +kernel
theorem dX1_follow_96 : decode cX1_follow 96 = .ok (.putfield 19, 3) := by decide +kernel
theorem dX1_follow_99 : decode cX1_follow 99 = .ok (.goto 8, 3) := by decide +kernel
theorem dX1_follow_102 : decode cX1_follow 102 = .ok (.aload_n 0, 1) := by decide +kernel
theorem dX1_follow_103 : decode cX1_follow 103 = .ok (.iconst 0, 1) := by decide +kernel
theorem dX1_follow_104 : decode cX1_follow 104 = .ok (.putfield 9, 3) := by decide +kernel
theorem dX1_follow_107 : decode cX1_follow 107 = .ok (.return_, 1) := by decide +kernel
theorem dX1_walk_0 : decode cX1_walk 0 = .ok (.aload_n 0, 1) := by decide +kernel
theorem dX1_walk_1 : decode cX1_walk 1 = .ok (.iload_n 1, 1) := by decide +kernel
theorem dX1_walk_2 : decode cX1_walk 2 = .ok (.putfield 22, 3) := by decide +kernel
theorem dX1_walk_5 : decode cX1_walk 5 = .ok (.aload_n 0, 1) := by decide +kernel
theorem dX1_walk_6 : decode cX1_walk 6 = .ok (.iload_n 2, 1) := by decide +kernel
theorem dX1_walk_7 : decode cX1_walk 7 = .ok (.putfield 25, 3) := by decide +kernel
theorem dX1_walk_10 : decode cX1_walk 10 = .ok (.aload_n 0, 1) := by decide +kernel
theorem dX1_walk_11 : decode cX1_walk 11 = .ok (.iload_n 3, 1) := by decide +kernel
theorem dX1_walk_12 : decode cX1_walk 12 = .ok (.putfield 28, 3) := by decide +kernel
theorem dX1_walk_15 : decode cX1_walk 15 = .ok (.aload_n 0, 1) := by decide +kernel
theorem dX1_walk_16 : decode cX1_walk 16 = .ok (.iload_n 3, 1) := by decide +kernel
theorem dX1_walk_17 : decode cX1_walk 17 = .ok (.iload_n 1, 1) := by decide +kernel
theorem dX1_walk_18 : decode cX1_walk 18 = .ok (.iload_n 2, 1) := by decide +kernel
theorem dX1_walk_19 : decode cX1_walk 19 = .ok (.invokestatic 45, 3) := by decide +kernel
theorem dX1_walk_22 : decode cX1_walk 22 = .ok (.iadd, 1) := by decide +kernel
theorem dX1_walk_23 : decode cX1_walk 23 = .ok (.putfield 31, 3) := by decide +kernel
theorem dX1_walk_26 : decode cX1_walk 26 = .ok (.return_, 1) := by decide +kernel
theorem dX1_placeAtBeat_0 : decode cX1_placeAtBeat 0 = .ok (.aload_n 0, 1) := by decide +kernel
theorem dX1_placeAtBeat_1 : decode cX1_placeAtBeat 1 = .ok (.getfield 9, 3) := by decide +kernel
theorem dX1_placeAtBeat_4 : decode cX1_placeAtBeat 4 = .ok (.ifCond .ne 5, 3) := by decide +kernel
theorem dX1_placeAtBeat_7 : decode cX1_placeAtBeat 7 = .ok (.iconst (-1), 1) := by decide +kernel
theorem dX1_placeAtBeat_8 : decode cX1_placeAtBeat 8 = .ok (.ireturn, 1) := by decide +kernel
theorem dX1_placeAtBeat_9 : decode cX1_placeAtBeat 9 = .ok (.iload_n 1, 1) := by decide +kernel
theorem dX1_placeAtBeat_10 : decode cX1_placeAtBeat 10 = .ok (.aload_n 0, 1) := by decide +kernel
theorem dX1_placeAtBeat_11 : decode cX1_placeAtBeat 11 = .ok (.getfield 31, 3) := by decide +kernel
theorem dX1_placeAtBeat_14 : decode cX1_placeAtBeat 14 = .ok (.if_icmp .lt 8, 3) := by decide +kernel
theorem dX1_placeAtBeat_17 : decode cX1_placeAtBeat 17 = .ok (.aload_n 0, 1) := by decide +kernel
theorem dX1_placeAtBeat_18 : decode cX1_placeAtBeat 18 = .ok (.getfield 25, 3) := by decide +kernel
theorem dX1_placeAtBeat_21 : decode cX1_placeAtBeat 21 = .ok (.ireturn, 1) := by decide +kernel
theorem dX1_placeAtBeat_22 : decode cX1_placeAtBeat 22 = .ok (.iload_n 1, 1) := by decide +kernel
theorem dX1_placeAtBeat_23 : decode cX1_placeAtBeat 23 = .ok (.aload_n 0, 1) := by decide +kernel
theorem dX1_placeAtBeat_24 : decode cX1_placeAtBeat 24 = .ok (.getfield 28, 3) := by decide +kernel
theorem dX1_placeAtBeat_27 : decode cX1_placeAtBeat 27 = .ok (.isub, 1) := by decide +kernel
theorem dX1_placeAtBeat_28 : decode cX1_placeAtBeat 28 = .ok (.istore_n 2, 1) := by decide +kernel
theorem dX1_placeAtBeat_29 : decode cX1_placeAtBeat 29 = .ok (.aload_n 0, 1) := by decide +kernel
theorem dX1_placeAtBeat_30 : decode cX1_placeAtBeat 30 = .ok (.getfield 22, 3) := by decide +kernel
theorem dX1_placeAtBeat_33 : decode cX1_placeAtBeat 33 = .ok (.aload_n 0, 1) := by decide +kernel
theorem dX1_placeAtBeat_34 : decode cX1_placeAtBeat 34 = .ok (.getfield 25, 3) := by decide +kernel
theorem dX1_placeAtBeat_37 : decode cX1_placeAtBeat 37 = .ok (.if_icmp .ge 12, 3) := by decide +kernel
theorem dX1_placeAtBeat_40 : decode cX1_placeAtBeat 40 = .ok (.aload_n 0, 1) := by decide +kernel
theorem dX1_placeAtBeat_41 : decode cX1_placeAtBeat 41 = .ok (.getfield 22, 3) := by decide +kernel
theorem dX1_placeAtBeat_44 : decode cX1_placeAtBeat 44 = .ok (.iload_n 2, 1) := by decide +kernel
theorem dX1_placeAtBeat_45 : decode cX1_placeAtBeat 45 = .ok (.iadd, 1) := by decide +kernel
theorem dX1_placeAtBeat_46 : decode cX1_placeAtBeat 46 = .ok (.goto 9, 3) := by decide +kernel
theorem dX1_placeAtBeat_49 : decode cX1_placeAtBeat 49 = .ok (.aload_n 0, 1) := by decide +kernel
theorem dX1_placeAtBeat_50 : decode cX1_placeAtBeat 50 = .ok (.getfield 22, 3) := by decide +kernel
theorem dX1_placeAtBeat_53 : decode cX1_placeAtBeat 53 = .ok (.iload_n 2, 1) := by decide +kernel
theorem dX1_placeAtBeat_54 : decode cX1_placeAtBeat 54 = .ok (.isub, 1) := by decide +kernel
theorem dX1_placeAtBeat_55 : decode cX1_placeAtBeat 55 = .ok (.ireturn, 1) := by decide +kernel
theorem dX1_trackNow_0 : decode cX1_trackNow 0 = .ok (.aload_n 0, 1) := by decide +kernel
theorem dX1_trackNow_1 : decode cX1_trackNow 1 = .ok (.getfield 9, 3) := by decide +kernel
theorem dX1_trackNow_4 : decode cX1_trackNow 4 = .ok (.ifCond .eq 10, 3) := by decide +kernel
theorem dX1_trackNow_7 : decode cX1_trackNow 7 = .ok (.aload_n 0, 1) := by decide +kernel
theorem dX1_trackNow_8 : decode cX1_trackNow 8 = .ok (.getfield 19, 3) := by decide +kernel
theorem dX1_trackNow_11 : decode cX1_trackNow 11 = .ok (.goto 4, 3) := by decide +kernel
theorem dX1_trackNow_14 : decode cX1_trackNow 14 = .ok (.iconst (-1), 1) := by decide +kernel
theorem dX1_trackNow_15 : decode cX1_trackNow 15 = .ok (.ireturn, 1) := by decide +kernel
theorem dX2_init_0 : decode cX2_init 0 = .ok (.aload_n 0, 1) := by decide +kernel
theorem dX2_init_1 : decode cX2_init 1 = .ok (.invokespecial 3, 3) := by decide +kernel
theorem dX2_init_4 : decode cX2_init 4 = .ok (.aload_n 0, 1) := by decide +kernel
theorem dX2_init_5 : decode cX2_init 5 = .ok (.sipush 1000, 3) := by decide +kernel
theorem dX2_init_8 : decode cX2_init 8 = .ok (.newarray .int, 2) := by decide +kernel
theorem dX2_init_10 : decode cX2_init 10 = .ok (.putfield 9, 3) := by decide +kernel
theorem dX2_init_13 : decode cX2_init 13 = .ok (.aload_n 0, 1) := by decide +kernel
theorem dX2_init_14 : decode cX2_init 14 = .ok (.iload_n 1, 1) := by decide +kernel
theorem dX2_init_15 : decode cX2_init 15 = .ok (.putfield 15, 3) := by decide +kernel
theorem dX2_init_18 : decode cX2_init 18 = .ok (.aload_n 0, 1) := by decide +kernel
theorem dX2_init_19 : decode cX2_init 19 = .ok (.iload_n 2, 1) := by decide +kernel
theorem dX2_init_20 : decode cX2_init 20 = .ok (.putfield 19, 3) := by decide +kernel
theorem dX2_init_23 : decode cX2_init 23 = .ok (.return_, 1) := by decide +kernel
theorem dX2_holds_0 : decode cX2_holds 0 = .ok (.aload_n 0, 1) := by decide +kernel
theorem dX2_holds_1 : decode cX2_holds 1 = .ok (.getfield 9, 3) := by decide +kernel
theorem dX2_holds_4 : decode cX2_holds 4 = .ok (.iload_n 2, 1) := by decide +kernel
theorem dX2_holds_5 : decode cX2_holds 5 = .ok (.iaload, 1) := by decide +kernel
theorem dX2_holds_6 : decode cX2_holds 6 = .ok (.aload_n 1, 1) := by decide +kernel
theorem dX2_holds_7 : decode cX2_holds 7 = .ok (.getfield 22, 3) := by decide +kernel
theorem dX2_holds_10 : decode cX2_holds 10 = .ok (.iand, 1) := by decide +kernel
theorem dX2_holds_11 : decode cX2_holds 11 = .ok (.ifCond .eq 7, 3) := by decide +kernel
theorem dX2_holds_14 : decode cX2_holds 14 = .ok (.iconst 1, 1) := by decide +kernel
theorem dX2_holds_15 : decode cX2_holds 15 = .ok (.goto 4, 3) := by decide +kernel
theorem dX2_holds_18 : decode cX2_holds 18 = .ok (.iconst 0, 1) := by decide +kernel
theorem dX2_holds_19 : decode cX2_holds 19 = .ok (.ireturn, 1) := by decide +kernel
theorem dX2_putDownAll_0 : decode cX2_putDownAll 0 = .ok (.aload_n 0, 1) := by decide +kernel
theorem dX2_putDownAll_1 : decode cX2_putDownAll 1 = .ok (.getfield 9, 3) := by decide +kernel
theorem dX2_putDownAll_4 : decode cX2_putDownAll 4 = .ok (.iconst 0, 1) := by decide +kernel
theorem dX2_putDownAll_5 : decode cX2_putDownAll 5 = .ok (.invokestatic 27, 3) := by decide +kernel
theorem dX2_putDownAll_8 : decode cX2_putDownAll 8 = .ok (.return_, 1) := by decide +kernel
theorem dX2_take_0 : decode cX2_take 0 = .ok (.aload_n 1, 1) := by decide +kernel
theorem dX2_take_1 : decode cX2_take 1 = .ok (.getfield 33, 3) := by decide +kernel
theorem dX2_take_4 : decode cX2_take 4 = .ok (.istore_n 2, 1) := by decide +kernel
theorem dX2_take_5 : decode cX2_take 5 = .ok (.iload_n 2, 1) := by decide +kernel
theorem dX2_take_6 : decode cX2_take 6 = .ok (.aload_n 1, 1) := by decide +kernel
theorem dX2_take_7 : decode cX2_take 7 = .ok (.getfield 38, 3) := by decide +kernel
theorem dX2_take_10 : decode cX2_take 10 = .ok (.if_icmp .ge 25, 3) := by decide +kernel
theorem dX2_take_13 : decode cX2_take 13 = .ok (.aload_n 0, 1) := by decide +kernel
theorem dX2_take_14 : decode cX2_take 14 = .ok (.getfield 9, 3) := by decide +kernel
theorem dX2_take_17 : decode cX2_take 17 = .ok (.iload_n 2, 1) := by decide +kernel
theorem dX2_take_18 : decode cX2_take 18 = .ok (.dup2, 1) := by decide +kernel
theorem dX2_take_19 : decode cX2_take 19 = .ok (.iaload, 1) := by decide +kernel
theorem dX2_take_20 : decode cX2_take 20 = .ok (.aload_n 1, 1) := by decide +kernel
theorem dX2_take_21 : decode cX2_take 21 = .ok (.getfield 41, 3) := by decide +kernel
theorem dX2_take_24 : decode cX2_take 24 = .ok (.getfield 22, 3) := by decide +kernel
theorem dX2_take_27 : decode cX2_take 27 = .ok (.ior, 1) := by decide +kernel
theorem dX2_take_28 : decode cX2_take 28 = .ok (.iastore, 1) := by decide +kernel
theorem dX2_take_29 : decode cX2_take 29 = .ok (.iinc 2 1, 3) := by decide +kernel
theorem dX2_take_32 : decode cX2_take 32 = .ok (.goto (-27), 3) := by decide +kernel
theorem dX2_take_35 : decode cX2_take 35 = .ok (.return_, 1) := by decide +kernel
theorem dX2_busyBeats_0 : decode cX2_busyBeats 0 = .ok (.iconst 0, 1) := by decide +kernel
theorem dX2_busyBeats_1 : decode cX2_busyBeats 1 = .ok (.istore_n 1, 1) := by decide +kernel
theorem dX2_busyBeats_2 : decode cX2_busyBeats 2 = .ok (.iconst 0, 1) := by decide +kernel
theorem dX2_busyBeats_3 : decode cX2_busyBeats 3 = .ok (.istore_n 2, 1) := by decide +kernel
theorem dX2_busyBeats_4 : decode cX2_busyBeats 4 = .ok (.iload_n 2, 1) := by decide +kernel
theorem dX2_busyBeats_5 : decode cX2_busyBeats 5 = .ok (.sipush 1000, 3) := by decide +kernel
theorem dX2_busyBeats_8 : decode cX2_busyBeats 8 = .ok (.if_icmp .ge 21, 3) := by decide +kernel
theorem dX2_busyBeats_11 : decode cX2_busyBeats 11 = .ok (.aload_n 0, 1) := by decide +kernel
theorem dX2_busyBeats_12 : decode cX2_busyBeats 12 = .ok (.getfield 9, 3) := by decide +kernel
theorem dX2_busyBeats_15 : decode cX2_busyBeats 15 = .ok (.iload_n 2, 1) := by decide +kernel
theorem dX2_busyBeats_16 : decode cX2_busyBeats 16 = .ok (.iaload, 1) := by decide +kernel
theorem dX2_busyBeats_17 : decode cX2_busyBeats 17 = .ok (.ifCond .eq 6, 3) := by decide +kernel
theorem dX2_busyBeats_20 : decode cX2_busyBeats 20 = .ok (.iinc 1 1, 3) := by decide +kernel
theorem dX2_busyBeats_23 : decode cX2_busyBeats 23 = .ok (.iinc 2 1, 3) := by decide +kernel
theorem dX2_busyBeats_26 : decode cX2_busyBeats 26 = .ok (.goto (-22), 3) := by decide +kernel
theorem dX2_busyBeats_29 : decode cX2_busyBeats 29 = .ok (.iload_n 1, 1) := by decide +kernel
theorem dX2_busyBeats_30 : decode cX2_busyBeats 30 = .ok (.ireturn, 1) := by decide +kernel
theorem dX3_init_0 : decode cX3_init 0 = .ok (.aload_n 0, 1) := by decide +kernel
theorem dX3_init_1 : decode cX3_init 1 = .ok (.invokespecial 3, 3) := by decide +kernel
theorem dX3_init_4 : decode cX3_init 4 = .ok (.aload_n 0, 1) := by decide +kernel
theorem dX3_init_5 : decode cX3_init 5 = .ok (.new 9, 3) := by decide +kernel
theorem dX3_init_8 : decode cX3_init 8 = .ok (.dup, 1) := by decide +kernel
theorem dX3_init_9 : decode cX3_init 9 = .ok (.invokespecial 11, 3) := by decide +kernel
theorem dX3_init_12 : decode cX3_init 12 = .ok (.putfield 12, 3) := by decide +kernel
theorem dX3_init_15 : decode cX3_init 15 = .ok (.aload_n 0, 1) := by decide +kernel
theorem dX3_init_16 : decode cX3_init 16 = .ok (.new 9, 3) := by decide +kernel
theorem dX3_init_19 : decode cX3_init 19 = .ok (.dup, 1) := by decide +kernel
theorem dX3_init_20 : decode cX3_init 20 = .ok (.invokespecial 11, 3) := by decide +kernel
theorem dX3_init_23 : decode cX3_init 23 = .ok (.putfield 18, 3) := by decide +kernel
theorem dX3_init_26 : decode cX3_init 26 = .ok (.aload_n 0, 1) := by decide +kernel
theorem dX3_init_27 : decode cX3_init 27 = .ok (.sipush 1000, 3) := by decide +kernel
theorem dX3_init_30 : decode cX3_init 30 = .ok (.newarray .int, 2) := by decide +kernel
theorem dX3_init_32 : decode cX3_init 32 = .ok (.putfield 21, 3) := by decide +kernel
theorem dX3_init_35 : decode cX3_init 35 = .ok (.aload_n 0, 1) := by decide +kernel
theorem dX3_init_36 : decode cX3_init 36 = .ok (.sipush 1000, 3) := by decide +kernel
theorem dX3_init_39 : decode cX3_init 39 = .ok (.newarray .int, 2) := by decide +kernel
theorem dX3_init_41 : decode cX3_init 41 = .ok (.putfield 25, 3) := by decide +kernel
theorem dX3_init_44 : decode cX3_init 44 = .ok (.aload_n 0, 1) := by decide +kernel
theorem dX3_init_45 : decode cX3_init 45 = .ok (.iload_n 1, 1) := by decide +kernel
theorem dX3_init_46 : decode cX3_init 46 = .ok (.putfield 28, 3) := by decide +kernel
theorem dX3_init_49 : decode cX3_init 49 = .ok (.aload_n 0, 1) := by decide +kernel
theorem dX3_init_50 : decode cX3_init 50 = .ok (.iconst 1, 1) := by decide +kernel
theorem dX3_init_51 : decode cX3_init 51 = .ok (.iload_n 1, 1) := by decide +kernel
theorem dX3_init_52 : decode cX3_init 52 = .ok (.ishl, 1) := by decide +kernel
theorem dX3_init_53 : decode cX3_init 53 = .ok (.putfield 32, 3) := by decide +kernel
theorem dX3_init_56 : decode cX3_init 56 = .ok (.aload_n 0, 1) := by decide +kernel
theorem dX3_init_57 : decode cX3_init 57 = .ok (.iload_n 2, 1) := by decide +kernel
theorem dX3_init_58 : decode cX3_init 58 = .ok (.putfield 35, 3) := by decide +kernel
theorem dX3_init_61 : decode cX3_init 61 = .ok (.aload_n 0, 1) := by decide +kernel
theorem dX3_init_62 : decode cX3_init 62 = .ok (.iload_n 3, 1) := by decide +kernel
theorem dX3_init_63 : decode cX3_init 63 = .ok (.putfield 38, 3) := by decide +kernel
theorem dX3_init_66 : decode cX3_init 66 = .ok (.aload_n 0, 1) := by decide +kernel
theorem dX3_init_67 : decode cX3_init 67 = .ok (.getfield 21, 3) := by decide +kernel
theorem dX3_init_70 : decode cX3_init 70 = .ok (.iconst (-1), 1) := by decide +kernel
theorem dX3_init_71 : decode cX3_init 71 = .ok (.invokestatic 41, 3) := by decide +kernel
theorem dX3_init_74 : decode cX3_init 74 = .ok (.aload_n 0, 1) := by decide +kernel
theorem dX3_init_75 : decode cX3_init 75 = .ok (.getfield 25, 3) := by decide +kernel
theorem dX3_init_78 : decode cX3_init 78 = .ok (.iconst (-1), 1) := by decide +kernel
theorem dX3_init_79 : decode cX3_init 79 = .ok (.invokestatic 41, 3) := by decide +kernel
theorem dX3_init_82 : decode cX3_init 82 = .ok (.return_, 1) := by decide +kernel
theorem dX3_takesIn_0 : decode cX3_takesIn 0 = .ok (.aload_n 0, 1) := by decide +kernel
theorem dX3_takesIn_1 : decode cX3_takesIn 1 = .ok (.getfield 12, 3) := by decide +kernel
theorem dX3_takesIn_4 : decode cX3_takesIn 4 = .ok (.invokevirtual 47, 3) := by decide +kernel
theorem dX3_takesIn_7 : decode cX3_takesIn 7 = .ok (.istore_n 2, 1) := by decide +kernel
theorem dX3_takesIn_8 : decode cX3_takesIn 8 = .ok (.iload_n 2, 1) := by decide +kernel
theorem dX3_takesIn_9 : decode cX3_takesIn 9 = .ok (.ifCond .le 32, 3) := by decide +kernel
theorem dX3_takesIn_12 : decode cX3_takesIn 12 = .ok (.aload_n 0, 1) := by decide +kernel
theorem dX3_takesIn_13 : decode cX3_takesIn 13 = .ok (.getfield 12, 3) := by decide +kernel
theorem dX3_takesIn_16 : decode cX3_takesIn 16 = .ok (.iload_n 2, 1) := by decide +kernel
theorem dX3_takesIn_17 : decode cX3_takesIn 17 = .ok (.iconst 1, 1) := by decide +kernel
theorem dX3_takesIn_18 : decode cX3_takesIn 18 = .ok (.isub, 1) := by decide +kernel
theorem dX3_takesIn_19 : decode cX3_takesIn 19 = .ok (.invokevirtual 51, 3) := by decide +kernel
theorem dX3_takesIn_22 : decode cX3_takesIn 22 = .ok (.checkcast 55, 3) := by decide +kernel
theorem dX3_takesIn_25 : decode cX3_takesIn 25 = .ok (.getfield 57, 3) := by decide +kernel
theorem dX3_takesIn_28 : decode cX3_takesIn 28 = .ok (.aload_n 1, 1) := by decide +kernel
theorem dX3_takesIn_29 : decode cX3_takesIn 29 = .ok (.getfield 57, 3) := by decide +kernel
theorem dX3_takesIn_32 : decode cX3_takesIn 32 = .ok (.if_icmp .le 9, 3) := by decide +kernel
theorem dX3_takesIn_35 : decode cX3_takesIn 35 = .ok (.iinc 2 (-1), 3) := by decide +kernel
theorem dX3_takesIn_38 : decode cX3_takesIn 38 = .ok (.goto (-30), 3) := by decide +kernel
theorem dX3_takesIn_41 : decode cX3_takesIn 41 = .ok (.aload_n 0, 1) := by decide +kernel
theorem dX3_takesIn_42 : decode cX3_takesIn 42 = .ok (.getfield 12, 3) := by decide +kernel
theorem dX3_takesIn_45 : decode cX3_takesIn 45 = .ok (.iload_n 2, 1) := by decide +kernel
theorem dX3_takesIn_46 : decode cX3_takesIn 46 = .ok (.aload_n 1, 1) := by decide +kernel
theorem dX3_takesIn_47 : decode cX3_takesIn 47 = .ok (.invokevirtual 60, 3) := by decide +kernel
theorem dX3_takesIn_50 : decode cX3_takesIn 50 = .ok (.aload_n 0, 1) := by decide +kernel
theorem dX3_takesIn_51 : decode cX3_takesIn 51 = .ok (.invokevirtual 64, 3) := by decide +kernel
theorem dX3_takesIn_54 : decode cX3_takesIn 54 = .ok (.ifCond .ne 14, 3) := by decide +kernel
theorem dX3_takesIn_57 : decode cX3_takesIn 57 = .ok (.aload_n 0, 1) := by decide +kernel
theorem dX3_takesIn_58 : decode cX3_takesIn 58 = .ok (.getfield 12, 3) := by decide +kernel
theorem dX3_takesIn_61 : decode cX3_takesIn 61 = .ok (.iload_n 2, 1) := by decide +kernel
theorem dX3_takesIn_62 : decode cX3_takesIn 62 = .ok (.invokevirtual 68, 3) := by decide +kernel
theorem dX3_takesIn_65 : decode cX3_takesIn 65 = .ok (.pop, 1) := by decide +kernel
theorem dX3_takesIn_66 : decode cX3_takesIn 66 = .ok (.iconst 0, 1) := by decide +kernel
theorem dX3_takesIn_67 : decode cX3_takesIn 67 = .ok (.ireturn, 1) := by decide +kernel
theorem dX3_takesIn_68 : decode cX3_takesIn 68 = .ok (.aload_n 0, 1) := by decide +kernel
theorem dX3_takesIn_69 : decode cX3_takesIn 69 = .ok (.invokevirtual 71, 3) := by decide +kernel
theorem dX3_takesIn_72 : decode cX3_takesIn 72 = .ok (.iconst 1, 1) := by decide +kernel
theorem dX3_takesIn_73 : decode cX3_takesIn 73 = .ok (.ireturn, 1) := by decide +kernel
theorem dX3_takesOut_0 : decode cX3_takesOut 0 = .ok (.aload_n 0, 1) := by decide +kernel
theorem dX3_takesOut_1 : decode cX3_takesOut 1 = .ok (.getfield 12, 3) := by decide +kernel
theorem dX3_takesOut_4 : decode cX3_takesOut 4 = .ok (.invokevirtual 47, 3) := by decide +kernel
theorem dX3_takesOut_7 : decode cX3_takesOut 7 = .ok (.iconst 1, 1) := by decide +kernel
theorem dX3_takesOut_8 : decode cX3_takesOut 8 = .ok (.isub, 1) := by decide +kernel
theorem dX3_takesOut_9 : decode cX3_takesOut 9 = .ok (.istore_n 2, 1) := by decide +kernel
theorem dX3_takesOut_10 : decode cX3_takesOut 10 = .ok (.iload_n 2, 1) := by decide +kernel
theorem dX3_takesOut_11 : decode cX3_takesOut 11 = .ok (.ifCond .lt 21, 3) := by decide +kernel
theorem dX3_takesOut_14 : decode cX3_takesOut 14 = .ok (.aload_n 0, 1) := by decide +kernel
theorem dX3_takesOut_15 : decode cX3_takesOut 15 = .ok (.getfield 12, 3) := by decide +kernel
theorem dX3_takesOut_18 : decode cX3_takesOut 18 = .ok (.iload_n 2, 1) := by decide +kernel
theorem dX3_takesOut_19 : decode cX3_takesOut 19 = .ok (.invokevirtual 51, 3) := by decide +kernel
theorem dX3_takesOut_22 : decode cX3_takesOut 22 = .ok (.aload_n 1, 1) := by decide +kernel
theorem dX3_takesOut_23 : decode cX3_takesOut 23 = .ok (.if_acmp .eq 9, 3) := by decide +kernel
theorem dX3_takesOut_26 : decode cX3_takesOut 26 = .ok (.iinc 2 (-1), 3) := by decide +kernel
theorem dX3_takesOut_29 : decode cX3_takesOut 29 = .ok (.goto (-19), 3) := by decide +kernel
theorem dX3_takesOut_32 : decode cX3_takesOut 32 = .ok (.iload_n 2, 1) := by decide +kernel
theorem dX3_takesOut_33 : decode cX3_takesOut 33 = .ok (.ifCond .ge 5, 3) := by decide +kernel
theorem dX3_takesOut_36 : decode cX3_takesOut 36 = .ok (.iconst 0, 1) := by decide +kernel
theorem dX3_takesOut_37 : decode cX3_takesOut 37 = .ok (.ireturn, 1) := by decide +kernel
theorem dX3_takesOut_38 : decode cX3_takesOut 38 = .ok (.aload_n 0, 1) := by decide +kernel
theorem dX3_takesOut_39 : decode cX3_takesOut 39 = .ok (.getfield 12, 3) := by decide +kernel
theorem dX3_takesOut_42 : decode cX3_takesOut 42 = .ok (.iload_n 2, 1) := by decide +kernel
theorem dX3_takesOut_43 : decode cX3_takesOut 43 = .ok (.invokevirtual 68, 3) := by decide +kernel
theorem dX3_takesOut_46 : decode cX3_takesOut 46 = .ok (.pop, 1) := by decide +kernel
theorem dX3_takesOut_47 : decode cX3_takesOut 47 = .ok (.aload_n 0, 1) := by decide +kernel
theorem dX3_takesOut_48 : decode cX3_takesOut 48 = .ok (.invokevirtual 64, 3) := by decide +kernel
theorem dX3_takesOut_51 : decode cX3_takesOut 51 = .ok (.ifCond .ne 14, 3) := by decide +kernel
theorem dX3_takesOut_54 : decode cX3_takesOut 54 = .ok (.aload_n 0, 1) := by decide +kernel
theorem dX3_takesOut_55 : decode cX3_takesOut 55 = .ok (.getfield 12, 3) := by decide +kernel
theorem dX3_takesOut_58 : decode cX3_takesOut 58 = .ok (.iload_n 2, 1) := by decide +kernel
theorem dX3_takesOut_59 : decode cX3_takesOut 59 = .ok (.aload_n 1, 1) := by decide +kernel
theorem dX3_takesOut_60 : decode cX3_takesOut 60 = .ok (.invokevirtual 60, 3) := by decide +kernel
theorem dX3_takesOut_63 : decode cX3_takesOut 63 = .ok (.iconst 0, 1) := by decide +kernel
theorem dX3_takesOut_64 : decode cX3_takesOut 64 = .ok (.ireturn, 1) := by decide +kernel
theorem dX3_takesOut_65 : decode cX3_takesOut 65 = .ok (.aload_n 0, 1) := by decide +kernel
theorem dX3_takesOut_66 : decode cX3_takesOut 66 = .ok (.invokevirtual 71, 3) := by decide +kernel
theorem dX3_takesOut_69 : decode cX3_takesOut 69 = .ok (.iconst 1, 1) := by decide +kernel
theorem dX3_takesOut_70 : decode cX3_takesOut 70 = .ok (.ireturn, 1) := by decide +kernel
theorem dX3_isScriptRight_0 : decode cX3_isScriptRight 0 = .ok (.new 74, 3) := by decide +kernel
theorem dX3_isScriptRight_3 : decode cX3_isScriptRight 3 = .ok (.dup, 1) := by decide +kernel
theorem dX3_isScriptRight_4 : decode cX3_isScriptRight 4 = .ok (.invokespecial 76, 3) := by decide +kernel
theorem dX3_isScriptRight_7 : decode cX3_isScriptRight 7 = .ok (.astore_n 1, 1) := by decide +kernel
theorem dX3_isScriptRight_8 : decode cX3_isScriptRight 8 = .ok (.iconst 0, 1) := by decide +kernel
theorem dX3_isScriptRight_9 : decode cX3_isScriptRight 9 = .ok (.istore_n 2, 1) := by decide +kernel
theorem dX3_isScriptRight_10 : decode cX3_isScriptRight 10 = .ok (.iload_n 2, 1) := by decide +kernel
theorem dX3_isScriptRight_11 : decode cX3_isScriptRight 11 = .ok (.aload_n 0, 1) := by decide +kernel
theorem dX3_isScriptRight_12 : decode cX3_isScriptRight 12 = .ok (.getfield 12, 3) := by decide +kernel
theorem dX3_isScriptRight_15 : decode cX3_isScriptRight 15 = .ok (.invokevirtual 47, 3) := by decide +kernel
theorem dX3_isScriptRight_18 : decode cX3_isScriptRight 18 = .ok (.if_icmp .ge 36, 3) := by decide +kernel
theorem dX3_isScriptRight_21 : decode cX3_isScriptRight 21 = .ok (.aload_n 0, 1) := by decide +kernel
theorem dX3_isScriptRight_22 : decode cX3_isScriptRight 22 = .ok (.getfield 12, 3) := by decide +kernel
theorem dX3_isScriptRight_25 : decode cX3_isScriptRight 25 = .ok (.iload_n 2, 1) := by decide +kernel
theorem dX3_isScriptRight_26 : decode cX3_isScriptRight 26 = .ok (.invokevirtual 51, 3) := by decide +kernel
theorem dX3_isScriptRight_29 : decode cX3_isScriptRight 29 = .ok (.checkcast 55, 3) := by decide +kernel
theorem dX3_isScriptRight_32 : decode cX3_isScriptRight 32 = .ok (.astore_n 3, 1) := by decide +kernel
theorem dX3_isScriptRight_33 : decode cX3_isScriptRight 33 = .ok (.aload_n 1, 1) := by decide +kernel
theorem dX3_isScriptRight_34 : decode cX3_isScriptRight 34 = .ok (.aload_n 3, 1) := by decide +kernel
theorem dX3_isScriptRight_35 : decode cX3_isScriptRight 35 = .ok (.invokevirtual 77, 3) := by decide +kernel
theorem dX3_isScriptRight_38 : decode cX3_isScriptRight 38 = .ok (.ifCond .ne 5, 3) := by decide +kernel
theorem dX3_isScriptRight_41 : decode cX3_isScriptRight 41 = .ok (.iconst 0, 1) := by decide +kernel
theorem dX3_isScriptRight_42 : decode cX3_isScriptRight 42 = .ok (.ireturn, 1) := by decide +kernel
theorem dX3_isScriptRight_43 : decode cX3_isScriptRight 43 = .ok (.aload_n 1, 1) := by decide +kernel
theorem dX3_isScriptRight_44 : decode cX3_isScriptRight 44 = .ok (.aload_n 3, 1) := by decide +kernel
theorem dX3_isScriptRight_45 : decode cX3_isScriptRight 45 = .ok (.invokevirtual 81, 3) := by decide +kernel
theorem dX3_isScriptRight_48 : decode cX3_isScriptRight 48 = .ok (.iinc 2 1, 3) := by decide +kernel
theorem dX3_isScriptRight_51 : decode cX3_isScriptRight 51 = .ok (.goto (-41), 3) := by decide +kernel
theorem dX3_isScriptRight_54 : decode cX3_isScriptRight 54 = .ok (.iconst 1, 1) := by decide +kernel
theorem dX3_isScriptRight_55 : decode cX3_isScriptRight 55 = .ok (.ireturn, 1) := by decide +kernel
theorem dX3_playScript_0 : decode cX3_playScript 0 = .ok (.aload_n 0, 1) := by decide +kernel
theorem dX3_playScript_1 : decode cX3_playScript 1 = .ok (.getfield 18, 3) := by decide +kernel
theorem dX3_playScript_4 : decode cX3_playScript 4 = .ok (.invokevirtual 85, 3) := by decide +kernel
theorem dX3_playScript_7 : decode cX3_playScript 7 = .ok (.new 74, 3) := by decide +kernel
theorem dX3_playScript_10 : decode cX3_playScript 10 = .ok (.dup, 1) := by decide +kernel
theorem dX3_playScript_11 : decode cX3_playScript 11 = .ok (.invokespecial 76, 3) := by decide +kernel
theorem dX3_playScript_14 : decode cX3_playScript 14 = .ok (.astore_n 1, 1) := by decide +kernel
theorem dX3_playScript_15 : decode cX3_playScript 15 = .ok (.iconst 0, 1) := by decide +kernel
theorem dX3_playScript_16 : decode cX3_playScript 16 = .ok (.istore_n 2, 1) := by decide +kernel
theorem dX3_playScript_17 : decode cX3_playScript 17 = .ok (.iconst 0, 1) := by decide +kernel
theorem dX3_playScript_18 : decode cX3_playScript 18 = .ok (.istore_n 3, 1) := by decide +kernel
theorem dX3_playScript_19 : decode cX3_playScript 19 = .ok (.iload_n 3, 1) := by decide +kernel
theorem dX3_playScript_20 : decode cX3_playScript 20 = .ok (.aload_n 0, 1) := by decide +kernel
theorem dX3_playScript_21 : decode cX3_playScript 21 = .ok (.getfield 12, 3) := by decide +kernel
theorem dX3_playScript_24 : decode cX3_playScript 24 = .ok (.invokevirtual 47, 3) := by decide +kernel
theorem dX3_playScript_27 : decode cX3_playScript 27 = .ok (.if_icmp .ge 51, 3) := by decide +kernel
theorem dX3_playScript_30 : decode cX3_playScript 30 = .ok (.aload_n 0, 1) := by decide +kernel
theorem dX3_playScript_31 : decode cX3_playScript 31 = .ok (.getfield 12, 3) := by decide +kernel
theorem dX3_playScript_34 : decode cX3_playScript 34 = .ok (.iload_n 3, 1) := by decide +kernel
theorem dX3_playScript_35 : decode cX3_playScript 35 = .ok (.invokevirtual 51, 3) := by decide +kernel
theorem dX3_playScript_38 : decode cX3_playScript 38 = .ok (.checkcast 55, 3) := by decide +kernel
theorem dX3_playScript_41 : decode cX3_playScript 41 = .ok (.astore 4, 2) := by decide +kernel
theorem dX3_playScript_43 : decode cX3_playScript 43 = .ok (.aload_n 0, 1) := by decide +kernel
theorem dX3_playScript_44 : decode cX3_playScript 44 = .ok (.aload_n 1, 1) := by decide +kernel
theorem dX3_playScript_45 : decode cX3_playScript 45 = .ok (.iload_n 2, 1) := by decide +kernel
theorem dX3_playScript_46 : decode cX3_playScript 46 = .ok (.aload 4, 2) := by decide +kernel
theorem dX3_playScript_48 : decode cX3_playScript 48 = .ok (.getfield 57, 3) := by decide +kernel
theorem dX3_playScript_51 : decode cX3_playScript 51 = .ok (.invokevirtual 88, 3) := by decide +kernel
theorem dX3_playScript_54 : decode cX3_playScript 54 = .ok (.aload 4, 2) := by decide +kernel
theorem dX3_playScript_56 : decode cX3_playScript 56 = .ok (.getfield 57, 3) := by decide +kernel
theorem dX3_playScript_59 : decode cX3_playScript 59 = .ok (.istore_n 2, 1) := by decide +kernel
theorem dX3_playScript_60 : decode cX3_playScript 60 = .ok (.aload_n 1, 1) := by decide +kernel
theorem dX3_playScript_61 : decode cX3_playScript 61 = .ok (.aload 4, 2) := by decide +kernel
theorem dX3_playScript_63 : decode cX3_playScript 63 = .ok (.invokevirtual 81, 3) := by decide +kernel
theorem dX3_playScript_66 : decode cX3_playScript 66 = .ok (.aload_n 0, 1) := by decide +kernel
theorem dX3_playScript_67 : decode cX3_playScript 67 = .ok (.aload 4, 2) := by decide +kernel
theorem dX3_playScript_69 : decode cX3_playScript 69 = .ok (.invokevirtual 92, 3) := by decide +kernel
theorem dX3_playScript_72 : decode cX3_playScript 72 = .ok (.iinc 3 1, 3) := by decide +kernel
theorem dX3_playScript_75 : decode cX3_playScript 75 = .ok (.goto (-56), 3) := by decide +kernel
theorem dX3_playScript_78 : decode cX3_playScript 78 = .ok (.aload_n 0, 1) := by decide +kernel
theorem dX3_playScript_79 : decode cX3_playScript 79 = .ok (.aload_n 1, 1) := by decide +kernel
theorem dX3_playScript_80 : decode cX3_playScript 80 = .ok (.iload_n 2, 1) := by decide +kernel
theorem dX3_playScript_81 : decode cX3_playScript 81 = .ok (.sipush 1000, 3) := by decide +kernel
theorem dX3_playScript_84 : decode cX3_playScript 84 = .ok (.invokevirtual 88, 3) := by decide +kernel
theorem dX3_playScript_87 : decode cX3_playScript 87 = .ok (.return_, 1) := by decide +kernel
theorem dX3_playBeats_0 : decode cX3_playBeats 0 = .ok (.iload_n 2, 1) := by decide +kernel
theorem dX3_playBeats_1 : decode cX3_playBeats 1 = .ok (.istore 4, 2) := by decide +kernel
theorem dX3_playBeats_3 : decode cX3_playBeats 3 = .ok (.iload 4, 2) := by decide +kernel
theorem dX3_playBeats_5 : decode cX3_playBeats 5 = .ok (.iload_n 3, 1) := by decide +kernel
theorem dX3_playBeats_6 : decode cX3_playBeats 6 = .ok (.if_icmp .ge 33, 3) := by decide +kernel
theorem dX3_playBeats_9 : decode cX3_playBeats 9 = .ok (.aload_n 0, 1) := by decide +kernel
theorem dX3_playBeats_10 : decode cX3_playBeats 10 = .ok (.getfield 21, 3) := by decide +kernel
theorem dX3_playBeats_13 : decode cX3_playBeats 13 = .ok (.iload 4, 2) := by decide +kernel
theorem dX3_playBeats_15 : decode cX3_playBeats 15 = .ok (.aload_n 1, 1) := by decide +kernel
theorem dX3_playBeats_16 : decode cX3_playBeats 16 = .ok (.iload 4, 2) := by decide +kernel
theorem dX3_playBeats_18 : decode cX3_playBeats 18 = .ok (.invokevirtual 95, 3) := by decide +kernel
theorem dX3_playBeats_21 : decode cX3_playBeats 21 = .ok (.iastore, 1) := by decide +kernel
theorem dX3_playBeats_22 : decode cX3_playBeats 22 = .ok (.aload_n 0, 1) := by decide +kernel
theorem dX3_playBeats_23 : decode cX3_playBeats 23 = .ok (.getfield 25, 3) := by decide +kernel
theorem dX3_playBeats_26 : decode cX3_playBeats 26 = .ok (.iload 4, 2) := by decide +kernel
theorem dX3_playBeats_28 : decode cX3_playBeats 28 = .ok (.aload_n 1, 1) := by decide +kernel
theorem dX3_playBeats_29 : decode cX3_playBeats 29 = .ok (.invokevirtual 99, 3) := by decide +kernel
theorem dX3_playBeats_32 : decode cX3_playBeats 32 = .ok (.iastore, 1) := by decide +kernel
theorem dX3_playBeats_33 : decode cX3_playBeats 33 = .ok (.iinc 4 1, 3) := by decide +kernel
theorem dX3_playBeats_36 : decode cX3_playBeats 36 = .ok (.goto (-33), 3) := by decide +kernel
theorem dX3_playBeats_39 : decode cX3_playBeats 39 = .ok (.return_, 1) := by decide +kernel
theorem dX3_recordStay_0 : decode cX3_recordStay 0 = .ok (.aload_n 1, 1) := by decide +kernel
theorem dX3_recordStay_1 : decode cX3_recordStay 1 = .ok (.getfield 102, 3) := by decide +kernel
theorem dX3_recordStay_4 : decode cX3_recordStay 4 = .ok (.ifCond .ne 26, 3) := by decide +kernel
theorem dX3_recordStay_7 : decode cX3_recordStay 7 = .ok (.aload_n 0, 1) := by decide +kernel
theorem dX3_recordStay_8 : decode cX3_recordStay 8 = .ok (.getfield 18, 3) := by decide +kernel
theorem dX3_recordStay_11 : decode cX3_recordStay 11 = .ok (.new 105, 3) := by decide +kernel
theorem dX3_recordStay_14 : decode cX3_recordStay 14 = .ok (.dup, 1) := by decide +kernel
theorem dX3_recordStay_15 : decode cX3_recordStay 15 = .ok (.aload_n 0, 1) := by decide +kernel
theorem dX3_recordStay_16 : decode cX3_recordStay 16 = .ok (.aload_n 1, 1) := by decide +kernel
theorem dX3_recordStay_17 : decode cX3_recordStay 17 = .ok (.getfield 57, 3) := by decide +kernel
theorem dX3_recordStay_20 : decode cX3_recordStay 20 = .ok (.invokespecial 107, 3) := by decide +kernel
theorem dX3_recordStay_23 : decode cX3_recordStay 23 = .ok (.invokevirtual 110, 3) := by decide +kernel
theorem dX3_recordStay_26 : decode cX3_recordStay 26 = .ok (.pop, 1) := by decide +kernel
theorem dX3_recordStay_27 : decode cX3_recordStay 27 = .ok (.goto 47, 3) := by decide +kernel
theorem dX3_recordStay_30 : decode cX3_recordStay 30 = .ok (.aload_n 1, 1) := by decide +kernel
theorem dX3_recordStay_31 : decode cX3_recordStay 31 = .ok (.getfield 102, 3) := by decide +kernel
theorem dX3_recordStay_34 : decode cX3_recordStay 34 = .ok (.iconst 3, 1) := by decide +kernel
theorem dX3_recordStay_35 : decode cX3_recordStay 35 = .ok (.if_icmp .ne 39, 3) := by decide +kernel
theorem dX3_recordStay_38 : decode cX3_recordStay 38 = .ok (.aload_n 0, 1) := by decide +kernel
theorem dX3_recordStay_39 : decode cX3_recordStay 39 = .ok (.getfield 18, 3) := by decide +kernel
theorem dX3_recordStay_42 : decode cX3_recordStay 42 = .ok (.invokevirtual 113, 3) := by decide +kernel
theorem dX3_recordStay_45 : decode cX3_recordStay 45 = .ok (.ifCond .ne 29, 3) := by decide +kernel
theorem dX3_recordStay_48 : decode cX3_recordStay 48 = .ok (.aload_n 0, 1) := by decide +kernel
theorem dX3_recordStay_49 : decode cX3_recordStay 49 = .ok (.getfield 18, 3) := by decide +kernel
theorem dX3_recordStay_52 : decode cX3_recordStay 52 = .ok (.aload_n 0, 1) := by decide +kernel
theorem dX3_recordStay_53 : decode cX3_recordStay 53 = .ok (.getfield 18, 3) := by decide +kernel
theorem dX3_recordStay_56 : decode cX3_recordStay 56 = .ok (.invokevirtual 47, 3) := by decide +kernel
theorem dX3_recordStay_59 : decode cX3_recordStay 59 = .ok (.iconst 1, 1) := by decide +kernel
theorem dX3_recordStay_60 : decode cX3_recordStay 60 = .ok (.isub, 1) := by decide +kernel
theorem dX3_recordStay_61 : decode cX3_recordStay 61 = .ok (.invokevirtual 51, 3) := by decide +kernel
theorem dX3_recordStay_64 : decode cX3_recordStay 64 = .ok (.checkcast 105, 3) := by decide +kernel
theorem dX3_recordStay_67 : decode cX3_recordStay 67 = .ok (.aload_n 1, 1) := by decide +kernel
theorem dX3_recordStay_68 : decode cX3_recordStay 68 = .ok (.getfield 57, 3) := by decide +kernel
theorem dX3_recordStay_71 : decode cX3_recordStay 71 = .ok (.putfield 116, 3) := by decide +kernel
theorem dX3_recordStay_74 : decode cX3_recordStay 74 = .ok (.return_, 1) := by decide +kernel
theorem dX4_init_0 : decode cX4_init 0 = .ok (.aload_n 0, 1) := by decide +kernel
theorem dX4_init_1 : decode cX4_init 1 = .ok (.invokespecial 3, 3) := by decide +kernel
theorem dX4_init_4 : decode cX4_init 4 = .ok (.aload_n 0, 1) := by decide +kernel
theorem dX4_init_5 : decode cX4_init 5 = .ok (.sipush 1000, 3) := by decide +kernel
theorem dX4_init_8 : decode cX4_init 8 = .ok (.putfield 9, 3) := by decide +kernel
theorem dX4_init_11 : decode cX4_init 11 = .ok (.aload_n 0, 1) := by decide +kernel
theorem dX4_init_12 : decode cX4_init 12 = .ok (.iconst (-1), 1) := by decide +kernel
theorem dX4_init_13 : decode cX4_init 13 = .ok (.putfield 15, 3) := by decide +kernel
theorem dX4_init_16 : decode cX4_init 16 = .ok (.aload_n 0, 1) := by decide +kernel
theorem dX4_init_17 : decode cX4_init 17 = .ok (.aload_n 1, 1) := by decide +kernel
theorem dX4_init_18 : decode cX4_init 18 = .ok (.putfield 18, 3) := by decide +kernel
theorem dX4_init_21 : decode cX4_init 21 = .ok (.aload_n 0, 1) := by decide +kernel
theorem dX4_init_22 : decode cX4_init 22 = .ok (.iload_n 2, 1) := by decide +kernel
theorem dX4_init_23 : decode cX4_init 23 = .ok (.putfield 22, 3) := by decide +kernel
theorem dX4_init_26 : decode cX4_init 26 = .ok (.return_, 1) := by decide +kernel
theorem dX5_init_0 : decode cX5_init 0 = .ok (.aload_n 0, 1) := by decide +kernel
theorem dX5_init_1 : decode cX5_init 1 = .ok (.invokespecial 1, 3) := by decide +kernel
theorem dX5_init_4 : decode cX5_init 4 = .ok (.aload_n 0, 1) := by decide +kernel
theorem dX5_init_5 : decode cX5_init 5 = .ok (.new 7, 3) := by decide +kernel
theorem dX5_init_8 : decode cX5_init 8 = .ok (.dup, 1) := by decide +kernel
theorem dX5_init_9 : decode cX5_init 9 = .ok (.invokespecial 9, 3) := by decide +kernel
theorem dX5_init_12 : decode cX5_init 12 = .ok (.putfield 10, 3) := by decide +kernel
theorem dX5_init_15 : decode cX5_init 15 = .ok (.aload_n 0, 1) := by decide +kernel
theorem dX5_init_16 : decode cX5_init 16 = .ok (.new 7, 3) := by decide +kernel
theorem dX5_init_19 : decode cX5_init 19 = .ok (.dup, 1) := by decide +kernel
theorem dX5_init_20 : decode cX5_init 20 = .ok (.invokespecial 9, 3) := by decide +kernel
theorem dX5_init_23 : decode cX5_init 23 = .ok (.putfield 16, 3) := by decide +kernel
theorem dX5_init_26 : decode cX5_init 26 = .ok (.aload_n 0, 1) := by decide +kernel
theorem dX5_init_27 : decode cX5_init 27 = .ok (.new 7, 3) := by decide +kernel
theorem dX5_init_30 : decode cX5_init 30 = .ok (.dup, 1) := by decide +kernel
theorem dX5_init_31 : decode cX5_init 31 = .ok (.invokespecial 9, 3) := by decide +kernel
theorem dX5_init_34 : decode cX5_init 34 = .ok (.putfield 19, 3) := by decide +kernel
theorem dX5_init_37 : decode cX5_init 37 = .ok (.aload_n 0, 1) := by decide +kernel
theorem dX5_init_38 : decode cX5_init 38 = .ok (.new 7, 3) := by decide +kernel
theorem dX5_init_41 : decode cX5_init 41 = .ok (.dup, 1) := by decide +kernel
theorem dX5_init_42 : decode cX5_init 42 = .ok (.invokespecial 9, 3) := by decide +kernel
theorem dX5_init_45 : decode cX5_init 45 = .ok (.putfield 22, 3) := by decide +kernel
theorem dX5_init_48 : decode cX5_init 48 = .ok (.aload_n 0, 1) := by decide +kernel
theorem dX5_init_49 : decode cX5_init 49 = .ok (.iconst 0, 1) := by decide +kernel
theorem dX5_init_50 : decode cX5_init 50 = .ok (.putfield 25, 3) := by decide +kernel
theorem dX5_init_53 : decode cX5_init 53 = .ok (.aload_n 0, 1) := by decide +kernel
theorem dX5_init_54 : decode cX5_init 54 = .ok (.iconst 0, 1) := by decide +kernel
theorem dX5_init_55 : decode cX5_init 55 = .ok (.putfield 29, 3) := by decide +kernel
theorem dX5_init_58 : decode cX5_init 58 = .ok (.aload_n 0, 1) := by decide +kernel
theorem dX5_init_59 : decode cX5_init 59 = .ok (.iconst 0, 1) := by decide +kernel
theorem dX5_init_60 : decode cX5_init 60 = .ok (.putfield 33, 3) := by decide +kernel
theorem dX5_init_63 : decode cX5_init 63 = .ok (.aload_n 0, 1) := by decide +kernel
theorem dX5_init_64 : decode cX5_init 64 = .ok (.iconst 0, 1) := by decide +kernel
theorem dX5_init_65 : decode cX5_init 65 = .ok (.putfield 36, 3) := by decide +kernel
theorem dX5_init_68 : decode cX5_init 68 = .ok (.return_, 1) := by decide +kernel
theorem dX5_addPuppet_0 : decode cX5_addPuppet 0 = .ok (.iload_n 1, 1) := by decide +kernel
theorem dX5_addPuppet_1 : decode cX5_addPuppet 1 = .ok (.iconst 1, 1) := by decide +kernel
theorem dX5_addPuppet_2 : decode cX5_addPuppet 2 = .ok (.if_icmp .lt 9, 3) := by decide +kernel
theorem dX5_addPuppet_5 : decode cX5_addPuppet 5 = .ok (.iload_n 1, 1) := by decide +kernel
theorem dX5_addPuppet_6 : decode cX5_addPuppet 6 = .ok (.bipush 9, 2) := by decide +kernel
theorem dX5_addPuppet_8 : decode cX5_addPuppet 8 = .ok (.if_icmp .le 13, 3) := by decide +kernel
theorem dX5_addPuppet_11 : decode cX5_addPuppet 11 = .ok (.new 39, 3) := by decide +kernel
theorem dX5_addPuppet_14 : decode cX5_addPuppet 14 = .ok (.dup, 1) := by decide +kernel
theorem dX5_addPuppet_15 : decode cX5_addPuppet 15 = .ok (.ldc 41, 2) := by decide +kernel
theorem dX5_addPuppet_17 : decode cX5_addPuppet 17 = .ok (.invokespecial 43, 3) := by decide +kernel
theorem dX5_addPuppet_20 : decode cX5_addPuppet 20 = .ok (.athrow, 1) := by decide +kernel
theorem dX5_addPuppet_21 : decode cX5_addPuppet 21 = .ok (.iload_n 2, 1) := by decide +kernel
theorem dX5_addPuppet_22 : decode cX5_addPuppet 22 = .ok (.iconst 1, 1) := by decide +kernel
theorem dX5_addPuppet_23 : decode cX5_addPuppet 23 = .ok (.if_icmp .lt 8, 3) := by decide +kernel
theorem dX5_addPuppet_26 : decode cX5_addPuppet 26 = .ok (.iload_n 2, 1) := by decide +kernel
theorem dX5_addPuppet_27 : decode cX5_addPuppet 27 = .ok (.iconst 2, 1) := by decide +kernel
theorem dX5_addPuppet_28 : decode cX5_addPuppet 28 = .ok (.if_icmp .le 13, 3) := by decide +kernel
theorem dX5_addPuppet_31 : decode cX5_addPuppet 31 = .ok (.new 39, 3) := by decide +kernel
theorem dX5_addPuppet_34 : decode cX5_addPuppet 34 = .ok (.dup, 1) := by decide +kernel
theorem dX5_addPuppet_35 : decode cX5_addPuppet 35 = .ok (.ldc 46, 2) := by decide +kernel
theorem dX5_addPuppet_37 : decode cX5_addPuppet 37 = .ok (.invokespecial 43, 3) := by decide +kernel
theorem dX5_addPuppet_40 : decode cX5_addPuppet 40 = .ok (.athrow, 1) := by decide +kernel
theorem dX5_addPuppet_41 : decode cX5_addPuppet 41 = .ok (.aload_n 0, 1) := by decide +kernel
theorem dX5_addPuppet_42 : decode cX5_addPuppet 42 = .ok (.getfield 10, 3) := by decide +kernel
theorem dX5_addPuppet_45 : decode cX5_addPuppet 45 = .ok (.invokevirtual 48, 3) := by decide +kernel
theorem dX5_addPuppet_48 : decode cX5_addPuppet 48 = .ok (.bipush 8, 2) := by decide +kernel
theorem dX5_addPuppet_50 : decode cX5_addPuppet 50 = .ok (.if_icmp .lt 13, 3) := by decide +kernel
theorem dX5_addPuppet_53 : decode cX5_addPuppet 53 = .ok (.new 52, 3) := by decide +kernel
theorem dX5_addPuppet_56 : decode cX5_addPuppet 56 = .ok (.dup, 1) := by decide +kernel
theorem dX5_addPuppet_57 : decode cX5_addPuppet 57 = .ok (.ldc 54, 2) := by decide +kernel
theorem dX5_addPuppet_59 : decode cX5_addPuppet 59 = .ok (.invokespecial 56, 3) := by decide +kernel
theorem dX5_addPuppet_62 : decode cX5_addPuppet 62 = .ok (.athrow, 1) := by decide +kernel
theorem dX5_addPuppet_63 : decode cX5_addPuppet 63 = .ok (.aload_n 0, 1) := by decide +kernel
theorem dX5_addPuppet_64 : decode cX5_addPuppet 64 = .ok (.getfield 10, 3) := by decide +kernel
theorem dX5_addPuppet_67 : decode cX5_addPuppet 67 = .ok (.invokevirtual 48, 3) := by decide +kernel
theorem dX5_addPuppet_70 : decode cX5_addPuppet 70 = .ok (.istore_n 3, 1) := by decide +kernel
theorem dX5_addPuppet_71 : decode cX5_addPuppet 71 = .ok (.aload_n 0, 1) := by decide +kernel
theorem dX5_addPuppet_72 : decode cX5_addPuppet 72 = .ok (.getfield 10, 3) := by decide +kernel
theorem dX5_addPuppet_75 : decode cX5_addPuppet 75 = .ok (.new 57, 3) := by decide +kernel
theorem dX5_addPuppet_78 : decode cX5_addPuppet 78 = .ok (.dup, 1) := by decide +kernel
theorem dX5_addPuppet_79 : decode cX5_addPuppet 79 = .ok (.iload_n 3, 1) := by decide +kernel
theorem dX5_addPuppet_80 : decode cX5_addPuppet 80 = .ok (.iload_n 1, 1) := by decide +kernel
theorem dX5_addPuppet_81 : decode cX5_addPuppet 81 = .ok (.iload_n 2, 1) := by decide +kernel
theorem dX5_addPuppet_82 : decode cX5_addPuppet 82 = .ok (.invokespecial 59, 3) := by decide +kernel
theorem dX5_addPuppet_85 : decode cX5_addPuppet 85 = .ok (.invokevirtual 62, 3) := by decide +kernel
theorem dX5_addPuppet_88 : decode cX5_addPuppet 88 = .ok (.pop, 1) := by decide +kernel
theorem dX5_addPuppet_89 : decode cX5_addPuppet 89 = .ok (.iload_n 3, 1) := by decide +kernel
theorem dX5_addPuppet_90 : decode cX5_addPuppet 90 = .ok (.ireturn, 1) := by decide +kernel
theorem dX5_addPlayer_0 : decode cX5_addPlayer 0 = .ok (.iload_n 1, 1) := by decide +kernel
theorem dX5_addPlayer_1 : decode cX5_addPlayer 1 = .ok (.iconst 1, 1) := by decide +kernel
theorem dX5_addPlayer_2 : decode cX5_addPlayer 2 = .ok (.if_icmp .lt 9, 3) := by decide +kernel
theorem dX5_addPlayer_5 : decode cX5_addPlayer 5 = .ok (.iload_n 1, 1) := by decide +kernel
theorem dX5_addPlayer_6 : decode cX5_addPlayer 6 = .ok (.bipush 20, 2) := by decide +kernel
theorem dX5_addPlayer_8 : decode cX5_addPlayer 8 = .ok (.if_icmp .le 13, 3) := by decide +kernel
theorem dX5_addPlayer_11 : decode cX5_addPlayer 11 = .ok (.new 39, 3) := by decide +kernel
theorem dX5_addPlayer_14 : decode cX5_addPlayer 14 = .ok (.dup, 1) := by decide +kernel
theorem dX5_addPlayer_15 : decode cX5_addPlayer 15 = .ok (.ldc 66, 2) := by decide +kernel
theorem dX5_addPlayer_17 : decode cX5_addPlayer 17 = .ok (.invokespecial 43, 3) := by decide +kernel
theorem dX5_addPlayer_20 : decode cX5_addPlayer 20 = .ok (.athrow, 1) := by decide +kernel
theorem dX5_addPlayer_21 : decode cX5_addPlayer 21 = .ok (.iload_n 2, 1) := by decide +kernel
theorem dX5_addPlayer_22 : decode cX5_addPlayer 22 = .ok (.invokestatic 68, 3) := by decide +kernel
theorem dX5_addPlayer_25 : decode cX5_addPlayer 25 = .ok (.aload_n 0, 1) := by decide +kernel
theorem dX5_addPlayer_26 : decode cX5_addPlayer 26 = .ok (.getfield 16, 3) := by decide +kernel
theorem dX5_addPlayer_29 : decode cX5_addPlayer 29 = .ok (.invokevirtual 48, 3) := by decide +kernel
theorem dX5_addPlayer_32 : decode cX5_addPlayer 32 = .ok (.iconst 5, 1) := by decide +kernel
theorem dX5_addPlayer_33 : decode cX5_addPlayer 33 = .ok (.if_icmp .lt 13, 3) := by decide +kernel
theorem dX5_addPlayer_36 : decode cX5_addPlayer 36 = .ok (.new 52, 3) := by decide +kernel
theorem dX5_addPlayer_39 : decode cX5_addPlayer 39 = .ok (.dup, 1) := by decide +kernel
theorem dX5_addPlayer_40 : decode cX5_addPlayer 40 = .ok (.ldc 72, 2) := by decide +kernel
theorem dX5_addPlayer_42 : decode cX5_addPlayer 42 = .ok (.invokespecial 56, 3) := by decide +kernel
theorem dX5_addPlayer_45 : decode cX5_addPlayer 45 = .ok (.athrow, 1) := by decide +kernel
theorem dX5_addPlayer_46 : decode cX5_addPlayer 46 = .ok (.aload_n 0, 1) := by decide +kernel
theorem dX5_addPlayer_47 : decode cX5_addPlayer 47 = .ok (.getfield 16, 3) := by decide +kernel
theorem dX5_addPlayer_50 : decode cX5_addPlayer 50 = .ok (.invokevirtual 48, 3) := by decide +kernel
theorem dX5_addPlayer_53 : decode cX5_addPlayer 53 = .ok (.istore_n 3, 1) := by decide +kernel
theorem dX5_addPlayer_54 : decode cX5_addPlayer 54 = .ok (.aload_n 0, 1) := by decide +kernel
theorem dX5_addPlayer_55 : decode cX5_addPlayer 55 = .ok (.getfield 16, 3) := by decide +kernel
theorem dX5_addPlayer_58 : decode cX5_addPlayer 58 = .ok (.new 74, 3) := by decide +kernel
theorem dX5_addPlayer_61 : decode cX5_addPlayer 61 = .ok (.dup, 1) := by decide +kernel
theorem dX5_addPlayer_62 : decode cX5_addPlayer 62 = .ok (.iload_n 1, 1) := by decide +kernel
theorem dX5_addPlayer_63 : decode cX5_addPlayer 63 = .ok (.iload_n 2, 1) := by decide +kernel
theorem dX5_addPlayer_64 : decode cX5_addPlayer 64 = .ok (.invokespecial 76, 3) := by decide +kernel
theorem dX5_addPlayer_67 : decode cX5_addPlayer 67 = .ok (.invokevirtual 62, 3) := by decide +kernel
theorem dX5_addPlayer_70 : decode cX5_addPlayer 70 = .ok (.pop, 1) := by decide +kernel
theorem dX5_addPlayer_71 : decode cX5_addPlayer 71 = .ok (.aload_n 0, 1) := by decide +kernel
theorem dX5_addPlayer_72 : decode cX5_addPlayer 72 = .ok (.iconst 0, 1) := by decide +kernel
theorem dX5_addPlayer_73 : decode cX5_addPlayer 73 = .ok (.putfield 29, 3) := by decide +kernel
theorem dX5_addPlayer_76 : decode cX5_addPlayer 76 = .ok (.iload_n 3, 1) := by decide +kernel
theorem dX5_addPlayer_77 : decode cX5_addPlayer 77 = .ok (.ireturn, 1) := by decide +kernel
theorem dX5_enter_0 : decode cX5_enter 0 = .ok (.aload_n 0, 1) := by decide +kernel
theorem dX5_enter_1 : decode cX5_enter 1 = .ok (.iload_n 1, 1) := by decide +kernel
theorem dX5_enter_2 : decode cX5_enter 2 = .ok (.invokevirtual 79, 3) := by decide +kernel
theorem dX5_enter_5 : decode cX5_enter 5 = .ok (.astore 5, 2) := by decide +kernel
theorem dX5_enter_7 : decode cX5_enter 7 = .ok (.iload_n 2, 1) := by decide +kernel
theorem dX5_enter_8 : decode cX5_enter 8 = .ok (.invokestatic 83, 3) := by decide +kernel
theorem dX5_enter_11 : decode cX5_enter 11 = .ok (.iload_n 3, 1) := by decide +kernel
theorem dX5_enter_12 : decode cX5_enter 12 = .ok (.invokestatic 68, 3) := by decide +kernel
theorem dX5_enter_15 : decode cX5_enter 15 = .ok (.iload 4, 2) := by decide +kernel
theorem dX5_enter_17 : decode cX5_enter 17 = .ok (.invokestatic 86, 3) := by decide +kernel
theorem dX5_enter_20 : decode cX5_enter 20 = .ok (.aload_n 0, 1) := by decide +kernel
theorem dX5_enter_21 : decode cX5_enter 21 = .ok (.new 89, 3) := by decide +kernel
theorem dX5_enter_24 : decode cX5_enter 24 = .ok (.dup, 1) := by decide +kernel
theorem dX5_enter_25 : decode cX5_enter 25 = .ok (.iconst 0, 1) := by decide +kernel
theorem dX5_enter_26 : decode cX5_enter 26 = .ok (.aload 5, 2) := by decide +kernel
theorem dX5_enter_28 : decode cX5_enter 28 = .ok (.iload_n 2, 1) := by decide +kernel
theorem dX5_enter_29 : decode cX5_enter 29 = .ok (.iload_n 3, 1) := by decide +kernel
theorem dX5_enter_30 : decode cX5_enter 30 = .ok (.iload 4, 2) := by decide +kernel
theorem dX5_enter_32 : decode cX5_enter 32 = .ok (.invokespecial 91, 3) := by decide +kernel
theorem dX5_enter_35 : decode cX5_enter 35 = .ok (.invokevirtual 94, 3) := by decide +kernel
theorem dX5_enter_38 : decode cX5_enter 38 = .ok (.ireturn, 1) := by decide +kernel
theorem dX5_move_0 : decode cX5_move 0 = .ok (.aload_n 0, 1) := by decide +kernel
theorem dX5_move_1 : decode cX5_move 1 = .ok (.iload_n 1, 1) := by decide +kernel
theorem dX5_move_2 : decode cX5_move 2 = .ok (.invokevirtual 79, 3) := by decide +kernel
theorem dX5_move_5 : decode cX5_move 5 = .ok (.astore 4, 2) := by decide +kernel
theorem dX5_move_7 : decode cX5_move 7 = .ok (.iload_n 2, 1) := by decide +kernel
theorem dX5_move_8 : decode cX5_move 8 = .ok (.invokestatic 83, 3) := by decide +kernel
theorem dX5_move_11 : decode cX5_move 11 = .ok (.iload_n 3, 1) := by decide +kernel
theorem dX5_move_12 : decode cX5_move 12 = .ok (.invokestatic 68, 3) := by decide +kernel
theorem dX5_move_15 : decode cX5_move 15 = .ok (.aload_n 0, 1) := by decide +kernel
theorem dX5_move_16 : decode cX5_move 16 = .ok (.new 89, 3) := by decide +kernel
theorem dX5_move_19 : decode cX5_move 19 = .ok (.dup, 1) := by decide +kernel
theorem dX5_move_20 : decode cX5_move 20 = .ok (.iconst 1, 1) := by decide +kernel
theorem dX5_move_21 : decode cX5_move 21 = .ok (.aload 4, 2) := by decide +kernel
theorem dX5_move_23 : decode cX5_move 23 = .ok (.iload_n 2, 1) := by decide +kernel
theorem dX5_move_24 : decode cX5_move 24 = .ok (.iload_n 3, 1) := by decide +kernel
theorem dX5_move_25 : decode cX5_move 25 = .ok (.iconst (-1), 1) := by decide +kernel
theorem dX5_move_26 : decode cX5_move 26 = .ok (.invokespecial 91, 3) := by decide +kernel
theorem dX5_move_29 : decode cX5_move 29 = .ok (.invokevirtual 94, 3) := by decide +kernel
theorem dX5_move_32 : decode cX5_move 32 = .ok (.ireturn, 1) := by decide +kernel
theorem dX5_shift_0 : decode cX5_shift 0 = .ok (.aload_n 0, 1) := by decide +kernel
theorem dX5_shift_1 : decode cX5_shift 1 = .ok (.iload_n 1, 1) := by decide +kernel
theorem dX5_shift_2 : decode cX5_shift 2 = .ok (.invokevirtual 79, 3) := by decide +kernel
theorem dX5_shift_5 : decode cX5_shift 5 = .ok (.astore 4, 2) := by decide +kernel
theorem dX5_shift_7 : decode cX5_shift 7 = .ok (.iload_n 2, 1) := by decide +kernel
theorem dX5_shift_8 : decode cX5_shift 8 = .ok (.invokestatic 83, 3) := by decide +kernel
theorem dX5_shift_11 : decode cX5_shift 11 = .ok (.iload_n 3, 1) := by decide +kernel
theorem dX5_shift_12 : decode cX5_shift 12 = .ok (.invokestatic 86, 3) := by decide +kernel
theorem dX5_shift_15 : decode cX5_shift 15 = .ok (.aload_n 0, 1) := by decide +kernel
theorem dX5_shift_16 : decode cX5_shift 16 = .ok (.new 89, 3) := by decide +kernel
theorem dX5_shift_19 : decode cX5_shift 19 = .ok (.dup, 1) := by decide +kernel
theorem dX5_shift_20 : decode cX5_shift 20 = .ok (.iconst 2, 1) := by decide +kernel
theorem dX5_shift_21 : decode cX5_shift 21 = .ok (.aload 4, 2) := by decide +kernel
theorem dX5_shift_23 : decode cX5_shift 23 = .ok (.iload_n 2, 1) := by decide +kernel
theorem dX5_shift_24 : decode cX5_shift 24 = .ok (.iconst (-1), 1) := by decide +kernel
theorem dX5_shift_25 : decode cX5_shift 25 = .ok (.iload_n 3, 1) := by decide +kernel
theorem dX5_shift_26 : decode cX5_shift 26 = .ok (.invokespecial 91, 3) := by decide +kernel
theorem dX5_shift_29 : decode cX5_shift 29 = .ok (.invokevirtual 94, 3) := by decide +kernel
theorem dX5_shift_32 : decode cX5_shift 32 = .ok (.ireturn, 1) := by decide +kernel
theorem dX5_leave_0 : decode cX5_leave 0 = .ok (.aload_n 0, 1) := by decide +kernel
theorem dX5_leave_1 : decode cX5_leave 1 = .ok (.iload_n 1, 1) := by decide +kernel
theorem dX5_leave_2 : decode cX5_leave 2 = .ok (.invokevirtual 79, 3) := by decide +kernel
theorem dX5_leave_5 : decode cX5_leave 5 = .ok (.astore_n 3, 1) := by decide +kernel
theorem dX5_leave_6 : decode cX5_leave 6 = .ok (.iload_n 2, 1) := by decide +kernel
theorem dX5_leave_7 : decode cX5_leave 7 = .ok (.invokestatic 83, 3) := by decide +kernel
theorem dX5_leave_10 : decode cX5_leave 10 = .ok (.aload_n 0, 1) := by decide +kernel
theorem dX5_leave_11 : decode cX5_leave 11 = .ok (.new 89, 3) := by decide +kernel
theorem dX5_leave_14 : decode cX5_leave 14 = .ok (.dup, 1) := by decide +kernel
theorem dX5_leave_15 : decode cX5_leave 15 = .ok (.iconst 3, 1) := by decide +kernel
theorem dX5_leave_16 : decode cX5_leave 16 = .ok (.aload_n 3, 1) := by decide +kernel
theorem dX5_leave_17 : decode cX5_leave 17 = .ok (.iload_n 2, 1) := by decide +kernel
theorem dX5_leave_18 : decode cX5_leave 18 = .ok (.iconst (-1), 1) := by decide +kernel
theorem dX5_leave_19 : decode cX5_leave 19 = .ok (.iconst (-1), 1) := by decide +kernel
theorem dX5_leave_20 : decode cX5_leave 20 = .ok (.invokespecial 91, 3) := by decide +kernel
theorem dX5_leave_23 : decode cX5_leave 23 = .ok (.invokevirtual 94, 3) := by decide +kernel
theorem dX5_leave_26 : decode cX5_leave 26 = .ok (.ireturn, 1) := by decide +kernel
theorem dX5_strike_0 : decode cX5_strike 0 = .ok (.aload_n 0, 1) := by decide +kernel
theorem dX5_strike_1 : decode cX5_strike 1 = .ok (.iload_n 1, 1) := by decide +kernel
theorem dX5_strike_2 : decode cX5_strike 2 = .ok (.invokevirtual 98, 3) := by decide +kernel
theorem dX5_strike_5 : decode cX5_strike 5 = .ok (.astore_n 2, 1) := by decide +kernel
theorem dX5_strike_6 : decode cX5_strike 6 = .ok (.aload_n 2, 1) := by decide +kernel
theorem dX5_strike_7 : decode cX5_strike 7 = .ok (.getfield 102, 3) := by decide +kernel
theorem dX5_strike_10 : decode cX5_strike 10 = .ok (.aload_n 2, 1) := by decide +kernel
theorem dX5_strike_11 : decode cX5_strike 11 = .ok (.invokevirtual 106, 3) := by decide +kernel
theorem dX5_strike_14 : decode cX5_strike 14 = .ok (.ifCond .ne 13, 3) := by decide +kernel
theorem dX5_strike_17 : decode cX5_strike 17 = .ok (.new 52, 3) := by decide +kernel
theorem dX5_strike_20 : decode cX5_strike 20 = .ok (.dup, 1) := by decide +kernel
theorem dX5_strike_21 : decode cX5_strike 21 = .ok (.ldc 110, 2) := by decide +kernel
theorem dX5_strike_23 : decode cX5_strike 23 = .ok (.invokespecial 56, 3) := by decide +kernel
theorem dX5_strike_26 : decode cX5_strike 26 = .ok (.athrow, 1) := by decide +kernel
theorem dX5_strike_27 : decode cX5_strike 27 = .ok (.aload_n 2, 1) := by decide +kernel
theorem dX5_strike_28 : decode cX5_strike 28 = .ok (.iconst 1, 1) := by decide +kernel
theorem dX5_strike_29 : decode cX5_strike 29 = .ok (.putfield 112, 3) := by decide +kernel
theorem dX5_strike_32 : decode cX5_strike 32 = .ok (.aload_n 0, 1) := by decide +kernel
theorem dX5_strike_33 : decode cX5_strike 33 = .ok (.dup, 1) := by decide +kernel
theorem dX5_strike_34 : decode cX5_strike 34 = .ok (.getfield 25, 3) := by decide +kernel
theorem dX5_strike_37 : decode cX5_strike 37 = .ok (.iconst 1, 1) := by decide +kernel
theorem dX5_strike_38 : decode cX5_strike 38 = .ok (.iadd, 1) := by decide +kernel
theorem dX5_strike_39 : decode cX5_strike 39 = .ok (.putfield 25, 3) := by decide +kernel
theorem dX5_strike_42 : decode cX5_strike 42 = .ok (.aload_n 0, 1) := by decide +kernel
theorem dX5_strike_43 : decode cX5_strike 43 = .ok (.invokevirtual 115, 3) := by decide +kernel
theorem dX5_strike_46 : decode cX5_strike 46 = .ok (.aload_n 2, 1) := by decide +kernel
theorem dX5_strike_47 : decode cX5_strike 47 = .ok (.getfield 102, 3) := by decide +kernel
theorem dX5_strike_50 : decode cX5_strike 50 = .ok (.getfield 118, 3) := by decide +kernel
theorem dX5_strike_53 : decode cX5_strike 53 = .ok (.invokevirtual 48, 3) := by decide +kernel
theorem dX5_strike_56 : decode cX5_strike 56 = .ok (.ireturn, 1) := by decide +kernel
theorem dX5_count_0 : decode cX5_count 0 = .ok (.iload_n 1, 1) := by decide +kernel
theorem dX5_count_1 : decode cX5_count 1 = .ok (.tableswitch 60 0 3 #[31, 39, 47, 55], 31) := by decide +kernel
theorem dX5_count_32 : decode cX5_count 32 = .ok (.aload_n 0, 1) := by decide +kernel
theorem dX5_count_33 : decode cX5_count 33 = .ok (.getfield 10, 3) := by decide +kernel
theorem dX5_count_36 : decode cX5_count 36 = .ok (.invokevirtual 48, 3) := by decide +kernel
theorem dX5_count_39 : decode cX5_count 39 = .ok (.ireturn, 1) := by decide +kernel
theorem dX5_count_40 : decode cX5_count 40 = .ok (.aload_n 0, 1) := by decide +kernel
theorem dX5_count_41 : decode cX5_count 41 = .ok (.getfield 16, 3) := by decide +kernel
theorem dX5_count_44 : decode cX5_count 44 = .ok (.invokevirtual 48, 3) := by decide +kernel
theorem dX5_count_47 : decode cX5_count 47 = .ok (.ireturn, 1) := by decide +kernel
theorem dX5_count_48 : decode cX5_count 48 = .ok (.aload_n 0, 1) := by decide +kernel
theorem dX5_count_49 : decode cX5_count 49 = .ok (.getfield 19, 3) := by decide +kernel
theorem dX5_count_52 : decode cX5_count 52 = .ok (.invokevirtual 48, 3) := by decide +kernel
theorem dX5_count_55 : decode cX5_count 55 = .ok (.ireturn, 1) := by decide +kernel
theorem dX5_count_56 : decode cX5_count 56 = .ok (.aload_n 0, 1) := by decide +kernel
theorem dX5_count_57 : decode cX5_count 57 = .ok (.getfield 25, 3) := by decide +kernel
theorem dX5_count_60 : decode cX5_count 60 = .ok (.ireturn, 1) := by decide +kernel
theorem dX5_count_61 : decode cX5_count 61 = .ok (.new 121, 3) := by decide +kernel
theorem dX5_count_64 : decode cX5_count 64 = .ok (.dup, 1) := by decide +kernel
theorem dX5_count_65 : decode cX5_count 65 = .ok (.ldc 123, 2) := by decide +kernel
theorem dX5_count_67 : decode cX5_count 67 = .ok (.invokespecial 125, 3) := by decide +kernel
theorem dX5_count_70 : decode cX5_count 70 = .ok (.athrow, 1) := by decide +kernel
theorem dX5_cue_0 : decode cX5_cue 0 = .ok (.aload_n 0, 1) := by decide +kernel
theorem dX5_cue_1 : decode cX5_cue 1 = .ok (.iload_n 1, 1) := by decide +kernel
theorem dX5_cue_2 : decode cX5_cue 2 = .ok (.invokevirtual 98, 3) := by decide +kernel
theorem dX5_cue_5 : decode cX5_cue 5 = .ok (.iload_n 2, 1) := by decide +kernel
theorem dX5_cue_6 : decode cX5_cue 6 = .ok (.invokestatic 126, 3) := by decide +kernel
theorem dX5_cue_9 : decode cX5_cue 9 = .ok (.ireturn, 1) := by decide +kernel
theorem dX5_place_0 : decode cX5_place 0 = .ok (.aload_n 0, 1) := by decide +kernel
theorem dX5_place_1 : decode cX5_place 1 = .ok (.iload_n 1, 1) := by decide +kernel
theorem dX5_place_2 : decode cX5_place 2 = .ok (.invokevirtual 79, 3) := by decide +kernel
theorem dX5_place_5 : decode cX5_place 5 = .ok (.astore_n 3, 1) := by decide +kernel
theorem dX5_place_6 : decode cX5_place 6 = .ok (.iload_n 2, 1) := by decide +kernel
theorem dX5_place_7 : decode cX5_place 7 = .ok (.invokestatic 83, 3) := by decide +kernel
theorem dX5_place_10 : decode cX5_place 10 = .ok (.aload_n 3, 1) := by decide +kernel
theorem dX5_place_11 : decode cX5_place 11 = .ok (.getfield 130, 3) := by decide +kernel
theorem dX5_place_14 : decode cX5_place 14 = .ok (.iload_n 2, 1) := by decide +kernel
theorem dX5_place_15 : decode cX5_place 15 = .ok (.iaload, 1) := by decide +kernel
theorem dX5_place_16 : decode cX5_place 16 = .ok (.ireturn, 1) := by decide +kernel
theorem dX5_track_0 : decode cX5_track 0 = .ok (.aload_n 0, 1) := by decide +kernel
theorem dX5_track_1 : decode cX5_track 1 = .ok (.iload_n 1, 1) := by decide +kernel
theorem dX5_track_2 : decode cX5_track 2 = .ok (.invokevirtual 79, 3) := by decide +kernel
theorem dX5_track_5 : decode cX5_track 5 = .ok (.astore_n 3, 1) := by decide +kernel
theorem dX5_track_6 : decode cX5_track 6 = .ok (.iload_n 2, 1) := by decide +kernel
theorem dX5_track_7 : decode cX5_track 7 = .ok (.invokestatic 83, 3) := by decide +kernel
theorem dX5_track_10 : decode cX5_track 10 = .ok (.aload_n 3, 1) := by decide +kernel
theorem dX5_track_11 : decode cX5_track 11 = .ok (.getfield 134, 3) := by decide +kernel
theorem dX5_track_14 : decode cX5_track 14 = .ok (.iload_n 2, 1) := by decide +kernel
theorem dX5_track_15 : decode cX5_track 15 = .ok (.iaload, 1) := by decide +kernel
theorem dX5_track_16 : decode cX5_track 16 = .ok (.ireturn, 1) := by decide +kernel
theorem dX5_onStage_0 : decode cX5_onStage 0 = .ok (.iload_n 1, 1) := by decide +kernel
theorem dX5_onStage_1 : decode cX5_onStage 1 = .ok (.invokestatic 83, 3) := by decide +kernel
theorem dX5_onStage_4 : decode cX5_onStage 4 = .ok (.iconst 0, 1) := by decide +kernel
theorem dX5_onStage_5 : decode cX5_onStage 5 = .ok (.istore_n 2, 1) := by decide +kernel
theorem dX5_onStage_6 : decode cX5_onStage 6 = .ok (.iconst 0, 1) := by decide +kernel
theorem dX5_onStage_7 : decode cX5_onStage 7 = .ok (.istore_n 3, 1) := by decide +kernel
theorem dX5_onStage_8 : decode cX5_onStage 8 = .ok (.iload_n 3, 1) := by decide +kernel
theorem dX5_onStage_9 : decode cX5_onStage 9 = .ok (.aload_n 0, 1) := by decide +kernel
theorem dX5_onStage_10 : decode cX5_onStage 10 = .ok (.getfield 10, 3) := by decide +kernel
theorem dX5_onStage_13 : decode cX5_onStage 13 = .ok (.invokevirtual 48, 3) := by decide +kernel
theorem dX5_onStage_16 : decode cX5_onStage 16 = .ok (.if_icmp .ge 41, 3) := by decide +kernel
theorem dX5_onStage_19 : decode cX5_onStage 19 = .ok (.aload_n 0, 1) := by decide +kernel
theorem dX5_onStage_20 : decode cX5_onStage 20 = .ok (.getfield 10, 3) := by decide +kernel
theorem dX5_onStage_23 : decode cX5_onStage 23 = .ok (.iload_n 3, 1) := by decide +kernel
theorem dX5_onStage_24 : decode cX5_onStage 24 = .ok (.invokevirtual 137, 3) := by decide +kernel
theorem dX5_onStage_27 : decode cX5_onStage 27 = .ok (.checkcast 57, 3) := by decide +kernel
theorem dX5_onStage_30 : decode cX5_onStage 30 = .ok (.astore 4, 2) := by decide +kernel
theorem dX5_onStage_32 : decode cX5_onStage 32 = .ok (.aload 4, 2) := by decide +kernel
theorem dX5_onStage_34 : decode cX5_onStage 34 = .ok (.getfield 130, 3) := by decide +kernel
theorem dX5_onStage_37 : decode cX5_onStage 37 = .ok (.iload_n 1, 1) := by decide +kernel
theorem dX5_onStage_38 : decode cX5_onStage 38 = .ok (.iaload, 1) := by decide +kernel
theorem dX5_onStage_39 : decode cX5_onStage 39 = .ok (.iconst (-1), 1) := by decide +kernel
theorem dX5_onStage_40 : decode cX5_onStage 40 = .ok (.if_icmp .eq 11, 3) := by decide +kernel
theorem dX5_onStage_43 : decode cX5_onStage 43 = .ok (.iload_n 2, 1) := by decide +kernel
theorem dX5_onStage_44 : decode cX5_onStage 44 = .ok (.aload 4, 2) := by decide +kernel
theorem dX5_onStage_46 : decode cX5_onStage 46 = .ok (.getfield 141, 3) := by decide +kernel
theorem dX5_onStage_49 : decode cX5_onStage 49 = .ok (.ior, 1) := by decide +kernel
theorem dX5_onStage_50 : decode cX5_onStage 50 = .ok (.istore_n 2, 1) := by decide +kernel
theorem dX5_onStage_51 : decode cX5_onStage 51 = .ok (.iinc 3 1, 3) := by decide +kernel
theorem dX5_onStage_54 : decode cX5_onStage 54 = .ok (.goto (-46), 3) := by decide +kernel
theorem dX5_onStage_57 : decode cX5_onStage 57 = .ok (.iload_n 2, 1) := by decide +kernel
theorem dX5_onStage_58 : decode cX5_onStage 58 = .ok (.ireturn, 1) := by decide +kernel
theorem dX5_clash_0 : decode cX5_clash 0 = .ok (.aload_n 0, 1) := by decide +kernel
theorem dX5_clash_1 : decode cX5_clash 1 = .ok (.iload_n 1, 1) := by decide +kernel
theorem dX5_clash_2 : decode cX5_clash 2 = .ok (.invokevirtual 79, 3) := by decide +kernel
theorem dX5_clash_5 : decode cX5_clash 5 = .ok (.astore_n 3, 1) := by decide +kernel
theorem dX5_clash_6 : decode cX5_clash 6 = .ok (.aload_n 0, 1) := by decide +kernel
theorem dX5_clash_7 : decode cX5_clash 7 = .ok (.iload_n 2, 1) := by decide +kernel
theorem dX5_clash_8 : decode cX5_clash 8 = .ok (.invokevirtual 79, 3) := by decide +kernel
theorem dX5_clash_11 : decode cX5_clash 11 = .ok (.astore 4, 2) := by decide +kernel
theorem dX5_clash_13 : decode cX5_clash 13 = .ok (.iload_n 1, 1) := by decide +kernel
theorem dX5_clash_14 : decode cX5_clash 14 = .ok (.iload_n 2, 1) := by decide +kernel
theorem dX5_clash_15 : decode cX5_clash 15 = .ok (.if_icmp .ne 13, 3) := by decide +kernel
theorem dX5_clash_18 : decode cX5_clash 18 = .ok (.new 39, 3) := by decide +kernel
theorem dX5_clash_21 : decode cX5_clash 21 = .ok (.dup, 1) := by decide +kernel
theorem dX5_clash_22 : decode cX5_clash 22 = .ok (.ldc 144, 2) := by decide +kernel
theorem dX5_clash_24 : decode cX5_clash 24 = .ok (.invokespecial 43, 3) := by decide +kernel
theorem dX5_clash_27 : decode cX5_clash 27 = .ok (.athrow, 1) := by decide +kernel
theorem dX5_clash_28 : decode cX5_clash 28 = .ok (.aload_n 3, 1) := by decide +kernel
theorem dX5_clash_29 : decode cX5_clash 29 = .ok (.aload 4, 2) := by decide +kernel
theorem dX5_clash_31 : decode cX5_clash 31 = .ok (.invokestatic 146, 3) := by decide +kernel
theorem dX5_clash_34 : decode cX5_clash 34 = .ok (.ireturn, 1) := by decide +kernel
theorem dX5_clashes_0 : decode cX5_clashes 0 = .ok (.aload_n 0, 1) := by decide +kernel
theorem dX5_clashes_1 : decode cX5_clashes 1 = .ok (.getfield 33, 3) := by decide +kernel
theorem dX5_clashes_4 : decode cX5_clashes 4 = .ok (.ifCond .ne 16, 3) := by decide +kernel
theorem dX5_clashes_7 : decode cX5_clashes 7 = .ok (.aload_n 0, 1) := by decide +kernel
theorem dX5_clashes_8 : decode cX5_clashes 8 = .ok (.aload_n 0, 1) := by decide +kernel
theorem dX5_clashes_9 : decode cX5_clashes 9 = .ok (.invokevirtual 150, 3) := by decide +kernel
theorem dX5_clashes_12 : decode cX5_clashes 12 = .ok (.putfield 36, 3) := by decide +kernel
theorem dX5_clashes_15 : decode cX5_clashes 15 = .ok (.aload_n 0, 1) := by decide +kernel
theorem dX5_clashes_16 : decode cX5_clashes 16 = .ok (.iconst 1, 1) := by decide +kernel
theorem dX5_clashes_17 : decode cX5_clashes 17 = .ok (.putfield 33, 3) := by decide +kernel
theorem dX5_clashes_20 : decode cX5_clashes 20 = .ok (.aload_n 0, 1) := by decide +kernel
theorem dX5_clashes_21 : decode cX5_clashes 21 = .ok (.getfield 36, 3) := by decide +kernel
theorem dX5_clashes_24 : decode cX5_clashes 24 = .ok (.ireturn, 1) := by decide +kernel
theorem dX5_beats_0 : decode cX5_beats 0 = .ok (.aload_n 0, 1) := by decide +kernel
theorem dX5_beats_1 : decode cX5_beats 1 = .ok (.iload_n 1, 1) := by decide +kernel
theorem dX5_beats_2 : decode cX5_beats 2 = .ok (.invokevirtual 79, 3) := by decide +kernel
theorem dX5_beats_5 : decode cX5_beats 5 = .ok (.getfield 153, 3) := by decide +kernel
theorem dX5_beats_8 : decode cX5_beats 8 = .ok (.astore_n 2, 1) := by decide +kernel
theorem dX5_beats_9 : decode cX5_beats 9 = .ok (.iconst 0, 1) := by decide +kernel
theorem dX5_beats_10 : decode cX5_beats 10 = .ok (.istore_n 3, 1) := by decide +kernel
theorem dX5_beats_11 : decode cX5_beats 11 = .ok (.iconst 0, 1) := by decide +kernel
theorem dX5_beats_12 : decode cX5_beats 12 = .ok (.istore 4, 2) := by decide +kernel
theorem dX5_beats_14 : decode cX5_beats 14 = .ok (.iload 4, 2) := by decide +kernel
theorem dX5_beats_16 : decode cX5_beats 16 = .ok (.aload_n 2, 1) := by decide +kernel
theorem dX5_beats_17 : decode cX5_beats 17 = .ok (.invokevirtual 48, 3) := by decide +kernel
theorem dX5_beats_20 : decode cX5_beats 20 = .ok (.if_icmp .ge 34, 3) := by decide +kernel
theorem dX5_beats_23 : decode cX5_beats 23 = .ok (.aload_n 2, 1) := by decide +kernel
theorem dX5_beats_24 : decode cX5_beats 24 = .ok (.iload 4, 2) := by decide +kernel
theorem dX5_beats_26 : decode cX5_beats 26 = .ok (.invokevirtual 137, 3) := by decide +kernel
theorem dX5_beats_29 : decode cX5_beats 29 = .ok (.checkcast 156, 3) := by decide +kernel
theorem dX5_beats_32 : decode cX5_beats 32 = .ok (.astore 5, 2) := by decide +kernel
theorem dX5_beats_34 : decode cX5_beats 34 = .ok (.iload_n 3, 1) := by decide +kernel
theorem dX5_beats_35 : decode cX5_beats 35 = .ok (.aload 5, 2) := by decide +kernel
theorem dX5_beats_37 : decode cX5_beats 37 = .ok (.getfield 158, 3) := by decide +kernel
theorem dX5_beats_40 : decode cX5_beats 40 = .ok (.aload 5, 2) := by decide +kernel
theorem dX5_beats_42 : decode cX5_beats 42 = .ok (.getfield 161, 3) := by decide +kernel
theorem dX5_beats_45 : decode cX5_beats 45 = .ok (.isub, 1) := by decide +kernel
theorem dX5_beats_46 : decode cX5_beats 46 = .ok (.iadd, 1) := by decide +kernel
theorem dX5_beats_47 : decode cX5_beats 47 = .ok (.istore_n 3, 1) := by decide +kernel
theorem dX5_beats_48 : decode cX5_beats 48 = .ok (.iinc 4 1, 3) := by decide +kernel
theorem dX5_beats_51 : decode cX5_beats 51 = .ok (.goto (-37), 3) := by decide +kernel
theorem dX5_beats_54 : decode cX5_beats 54 = .ok (.iload_n 3, 1) := by decide +kernel
theorem dX5_beats_55 : decode cX5_beats 55 = .ok (.ireturn, 1) := by decide +kernel
theorem dX5_stays_0 : decode cX5_stays 0 = .ok (.aload_n 0, 1) := by decide +kernel
theorem dX5_stays_1 : decode cX5_stays 1 = .ok (.iload_n 1, 1) := by decide +kernel
theorem dX5_stays_2 : decode cX5_stays 2 = .ok (.invokevirtual 79, 3) := by decide +kernel
theorem dX5_stays_5 : decode cX5_stays 5 = .ok (.getfield 153, 3) := by decide +kernel
theorem dX5_stays_8 : decode cX5_stays 8 = .ok (.invokevirtual 48, 3) := by decide +kernel
theorem dX5_stays_11 : decode cX5_stays 11 = .ok (.ireturn, 1) := by decide +kernel
theorem dX5_stay_0 : decode cX5_stay 0 = .ok (.aload_n 0, 1) := by decide +kernel
theorem dX5_stay_1 : decode cX5_stay 1 = .ok (.iload_n 1, 1) := by decide +kernel
theorem dX5_stay_2 : decode cX5_stay 2 = .ok (.invokevirtual 79, 3) := by decide +kernel
theorem dX5_stay_5 : decode cX5_stay 5 = .ok (.getfield 153, 3) := by decide +kernel
theorem dX5_stay_8 : decode cX5_stay 8 = .ok (.astore 4, 2) := by decide +kernel
theorem dX5_stay_10 : decode cX5_stay 10 = .ok (.iload_n 2, 1) := by decide +kernel
theorem dX5_stay_11 : decode cX5_stay 11 = .ok (.ifCond .lt 12, 3) := by decide +kernel
theorem dX5_stay_14 : decode cX5_stay 14 = .ok (.iload_n 2, 1) := by decide +kernel
theorem dX5_stay_15 : decode cX5_stay 15 = .ok (.aload 4, 2) := by decide +kernel
theorem dX5_stay_17 : decode cX5_stay 17 = .ok (.invokevirtual 48, 3) := by decide +kernel
theorem dX5_stay_20 : decode cX5_stay 20 = .ok (.if_icmp .lt 13, 3) := by decide +kernel
theorem dX5_stay_23 : decode cX5_stay 23 = .ok (.new 121, 3) := by decide +kernel
theorem dX5_stay_26 : decode cX5_stay 26 = .ok (.dup, 1) := by decide +kernel
theorem dX5_stay_27 : decode cX5_stay 27 = .ok (.ldc 164, 2) := by decide +kernel
theorem dX5_stay_29 : decode cX5_stay 29 = .ok (.invokespecial 125, 3) := by decide +kernel
theorem dX5_stay_32 : decode cX5_stay 32 = .ok (.athrow, 1) := by decide +kernel
theorem dX5_stay_33 : decode cX5_stay 33 = .ok (.aload_n 0, 1) := by decide +kernel
theorem dX5_stay_34 : decode cX5_stay 34 = .ok (.invokevirtual 166, 3) := by decide +kernel
theorem dX5_stay_37 : decode cX5_stay 37 = .ok (.aload 4, 2) := by decide +kernel
theorem dX5_stay_39 : decode cX5_stay 39 = .ok (.iload_n 2, 1) := by decide +kernel
theorem dX5_stay_40 : decode cX5_stay 40 = .ok (.invokevirtual 137, 3) := by decide +kernel
theorem dX5_stay_43 : decode cX5_stay 43 = .ok (.checkcast 156, 3) := by decide +kernel
theorem dX5_stay_46 : decode cX5_stay 46 = .ok (.iload_n 3, 1) := by decide +kernel
theorem dX5_stay_47 : decode cX5_stay 47 = .ok (.invokestatic 169, 3) := by decide +kernel
theorem dX5_stay_50 : decode cX5_stay 50 = .ok (.ireturn, 1) := by decide +kernel
theorem dX5_uncast_0 : decode cX5_uncast 0 = .ok (.aload_n 0, 1) := by decide +kernel
theorem dX5_uncast_1 : decode cX5_uncast 1 = .ok (.invokevirtual 166, 3) := by decide +kernel
theorem dX5_uncast_4 : decode cX5_uncast 4 = .ok (.iconst 0, 1) := by decide +kernel
theorem dX5_uncast_5 : decode cX5_uncast 5 = .ok (.istore_n 1, 1) := by decide +kernel
theorem dX5_uncast_6 : decode cX5_uncast 6 = .ok (.iconst 0, 1) := by decide +kernel
theorem dX5_uncast_7 : decode cX5_uncast 7 = .ok (.istore_n 2, 1) := by decide +kernel
theorem dX5_uncast_8 : decode cX5_uncast 8 = .ok (.iload_n 2, 1) := by decide +kernel
theorem dX5_uncast_9 : decode cX5_uncast 9 = .ok (.aload_n 0, 1) := by decide +kernel
theorem dX5_uncast_10 : decode cX5_uncast 10 = .ok (.getfield 22, 3) := by decide +kernel
theorem dX5_uncast_13 : decode cX5_uncast 13 = .ok (.invokevirtual 48, 3) := by decide +kernel
theorem dX5_uncast_16 : decode cX5_uncast 16 = .ok (.if_icmp .ge 30, 3) := by decide +kernel
theorem dX5_uncast_19 : decode cX5_uncast 19 = .ok (.aload_n 0, 1) := by decide +kernel
theorem dX5_uncast_20 : decode cX5_uncast 20 = .ok (.getfield 22, 3) := by decide +kernel
theorem dX5_uncast_23 : decode cX5_uncast 23 = .ok (.iload_n 2, 1) := by decide +kernel
theorem dX5_uncast_24 : decode cX5_uncast 24 = .ok (.invokevirtual 137, 3) := by decide +kernel
theorem dX5_uncast_27 : decode cX5_uncast 27 = .ok (.checkcast 156, 3) := by decide +kernel
theorem dX5_uncast_30 : decode cX5_uncast 30 = .ok (.getfield 173, 3) := by decide +kernel
theorem dX5_uncast_33 : decode cX5_uncast 33 = .ok (.iconst (-1), 1) := by decide +kernel
theorem dX5_uncast_34 : decode cX5_uncast 34 = .ok (.if_icmp .ne 6, 3) := by decide +kernel
theorem dX5_uncast_37 : decode cX5_uncast 37 = .ok (.iinc 1 1, 3) := by decide +kernel
theorem dX5_uncast_40 : decode cX5_uncast 40 = .ok (.iinc 2 1, 3) := by decide +kernel
theorem dX5_uncast_43 : decode cX5_uncast 43 = .ok (.goto (-35), 3) := by decide +kernel
theorem dX5_uncast_46 : decode cX5_uncast 46 = .ok (.iload_n 1, 1) := by decide +kernel
theorem dX5_uncast_47 : decode cX5_uncast 47 = .ok (.ireturn, 1) := by decide +kernel
theorem dX5_hands_0 : decode cX5_hands 0 = .ok (.aload_n 0, 1) := by decide +kernel
theorem dX5_hands_1 : decode cX5_hands 1 = .ok (.iload_n 1, 1) := by decide +kernel
theorem dX5_hands_2 : decode cX5_hands 2 = .ok (.invokevirtual 176, 3) := by decide +kernel
theorem dX5_hands_5 : decode cX5_hands 5 = .ok (.astore_n 3, 1) := by decide +kernel
theorem dX5_hands_6 : decode cX5_hands 6 = .ok (.iload_n 2, 1) := by decide +kernel
theorem dX5_hands_7 : decode cX5_hands 7 = .ok (.invokestatic 83, 3) := by decide +kernel
theorem dX5_hands_10 : decode cX5_hands 10 = .ok (.aload_n 0, 1) := by decide +kernel
theorem dX5_hands_11 : decode cX5_hands 11 = .ok (.invokevirtual 166, 3) := by decide +kernel
theorem dX5_hands_14 : decode cX5_hands 14 = .ok (.aload_n 3, 1) := by decide +kernel
theorem dX5_hands_15 : decode cX5_hands 15 = .ok (.getfield 180, 3) := by decide +kernel
theorem dX5_hands_18 : decode cX5_hands 18 = .ok (.iload_n 2, 1) := by decide +kernel
theorem dX5_hands_19 : decode cX5_hands 19 = .ok (.iaload, 1) := by decide +kernel
theorem dX5_hands_20 : decode cX5_hands 20 = .ok (.ireturn, 1) := by decide +kernel
theorem dX5_load_0 : decode cX5_load 0 = .ok (.aload_n 0, 1) := by decide +kernel
theorem dX5_load_1 : decode cX5_load 1 = .ok (.iload_n 1, 1) := by decide +kernel
theorem dX5_load_2 : decode cX5_load 2 = .ok (.invokevirtual 176, 3) := by decide +kernel
theorem dX5_load_5 : decode cX5_load 5 = .ok (.astore_n 2, 1) := by decide +kernel
theorem dX5_load_6 : decode cX5_load 6 = .ok (.aload_n 0, 1) := by decide +kernel
theorem dX5_load_7 : decode cX5_load 7 = .ok (.invokevirtual 166, 3) := by decide +kernel
theorem dX5_load_10 : decode cX5_load 10 = .ok (.aload_n 2, 1) := by decide +kernel
theorem dX5_load_11 : decode cX5_load 11 = .ok (.invokevirtual 183, 3) := by decide +kernel
theorem dX5_load_14 : decode cX5_load 14 = .ok (.ireturn, 1) := by decide +kernel
theorem dX5_note_0 : decode cX5_note 0 = .ok (.aload_n 0, 1) := by decide +kernel
theorem dX5_note_1 : decode cX5_note 1 = .ok (.iload_n 1, 1) := by decide +kernel
theorem dX5_note_2 : decode cX5_note 2 = .ok (.invokevirtual 98, 3) := by decide +kernel
theorem dX5_note_5 : decode cX5_note 5 = .ok (.astore_n 3, 1) := by decide +kernel
theorem dX5_note_6 : decode cX5_note 6 = .ok (.iload_n 2, 1) := by decide +kernel
theorem dX5_note_7 : decode cX5_note 7 = .ok (.bipush (-50), 2) := by decide +kernel
theorem dX5_note_9 : decode cX5_note 9 = .ok (.if_icmp .lt 9, 3) := by decide +kernel
theorem dX5_note_12 : decode cX5_note 12 = .ok (.iload_n 2, 1) := by decide +kernel
theorem dX5_note_13 : decode cX5_note 13 = .ok (.bipush 50, 2) := by decide +kernel
theorem dX5_note_15 : decode cX5_note 15 = .ok (.if_icmp .le 13, 3) := by decide +kernel
theorem dX5_note_18 : decode cX5_note 18 = .ok (.new 39, 3) := by decide +kernel
theorem dX5_note_21 : decode cX5_note 21 = .ok (.dup, 1) := by decide +kernel
theorem dX5_note_22 : decode cX5_note 22 = .ok (.ldc 186, 2) := by decide +kernel
theorem dX5_note_24 : decode cX5_note 24 = .ok (.invokespecial 43, 3) := by decide +kernel
theorem dX5_note_27 : decode cX5_note 27 = .ok (.athrow, 1) := by decide +kernel
theorem dX5_note_28 : decode cX5_note 28 = .ok (.aload_n 3, 1) := by decide +kernel
theorem dX5_note_29 : decode cX5_note 29 = .ok (.getfield 188, 3) := by decide +kernel
theorem dX5_note_32 : decode cX5_note 32 = .ok (.bipush 20, 2) := by decide +kernel
theorem dX5_note_34 : decode cX5_note 34 = .ok (.if_icmp .lt 13, 3) := by decide +kernel
theorem dX5_note_37 : decode cX5_note 37 = .ok (.new 52, 3) := by decide +kernel
theorem dX5_note_40 : decode cX5_note 40 = .ok (.dup, 1) := by decide +kernel
theorem dX5_note_41 : decode cX5_note 41 = .ok (.ldc 191, 2) := by decide +kernel
theorem dX5_note_43 : decode cX5_note 43 = .ok (.invokespecial 56, 3) := by decide +kernel
theorem dX5_note_46 : decode cX5_note 46 = .ok (.athrow, 1) := by decide +kernel
theorem dX5_note_47 : decode cX5_note 47 = .ok (.aload_n 3, 1) := by decide +kernel
theorem dX5_note_48 : decode cX5_note 48 = .ok (.dup, 1) := by decide +kernel
theorem dX5_note_49 : decode cX5_note 49 = .ok (.getfield 188, 3) := by decide +kernel
theorem dX5_note_52 : decode cX5_note 52 = .ok (.iconst 1, 1) := by decide +kernel
theorem dX5_note_53 : decode cX5_note 53 = .ok (.iadd, 1) := by decide +kernel
theorem dX5_note_54 : decode cX5_note 54 = .ok (.putfield 188, 3) := by decide +kernel
theorem dX5_note_57 : decode cX5_note 57 = .ok (.aload_n 3, 1) := by decide +kernel
theorem dX5_note_58 : decode cX5_note 58 = .ok (.dup, 1) := by decide +kernel
theorem dX5_note_59 : decode cX5_note 59 = .ok (.getfield 193, 3) := by decide +kernel
theorem dX5_note_62 : decode cX5_note 62 = .ok (.iload_n 2, 1) := by decide +kernel
theorem dX5_note_63 : decode cX5_note 63 = .ok (.iadd, 1) := by decide +kernel
theorem dX5_note_64 : decode cX5_note 64 = .ok (.putfield 193, 3) := by decide +kernel
theorem dX5_note_67 : decode cX5_note 67 = .ok (.aload_n 3, 1) := by decide +kernel
theorem dX5_note_68 : decode cX5_note 68 = .ok (.dup, 1) := by decide +kernel
theorem dX5_note_69 : decode cX5_note 69 = .ok (.getfield 196, 3) := by decide +kernel
theorem dX5_note_72 : decode cX5_note 72 = .ok (.iload_n 2, 1) := by decide +kernel
theorem dX5_note_73 : decode cX5_note 73 = .ok (.invokestatic 199, 3) := by decide +kernel
theorem dX5_note_76 : decode cX5_note 76 = .ok (.iadd, 1) := by decide +kernel
theorem dX5_note_77 : decode cX5_note 77 = .ok (.putfield 196, 3) := by decide +kernel
theorem dX5_note_80 : decode cX5_note 80 = .ok (.aload_n 3, 1) := by decide +kernel
theorem dX5_note_81 : decode cX5_note 81 = .ok (.getfield 188, 3) := by decide +kernel
theorem dX5_note_84 : decode cX5_note 84 = .ok (.ireturn, 1) := by decide +kernel
theorem dX5_mean_0 : decode cX5_mean 0 = .ok (.aload_n 0, 1) := by decide +kernel
theorem dX5_mean_1 : decode cX5_mean 1 = .ok (.iload_n 1, 1) := by decide +kernel
theorem dX5_mean_2 : decode cX5_mean 2 = .ok (.invokevirtual 98, 3) := by decide +kernel
theorem dX5_mean_5 : decode cX5_mean 5 = .ok (.astore_n 2, 1) := by decide +kernel
theorem dX5_mean_6 : decode cX5_mean 6 = .ok (.aload_n 2, 1) := by decide +kernel
theorem dX5_mean_7 : decode cX5_mean 7 = .ok (.getfield 188, 3) := by decide +kernel
theorem dX5_mean_10 : decode cX5_mean 10 = .ok (.ifCond .ne 5, 3) := by decide +kernel
theorem dX5_mean_13 : decode cX5_mean 13 = .ok (.dconst 0, 1) := by decide +kernel
theorem dX5_mean_14 : decode cX5_mean 14 = .ok (.dreturn, 1) := by decide +kernel
theorem dX5_mean_15 : decode cX5_mean 15 = .ok (.aload_n 2, 1) := by decide +kernel
theorem dX5_mean_16 : decode cX5_mean 16 = .ok (.getfield 193, 3) := by decide +kernel
theorem dX5_mean_19 : decode cX5_mean 19 = .ok (.i2d, 1) := by decide +kernel
theorem dX5_mean_20 : decode cX5_mean 20 = .ok (.aload_n 2, 1) := by decide +kernel
theorem dX5_mean_21 : decode cX5_mean 21 = .ok (.getfield 188, 3) := by decide +kernel
theorem dX5_mean_24 : decode cX5_mean 24 = .ok (.i2d, 1) := by decide +kernel
theorem dX5_mean_25 : decode cX5_mean 25 = .ok (.ddiv, 1) := by decide +kernel
theorem dX5_mean_26 : decode cX5_mean 26 = .ok (.dreturn, 1) := by decide +kernel
theorem dX5_worst_0 : decode cX5_worst 0 = .ok (.iconst (-1), 1) := by decide +kernel
theorem dX5_worst_1 : decode cX5_worst 1 = .ok (.istore_n 1, 1) := by decide +kernel
theorem dX5_worst_2 : decode cX5_worst 2 = .ok (.iconst (-1), 1) := by decide +kernel
theorem dX5_worst_3 : decode cX5_worst 3 = .ok (.istore_n 2, 1) := by decide +kernel
theorem dX5_worst_4 : decode cX5_worst 4 = .ok (.iconst 0, 1) := by decide +kernel
theorem dX5_worst_5 : decode cX5_worst 5 = .ok (.istore_n 3, 1) := by decide +kernel
theorem dX5_worst_6 : decode cX5_worst 6 = .ok (.iload_n 3, 1) := by decide +kernel
theorem dX5_worst_7 : decode cX5_worst 7 = .ok (.aload_n 0, 1) := by decide +kernel
theorem dX5_worst_8 : decode cX5_worst 8 = .ok (.getfield 19, 3) := by decide +kernel
theorem dX5_worst_11 : decode cX5_worst 11 = .ok (.invokevirtual 48, 3) := by decide +kernel
theorem dX5_worst_14 : decode cX5_worst 14 = .ok (.if_icmp .ge 55, 3) := by decide +kernel
theorem dX5_worst_17 : decode cX5_worst 17 = .ok (.aload_n 0, 1) := by decide +kernel
theorem dX5_worst_18 : decode cX5_worst 18 = .ok (.getfield 19, 3) := by decide +kernel
theorem dX5_worst_21 : decode cX5_worst 21 = .ok (.iload_n 3, 1) := by decide +kernel
theorem dX5_worst_22 : decode cX5_worst 22 = .ok (.invokevirtual 137, 3) := by decide +kernel
theorem dX5_worst_25 : decode cX5_worst 25 = .ok (.checkcast 89, 3) := by decide +kernel
theorem dX5_worst_28 : decode cX5_worst 28 = .ok (.astore 4, 2) := by decide +kernel
theorem dX5_worst_30 : decode cX5_worst 30 = .ok (.aload 4, 2) := by decide +kernel
theorem dX5_worst_32 : decode cX5_worst 32 = .ok (.getfield 112, 3) := by decide +kernel
theorem dX5_worst_35 : decode cX5_worst 35 = .ok (.ifCond .ne 28, 3) := by decide +kernel
theorem dX5_worst_38 : decode cX5_worst 38 = .ok (.aload 4, 2) := by decide +kernel
theorem dX5_worst_40 : decode cX5_worst 40 = .ok (.getfield 188, 3) := by decide +kernel
theorem dX5_worst_43 : decode cX5_worst 43 = .ok (.ifCond .le 20, 3) := by decide +kernel
theorem dX5_worst_46 : decode cX5_worst 46 = .ok (.aload 4, 2) := by decide +kernel
theorem dX5_worst_48 : decode cX5_worst 48 = .ok (.getfield 196, 3) := by decide +kernel
theorem dX5_worst_51 : decode cX5_worst 51 = .ok (.iload_n 2, 1) := by decide +kernel
theorem dX5_worst_52 : decode cX5_worst 52 = .ok (.if_icmp .le 11, 3) := by decide +kernel
theorem dX5_worst_55 : decode cX5_worst 55 = .ok (.iload_n 3, 1) := by decide +kernel
theorem dX5_worst_56 : decode cX5_worst 56 = .ok (.istore_n 1, 1) := by decide +kernel
theorem dX5_worst_57 : decode cX5_worst 57 = .ok (.aload 4, 2) := by decide +kernel
theorem dX5_worst_59 : decode cX5_worst 59 = .ok (.getfield 196, 3) := by decide +kernel
theorem dX5_worst_62 : decode cX5_worst 62 = .ok (.istore_n 2, 1) := by decide +kernel
theorem dX5_worst_63 : decode cX5_worst 63 = .ok (.iinc 3 1, 3) := by decide +kernel
theorem dX5_worst_66 : decode cX5_worst 66 = .ok (.goto (-60), 3) := by decide +kernel
theorem dX5_worst_69 : decode cX5_worst 69 = .ok (.iload_n 1, 1) := by decide +kernel
theorem dX5_worst_70 : decode cX5_worst 70 = .ok (.ireturn, 1) := by decide +kernel
theorem dX5_digest_0 : decode cX5_digest 0 = .ok (.aload_n 0, 1) := by decide +kernel
theorem dX5_digest_1 : decode cX5_digest 1 = .ok (.invokevirtual 166, 3) := by decide +kernel
theorem dX5_digest_4 : decode cX5_digest 4 = .ok (.ldc2_w 205, 3) := by decide +kernel
theorem dX5_digest_7 : decode cX5_digest 7 = .ok (.lstore_n 1, 1) := by decide +kernel
theorem dX5_digest_8 : decode cX5_digest 8 = .ok (.lload_n 1, 1) := by decide +kernel
theorem dX5_digest_9 : decode cX5_digest 9 = .ok (.aload_n 0, 1) := by decide +kernel
theorem dX5_digest_10 : decode cX5_digest 10 = .ok (.getfield 10, 3) := by decide +kernel
theorem dX5_digest_13 : decode cX5_digest 13 = .ok (.invokevirtual 48, 3) := by decide +kernel
theorem dX5_digest_16 : decode cX5_digest 16 = .ok (.invokestatic 207, 3) := by decide +kernel
theorem dX5_digest_19 : decode cX5_digest 19 = .ok (.lstore_n 1, 1) := by decide +kernel
theorem dX5_digest_20 : decode cX5_digest 20 = .ok (.iconst 0, 1) := by decide +kernel
theorem dX5_digest_21 : decode cX5_digest 21 = .ok (.istore_n 3, 1) := by decide +kernel
theorem dX5_digest_22 : decode cX5_digest 22 = .ok (.iload_n 3, 1) := by decide +kernel
theorem dX5_digest_23 : decode cX5_digest 23 = .ok (.aload_n 0, 1) := by decide +kernel
theorem dX5_digest_24 : decode cX5_digest 24 = .ok (.getfield 10, 3) := by decide +kernel
theorem dX5_digest_27 : decode cX5_digest 27 = .ok (.invokevirtual 48, 3) := by decide +kernel
theorem dX5_digest_30 : decode cX5_digest 30 = .ok (.if_icmp .ge 28, 3) := by decide +kernel
theorem dX5_digest_33 : decode cX5_digest 33 = .ok (.lload_n 1, 1) := by decide +kernel
theorem dX5_digest_34 : decode cX5_digest 34 = .ok (.aload_n 0, 1) := by decide +kernel
theorem dX5_digest_35 : decode cX5_digest 35 = .ok (.getfield 10, 3) := by decide +kernel
theorem dX5_digest_38 : decode cX5_digest 38 = .ok (.iload_n 3, 1) := by decide +kernel
theorem dX5_digest_39 : decode cX5_digest 39 = .ok (.invokevirtual 137, 3) := by decide +kernel
theorem dX5_digest_42 : decode cX5_digest 42 = .ok (.checkcast 57, 3) := by decide +kernel
theorem dX5_digest_45 : decode cX5_digest 45 = .ok (.getfield 153, 3) := by decide +kernel
theorem dX5_digest_48 : decode cX5_digest 48 = .ok (.invokestatic 211, 3) := by decide +kernel
theorem dX5_digest_51 : decode cX5_digest 51 = .ok (.lstore_n 1, 1) := by decide +kernel
theorem dX5_digest_52 : decode cX5_digest 52 = .ok (.iinc 3 1, 3) := by decide +kernel
theorem dX5_digest_55 : decode cX5_digest 55 = .ok (.goto (-33), 3) := by decide +kernel
theorem dX5_digest_58 : decode cX5_digest 58 = .ok (.lload_n 1, 1) := by decide +kernel
theorem dX5_digest_59 : decode cX5_digest 59 = .ok (.aload_n 0, 1) := by decide +kernel
theorem dX5_digest_60 : decode cX5_digest 60 = .ok (.getfield 16, 3) := by decide +kernel
theorem dX5_digest_63 : decode cX5_digest 63 = .ok (.invokevirtual 48, 3) := by decide +kernel
theorem dX5_digest_66 : decode cX5_digest 66 = .ok (.invokestatic 207, 3) := by decide +kernel
theorem dX5_digest_69 : decode cX5_digest 69 = .ok (.lstore_n 1, 1) := by decide +kernel
theorem dX5_digest_70 : decode cX5_digest 70 = .ok (.iconst 0, 1) := by decide +kernel
theorem dX5_digest_71 : decode cX5_digest 71 = .ok (.istore_n 3, 1) := by decide +kernel
theorem dX5_digest_72 : decode cX5_digest 72 = .ok (.iload_n 3, 1) := by decide +kernel
theorem dX5_digest_73 : decode cX5_digest 73 = .ok (.aload_n 0, 1) := by decide +kernel
theorem dX5_digest_74 : decode cX5_digest 74 = .ok (.getfield 16, 3) := by decide +kernel
theorem dX5_digest_77 : decode cX5_digest 77 = .ok (.invokevirtual 48, 3) := by decide +kernel
theorem dX5_digest_80 : decode cX5_digest 80 = .ok (.if_icmp .ge 28, 3) := by decide +kernel
theorem dX5_digest_83 : decode cX5_digest 83 = .ok (.lload_n 1, 1) := by decide +kernel
theorem dX5_digest_84 : decode cX5_digest 84 = .ok (.aload_n 0, 1) := by decide +kernel
theorem dX5_digest_85 : decode cX5_digest 85 = .ok (.getfield 16, 3) := by decide +kernel
theorem dX5_digest_88 : decode cX5_digest 88 = .ok (.iload_n 3, 1) := by decide +kernel
theorem dX5_digest_89 : decode cX5_digest 89 = .ok (.invokevirtual 137, 3) := by decide +kernel
theorem dX5_digest_92 : decode cX5_digest 92 = .ok (.checkcast 74, 3) := by decide +kernel
theorem dX5_digest_95 : decode cX5_digest 95 = .ok (.invokevirtual 183, 3) := by decide +kernel
theorem dX5_digest_98 : decode cX5_digest 98 = .ok (.invokestatic 207, 3) := by decide +kernel
theorem dX5_digest_101 : decode cX5_digest 101 = .ok (.lstore_n 1, 1) := by decide +kernel
theorem dX5_digest_102 : decode cX5_digest 102 = .ok (.iinc 3 1, 3) := by decide +kernel
theorem dX5_digest_105 : decode cX5_digest 105 = .ok (.goto (-33), 3) := by decide +kernel
theorem dX5_digest_108 : decode cX5_digest 108 = .ok (.lload_n 1, 1) := by decide +kernel
theorem dX5_digest_109 : decode cX5_digest 109 = .ok (.aload_n 0, 1) := by decide +kernel
theorem dX5_digest_110 : decode cX5_digest 110 = .ok (.getfield 19, 3) := by decide +kernel
theorem dX5_digest_113 : decode cX5_digest 113 = .ok (.invokevirtual 48, 3) := by decide +kernel
theorem dX5_digest_116 : decode cX5_digest 116 = .ok (.invokestatic 207, 3) := by decide +kernel
theorem dX5_digest_119 : decode cX5_digest 119 = .ok (.lstore_n 1, 1) := by decide +kernel
theorem dX5_digest_120 : decode cX5_digest 120 = .ok (.iconst 0, 1) := by decide +kernel
theorem dX5_digest_121 : decode cX5_digest 121 = .ok (.istore_n 3, 1) := by decide +kernel
theorem dX5_digest_122 : decode cX5_digest 122 = .ok (.iload_n 3, 1) := by decide +kernel
theorem dX5_digest_123 : decode cX5_digest 123 = .ok (.aload_n 0, 1) := by decide +kernel
theorem dX5_digest_124 : decode cX5_digest 124 = .ok (.getfield 19, 3) := by decide +kernel
theorem dX5_digest_127 : decode cX5_digest 127 = .ok (.invokevirtual 48, 3) := by decide +kernel
theorem dX5_digest_130 : decode cX5_digest 130 = .ok (.if_icmp .ge 25, 3) := by decide +kernel
theorem dX5_digest_133 : decode cX5_digest 133 = .ok (.lload_n 1, 1) := by decide +kernel
theorem dX5_digest_134 : decode cX5_digest 134 = .ok (.aload_n 0, 1) := by decide +kernel
theorem dX5_digest_135 : decode cX5_digest 135 = .ok (.getfield 19, 3) := by decide +kernel
theorem dX5_digest_138 : decode cX5_digest 138 = .ok (.iload_n 3, 1) := by decide +kernel
theorem dX5_digest_139 : decode cX5_digest 139 = .ok (.invokevirtual 137, 3) := by decide +kernel
theorem dX5_digest_142 : decode cX5_digest 142 = .ok (.checkcast 89, 3) := by decide +kernel
theorem dX5_digest_145 : decode cX5_digest 145 = .ok (.invokestatic 215, 3) := by decide +kernel
theorem dX5_digest_148 : decode cX5_digest 148 = .ok (.lstore_n 1, 1) := by decide +kernel
theorem dX5_digest_149 : decode cX5_digest 149 = .ok (.iinc 3 1, 3) := by decide +kernel
theorem dX5_digest_152 : decode cX5_digest 152 = .ok (.goto (-30), 3) := by decide +kernel
theorem dX5_digest_155 : decode cX5_digest 155 = .ok (.lload_n 1, 1) := by decide +kernel
theorem dX5_digest_156 : decode cX5_digest 156 = .ok (.aload_n 0, 1) := by decide +kernel
theorem dX5_digest_157 : decode cX5_digest 157 = .ok (.invokevirtual 219, 3) := by decide +kernel
theorem dX5_digest_160 : decode cX5_digest 160 = .ok (.invokestatic 207, 3) := by decide +kernel
theorem dX5_digest_163 : decode cX5_digest 163 = .ok (.lreturn, 1) := by decide +kernel
theorem dX5_puppetNumbered_0 : decode cX5_puppetNumbered 0 = .ok (.iload_n 1, 1) := by decide +kernel
theorem dX5_puppetNumbered_1 : decode cX5_puppetNumbered 1 = .ok (.ifCond .lt 14, 3) := by decide +kernel
theorem dX5_puppetNumbered_4 : decode cX5_puppetNumbered 4 = .ok (.iload_n 1, 1) := by decide +kernel
theorem dX5_puppetNumbered_5 : decode cX5_puppetNumbered 5 = .ok (.aload_n 0, 1) := by decide +kernel
theorem dX5_puppetNumbered_6 : decode cX5_puppetNumbered 6 = .ok (.getfield 10, 3) := by decide +kernel
theorem dX5_puppetNumbered_9 : decode cX5_puppetNumbered 9 = .ok (.invokevirtual 48, 3) := by decide +kernel
theorem dX5_puppetNumbered_12 : decode cX5_puppetNumbered 12 = .ok (.if_icmp .lt 13, 3) := by decide +kernel
theorem dX5_puppetNumbered_15 : decode cX5_puppetNumbered 15 = .ok (.new 121, 3) := by decide +kernel
theorem dX5_puppetNumbered_18 : decode cX5_puppetNumbered 18 = .ok (.dup, 1) := by decide +kernel
theorem dX5_puppetNumbered_19 : decode cX5_puppetNumbered 19 = .ok (.ldc 222, 2) := by decide +kernel
theorem dX5_puppetNumbered_21 : decode cX5_puppetNumbered 21 = .ok (.invokespecial 125, 3) := by decide +kernel
theorem dX5_puppetNumbered_24 : decode cX5_puppetNumbered 24 = .ok (.athrow, 1) := by decide +kernel
theorem dX5_puppetNumbered_25 : decode cX5_puppetNumbered 25 = .ok (.aload_n 0, 1) := by decide +kernel
theorem dX5_puppetNumbered_26 : decode cX5_puppetNumbered 26 = .ok (.getfield 10, 3) := by decide +kernel
theorem dX5_puppetNumbered_29 : decode cX5_puppetNumbered 29 = .ok (.iload_n 1, 1) := by decide +kernel
theorem dX5_puppetNumbered_30 : decode cX5_puppetNumbered 30 = .ok (.invokevirtual 137, 3) := by decide +kernel
theorem dX5_puppetNumbered_33 : decode cX5_puppetNumbered 33 = .ok (.checkcast 57, 3) := by decide +kernel
theorem dX5_puppetNumbered_36 : decode cX5_puppetNumbered 36 = .ok (.areturn, 1) := by decide +kernel
theorem dX5_playerNumbered_0 : decode cX5_playerNumbered 0 = .ok (.iload_n 1, 1) := by decide +kernel
theorem dX5_playerNumbered_1 : decode cX5_playerNumbered 1 = .ok (.ifCond .lt 14, 3) := by decide +kernel
theorem dX5_playerNumbered_4 : decode cX5_playerNumbered 4 = .ok (.iload_n 1, 1) := by decide +kernel
theorem dX5_playerNumbered_5 : decode cX5_playerNumbered 5 = .ok (.aload_n 0, 1) := by decide +kernel
theorem dX5_playerNumbered_6 : decode cX5_playerNumbered 6 = .ok (.getfield 16, 3) := by decide +kernel
theorem dX5_playerNumbered_9 : decode cX5_playerNumbered 9 = .ok (.invokevirtual 48, 3) := by decide +kernel
theorem dX5_playerNumbered_12 : decode cX5_playerNumbered 12 = .ok (.if_icmp .lt 13, 3) := by decide +kernel
theorem dX5_playerNumbered_15 : decode cX5_playerNumbered 15 = .ok (.new 121, 3) := by decide +kernel
theorem dX5_playerNumbered_18 : decode cX5_playerNumbered 18 = .ok (.dup, 1) := by decide +kernel
theorem dX5_playerNumbered_19 : decode cX5_playerNumbered 19 = .ok (.ldc 224, 2) := by decide +kernel
theorem dX5_playerNumbered_21 : decode cX5_playerNumbered 21 = .ok (.invokespecial 125, 3) := by decide +kernel
theorem dX5_playerNumbered_24 : decode cX5_playerNumbered 24 = .ok (.athrow, 1) := by decide +kernel
theorem dX5_playerNumbered_25 : decode cX5_playerNumbered 25 = .ok (.aload_n 0, 1) := by decide +kernel
theorem dX5_playerNumbered_26 : decode cX5_playerNumbered 26 = .ok (.getfield 16, 3) := by decide +kernel
theorem dX5_playerNumbered_29 : decode cX5_playerNumbered 29 = .ok (.iload_n 1, 1) := by decide +kernel
theorem dX5_playerNumbered_30 : decode cX5_playerNumbered 30 = .ok (.invokevirtual 137, 3) := by decide +kernel
theorem dX5_playerNumbered_33 : decode cX5_playerNumbered 33 = .ok (.checkcast 74, 3) := by decide +kernel
theorem dX5_playerNumbered_36 : decode cX5_playerNumbered 36 = .ok (.areturn, 1) := by decide +kernel
theorem dX5_cueNumbered_0 : decode cX5_cueNumbered 0 = .ok (.iload_n 1, 1) := by decide +kernel
theorem dX5_cueNumbered_1 : decode cX5_cueNumbered 1 = .ok (.ifCond .lt 14, 3) := by decide +kernel
theorem dX5_cueNumbered_4 : decode cX5_cueNumbered 4 = .ok (.iload_n 1, 1) := by decide +kernel
theorem dX5_cueNumbered_5 : decode cX5_cueNumbered 5 = .ok (.aload_n 0, 1) := by decide +kernel
theorem dX5_cueNumbered_6 : decode cX5_cueNumbered 6 = .ok (.getfield 19, 3) := by decide +kernel
theorem dX5_cueNumbered_9 : decode cX5_cueNumbered 9 = .ok (.invokevirtual 48, 3) := by decide +kernel
theorem dX5_cueNumbered_12 : decode cX5_cueNumbered 12 = .ok (.if_icmp .lt 13, 3) := by decide +kernel
theorem dX5_cueNumbered_15 : decode cX5_cueNumbered 15 = .ok (.new 121, 3) := by decide +kernel
theorem dX5_cueNumbered_18 : decode cX5_cueNumbered 18 = .ok (.dup, 1) := by decide +kernel
theorem dX5_cueNumbered_19 : decode cX5_cueNumbered 19 = .ok (.ldc 226, 2) := by decide +kernel
theorem dX5_cueNumbered_21 : decode cX5_cueNumbered 21 = .ok (.invokespecial 125, 3) := by decide +kernel
theorem dX5_cueNumbered_24 : decode cX5_cueNumbered 24 = .ok (.athrow, 1) := by decide +kernel
theorem dX5_cueNumbered_25 : decode cX5_cueNumbered 25 = .ok (.aload_n 0, 1) := by decide +kernel
theorem dX5_cueNumbered_26 : decode cX5_cueNumbered 26 = .ok (.getfield 19, 3) := by decide +kernel
theorem dX5_cueNumbered_29 : decode cX5_cueNumbered 29 = .ok (.iload_n 1, 1) := by decide +kernel
theorem dX5_cueNumbered_30 : decode cX5_cueNumbered 30 = .ok (.invokevirtual 137, 3) := by decide +kernel
theorem dX5_cueNumbered_33 : decode cX5_cueNumbered 33 = .ok (.checkcast 89, 3) := by decide +kernel
theorem dX5_cueNumbered_36 : decode cX5_cueNumbered 36 = .ok (.astore_n 2, 1) := by decide +kernel
theorem dX5_cueNumbered_37 : decode cX5_cueNumbered 37 = .ok (.aload_n 2, 1) := by decide +kernel
theorem dX5_cueNumbered_38 : decode cX5_cueNumbered 38 = .ok (.getfield 112, 3) := by decide +kernel
theorem dX5_cueNumbered_41 : decode cX5_cueNumbered 41 = .ok (.ifCond .eq 13, 3) := by decide +kernel
theorem dX5_cueNumbered_44 : decode cX5_cueNumbered 44 = .ok (.new 121, 3) := by decide +kernel
theorem dX5_cueNumbered_47 : decode cX5_cueNumbered 47 = .ok (.dup, 1) := by decide +kernel
theorem dX5_cueNumbered_48 : decode cX5_cueNumbered 48 = .ok (.ldc 228, 2) := by decide +kernel
theorem dX5_cueNumbered_50 : decode cX5_cueNumbered 50 = .ok (.invokespecial 125, 3) := by decide +kernel
theorem dX5_cueNumbered_53 : decode cX5_cueNumbered 53 = .ok (.athrow, 1) := by decide +kernel
theorem dX5_cueNumbered_54 : decode cX5_cueNumbered 54 = .ok (.aload_n 2, 1) := by decide +kernel
theorem dX5_cueNumbered_55 : decode cX5_cueNumbered 55 = .ok (.areturn, 1) := by decide +kernel
theorem dX5_requireBeat_0 : decode cX5_requireBeat 0 = .ok (.iload_n 0, 1) := by decide +kernel
theorem dX5_requireBeat_1 : decode cX5_requireBeat 1 = .ok (.ifCond .lt 10, 3) := by decide +kernel
theorem dX5_requireBeat_4 : decode cX5_requireBeat 4 = .ok (.iload_n 0, 1) := by decide +kernel
theorem dX5_requireBeat_5 : decode cX5_requireBeat 5 = .ok (.sipush 1000, 3) := by decide +kernel
theorem dX5_requireBeat_8 : decode cX5_requireBeat 8 = .ok (.if_icmp .lt 13, 3) := by decide +kernel
theorem dX5_requireBeat_11 : decode cX5_requireBeat 11 = .ok (.new 39, 3) := by decide +kernel
theorem dX5_requireBeat_14 : decode cX5_requireBeat 14 = .ok (.dup, 1) := by decide +kernel
theorem dX5_requireBeat_15 : decode cX5_requireBeat 15 = .ok (.ldc 230, 2) := by decide +kernel
theorem dX5_requireBeat_17 : decode cX5_requireBeat 17 = .ok (.invokespecial 43, 3) := by decide +kernel
theorem dX5_requireBeat_20 : decode cX5_requireBeat 20 = .ok (.athrow, 1) := by decide +kernel
theorem dX5_requireBeat_21 : decode cX5_requireBeat 21 = .ok (.return_, 1) := by decide +kernel
theorem dX5_requirePlace_0 : decode cX5_requirePlace 0 = .ok (.iload_n 0, 1) := by decide +kernel
theorem dX5_requirePlace_1 : decode cX5_requirePlace 1 = .ok (.ifCond .lt 9, 3) := by decide +kernel
theorem dX5_requirePlace_4 : decode cX5_requirePlace 4 = .ok (.iload_n 0, 1) := by decide +kernel
theorem dX5_requirePlace_5 : decode cX5_requirePlace 5 = .ok (.bipush 20, 2) := by decide +kernel
theorem dX5_requirePlace_7 : decode cX5_requirePlace 7 = .ok (.if_icmp .lt 13, 3) := by decide +kernel
theorem dX5_requirePlace_10 : decode cX5_requirePlace 10 = .ok (.new 39, 3) := by decide +kernel
theorem dX5_requirePlace_13 : decode cX5_requirePlace 13 = .ok (.dup, 1) := by decide +kernel
theorem dX5_requirePlace_14 : decode cX5_requirePlace 14 = .ok (.ldc 232, 2) := by decide +kernel
theorem dX5_requirePlace_16 : decode cX5_requirePlace 16 = .ok (.invokespecial 43, 3) := by decide +kernel
theorem dX5_requirePlace_19 : decode cX5_requirePlace 19 = .ok (.athrow, 1) := by decide +kernel
theorem dX5_requirePlace_20 : decode cX5_requirePlace 20 = .ok (.return_, 1) := by decide +kernel
theorem dX5_requireTrack_0 : decode cX5_requireTrack 0 = .ok (.iload_n 0, 1) := by decide +kernel
theorem dX5_requireTrack_1 : decode cX5_requireTrack 1 = .ok (.ifCond .lt 8, 3) := by decide +kernel
theorem dX5_requireTrack_4 : decode cX5_requireTrack 4 = .ok (.iload_n 0, 1) := by decide +kernel
theorem dX5_requireTrack_5 : decode cX5_requireTrack 5 = .ok (.iconst 4, 1) := by decide +kernel
theorem dX5_requireTrack_6 : decode cX5_requireTrack 6 = .ok (.if_icmp .lt 13, 3) := by decide +kernel
theorem dX5_requireTrack_9 : decode cX5_requireTrack 9 = .ok (.new 39, 3) := by decide +kernel
theorem dX5_requireTrack_12 : decode cX5_requireTrack 12 = .ok (.dup, 1) := by decide +kernel
theorem dX5_requireTrack_13 : decode cX5_requireTrack 13 = .ok (.ldc 234, 2) := by decide +kernel
theorem dX5_requireTrack_15 : decode cX5_requireTrack 15 = .ok (.invokespecial 43, 3) := by decide +kernel
theorem dX5_requireTrack_18 : decode cX5_requireTrack 18 = .ok (.athrow, 1) := by decide +kernel
theorem dX5_requireTrack_19 : decode cX5_requireTrack 19 = .ok (.return_, 1) := by decide +kernel
theorem dX5_write_0 : decode cX5_write 0 = .ok (.aload_n 0, 1) := by decide +kernel
theorem dX5_write_1 : decode cX5_write 1 = .ok (.getfield 19, 3) := by decide +kernel
theorem dX5_write_4 : decode cX5_write 4 = .ok (.invokevirtual 48, 3) := by decide +kernel
theorem dX5_write_7 : decode cX5_write 7 = .ok (.bipush 40, 2) := by decide +kernel
theorem dX5_write_9 : decode cX5_write 9 = .ok (.if_icmp .lt 13, 3) := by decide +kernel
theorem dX5_write_12 : decode cX5_write 12 = .ok (.new 52, 3) := by decide +kernel
theorem dX5_write_15 : decode cX5_write 15 = .ok (.dup, 1) := by decide +kernel
theorem dX5_write_16 : decode cX5_write 16 = .ok (.ldc 236, 2) := by decide +kernel
theorem dX5_write_18 : decode cX5_write 18 = .ok (.invokespecial 56, 3) := by decide +kernel
theorem dX5_write_21 : decode cX5_write 21 = .ok (.athrow, 1) := by decide +kernel
theorem dX5_write_22 : decode cX5_write 22 = .ok (.aload_n 1, 1) := by decide +kernel
theorem dX5_write_23 : decode cX5_write 23 = .ok (.getfield 102, 3) := by decide +kernel
theorem dX5_write_26 : decode cX5_write 26 = .ok (.aload_n 1, 1) := by decide +kernel
theorem dX5_write_27 : decode cX5_write 27 = .ok (.invokevirtual 238, 3) := by decide +kernel
theorem dX5_write_30 : decode cX5_write 30 = .ok (.ifCond .ne 13, 3) := by decide +kernel
theorem dX5_write_33 : decode cX5_write 33 = .ok (.new 52, 3) := by decide +kernel
theorem dX5_write_36 : decode cX5_write 36 = .ok (.dup, 1) := by decide +kernel
theorem dX5_write_37 : decode cX5_write 37 = .ok (.ldc 241, 2) := by decide +kernel
theorem dX5_write_39 : decode cX5_write 39 = .ok (.invokespecial 56, 3) := by decide +kernel
theorem dX5_write_42 : decode cX5_write 42 = .ok (.athrow, 1) := by decide +kernel
theorem dX5_write_43 : decode cX5_write 43 = .ok (.aload_n 0, 1) := by decide +kernel
theorem dX5_write_44 : decode cX5_write 44 = .ok (.getfield 19, 3) := by decide +kernel
theorem dX5_write_47 : decode cX5_write 47 = .ok (.invokevirtual 48, 3) := by decide +kernel
theorem dX5_write_50 : decode cX5_write 50 = .ok (.istore_n 2, 1) := by decide +kernel
theorem dX5_write_51 : decode cX5_write 51 = .ok (.aload_n 0, 1) := by decide +kernel
theorem dX5_write_52 : decode cX5_write 52 = .ok (.getfield 19, 3) := by decide +kernel
theorem dX5_write_55 : decode cX5_write 55 = .ok (.aload_n 1, 1) := by decide +kernel
theorem dX5_write_56 : decode cX5_write 56 = .ok (.invokevirtual 62, 3) := by decide +kernel
theorem dX5_write_59 : decode cX5_write 59 = .ok (.pop, 1) := by decide +kernel
theorem dX5_write_60 : decode cX5_write 60 = .ok (.aload_n 0, 1) := by decide +kernel
theorem dX5_write_61 : decode cX5_write 61 = .ok (.invokevirtual 115, 3) := by decide +kernel
theorem dX5_write_64 : decode cX5_write 64 = .ok (.iload_n 2, 1) := by decide +kernel
theorem dX5_write_65 : decode cX5_write 65 = .ok (.ireturn, 1) := by decide +kernel
theorem dX5_forgetWhatWasFound_0 : decode cX5_forgetWhatWasFound 0 = .ok (.aload_n 0, 1) := by decide +kernel
theorem dX5_forgetWhatWasFound_1 : decode cX5_forgetWhatWasFound 1 = .ok (.iconst 0, 1) := by decide +kernel
theorem dX5_forgetWhatWasFound_2 : decode cX5_forgetWhatWasFound 2 = .ok (.putfield 29, 3) := by decide +kernel
theorem dX5_forgetWhatWasFound_5 : decode cX5_forgetWhatWasFound 5 = .ok (.aload_n 0, 1) := by decide +kernel
theorem dX5_forgetWhatWasFound_6 : decode cX5_forgetWhatWasFound 6 = .ok (.iconst 0, 1) := by decide +kernel
theorem dX5_forgetWhatWasFound_7 : decode cX5_forgetWhatWasFound 7 = .ok (.putfield 33, 3) := by decide +kernel
theorem dX5_forgetWhatWasFound_10 : decode cX5_forgetWhatWasFound 10 = .ok (.return_, 1) := by decide +kernel
theorem dX5_tellOfCue_0 : decode cX5_tellOfCue 0 = .ok (.iload_n 1, 1) := by decide +kernel
theorem dX5_tellOfCue_1 : decode cX5_tellOfCue 1 = .ok (.tableswitch 63 0 4 #[35, 40, 48, 53, 58], 35) := by decide +kernel
theorem dX5_tellOfCue_36 : decode cX5_tellOfCue 36 = .ok (.aload_n 0, 1) := by decide +kernel
theorem dX5_tellOfCue_37 : decode cX5_tellOfCue 37 = .ok (.getfield 243, 3) := by decide +kernel
theorem dX5_tellOfCue_40 : decode cX5_tellOfCue 40 = .ok (.ireturn, 1) := by decide +kernel
theorem dX5_tellOfCue_41 : decode cX5_tellOfCue 41 = .ok (.aload_n 0, 1) := by decide +kernel
theorem dX5_tellOfCue_42 : decode cX5_tellOfCue 42 = .ok (.getfield 102, 3) := by decide +kernel
theorem dX5_tellOfCue_45 : decode cX5_tellOfCue 45 = .ok (.getfield 246, 3) := by decide +kernel
theorem dX5_tellOfCue_48 : decode cX5_tellOfCue 48 = .ok (.ireturn, 1) := by decide +kernel
theorem dX5_tellOfCue_49 : decode cX5_tellOfCue 49 = .ok (.aload_n 0, 1) := by decide +kernel
theorem dX5_tellOfCue_50 : decode cX5_tellOfCue 50 = .ok (.getfield 249, 3) := by decide +kernel
theorem dX5_tellOfCue_53 : decode cX5_tellOfCue 53 = .ok (.ireturn, 1) := by decide +kernel
theorem dX5_tellOfCue_54 : decode cX5_tellOfCue 54 = .ok (.aload_n 0, 1) := by decide +kernel
theorem dX5_tellOfCue_55 : decode cX5_tellOfCue 55 = .ok (.getfield 252, 3) := by decide +kernel
theorem dX5_tellOfCue_58 : decode cX5_tellOfCue 58 = .ok (.ireturn, 1) := by decide +kernel
theorem dX5_tellOfCue_59 : decode cX5_tellOfCue 59 = .ok (.aload_n 0, 1) := by decide +kernel
theorem dX5_tellOfCue_60 : decode cX5_tellOfCue 60 = .ok (.getfield 255, 3) := by decide +kernel
theorem dX5_tellOfCue_63 : decode cX5_tellOfCue 63 = .ok (.ireturn, 1) := by decide +kernel
theorem dX5_tellOfCue_64 : decode cX5_tellOfCue 64 = .ok (.new 121, 3) := by decide +kernel
theorem dX5_tellOfCue_67 : decode cX5_tellOfCue 67 = .ok (.dup, 1) := by decide +kernel
theorem dX5_tellOfCue_68 : decode cX5_tellOfCue 68 = .ok (.ldc_w 258, 3) := by decide +kernel
theorem dX5_tellOfCue_71 : decode cX5_tellOfCue 71 = .ok (.invokespecial 125, 3) := by decide +kernel
theorem dX5_tellOfCue_74 : decode cX5_tellOfCue 74 = .ok (.athrow, 1) := by decide +kernel
theorem dX5_tellOfStay_0 : decode cX5_tellOfStay 0 = .ok (.iload_n 1, 1) := by decide +kernel
theorem dX5_tellOfStay_1 : decode cX5_tellOfStay 1 = .ok (.tableswitch 42 0 2 #[27, 32, 37], 27) := by decide +kernel
theorem dX5_tellOfStay_28 : decode cX5_tellOfStay 28 = .ok (.aload_n 0, 1) := by decide +kernel
theorem dX5_tellOfStay_29 : decode cX5_tellOfStay 29 = .ok (.getfield 161, 3) := by decide +kernel
theorem dX5_tellOfStay_32 : decode cX5_tellOfStay 32 = .ok (.ireturn, 1) := by decide +kernel
theorem dX5_tellOfStay_33 : decode cX5_tellOfStay 33 = .ok (.aload_n 0, 1) := by decide +kernel
theorem dX5_tellOfStay_34 : decode cX5_tellOfStay 34 = .ok (.getfield 158, 3) := by decide +kernel
theorem dX5_tellOfStay_37 : decode cX5_tellOfStay 37 = .ok (.ireturn, 1) := by decide +kernel
theorem dX5_tellOfStay_38 : decode cX5_tellOfStay 38 = .ok (.aload_n 0, 1) := by decide +kernel
theorem dX5_tellOfStay_39 : decode cX5_tellOfStay 39 = .ok (.getfield 173, 3) := by decide +kernel
theorem dX5_tellOfStay_42 : decode cX5_tellOfStay 42 = .ok (.ireturn, 1) := by decide +kernel
theorem dX5_tellOfStay_43 : decode cX5_tellOfStay 43 = .ok (.new 121, 3) := by decide +kernel
theorem dX5_tellOfStay_46 : decode cX5_tellOfStay 46 = .ok (.dup, 1) := by decide +kernel
theorem dX5_tellOfStay_47 : decode cX5_tellOfStay 47 = .ok (.ldc_w 260, 3) := by decide +kernel
theorem dX5_tellOfStay_50 : decode cX5_tellOfStay 50 = .ok (.invokespecial 125, 3) := by decide +kernel
theorem dX5_tellOfStay_53 : decode cX5_tellOfStay 53 = .ok (.athrow, 1) := by decide +kernel
theorem dX5_distance_0 : decode cX5_distance 0 = .ok (.iload_n 0, 1) := by decide +kernel
theorem dX5_distance_1 : decode cX5_distance 1 = .ok (.iload_n 1, 1) := by decide +kernel
theorem dX5_distance_2 : decode cX5_distance 2 = .ok (.isub, 1) := by decide +kernel
theorem dX5_distance_3 : decode cX5_distance 3 = .ok (.invokestatic 199, 3) := by decide +kernel
theorem dX5_distance_6 : decode cX5_distance 6 = .ok (.ireturn, 1) := by decide +kernel
theorem dX5_countClashingPairs_0 : decode cX5_countClashingPairs 0 = .ok (.iconst 0, 1) := by decide +kernel
theorem dX5_countClashingPairs_1 : decode cX5_countClashingPairs 1 = .ok (.istore_n 1, 1) := by decide +kernel
theorem dX5_countClashingPairs_2 : decode cX5_countClashingPairs 2 = .ok (.iconst 0, 1) := by decide +kernel
theorem dX5_countClashingPairs_3 : decode cX5_countClashingPairs 3 = .ok (.istore_n 2, 1) := by decide +kernel
theorem dX5_countClashingPairs_4 : decode cX5_countClashingPairs 4 = .ok (.iload_n 2, 1) := by decide +kernel
theorem dX5_countClashingPairs_5 : decode cX5_countClashingPairs 5 = .ok (.aload_n 0, 1) := by decide +kernel
theorem dX5_countClashingPairs_6 : decode cX5_countClashingPairs 6 = .ok (.getfield 10, 3) := by decide +kernel
theorem dX5_countClashingPairs_9 : decode cX5_countClashingPairs 9 = .ok (.invokevirtual 48, 3) := by decide +kernel
theorem dX5_countClashingPairs_12 : decode cX5_countClashingPairs 12 = .ok (.if_icmp .ge 62, 3) := by decide +kernel
theorem dX5_countClashingPairs_15 : decode cX5_countClashingPairs 15 = .ok (.iload_n 2, 1) := by decide +kernel
theorem dX5_countClashingPairs_16 : decode cX5_countClashingPairs 16 = .ok (.iconst 1, 1) := by decide +kernel
theorem dX5_countClashingPairs_17 : decode cX5_countClashingPairs 17 = .ok (.iadd, 1) := by decide +kernel
theorem dX5_countClashingPairs_18 : decode cX5_countClashingPairs 18 = .ok (.istore_n 3, 1) := by decide +kernel
theorem dX5_countClashingPairs_19 : decode cX5_countClashingPairs 19 = .ok (.iload_n 3, 1) := by decide +kernel
theorem dX5_countClashingPairs_20 : decode cX5_countClashingPairs 20 = .ok (.aload_n 0, 1) := by decide +kernel
theorem dX5_countClashingPairs_21 : decode cX5_countClashingPairs 21 = .ok (.getfield 10, 3) := by decide +kernel
theorem dX5_countClashingPairs_24 : decode cX5_countClashingPairs 24 = .ok (.invokevirtual 48, 3) := by decide +kernel
theorem dX5_countClashingPairs_27 : decode cX5_countClashingPairs 27 = .ok (.if_icmp .ge 41, 3) := by decide +kernel
theorem dX5_countClashingPairs_30 : decode cX5_countClashingPairs 30 = .ok (.aload_n 0, 1) := by decide +kernel
theorem dX5_countClashingPairs_31 : decode cX5_countClashingPairs 31 = .ok (.getfield 10, 3) := by decide +kernel
theorem dX5_countClashingPairs_34 : decode cX5_countClashingPairs 34 = .ok (.iload_n 2, 1) := by decide +kernel
theorem dX5_countClashingPairs_35 : decode cX5_countClashingPairs 35 = .ok (.invokevirtual 137, 3) := by decide +kernel
theorem dX5_countClashingPairs_38 : decode cX5_countClashingPairs 38 = .ok (.checkcast 57, 3) := by decide +kernel
theorem dX5_countClashingPairs_41 : decode cX5_countClashingPairs 41 = .ok (.aload_n 0, 1) := by decide +kernel
theorem dX5_countClashingPairs_42 : decode cX5_countClashingPairs 42 = .ok (.getfield 10, 3) := by decide +kernel
theorem dX5_countClashingPairs_45 : decode cX5_countClashingPairs 45 = .ok (.iload_n 3, 1) := by decide +kernel
theorem dX5_countClashingPairs_46 : decode cX5_countClashingPairs 46 = .ok (.invokevirtual 137, 3) := by decide +kernel
theorem dX5_countClashingPairs_49 : decode cX5_countClashingPairs 49 = .ok (.checkcast 57, 3) := by decide +kernel
theorem dX5_countClashingPairs_52 : decode cX5_countClashingPairs 52 = .ok (.invokestatic 146, 3) := by decide +kernel
theorem dX5_countClashingPairs_55 : decode cX5_countClashingPairs 55 = .ok (.iconst (-1), 1) := by decide +kernel
theorem dX5_countClashingPairs_56 : decode cX5_countClashingPairs 56 = .ok (.if_icmp .eq 6, 3) := by decide +kernel
theorem dX5_countClashingPairs_59 : decode cX5_countClashingPairs 59 = .ok (.iinc 1 1, 3) := by decide +kernel
theorem dX5_countClashingPairs_62 : decode cX5_countClashingPairs 62 = .ok (.iinc 3 1, 3) := by decide +kernel
theorem dX5_countClashingPairs_65 : decode cX5_countClashingPairs 65 = .ok (.goto (-46), 3) := by decide +kernel
theorem dX5_countClashingPairs_68 : decode cX5_countClashingPairs 68 = .ok (.iinc 2 1, 3) := by decide +kernel
theorem dX5_countClashingPairs_71 : decode cX5_countClashingPairs 71 = .ok (.goto (-67), 3) := by decide +kernel
theorem dX5_countClashingPairs_74 : decode cX5_countClashingPairs 74 = .ok (.iload_n 1, 1) := by decide +kernel
theorem dX5_countClashingPairs_75 : decode cX5_countClashingPairs 75 = .ok (.ireturn, 1) := by decide +kernel
theorem dX5_firstClash_0 : decode cX5_firstClash 0 = .ok (.iconst 0, 1) := by decide +kernel
theorem dX5_firstClash_1 : decode cX5_firstClash 1 = .ok (.istore_n 2, 1) := by decide +kernel
theorem dX5_firstClash_2 : decode cX5_firstClash 2 = .ok (.iload_n 2, 1) := by decide +kernel
theorem dX5_firstClash_3 : decode cX5_firstClash 3 = .ok (.sipush 1000, 3) := by decide +kernel
theorem dX5_firstClash_6 : decode cX5_firstClash 6 = .ok (.if_icmp .ge 44, 3) := by decide +kernel
theorem dX5_firstClash_9 : decode cX5_firstClash 9 = .ok (.aload_n 0, 1) := by decide +kernel
theorem dX5_firstClash_10 : decode cX5_firstClash 10 = .ok (.aload_n 1, 1) := by decide +kernel
theorem dX5_firstClash_11 : decode cX5_firstClash 11 = .ok (.iload_n 2, 1) := by decide +kernel
theorem dX5_firstClash_12 : decode cX5_firstClash 12 = .ok (.invokestatic 262, 3) := by decide +kernel
theorem dX5_firstClash_15 : decode cX5_firstClash 15 = .ok (.ifCond .eq 29, 3) := by decide +kernel
theorem dX5_firstClash_18 : decode cX5_firstClash 18 = .ok (.aload_n 0, 1) := by decide +kernel
theorem dX5_firstClash_19 : decode cX5_firstClash 19 = .ok (.getfield 130, 3) := by decide +kernel
theorem dX5_firstClash_22 : decode cX5_firstClash 22 = .ok (.iload_n 2, 1) := by decide +kernel
theorem dX5_firstClash_23 : decode cX5_firstClash 23 = .ok (.iaload, 1) := by decide +kernel
theorem dX5_firstClash_24 : decode cX5_firstClash 24 = .ok (.aload_n 1, 1) := by decide +kernel
theorem dX5_firstClash_25 : decode cX5_firstClash 25 = .ok (.getfield 130, 3) := by decide +kernel
theorem dX5_firstClash_28 : decode cX5_firstClash 28 = .ok (.iload_n 2, 1) := by decide +kernel
theorem dX5_firstClash_29 : decode cX5_firstClash 29 = .ok (.iaload, 1) := by decide +kernel
theorem dX5_firstClash_30 : decode cX5_firstClash 30 = .ok (.if_icmp .eq 12, 3) := by decide +kernel
theorem dX5_firstClash_33 : decode cX5_firstClash 33 = .ok (.aload_n 0, 1) := by decide +kernel
theorem dX5_firstClash_34 : decode cX5_firstClash 34 = .ok (.aload_n 1, 1) := by decide +kernel
theorem dX5_firstClash_35 : decode cX5_firstClash 35 = .ok (.iload_n 2, 1) := by decide +kernel
theorem dX5_firstClash_36 : decode cX5_firstClash 36 = .ok (.invokestatic 266, 3) := by decide +kernel
theorem dX5_firstClash_39 : decode cX5_firstClash 39 = .ok (.ifCond .eq 5, 3) := by decide +kernel
theorem dX5_firstClash_42 : decode cX5_firstClash 42 = .ok (.iload_n 2, 1) := by decide +kernel
theorem dX5_firstClash_43 : decode cX5_firstClash 43 = .ok (.ireturn, 1) := by decide +kernel
theorem dX5_firstClash_44 : decode cX5_firstClash 44 = .ok (.iinc 2 1, 3) := by decide +kernel
theorem dX5_firstClash_47 : decode cX5_firstClash 47 = .ok (.goto (-45), 3) := by decide +kernel
theorem dX5_firstClash_50 : decode cX5_firstClash 50 = .ok (.iconst (-1), 1) := by decide +kernel
theorem dX5_firstClash_51 : decode cX5_firstClash 51 = .ok (.ireturn, 1) := by decide +kernel
theorem dX5_areOnOneTrack_0 : decode cX5_areOnOneTrack 0 = .ok (.aload_n 0, 1) := by decide +kernel
theorem dX5_areOnOneTrack_1 : decode cX5_areOnOneTrack 1 = .ok (.getfield 134, 3) := by decide +kernel
theorem dX5_areOnOneTrack_4 : decode cX5_areOnOneTrack 4 = .ok (.iload_n 2, 1) := by decide +kernel
theorem dX5_areOnOneTrack_5 : decode cX5_areOnOneTrack 5 = .ok (.iaload, 1) := by decide +kernel
theorem dX5_areOnOneTrack_6 : decode cX5_areOnOneTrack 6 = .ok (.iconst (-1), 1) := by decide +kernel
theorem dX5_areOnOneTrack_7 : decode cX5_areOnOneTrack 7 = .ok (.if_icmp .eq 22, 3) := by decide +kernel
theorem dX5_areOnOneTrack_10 : decode cX5_areOnOneTrack 10 = .ok (.aload_n 0, 1) := by decide +kernel
theorem dX5_areOnOneTrack_11 : decode cX5_areOnOneTrack 11 = .ok (.getfield 134, 3) := by decide +kernel
theorem dX5_areOnOneTrack_14 : decode cX5_areOnOneTrack 14 = .ok (.iload_n 2, 1) := by decide +kernel
theorem dX5_areOnOneTrack_15 : decode cX5_areOnOneTrack 15 = .ok (.iaload, 1) := by decide +kernel
theorem dX5_areOnOneTrack_16 : decode cX5_areOnOneTrack 16 = .ok (.aload_n 1, 1) := by decide +kernel
theorem dX5_areOnOneTrack_17 : decode cX5_areOnOneTrack 17 = .ok (.getfield 134, 3) := by decide +kernel
theorem dX5_areOnOneTrack_20 : decode cX5_areOnOneTrack 20 = .ok (.iload_n 2, 1) := by decide +kernel
theorem dX5_areOnOneTrack_21 : decode cX5_areOnOneTrack 21 = .ok (.iaload, 1) := by decide +kernel
theorem dX5_areOnOneTrack_22 : decode cX5_areOnOneTrack 22 = .ok (.if_icmp .ne 7, 3) := by decide +kernel
theorem dX5_areOnOneTrack_25 : decode cX5_areOnOneTrack 25 = .ok (.iconst 1, 1) := by decide +kernel
theorem dX5_areOnOneTrack_26 : decode cX5_areOnOneTrack 26 = .ok (.goto 4, 3) := by decide +kernel
theorem dX5_areOnOneTrack_29 : decode cX5_areOnOneTrack 29 = .ok (.iconst 0, 1) := by decide +kernel
theorem dX5_areOnOneTrack_30 : decode cX5_areOnOneTrack 30 = .ok (.ireturn, 1) := by decide +kernel
theorem dX5_exchangePlaces_0 : decode cX5_exchangePlaces 0 = .ok (.iload_n 2, 1) := by decide +kernel
theorem dX5_exchangePlaces_1 : decode cX5_exchangePlaces 1 = .ok (.iconst 1, 1) := by decide +kernel
theorem dX5_exchangePlaces_2 : decode cX5_exchangePlaces 2 = .ok (.iadd, 1) := by decide +kernel
theorem dX5_exchangePlaces_3 : decode cX5_exchangePlaces 3 = .ok (.istore_n 3, 1) := by decide +kernel
theorem dX5_exchangePlaces_4 : decode cX5_exchangePlaces 4 = .ok (.iload_n 3, 1) := by decide +kernel
theorem dX5_exchangePlaces_5 : decode cX5_exchangePlaces 5 = .ok (.sipush 1000, 3) := by decide +kernel
theorem dX5_exchangePlaces_8 : decode cX5_exchangePlaces 8 = .ok (.if_icmp .ge 46, 3) := by decide +kernel
theorem dX5_exchangePlaces_11 : decode cX5_exchangePlaces 11 = .ok (.aload_n 0, 1) := by decide +kernel
theorem dX5_exchangePlaces_12 : decode cX5_exchangePlaces 12 = .ok (.aload_n 1, 1) := by decide +kernel
theorem dX5_exchangePlaces_13 : decode cX5_exchangePlaces 13 = .ok (.iload_n 3, 1) := by decide +kernel
theorem dX5_exchangePlaces_14 : decode cX5_exchangePlaces 14 = .ok (.invokestatic 262, 3) := by decide +kernel
theorem dX5_exchangePlaces_17 : decode cX5_exchangePlaces 17 = .ok (.ifCond .eq 37, 3) := by decide +kernel
theorem dX5_exchangePlaces_20 : decode cX5_exchangePlaces 20 = .ok (.aload_n 0, 1) := by decide +kernel
theorem dX5_exchangePlaces_21 : decode cX5_exchangePlaces 21 = .ok (.getfield 130, 3) := by decide +kernel
theorem dX5_exchangePlaces_24 : decode cX5_exchangePlaces 24 = .ok (.iload_n 2, 1) := by decide +kernel
theorem dX5_exchangePlaces_25 : decode cX5_exchangePlaces 25 = .ok (.iaload, 1) := by decide +kernel
theorem dX5_exchangePlaces_26 : decode cX5_exchangePlaces 26 = .ok (.aload_n 1, 1) := by decide +kernel
theorem dX5_exchangePlaces_27 : decode cX5_exchangePlaces 27 = .ok (.getfield 130, 3) := by decide +kernel
theorem dX5_exchangePlaces_30 : decode cX5_exchangePlaces 30 = .ok (.iload_n 3, 1) := by decide +kernel
theorem dX5_exchangePlaces_31 : decode cX5_exchangePlaces 31 = .ok (.iaload, 1) := by decide +kernel
theorem dX5_exchangePlaces_32 : decode cX5_exchangePlaces 32 = .ok (.if_icmp .ne 22, 3) := by decide +kernel
theorem dX5_exchangePlaces_35 : decode cX5_exchangePlaces 35 = .ok (.aload_n 1, 1) := by decide +kernel
theorem dX5_exchangePlaces_36 : decode cX5_exchangePlaces 36 = .ok (.getfield 130, 3) := by decide +kernel
theorem dX5_exchangePlaces_39 : decode cX5_exchangePlaces 39 = .ok (.iload_n 2, 1) := by decide +kernel
theorem dX5_exchangePlaces_40 : decode cX5_exchangePlaces 40 = .ok (.iaload, 1) := by decide +kernel
theorem dX5_exchangePlaces_41 : decode cX5_exchangePlaces 41 = .ok (.aload_n 0, 1) := by decide +kernel
theorem dX5_exchangePlaces_42 : decode cX5_exchangePlaces 42 = .ok (.getfield 130, 3) := by decide +kernel
theorem dX5_exchangePlaces_45 : decode cX5_exchangePlaces 45 = .ok (.iload_n 3, 1) := by decide +kernel
theorem dX5_exchangePlaces_46 : decode cX5_exchangePlaces 46 = .ok (.iaload, 1) := by decide +kernel
theorem dX5_exchangePlaces_47 : decode cX5_exchangePlaces 47 = .ok (.if_icmp .ne 7, 3) := by decide +kernel
theorem dX5_exchangePlaces_50 : decode cX5_exchangePlaces 50 = .ok (.iconst 1, 1) := by decide +kernel
theorem dX5_exchangePlaces_51 : decode cX5_exchangePlaces 51 = .ok (.goto 4, 3) := by decide +kernel
theorem dX5_exchangePlaces_54 : decode cX5_exchangePlaces 54 = .ok (.iconst 0, 1) := by decide +kernel
theorem dX5_exchangePlaces_55 : decode cX5_exchangePlaces 55 = .ok (.ireturn, 1) := by decide +kernel
theorem dX5_findCasting_0 : decode cX5_findCasting 0 = .ok (.aload_n 0, 1) := by decide +kernel
theorem dX5_findCasting_1 : decode cX5_findCasting 1 = .ok (.getfield 29, 3) := by decide +kernel
theorem dX5_findCasting_4 : decode cX5_findCasting 4 = .ok (.ifCond .eq 4, 3) := by decide +kernel
theorem dX5_findCasting_7 : decode cX5_findCasting 7 = .ok (.return_, 1) := by decide +kernel
theorem dX5_findCasting_8 : decode cX5_findCasting 8 = .ok (.iconst 0, 1) := by decide +kernel
theorem dX5_findCasting_9 : decode cX5_findCasting 9 = .ok (.istore_n 1, 1) := by decide +kernel
theorem dX5_findCasting_10 : decode cX5_findCasting 10 = .ok (.iload_n 1, 1) := by decide +kernel
theorem dX5_findCasting_11 : decode cX5_findCasting 11 = .ok (.aload_n 0, 1) := by decide +kernel
theorem dX5_findCasting_12 : decode cX5_findCasting 12 = .ok (.getfield 16, 3) := by decide +kernel
theorem dX5_findCasting_15 : decode cX5_findCasting 15 = .ok (.invokevirtual 48, 3) := by decide +kernel
theorem dX5_findCasting_18 : decode cX5_findCasting 18 = .ok (.if_icmp .ge 23, 3) := by decide +kernel
theorem dX5_findCasting_21 : decode cX5_findCasting 21 = .ok (.aload_n 0, 1) := by decide +kernel
theorem dX5_findCasting_22 : decode cX5_findCasting 22 = .ok (.getfield 16, 3) := by decide +kernel
theorem dX5_findCasting_25 : decode cX5_findCasting 25 = .ok (.iload_n 1, 1) := by decide +kernel
theorem dX5_findCasting_26 : decode cX5_findCasting 26 = .ok (.invokevirtual 137, 3) := by decide +kernel
theorem dX5_findCasting_29 : decode cX5_findCasting 29 = .ok (.checkcast 74, 3) := by decide +kernel
theorem dX5_findCasting_32 : decode cX5_findCasting 32 = .ok (.invokevirtual 269, 3) := by decide +kernel
theorem dX5_findCasting_35 : decode cX5_findCasting 35 = .ok (.iinc 1 1, 3) := by decide +kernel
theorem dX5_findCasting_38 : decode cX5_findCasting 38 = .ok (.goto (-28), 3) := by decide +kernel
theorem dX5_findCasting_41 : decode cX5_findCasting 41 = .ok (.aload_n 0, 1) := by decide +kernel
theorem dX5_findCasting_42 : decode cX5_findCasting 42 = .ok (.invokevirtual 272, 3) := by decide +kernel
theorem dX5_findCasting_45 : decode cX5_findCasting 45 = .ok (.iconst 0, 1) := by decide +kernel
theorem dX5_findCasting_46 : decode cX5_findCasting 46 = .ok (.istore_n 1, 1) := by decide +kernel
theorem dX5_findCasting_47 : decode cX5_findCasting 47 = .ok (.iload_n 1, 1) := by decide +kernel
theorem dX5_findCasting_48 : decode cX5_findCasting 48 = .ok (.aload_n 0, 1) := by decide +kernel
theorem dX5_findCasting_49 : decode cX5_findCasting 49 = .ok (.getfield 22, 3) := by decide +kernel
theorem dX5_findCasting_52 : decode cX5_findCasting 52 = .ok (.invokevirtual 48, 3) := by decide +kernel
theorem dX5_findCasting_55 : decode cX5_findCasting 55 = .ok (.if_icmp .ge 24, 3) := by decide +kernel
theorem dX5_findCasting_58 : decode cX5_findCasting 58 = .ok (.aload_n 0, 1) := by decide +kernel
theorem dX5_findCasting_59 : decode cX5_findCasting 59 = .ok (.aload_n 0, 1) := by decide +kernel
theorem dX5_findCasting_60 : decode cX5_findCasting 60 = .ok (.getfield 22, 3) := by decide +kernel
theorem dX5_findCasting_63 : decode cX5_findCasting 63 = .ok (.iload_n 1, 1) := by decide +kernel
theorem dX5_findCasting_64 : decode cX5_findCasting 64 = .ok (.invokevirtual 137, 3) := by decide +kernel
theorem dX5_findCasting_67 : decode cX5_findCasting 67 = .ok (.checkcast 156, 3) := by decide +kernel
theorem dX5_findCasting_70 : decode cX5_findCasting 70 = .ok (.invokevirtual 275, 3) := by decide +kernel
theorem dX5_findCasting_73 : decode cX5_findCasting 73 = .ok (.iinc 1 1, 3) := by decide +kernel
theorem dX5_findCasting_76 : decode cX5_findCasting 76 = .ok (.goto (-29), 3) := by decide +kernel
theorem dX5_findCasting_79 : decode cX5_findCasting 79 = .ok (.aload_n 0, 1) := by decide +kernel
theorem dX5_findCasting_80 : decode cX5_findCasting 80 = .ok (.iconst 1, 1) := by decide +kernel
theorem dX5_findCasting_81 : decode cX5_findCasting 81 = .ok (.putfield 29, 3) := by decide +kernel
theorem dX5_findCasting_84 : decode cX5_findCasting 84 = .ok (.return_, 1) := by decide +kernel
theorem dX5_orderStays_0 : decode cX5_orderStays 0 = .ok (.aload_n 0, 1) := by decide +kernel
theorem dX5_orderStays_1 : decode cX5_orderStays 1 = .ok (.getfield 22, 3) := by decide +kernel
theorem dX5_orderStays_4 : decode cX5_orderStays 4 = .ok (.invokevirtual 279, 3) := by decide +kernel
theorem dX5_orderStays_7 : decode cX5_orderStays 7 = .ok (.iconst 0, 1) := by decide +kernel
theorem dX5_orderStays_8 : decode cX5_orderStays 8 = .ok (.istore_n 1, 1) := by decide +kernel
theorem dX5_orderStays_9 : decode cX5_orderStays 9 = .ok (.iload_n 1, 1) := by decide +kernel
theorem dX5_orderStays_10 : decode cX5_orderStays 10 = .ok (.aload_n 0, 1) := by decide +kernel
theorem dX5_orderStays_11 : decode cX5_orderStays 11 = .ok (.getfield 10, 3) := by decide +kernel
theorem dX5_orderStays_14 : decode cX5_orderStays 14 = .ok (.invokevirtual 48, 3) := by decide +kernel
theorem dX5_orderStays_17 : decode cX5_orderStays 17 = .ok (.if_icmp .ge 52, 3) := by decide +kernel
theorem dX5_orderStays_20 : decode cX5_orderStays 20 = .ok (.aload_n 0, 1) := by decide +kernel
theorem dX5_orderStays_21 : decode cX5_orderStays 21 = .ok (.getfield 10, 3) := by decide +kernel
theorem dX5_orderStays_24 : decode cX5_orderStays 24 = .ok (.iload_n 1, 1) := by decide +kernel
theorem dX5_orderStays_25 : decode cX5_orderStays 25 = .ok (.invokevirtual 137, 3) := by decide +kernel
theorem dX5_orderStays_28 : decode cX5_orderStays 28 = .ok (.checkcast 57, 3) := by decide +kernel
theorem dX5_orderStays_31 : decode cX5_orderStays 31 = .ok (.getfield 153, 3) := by decide +kernel
theorem dX5_orderStays_34 : decode cX5_orderStays 34 = .ok (.astore_n 2, 1) := by decide +kernel
theorem dX5_orderStays_35 : decode cX5_orderStays 35 = .ok (.iconst 0, 1) := by decide +kernel
theorem dX5_orderStays_36 : decode cX5_orderStays 36 = .ok (.istore_n 3, 1) := by decide +kernel
theorem dX5_orderStays_37 : decode cX5_orderStays 37 = .ok (.iload_n 3, 1) := by decide +kernel
theorem dX5_orderStays_38 : decode cX5_orderStays 38 = .ok (.aload_n 2, 1) := by decide +kernel
theorem dX5_orderStays_39 : decode cX5_orderStays 39 = .ok (.invokevirtual 48, 3) := by decide +kernel
theorem dX5_orderStays_42 : decode cX5_orderStays 42 = .ok (.if_icmp .ge 21, 3) := by decide +kernel
theorem dX5_orderStays_45 : decode cX5_orderStays 45 = .ok (.aload_n 0, 1) := by decide +kernel
theorem dX5_orderStays_46 : decode cX5_orderStays 46 = .ok (.aload_n 2, 1) := by decide +kernel
theorem dX5_orderStays_47 : decode cX5_orderStays 47 = .ok (.iload_n 3, 1) := by decide +kernel
theorem dX5_orderStays_48 : decode cX5_orderStays 48 = .ok (.invokevirtual 137, 3) := by decide +kernel
theorem dX5_orderStays_51 : decode cX5_orderStays 51 = .ok (.checkcast 156, 3) := by decide +kernel
theorem dX5_orderStays_54 : decode cX5_orderStays 54 = .ok (.invokevirtual 282, 3) := by decide +kernel
theorem dX5_orderStays_57 : decode cX5_orderStays 57 = .ok (.iinc 3 1, 3) := by decide +kernel
theorem dX5_orderStays_60 : decode cX5_orderStays 60 = .ok (.goto (-23), 3) := by decide +kernel
theorem dX5_orderStays_63 : decode cX5_orderStays 63 = .ok (.iinc 1 1, 3) := by decide +kernel
theorem dX5_orderStays_66 : decode cX5_orderStays 66 = .ok (.goto (-57), 3) := by decide +kernel
theorem dX5_orderStays_69 : decode cX5_orderStays 69 = .ok (.return_, 1) := by decide +kernel
theorem dX5_putInOrder_0 : decode cX5_putInOrder 0 = .ok (.aload_n 0, 1) := by decide +kernel
theorem dX5_putInOrder_1 : decode cX5_putInOrder 1 = .ok (.getfield 22, 3) := by decide +kernel
theorem dX5_putInOrder_4 : decode cX5_putInOrder 4 = .ok (.invokevirtual 48, 3) := by decide +kernel
theorem dX5_putInOrder_7 : decode cX5_putInOrder 7 = .ok (.istore_n 2, 1) := by decide +kernel
theorem dX5_putInOrder_8 : decode cX5_putInOrder 8 = .ok (.iload_n 2, 1) := by decide +kernel
theorem dX5_putInOrder_9 : decode cX5_putInOrder 9 = .ok (.ifCond .le 32, 3) := by decide +kernel
theorem dX5_putInOrder_12 : decode cX5_putInOrder 12 = .ok (.aload_n 0, 1) := by decide +kernel
theorem dX5_putInOrder_13 : decode cX5_putInOrder 13 = .ok (.getfield 22, 3) := by decide +kernel
theorem dX5_putInOrder_16 : decode cX5_putInOrder 16 = .ok (.iload_n 2, 1) := by decide +kernel
theorem dX5_putInOrder_17 : decode cX5_putInOrder 17 = .ok (.iconst 1, 1) := by decide +kernel
theorem dX5_putInOrder_18 : decode cX5_putInOrder 18 = .ok (.isub, 1) := by decide +kernel
theorem dX5_putInOrder_19 : decode cX5_putInOrder 19 = .ok (.invokevirtual 137, 3) := by decide +kernel
theorem dX5_putInOrder_22 : decode cX5_putInOrder 22 = .ok (.checkcast 156, 3) := by decide +kernel
theorem dX5_putInOrder_25 : decode cX5_putInOrder 25 = .ok (.getfield 161, 3) := by decide +kernel
theorem dX5_putInOrder_28 : decode cX5_putInOrder 28 = .ok (.aload_n 1, 1) := by decide +kernel
theorem dX5_putInOrder_29 : decode cX5_putInOrder 29 = .ok (.getfield 161, 3) := by decide +kernel
theorem dX5_putInOrder_32 : decode cX5_putInOrder 32 = .ok (.if_icmp .le 9, 3) := by decide +kernel
theorem dX5_putInOrder_35 : decode cX5_putInOrder 35 = .ok (.iinc 2 (-1), 3) := by decide +kernel
theorem dX5_putInOrder_38 : decode cX5_putInOrder 38 = .ok (.goto (-30), 3) := by decide +kernel
theorem dX5_putInOrder_41 : decode cX5_putInOrder 41 = .ok (.aload_n 0, 1) := by decide +kernel
theorem dX5_putInOrder_42 : decode cX5_putInOrder 42 = .ok (.getfield 22, 3) := by decide +kernel
theorem dX5_putInOrder_45 : decode cX5_putInOrder 45 = .ok (.iload_n 2, 1) := by decide +kernel
theorem dX5_putInOrder_46 : decode cX5_putInOrder 46 = .ok (.aload_n 1, 1) := by decide +kernel
theorem dX5_putInOrder_47 : decode cX5_putInOrder 47 = .ok (.invokevirtual 285, 3) := by decide +kernel
theorem dX5_putInOrder_50 : decode cX5_putInOrder 50 = .ok (.return_, 1) := by decide +kernel
theorem dX5_namePlayer_0 : decode cX5_namePlayer 0 = .ok (.aload_n 1, 1) := by decide +kernel
theorem dX5_namePlayer_1 : decode cX5_namePlayer 1 = .ok (.iconst (-1), 1) := by decide +kernel
theorem dX5_namePlayer_2 : decode cX5_namePlayer 2 = .ok (.putfield 173, 3) := by decide +kernel
theorem dX5_namePlayer_5 : decode cX5_namePlayer 5 = .ok (.iconst 0, 1) := by decide +kernel
theorem dX5_namePlayer_6 : decode cX5_namePlayer 6 = .ok (.istore_n 2, 1) := by decide +kernel
theorem dX5_namePlayer_7 : decode cX5_namePlayer 7 = .ok (.iload_n 2, 1) := by decide +kernel
theorem dX5_namePlayer_8 : decode cX5_namePlayer 8 = .ok (.aload_n 0, 1) := by decide +kernel
theorem dX5_namePlayer_9 : decode cX5_namePlayer 9 = .ok (.getfield 16, 3) := by decide +kernel
theorem dX5_namePlayer_12 : decode cX5_namePlayer 12 = .ok (.invokevirtual 48, 3) := by decide +kernel
theorem dX5_namePlayer_15 : decode cX5_namePlayer 15 = .ok (.if_icmp .ge 41, 3) := by decide +kernel
theorem dX5_namePlayer_18 : decode cX5_namePlayer 18 = .ok (.aload_n 0, 1) := by decide +kernel
theorem dX5_namePlayer_19 : decode cX5_namePlayer 19 = .ok (.getfield 16, 3) := by decide +kernel
theorem dX5_namePlayer_22 : decode cX5_namePlayer 22 = .ok (.iload_n 2, 1) := by decide +kernel
theorem dX5_namePlayer_23 : decode cX5_namePlayer 23 = .ok (.invokevirtual 137, 3) := by decide +kernel
theorem dX5_namePlayer_26 : decode cX5_namePlayer 26 = .ok (.checkcast 74, 3) := by decide +kernel
theorem dX5_namePlayer_29 : decode cX5_namePlayer 29 = .ok (.astore_n 3, 1) := by decide +kernel
theorem dX5_namePlayer_30 : decode cX5_namePlayer 30 = .ok (.aload_n 0, 1) := by decide +kernel
theorem dX5_namePlayer_31 : decode cX5_namePlayer 31 = .ok (.aload_n 3, 1) := by decide +kernel
theorem dX5_namePlayer_32 : decode cX5_namePlayer 32 = .ok (.aload_n 1, 1) := by decide +kernel
theorem dX5_namePlayer_33 : decode cX5_namePlayer 33 = .ok (.invokevirtual 288, 3) := by decide +kernel
theorem dX5_namePlayer_36 : decode cX5_namePlayer 36 = .ok (.ifCond .eq 14, 3) := by decide +kernel
theorem dX5_namePlayer_39 : decode cX5_namePlayer 39 = .ok (.aload_n 3, 1) := by decide +kernel
theorem dX5_namePlayer_40 : decode cX5_namePlayer 40 = .ok (.aload_n 1, 1) := by decide +kernel
theorem dX5_namePlayer_41 : decode cX5_namePlayer 41 = .ok (.invokevirtual 292, 3) := by decide +kernel
theorem dX5_namePlayer_44 : decode cX5_namePlayer 44 = .ok (.aload_n 1, 1) := by decide +kernel
theorem dX5_namePlayer_45 : decode cX5_namePlayer 45 = .ok (.iload_n 2, 1) := by decide +kernel
theorem dX5_namePlayer_46 : decode cX5_namePlayer 46 = .ok (.putfield 173, 3) := by decide +kernel
theorem dX5_namePlayer_49 : decode cX5_namePlayer 49 = .ok (.return_, 1) := by decide +kernel
theorem dX5_namePlayer_50 : decode cX5_namePlayer 50 = .ok (.iinc 2 1, 3) := by decide +kernel
theorem dX5_namePlayer_53 : decode cX5_namePlayer 53 = .ok (.goto (-46), 3) := by decide +kernel
theorem dX5_namePlayer_56 : decode cX5_namePlayer 56 = .ok (.return_, 1) := by decide +kernel
theorem dX5_canDo_0 : decode cX5_canDo 0 = .ok (.aload_n 0, 1) := by decide +kernel
theorem dX5_canDo_1 : decode cX5_canDo 1 = .ok (.aload_n 1, 1) := by decide +kernel
theorem dX5_canDo_2 : decode cX5_canDo 2 = .ok (.aload_n 2, 1) := by decide +kernel
theorem dX5_canDo_3 : decode cX5_canDo 3 = .ok (.invokevirtual 295, 3) := by decide +kernel
theorem dX5_canDo_6 : decode cX5_canDo 6 = .ok (.ifCond .ne 5, 3) := by decide +kernel
theorem dX5_canDo_9 : decode cX5_canDo 9 = .ok (.iconst 0, 1) := by decide +kernel
theorem dX5_canDo_10 : decode cX5_canDo 10 = .ok (.ireturn, 1) := by decide +kernel
theorem dX5_canDo_11 : decode cX5_canDo 11 = .ok (.aload_n 2, 1) := by decide +kernel
theorem dX5_canDo_12 : decode cX5_canDo 12 = .ok (.getfield 161, 3) := by decide +kernel
theorem dX5_canDo_15 : decode cX5_canDo 15 = .ok (.istore_n 3, 1) := by decide +kernel
theorem dX5_canDo_16 : decode cX5_canDo 16 = .ok (.iload_n 3, 1) := by decide +kernel
theorem dX5_canDo_17 : decode cX5_canDo 17 = .ok (.aload_n 2, 1) := by decide +kernel
theorem dX5_canDo_18 : decode cX5_canDo 18 = .ok (.getfield 158, 3) := by decide +kernel
theorem dX5_canDo_21 : decode cX5_canDo 21 = .ok (.if_icmp .ge 24, 3) := by decide +kernel
theorem dX5_canDo_24 : decode cX5_canDo 24 = .ok (.aload_n 0, 1) := by decide +kernel
theorem dX5_canDo_25 : decode cX5_canDo 25 = .ok (.aload_n 1, 1) := by decide +kernel
theorem dX5_canDo_26 : decode cX5_canDo 26 = .ok (.aload_n 2, 1) := by decide +kernel
theorem dX5_canDo_27 : decode cX5_canDo 27 = .ok (.getfield 298, 3) := by decide +kernel
theorem dX5_canDo_30 : decode cX5_canDo 30 = .ok (.iload_n 3, 1) := by decide +kernel
theorem dX5_canDo_31 : decode cX5_canDo 31 = .ok (.invokevirtual 299, 3) := by decide +kernel
theorem dX5_canDo_34 : decode cX5_canDo 34 = .ok (.ifCond .ne 5, 3) := by decide +kernel
theorem dX5_canDo_37 : decode cX5_canDo 37 = .ok (.iconst 0, 1) := by decide +kernel
theorem dX5_canDo_38 : decode cX5_canDo 38 = .ok (.ireturn, 1) := by decide +kernel
theorem dX5_canDo_39 : decode cX5_canDo 39 = .ok (.iinc 3 1, 3) := by decide +kernel
theorem dX5_canDo_42 : decode cX5_canDo 42 = .ok (.goto (-26), 3) := by decide +kernel
theorem dX5_canDo_45 : decode cX5_canDo 45 = .ok (.iconst 1, 1) := by decide +kernel
theorem dX5_canDo_46 : decode cX5_canDo 46 = .ok (.ireturn, 1) := by decide +kernel
theorem dX5_canComeToBeginning_0 : decode cX5_canComeToBeginning 0 = .ok (.aload_n 2, 1) := by decide +kernel
theorem dX5_canComeToBeginning_1 : decode cX5_canComeToBeginning 1 = .ok (.getfield 298, 3) := by decide +kernel
theorem dX5_canComeToBeginning_4 : decode cX5_canComeToBeginning 4 = .ok (.getfield 130, 3) := by decide +kernel
theorem dX5_canComeToBeginning_7 : decode cX5_canComeToBeginning 7 = .ok (.aload_n 2, 1) := by decide +kernel
theorem dX5_canComeToBeginning_8 : decode cX5_canComeToBeginning 8 = .ok (.getfield 161, 3) := by decide +kernel
theorem dX5_canComeToBeginning_11 : decode cX5_canComeToBeginning 11 = .ok (.iaload, 1) := by decide +kernel
theorem dX5_canComeToBeginning_12 : decode cX5_canComeToBeginning 12 = .ok (.istore_n 3, 1) := by decide +kernel
theorem dX5_canComeToBeginning_13 : decode cX5_canComeToBeginning 13 = .ok (.aload_n 2, 1) := by decide +kernel
theorem dX5_canComeToBeginning_14 : decode cX5_canComeToBeginning 14 = .ok (.getfield 161, 3) := by decide +kernel
theorem dX5_canComeToBeginning_17 : decode cX5_canComeToBeginning 17 = .ok (.iconst 1, 1) := by decide +kernel
theorem dX5_canComeToBeginning_18 : decode cX5_canComeToBeginning 18 = .ok (.isub, 1) := by decide +kernel
theorem dX5_canComeToBeginning_19 : decode cX5_canComeToBeginning 19 = .ok (.istore 4, 2) := by decide +kernel
theorem dX5_canComeToBeginning_21 : decode cX5_canComeToBeginning 21 = .ok (.iload 4, 2) := by decide +kernel
theorem dX5_canComeToBeginning_23 : decode cX5_canComeToBeginning 23 = .ok (.ifCond .lt 46, 3) := by decide +kernel
theorem dX5_canComeToBeginning_26 : decode cX5_canComeToBeginning 26 = .ok (.aload_n 1, 1) := by decide +kernel
theorem dX5_canComeToBeginning_27 : decode cX5_canComeToBeginning 27 = .ok (.getfield 180, 3) := by decide +kernel
theorem dX5_canComeToBeginning_30 : decode cX5_canComeToBeginning 30 = .ok (.iload 4, 2) := by decide +kernel
theorem dX5_canComeToBeginning_32 : decode cX5_canComeToBeginning 32 = .ok (.iaload, 1) := by decide +kernel
theorem dX5_canComeToBeginning_33 : decode cX5_canComeToBeginning 33 = .ok (.ifCond .eq 30, 3) := by decide +kernel
theorem dX5_canComeToBeginning_36 : decode cX5_canComeToBeginning 36 = .ok (.aload_n 0, 1) := by decide +kernel
theorem dX5_canComeToBeginning_37 : decode cX5_canComeToBeginning 37 = .ok (.aload_n 1, 1) := by decide +kernel
theorem dX5_canComeToBeginning_38 : decode cX5_canComeToBeginning 38 = .ok (.iload 4, 2) := by decide +kernel
theorem dX5_canComeToBeginning_40 : decode cX5_canComeToBeginning 40 = .ok (.invokevirtual 303, 3) := by decide +kernel
theorem dX5_canComeToBeginning_43 : decode cX5_canComeToBeginning 43 = .ok (.iload_n 3, 1) := by decide +kernel
theorem dX5_canComeToBeginning_44 : decode cX5_canComeToBeginning 44 = .ok (.invokestatic 307, 3) := by decide +kernel
theorem dX5_canComeToBeginning_47 : decode cX5_canComeToBeginning 47 = .ok (.aload_n 2, 1) := by decide +kernel
theorem dX5_canComeToBeginning_48 : decode cX5_canComeToBeginning 48 = .ok (.getfield 161, 3) := by decide +kernel
theorem dX5_canComeToBeginning_51 : decode cX5_canComeToBeginning 51 = .ok (.iload 4, 2) := by decide +kernel
theorem dX5_canComeToBeginning_53 : decode cX5_canComeToBeginning 53 = .ok (.isub, 1) := by decide +kernel
theorem dX5_canComeToBeginning_54 : decode cX5_canComeToBeginning 54 = .ok (.if_icmp .gt 7, 3) := by decide +kernel
theorem dX5_canComeToBeginning_57 : decode cX5_canComeToBeginning 57 = .ok (.iconst 1, 1) := by decide +kernel
theorem dX5_canComeToBeginning_58 : decode cX5_canComeToBeginning 58 = .ok (.goto 4, 3) := by decide +kernel
theorem dX5_canComeToBeginning_61 : decode cX5_canComeToBeginning 61 = .ok (.iconst 0, 1) := by decide +kernel
theorem dX5_canComeToBeginning_62 : decode cX5_canComeToBeginning 62 = .ok (.ireturn, 1) := by decide +kernel
theorem dX5_canComeToBeginning_63 : decode cX5_canComeToBeginning 63 = .ok (.iinc 4 (-1), 3) := by decide +kernel
theorem dX5_canComeToBeginning_66 : decode cX5_canComeToBeginning 66 = .ok (.goto (-45), 3) := by decide +kernel
theorem dX5_canComeToBeginning_69 : decode cX5_canComeToBeginning 69 = .ok (.aload_n 1, 1) := by decide +kernel
theorem dX5_canComeToBeginning_70 : decode cX5_canComeToBeginning 70 = .ok (.getfield 311, 3) := by decide +kernel
theorem dX5_canComeToBeginning_73 : decode cX5_canComeToBeginning 73 = .ok (.iload_n 3, 1) := by decide +kernel
theorem dX5_canComeToBeginning_74 : decode cX5_canComeToBeginning 74 = .ok (.invokestatic 307, 3) := by decide +kernel
theorem dX5_canComeToBeginning_77 : decode cX5_canComeToBeginning 77 = .ok (.aload_n 2, 1) := by decide +kernel
theorem dX5_canComeToBeginning_78 : decode cX5_canComeToBeginning 78 = .ok (.getfield 161, 3) := by decide +kernel
theorem dX5_canComeToBeginning_81 : decode cX5_canComeToBeginning 81 = .ok (.if_icmp .gt 7, 3) := by decide +kernel
theorem dX5_canComeToBeginning_84 : decode cX5_canComeToBeginning 84 = .ok (.iconst 1, 1) := by decide +kernel
theorem dX5_canComeToBeginning_85 : decode cX5_canComeToBeginning 85 = .ok (.goto 4, 3) := by decide +kernel
theorem dX5_canComeToBeginning_88 : decode cX5_canComeToBeginning 88 = .ok (.iconst 0, 1) := by decide +kernel
theorem dX5_canComeToBeginning_89 : decode cX5_canComeToBeginning 89 = .ok (.ireturn, 1) := by decide +kernel
theorem dX5_placeOfHeld_0 : decode cX5_placeOfHeld 0 = .ok (.iconst 0, 1) := by decide +kernel
theorem dX5_placeOfHeld_1 : decode cX5_placeOfHeld 1 = .ok (.istore_n 3, 1) := by decide +kernel
theorem dX5_placeOfHeld_2 : decode cX5_placeOfHeld 2 = .ok (.iload_n 3, 1) := by decide +kernel
theorem dX5_placeOfHeld_3 : decode cX5_placeOfHeld 3 = .ok (.aload_n 0, 1) := by decide +kernel
theorem dX5_placeOfHeld_4 : decode cX5_placeOfHeld 4 = .ok (.getfield 10, 3) := by decide +kernel
theorem dX5_placeOfHeld_7 : decode cX5_placeOfHeld 7 = .ok (.invokevirtual 48, 3) := by decide +kernel
theorem dX5_placeOfHeld_10 : decode cX5_placeOfHeld 10 = .ok (.if_icmp .ge 45, 3) := by decide +kernel
theorem dX5_placeOfHeld_13 : decode cX5_placeOfHeld 13 = .ok (.aload_n 1, 1) := by decide +kernel
theorem dX5_placeOfHeld_14 : decode cX5_placeOfHeld 14 = .ok (.aload_n 0, 1) := by decide +kernel
theorem dX5_placeOfHeld_15 : decode cX5_placeOfHeld 15 = .ok (.getfield 10, 3) := by decide +kernel
theorem dX5_placeOfHeld_18 : decode cX5_placeOfHeld 18 = .ok (.iload_n 3, 1) := by decide +kernel
theorem dX5_placeOfHeld_19 : decode cX5_placeOfHeld 19 = .ok (.invokevirtual 137, 3) := by decide +kernel
theorem dX5_placeOfHeld_22 : decode cX5_placeOfHeld 22 = .ok (.checkcast 57, 3) := by decide +kernel
theorem dX5_placeOfHeld_25 : decode cX5_placeOfHeld 25 = .ok (.iload_n 2, 1) := by decide +kernel
theorem dX5_placeOfHeld_26 : decode cX5_placeOfHeld 26 = .ok (.invokevirtual 314, 3) := by decide +kernel
theorem dX5_placeOfHeld_29 : decode cX5_placeOfHeld 29 = .ok (.ifCond .eq 20, 3) := by decide +kernel
theorem dX5_placeOfHeld_32 : decode cX5_placeOfHeld 32 = .ok (.aload_n 0, 1) := by decide +kernel
theorem dX5_placeOfHeld_33 : decode cX5_placeOfHeld 33 = .ok (.getfield 10, 3) := by decide +kernel
theorem dX5_placeOfHeld_36 : decode cX5_placeOfHeld 36 = .ok (.iload_n 3, 1) := by decide +kernel
theorem dX5_placeOfHeld_37 : decode cX5_placeOfHeld 37 = .ok (.invokevirtual 137, 3) := by decide +kernel
theorem dX5_placeOfHeld_40 : decode cX5_placeOfHeld 40 = .ok (.checkcast 57, 3) := by decide +kernel
theorem dX5_placeOfHeld_43 : decode cX5_placeOfHeld 43 = .ok (.getfield 130, 3) := by decide +kernel
theorem dX5_placeOfHeld_46 : decode cX5_placeOfHeld 46 = .ok (.iload_n 2, 1) := by decide +kernel
theorem dX5_placeOfHeld_47 : decode cX5_placeOfHeld 47 = .ok (.iaload, 1) := by decide +kernel
theorem dX5_placeOfHeld_48 : decode cX5_placeOfHeld 48 = .ok (.ireturn, 1) := by decide +kernel
theorem dX5_placeOfHeld_49 : decode cX5_placeOfHeld 49 = .ok (.iinc 3 1, 3) := by decide +kernel
theorem dX5_placeOfHeld_52 : decode cX5_placeOfHeld 52 = .ok (.goto (-50), 3) := by decide +kernel
theorem dX5_placeOfHeld_55 : decode cX5_placeOfHeld 55 = .ok (.aload_n 1, 1) := by decide +kernel
theorem dX5_placeOfHeld_56 : decode cX5_placeOfHeld 56 = .ok (.getfield 311, 3) := by decide +kernel
theorem dX5_placeOfHeld_59 : decode cX5_placeOfHeld 59 = .ok (.ireturn, 1) := by decide +kernel
theorem dX5_canHold_0 : decode cX5_canHold 0 = .ok (.aload_n 1, 1) := by decide +kernel
theorem dX5_canHold_1 : decode cX5_canHold 1 = .ok (.getfield 180, 3) := by decide +kernel
theorem dX5_canHold_4 : decode cX5_canHold 4 = .ok (.iload_n 3, 1) := by decide +kernel
theorem dX5_canHold_5 : decode cX5_canHold 5 = .ok (.iaload, 1) := by decide +kernel
theorem dX5_canHold_6 : decode cX5_canHold 6 = .ok (.ifCond .ne 20, 3) := by decide +kernel
theorem dX5_canHold_9 : decode cX5_canHold 9 = .ok (.aload_n 2, 1) := by decide +kernel
theorem dX5_canHold_10 : decode cX5_canHold 10 = .ok (.getfield 318, 3) := by decide +kernel
theorem dX5_canHold_13 : decode cX5_canHold 13 = .ok (.aload_n 1, 1) := by decide +kernel
theorem dX5_canHold_14 : decode cX5_canHold 14 = .ok (.getfield 321, 3) := by decide +kernel
theorem dX5_canHold_17 : decode cX5_canHold 17 = .ok (.if_icmp .gt 7, 3) := by decide +kernel
theorem dX5_canHold_20 : decode cX5_canHold 20 = .ok (.iconst 1, 1) := by decide +kernel
theorem dX5_canHold_21 : decode cX5_canHold 21 = .ok (.goto 4, 3) := by decide +kernel
theorem dX5_canHold_24 : decode cX5_canHold 24 = .ok (.iconst 0, 1) := by decide +kernel
theorem dX5_canHold_25 : decode cX5_canHold 25 = .ok (.ireturn, 1) := by decide +kernel
theorem dX5_canHold_26 : decode cX5_canHold 26 = .ok (.aload_n 2, 1) := by decide +kernel
theorem dX5_canHold_27 : decode cX5_canHold 27 = .ok (.getfield 324, 3) := by decide +kernel
theorem dX5_canHold_30 : decode cX5_canHold 30 = .ok (.istore 4, 2) := by decide +kernel
theorem dX5_canHold_32 : decode cX5_canHold 32 = .ok (.aload_n 2, 1) := by decide +kernel
theorem dX5_canHold_33 : decode cX5_canHold 33 = .ok (.getfield 318, 3) := by decide +kernel
theorem dX5_canHold_36 : decode cX5_canHold 36 = .ok (.istore 5, 2) := by decide +kernel
theorem dX5_canHold_38 : decode cX5_canHold 38 = .ok (.iconst 0, 1) := by decide +kernel
theorem dX5_canHold_39 : decode cX5_canHold 39 = .ok (.istore 6, 2) := by decide +kernel
theorem dX5_canHold_41 : decode cX5_canHold 41 = .ok (.iload 6, 2) := by decide +kernel
theorem dX5_canHold_43 : decode cX5_canHold 43 = .ok (.aload_n 0, 1) := by decide +kernel
theorem dX5_canHold_44 : decode cX5_canHold 44 = .ok (.getfield 10, 3) := by decide +kernel
theorem dX5_canHold_47 : decode cX5_canHold 47 = .ok (.invokevirtual 48, 3) := by decide +kernel
theorem dX5_canHold_50 : decode cX5_canHold 50 = .ok (.if_icmp .ge 71, 3) := by decide +kernel
theorem dX5_canHold_53 : decode cX5_canHold 53 = .ok (.aload_n 0, 1) := by decide +kernel
theorem dX5_canHold_54 : decode cX5_canHold 54 = .ok (.getfield 10, 3) := by decide +kernel
theorem dX5_canHold_57 : decode cX5_canHold 57 = .ok (.iload 6, 2) := by decide +kernel
theorem dX5_canHold_59 : decode cX5_canHold 59 = .ok (.invokevirtual 137, 3) := by decide +kernel
theorem dX5_canHold_62 : decode cX5_canHold 62 = .ok (.checkcast 57, 3) := by decide +kernel
theorem dX5_canHold_65 : decode cX5_canHold 65 = .ok (.astore 7, 2) := by decide +kernel
theorem dX5_canHold_67 : decode cX5_canHold 67 = .ok (.aload_n 1, 1) := by decide +kernel
theorem dX5_canHold_68 : decode cX5_canHold 68 = .ok (.aload 7, 2) := by decide +kernel
theorem dX5_canHold_70 : decode cX5_canHold 70 = .ok (.iload_n 3, 1) := by decide +kernel
theorem dX5_canHold_71 : decode cX5_canHold 71 = .ok (.invokevirtual 314, 3) := by decide +kernel
theorem dX5_canHold_74 : decode cX5_canHold 74 = .ok (.ifCond .eq 41, 3) := by decide +kernel
theorem dX5_canHold_77 : decode cX5_canHold 77 = .ok (.iload 4, 2) := by decide +kernel
theorem dX5_canHold_79 : decode cX5_canHold 79 = .ok (.aload 7, 2) := by decide +kernel
theorem dX5_canHold_81 : decode cX5_canHold 81 = .ok (.getfield 324, 3) := by decide +kernel
theorem dX5_canHold_84 : decode cX5_canHold 84 = .ok (.iadd, 1) := by decide +kernel
theorem dX5_canHold_85 : decode cX5_canHold 85 = .ok (.istore 4, 2) := by decide +kernel
theorem dX5_canHold_87 : decode cX5_canHold 87 = .ok (.iload 5, 2) := by decide +kernel
theorem dX5_canHold_89 : decode cX5_canHold 89 = .ok (.aload 7, 2) := by decide +kernel
theorem dX5_canHold_91 : decode cX5_canHold 91 = .ok (.getfield 318, 3) := by decide +kernel
theorem dX5_canHold_94 : decode cX5_canHold 94 = .ok (.iadd, 1) := by decide +kernel
theorem dX5_canHold_95 : decode cX5_canHold 95 = .ok (.istore 5, 2) := by decide +kernel
theorem dX5_canHold_97 : decode cX5_canHold 97 = .ok (.aload 7, 2) := by decide +kernel
theorem dX5_canHold_99 : decode cX5_canHold 99 = .ok (.getfield 130, 3) := by decide +kernel
theorem dX5_canHold_102 : decode cX5_canHold 102 = .ok (.iload_n 3, 1) := by decide +kernel
theorem dX5_canHold_103 : decode cX5_canHold 103 = .ok (.iaload, 1) := by decide +kernel
theorem dX5_canHold_104 : decode cX5_canHold 104 = .ok (.aload_n 2, 1) := by decide +kernel
theorem dX5_canHold_105 : decode cX5_canHold 105 = .ok (.getfield 130, 3) := by decide +kernel
theorem dX5_canHold_108 : decode cX5_canHold 108 = .ok (.iload_n 3, 1) := by decide +kernel
theorem dX5_canHold_109 : decode cX5_canHold 109 = .ok (.iaload, 1) := by decide +kernel
theorem dX5_canHold_110 : decode cX5_canHold 110 = .ok (.if_icmp .eq 5, 3) := by decide +kernel
theorem dX5_canHold_113 : decode cX5_canHold 113 = .ok (.iconst 0, 1) := by decide +kernel
theorem dX5_canHold_114 : decode cX5_canHold 114 = .ok (.ireturn, 1) := by decide +kernel
theorem dX5_canHold_115 : decode cX5_canHold 115 = .ok (.iinc 6 1, 3) := by decide +kernel
theorem dX5_canHold_118 : decode cX5_canHold 118 = .ok (.goto (-77), 3) := by decide +kernel
theorem dX5_canHold_121 : decode cX5_canHold 121 = .ok (.iload 4, 2) := by decide +kernel
theorem dX5_canHold_123 : decode cX5_canHold 123 = .ok (.iconst 2, 1) := by decide +kernel
theorem dX5_canHold_124 : decode cX5_canHold 124 = .ok (.if_icmp .gt 16, 3) := by decide +kernel
theorem dX5_canHold_127 : decode cX5_canHold 127 = .ok (.iload 5, 2) := by decide +kernel
theorem dX5_canHold_129 : decode cX5_canHold 129 = .ok (.aload_n 1, 1) := by decide +kernel
theorem dX5_canHold_130 : decode cX5_canHold 130 = .ok (.getfield 321, 3) := by decide +kernel
theorem dX5_canHold_133 : decode cX5_canHold 133 = .ok (.if_icmp .gt 7, 3) := by decide +kernel
theorem dX5_canHold_136 : decode cX5_canHold 136 = .ok (.iconst 1, 1) := by decide +kernel
theorem dX5_canHold_137 : decode cX5_canHold 137 = .ok (.goto 4, 3) := by decide +kernel
theorem dX5_canHold_140 : decode cX5_canHold 140 = .ok (.iconst 0, 1) := by decide +kernel
theorem dX5_canHold_141 : decode cX5_canHold 141 = .ok (.ireturn, 1) := by decide +kernel
theorem dX5_digestWith_0 : decode cX5_digestWith 0 = .ok (.lload_n 0, 1) := by decide +kernel
theorem dX5_digestWith_1 : decode cX5_digestWith 1 = .ok (.ldc2_w 327, 3) := by decide +kernel
theorem dX5_digestWith_4 : decode cX5_digestWith 4 = .ok (.lmul, 1) := by decide +kernel
theorem dX5_digestWith_5 : decode cX5_digestWith 5 = .ok (.iload_n 2, 1) := by decide +kernel
theorem dX5_digestWith_6 : decode cX5_digestWith 6 = .ok (.i2l, 1) := by decide +kernel
theorem dX5_digestWith_7 : decode cX5_digestWith 7 = .ok (.ladd, 1) := by decide +kernel
theorem dX5_digestWith_8 : decode cX5_digestWith 8 = .ok (.lreturn, 1) := by decide +kernel
theorem dX5_digestWithStays_0 : decode cX5_digestWithStays 0 = .ok (.lload_n 0, 1) := by decide +kernel
theorem dX5_digestWithStays_1 : decode cX5_digestWithStays 1 = .ok (.aload_n 2, 1) := by decide +kernel
theorem dX5_digestWithStays_2 : decode cX5_digestWithStays 2 = .ok (.invokevirtual 48, 3) := by decide +kernel
theorem dX5_digestWithStays_5 : decode cX5_digestWithStays 5 = .ok (.invokestatic 207, 3) := by decide +kernel
theorem dX5_digestWithStays_8 : decode cX5_digestWithStays 8 = .ok (.lstore_n 3, 1) := by decide +kernel
theorem dX5_digestWithStays_9 : decode cX5_digestWithStays 9 = .ok (.iconst 0, 1) := by decide +kernel
theorem dX5_digestWithStays_10 : decode cX5_digestWithStays 10 = .ok (.istore 5, 2) := by decide +kernel
theorem dX5_digestWithStays_12 : decode cX5_digestWithStays 12 = .ok (.iload 5, 2) := by decide +kernel
theorem dX5_digestWithStays_14 : decode cX5_digestWithStays 14 = .ok (.aload_n 2, 1) := by decide +kernel
theorem dX5_digestWithStays_15 : decode cX5_digestWithStays 15 = .ok (.invokevirtual 48, 3) := by decide +kernel
theorem dX5_digestWithStays_18 : decode cX5_digestWithStays 18 = .ok (.if_icmp .ge 43, 3) := by decide +kernel
theorem dX5_digestWithStays_21 : decode cX5_digestWithStays 21 = .ok (.iconst 0, 1) := by decide +kernel
theorem dX5_digestWithStays_22 : decode cX5_digestWithStays 22 = .ok (.istore 6, 2) := by decide +kernel
theorem dX5_digestWithStays_24 : decode cX5_digestWithStays 24 = .ok (.iload 6, 2) := by decide +kernel
theorem dX5_digestWithStays_26 : decode cX5_digestWithStays 26 = .ok (.iconst 3, 1) := by decide +kernel
theorem dX5_digestWithStays_27 : decode cX5_digestWithStays 27 = .ok (.if_icmp .ge 28, 3) := by decide +kernel
theorem dX5_digestWithStays_30 : decode cX5_digestWithStays 30 = .ok (.lload_n 3, 1) := by decide +kernel
theorem dX5_digestWithStays_31 : decode cX5_digestWithStays 31 = .ok (.aload_n 2, 1) := by decide +kernel
theorem dX5_digestWithStays_32 : decode cX5_digestWithStays 32 = .ok (.iload 5, 2) := by decide +kernel
theorem dX5_digestWithStays_34 : decode cX5_digestWithStays 34 = .ok (.invokevirtual 137, 3) := by decide +kernel
theorem dX5_digestWithStays_37 : decode cX5_digestWithStays 37 = .ok (.checkcast 156, 3) := by decide +kernel
theorem dX5_digestWithStays_40 : decode cX5_digestWithStays 40 = .ok (.iload 6, 2) := by decide +kernel
theorem dX5_digestWithStays_42 : decode cX5_digestWithStays 42 = .ok (.invokestatic 169, 3) := by decide +kernel
theorem dX5_digestWithStays_45 : decode cX5_digestWithStays 45 = .ok (.invokestatic 207, 3) := by decide +kernel
theorem dX5_digestWithStays_48 : decode cX5_digestWithStays 48 = .ok (.lstore_n 3, 1) := by decide +kernel
theorem dX5_digestWithStays_49 : decode cX5_digestWithStays 49 = .ok (.iinc 6 1, 3) := by decide +kernel
theorem dX5_digestWithStays_52 : decode cX5_digestWithStays 52 = .ok (.goto (-28), 3) := by decide +kernel
theorem dX5_digestWithStays_55 : decode cX5_digestWithStays 55 = .ok (.iinc 5 1, 3) := by decide +kernel
theorem dX5_digestWithStays_58 : decode cX5_digestWithStays 58 = .ok (.goto (-46), 3) := by decide +kernel
theorem dX5_digestWithStays_61 : decode cX5_digestWithStays 61 = .ok (.lload_n 3, 1) := by decide +kernel
theorem dX5_digestWithStays_62 : decode cX5_digestWithStays 62 = .ok (.lreturn, 1) := by decide +kernel
theorem dX5_digestWithCue_0 : decode cX5_digestWithCue 0 = .ok (.aload_n 2, 1) := by decide +kernel
theorem dX5_digestWithCue_1 : decode cX5_digestWithCue 1 = .ok (.getfield 112, 3) := by decide +kernel
theorem dX5_digestWithCue_4 : decode cX5_digestWithCue 4 = .ok (.ifCond .eq 5, 3) := by decide +kernel
theorem dX5_digestWithCue_7 : decode cX5_digestWithCue 7 = .ok (.lload_n 0, 1) := by decide +kernel
theorem dX5_digestWithCue_8 : decode cX5_digestWithCue 8 = .ok (.lreturn, 1) := by decide +kernel
theorem dX5_digestWithCue_9 : decode cX5_digestWithCue 9 = .ok (.lload_n 0, 1) := by decide +kernel
theorem dX5_digestWithCue_10 : decode cX5_digestWithCue 10 = .ok (.lstore_n 3, 1) := by decide +kernel
theorem dX5_digestWithCue_11 : decode cX5_digestWithCue 11 = .ok (.iconst 0, 1) := by decide +kernel
theorem dX5_digestWithCue_12 : decode cX5_digestWithCue 12 = .ok (.istore 5, 2) := by decide +kernel
theorem dX5_digestWithCue_14 : decode cX5_digestWithCue 14 = .ok (.iload 5, 2) := by decide +kernel
theorem dX5_digestWithCue_16 : decode cX5_digestWithCue 16 = .ok (.iconst 5, 1) := by decide +kernel
theorem dX5_digestWithCue_17 : decode cX5_digestWithCue 17 = .ok (.if_icmp .ge 20, 3) := by decide +kernel
theorem dX5_digestWithCue_20 : decode cX5_digestWithCue 20 = .ok (.lload_n 3, 1) := by decide +kernel
theorem dX5_digestWithCue_21 : decode cX5_digestWithCue 21 = .ok (.aload_n 2, 1) := by decide +kernel
theorem dX5_digestWithCue_22 : decode cX5_digestWithCue 22 = .ok (.iload 5, 2) := by decide +kernel
theorem dX5_digestWithCue_24 : decode cX5_digestWithCue 24 = .ok (.invokestatic 126, 3) := by decide +kernel
theorem dX5_digestWithCue_27 : decode cX5_digestWithCue 27 = .ok (.invokestatic 207, 3) := by decide +kernel
theorem dX5_digestWithCue_30 : decode cX5_digestWithCue 30 = .ok (.lstore_n 3, 1) := by decide +kernel
theorem dX5_digestWithCue_31 : decode cX5_digestWithCue 31 = .ok (.iinc 5 1, 3) := by decide +kernel
theorem dX5_digestWithCue_34 : decode cX5_digestWithCue 34 = .ok (.goto (-20), 3) := by decide +kernel
theorem dX5_digestWithCue_37 : decode cX5_digestWithCue 37 = .ok (.lload_n 3, 1) := by decide +kernel
theorem dX5_digestWithCue_38 : decode cX5_digestWithCue 38 = .ok (.aload_n 2, 1) := by decide +kernel
theorem dX5_digestWithCue_39 : decode cX5_digestWithCue 39 = .ok (.getfield 188, 3) := by decide +kernel
theorem dX5_digestWithCue_42 : decode cX5_digestWithCue 42 = .ok (.invokestatic 207, 3) := by decide +kernel
theorem dX5_digestWithCue_45 : decode cX5_digestWithCue 45 = .ok (.lreturn, 1) := by decide +kernel
theorem dJ6_signum_0f7a4_0 : decode cJ6_signum_0f7a4 0 = .ok (.iload_n 0, 1) := by decide +kernel
theorem dJ6_signum_0f7a4_1 : decode cJ6_signum_0f7a4 1 = .ok (.bipush 31, 2) := by decide +kernel
theorem dJ6_signum_0f7a4_3 : decode cJ6_signum_0f7a4 3 = .ok (.ishr, 1) := by decide +kernel
theorem dJ6_signum_0f7a4_4 : decode cJ6_signum_0f7a4 4 = .ok (.iload_n 0, 1) := by decide +kernel
theorem dJ6_signum_0f7a4_5 : decode cJ6_signum_0f7a4 5 = .ok (.ineg, 1) := by decide +kernel
theorem dJ6_signum_0f7a4_6 : decode cJ6_signum_0f7a4 6 = .ok (.bipush 31, 2) := by decide +kernel
theorem dJ6_signum_0f7a4_8 : decode cJ6_signum_0f7a4 8 = .ok (.iushr, 1) := by decide +kernel
theorem dJ6_signum_0f7a4_9 : decode cJ6_signum_0f7a4 9 = .ok (.ior, 1) := by decide +kernel
theorem dJ6_signum_0f7a4_10 : decode cJ6_signum_0f7a4 10 = .ok (.ireturn, 1) := by decide +kernel
theorem dJxa1e45_init_da8c8_0 : decode cJxa1e45_init_da8c8 0 = .ok (.aload_n 0, 1) := by decide +kernel
theorem dJxa1e45_init_da8c8_1 : decode cJxa1e45_init_da8c8 1 = .ok (.invokespecial 1, 3) := by decide +kernel
theorem dJxa1e45_init_da8c8_4 : decode cJxa1e45_init_da8c8 4 = .ok (.return_, 1) := by decide +kernel
theorem dJxc12de_init_da8c8_0 : decode cJxc12de_init_da8c8 0 = .ok (.aload_n 0, 1) := by decide +kernel
theorem dJxc12de_init_da8c8_1 : decode cJxc12de_init_da8c8 1 = .ok (.invokespecial 1, 3) := by decide +kernel
theorem dJxc12de_init_da8c8_4 : decode cJxc12de_init_da8c8 4 = .ok (.aload_n 0, 1) := by decide +kernel
theorem dJxc12de_init_da8c8_5 : decode cJxc12de_init_da8c8 5 = .ok (.iconst 0, 1) := by decide +kernel
theorem dJxc12de_init_da8c8_6 : decode cJxc12de_init_da8c8 6 = .ok (.putfield 7, 3) := by decide +kernel
theorem dJxc12de_init_da8c8_9 : decode cJxc12de_init_da8c8 9 = .ok (.return_, 1) := by decide +kernel
theorem dJx4a65c_init_da8c8_0 : decode cJx4a65c_init_da8c8 0 = .ok (.aload_n 0, 1) := by decide +kernel
theorem dJx4a65c_init_da8c8_1 : decode cJx4a65c_init_da8c8 1 = .ok (.invokespecial 1, 3) := by decide +kernel
theorem dJx4a65c_init_da8c8_4 : decode cJx4a65c_init_da8c8 4 = .ok (.aload_n 0, 1) := by decide +kernel
theorem dJx4a65c_init_da8c8_5 : decode cJx4a65c_init_da8c8 5 = .ok (.getstatic 39, 3) := by decide +kernel
theorem dJx4a65c_init_da8c8_8 : decode cJx4a65c_init_da8c8 8 = .ok (.putfield 9, 3) := by decide +kernel
theorem dJx4a65c_init_da8c8_11 : decode cJx4a65c_init_da8c8 11 = .ok (.return_, 1) := by decide +kernel
theorem dJx4a65c_grow_92f84_0 : decode cJx4a65c_grow_92f84 0 = .ok (.aload_n 0, 1) := by decide +kernel
theorem dJx4a65c_grow_92f84_1 : decode cJx4a65c_grow_92f84 1 = .ok (.getfield 9, 3) := by decide +kernel
theorem dJx4a65c_grow_92f84_4 : decode cJx4a65c_grow_92f84 4 = .ok (.arraylength, 1) := by decide +kernel
theorem dJx4a65c_grow_92f84_5 : decode cJx4a65c_grow_92f84 5 = .ok (.istore_n 2, 1) := by decide +kernel
theorem dJx4a65c_grow_92f84_6 : decode cJx4a65c_grow_92f84 6 = .ok (.iload_n 2, 1) := by decide +kernel
theorem dJx4a65c_grow_92f84_7 : decode cJx4a65c_grow_92f84 7 = .ok (.ifCond .gt 13, 3) := by decide +kernel
theorem dJx4a65c_grow_92f84_10 : decode cJx4a65c_grow_92f84 10 = .ok (.aload_n 0, 1) := by decide +kernel
theorem dJx4a65c_grow_92f84_11 : decode cJx4a65c_grow_92f84 11 = .ok (.getfield 9, 3) := by decide +kernel
theorem dJx4a65c_grow_92f84_14 : decode cJx4a65c_grow_92f84 14 = .ok (.getstatic 39, 3) := by decide +kernel
theorem dJx4a65c_grow_92f84_17 : decode cJx4a65c_grow_92f84 17 = .ok (.if_acmp .eq 28, 3) := by decide +kernel
theorem dJx4a65c_grow_92f84_20 : decode cJx4a65c_grow_92f84 20 = .ok (.iload_n 2, 1) := by decide +kernel
theorem dJx4a65c_grow_92f84_21 : decode cJx4a65c_grow_92f84 21 = .ok (.iload_n 1, 1) := by decide +kernel
theorem dJx4a65c_grow_92f84_22 : decode cJx4a65c_grow_92f84 22 = .ok (.iload_n 2, 1) := by decide +kernel
theorem dJx4a65c_grow_92f84_23 : decode cJx4a65c_grow_92f84 23 = .ok (.isub, 1) := by decide +kernel
theorem dJx4a65c_grow_92f84_24 : decode cJx4a65c_grow_92f84 24 = .ok (.iload_n 2, 1) := by decide +kernel
theorem dJx4a65c_grow_92f84_25 : decode cJx4a65c_grow_92f84 25 = .ok (.iconst 1, 1) := by decide +kernel
theorem dJx4a65c_grow_92f84_26 : decode cJx4a65c_grow_92f84 26 = .ok (.ishr, 1) := by decide +kernel
theorem dJx4a65c_grow_92f84_27 : decode cJx4a65c_grow_92f84 27 = .ok (.invokestatic 73, 3) := by decide +kernel
theorem dJx4a65c_grow_92f84_30 : decode cJx4a65c_grow_92f84 30 = .ok (.istore_n 3, 1) := by decide +kernel
theorem dJx4a65c_grow_92f84_31 : decode cJx4a65c_grow_92f84 31 = .ok (.aload_n 0, 1) := by decide +kernel
theorem dJx4a65c_grow_92f84_32 : decode cJx4a65c_grow_92f84 32 = .ok (.aload_n 0, 1) := by decide +kernel
theorem dJx4a65c_grow_92f84_33 : decode cJx4a65c_grow_92f84 33 = .ok (.getfield 9, 3) := by decide +kernel
theorem dJx4a65c_grow_92f84_36 : decode cJx4a65c_grow_92f84 36 = .ok (.iload_n 3, 1) := by decide +kernel
theorem dJx4a65c_grow_92f84_37 : decode cJx4a65c_grow_92f84 37 = .ok (.invokestatic 66, 3) := by decide +kernel
theorem dJx4a65c_grow_92f84_40 : decode cJx4a65c_grow_92f84 40 = .ok (.dup_x1, 1) := by decide +kernel
theorem dJx4a65c_grow_92f84_41 : decode cJx4a65c_grow_92f84 41 = .ok (.putfield 9, 3) := by decide +kernel
theorem dJx4a65c_grow_92f84_44 : decode cJx4a65c_grow_92f84 44 = .ok (.areturn, 1) := by decide +kernel
theorem dJx4a65c_grow_92f84_45 : decode cJx4a65c_grow_92f84 45 = .ok (.aload_n 0, 1) := by decide +kernel
theorem dJx4a65c_grow_92f84_46 : decode cJx4a65c_grow_92f84 46 = .ok (.bipush 10, 2) := by decide +kernel
theorem dJx4a65c_grow_92f84_48 : decode cJx4a65c_grow_92f84 48 = .ok (.iload_n 1, 1) := by decide +kernel
theorem dJx4a65c_grow_92f84_49 : decode cJx4a65c_grow_92f84 49 = .ok (.invokestatic 79, 3) := by decide +kernel
theorem dJx4a65c_grow_92f84_52 : decode cJx4a65c_grow_92f84 52 = .ok (.anewarray 7, 3) := by decide +kernel
theorem dJx4a65c_grow_92f84_55 : decode cJx4a65c_grow_92f84 55 = .ok (.dup_x1, 1) := by decide +kernel
theorem dJx4a65c_grow_92f84_56 : decode cJx4a65c_grow_92f84 56 = .ok (.putfield 9, 3) := by decide +kernel
theorem dJx4a65c_grow_92f84_59 : decode cJx4a65c_grow_92f84 59 = .ok (.areturn, 1) := by decide +kernel
theorem dJx4a65c_grow_d5877_0 : decode cJx4a65c_grow_d5877 0 = .ok (.aload_n 0, 1) := by decide +kernel
theorem dJx4a65c_grow_d5877_1 : decode cJx4a65c_grow_d5877 1 = .ok (.aload_n 0, 1) := by decide +kernel
theorem dJx4a65c_grow_d5877_2 : decode cJx4a65c_grow_d5877 2 = .ok (.getfield 48, 3) := by decide +kernel
theorem dJx4a65c_grow_d5877_5 : decode cJx4a65c_grow_d5877 5 = .ok (.iconst 1, 1) := by decide +kernel
theorem dJx4a65c_grow_d5877_6 : decode cJx4a65c_grow_d5877 6 = .ok (.iadd, 1) := by decide +kernel
theorem dJx4a65c_grow_d5877_7 : decode cJx4a65c_grow_d5877 7 = .ok (.invokevirtual 69, 3) := by decide +kernel
theorem dJx4a65c_grow_d5877_10 : decode cJx4a65c_grow_d5877 10 = .ok (.areturn, 1) := by decide +kernel
theorem dJx4a65c_size_8abf5_0 : decode cJx4a65c_size_8abf5 0 = .ok (.aload_n 0, 1) := by decide +kernel
theorem dJx4a65c_size_8abf5_1 : decode cJx4a65c_size_8abf5 1 = .ok (.getfield 48, 3) := by decide +kernel
theorem dJx4a65c_size_8abf5_4 : decode cJx4a65c_size_8abf5 4 = .ok (.ireturn, 1) := by decide +kernel
theorem dJx4a65c_isEmpty_aae02_0 : decode cJx4a65c_isEmpty_aae02 0 = .ok (.aload_n 0, 1) := by decide +kernel
theorem dJx4a65c_isEmpty_aae02_1 : decode cJx4a65c_isEmpty_aae02 1 = .ok (.getfield 48, 3) := by decide +kernel
theorem dJx4a65c_isEmpty_aae02_4 : decode cJx4a65c_isEmpty_aae02 4 = .ok (.ifCond .ne 7, 3) := by decide +kernel
theorem dJx4a65c_isEmpty_aae02_7 : decode cJx4a65c_isEmpty_aae02 7 = .ok (.iconst 1, 1) := by decide +kernel
theorem dJx4a65c_isEmpty_aae02_8 : decode cJx4a65c_isEmpty_aae02 8 = .ok (.goto 4, 3) := by decide +kernel
theorem dJx4a65c_isEmpty_aae02_11 : decode cJx4a65c_isEmpty_aae02 11 = .ok (.iconst 0, 1) := by decide +kernel
theorem dJx4a65c_isEmpty_aae02_12 : decode cJx4a65c_isEmpty_aae02 12 = .ok (.ireturn, 1) := by decide +kernel
theorem dJx4a65c_elementData_915e3_0 : decode cJx4a65c_elementData_915e3 0 = .ok (.aload_n 0, 1) := by decide +kernel
theorem dJx4a65c_elementData_915e3_1 : decode cJx4a65c_elementData_915e3 1 = .ok (.getfield 9, 3) := by decide +kernel
theorem dJx4a65c_elementData_915e3_4 : decode cJx4a65c_elementData_915e3 4 = .ok (.iload_n 1, 1) := by decide +kernel
theorem dJx4a65c_elementData_915e3_5 : decode cJx4a65c_elementData_915e3 5 = .ok (.aaload, 1) := by decide +kernel
theorem dJx4a65c_elementData_915e3_6 : decode cJx4a65c_elementData_915e3 6 = .ok (.areturn, 1) := by decide +kernel
theorem dJx4a65c_get_915e3_0 : decode cJx4a65c_get_915e3 0 = .ok (.iload_n 1, 1) := by decide +kernel
theorem dJx4a65c_get_915e3_1 : decode cJx4a65c_get_915e3 1 = .ok (.aload_n 0, 1) := by decide +kernel
theorem dJx4a65c_get_915e3_2 : decode cJx4a65c_get_915e3 2 = .ok (.getfield 48, 3) := by decide +kernel
theorem dJx4a65c_get_915e3_5 : decode cJx4a65c_get_915e3 5 = .ok (.invokestatic 118, 3) := by decide +kernel
theorem dJx4a65c_get_915e3_8 : decode cJx4a65c_get_915e3 8 = .ok (.pop, 1) := by decide +kernel
theorem dJx4a65c_get_915e3_9 : decode cJx4a65c_get_915e3 9 = .ok (.aload_n 0, 1) := by decide +kernel
theorem dJx4a65c_get_915e3_10 : decode cJx4a65c_get_915e3 10 = .ok (.iload_n 1, 1) := by decide +kernel
theorem dJx4a65c_get_915e3_11 : decode cJx4a65c_get_915e3 11 = .ok (.invokevirtual 123, 3) := by decide +kernel
theorem dJx4a65c_get_915e3_14 : decode cJx4a65c_get_915e3 14 = .ok (.areturn, 1) := by decide +kernel
theorem dJx4a65c_add_72be8_0 : decode cJx4a65c_add_72be8 0 = .ok (.iload_n 3, 1) := by decide +kernel
theorem dJx4a65c_add_72be8_1 : decode cJx4a65c_add_72be8 1 = .ok (.aload_n 2, 1) := by decide +kernel
theorem dJx4a65c_add_72be8_2 : decode cJx4a65c_add_72be8 2 = .ok (.arraylength, 1) := by decide +kernel
theorem dJx4a65c_add_72be8_3 : decode cJx4a65c_add_72be8 3 = .ok (.if_icmp .ne 8, 3) := by decide +kernel
theorem dJx4a65c_add_72be8_6 : decode cJx4a65c_add_72be8 6 = .ok (.aload_n 0, 1) := by decide +kernel
theorem dJx4a65c_add_72be8_7 : decode cJx4a65c_add_72be8 7 = .ok (.invokevirtual 129, 3) := by decide +kernel
theorem dJx4a65c_add_72be8_10 : decode cJx4a65c_add_72be8 10 = .ok (.astore_n 2, 1) := by decide +kernel
theorem dJx4a65c_add_72be8_11 : decode cJx4a65c_add_72be8 11 = .ok (.aload_n 2, 1) := by decide +kernel
theorem dJx4a65c_add_72be8_12 : decode cJx4a65c_add_72be8 12 = .ok (.iload_n 3, 1) := by decide +kernel
theorem dJx4a65c_add_72be8_13 : decode cJx4a65c_add_72be8 13 = .ok (.aload_n 1, 1) := by decide +kernel
theorem dJx4a65c_add_72be8_14 : decode cJx4a65c_add_72be8 14 = .ok (.aastore, 1) := by decide +kernel
theorem dJx4a65c_add_72be8_15 : decode cJx4a65c_add_72be8 15 = .ok (.aload_n 0, 1) := by decide +kernel
theorem dJx4a65c_add_72be8_16 : decode cJx4a65c_add_72be8 16 = .ok (.iload_n 3, 1) := by decide +kernel
theorem dJx4a65c_add_72be8_17 : decode cJx4a65c_add_72be8 17 = .ok (.iconst 1, 1) := by decide +kernel
theorem dJx4a65c_add_72be8_18 : decode cJx4a65c_add_72be8 18 = .ok (.iadd, 1) := by decide +kernel
theorem dJx4a65c_add_72be8_19 : decode cJx4a65c_add_72be8 19 = .ok (.putfield 48, 3) := by decide +kernel
theorem dJx4a65c_add_72be8_22 : decode cJx4a65c_add_72be8 22 = .ok (.return_, 1) := by decide +kernel
theorem dJx4a65c_add_9ea2d_0 : decode cJx4a65c_add_9ea2d 0 = .ok (.aload_n 0, 1) := by decide +kernel
theorem dJx4a65c_add_9ea2d_1 : decode cJx4a65c_add_9ea2d 1 = .ok (.dup, 1) := by decide +kernel
theorem dJx4a65c_add_9ea2d_2 : decode cJx4a65c_add_9ea2d 2 = .ok (.getfield 63, 3) := by decide +kernel
theorem dJx4a65c_add_9ea2d_5 : decode cJx4a65c_add_9ea2d 5 = .ok (.iconst 1, 1) := by decide +kernel
theorem dJx4a65c_add_9ea2d_6 : decode cJx4a65c_add_9ea2d 6 = .ok (.iadd, 1) := by decide +kernel
theorem dJx4a65c_add_9ea2d_7 : decode cJx4a65c_add_9ea2d 7 = .ok (.putfield 63, 3) := by decide +kernel
theorem dJx4a65c_add_9ea2d_10 : decode cJx4a65c_add_9ea2d 10 = .ok (.aload_n 0, 1) := by decide +kernel
theorem dJx4a65c_add_9ea2d_11 : decode cJx4a65c_add_9ea2d 11 = .ok (.aload_n 1, 1) := by decide +kernel
theorem dJx4a65c_add_9ea2d_12 : decode cJx4a65c_add_9ea2d 12 = .ok (.aload_n 0, 1) := by decide +kernel
theorem dJx4a65c_add_9ea2d_13 : decode cJx4a65c_add_9ea2d 13 = .ok (.getfield 9, 3) := by decide +kernel
theorem dJx4a65c_add_9ea2d_16 : decode cJx4a65c_add_9ea2d 16 = .ok (.aload_n 0, 1) := by decide +kernel
theorem dJx4a65c_add_9ea2d_17 : decode cJx4a65c_add_9ea2d 17 = .ok (.getfield 48, 3) := by decide +kernel
theorem dJx4a65c_add_9ea2d_20 : decode cJx4a65c_add_9ea2d 20 = .ok (.invokevirtual 131, 3) := by decide +kernel
theorem dJx4a65c_add_9ea2d_23 : decode cJx4a65c_add_9ea2d 23 = .ok (.iconst 1, 1) := by decide +kernel
theorem dJx4a65c_add_9ea2d_24 : decode cJx4a65c_add_9ea2d 24 = .ok (.ireturn, 1) := by decide +kernel
theorem dJx4a65c_add_7a177_0 : decode cJx4a65c_add_7a177 0 = .ok (.aload_n 0, 1) := by decide +kernel
theorem dJx4a65c_add_7a177_1 : decode cJx4a65c_add_7a177 1 = .ok (.iload_n 1, 1) := by decide +kernel
theorem dJx4a65c_add_7a177_2 : decode cJx4a65c_add_7a177 2 = .ok (.invokevirtual 135, 3) := by decide +kernel
theorem dJx4a65c_add_7a177_5 : decode cJx4a65c_add_7a177 5 = .ok (.aload_n 0, 1) := by decide +kernel
theorem dJx4a65c_add_7a177_6 : decode cJx4a65c_add_7a177 6 = .ok (.dup, 1) := by decide +kernel
theorem dJx4a65c_add_7a177_7 : decode cJx4a65c_add_7a177 7 = .ok (.getfield 63, 3) := by decide +kernel
theorem dJx4a65c_add_7a177_10 : decode cJx4a65c_add_7a177 10 = .ok (.iconst 1, 1) := by decide +kernel
theorem dJx4a65c_add_7a177_11 : decode cJx4a65c_add_7a177 11 = .ok (.iadd, 1) := by decide +kernel
theorem dJx4a65c_add_7a177_12 : decode cJx4a65c_add_7a177 12 = .ok (.putfield 63, 3) := by decide +kernel
theorem dJx4a65c_add_7a177_15 : decode cJx4a65c_add_7a177 15 = .ok (.aload_n 0, 1) := by decide +kernel
theorem dJx4a65c_add_7a177_16 : decode cJx4a65c_add_7a177 16 = .ok (.getfield 48, 3) := by decide +kernel
theorem dJx4a65c_add_7a177_19 : decode cJx4a65c_add_7a177 19 = .ok (.dup, 1) := by decide +kernel
theorem dJx4a65c_add_7a177_20 : decode cJx4a65c_add_7a177 20 = .ok (.istore_n 3, 1) := by decide +kernel
theorem dJx4a65c_add_7a177_21 : decode cJx4a65c_add_7a177 21 = .ok (.aload_n 0, 1) := by decide +kernel
theorem dJx4a65c_add_7a177_22 : decode cJx4a65c_add_7a177 22 = .ok (.getfield 9, 3) := by decide +kernel
theorem dJx4a65c_add_7a177_25 : decode cJx4a65c_add_7a177 25 = .ok (.dup, 1) := by decide +kernel
theorem dJx4a65c_add_7a177_26 : decode cJx4a65c_add_7a177 26 = .ok (.astore 4, 2) := by decide +kernel
theorem dJx4a65c_add_7a177_28 : decode cJx4a65c_add_7a177 28 = .ok (.arraylength, 1) := by decide +kernel
theorem dJx4a65c_add_7a177_29 : decode cJx4a65c_add_7a177 29 = .ok (.if_icmp .ne 9, 3) := by decide +kernel
theorem dJx4a65c_add_7a177_32 : decode cJx4a65c_add_7a177 32 = .ok (.aload_n 0, 1) := by decide +kernel
theorem dJx4a65c_add_7a177_33 : decode cJx4a65c_add_7a177 33 = .ok (.invokevirtual 129, 3) := by decide +kernel
theorem dJx4a65c_add_7a177_36 : decode cJx4a65c_add_7a177 36 = .ok (.astore 4, 2) := by decide +kernel
theorem dJx4a65c_add_7a177_38 : decode cJx4a65c_add_7a177 38 = .ok (.aload 4, 2) := by decide +kernel
theorem dJx4a65c_add_7a177_40 : decode cJx4a65c_add_7a177 40 = .ok (.iload_n 1, 1) := by decide +kernel
theorem dJx4a65c_add_7a177_41 : decode cJx4a65c_add_7a177 41 = .ok (.aload 4, 2) := by decide +kernel
theorem dJx4a65c_add_7a177_43 : decode cJx4a65c_add_7a177 43 = .ok (.iload_n 1, 1) := by decide +kernel
theorem dJx4a65c_add_7a177_44 : decode cJx4a65c_add_7a177 44 = .ok (.iconst 1, 1) := by decide +kernel
theorem dJx4a65c_add_7a177_45 : decode cJx4a65c_add_7a177 45 = .ok (.iadd, 1) := by decide +kernel
theorem dJx4a65c_add_7a177_46 : decode cJx4a65c_add_7a177 46 = .ok (.iload_n 3, 1) := by decide +kernel
theorem dJx4a65c_add_7a177_47 : decode cJx4a65c_add_7a177 47 = .ok (.iload_n 1, 1) := by decide +kernel
theorem dJx4a65c_add_7a177_48 : decode cJx4a65c_add_7a177 48 = .ok (.isub, 1) := by decide +kernel
theorem dJx4a65c_add_7a177_49 : decode cJx4a65c_add_7a177 49 = .ok (.invokestatic 112, 3) := by decide +kernel
theorem dJx4a65c_add_7a177_52 : decode cJx4a65c_add_7a177 52 = .ok (.aload 4, 2) := by decide +kernel
theorem dJx4a65c_add_7a177_54 : decode cJx4a65c_add_7a177 54 = .ok (.iload_n 1, 1) := by decide +kernel
theorem dJx4a65c_add_7a177_55 : decode cJx4a65c_add_7a177 55 = .ok (.aload_n 2, 1) := by decide +kernel
theorem dJx4a65c_add_7a177_56 : decode cJx4a65c_add_7a177 56 = .ok (.aastore, 1) := by decide +kernel
theorem dJx4a65c_add_7a177_57 : decode cJx4a65c_add_7a177 57 = .ok (.aload_n 0, 1) := by decide +kernel
theorem dJx4a65c_add_7a177_58 : decode cJx4a65c_add_7a177 58 = .ok (.iload_n 3, 1) := by decide +kernel
theorem dJx4a65c_add_7a177_59 : decode cJx4a65c_add_7a177 59 = .ok (.iconst 1, 1) := by decide +kernel
theorem dJx4a65c_add_7a177_60 : decode cJx4a65c_add_7a177 60 = .ok (.iadd, 1) := by decide +kernel
theorem dJx4a65c_add_7a177_61 : decode cJx4a65c_add_7a177 61 = .ok (.putfield 48, 3) := by decide +kernel
theorem dJx4a65c_add_7a177_64 : decode cJx4a65c_add_7a177 64 = .ok (.return_, 1) := by decide +kernel
theorem dJx4a65c_remove_915e3_0 : decode cJx4a65c_remove_915e3 0 = .ok (.iload_n 1, 1) := by decide +kernel
theorem dJx4a65c_remove_915e3_1 : decode cJx4a65c_remove_915e3 1 = .ok (.aload_n 0, 1) := by decide +kernel
theorem dJx4a65c_remove_915e3_2 : decode cJx4a65c_remove_915e3 2 = .ok (.getfield 48, 3) := by decide +kernel
theorem dJx4a65c_remove_915e3_5 : decode cJx4a65c_remove_915e3 5 = .ok (.invokestatic 118, 3) := by decide +kernel
theorem dJx4a65c_remove_915e3_8 : decode cJx4a65c_remove_915e3 8 = .ok (.pop, 1) := by decide +kernel
theorem dJx4a65c_remove_915e3_9 : decode cJx4a65c_remove_915e3 9 = .ok (.aload_n 0, 1) := by decide +kernel
theorem dJx4a65c_remove_915e3_10 : decode cJx4a65c_remove_915e3 10 = .ok (.getfield 9, 3) := by decide +kernel
theorem dJx4a65c_remove_915e3_13 : decode cJx4a65c_remove_915e3 13 = .ok (.astore_n 2, 1) := by decide +kernel
theorem dJx4a65c_remove_915e3_14 : decode cJx4a65c_remove_915e3 14 = .ok (.aload_n 2, 1) := by decide +kernel
theorem dJx4a65c_remove_915e3_15 : decode cJx4a65c_remove_915e3 15 = .ok (.iload_n 1, 1) := by decide +kernel
theorem dJx4a65c_remove_915e3_16 : decode cJx4a65c_remove_915e3 16 = .ok (.aaload, 1) := by decide +kernel
theorem dJx4a65c_remove_915e3_17 : decode cJx4a65c_remove_915e3 17 = .ok (.astore_n 3, 1) := by decide +kernel
theorem dJx4a65c_remove_915e3_18 : decode cJx4a65c_remove_915e3 18 = .ok (.aload_n 0, 1) := by decide +kernel
theorem dJx4a65c_remove_915e3_19 : decode cJx4a65c_remove_915e3 19 = .ok (.aload_n 2, 1) := by decide +kernel
theorem dJx4a65c_remove_915e3_20 : decode cJx4a65c_remove_915e3 20 = .ok (.iload_n 1, 1) := by decide +kernel
theorem dJx4a65c_remove_915e3_21 : decode cJx4a65c_remove_915e3 21 = .ok (.invokevirtual 144, 3) := by decide +kernel
theorem dJx4a65c_remove_915e3_24 : decode cJx4a65c_remove_915e3 24 = .ok (.aload_n 3, 1) := by decide +kernel
theorem dJx4a65c_remove_915e3_25 : decode cJx4a65c_remove_915e3 25 = .ok (.areturn, 1) := by decide +kernel
theorem dJx4a65c_fastRemove_b59b0_0 : decode cJx4a65c_fastRemove_b59b0 0 = .ok (.aload_n 0, 1) := by decide +kernel
theorem dJx4a65c_fastRemove_b59b0_1 : decode cJx4a65c_fastRemove_b59b0 1 = .ok (.dup, 1) := by decide +kernel
theorem dJx4a65c_fastRemove_b59b0_2 : decode cJx4a65c_fastRemove_b59b0 2 = .ok (.getfield 63, 3) := by decide +kernel
theorem dJx4a65c_fastRemove_b59b0_5 : decode cJx4a65c_fastRemove_b59b0 5 = .ok (.iconst 1, 1) := by decide +kernel
theorem dJx4a65c_fastRemove_b59b0_6 : decode cJx4a65c_fastRemove_b59b0 6 = .ok (.iadd, 1) := by decide +kernel
theorem dJx4a65c_fastRemove_b59b0_7 : decode cJx4a65c_fastRemove_b59b0 7 = .ok (.putfield 63, 3) := by decide +kernel
theorem dJx4a65c_fastRemove_b59b0_10 : decode cJx4a65c_fastRemove_b59b0 10 = .ok (.aload_n 0, 1) := by decide +kernel
theorem dJx4a65c_fastRemove_b59b0_11 : decode cJx4a65c_fastRemove_b59b0 11 = .ok (.getfield 48, 3) := by decide +kernel
theorem dJx4a65c_fastRemove_b59b0_14 : decode cJx4a65c_fastRemove_b59b0 14 = .ok (.iconst 1, 1) := by decide +kernel
theorem dJx4a65c_fastRemove_b59b0_15 : decode cJx4a65c_fastRemove_b59b0 15 = .ok (.isub, 1) := by decide +kernel
theorem dJx4a65c_fastRemove_b59b0_16 : decode cJx4a65c_fastRemove_b59b0 16 = .ok (.dup, 1) := by decide +kernel
theorem dJx4a65c_fastRemove_b59b0_17 : decode cJx4a65c_fastRemove_b59b0 17 = .ok (.istore_n 3, 1) := by decide +kernel
theorem dJx4a65c_fastRemove_b59b0_18 : decode cJx4a65c_fastRemove_b59b0 18 = .ok (.iload_n 2, 1) := by decide +kernel
theorem dJx4a65c_fastRemove_b59b0_19 : decode cJx4a65c_fastRemove_b59b0 19 = .ok (.if_icmp .le 15, 3) := by decide +kernel
theorem dJx4a65c_fastRemove_b59b0_22 : decode cJx4a65c_fastRemove_b59b0 22 = .ok (.aload_n 1, 1) := by decide +kernel
theorem dJx4a65c_fastRemove_b59b0_23 : decode cJx4a65c_fastRemove_b59b0 23 = .ok (.iload_n 2, 1) := by decide +kernel
theorem dJx4a65c_fastRemove_b59b0_24 : decode cJx4a65c_fastRemove_b59b0 24 = .ok (.iconst 1, 1) := by decide +kernel
theorem dJx4a65c_fastRemove_b59b0_25 : decode cJx4a65c_fastRemove_b59b0 25 = .ok (.iadd, 1) := by decide +kernel
theorem dJx4a65c_fastRemove_b59b0_26 : decode cJx4a65c_fastRemove_b59b0 26 = .ok (.aload_n 1, 1) := by decide +kernel
theorem dJx4a65c_fastRemove_b59b0_27 : decode cJx4a65c_fastRemove_b59b0 27 = .ok (.iload_n 2, 1) := by decide +kernel
theorem dJx4a65c_fastRemove_b59b0_28 : decode cJx4a65c_fastRemove_b59b0 28 = .ok (.iload_n 3, 1) := by decide +kernel
theorem dJx4a65c_fastRemove_b59b0_29 : decode cJx4a65c_fastRemove_b59b0 29 = .ok (.iload_n 2, 1) := by decide +kernel
theorem dJx4a65c_fastRemove_b59b0_30 : decode cJx4a65c_fastRemove_b59b0 30 = .ok (.isub, 1) := by decide +kernel
theorem dJx4a65c_fastRemove_b59b0_31 : decode cJx4a65c_fastRemove_b59b0 31 = .ok (.invokestatic 112, 3) := by decide +kernel
theorem dJx4a65c_fastRemove_b59b0_34 : decode cJx4a65c_fastRemove_b59b0 34 = .ok (.aload_n 1, 1) := by decide +kernel
theorem dJx4a65c_fastRemove_b59b0_35 : decode cJx4a65c_fastRemove_b59b0 35 = .ok (.aload_n 0, 1) := by decide +kernel
theorem dJx4a65c_fastRemove_b59b0_36 : decode cJx4a65c_fastRemove_b59b0 36 = .ok (.iload_n 3, 1) := by decide +kernel
theorem dJx4a65c_fastRemove_b59b0_37 : decode cJx4a65c_fastRemove_b59b0 37 = .ok (.dup_x1, 1) := by decide +kernel
theorem dJx4a65c_fastRemove_b59b0_38 : decode cJx4a65c_fastRemove_b59b0 38 = .ok (.putfield 48, 3) := by decide +kernel
theorem dJx4a65c_fastRemove_b59b0_41 : decode cJx4a65c_fastRemove_b59b0 41 = .ok (.aconst_null, 1) := by decide +kernel
theorem dJx4a65c_fastRemove_b59b0_42 : decode cJx4a65c_fastRemove_b59b0 42 = .ok (.aastore, 1) := by decide +kernel
theorem dJx4a65c_fastRemove_b59b0_43 : decode cJx4a65c_fastRemove_b59b0 43 = .ok (.return_, 1) := by decide +kernel
theorem dJx4a65c_clear_da8c8_0 : decode cJx4a65c_clear_da8c8 0 = .ok (.aload_n 0, 1) := by decide +kernel
theorem dJx4a65c_clear_da8c8_1 : decode cJx4a65c_clear_da8c8 1 = .ok (.dup, 1) := by decide +kernel
theorem dJx4a65c_clear_da8c8_2 : decode cJx4a65c_clear_da8c8 2 = .ok (.getfield 63, 3) := by decide +kernel
theorem dJx4a65c_clear_da8c8_5 : decode cJx4a65c_clear_da8c8 5 = .ok (.iconst 1, 1) := by decide +kernel
theorem dJx4a65c_clear_da8c8_6 : decode cJx4a65c_clear_da8c8 6 = .ok (.iadd, 1) := by decide +kernel
theorem dJx4a65c_clear_da8c8_7 : decode cJx4a65c_clear_da8c8 7 = .ok (.putfield 63, 3) := by decide +kernel
theorem dJx4a65c_clear_da8c8_10 : decode cJx4a65c_clear_da8c8 10 = .ok (.aload_n 0, 1) := by decide +kernel
theorem dJx4a65c_clear_da8c8_11 : decode cJx4a65c_clear_da8c8 11 = .ok (.getfield 9, 3) := by decide +kernel
theorem dJx4a65c_clear_da8c8_14 : decode cJx4a65c_clear_da8c8 14 = .ok (.astore_n 1, 1) := by decide +kernel
theorem dJx4a65c_clear_da8c8_15 : decode cJx4a65c_clear_da8c8 15 = .ok (.aload_n 0, 1) := by decide +kernel
theorem dJx4a65c_clear_da8c8_16 : decode cJx4a65c_clear_da8c8 16 = .ok (.getfield 48, 3) := by decide +kernel
theorem dJx4a65c_clear_da8c8_19 : decode cJx4a65c_clear_da8c8 19 = .ok (.istore_n 2, 1) := by decide +kernel
theorem dJx4a65c_clear_da8c8_20 : decode cJx4a65c_clear_da8c8 20 = .ok (.aload_n 0, 1) := by decide +kernel
theorem dJx4a65c_clear_da8c8_21 : decode cJx4a65c_clear_da8c8 21 = .ok (.iconst 0, 1) := by decide +kernel
theorem dJx4a65c_clear_da8c8_22 : decode cJx4a65c_clear_da8c8 22 = .ok (.dup_x1, 1) := by decide +kernel
theorem dJx4a65c_clear_da8c8_23 : decode cJx4a65c_clear_da8c8 23 = .ok (.putfield 48, 3) := by decide +kernel
theorem dJx4a65c_clear_da8c8_26 : decode cJx4a65c_clear_da8c8 26 = .ok (.istore_n 3, 1) := by decide +kernel
theorem dJx4a65c_clear_da8c8_27 : decode cJx4a65c_clear_da8c8 27 = .ok (.iload_n 3, 1) := by decide +kernel
theorem dJx4a65c_clear_da8c8_28 : decode cJx4a65c_clear_da8c8 28 = .ok (.iload_n 2, 1) := by decide +kernel
theorem dJx4a65c_clear_da8c8_29 : decode cJx4a65c_clear_da8c8 29 = .ok (.if_icmp .ge 13, 3) := by decide +kernel
theorem dJx4a65c_clear_da8c8_32 : decode cJx4a65c_clear_da8c8 32 = .ok (.aload_n 1, 1) := by decide +kernel
theorem dJx4a65c_clear_da8c8_33 : decode cJx4a65c_clear_da8c8 33 = .ok (.iload_n 3, 1) := by decide +kernel
theorem dJx4a65c_clear_da8c8_34 : decode cJx4a65c_clear_da8c8 34 = .ok (.aconst_null, 1) := by decide +kernel
theorem dJx4a65c_clear_da8c8_35 : decode cJx4a65c_clear_da8c8 35 = .ok (.aastore, 1) := by decide +kernel
theorem dJx4a65c_clear_da8c8_36 : decode cJx4a65c_clear_da8c8 36 = .ok (.iinc 3 1, 3) := by decide +kernel
theorem dJx4a65c_clear_da8c8_39 : decode cJx4a65c_clear_da8c8 39 = .ok (.goto (-12), 3) := by decide +kernel
theorem dJx4a65c_clear_da8c8_42 : decode cJx4a65c_clear_da8c8 42 = .ok (.return_, 1) := by decide +kernel
theorem dJx4a65c_rangeCheckForAdd_d00df_0 : decode cJx4a65c_rangeCheckForAdd_d00df 0 = .ok (.iload_n 1, 1) := by decide +kernel
theorem dJx4a65c_rangeCheckForAdd_d00df_1 : decode cJx4a65c_rangeCheckForAdd_d00df 1 = .ok (.aload_n 0, 1) := by decide +kernel
theorem dJx4a65c_rangeCheckForAdd_d00df_2 : decode cJx4a65c_rangeCheckForAdd_d00df 2 = .ok (.getfield 48, 3) := by decide +kernel
theorem dJx4a65c_rangeCheckForAdd_d00df_5 : decode cJx4a65c_rangeCheckForAdd_d00df 5 = .ok (.if_icmp .gt 7, 3) := by decide +kernel
theorem dJx4a65c_rangeCheckForAdd_d00df_8 : decode cJx4a65c_rangeCheckForAdd_d00df 8 = .ok (.iload_n 1, 1) := by decide +kernel
theorem dJx4a65c_rangeCheckForAdd_d00df_9 : decode cJx4a65c_rangeCheckForAdd_d00df 9 = .ok (.ifCond .ge 16, 3) := by decide +kernel
theorem dJx4a65c_rangeCheckForAdd_d00df_12 : decode cJx4a65c_rangeCheckForAdd_d00df 12 = .ok (.new 187, 3) := by decide +kernel
theorem dJx4a65c_rangeCheckForAdd_d00df_15 : decode cJx4a65c_rangeCheckForAdd_d00df 15 = .ok (.dup, 1) := by decide +kernel
theorem dJx4a65c_rangeCheckForAdd_d00df_16 : decode cJx4a65c_rangeCheckForAdd_d00df 16 = .ok (.aload_n 0, 1) := by decide +kernel
theorem dJx4a65c_rangeCheckForAdd_d00df_17 : decode cJx4a65c_rangeCheckForAdd_d00df 17 = .ok (.iload_n 1, 1) := by decide +kernel
theorem dJx4a65c_rangeCheckForAdd_d00df_18 : decode cJx4a65c_rangeCheckForAdd_d00df 18 = .ok (.invokevirtual 198, 3) := by decide +kernel
theorem dJx4a65c_rangeCheckForAdd_d00df_21 : decode cJx4a65c_rangeCheckForAdd_d00df 21 = .ok (.invokespecial 193, 3) := by decide +kernel
theorem dJx4a65c_rangeCheckForAdd_d00df_24 : decode cJx4a65c_rangeCheckForAdd_d00df 24 = .ok (.athrow, 1) := by decide +kernel
theorem dJx4a65c_rangeCheckForAdd_d00df_25 : decode cJx4a65c_rangeCheckForAdd_d00df 25 = .ok (.return_, 1) := by decide +kernel
theorem dJ7_fill_53178_0 : decode cJ7_fill_53178 0 = .ok (.iconst 0, 1) := by decide +kernel
theorem dJ7_fill_53178_1 : decode cJ7_fill_53178 1 = .ok (.istore_n 2, 1) := by decide +kernel
theorem dJ7_fill_53178_2 : decode cJ7_fill_53178 2 = .ok (.aload_n 0, 1) := by decide +kernel
theorem dJ7_fill_53178_3 : decode cJ7_fill_53178 3 = .ok (.arraylength, 1) := by decide +kernel
theorem dJ7_fill_53178_4 : decode cJ7_fill_53178 4 = .ok (.istore_n 3, 1) := by decide +kernel
theorem dJ7_fill_53178_5 : decode cJ7_fill_53178 5 = .ok (.iload_n 2, 1) := by decide +kernel
theorem dJ7_fill_53178_6 : decode cJ7_fill_53178 6 = .ok (.iload_n 3, 1) := by decide +kernel
theorem dJ7_fill_53178_7 : decode cJ7_fill_53178 7 = .ok (.if_icmp .ge 13, 3) := by decide +kernel
theorem dJ7_fill_53178_10 : decode cJ7_fill_53178 10 = .ok (.aload_n 0, 1) := by decide +kernel
theorem dJ7_fill_53178_11 : decode cJ7_fill_53178 11 = .ok (.iload_n 2, 1) := by decide +kernel
theorem dJ7_fill_53178_12 : decode cJ7_fill_53178 12 = .ok (.iload_n 1, 1) := by decide +kernel
theorem dJ7_fill_53178_13 : decode cJ7_fill_53178 13 = .ok (.iastore, 1) := by decide +kernel
theorem dJ7_fill_53178_14 : decode cJ7_fill_53178 14 = .ok (.iinc 2 1, 3) := by decide +kernel
theorem dJ7_fill_53178_17 : decode cJ7_fill_53178 17 = .ok (.goto (-12), 3) := by decide +kernel
theorem dJ7_fill_53178_20 : decode cJ7_fill_53178 20 = .ok (.return_, 1) := by decide +kernel
theorem dJ7_copyOf_1904c_0 : decode cJ7_copyOf_1904c 0 = .ok (.aload_n 0, 1) := by decide +kernel
theorem dJ7_copyOf_1904c_1 : decode cJ7_copyOf_1904c 1 = .ok (.iload_n 1, 1) := by decide +kernel
theorem dJ7_copyOf_1904c_2 : decode cJ7_copyOf_1904c 2 = .ok (.aload_n 0, 1) := by decide +kernel
theorem dJ7_copyOf_1904c_3 : decode cJ7_copyOf_1904c 3 = .ok (.invokevirtual 86, 3) := by decide +kernel
theorem dJ7_copyOf_1904c_6 : decode cJ7_copyOf_1904c 6 = .ok (.invokestatic 300, 3) := by decide +kernel
theorem dJ7_copyOf_1904c_9 : decode cJ7_copyOf_1904c 9 = .ok (.areturn, 1) := by decide +kernel
theorem dJ7_copyOf_6403c_0 : decode cJ7_copyOf_6403c 0 = .ok (.aload_n 2, 1) := by decide +kernel
theorem dJ7_copyOf_6403c_1 : decode cJ7_copyOf_6403c 1 = .ok (.ldc 110, 2) := by decide +kernel
theorem dJ7_copyOf_6403c_3 : decode cJ7_copyOf_6403c 3 = .ok (.if_acmp .ne 10, 3) := by decide +kernel
theorem dJ7_copyOf_6403c_6 : decode cJ7_copyOf_6403c 6 = .ok (.iload_n 1, 1) := by decide +kernel
theorem dJ7_copyOf_6403c_7 : decode cJ7_copyOf_6403c 7 = .ok (.anewarray 2, 3) := by decide +kernel
theorem dJ7_copyOf_6403c_10 : decode cJ7_copyOf_6403c 10 = .ok (.goto 14, 3) := by decide +kernel
theorem dJ7_copyOf_6403c_13 : decode cJ7_copyOf_6403c 13 = .ok (.aload_n 2, 1) := by decide +kernel
theorem dJ7_copyOf_6403c_14 : decode cJ7_copyOf_6403c 14 = .ok (.invokevirtual 90, 3) := by decide +kernel
theorem dJ7_copyOf_6403c_17 : decode cJ7_copyOf_6403c 17 = .ok (.iload_n 1, 1) := by decide +kernel
theorem dJ7_copyOf_6403c_18 : decode cJ7_copyOf_6403c 18 = .ok (.invokestatic 95, 3) := by decide +kernel
theorem dJ7_copyOf_6403c_21 : decode cJ7_copyOf_6403c 21 = .ok (.checkcast 110, 3) := by decide +kernel
theorem dJ7_copyOf_6403c_24 : decode cJ7_copyOf_6403c 24 = .ok (.astore_n 3, 1) := by decide +kernel
theorem dJ7_copyOf_6403c_25 : decode cJ7_copyOf_6403c 25 = .ok (.aload_n 0, 1) := by decide +kernel
theorem dJ7_copyOf_6403c_26 : decode cJ7_copyOf_6403c 26 = .ok (.iconst 0, 1) := by decide +kernel
theorem dJ7_copyOf_6403c_27 : decode cJ7_copyOf_6403c 27 = .ok (.aload_n 3, 1) := by decide +kernel
theorem dJ7_copyOf_6403c_28 : decode cJ7_copyOf_6403c 28 = .ok (.iconst 0, 1) := by decide +kernel
theorem dJ7_copyOf_6403c_29 : decode cJ7_copyOf_6403c 29 = .ok (.aload_n 0, 1) := by decide +kernel
theorem dJ7_copyOf_6403c_30 : decode cJ7_copyOf_6403c 30 = .ok (.arraylength, 1) := by decide +kernel
theorem dJ7_copyOf_6403c_31 : decode cJ7_copyOf_6403c 31 = .ok (.iload_n 1, 1) := by decide +kernel
theorem dJ7_copyOf_6403c_32 : decode cJ7_copyOf_6403c 32 = .ok (.invokestatic 304, 3) := by decide +kernel
theorem dJ7_copyOf_6403c_35 : decode cJ7_copyOf_6403c 35 = .ok (.invokestatic 150, 3) := by decide +kernel
theorem dJ7_copyOf_6403c_38 : decode cJ7_copyOf_6403c 38 = .ok (.aload_n 3, 1) := by decide +kernel
theorem dJ7_copyOf_6403c_39 : decode cJ7_copyOf_6403c 39 = .ok (.areturn, 1) := by decide +kernel
theorem dJ15_checkIndex_7cf53_0 : decode cJ15_checkIndex_7cf53 0 = .ok (.iload_n 0, 1) := by decide +kernel
theorem dJ15_checkIndex_7cf53_1 : decode cJ15_checkIndex_7cf53 1 = .ok (.iload_n 1, 1) := by decide +kernel
theorem dJ15_checkIndex_7cf53_2 : decode cJ15_checkIndex_7cf53 2 = .ok (.aconst_null, 1) := by decide +kernel
theorem dJ15_checkIndex_7cf53_3 : decode cJ15_checkIndex_7cf53 3 = .ok (.invokestatic 105, 3) := by decide +kernel
theorem dJ15_checkIndex_7cf53_6 : decode cJ15_checkIndex_7cf53 6 = .ok (.ireturn, 1) := by decide +kernel
theorem dJ8_newLength_cabcc_0 : decode cJ8_newLength_cabcc 0 = .ok (.iload_n 0, 1) := by decide +kernel
theorem dJ8_newLength_cabcc_1 : decode cJ8_newLength_cabcc 1 = .ok (.iload_n 1, 1) := by decide +kernel
theorem dJ8_newLength_cabcc_2 : decode cJ8_newLength_cabcc 2 = .ok (.iload_n 2, 1) := by decide +kernel
theorem dJ8_newLength_cabcc_3 : decode cJ8_newLength_cabcc 3 = .ok (.invokestatic 194, 3) := by decide +kernel
theorem dJ8_newLength_cabcc_6 : decode cJ8_newLength_cabcc 6 = .ok (.iadd, 1) := by decide +kernel
theorem dJ8_newLength_cabcc_7 : decode cJ8_newLength_cabcc 7 = .ok (.istore_n 3, 1) := by decide +kernel
theorem dJ8_newLength_cabcc_8 : decode cJ8_newLength_cabcc 8 = .ok (.iconst 0, 1) := by decide +kernel
theorem dJ8_newLength_cabcc_9 : decode cJ8_newLength_cabcc 9 = .ok (.iload_n 3, 1) := by decide +kernel
theorem dJ8_newLength_cabcc_10 : decode cJ8_newLength_cabcc 10 = .ok (.if_icmp .ge 11, 3) := by decide +kernel
theorem dJ8_newLength_cabcc_13 : decode cJ8_newLength_cabcc 13 = .ok (.iload_n 3, 1) := by decide +kernel
theorem dJ8_newLength_cabcc_14 : decode cJ8_newLength_cabcc 14 = .ok (.ldc 200, 2) := by decide +kernel
theorem dJ8_newLength_cabcc_16 : decode cJ8_newLength_cabcc 16 = .ok (.if_icmp .gt 5, 3) := by decide +kernel
theorem dJ8_newLength_cabcc_19 : decode cJ8_newLength_cabcc 19 = .ok (.iload_n 3, 1) := by decide +kernel
theorem dJ8_newLength_cabcc_20 : decode cJ8_newLength_cabcc 20 = .ok (.ireturn, 1) := by decide +kernel
theorem dJ8_newLength_cabcc_21 : decode cJ8_newLength_cabcc 21 = .ok (.iload_n 0, 1) := by decide +kernel
theorem dJ8_newLength_cabcc_22 : decode cJ8_newLength_cabcc 22 = .ok (.iload_n 1, 1) := by decide +kernel
theorem dJ8_newLength_cabcc_23 : decode cJ8_newLength_cabcc 23 = .ok (.invokestatic 201, 3) := by decide +kernel
theorem dJ8_newLength_cabcc_26 : decode cJ8_newLength_cabcc 26 = .ok (.ireturn, 1) := by decide +kernel
theorem dJ3_checkIndex_8e157_0 : decode cJ3_checkIndex_8e157 0 = .ok (.iload_n 0, 1) := by decide +kernel
theorem dJ3_checkIndex_8e157_1 : decode cJ3_checkIndex_8e157 1 = .ok (.ifCond .lt 8, 3) := by decide +kernel
theorem dJ3_checkIndex_8e157_4 : decode cJ3_checkIndex_8e157 4 = .ok (.iload_n 0, 1) := by decide +kernel
theorem dJ3_checkIndex_8e157_5 : decode cJ3_checkIndex_8e157 5 = .ok (.iload_n 1, 1) := by decide +kernel
theorem dJ3_checkIndex_8e157_6 : decode cJ3_checkIndex_8e157 6 = .ok (.if_icmp .lt 10, 3) := by decide +kernel
theorem dJ3_checkIndex_8e157_9 : decode cJ3_checkIndex_8e157 9 = .ok (.aload_n 2, 1) := by decide +kernel
theorem dJ3_checkIndex_8e157_10 : decode cJ3_checkIndex_8e157 10 = .ok (.iload_n 0, 1) := by decide +kernel
theorem dJ3_checkIndex_8e157_11 : decode cJ3_checkIndex_8e157 11 = .ok (.iload_n 1, 1) := by decide +kernel
theorem dJ3_checkIndex_8e157_12 : decode cJ3_checkIndex_8e157 12 = .ok (.invokestatic 95, 3) := by decide +kernel
theorem dJ3_checkIndex_8e157_15 : decode cJ3_checkIndex_8e157 15 = .ok (.athrow, 1) := by decide +kernel
theorem dJ3_checkIndex_8e157_16 : decode cJ3_checkIndex_8e157 16 = .ok (.iload_n 0, 1) := by decide +kernel
theorem dJ3_checkIndex_8e157_17 : decode cJ3_checkIndex_8e157 17 = .ok (.ireturn, 1) := by decide +kernel
end
section
theorem in_t1 : ∀ w ∈ tables_1_1, w ∈ lw_tbl := fun w h => List.mem_append_right _ (List.mem_append_left _ h)
theorem in_t2 : ∀ w ∈ tables_1_2, w ∈ lw_tbl := fun w h => List.mem_append_right _ (List.mem_append_right _ (List.mem_append_left _ h))
theorem in_t3 : ∀ w ∈ tables_1_3, w ∈ lw_tbl := fun w h => List.mem_append_right _ (List.mem_append_right _ (List.mem_append_right _ (List.mem_append_left _ h)))
theorem in_t4 : ∀ w ∈ tables_1_4, w ∈ lw_tbl := fun w h => List.mem_append_right _ (List.mem_append_right _ (List.mem_append_right _ (List.mem_append_right _ (List.mem_append_left _ h))))
theorem in_t5 : ∀ w ∈ tables_1_5, w ∈ lw_tbl := fun w h => List.mem_append_right _ (List.mem_append_right _ (List.mem_append_right _ (List.mem_append_right _ (List.mem_append_right _ (List.mem_append_left _ h)))))
theorem in_t6 : ∀ w ∈ tables_1_6, w ∈ lw_tbl := fun w h => List.mem_append_right _ (List.mem_append_right _ (List.mem_append_right _ (List.mem_append_right _ (List.mem_append_right _ (List.mem_append_right _ (h))))))
theorem tw_1_0 : (Jvm.Cond.initialized "CueBookLaw") ∈ lw_tbl := in_t1 _ (List.mem_of_getElem? (i := 0) (by decide +kernel))
theorem tw_1_1 : (Jvm.Cond.initialized "CueBook") ∈ lw_tbl := in_t1 _ (List.mem_of_getElem? (i := 1) (by decide +kernel))
theorem tw_1_2 : (Jvm.Cond.initialized "java/util/AbstractCollection") ∈ lw_tbl := in_t1 _ (List.mem_of_getElem? (i := 2) (by decide +kernel))
theorem tw_1_3 : (Jvm.Cond.initialized "java/util/AbstractList") ∈ lw_tbl := in_t1 _ (List.mem_of_getElem? (i := 3) (by decide +kernel))
theorem tw_1_4 : (Jvm.Cond.initialized "java/util/ArrayList") ∈ lw_tbl := in_t1 _ (List.mem_of_getElem? (i := 4) (by decide +kernel))
theorem tw_1_5 : (Jvm.Cond.initialized "CueBookModel") ∈ lw_tbl := in_t1 _ (List.mem_of_getElem? (i := 5) (by decide +kernel))
theorem tw_1_6 : (Jvm.Cond.initialized "java/lang/Throwable") ∈ lw_tbl := in_t1 _ (List.mem_of_getElem? (i := 6) (by decide +kernel))
theorem tw_1_7 : (Jvm.Cond.initialized "java/lang/Exception") ∈ lw_tbl := in_t1 _ (List.mem_of_getElem? (i := 7) (by decide +kernel))
theorem tw_1_8 : (Jvm.Cond.initialized "java/lang/RuntimeException") ∈ lw_tbl := in_t1 _ (List.mem_of_getElem? (i := 8) (by decide +kernel))
theorem tw_1_9 : (Jvm.Cond.initialized "java/lang/IllegalArgumentException") ∈ lw_tbl := in_t1 _ (List.mem_of_getElem? (i := 9) (by decide +kernel))
theorem tw_1_10 : (Jvm.Cond.initialized "java/lang/IllegalStateException") ∈ lw_tbl := in_t1 _ (List.mem_of_getElem? (i := 10) (by decide +kernel))
theorem tw_1_11 : (Jvm.Cond.initialized "CueBook$Puppet") ∈ lw_tbl := in_t1 _ (List.mem_of_getElem? (i := 11) (by decide +kernel))
theorem tw_1_12 : (Jvm.Cond.initialized "java/util/Arrays") ∈ lw_tbl := in_t1 _ (List.mem_of_getElem? (i := 12) (by decide +kernel))
theorem tw_1_13 : (Jvm.Cond.initialized "jdk/internal/util/ArraysSupport") ∈ lw_tbl := in_t1 _ (List.mem_of_getElem? (i := 13) (by decide +kernel))
theorem tw_1_14 : (Jvm.Cond.initialized "java/lang/Math") ∈ lw_tbl := in_t1 _ (List.mem_of_getElem? (i := 14) (by decide +kernel))
theorem tw_1_15 : (Jvm.Cond.initialized "java/lang/System") ∈ lw_tbl := in_t1 _ (List.mem_of_getElem? (i := 15) (by decide +kernel))
theorem tw_1_16 : (Jvm.Cond.initialized "CueBook$Player") ∈ lw_tbl := in_t1 _ (List.mem_of_getElem? (i := 16) (by decide +kernel))
theorem tw_1_17 : (Jvm.Cond.initialized "java/lang/IndexOutOfBoundsException") ∈ lw_tbl := in_t1 _ (List.mem_of_getElem? (i := 17) (by decide +kernel))
theorem tw_1_18 : (Jvm.Cond.initialized "java/util/Objects") ∈ lw_tbl := in_t1 _ (List.mem_of_getElem? (i := 18) (by decide +kernel))
theorem tw_1_19 : (Jvm.Cond.initialized "jdk/internal/util/Preconditions") ∈ lw_tbl := in_t1 _ (List.mem_of_getElem? (i := 19) (by decide +kernel))
theorem tw_1_20 : (Jvm.Cond.initialized "CueBook$Cue") ∈ lw_tbl := in_t1 _ (List.mem_of_getElem? (i := 20) (by decide +kernel))
theorem tw_1_21 : (Jvm.Cond.initialized "java/lang/AbstractStringBuilder") ∈ lw_tbl := in_t1 _ (List.mem_of_getElem? (i := 21) (by decide +kernel))
theorem tw_1_22 : (Jvm.Cond.initialized "java/lang/StringBuilder") ∈ lw_tbl := in_t1 _ (List.mem_of_getElem? (i := 22) (by decide +kernel))
theorem tw_1_23 : (Jvm.Cond.initialized "java/lang/String") ∈ lw_tbl := in_t1 _ (List.mem_of_getElem? (i := 23) (by decide +kernel))
theorem tw_1_24 : (Jvm.Cond.initialized "java/lang/StringUTF16") ∈ lw_tbl := in_t1 _ (List.mem_of_getElem? (i := 24) (by decide +kernel))
theorem tw_1_25 : (Jvm.Cond.initialized "java/lang/StringLatin1") ∈ lw_tbl := in_t1 _ (List.mem_of_getElem? (i := 25) (by decide +kernel))
theorem tw_1_26 : (Jvm.Cond.initialized "java/lang/Number") ∈ lw_tbl := in_t1 _ (List.mem_of_getElem? (i := 26) (by decide +kernel))
theorem tw_1_27 : (Jvm.Cond.initialized "java/lang/Integer") ∈ lw_tbl := in_t1 _ (List.mem_of_getElem? (i := 27) (by decide +kernel))
theorem tw_1_28 : (Jvm.Cond.initialized "CueBook$Path") ∈ lw_tbl := in_t1 _ (List.mem_of_getElem? (i := 28) (by decide +kernel))
theorem tw_1_29 : (Jvm.Cond.initialized "CueBook$Stay") ∈ lw_tbl := in_t1 _ (List.mem_of_getElem? (i := 29) (by decide +kernel))
theorem tw_1_30 : (Jvm.Cond.classLink "CueBookLaw" (8 : Nat) "CueBook") ∈ lw_tbl := in_t1 _ (List.mem_of_getElem? (i := 30) (by decide +kernel))
theorem tw_1_31 : (Jvm.Cond.instantiable "CueBook" (8 : Nat)) ∈ lw_tbl := in_t1 _ (List.mem_of_getElem? (i := 31) (by decide +kernel))
theorem tw_1_32 : (Jvm.Cond.methodLink "CueBookLaw" (80 : Nat) ({ cls := "CueBook", name := "<init>", desc := "()V" } : Jvm.MethodName)) ∈ lw_tbl := in_t1 _ (List.mem_of_getElem? (i := 32) (by decide +kernel))
theorem tw_1_33 : (Jvm.Cond.instanceMethod ({ cls := "CueBook", name := "<init>", desc := "()V" } : Jvm.MethodName)) ∈ lw_tbl := in_t1 _ (List.mem_of_getElem? (i := 33) (by decide +kernel))
theorem tw_1_34 : (Jvm.Cond.code ({ cls := "CueBook", name := "<init>", desc := "()V" } : Jvm.MethodName) prog_1_method_1_code (1 : Nat) (Option.none : Option Jvm.ClassFile.FieldType)) ∈ lw_tbl := in_t1 _ (List.mem_of_getElem? (i := 34) (by decide +kernel))
theorem tw_1_35 : (Jvm.Cond.methodLink "CueBook" (1 : Nat) ({ cls := "java/lang/Object", name := "<init>", desc := "()V" } : Jvm.MethodName)) ∈ lw_tbl := in_t1 _ (List.mem_of_getElem? (i := 35) (by decide +kernel))
theorem tw_1_36 : (Jvm.Cond.instanceMethod ({ cls := "java/lang/Object", name := "<init>", desc := "()V" } : Jvm.MethodName)) ∈ lw_tbl := in_t1 _ (List.mem_of_getElem? (i := 36) (by decide +kernel))
theorem tw_1_37 : (Jvm.Cond.code ({ cls := "java/lang/Object", name := "<init>", desc := "()V" } : Jvm.MethodName) object_method_1_code (1 : Nat) (Option.none : Option Jvm.ClassFile.FieldType)) ∈ lw_tbl := in_t1 _ (List.mem_of_getElem? (i := 37) (by decide +kernel))
theorem tw_1_38 : (Jvm.Cond.classLink "CueBook" (7 : Nat) "java/util/ArrayList") ∈ lw_tbl := in_t1 _ (List.mem_of_getElem? (i := 38) (by decide +kernel))
theorem tw_1_39 : (Jvm.Cond.instantiable "java/util/ArrayList" (3 : Nat)) ∈ lw_tbl := in_t1 _ (List.mem_of_getElem? (i := 39) (by decide +kernel))
theorem tw_1_40 : (Jvm.Cond.methodLink "CueBook" (9 : Nat) ({ cls := "java/util/ArrayList", name := "<init>", desc := "()V" } : Jvm.MethodName)) ∈ lw_tbl := in_t1 _ (List.mem_of_getElem? (i := 40) (by decide +kernel))
theorem tw_1_41 : (Jvm.Cond.instanceMethod ({ cls := "java/util/ArrayList", name := "<init>", desc := "()V" } : Jvm.MethodName)) ∈ lw_tbl := in_t1 _ (List.mem_of_getElem? (i := 41) (by decide +kernel))
theorem tw_1_42 : (Jvm.Cond.code ({ cls := "java/util/ArrayList", name := "<init>", desc := "()V" } : Jvm.MethodName) prog_34_method_2_code (1 : Nat) (Option.none : Option Jvm.ClassFile.FieldType)) ∈ lw_tbl := in_t1 _ (List.mem_of_getElem? (i := 42) (by decide +kernel))
theorem tw_1_43 : (Jvm.Cond.methodLink "java/util/ArrayList" (1 : Nat) ({ cls := "java/util/AbstractList", name := "<init>", desc := "()V" } : Jvm.MethodName)) ∈ lw_tbl := in_t1 _ (List.mem_of_getElem? (i := 43) (by decide +kernel))
theorem tw_1_44 : (Jvm.Cond.instanceMethod ({ cls := "java/util/AbstractList", name := "<init>", desc := "()V" } : Jvm.MethodName)) ∈ lw_tbl := in_t1 _ (List.mem_of_getElem? (i := 44) (by decide +kernel))
theorem tw_1_45 : (Jvm.Cond.code ({ cls := "java/util/AbstractList", name := "<init>", desc := "()V" } : Jvm.MethodName) prog_33_method_1_code (1 : Nat) (Option.none : Option Jvm.ClassFile.FieldType)) ∈ lw_tbl := in_t1 _ (List.mem_of_getElem? (i := 45) (by decide +kernel))
theorem tw_1_46 : (Jvm.Cond.methodLink "java/util/AbstractList" (1 : Nat) ({ cls := "java/util/AbstractCollection", name := "<init>", desc := "()V" } : Jvm.MethodName)) ∈ lw_tbl := in_t1 _ (List.mem_of_getElem? (i := 46) (by decide +kernel))
theorem tw_1_47 : (Jvm.Cond.instanceMethod ({ cls := "java/util/AbstractCollection", name := "<init>", desc := "()V" } : Jvm.MethodName)) ∈ lw_tbl := in_t1 _ (List.mem_of_getElem? (i := 47) (by decide +kernel))
theorem tw_1_48 : (Jvm.Cond.code ({ cls := "java/util/AbstractCollection", name := "<init>", desc := "()V" } : Jvm.MethodName) prog_32_method_1_code (1 : Nat) (Option.none : Option Jvm.ClassFile.FieldType)) ∈ lw_tbl := in_t1 _ (List.mem_of_getElem? (i := 48) (by decide +kernel))
theorem tw_1_49 : (Jvm.Cond.methodLink "java/util/AbstractCollection" (1 : Nat) ({ cls := "java/lang/Object", name := "<init>", desc := "()V" } : Jvm.MethodName)) ∈ lw_tbl := in_t1 _ (List.mem_of_getElem? (i := 49) (by decide +kernel))
theorem tw_1_50 : (Jvm.Cond.fieldLink "java/util/ArrayList" (39 : Nat) "java/util/ArrayList" "DEFAULTCAPACITY_EMPTY_ELEMENTDATA" "[Ljava/lang/Object;") ∈ lw_tbl := in_t1 _ (List.mem_of_getElem? (i := 50) (by decide +kernel))
theorem tw_1_51 : (Jvm.Cond.laysStatic "java/util/ArrayList" "DEFAULTCAPACITY_EMPTY_ELEMENTDATA" "[Ljava/lang/Object;") ∈ lw_tbl := in_t1 _ (List.mem_of_getElem? (i := 51) (by decide +kernel))
theorem tw_1_52 : (Jvm.Cond.fieldLink "java/util/ArrayList" (9 : Nat) "java/util/ArrayList" "elementData" "[Ljava/lang/Object;") ∈ lw_tbl := in_t1 _ (List.mem_of_getElem? (i := 52) (by decide +kernel))
theorem tw_1_53 : (Jvm.Cond.fieldLink "java/util/ArrayList" (48 : Nat) "java/util/ArrayList" "size" "I") ∈ lw_tbl := in_t1 _ (List.mem_of_getElem? (i := 53) (by decide +kernel))
theorem tw_1_54 : (Jvm.Cond.fieldLink "java/util/AbstractList" (7 : Nat) "java/util/AbstractList" "modCount" "I") ∈ lw_tbl := in_t1 _ (List.mem_of_getElem? (i := 54) (by decide +kernel))
theorem tw_1_55 : (Jvm.Cond.fieldLink "java/util/ArrayList" (63 : Nat) "java/util/ArrayList" "modCount" "I") ∈ lw_tbl := in_t1 _ (List.mem_of_getElem? (i := 55) (by decide +kernel))
theorem tw_1_56 : (Jvm.Cond.sameField "java/util/ArrayList" "java/util/AbstractList" "modCount" "I") ∈ lw_tbl := in_t1 _ (List.mem_of_getElem? (i := 56) (by decide +kernel))
theorem tw_1_57 : (Jvm.Cond.lays "java/util/ArrayList" "java/util/ArrayList" "elementData" "[Ljava/lang/Object;") ∈ lw_tbl := in_t1 _ (List.mem_of_getElem? (i := 57) (by decide +kernel))
theorem tw_1_58 : (Jvm.Cond.soleField "java/util/ArrayList" "elementData") ∈ lw_tbl := in_t1 _ (List.mem_of_getElem? (i := 58) (by decide +kernel))
theorem tw_1_59 : (Jvm.Cond.lays "java/util/ArrayList" "java/util/ArrayList" "size" "I") ∈ lw_tbl := in_t1 _ (List.mem_of_getElem? (i := 59) (by decide +kernel))
theorem tw_1_60 : (Jvm.Cond.soleField "java/util/ArrayList" "size") ∈ lw_tbl := in_t1 _ (List.mem_of_getElem? (i := 60) (by decide +kernel))
theorem tw_1_61 : (Jvm.Cond.lays "java/util/ArrayList" "java/util/AbstractList" "modCount" "I") ∈ lw_tbl := in_t1 _ (List.mem_of_getElem? (i := 61) (by decide +kernel))
theorem tw_1_62 : (Jvm.Cond.soleField "java/util/AbstractList" "modCount") ∈ lw_tbl := in_t1 _ (List.mem_of_getElem? (i := 62) (by decide +kernel))
theorem tw_1_63 : (Jvm.Cond.superclass "java/util/ArrayList" "java/util/AbstractList") ∈ lw_tbl := in_t1 _ (List.mem_of_getElem? (i := 63) (by decide +kernel))
theorem tw_1_64 : (Jvm.Cond.fieldLink "CueBook" (10 : Nat) "CueBook" "puppets" "Ljava/util/ArrayList;") ∈ lw_tbl := in_t1 _ (List.mem_of_getElem? (i := 64) (by decide +kernel))
theorem tw_1_65 : (Jvm.Cond.fieldLink "CueBook" (16 : Nat) "CueBook" "players" "Ljava/util/ArrayList;") ∈ lw_tbl := in_t1 _ (List.mem_of_getElem? (i := 65) (by decide +kernel))
theorem tw_1_66 : (Jvm.Cond.fieldLink "CueBook" (19 : Nat) "CueBook" "cues" "Ljava/util/ArrayList;") ∈ lw_tbl := in_t1 _ (List.mem_of_getElem? (i := 66) (by decide +kernel))
theorem tw_1_67 : (Jvm.Cond.fieldLink "CueBook" (22 : Nat) "CueBook" "castingOrder" "Ljava/util/ArrayList;") ∈ lw_tbl := in_t1 _ (List.mem_of_getElem? (i := 67) (by decide +kernel))
theorem tw_1_68 : (Jvm.Cond.fieldLink "CueBook" (25 : Nat) "CueBook" "struckCues" "I") ∈ lw_tbl := in_t1 _ (List.mem_of_getElem? (i := 68) (by decide +kernel))
theorem tw_1_69 : (Jvm.Cond.fieldLink "CueBook" (29 : Nat) "CueBook" "castingStands" "Z") ∈ lw_tbl := in_t1 _ (List.mem_of_getElem? (i := 69) (by decide +kernel))
theorem tw_1_70 : (Jvm.Cond.fieldLink "CueBook" (33 : Nat) "CueBook" "clashesStand" "Z") ∈ lw_tbl := in_t1 _ (List.mem_of_getElem? (i := 70) (by decide +kernel))
theorem tw_1_71 : (Jvm.Cond.fieldLink "CueBook" (36 : Nat) "CueBook" "clashingPairs" "I") ∈ lw_tbl := in_t1 _ (List.mem_of_getElem? (i := 71) (by decide +kernel))
theorem tw_1_72 : (Jvm.Cond.laysFinal "CueBook" "CueBook" "puppets" "Ljava/util/ArrayList;") ∈ lw_tbl := in_t1 _ (List.mem_of_getElem? (i := 72) (by decide +kernel))
theorem tw_1_73 : (Jvm.Cond.soleField "CueBook" "puppets") ∈ lw_tbl := in_t1 _ (List.mem_of_getElem? (i := 73) (by decide +kernel))
theorem tw_1_74 : (Jvm.Cond.laysFinal "CueBook" "CueBook" "players" "Ljava/util/ArrayList;") ∈ lw_tbl := in_t1 _ (List.mem_of_getElem? (i := 74) (by decide +kernel))
theorem tw_1_75 : (Jvm.Cond.soleField "CueBook" "players") ∈ lw_tbl := in_t1 _ (List.mem_of_getElem? (i := 75) (by decide +kernel))
theorem tw_1_76 : (Jvm.Cond.laysFinal "CueBook" "CueBook" "cues" "Ljava/util/ArrayList;") ∈ lw_tbl := in_t1 _ (List.mem_of_getElem? (i := 76) (by decide +kernel))
theorem tw_1_77 : (Jvm.Cond.soleField "CueBook" "cues") ∈ lw_tbl := in_t1 _ (List.mem_of_getElem? (i := 77) (by decide +kernel))
theorem tw_1_78 : (Jvm.Cond.laysFinal "CueBook" "CueBook" "castingOrder" "Ljava/util/ArrayList;") ∈ lw_tbl := in_t1 _ (List.mem_of_getElem? (i := 78) (by decide +kernel))
theorem tw_1_79 : (Jvm.Cond.soleField "CueBook" "castingOrder") ∈ lw_tbl := in_t1 _ (List.mem_of_getElem? (i := 79) (by decide +kernel))
theorem tw_1_80 : (Jvm.Cond.lays "CueBook" "CueBook" "struckCues" "I") ∈ lw_tbl := in_t1 _ (List.mem_of_getElem? (i := 80) (by decide +kernel))
theorem tw_1_81 : (Jvm.Cond.soleField "CueBook" "struckCues") ∈ lw_tbl := in_t1 _ (List.mem_of_getElem? (i := 81) (by decide +kernel))
theorem tw_1_82 : (Jvm.Cond.lays "CueBook" "CueBook" "castingStands" "Z") ∈ lw_tbl := in_t1 _ (List.mem_of_getElem? (i := 82) (by decide +kernel))
theorem tw_1_83 : (Jvm.Cond.soleField "CueBook" "castingStands") ∈ lw_tbl := in_t1 _ (List.mem_of_getElem? (i := 83) (by decide +kernel))
theorem tw_1_84 : (Jvm.Cond.lays "CueBook" "CueBook" "clashesStand" "Z") ∈ lw_tbl := in_t1 _ (List.mem_of_getElem? (i := 84) (by decide +kernel))
theorem tw_1_85 : (Jvm.Cond.soleField "CueBook" "clashesStand") ∈ lw_tbl := in_t1 _ (List.mem_of_getElem? (i := 85) (by decide +kernel))
theorem tw_1_86 : (Jvm.Cond.lays "CueBook" "CueBook" "clashingPairs" "I") ∈ lw_tbl := in_t1 _ (List.mem_of_getElem? (i := 86) (by decide +kernel))
theorem tw_1_87 : (Jvm.Cond.soleField "CueBook" "clashingPairs") ∈ lw_tbl := in_t1 _ (List.mem_of_getElem? (i := 87) (by decide +kernel))
theorem tw_1_88 : (Jvm.Cond.superclass "CueBook" "java/lang/Object") ∈ lw_tbl := in_t1 _ (List.mem_of_getElem? (i := 88) (by decide +kernel))
theorem tw_1_89 : (Jvm.Cond.methodLink "CueBookLaw" (133 : Nat) ({ cls := "CueBook", name := "clashes", desc := "()I" } : Jvm.MethodName)) ∈ lw_tbl := in_t1 _ (List.mem_of_getElem? (i := 89) (by decide +kernel))
theorem tw_1_90 : (Jvm.Cond.instanceMethod ({ cls := "CueBook", name := "clashes", desc := "()I" } : Jvm.MethodName)) ∈ lw_tbl := in_t1 _ (List.mem_of_getElem? (i := 90) (by decide +kernel))
theorem tw_1_91 : (Jvm.Cond.selects "CueBook" ({ cls := "CueBook", name := "clashes", desc := "()I" } : Jvm.MethodName) ({ cls := "CueBook", name := "clashes", desc := "()I" } : Jvm.MethodName)) ∈ lw_tbl := in_t1 _ (List.mem_of_getElem? (i := 91) (by decide +kernel))
theorem tw_1_92 : (Jvm.Cond.code ({ cls := "CueBook", name := "clashes", desc := "()I" } : Jvm.MethodName) prog_1_method_15_code (1 : Nat) (Option.some Jvm.ClassFile.FieldType.int)) ∈ lw_tbl := in_t1 _ (List.mem_of_getElem? (i := 92) (by decide +kernel))
theorem tw_1_93 : (Jvm.Cond.methodLink "CueBook" (150 : Nat) ({ cls := "CueBook", name := "countClashingPairs", desc := "()I" } : Jvm.MethodName)) ∈ lw_tbl := in_t1 _ (List.mem_of_getElem? (i := 93) (by decide +kernel))
theorem tw_1_94 : (Jvm.Cond.privateMethod ({ cls := "CueBook", name := "countClashingPairs", desc := "()I" } : Jvm.MethodName)) ∈ lw_tbl := in_t1 _ (List.mem_of_getElem? (i := 94) (by decide +kernel))
theorem tw_1_95 : (Jvm.Cond.instanceMethod ({ cls := "CueBook", name := "countClashingPairs", desc := "()I" } : Jvm.MethodName)) ∈ lw_tbl := in_t1 _ (List.mem_of_getElem? (i := 95) (by decide +kernel))
theorem tw_1_96 : (Jvm.Cond.code ({ cls := "CueBook", name := "countClashingPairs", desc := "()I" } : Jvm.MethodName) prog_1_method_37_code (4 : Nat) (Option.some Jvm.ClassFile.FieldType.int)) ∈ lw_tbl := in_t1 _ (List.mem_of_getElem? (i := 96) (by decide +kernel))
theorem tw_1_97 : (Jvm.Cond.methodLink "CueBook" (48 : Nat) ({ cls := "java/util/ArrayList", name := "size", desc := "()I" } : Jvm.MethodName)) ∈ lw_tbl := in_t1 _ (List.mem_of_getElem? (i := 97) (by decide +kernel))
theorem tw_1_98 : (Jvm.Cond.instanceMethod ({ cls := "java/util/ArrayList", name := "size", desc := "()I" } : Jvm.MethodName)) ∈ lw_tbl := in_t1 _ (List.mem_of_getElem? (i := 98) (by decide +kernel))
theorem tw_1_99 : (Jvm.Cond.selects "java/util/ArrayList" ({ cls := "java/util/ArrayList", name := "size", desc := "()I" } : Jvm.MethodName) ({ cls := "java/util/ArrayList", name := "size", desc := "()I" } : Jvm.MethodName)) ∈ lw_tbl := in_t1 _ (List.mem_of_getElem? (i := 99) (by decide +kernel))
theorem tw_1_100 : (Jvm.Cond.code ({ cls := "java/util/ArrayList", name := "size", desc := "()I" } : Jvm.MethodName) prog_34_method_8_code (1 : Nat) (Option.some Jvm.ClassFile.FieldType.int)) ∈ lw_tbl := in_t1 _ (List.mem_of_getElem? (i := 100) (by decide +kernel))
theorem tw_1_101 : (Jvm.Cond.methodLink "CueBook" (137 : Nat) ({ cls := "java/util/ArrayList", name := "get", desc := "(I)Ljava/lang/Object;" } : Jvm.MethodName)) ∈ lw_tbl := in_t1 _ (List.mem_of_getElem? (i := 101) (by decide +kernel))
theorem tw_1_102 : (Jvm.Cond.instanceMethod ({ cls := "java/util/ArrayList", name := "get", desc := "(I)Ljava/lang/Object;" } : Jvm.MethodName)) ∈ lw_tbl := in_t1 _ (List.mem_of_getElem? (i := 102) (by decide +kernel))
theorem tw_1_103 : (Jvm.Cond.selects "java/util/ArrayList" ({ cls := "java/util/ArrayList", name := "get", desc := "(I)Ljava/lang/Object;" } : Jvm.MethodName) ({ cls := "java/util/ArrayList", name := "get", desc := "(I)Ljava/lang/Object;" } : Jvm.MethodName)) ∈ lw_tbl := in_t1 _ (List.mem_of_getElem? (i := 103) (by decide +kernel))
theorem tw_1_104 : (Jvm.Cond.code ({ cls := "java/util/ArrayList", name := "get", desc := "(I)Ljava/lang/Object;" } : Jvm.MethodName) prog_34_method_20_code (2 : Nat) (Option.some (Jvm.ClassFile.FieldType.object "java/lang/Object"))) ∈ lw_tbl := in_t1 _ (List.mem_of_getElem? (i := 104) (by decide +kernel))
theorem tw_1_105 : (Jvm.Cond.methodLink "java/util/ArrayList" (118 : Nat) ({ cls := "java/util/Objects", name := "checkIndex", desc := "(II)I" } : Jvm.MethodName)) ∈ lw_tbl := in_t1 _ (List.mem_of_getElem? (i := 105) (by decide +kernel))
theorem tw_1_106 : (Jvm.Cond.static ({ cls := "java/util/Objects", name := "checkIndex", desc := "(II)I" } : Jvm.MethodName)) ∈ lw_tbl := in_t1 _ (List.mem_of_getElem? (i := 106) (by decide +kernel))
theorem tw_1_107 : (Jvm.Cond.code ({ cls := "java/util/Objects", name := "checkIndex", desc := "(II)I" } : Jvm.MethodName) prog_38_method_17_code (2 : Nat) (Option.some Jvm.ClassFile.FieldType.int)) ∈ lw_tbl := in_t1 _ (List.mem_of_getElem? (i := 107) (by decide +kernel))
theorem tw_1_108 : (Jvm.Cond.methodLink "java/util/Objects" (105 : Nat) ({ cls := "jdk/internal/util/Preconditions", name := "checkIndex", desc := "(IILjava/util/function/BiFunction;)I" } : Jvm.MethodName)) ∈ lw_tbl := in_t1 _ (List.mem_of_getElem? (i := 108) (by decide +kernel))
theorem tw_1_109 : (Jvm.Cond.static ({ cls := "jdk/internal/util/Preconditions", name := "checkIndex", desc := "(IILjava/util/function/BiFunction;)I" } : Jvm.MethodName)) ∈ lw_tbl := in_t1 _ (List.mem_of_getElem? (i := 109) (by decide +kernel))
theorem tw_1_110 : (Jvm.Cond.code ({ cls := "jdk/internal/util/Preconditions", name := "checkIndex", desc := "(IILjava/util/function/BiFunction;)I" } : Jvm.MethodName) prog_42_method_11_code (3 : Nat) (Option.some Jvm.ClassFile.FieldType.int)) ∈ lw_tbl := in_t1 _ (List.mem_of_getElem? (i := 110) (by decide +kernel))
theorem tw_1_111 : (Jvm.Cond.methodLink "java/util/ArrayList" (123 : Nat) ({ cls := "java/util/ArrayList", name := "elementData", desc := "(I)Ljava/lang/Object;" } : Jvm.MethodName)) ∈ lw_tbl := in_t1 _ (List.mem_of_getElem? (i := 111) (by decide +kernel))
theorem tw_1_112 : (Jvm.Cond.instanceMethod ({ cls := "java/util/ArrayList", name := "elementData", desc := "(I)Ljava/lang/Object;" } : Jvm.MethodName)) ∈ lw_tbl := in_t1 _ (List.mem_of_getElem? (i := 112) (by decide +kernel))
theorem tw_1_113 : (Jvm.Cond.selects "java/util/ArrayList" ({ cls := "java/util/ArrayList", name := "elementData", desc := "(I)Ljava/lang/Object;" } : Jvm.MethodName) ({ cls := "java/util/ArrayList", name := "elementData", desc := "(I)Ljava/lang/Object;" } : Jvm.MethodName)) ∈ lw_tbl := in_t1 _ (List.mem_of_getElem? (i := 113) (by decide +kernel))
theorem tw_1_114 : (Jvm.Cond.code ({ cls := "java/util/ArrayList", name := "elementData", desc := "(I)Ljava/lang/Object;" } : Jvm.MethodName) prog_34_method_18_code (2 : Nat) (Option.some (Jvm.ClassFile.FieldType.object "java/lang/Object"))) ∈ lw_tbl := in_t1 _ (List.mem_of_getElem? (i := 114) (by decide +kernel))
theorem tw_1_115 : (Jvm.Cond.classLink "CueBook" (57 : Nat) "CueBook$Puppet") ∈ lw_tbl := in_t1 _ (List.mem_of_getElem? (i := 115) (by decide +kernel))
theorem tw_1_116 : (Jvm.Cond.methodLink "CueBook" (146 : Nat) ({ cls := "CueBook", name := "firstClash", desc := "(LCueBook$Puppet;LCueBook$Puppet;)I" } : Jvm.MethodName)) ∈ lw_tbl := in_t1 _ (List.mem_of_getElem? (i := 116) (by decide +kernel))
theorem tw_1_117 : (Jvm.Cond.static ({ cls := "CueBook", name := "firstClash", desc := "(LCueBook$Puppet;LCueBook$Puppet;)I" } : Jvm.MethodName)) ∈ lw_tbl := in_t1 _ (List.mem_of_getElem? (i := 117) (by decide +kernel))
theorem tw_1_118 : (Jvm.Cond.code ({ cls := "CueBook", name := "firstClash", desc := "(LCueBook$Puppet;LCueBook$Puppet;)I" } : Jvm.MethodName) prog_1_method_38_code (3 : Nat) (Option.some Jvm.ClassFile.FieldType.int)) ∈ lw_tbl := in_t1 _ (List.mem_of_getElem? (i := 118) (by decide +kernel))
theorem tw_1_119 : (Jvm.Cond.methodLink "CueBook" (262 : Nat) ({ cls := "CueBook", name := "areOnOneTrack", desc := "(LCueBook$Puppet;LCueBook$Puppet;I)Z" } : Jvm.MethodName)) ∈ lw_tbl := in_t1 _ (List.mem_of_getElem? (i := 119) (by decide +kernel))
theorem tw_1_120 : (Jvm.Cond.static ({ cls := "CueBook", name := "areOnOneTrack", desc := "(LCueBook$Puppet;LCueBook$Puppet;I)Z" } : Jvm.MethodName)) ∈ lw_tbl := in_t1 _ (List.mem_of_getElem? (i := 120) (by decide +kernel))
theorem tw_1_121 : (Jvm.Cond.code ({ cls := "CueBook", name := "areOnOneTrack", desc := "(LCueBook$Puppet;LCueBook$Puppet;I)Z" } : Jvm.MethodName) prog_1_method_39_code (3 : Nat) (Option.some Jvm.ClassFile.FieldType.boolean)) ∈ lw_tbl := in_t1 _ (List.mem_of_getElem? (i := 121) (by decide +kernel))
theorem tw_1_122 : (Jvm.Cond.methodLink "CueBook" (266 : Nat) ({ cls := "CueBook", name := "exchangePlaces", desc := "(LCueBook$Puppet;LCueBook$Puppet;I)Z" } : Jvm.MethodName)) ∈ lw_tbl := in_t1 _ (List.mem_of_getElem? (i := 122) (by decide +kernel))
theorem tw_1_123 : (Jvm.Cond.static ({ cls := "CueBook", name := "exchangePlaces", desc := "(LCueBook$Puppet;LCueBook$Puppet;I)Z" } : Jvm.MethodName)) ∈ lw_tbl := in_t1 _ (List.mem_of_getElem? (i := 123) (by decide +kernel))
theorem tw_1_124 : (Jvm.Cond.code ({ cls := "CueBook", name := "exchangePlaces", desc := "(LCueBook$Puppet;LCueBook$Puppet;I)Z" } : Jvm.MethodName) prog_1_method_40_code (4 : Nat) (Option.some Jvm.ClassFile.FieldType.boolean)) ∈ lw_tbl := in_t1 _ (List.mem_of_getElem? (i := 124) (by decide +kernel))
theorem tw_1_125 : (Jvm.Cond.methodLink "CueBookLaw" (146 : Nat) ({ cls := "CueBook", name := "uncast", desc := "()I" } : Jvm.MethodName)) ∈ lw_tbl := in_t1 _ (List.mem_of_getElem? (i := 125) (by decide +kernel))
theorem tw_1_126 : (Jvm.Cond.instanceMethod ({ cls := "CueBook", name := "uncast", desc := "()I" } : Jvm.MethodName)) ∈ lw_tbl := in_t1 _ (List.mem_of_getElem? (i := 126) (by decide +kernel))
theorem tw_1_127 : (Jvm.Cond.selects "CueBook" ({ cls := "CueBook", name := "uncast", desc := "()I" } : Jvm.MethodName) ({ cls := "CueBook", name := "uncast", desc := "()I" } : Jvm.MethodName)) ∈ lw_tbl := in_t1 _ (List.mem_of_getElem? (i := 127) (by decide +kernel))
theorem tw_1_128 : (Jvm.Cond.code ({ cls := "CueBook", name := "uncast", desc := "()I" } : Jvm.MethodName) prog_1_method_19_code (3 : Nat) (Option.some Jvm.ClassFile.FieldType.int)) ∈ lw_tbl := in_t1 _ (List.mem_of_getElem? (i := 128) (by decide +kernel))
theorem tw_1_129 : (Jvm.Cond.methodLink "CueBook" (166 : Nat) ({ cls := "CueBook", name := "findCasting", desc := "()V" } : Jvm.MethodName)) ∈ lw_tbl := in_t1 _ (List.mem_of_getElem? (i := 129) (by decide +kernel))
theorem tw_1_130 : (Jvm.Cond.privateMethod ({ cls := "CueBook", name := "findCasting", desc := "()V" } : Jvm.MethodName)) ∈ lw_tbl := in_t1 _ (List.mem_of_getElem? (i := 130) (by decide +kernel))
theorem tw_1_131 : (Jvm.Cond.instanceMethod ({ cls := "CueBook", name := "findCasting", desc := "()V" } : Jvm.MethodName)) ∈ lw_tbl := in_t1 _ (List.mem_of_getElem? (i := 131) (by decide +kernel))
theorem tw_1_132 : (Jvm.Cond.code ({ cls := "CueBook", name := "findCasting", desc := "()V" } : Jvm.MethodName) prog_1_method_41_code (2 : Nat) (Option.none : Option Jvm.ClassFile.FieldType)) ∈ lw_tbl := in_t1 _ (List.mem_of_getElem? (i := 132) (by decide +kernel))
theorem tw_1_133 : (Jvm.Cond.classLink "CueBook" (74 : Nat) "CueBook$Player") ∈ lw_tbl := in_t1 _ (List.mem_of_getElem? (i := 133) (by decide +kernel))
theorem tw_1_134 : (Jvm.Cond.methodLink "CueBook" (269 : Nat) ({ cls := "CueBook$Player", name := "putDownAll", desc := "()V" } : Jvm.MethodName)) ∈ lw_tbl := in_t1 _ (List.mem_of_getElem? (i := 134) (by decide +kernel))
theorem tw_1_135 : (Jvm.Cond.instanceMethod ({ cls := "CueBook$Player", name := "putDownAll", desc := "()V" } : Jvm.MethodName)) ∈ lw_tbl := in_t1 _ (List.mem_of_getElem? (i := 135) (by decide +kernel))
theorem tw_1_136 : (Jvm.Cond.selects "CueBook$Player" ({ cls := "CueBook$Player", name := "putDownAll", desc := "()V" } : Jvm.MethodName) ({ cls := "CueBook$Player", name := "putDownAll", desc := "()V" } : Jvm.MethodName)) ∈ lw_tbl := in_t1 _ (List.mem_of_getElem? (i := 136) (by decide +kernel))
theorem tw_1_137 : (Jvm.Cond.code ({ cls := "CueBook$Player", name := "putDownAll", desc := "()V" } : Jvm.MethodName) prog_4_method_3_code (1 : Nat) (Option.none : Option Jvm.ClassFile.FieldType)) ∈ lw_tbl := in_t1 _ (List.mem_of_getElem? (i := 137) (by decide +kernel))
theorem tw_1_138 : (Jvm.Cond.methodLink "CueBook$Player" (27 : Nat) ({ cls := "java/util/Arrays", name := "fill", desc := "([II)V" } : Jvm.MethodName)) ∈ lw_tbl := in_t1 _ (List.mem_of_getElem? (i := 138) (by decide +kernel))
theorem tw_1_139 : (Jvm.Cond.static ({ cls := "java/util/Arrays", name := "fill", desc := "([II)V" } : Jvm.MethodName)) ∈ lw_tbl := in_t1 _ (List.mem_of_getElem? (i := 139) (by decide +kernel))
theorem tw_1_140 : (Jvm.Cond.code ({ cls := "java/util/Arrays", name := "fill", desc := "([II)V" } : Jvm.MethodName) prog_35_method_103_code (4 : Nat) (Option.none : Option Jvm.ClassFile.FieldType)) ∈ lw_tbl := in_t1 _ (List.mem_of_getElem? (i := 140) (by decide +kernel))
theorem tw_1_141 : (Jvm.Cond.methodLink "CueBook" (272 : Nat) ({ cls := "CueBook", name := "orderStays", desc := "()V" } : Jvm.MethodName)) ∈ lw_tbl := in_t1 _ (List.mem_of_getElem? (i := 141) (by decide +kernel))
theorem tw_1_142 : (Jvm.Cond.privateMethod ({ cls := "CueBook", name := "orderStays", desc := "()V" } : Jvm.MethodName)) ∈ lw_tbl := in_t1 _ (List.mem_of_getElem? (i := 142) (by decide +kernel))
theorem tw_1_143 : (Jvm.Cond.instanceMethod ({ cls := "CueBook", name := "orderStays", desc := "()V" } : Jvm.MethodName)) ∈ lw_tbl := in_t1 _ (List.mem_of_getElem? (i := 143) (by decide +kernel))
theorem tw_1_144 : (Jvm.Cond.code ({ cls := "CueBook", name := "orderStays", desc := "()V" } : Jvm.MethodName) prog_1_method_42_code (4 : Nat) (Option.none : Option Jvm.ClassFile.FieldType)) ∈ lw_tbl := in_t1 _ (List.mem_of_getElem? (i := 144) (by decide +kernel))
theorem tw_1_145 : (Jvm.Cond.methodLink "CueBook" (279 : Nat) ({ cls := "java/util/ArrayList", name := "clear", desc := "()V" } : Jvm.MethodName)) ∈ lw_tbl := in_t1 _ (List.mem_of_getElem? (i := 145) (by decide +kernel))
theorem tw_1_146 : (Jvm.Cond.instanceMethod ({ cls := "java/util/ArrayList", name := "clear", desc := "()V" } : Jvm.MethodName)) ∈ lw_tbl := in_t1 _ (List.mem_of_getElem? (i := 146) (by decide +kernel))
theorem tw_1_147 : (Jvm.Cond.selects "java/util/ArrayList" ({ cls := "java/util/ArrayList", name := "clear", desc := "()V" } : Jvm.MethodName) ({ cls := "java/util/ArrayList", name := "clear", desc := "()V" } : Jvm.MethodName)) ∈ lw_tbl := in_t1 _ (List.mem_of_getElem? (i := 147) (by decide +kernel))
theorem tw_1_148 : (Jvm.Cond.code ({ cls := "java/util/ArrayList", name := "clear", desc := "()V" } : Jvm.MethodName) prog_34_method_40_code (4 : Nat) (Option.none : Option Jvm.ClassFile.FieldType)) ∈ lw_tbl := in_t1 _ (List.mem_of_getElem? (i := 148) (by decide +kernel))
theorem tw_1_149 : (Jvm.Cond.classLink "CueBook" (156 : Nat) "CueBook$Stay") ∈ lw_tbl := in_t1 _ (List.mem_of_getElem? (i := 149) (by decide +kernel))
theorem tw_1_150 : (Jvm.Cond.methodLink "CueBook" (282 : Nat) ({ cls := "CueBook", name := "putInOrder", desc := "(LCueBook$Stay;)V" } : Jvm.MethodName)) ∈ lw_tbl := in_t1 _ (List.mem_of_getElem? (i := 150) (by decide +kernel))
theorem tw_1_151 : (Jvm.Cond.privateMethod ({ cls := "CueBook", name := "putInOrder", desc := "(LCueBook$Stay;)V" } : Jvm.MethodName)) ∈ lw_tbl := in_t1 _ (List.mem_of_getElem? (i := 151) (by decide +kernel))
theorem tw_1_152 : (Jvm.Cond.instanceMethod ({ cls := "CueBook", name := "putInOrder", desc := "(LCueBook$Stay;)V" } : Jvm.MethodName)) ∈ lw_tbl := in_t1 _ (List.mem_of_getElem? (i := 152) (by decide +kernel))
theorem tw_1_153 : (Jvm.Cond.code ({ cls := "CueBook", name := "putInOrder", desc := "(LCueBook$Stay;)V" } : Jvm.MethodName) prog_1_method_43_code (3 : Nat) (Option.none : Option Jvm.ClassFile.FieldType)) ∈ lw_tbl := in_t1 _ (List.mem_of_getElem? (i := 153) (by decide +kernel))
theorem tw_1_154 : (Jvm.Cond.methodLink "CueBook" (285 : Nat) ({ cls := "java/util/ArrayList", name := "add", desc := "(ILjava/lang/Object;)V" } : Jvm.MethodName)) ∈ lw_tbl := in_t1 _ (List.mem_of_getElem? (i := 154) (by decide +kernel))
theorem tw_1_155 : (Jvm.Cond.instanceMethod ({ cls := "java/util/ArrayList", name := "add", desc := "(ILjava/lang/Object;)V" } : Jvm.MethodName)) ∈ lw_tbl := in_t1 _ (List.mem_of_getElem? (i := 155) (by decide +kernel))
theorem tw_1_156 : (Jvm.Cond.selects "java/util/ArrayList" ({ cls := "java/util/ArrayList", name := "add", desc := "(ILjava/lang/Object;)V" } : Jvm.MethodName) ({ cls := "java/util/ArrayList", name := "add", desc := "(ILjava/lang/Object;)V" } : Jvm.MethodName)) ∈ lw_tbl := in_t1 _ (List.mem_of_getElem? (i := 156) (by decide +kernel))
theorem tw_1_157 : (Jvm.Cond.code ({ cls := "java/util/ArrayList", name := "add", desc := "(ILjava/lang/Object;)V" } : Jvm.MethodName) prog_34_method_26_code (5 : Nat) (Option.none : Option Jvm.ClassFile.FieldType)) ∈ lw_tbl := in_t1 _ (List.mem_of_getElem? (i := 157) (by decide +kernel))
theorem tw_1_158 : (Jvm.Cond.methodLink "java/util/ArrayList" (135 : Nat) ({ cls := "java/util/ArrayList", name := "rangeCheckForAdd", desc := "(I)V" } : Jvm.MethodName)) ∈ lw_tbl := in_t1 _ (List.mem_of_getElem? (i := 158) (by decide +kernel))
theorem tw_1_159 : (Jvm.Cond.privateMethod ({ cls := "java/util/ArrayList", name := "rangeCheckForAdd", desc := "(I)V" } : Jvm.MethodName)) ∈ lw_tbl := in_t1 _ (List.mem_of_getElem? (i := 159) (by decide +kernel))
theorem tw_1_160 : (Jvm.Cond.instanceMethod ({ cls := "java/util/ArrayList", name := "rangeCheckForAdd", desc := "(I)V" } : Jvm.MethodName)) ∈ lw_tbl := in_t1 _ (List.mem_of_getElem? (i := 160) (by decide +kernel))
theorem tw_1_161 : (Jvm.Cond.code ({ cls := "java/util/ArrayList", name := "rangeCheckForAdd", desc := "(I)V" } : Jvm.MethodName) prog_34_method_45_code (2 : Nat) (Option.none : Option Jvm.ClassFile.FieldType)) ∈ lw_tbl := in_t1 _ (List.mem_of_getElem? (i := 161) (by decide +kernel))
theorem tw_1_162 : (Jvm.Cond.classLink "java/util/ArrayList" (187 : Nat) "java/lang/IndexOutOfBoundsException") ∈ lw_tbl := in_t1 _ (List.mem_of_getElem? (i := 162) (by decide +kernel))
theorem tw_1_163 : (Jvm.Cond.instantiable "java/lang/IndexOutOfBoundsException" (6 : Nat)) ∈ lw_tbl := in_t1 _ (List.mem_of_getElem? (i := 163) (by decide +kernel))
theorem tw_1_164 : (Jvm.Cond.castable "java/lang/IndexOutOfBoundsException" "java/lang/IndexOutOfBoundsException") ∈ lw_tbl := in_t1 _ (List.mem_of_getElem? (i := 164) (by decide +kernel))
theorem tw_1_165 : (Jvm.Cond.declares ({ cls := "java/lang/RuntimeException", name := "<init>", desc := "()V" } : Jvm.MethodName)) ∈ lw_tbl := in_t1 _ (List.mem_of_getElem? (i := 165) (by decide +kernel))
theorem tw_1_166 : (Jvm.Cond.declares ({ cls := "java/lang/RuntimeException", name := "<init>", desc := "(Ljava/lang/String;)V" } : Jvm.MethodName)) ∈ lw_tbl := in_t1 _ (List.mem_of_getElem? (i := 166) (by decide +kernel))
theorem tw_1_167 : (Jvm.Cond.declares ({ cls := "java/lang/Exception", name := "<init>", desc := "()V" } : Jvm.MethodName)) ∈ lw_tbl := in_t1 _ (List.mem_of_getElem? (i := 167) (by decide +kernel))
theorem tw_1_168 : (Jvm.Cond.declares ({ cls := "java/lang/Exception", name := "<init>", desc := "(Ljava/lang/String;)V" } : Jvm.MethodName)) ∈ lw_tbl := in_t1 _ (List.mem_of_getElem? (i := 168) (by decide +kernel))
theorem tw_1_169 : (Jvm.Cond.declares ({ cls := "java/lang/Throwable", name := "<init>", desc := "()V" } : Jvm.MethodName)) ∈ lw_tbl := in_t1 _ (List.mem_of_getElem? (i := 169) (by decide +kernel))
theorem tw_1_170 : (Jvm.Cond.declares ({ cls := "java/lang/Throwable", name := "<init>", desc := "(Ljava/lang/String;)V" } : Jvm.MethodName)) ∈ lw_tbl := in_t1 _ (List.mem_of_getElem? (i := 170) (by decide +kernel))
theorem tw_1_171 : (Jvm.Cond.selects "java/lang/IndexOutOfBoundsException" ({ cls := "java/lang/Throwable", name := "fillInStackTrace", desc := "(I)Ljava/lang/Throwable;" } : Jvm.MethodName) ({ cls := "java/lang/Throwable", name := "fillInStackTrace", desc := "(I)Ljava/lang/Throwable;" } : Jvm.MethodName)) ∈ lw_tbl := in_t1 _ (List.mem_of_getElem? (i := 171) (by decide +kernel))
theorem tw_1_172 : (Jvm.Cond.selects "java/lang/IndexOutOfBoundsException" ({ cls := "java/lang/Throwable", name := "fillInStackTrace", desc := "()Ljava/lang/Throwable;" } : Jvm.MethodName) ({ cls := "java/lang/Throwable", name := "fillInStackTrace", desc := "()Ljava/lang/Throwable;" } : Jvm.MethodName)) ∈ lw_tbl := in_t1 _ (List.mem_of_getElem? (i := 172) (by decide +kernel))
theorem tw_1_173 : (Jvm.Cond.lays "java/lang/IndexOutOfBoundsException" "java/lang/Throwable" "cause" "Ljava/lang/Throwable;") ∈ lw_tbl := in_t1 _ (List.mem_of_getElem? (i := 173) (by decide +kernel))
theorem tw_1_174 : (Jvm.Cond.lays "java/lang/Throwable" "java/lang/Throwable" "cause" "Ljava/lang/Throwable;") ∈ lw_tbl := in_t1 _ (List.mem_of_getElem? (i := 174) (by decide +kernel))
theorem tw_1_175 : (Jvm.Cond.lays "java/lang/IndexOutOfBoundsException" "java/lang/Throwable" "stackTrace" "[Ljava/lang/StackTraceElement;") ∈ lw_tbl := in_t1 _ (List.mem_of_getElem? (i := 175) (by decide +kernel))
theorem tw_1_176 : (Jvm.Cond.lays "java/lang/Throwable" "java/lang/Throwable" "stackTrace" "[Ljava/lang/StackTraceElement;") ∈ lw_tbl := in_t1 _ (List.mem_of_getElem? (i := 176) (by decide +kernel))
theorem tw_1_177 : (Jvm.Cond.lays "java/lang/IndexOutOfBoundsException" "java/lang/Throwable" "suppressedExceptions" "Ljava/util/List;") ∈ lw_tbl := in_t1 _ (List.mem_of_getElem? (i := 177) (by decide +kernel))
theorem tw_1_178 : (Jvm.Cond.lays "java/lang/Throwable" "java/lang/Throwable" "suppressedExceptions" "Ljava/util/List;") ∈ lw_tbl := in_t1 _ (List.mem_of_getElem? (i := 178) (by decide +kernel))
theorem tw_1_179 : (Jvm.Cond.lays "java/lang/IndexOutOfBoundsException" "java/lang/Throwable" "detailMessage" "Ljava/lang/String;") ∈ lw_tbl := in_t1 _ (List.mem_of_getElem? (i := 179) (by decide +kernel))
theorem tw_1_180 : (Jvm.Cond.lays "java/lang/Throwable" "java/lang/Throwable" "detailMessage" "Ljava/lang/String;") ∈ lw_tbl := in_t1 _ (List.mem_of_getElem? (i := 180) (by decide +kernel))
theorem tw_1_181 : (Jvm.Cond.lays "java/lang/IndexOutOfBoundsException" "java/lang/Throwable" "backtrace" "Ljava/lang/Object;") ∈ lw_tbl := in_t1 _ (List.mem_of_getElem? (i := 181) (by decide +kernel))
theorem tw_1_182 : (Jvm.Cond.lays "java/lang/Throwable" "java/lang/Throwable" "backtrace" "Ljava/lang/Object;") ∈ lw_tbl := in_t1 _ (List.mem_of_getElem? (i := 182) (by decide +kernel))
theorem tw_1_183 : (Jvm.Cond.fieldLink "java/lang/Throwable" (198 : Nat) "java/lang/Throwable" "backtrace" "Ljava/lang/Object;") ∈ lw_tbl := in_t1 _ (List.mem_of_getElem? (i := 183) (by decide +kernel))
theorem tw_1_184 : (Jvm.Cond.superclass "java/lang/Throwable" "java/lang/Object") ∈ lw_tbl := in_t1 _ (List.mem_of_getElem? (i := 184) (by decide +kernel))
theorem tw_1_185 : (Jvm.Cond.instanceMethod ({ cls := "java/lang/Throwable", name := "<init>", desc := "()V" } : Jvm.MethodName)) ∈ lw_tbl := in_t1 _ (List.mem_of_getElem? (i := 185) (by decide +kernel))
theorem tw_1_186 : (Jvm.Cond.code ({ cls := "java/lang/Throwable", name := "<init>", desc := "()V" } : Jvm.MethodName) prog_29_method_1_code (1 : Nat) (Option.none : Option Jvm.ClassFile.FieldType)) ∈ lw_tbl := in_t1 _ (List.mem_of_getElem? (i := 186) (by decide +kernel))
theorem tw_1_187 : (Jvm.Cond.methodLink "java/lang/Throwable" (1 : Nat) ({ cls := "java/lang/Object", name := "<init>", desc := "()V" } : Jvm.MethodName)) ∈ lw_tbl := in_t1 _ (List.mem_of_getElem? (i := 187) (by decide +kernel))
theorem tw_1_188 : (Jvm.Cond.fieldLink "java/lang/Throwable" (13 : Nat) "java/lang/Throwable" "UNASSIGNED_STACK" "[Ljava/lang/StackTraceElement;") ∈ lw_tbl := in_t1 _ (List.mem_of_getElem? (i := 188) (by decide +kernel))
theorem tw_1_189 : (Jvm.Cond.laysStatic "java/lang/Throwable" "UNASSIGNED_STACK" "[Ljava/lang/StackTraceElement;") ∈ lw_tbl := in_t1 _ (List.mem_of_getElem? (i := 189) (by decide +kernel))
theorem tw_1_190 : (Jvm.Cond.fieldLink "java/lang/Throwable" (20 : Nat) "java/lang/Throwable" "SUPPRESSED_SENTINEL" "Ljava/util/List;") ∈ lw_tbl := in_t1 _ (List.mem_of_getElem? (i := 190) (by decide +kernel))
theorem tw_1_191 : (Jvm.Cond.laysStatic "java/lang/Throwable" "SUPPRESSED_SENTINEL" "Ljava/util/List;") ∈ lw_tbl := in_t1 _ (List.mem_of_getElem? (i := 191) (by decide +kernel))
theorem tw_1_192 : (Jvm.Cond.methodLink "java/lang/Throwable" (27 : Nat) ({ cls := "java/lang/Throwable", name := "fillInStackTrace", desc := "()Ljava/lang/Throwable;" } : Jvm.MethodName)) ∈ lw_tbl := in_t1 _ (List.mem_of_getElem? (i := 192) (by decide +kernel))
theorem tw_1_193 : (Jvm.Cond.instanceMethod ({ cls := "java/lang/Throwable", name := "fillInStackTrace", desc := "()Ljava/lang/Throwable;" } : Jvm.MethodName)) ∈ lw_tbl := in_t1 _ (List.mem_of_getElem? (i := 193) (by decide +kernel))
theorem tw_1_194 : (Jvm.Cond.sameMethod "java/lang/Throwable" "java/lang/Throwable" "fillInStackTrace" "()Ljava/lang/Throwable;") ∈ lw_tbl := in_t1 _ (List.mem_of_getElem? (i := 194) (by decide +kernel))
theorem tw_1_195 : (Jvm.Cond.selects "java/lang/IllegalArgumentException" ({ cls := "java/lang/Throwable", name := "fillInStackTrace", desc := "()Ljava/lang/Throwable;" } : Jvm.MethodName) ({ cls := "java/lang/Throwable", name := "fillInStackTrace", desc := "()Ljava/lang/Throwable;" } : Jvm.MethodName)) ∈ lw_tbl := in_t1 _ (List.mem_of_getElem? (i := 195) (by decide +kernel))
theorem tw_1_196 : (Jvm.Cond.selects "java/lang/IllegalStateException" ({ cls := "java/lang/Throwable", name := "fillInStackTrace", desc := "()Ljava/lang/Throwable;" } : Jvm.MethodName) ({ cls := "java/lang/Throwable", name := "fillInStackTrace", desc := "()Ljava/lang/Throwable;" } : Jvm.MethodName)) ∈ lw_tbl := in_t1 _ (List.mem_of_getElem? (i := 196) (by decide +kernel))
theorem tw_1_197 : (Jvm.Cond.codeSync ({ cls := "java/lang/Throwable", name := "fillInStackTrace", desc := "()Ljava/lang/Throwable;" } : Jvm.MethodName) prog_29_method_18_code (1 : Nat) (Option.some (Jvm.ClassFile.FieldType.object "java/lang/Throwable"))) ∈ lw_tbl := in_t1 _ (List.mem_of_getElem? (i := 197) (by decide +kernel))
theorem tw_1_198 : (Jvm.Cond.methodLink "java/lang/Throwable" (202 : Nat) ({ cls := "java/lang/Throwable", name := "fillInStackTrace", desc := "(I)Ljava/lang/Throwable;" } : Jvm.MethodName)) ∈ lw_tbl := in_t1 _ (List.mem_of_getElem? (i := 198) (by decide +kernel))
theorem tw_1_199 : (Jvm.Cond.privateMethod ({ cls := "java/lang/Throwable", name := "fillInStackTrace", desc := "(I)Ljava/lang/Throwable;" } : Jvm.MethodName)) ∈ lw_tbl := in_t1 _ (List.mem_of_getElem? (i := 199) (by decide +kernel))
theorem tw_1_200 : (Jvm.Cond.instanceMethod ({ cls := "java/lang/Throwable", name := "fillInStackTrace", desc := "(I)Ljava/lang/Throwable;" } : Jvm.MethodName)) ∈ lw_tbl := in_t1 _ (List.mem_of_getElem? (i := 200) (by decide +kernel))
theorem tw_1_201 : (Jvm.Cond.instantiable "java/lang/Throwable" (6 : Nat)) ∈ lw_tbl := in_t1 _ (List.mem_of_getElem? (i := 201) (by decide +kernel))
theorem tw_1_202 : (Jvm.Cond.native ({ cls := "java/lang/Throwable", name := "fillInStackTrace", desc := "(I)Ljava/lang/Throwable;" } : Jvm.MethodName)) ∈ lw_tbl := in_t1 _ (List.mem_of_getElem? (i := 202) (by decide +kernel))
theorem tw_1_203 : (Jvm.Cond.methodLink "java/util/ArrayList" (198 : Nat) ({ cls := "java/util/ArrayList", name := "outOfBoundsMsg", desc := "(I)Ljava/lang/String;" } : Jvm.MethodName)) ∈ lw_tbl := in_t1 _ (List.mem_of_getElem? (i := 203) (by decide +kernel))
theorem tw_1_204 : (Jvm.Cond.privateMethod ({ cls := "java/util/ArrayList", name := "outOfBoundsMsg", desc := "(I)Ljava/lang/String;" } : Jvm.MethodName)) ∈ lw_tbl := in_t1 _ (List.mem_of_getElem? (i := 204) (by decide +kernel))
theorem tw_1_205 : (Jvm.Cond.instanceMethod ({ cls := "java/util/ArrayList", name := "outOfBoundsMsg", desc := "(I)Ljava/lang/String;" } : Jvm.MethodName)) ∈ lw_tbl := in_t1 _ (List.mem_of_getElem? (i := 205) (by decide +kernel))
theorem tw_1_206 : (Jvm.Cond.code ({ cls := "java/util/ArrayList", name := "outOfBoundsMsg", desc := "(I)Ljava/lang/String;" } : Jvm.MethodName) prog_34_method_46_code (2 : Nat) (Option.some (Jvm.ClassFile.FieldType.object "java/lang/String"))) ∈ lw_tbl := in_t1 _ (List.mem_of_getElem? (i := 206) (by decide +kernel))
theorem tw_1_207 : (Jvm.Cond.classLink "java/util/ArrayList" (20 : Nat) "java/lang/StringBuilder") ∈ lw_tbl := in_t1 _ (List.mem_of_getElem? (i := 207) (by decide +kernel))
theorem tw_1_208 : (Jvm.Cond.instantiable "java/lang/StringBuilder" (4 : Nat)) ∈ lw_tbl := in_t1 _ (List.mem_of_getElem? (i := 208) (by decide +kernel))
theorem tw_1_209 : (Jvm.Cond.methodLink "java/util/ArrayList" (22 : Nat) ({ cls := "java/lang/StringBuilder", name := "<init>", desc := "()V" } : Jvm.MethodName)) ∈ lw_tbl := in_t1 _ (List.mem_of_getElem? (i := 209) (by decide +kernel))
theorem tw_1_210 : (Jvm.Cond.instanceMethod ({ cls := "java/lang/StringBuilder", name := "<init>", desc := "()V" } : Jvm.MethodName)) ∈ lw_tbl := in_t1 _ (List.mem_of_getElem? (i := 210) (by decide +kernel))
theorem tw_1_211 : (Jvm.Cond.code ({ cls := "java/lang/StringBuilder", name := "<init>", desc := "()V" } : Jvm.MethodName) prog_25_method_1_code (1 : Nat) (Option.none : Option Jvm.ClassFile.FieldType)) ∈ lw_tbl := in_t1 _ (List.mem_of_getElem? (i := 211) (by decide +kernel))
theorem tw_1_212 : (Jvm.Cond.methodLink "java/lang/StringBuilder" (1 : Nat) ({ cls := "java/lang/AbstractStringBuilder", name := "<init>", desc := "(I)V" } : Jvm.MethodName)) ∈ lw_tbl := in_t1 _ (List.mem_of_getElem? (i := 212) (by decide +kernel))
theorem tw_1_213 : (Jvm.Cond.instanceMethod ({ cls := "java/lang/AbstractStringBuilder", name := "<init>", desc := "(I)V" } : Jvm.MethodName)) ∈ lw_tbl := in_t1 _ (List.mem_of_getElem? (i := 213) (by decide +kernel))
theorem tw_1_214 : (Jvm.Cond.code ({ cls := "java/lang/AbstractStringBuilder", name := "<init>", desc := "(I)V" } : Jvm.MethodName) prog_10_method_2_code (2 : Nat) (Option.none : Option Jvm.ClassFile.FieldType)) ∈ lw_tbl := in_t1 _ (List.mem_of_getElem? (i := 214) (by decide +kernel))
theorem tw_1_215 : (Jvm.Cond.methodLink "java/lang/AbstractStringBuilder" (3 : Nat) ({ cls := "java/lang/Object", name := "<init>", desc := "()V" } : Jvm.MethodName)) ∈ lw_tbl := in_t1 _ (List.mem_of_getElem? (i := 215) (by decide +kernel))
theorem tw_1_216 : (Jvm.Cond.fieldLink "java/lang/AbstractStringBuilder" (18 : Nat) "java/lang/String" "COMPACT_STRINGS" "Z") ∈ lw_tbl := in_t1 _ (List.mem_of_getElem? (i := 216) (by decide +kernel))
theorem tw_1_217 : (Jvm.Cond.laysStatic "java/lang/String" "COMPACT_STRINGS" "Z") ∈ lw_tbl := in_t1 _ (List.mem_of_getElem? (i := 217) (by decide +kernel))
theorem tw_1_218 : (Jvm.Cond.methodLink "java/lang/AbstractStringBuilder" (26 : Nat) ({ cls := "java/lang/StringUTF16", name := "newBytesFor", desc := "(I)[B" } : Jvm.MethodName)) ∈ lw_tbl := in_t1 _ (List.mem_of_getElem? (i := 218) (by decide +kernel))
theorem tw_1_219 : (Jvm.Cond.static ({ cls := "java/lang/StringUTF16", name := "newBytesFor", desc := "(I)[B" } : Jvm.MethodName)) ∈ lw_tbl := in_t1 _ (List.mem_of_getElem? (i := 219) (by decide +kernel))
theorem tw_1_220 : (Jvm.Cond.code ({ cls := "java/lang/StringUTF16", name := "newBytesFor", desc := "(I)[B" } : Jvm.MethodName) prog_27_method_2_code (1 : Nat) (Option.some (Jvm.ClassFile.FieldType.array Jvm.ClassFile.FieldType.byte))) ∈ lw_tbl := in_t1 _ (List.mem_of_getElem? (i := 220) (by decide +kernel))
theorem tw_1_221 : (Jvm.Cond.methodLink "java/lang/StringUTF16" (11 : Nat) ({ cls := "java/lang/StringUTF16", name := "newBytesLength", desc := "(I)I" } : Jvm.MethodName)) ∈ lw_tbl := in_t1 _ (List.mem_of_getElem? (i := 221) (by decide +kernel))
theorem tw_1_222 : (Jvm.Cond.static ({ cls := "java/lang/StringUTF16", name := "newBytesLength", desc := "(I)I" } : Jvm.MethodName)) ∈ lw_tbl := in_t1 _ (List.mem_of_getElem? (i := 222) (by decide +kernel))
theorem tw_1_223 : (Jvm.Cond.code ({ cls := "java/lang/StringUTF16", name := "newBytesLength", desc := "(I)I" } : Jvm.MethodName) prog_27_method_3_code (1 : Nat) (Option.some Jvm.ClassFile.FieldType.int)) ∈ lw_tbl := in_t1 _ (List.mem_of_getElem? (i := 223) (by decide +kernel))
theorem tw_1_224 : (Jvm.Cond.constant "java/lang/StringUTF16" (20 : Nat) (1073741823 : Int32)) ∈ lw_tbl := in_t1 _ (List.mem_of_getElem? (i := 224) (by decide +kernel))
theorem tw_1_225 : (Jvm.Cond.fieldLink "java/lang/AbstractStringBuilder" (15 : Nat) "java/lang/AbstractStringBuilder" "value" "[B") ∈ lw_tbl := in_t1 _ (List.mem_of_getElem? (i := 225) (by decide +kernel))
theorem tw_1_226 : (Jvm.Cond.fieldLink "java/lang/AbstractStringBuilder" (22 : Nat) "java/lang/AbstractStringBuilder" "coder" "B") ∈ lw_tbl := in_t1 _ (List.mem_of_getElem? (i := 226) (by decide +kernel))
theorem tw_1_227 : (Jvm.Cond.fieldLink "java/lang/String" (1048 : Nat) "java/lang/AbstractStringBuilder" "maybeLatin1" "Z") ∈ lw_tbl := in_t1 _ (List.mem_of_getElem? (i := 227) (by decide +kernel))
theorem tw_1_228 : (Jvm.Cond.fieldLink "java/lang/AbstractStringBuilder" (79 : Nat) "java/lang/AbstractStringBuilder" "count" "I") ∈ lw_tbl := in_t1 _ (List.mem_of_getElem? (i := 228) (by decide +kernel))
theorem tw_1_229 : (Jvm.Cond.lays "java/lang/StringBuilder" "java/lang/AbstractStringBuilder" "value" "[B") ∈ lw_tbl := in_t1 _ (List.mem_of_getElem? (i := 229) (by decide +kernel))
theorem tw_1_230 : (Jvm.Cond.soleField "java/lang/AbstractStringBuilder" "value") ∈ lw_tbl := in_t1 _ (List.mem_of_getElem? (i := 230) (by decide +kernel))
theorem tw_1_231 : (Jvm.Cond.lays "java/lang/StringBuilder" "java/lang/AbstractStringBuilder" "coder" "B") ∈ lw_tbl := in_t1 _ (List.mem_of_getElem? (i := 231) (by decide +kernel))
theorem tw_1_232 : (Jvm.Cond.soleField "java/lang/AbstractStringBuilder" "coder") ∈ lw_tbl := in_t1 _ (List.mem_of_getElem? (i := 232) (by decide +kernel))
theorem tw_1_233 : (Jvm.Cond.lays "java/lang/StringBuilder" "java/lang/AbstractStringBuilder" "maybeLatin1" "Z") ∈ lw_tbl := in_t1 _ (List.mem_of_getElem? (i := 233) (by decide +kernel))
theorem tw_1_234 : (Jvm.Cond.soleField "java/lang/AbstractStringBuilder" "maybeLatin1") ∈ lw_tbl := in_t1 _ (List.mem_of_getElem? (i := 234) (by decide +kernel))
theorem tw_1_235 : (Jvm.Cond.lays "java/lang/StringBuilder" "java/lang/AbstractStringBuilder" "count" "I") ∈ lw_tbl := in_t1 _ (List.mem_of_getElem? (i := 235) (by decide +kernel))
theorem tw_1_236 : (Jvm.Cond.soleField "java/lang/AbstractStringBuilder" "count") ∈ lw_tbl := in_t1 _ (List.mem_of_getElem? (i := 236) (by decide +kernel))
theorem tw_1_237 : (Jvm.Cond.superclass "java/lang/StringBuilder" "java/lang/AbstractStringBuilder") ∈ lw_tbl := in_t1 _ (List.mem_of_getElem? (i := 237) (by decide +kernel))
theorem tw_1_238 : (Jvm.Cond.arrayClass Jvm.ClassFile.FieldType.byte) ∈ lw_tbl := in_t1 _ (List.mem_of_getElem? (i := 238) (by decide +kernel))
theorem tw_1_239 : (Jvm.Cond.stringRef "java/util/ArrayList" (201 : Nat) "Index: ") ∈ lw_tbl := in_t1 _ (List.mem_of_getElem? (i := 239) (by decide +kernel))
theorem tw_2_0 : (Jvm.Cond.methodLink "java/util/ArrayList" (25 : Nat) ({ cls := "java/lang/StringBuilder", name := "append", desc := "(Ljava/lang/String;)Ljava/lang/StringBuilder;" } : Jvm.MethodName)) ∈ lw_tbl := in_t2 _ (List.mem_of_getElem? (i := 0) (by decide +kernel))
theorem tw_2_1 : (Jvm.Cond.instanceMethod ({ cls := "java/lang/StringBuilder", name := "append", desc := "(Ljava/lang/String;)Ljava/lang/StringBuilder;" } : Jvm.MethodName)) ∈ lw_tbl := in_t2 _ (List.mem_of_getElem? (i := 1) (by decide +kernel))
theorem tw_2_2 : (Jvm.Cond.selects "java/lang/StringBuilder" ({ cls := "java/lang/StringBuilder", name := "append", desc := "(Ljava/lang/String;)Ljava/lang/StringBuilder;" } : Jvm.MethodName) ({ cls := "java/lang/StringBuilder", name := "append", desc := "(Ljava/lang/String;)Ljava/lang/StringBuilder;" } : Jvm.MethodName)) ∈ lw_tbl := in_t2 _ (List.mem_of_getElem? (i := 2) (by decide +kernel))
theorem tw_2_3 : (Jvm.Cond.code ({ cls := "java/lang/StringBuilder", name := "append", desc := "(Ljava/lang/String;)Ljava/lang/StringBuilder;" } : Jvm.MethodName) prog_25_method_7_code (2 : Nat) (Option.some (Jvm.ClassFile.FieldType.object "java/lang/StringBuilder"))) ∈ lw_tbl := in_t2 _ (List.mem_of_getElem? (i := 3) (by decide +kernel))
theorem tw_2_4 : (Jvm.Cond.methodLink "java/lang/StringBuilder" (29 : Nat) ({ cls := "java/lang/AbstractStringBuilder", name := "append", desc := "(Ljava/lang/String;)Ljava/lang/AbstractStringBuilder;" } : Jvm.MethodName)) ∈ lw_tbl := in_t2 _ (List.mem_of_getElem? (i := 4) (by decide +kernel))
theorem tw_2_5 : (Jvm.Cond.instanceMethod ({ cls := "java/lang/AbstractStringBuilder", name := "append", desc := "(Ljava/lang/String;)Ljava/lang/AbstractStringBuilder;" } : Jvm.MethodName)) ∈ lw_tbl := in_t2 _ (List.mem_of_getElem? (i := 5) (by decide +kernel))
theorem tw_2_6 : (Jvm.Cond.code ({ cls := "java/lang/AbstractStringBuilder", name := "append", desc := "(Ljava/lang/String;)Ljava/lang/AbstractStringBuilder;" } : Jvm.MethodName) prog_10_method_22_code (3 : Nat) (Option.some (Jvm.ClassFile.FieldType.object "java/lang/AbstractStringBuilder"))) ∈ lw_tbl := in_t2 _ (List.mem_of_getElem? (i := 6) (by decide +kernel))
theorem tw_2_7 : (Jvm.Cond.methodLink "java/lang/AbstractStringBuilder" (204 : Nat) ({ cls := "java/lang/AbstractStringBuilder", name := "appendNull", desc := "()Ljava/lang/AbstractStringBuilder;" } : Jvm.MethodName)) ∈ lw_tbl := in_t2 _ (List.mem_of_getElem? (i := 7) (by decide +kernel))
theorem tw_2_8 : (Jvm.Cond.privateMethod ({ cls := "java/lang/AbstractStringBuilder", name := "appendNull", desc := "()Ljava/lang/AbstractStringBuilder;" } : Jvm.MethodName)) ∈ lw_tbl := in_t2 _ (List.mem_of_getElem? (i := 8) (by decide +kernel))
theorem tw_2_9 : (Jvm.Cond.instanceMethod ({ cls := "java/lang/AbstractStringBuilder", name := "appendNull", desc := "()Ljava/lang/AbstractStringBuilder;" } : Jvm.MethodName)) ∈ lw_tbl := in_t2 _ (List.mem_of_getElem? (i := 9) (by decide +kernel))
theorem tw_2_10 : (Jvm.Cond.code ({ cls := "java/lang/AbstractStringBuilder", name := "appendNull", desc := "()Ljava/lang/AbstractStringBuilder;" } : Jvm.MethodName) prog_10_method_26_code (3 : Nat) (Option.some (Jvm.ClassFile.FieldType.object "java/lang/AbstractStringBuilder"))) ∈ lw_tbl := in_t2 _ (List.mem_of_getElem? (i := 10) (by decide +kernel))
theorem tw_2_11 : (Jvm.Cond.methodLink "java/lang/AbstractStringBuilder" (100 : Nat) ({ cls := "java/lang/AbstractStringBuilder", name := "ensureCapacityInternal", desc := "(I)V" } : Jvm.MethodName)) ∈ lw_tbl := in_t2 _ (List.mem_of_getElem? (i := 11) (by decide +kernel))
theorem tw_2_12 : (Jvm.Cond.privateMethod ({ cls := "java/lang/AbstractStringBuilder", name := "ensureCapacityInternal", desc := "(I)V" } : Jvm.MethodName)) ∈ lw_tbl := in_t2 _ (List.mem_of_getElem? (i := 12) (by decide +kernel))
theorem tw_2_13 : (Jvm.Cond.instanceMethod ({ cls := "java/lang/AbstractStringBuilder", name := "ensureCapacityInternal", desc := "(I)V" } : Jvm.MethodName)) ∈ lw_tbl := in_t2 _ (List.mem_of_getElem? (i := 13) (by decide +kernel))
theorem tw_2_14 : (Jvm.Cond.code ({ cls := "java/lang/AbstractStringBuilder", name := "ensureCapacityInternal", desc := "(I)V" } : Jvm.MethodName) prog_10_method_9_code (3 : Nat) (Option.none : Option Jvm.ClassFile.FieldType)) ∈ lw_tbl := in_t2 _ (List.mem_of_getElem? (i := 14) (by decide +kernel))
theorem tw_2_15 : (Jvm.Cond.methodLink "java/lang/AbstractStringBuilder" (104 : Nat) ({ cls := "java/lang/AbstractStringBuilder", name := "newCapacity", desc := "(I)I" } : Jvm.MethodName)) ∈ lw_tbl := in_t2 _ (List.mem_of_getElem? (i := 15) (by decide +kernel))
theorem tw_2_16 : (Jvm.Cond.privateMethod ({ cls := "java/lang/AbstractStringBuilder", name := "newCapacity", desc := "(I)I" } : Jvm.MethodName)) ∈ lw_tbl := in_t2 _ (List.mem_of_getElem? (i := 16) (by decide +kernel))
theorem tw_2_17 : (Jvm.Cond.instanceMethod ({ cls := "java/lang/AbstractStringBuilder", name := "newCapacity", desc := "(I)I" } : Jvm.MethodName)) ∈ lw_tbl := in_t2 _ (List.mem_of_getElem? (i := 17) (by decide +kernel))
theorem tw_2_18 : (Jvm.Cond.code ({ cls := "java/lang/AbstractStringBuilder", name := "newCapacity", desc := "(I)I" } : Jvm.MethodName) prog_10_method_10_code (6 : Nat) (Option.some Jvm.ClassFile.FieldType.int)) ∈ lw_tbl := in_t2 _ (List.mem_of_getElem? (i := 18) (by decide +kernel))
theorem tw_2_19 : (Jvm.Cond.methodLink "java/lang/AbstractStringBuilder" (114 : Nat) ({ cls := "jdk/internal/util/ArraysSupport", name := "newLength", desc := "(III)I" } : Jvm.MethodName)) ∈ lw_tbl := in_t2 _ (List.mem_of_getElem? (i := 19) (by decide +kernel))
theorem tw_2_20 : (Jvm.Cond.static ({ cls := "jdk/internal/util/ArraysSupport", name := "newLength", desc := "(III)I" } : Jvm.MethodName)) ∈ lw_tbl := in_t2 _ (List.mem_of_getElem? (i := 20) (by decide +kernel))
theorem tw_2_21 : (Jvm.Cond.code ({ cls := "jdk/internal/util/ArraysSupport", name := "newLength", desc := "(III)I" } : Jvm.MethodName) prog_41_method_27_code (4 : Nat) (Option.some Jvm.ClassFile.FieldType.int)) ∈ lw_tbl := in_t2 _ (List.mem_of_getElem? (i := 21) (by decide +kernel))
theorem tw_2_22 : (Jvm.Cond.methodLink "jdk/internal/util/ArraysSupport" (194 : Nat) ({ cls := "java/lang/Math", name := "max", desc := "(II)I" } : Jvm.MethodName)) ∈ lw_tbl := in_t2 _ (List.mem_of_getElem? (i := 22) (by decide +kernel))
theorem tw_2_23 : (Jvm.Cond.static ({ cls := "java/lang/Math", name := "max", desc := "(II)I" } : Jvm.MethodName)) ∈ lw_tbl := in_t2 _ (List.mem_of_getElem? (i := 23) (by decide +kernel))
theorem tw_2_24 : (Jvm.Cond.code ({ cls := "java/lang/Math", name := "max", desc := "(II)I" } : Jvm.MethodName) prog_21_method_65_code (2 : Nat) (Option.some Jvm.ClassFile.FieldType.int)) ∈ lw_tbl := in_t2 _ (List.mem_of_getElem? (i := 24) (by decide +kernel))
theorem tw_2_25 : (Jvm.Cond.constant "jdk/internal/util/ArraysSupport" (200 : Nat) (2147483639 : Int32)) ∈ lw_tbl := in_t2 _ (List.mem_of_getElem? (i := 25) (by decide +kernel))
theorem tw_2_26 : (Jvm.Cond.methodLink "jdk/internal/util/ArraysSupport" (201 : Nat) ({ cls := "jdk/internal/util/ArraysSupport", name := "hugeLength", desc := "(II)I" } : Jvm.MethodName)) ∈ lw_tbl := in_t2 _ (List.mem_of_getElem? (i := 26) (by decide +kernel))
theorem tw_2_27 : (Jvm.Cond.static ({ cls := "jdk/internal/util/ArraysSupport", name := "hugeLength", desc := "(II)I" } : Jvm.MethodName)) ∈ lw_tbl := in_t2 _ (List.mem_of_getElem? (i := 27) (by decide +kernel))
theorem tw_2_28 : (Jvm.Cond.code ({ cls := "jdk/internal/util/ArraysSupport", name := "hugeLength", desc := "(II)I" } : Jvm.MethodName) prog_41_method_28_code (3 : Nat) (Option.some Jvm.ClassFile.FieldType.int)) ∈ lw_tbl := in_t2 _ (List.mem_of_getElem? (i := 28) (by decide +kernel))
theorem tw_2_29 : (Jvm.Cond.constant "java/lang/AbstractStringBuilder" (39 : Nat) (2147483647 : Int32)) ∈ lw_tbl := in_t2 _ (List.mem_of_getElem? (i := 29) (by decide +kernel))
theorem tw_2_30 : (Jvm.Cond.methodLink "java/lang/AbstractStringBuilder" (108 : Nat) ({ cls := "java/util/Arrays", name := "copyOf", desc := "([BI)[B" } : Jvm.MethodName)) ∈ lw_tbl := in_t2 _ (List.mem_of_getElem? (i := 30) (by decide +kernel))
theorem tw_2_31 : (Jvm.Cond.static ({ cls := "java/util/Arrays", name := "copyOf", desc := "([BI)[B" } : Jvm.MethodName)) ∈ lw_tbl := in_t2 _ (List.mem_of_getElem? (i := 31) (by decide +kernel))
theorem tw_2_32 : (Jvm.Cond.code ({ cls := "java/util/Arrays", name := "copyOf", desc := "([BI)[B" } : Jvm.MethodName) prog_35_method_121_code (3 : Nat) (Option.some (Jvm.ClassFile.FieldType.array Jvm.ClassFile.FieldType.byte))) ∈ lw_tbl := in_t2 _ (List.mem_of_getElem? (i := 32) (by decide +kernel))
theorem tw_2_33 : (Jvm.Cond.methodLink "java/util/Arrays" (310 : Nat) ({ cls := "[B", name := "clone", desc := "()Ljava/lang/Object;" } : Jvm.MethodName)) ∈ lw_tbl := in_t2 _ (List.mem_of_getElem? (i := 33) (by decide +kernel))
theorem tw_2_34 : (Jvm.Cond.sameMethod "[B" "java/lang/Object" "clone" "()Ljava/lang/Object;") ∈ lw_tbl := in_t2 _ (List.mem_of_getElem? (i := 34) (by decide +kernel))
theorem tw_2_35 : (Jvm.Cond.native ({ cls := "java/lang/Object", name := "clone", desc := "()Ljava/lang/Object;" } : Jvm.MethodName)) ∈ lw_tbl := in_t2 _ (List.mem_of_getElem? (i := 35) (by decide +kernel))
theorem tw_2_36 : (Jvm.Cond.instanceMethod ({ cls := "java/lang/Object", name := "clone", desc := "()Ljava/lang/Object;" } : Jvm.MethodName)) ∈ lw_tbl := in_t2 _ (List.mem_of_getElem? (i := 36) (by decide +kernel))
theorem tw_2_37 : (Jvm.Cond.selects "[B" ({ cls := "[B", name := "clone", desc := "()Ljava/lang/Object;" } : Jvm.MethodName) ({ cls := "java/lang/Object", name := "clone", desc := "()Ljava/lang/Object;" } : Jvm.MethodName)) ∈ lw_tbl := in_t2 _ (List.mem_of_getElem? (i := 37) (by decide +kernel))
theorem tw_2_38 : (Jvm.Cond.castable "[B" "java/lang/Cloneable") ∈ lw_tbl := in_t2 _ (List.mem_of_getElem? (i := 38) (by decide +kernel))
theorem tw_2_39 : (Jvm.Cond.classLink "java/util/Arrays" (311 : Nat) "[B") ∈ lw_tbl := in_t2 _ (List.mem_of_getElem? (i := 39) (by decide +kernel))
theorem tw_2_40 : (Jvm.Cond.methodLink "java/util/Arrays" (304 : Nat) ({ cls := "java/lang/Math", name := "min", desc := "(II)I" } : Jvm.MethodName)) ∈ lw_tbl := in_t2 _ (List.mem_of_getElem? (i := 40) (by decide +kernel))
theorem tw_2_41 : (Jvm.Cond.static ({ cls := "java/lang/Math", name := "min", desc := "(II)I" } : Jvm.MethodName)) ∈ lw_tbl := in_t2 _ (List.mem_of_getElem? (i := 41) (by decide +kernel))
theorem tw_2_42 : (Jvm.Cond.code ({ cls := "java/lang/Math", name := "min", desc := "(II)I" } : Jvm.MethodName) prog_21_method_69_code (2 : Nat) (Option.some Jvm.ClassFile.FieldType.int)) ∈ lw_tbl := in_t2 _ (List.mem_of_getElem? (i := 42) (by decide +kernel))
theorem tw_2_43 : (Jvm.Cond.methodLink "java/util/Arrays" (150 : Nat) ({ cls := "java/lang/System", name := "arraycopy", desc := "(Ljava/lang/Object;ILjava/lang/Object;II)V" } : Jvm.MethodName)) ∈ lw_tbl := in_t2 _ (List.mem_of_getElem? (i := 43) (by decide +kernel))
theorem tw_2_44 : (Jvm.Cond.static ({ cls := "java/lang/System", name := "arraycopy", desc := "(Ljava/lang/Object;ILjava/lang/Object;II)V" } : Jvm.MethodName)) ∈ lw_tbl := in_t2 _ (List.mem_of_getElem? (i := 44) (by decide +kernel))
theorem tw_2_45 : (Jvm.Cond.native ({ cls := "java/lang/System", name := "arraycopy", desc := "(Ljava/lang/Object;ILjava/lang/Object;II)V" } : Jvm.MethodName)) ∈ lw_tbl := in_t2 _ (List.mem_of_getElem? (i := 45) (by decide +kernel))
theorem tw_2_46 : (Jvm.Cond.methodLink "java/lang/AbstractStringBuilder" (83 : Nat) ({ cls := "java/lang/AbstractStringBuilder", name := "isLatin1", desc := "()Z" } : Jvm.MethodName)) ∈ lw_tbl := in_t2 _ (List.mem_of_getElem? (i := 46) (by decide +kernel))
theorem tw_2_47 : (Jvm.Cond.instanceMethod ({ cls := "java/lang/AbstractStringBuilder", name := "isLatin1", desc := "()Z" } : Jvm.MethodName)) ∈ lw_tbl := in_t2 _ (List.mem_of_getElem? (i := 47) (by decide +kernel))
theorem tw_2_48 : (Jvm.Cond.sameMethod "java/lang/AbstractStringBuilder" "java/lang/AbstractStringBuilder" "isLatin1" "()Z") ∈ lw_tbl := in_t2 _ (List.mem_of_getElem? (i := 48) (by decide +kernel))
theorem tw_2_49 : (Jvm.Cond.selects "java/lang/StringBuilder" ({ cls := "java/lang/AbstractStringBuilder", name := "isLatin1", desc := "()Z" } : Jvm.MethodName) ({ cls := "java/lang/AbstractStringBuilder", name := "isLatin1", desc := "()Z" } : Jvm.MethodName)) ∈ lw_tbl := in_t2 _ (List.mem_of_getElem? (i := 49) (by decide +kernel))
theorem tw_2_50 : (Jvm.Cond.code ({ cls := "java/lang/AbstractStringBuilder", name := "isLatin1", desc := "()Z" } : Jvm.MethodName) prog_10_method_68_code (1 : Nat) (Option.some Jvm.ClassFile.FieldType.boolean)) ∈ lw_tbl := in_t2 _ (List.mem_of_getElem? (i := 50) (by decide +kernel))
theorem tw_2_51 : (Jvm.Cond.methodLink "java/lang/AbstractStringBuilder" (226 : Nat) ({ cls := "java/lang/StringUTF16", name := "putCharsAt", desc := "([BICCCC)I" } : Jvm.MethodName)) ∈ lw_tbl := in_t2 _ (List.mem_of_getElem? (i := 51) (by decide +kernel))
theorem tw_2_52 : (Jvm.Cond.static ({ cls := "java/lang/StringUTF16", name := "putCharsAt", desc := "([BICCCC)I" } : Jvm.MethodName)) ∈ lw_tbl := in_t2 _ (List.mem_of_getElem? (i := 52) (by decide +kernel))
theorem tw_2_53 : (Jvm.Cond.code ({ cls := "java/lang/StringUTF16", name := "putCharsAt", desc := "([BICCCC)I" } : Jvm.MethodName) prog_27_method_81_code (7 : Nat) (Option.some Jvm.ClassFile.FieldType.int)) ∈ lw_tbl := in_t2 _ (List.mem_of_getElem? (i := 53) (by decide +kernel))
theorem tw_2_54 : (Jvm.Cond.methodLink "java/lang/StringUTF16" (96 : Nat) ({ cls := "java/lang/StringUTF16", name := "checkBoundsBeginEnd", desc := "(II[B)V" } : Jvm.MethodName)) ∈ lw_tbl := in_t2 _ (List.mem_of_getElem? (i := 54) (by decide +kernel))
theorem tw_2_55 : (Jvm.Cond.static ({ cls := "java/lang/StringUTF16", name := "checkBoundsBeginEnd", desc := "(II[B)V" } : Jvm.MethodName)) ∈ lw_tbl := in_t2 _ (List.mem_of_getElem? (i := 55) (by decide +kernel))
theorem tw_2_56 : (Jvm.Cond.code ({ cls := "java/lang/StringUTF16", name := "checkBoundsBeginEnd", desc := "(II[B)V" } : Jvm.MethodName) prog_27_method_93_code (3 : Nat) (Option.none : Option Jvm.ClassFile.FieldType)) ∈ lw_tbl := in_t2 _ (List.mem_of_getElem? (i := 56) (by decide +kernel))
theorem tw_2_57 : (Jvm.Cond.methodLink "java/lang/StringUTF16" (48 : Nat) ({ cls := "java/lang/StringUTF16", name := "length", desc := "([B)I" } : Jvm.MethodName)) ∈ lw_tbl := in_t2 _ (List.mem_of_getElem? (i := 57) (by decide +kernel))
theorem tw_2_58 : (Jvm.Cond.static ({ cls := "java/lang/StringUTF16", name := "length", desc := "([B)I" } : Jvm.MethodName)) ∈ lw_tbl := in_t2 _ (List.mem_of_getElem? (i := 58) (by decide +kernel))
theorem tw_2_59 : (Jvm.Cond.code ({ cls := "java/lang/StringUTF16", name := "length", desc := "([B)I" } : Jvm.MethodName) prog_27_method_6_code (1 : Nat) (Option.some Jvm.ClassFile.FieldType.int)) ∈ lw_tbl := in_t2 _ (List.mem_of_getElem? (i := 59) (by decide +kernel))
theorem tw_2_60 : (Jvm.Cond.methodLink "java/lang/StringUTF16" (241 : Nat) ({ cls := "java/lang/String", name := "checkBoundsBeginEnd", desc := "(III)V" } : Jvm.MethodName)) ∈ lw_tbl := in_t2 _ (List.mem_of_getElem? (i := 60) (by decide +kernel))
theorem tw_2_61 : (Jvm.Cond.static ({ cls := "java/lang/String", name := "checkBoundsBeginEnd", desc := "(III)V" } : Jvm.MethodName)) ∈ lw_tbl := in_t2 _ (List.mem_of_getElem? (i := 61) (by decide +kernel))
theorem tw_2_62 : (Jvm.Cond.code ({ cls := "java/lang/String", name := "checkBoundsBeginEnd", desc := "(III)V" } : Jvm.MethodName) prog_24_method_158_code (3 : Nat) (Option.none : Option Jvm.ClassFile.FieldType)) ∈ lw_tbl := in_t2 _ (List.mem_of_getElem? (i := 62) (by decide +kernel))
theorem tw_2_63 : (Jvm.Cond.fieldLink "java/lang/String" (1053 : Nat) "jdk/internal/util/Preconditions" "SIOOBE_FORMATTER" "Ljava/util/function/BiFunction;") ∈ lw_tbl := in_t2 _ (List.mem_of_getElem? (i := 63) (by decide +kernel))
theorem tw_2_64 : (Jvm.Cond.laysStatic "jdk/internal/util/Preconditions" "SIOOBE_FORMATTER" "Ljava/util/function/BiFunction;") ∈ lw_tbl := in_t2 _ (List.mem_of_getElem? (i := 64) (by decide +kernel))
theorem tw_2_65 : (Jvm.Cond.methodLink "java/lang/String" (1062 : Nat) ({ cls := "jdk/internal/util/Preconditions", name := "checkFromToIndex", desc := "(IIILjava/util/function/BiFunction;)I" } : Jvm.MethodName)) ∈ lw_tbl := in_t2 _ (List.mem_of_getElem? (i := 65) (by decide +kernel))
theorem tw_2_66 : (Jvm.Cond.static ({ cls := "jdk/internal/util/Preconditions", name := "checkFromToIndex", desc := "(IIILjava/util/function/BiFunction;)I" } : Jvm.MethodName)) ∈ lw_tbl := in_t2 _ (List.mem_of_getElem? (i := 66) (by decide +kernel))
theorem tw_2_67 : (Jvm.Cond.code ({ cls := "jdk/internal/util/Preconditions", name := "checkFromToIndex", desc := "(IIILjava/util/function/BiFunction;)I" } : Jvm.MethodName) prog_42_method_12_code (4 : Nat) (Option.some Jvm.ClassFile.FieldType.int)) ∈ lw_tbl := in_t2 _ (List.mem_of_getElem? (i := 67) (by decide +kernel))
theorem tw_2_68 : (Jvm.Cond.methodLink "java/lang/StringUTF16" (111 : Nat) ({ cls := "java/lang/StringUTF16", name := "putChar", desc := "([BII)V" } : Jvm.MethodName)) ∈ lw_tbl := in_t2 _ (List.mem_of_getElem? (i := 68) (by decide +kernel))
theorem tw_2_69 : (Jvm.Cond.static ({ cls := "java/lang/StringUTF16", name := "putChar", desc := "([BII)V" } : Jvm.MethodName)) ∈ lw_tbl := in_t2 _ (List.mem_of_getElem? (i := 69) (by decide +kernel))
theorem tw_2_70 : (Jvm.Cond.code ({ cls := "java/lang/StringUTF16", name := "putChar", desc := "([BII)V" } : Jvm.MethodName) prog_27_method_4_code (3 : Nat) (Option.none : Option Jvm.ClassFile.FieldType)) ∈ lw_tbl := in_t2 _ (List.mem_of_getElem? (i := 70) (by decide +kernel))
theorem tw_2_71 : (Jvm.Cond.fieldLink "java/lang/StringUTF16" (44 : Nat) "java/lang/StringUTF16" "$assertionsDisabled" "Z") ∈ lw_tbl := in_t2 _ (List.mem_of_getElem? (i := 71) (by decide +kernel))
theorem tw_2_72 : (Jvm.Cond.laysStatic "java/lang/StringUTF16" "$assertionsDisabled" "Z") ∈ lw_tbl := in_t2 _ (List.mem_of_getElem? (i := 72) (by decide +kernel))
theorem tw_2_73 : (Jvm.Cond.fieldLink "java/lang/StringUTF16" (59 : Nat) "java/lang/StringUTF16" "HI_BYTE_SHIFT" "I") ∈ lw_tbl := in_t2 _ (List.mem_of_getElem? (i := 73) (by decide +kernel))
theorem tw_2_74 : (Jvm.Cond.laysStatic "java/lang/StringUTF16" "HI_BYTE_SHIFT" "I") ∈ lw_tbl := in_t2 _ (List.mem_of_getElem? (i := 74) (by decide +kernel))
theorem tw_2_75 : (Jvm.Cond.fieldLink "java/lang/StringUTF16" (63 : Nat) "java/lang/StringUTF16" "LO_BYTE_SHIFT" "I") ∈ lw_tbl := in_t2 _ (List.mem_of_getElem? (i := 75) (by decide +kernel))
theorem tw_2_76 : (Jvm.Cond.laysStatic "java/lang/StringUTF16" "LO_BYTE_SHIFT" "I") ∈ lw_tbl := in_t2 _ (List.mem_of_getElem? (i := 76) (by decide +kernel))
theorem tw_2_77 : (Jvm.Cond.methodLink "java/lang/AbstractStringBuilder" (32 : Nat) ({ cls := "java/lang/String", name := "length", desc := "()I" } : Jvm.MethodName)) ∈ lw_tbl := in_t2 _ (List.mem_of_getElem? (i := 77) (by decide +kernel))
theorem tw_2_78 : (Jvm.Cond.instanceMethod ({ cls := "java/lang/String", name := "length", desc := "()I" } : Jvm.MethodName)) ∈ lw_tbl := in_t2 _ (List.mem_of_getElem? (i := 78) (by decide +kernel))
theorem tw_2_79 : (Jvm.Cond.selects "java/lang/String" ({ cls := "java/lang/String", name := "length", desc := "()I" } : Jvm.MethodName) ({ cls := "java/lang/String", name := "length", desc := "()I" } : Jvm.MethodName)) ∈ lw_tbl := in_t2 _ (List.mem_of_getElem? (i := 79) (by decide +kernel))
theorem tw_2_80 : (Jvm.Cond.code ({ cls := "java/lang/String", name := "length", desc := "()I" } : Jvm.MethodName) prog_24_method_54_code (1 : Nat) (Option.some Jvm.ClassFile.FieldType.int)) ∈ lw_tbl := in_t2 _ (List.mem_of_getElem? (i := 80) (by decide +kernel))
theorem tw_2_81 : (Jvm.Cond.methodLink "java/lang/String" (335 : Nat) ({ cls := "java/lang/String", name := "coder", desc := "()B" } : Jvm.MethodName)) ∈ lw_tbl := in_t2 _ (List.mem_of_getElem? (i := 81) (by decide +kernel))
theorem tw_2_82 : (Jvm.Cond.instanceMethod ({ cls := "java/lang/String", name := "coder", desc := "()B" } : Jvm.MethodName)) ∈ lw_tbl := in_t2 _ (List.mem_of_getElem? (i := 82) (by decide +kernel))
theorem tw_2_83 : (Jvm.Cond.selects "java/lang/String" ({ cls := "java/lang/String", name := "coder", desc := "()B" } : Jvm.MethodName) ({ cls := "java/lang/String", name := "coder", desc := "()B" } : Jvm.MethodName)) ∈ lw_tbl := in_t2 _ (List.mem_of_getElem? (i := 83) (by decide +kernel))
theorem tw_2_84 : (Jvm.Cond.code ({ cls := "java/lang/String", name := "coder", desc := "()B" } : Jvm.MethodName) prog_24_method_152_code (1 : Nat) (Option.some Jvm.ClassFile.FieldType.byte)) ∈ lw_tbl := in_t2 _ (List.mem_of_getElem? (i := 84) (by decide +kernel))
theorem tw_2_85 : (Jvm.Cond.fieldLink "java/lang/String" (38 : Nat) "java/lang/String" "COMPACT_STRINGS" "Z") ∈ lw_tbl := in_t2 _ (List.mem_of_getElem? (i := 85) (by decide +kernel))
theorem tw_2_86 : (Jvm.Cond.methodLink "java/lang/AbstractStringBuilder" (208 : Nat) ({ cls := "java/lang/AbstractStringBuilder", name := "putStringAt", desc := "(ILjava/lang/String;)V" } : Jvm.MethodName)) ∈ lw_tbl := in_t2 _ (List.mem_of_getElem? (i := 86) (by decide +kernel))
theorem tw_2_87 : (Jvm.Cond.privateMethod ({ cls := "java/lang/AbstractStringBuilder", name := "putStringAt", desc := "(ILjava/lang/String;)V" } : Jvm.MethodName)) ∈ lw_tbl := in_t2 _ (List.mem_of_getElem? (i := 87) (by decide +kernel))
theorem tw_2_88 : (Jvm.Cond.instanceMethod ({ cls := "java/lang/AbstractStringBuilder", name := "putStringAt", desc := "(ILjava/lang/String;)V" } : Jvm.MethodName)) ∈ lw_tbl := in_t2 _ (List.mem_of_getElem? (i := 88) (by decide +kernel))
theorem tw_2_89 : (Jvm.Cond.code ({ cls := "java/lang/AbstractStringBuilder", name := "putStringAt", desc := "(ILjava/lang/String;)V" } : Jvm.MethodName) prog_10_method_73_code (3 : Nat) (Option.none : Option Jvm.ClassFile.FieldType)) ∈ lw_tbl := in_t2 _ (List.mem_of_getElem? (i := 89) (by decide +kernel))
theorem tw_2_90 : (Jvm.Cond.methodLink "java/lang/AbstractStringBuilder" (397 : Nat) ({ cls := "java/lang/AbstractStringBuilder", name := "inflateIfNeededFor", desc := "(Ljava/lang/String;)V" } : Jvm.MethodName)) ∈ lw_tbl := in_t2 _ (List.mem_of_getElem? (i := 90) (by decide +kernel))
theorem tw_2_91 : (Jvm.Cond.privateMethod ({ cls := "java/lang/AbstractStringBuilder", name := "inflateIfNeededFor", desc := "(Ljava/lang/String;)V" } : Jvm.MethodName)) ∈ lw_tbl := in_t2 _ (List.mem_of_getElem? (i := 91) (by decide +kernel))
theorem tw_2_92 : (Jvm.Cond.instanceMethod ({ cls := "java/lang/AbstractStringBuilder", name := "inflateIfNeededFor", desc := "(Ljava/lang/String;)V" } : Jvm.MethodName)) ∈ lw_tbl := in_t2 _ (List.mem_of_getElem? (i := 92) (by decide +kernel))
theorem tw_2_93 : (Jvm.Cond.code ({ cls := "java/lang/AbstractStringBuilder", name := "inflateIfNeededFor", desc := "(Ljava/lang/String;)V" } : Jvm.MethodName) prog_10_method_71_code (2 : Nat) (Option.none : Option Jvm.ClassFile.FieldType)) ∈ lw_tbl := in_t2 _ (List.mem_of_getElem? (i := 93) (by decide +kernel))
theorem tw_2_94 : (Jvm.Cond.methodLink "java/lang/AbstractStringBuilder" (40 : Nat) ({ cls := "java/lang/String", name := "coder", desc := "()B" } : Jvm.MethodName)) ∈ lw_tbl := in_t2 _ (List.mem_of_getElem? (i := 94) (by decide +kernel))
theorem tw_2_95 : (Jvm.Cond.methodLink "java/lang/AbstractStringBuilder" (195 : Nat) ({ cls := "java/lang/AbstractStringBuilder", name := "inflate", desc := "()V" } : Jvm.MethodName)) ∈ lw_tbl := in_t2 _ (List.mem_of_getElem? (i := 95) (by decide +kernel))
theorem tw_2_96 : (Jvm.Cond.privateMethod ({ cls := "java/lang/AbstractStringBuilder", name := "inflate", desc := "()V" } : Jvm.MethodName)) ∈ lw_tbl := in_t2 _ (List.mem_of_getElem? (i := 96) (by decide +kernel))
theorem tw_2_97 : (Jvm.Cond.instanceMethod ({ cls := "java/lang/AbstractStringBuilder", name := "inflate", desc := "()V" } : Jvm.MethodName)) ∈ lw_tbl := in_t2 _ (List.mem_of_getElem? (i := 97) (by decide +kernel))
theorem tw_2_98 : (Jvm.Cond.code ({ cls := "java/lang/AbstractStringBuilder", name := "inflate", desc := "()V" } : Jvm.MethodName) prog_10_method_11_code (2 : Nat) (Option.none : Option Jvm.ClassFile.FieldType)) ∈ lw_tbl := in_t2 _ (List.mem_of_getElem? (i := 98) (by decide +kernel))
theorem tw_2_99 : (Jvm.Cond.methodLink "java/lang/AbstractStringBuilder" (125 : Nat) ({ cls := "java/lang/StringLatin1", name := "inflate", desc := "([BI[BII)V" } : Jvm.MethodName)) ∈ lw_tbl := in_t2 _ (List.mem_of_getElem? (i := 99) (by decide +kernel))
theorem tw_2_100 : (Jvm.Cond.static ({ cls := "java/lang/StringLatin1", name := "inflate", desc := "([BI[BII)V" } : Jvm.MethodName)) ∈ lw_tbl := in_t2 _ (List.mem_of_getElem? (i := 100) (by decide +kernel))
theorem tw_2_101 : (Jvm.Cond.code ({ cls := "java/lang/StringLatin1", name := "inflate", desc := "([BI[BII)V" } : Jvm.MethodName) prog_26_method_50_code (5 : Nat) (Option.none : Option Jvm.ClassFile.FieldType)) ∈ lw_tbl := in_t2 _ (List.mem_of_getElem? (i := 101) (by decide +kernel))
theorem tw_2_102 : (Jvm.Cond.methodLink "java/lang/StringLatin1" (240 : Nat) ({ cls := "java/lang/StringUTF16", name := "inflate", desc := "([BI[BII)V" } : Jvm.MethodName)) ∈ lw_tbl := in_t2 _ (List.mem_of_getElem? (i := 102) (by decide +kernel))
theorem tw_2_103 : (Jvm.Cond.static ({ cls := "java/lang/StringUTF16", name := "inflate", desc := "([BI[BII)V" } : Jvm.MethodName)) ∈ lw_tbl := in_t2 _ (List.mem_of_getElem? (i := 103) (by decide +kernel))
theorem tw_2_104 : (Jvm.Cond.code ({ cls := "java/lang/StringUTF16", name := "inflate", desc := "([BI[BII)V" } : Jvm.MethodName) prog_27_method_86_code (6 : Nat) (Option.none : Option Jvm.ClassFile.FieldType)) ∈ lw_tbl := in_t2 _ (List.mem_of_getElem? (i := 104) (by decide +kernel))
theorem tw_2_105 : (Jvm.Cond.methodLink "java/lang/StringUTF16" (173 : Nat) ({ cls := "java/lang/StringUTF16", name := "checkBoundsOffCount", desc := "(II[B)V" } : Jvm.MethodName)) ∈ lw_tbl := in_t2 _ (List.mem_of_getElem? (i := 105) (by decide +kernel))
theorem tw_2_106 : (Jvm.Cond.static ({ cls := "java/lang/StringUTF16", name := "checkBoundsOffCount", desc := "(II[B)V" } : Jvm.MethodName)) ∈ lw_tbl := in_t2 _ (List.mem_of_getElem? (i := 106) (by decide +kernel))
theorem tw_2_107 : (Jvm.Cond.code ({ cls := "java/lang/StringUTF16", name := "checkBoundsOffCount", desc := "(II[B)V" } : Jvm.MethodName) prog_27_method_94_code (3 : Nat) (Option.none : Option Jvm.ClassFile.FieldType)) ∈ lw_tbl := in_t2 _ (List.mem_of_getElem? (i := 107) (by decide +kernel))
theorem tw_2_108 : (Jvm.Cond.methodLink "java/lang/StringUTF16" (419 : Nat) ({ cls := "java/lang/String", name := "checkBoundsOffCount", desc := "(III)I" } : Jvm.MethodName)) ∈ lw_tbl := in_t2 _ (List.mem_of_getElem? (i := 108) (by decide +kernel))
theorem tw_2_109 : (Jvm.Cond.static ({ cls := "java/lang/String", name := "checkBoundsOffCount", desc := "(III)I" } : Jvm.MethodName)) ∈ lw_tbl := in_t2 _ (List.mem_of_getElem? (i := 109) (by decide +kernel))
theorem tw_2_110 : (Jvm.Cond.code ({ cls := "java/lang/String", name := "checkBoundsOffCount", desc := "(III)I" } : Jvm.MethodName) prog_24_method_157_code (3 : Nat) (Option.some Jvm.ClassFile.FieldType.int)) ∈ lw_tbl := in_t2 _ (List.mem_of_getElem? (i := 110) (by decide +kernel))
theorem tw_2_111 : (Jvm.Cond.methodLink "java/lang/String" (1065 : Nat) ({ cls := "jdk/internal/util/Preconditions", name := "checkFromIndexSize", desc := "(IIILjava/util/function/BiFunction;)I" } : Jvm.MethodName)) ∈ lw_tbl := in_t2 _ (List.mem_of_getElem? (i := 111) (by decide +kernel))
theorem tw_2_112 : (Jvm.Cond.static ({ cls := "jdk/internal/util/Preconditions", name := "checkFromIndexSize", desc := "(IIILjava/util/function/BiFunction;)I" } : Jvm.MethodName)) ∈ lw_tbl := in_t2 _ (List.mem_of_getElem? (i := 112) (by decide +kernel))
theorem tw_2_113 : (Jvm.Cond.code ({ cls := "jdk/internal/util/Preconditions", name := "checkFromIndexSize", desc := "(IIILjava/util/function/BiFunction;)I" } : Jvm.MethodName) prog_42_method_13_code (4 : Nat) (Option.some Jvm.ClassFile.FieldType.int)) ∈ lw_tbl := in_t2 _ (List.mem_of_getElem? (i := 113) (by decide +kernel))
theorem tw_2_114 : (Jvm.Cond.methodLink "java/lang/AbstractStringBuilder" (399 : Nat) ({ cls := "java/lang/String", name := "getBytes", desc := "([BIB)V" } : Jvm.MethodName)) ∈ lw_tbl := in_t2 _ (List.mem_of_getElem? (i := 114) (by decide +kernel))
theorem tw_2_115 : (Jvm.Cond.instanceMethod ({ cls := "java/lang/String", name := "getBytes", desc := "([BIB)V" } : Jvm.MethodName)) ∈ lw_tbl := in_t2 _ (List.mem_of_getElem? (i := 115) (by decide +kernel))
theorem tw_2_116 : (Jvm.Cond.selects "java/lang/String" ({ cls := "java/lang/String", name := "getBytes", desc := "([BIB)V" } : Jvm.MethodName) ({ cls := "java/lang/String", name := "getBytes", desc := "([BIB)V" } : Jvm.MethodName)) ∈ lw_tbl := in_t2 _ (List.mem_of_getElem? (i := 116) (by decide +kernel))
theorem tw_2_117 : (Jvm.Cond.code ({ cls := "java/lang/String", name := "getBytes", desc := "([BIB)V" } : Jvm.MethodName) prog_24_method_147_code (4 : Nat) (Option.none : Option Jvm.ClassFile.FieldType)) ∈ lw_tbl := in_t2 _ (List.mem_of_getElem? (i := 117) (by decide +kernel))
theorem tw_2_118 : (Jvm.Cond.methodLink "java/lang/String" (212 : Nat) ({ cls := "java/lang/System", name := "arraycopy", desc := "(Ljava/lang/Object;ILjava/lang/Object;II)V" } : Jvm.MethodName)) ∈ lw_tbl := in_t2 _ (List.mem_of_getElem? (i := 118) (by decide +kernel))
theorem tw_2_119 : (Jvm.Cond.methodLink "java/lang/String" (106 : Nat) ({ cls := "java/lang/StringLatin1", name := "inflate", desc := "([BI[BII)V" } : Jvm.MethodName)) ∈ lw_tbl := in_t2 _ (List.mem_of_getElem? (i := 119) (by decide +kernel))
theorem tw_2_120 : (Jvm.Cond.methodLink "java/util/ArrayList" (29 : Nat) ({ cls := "java/lang/StringBuilder", name := "append", desc := "(I)Ljava/lang/StringBuilder;" } : Jvm.MethodName)) ∈ lw_tbl := in_t2 _ (List.mem_of_getElem? (i := 120) (by decide +kernel))
theorem tw_2_121 : (Jvm.Cond.instanceMethod ({ cls := "java/lang/StringBuilder", name := "append", desc := "(I)Ljava/lang/StringBuilder;" } : Jvm.MethodName)) ∈ lw_tbl := in_t2 _ (List.mem_of_getElem? (i := 121) (by decide +kernel))
theorem tw_2_122 : (Jvm.Cond.selects "java/lang/StringBuilder" ({ cls := "java/lang/StringBuilder", name := "append", desc := "(I)Ljava/lang/StringBuilder;" } : Jvm.MethodName) ({ cls := "java/lang/StringBuilder", name := "append", desc := "(I)Ljava/lang/StringBuilder;" } : Jvm.MethodName)) ∈ lw_tbl := in_t2 _ (List.mem_of_getElem? (i := 122) (by decide +kernel))
theorem tw_2_123 : (Jvm.Cond.code ({ cls := "java/lang/StringBuilder", name := "append", desc := "(I)Ljava/lang/StringBuilder;" } : Jvm.MethodName) prog_25_method_15_code (2 : Nat) (Option.some (Jvm.ClassFile.FieldType.object "java/lang/StringBuilder"))) ∈ lw_tbl := in_t2 _ (List.mem_of_getElem? (i := 123) (by decide +kernel))
theorem tw_2_124 : (Jvm.Cond.methodLink "java/lang/StringBuilder" (53 : Nat) ({ cls := "java/lang/AbstractStringBuilder", name := "append", desc := "(I)Ljava/lang/AbstractStringBuilder;" } : Jvm.MethodName)) ∈ lw_tbl := in_t2 _ (List.mem_of_getElem? (i := 124) (by decide +kernel))
theorem tw_2_125 : (Jvm.Cond.instanceMethod ({ cls := "java/lang/AbstractStringBuilder", name := "append", desc := "(I)Ljava/lang/AbstractStringBuilder;" } : Jvm.MethodName)) ∈ lw_tbl := in_t2 _ (List.mem_of_getElem? (i := 125) (by decide +kernel))
theorem tw_2_126 : (Jvm.Cond.code ({ cls := "java/lang/AbstractStringBuilder", name := "append", desc := "(I)Ljava/lang/AbstractStringBuilder;" } : Jvm.MethodName) prog_10_method_32_code (4 : Nat) (Option.some (Jvm.ClassFile.FieldType.object "java/lang/AbstractStringBuilder"))) ∈ lw_tbl := in_t2 _ (List.mem_of_getElem? (i := 126) (by decide +kernel))
theorem tw_2_127 : (Jvm.Cond.methodLink "java/lang/AbstractStringBuilder" (245 : Nat) ({ cls := "java/lang/Integer", name := "stringSize", desc := "(I)I" } : Jvm.MethodName)) ∈ lw_tbl := in_t2 _ (List.mem_of_getElem? (i := 127) (by decide +kernel))
theorem tw_2_128 : (Jvm.Cond.static ({ cls := "java/lang/Integer", name := "stringSize", desc := "(I)I" } : Jvm.MethodName)) ∈ lw_tbl := in_t2 _ (List.mem_of_getElem? (i := 128) (by decide +kernel))
theorem tw_2_129 : (Jvm.Cond.code ({ cls := "java/lang/Integer", name := "stringSize", desc := "(I)I" } : Jvm.MethodName) prog_19_method_13_code (4 : Nat) (Option.some Jvm.ClassFile.FieldType.int)) ∈ lw_tbl := in_t2 _ (List.mem_of_getElem? (i := 129) (by decide +kernel))
theorem tw_2_130 : (Jvm.Cond.methodLink "java/lang/AbstractStringBuilder" (248 : Nat) ({ cls := "java/lang/Integer", name := "getChars", desc := "(II[B)I" } : Jvm.MethodName)) ∈ lw_tbl := in_t2 _ (List.mem_of_getElem? (i := 130) (by decide +kernel))
theorem tw_2_131 : (Jvm.Cond.static ({ cls := "java/lang/Integer", name := "getChars", desc := "(II[B)I" } : Jvm.MethodName)) ∈ lw_tbl := in_t2 _ (List.mem_of_getElem? (i := 131) (by decide +kernel))
theorem tw_2_132 : (Jvm.Cond.code ({ cls := "java/lang/Integer", name := "getChars", desc := "(II[B)I" } : Jvm.MethodName) prog_19_method_12_code (7 : Nat) (Option.some Jvm.ClassFile.FieldType.int)) ∈ lw_tbl := in_t2 _ (List.mem_of_getElem? (i := 132) (by decide +kernel))
theorem tw_2_133 : (Jvm.Cond.fieldLink "java/lang/Integer" (83 : Nat) "java/lang/Integer" "DigitOnes" "[B") ∈ lw_tbl := in_t2 _ (List.mem_of_getElem? (i := 133) (by decide +kernel))
theorem tw_2_134 : (Jvm.Cond.laysStatic "java/lang/Integer" "DigitOnes" "[B") ∈ lw_tbl := in_t2 _ (List.mem_of_getElem? (i := 134) (by decide +kernel))
theorem tw_2_135 : (Jvm.Cond.fieldLink "java/lang/Integer" (87 : Nat) "java/lang/Integer" "DigitTens" "[B") ∈ lw_tbl := in_t2 _ (List.mem_of_getElem? (i := 135) (by decide +kernel))
theorem tw_2_136 : (Jvm.Cond.laysStatic "java/lang/Integer" "DigitTens" "[B") ∈ lw_tbl := in_t2 _ (List.mem_of_getElem? (i := 136) (by decide +kernel))
theorem tw_2_137 : (Jvm.Cond.methodLink "java/lang/AbstractStringBuilder" (251 : Nat) ({ cls := "java/lang/StringUTF16", name := "getChars", desc := "(III[B)I" } : Jvm.MethodName)) ∈ lw_tbl := in_t2 _ (List.mem_of_getElem? (i := 137) (by decide +kernel))
theorem tw_2_138 : (Jvm.Cond.static ({ cls := "java/lang/StringUTF16", name := "getChars", desc := "(III[B)I" } : Jvm.MethodName)) ∈ lw_tbl := in_t2 _ (List.mem_of_getElem? (i := 138) (by decide +kernel))
theorem tw_2_139 : (Jvm.Cond.code ({ cls := "java/lang/StringUTF16", name := "getChars", desc := "(III[B)I" } : Jvm.MethodName) prog_27_method_77_code (5 : Nat) (Option.some Jvm.ClassFile.FieldType.int)) ∈ lw_tbl := in_t2 _ (List.mem_of_getElem? (i := 139) (by decide +kernel))
theorem tw_2_140 : (Jvm.Cond.methodLink "java/lang/StringUTF16" (393 : Nat) ({ cls := "java/lang/StringUTF16", name := "getChars", desc := "(II[B)I" } : Jvm.MethodName)) ∈ lw_tbl := in_t2 _ (List.mem_of_getElem? (i := 140) (by decide +kernel))
theorem tw_2_141 : (Jvm.Cond.static ({ cls := "java/lang/StringUTF16", name := "getChars", desc := "(II[B)I" } : Jvm.MethodName)) ∈ lw_tbl := in_t2 _ (List.mem_of_getElem? (i := 141) (by decide +kernel))
theorem tw_2_142 : (Jvm.Cond.code ({ cls := "java/lang/StringUTF16", name := "getChars", desc := "(II[B)I" } : Jvm.MethodName) prog_27_method_89_code (7 : Nat) (Option.some Jvm.ClassFile.FieldType.int)) ∈ lw_tbl := in_t2 _ (List.mem_of_getElem? (i := 142) (by decide +kernel))
theorem tw_2_143 : (Jvm.Cond.fieldLink "java/lang/StringUTF16" (403 : Nat) "java/lang/Integer" "DigitOnes" "[B") ∈ lw_tbl := in_t2 _ (List.mem_of_getElem? (i := 143) (by decide +kernel))
theorem tw_2_144 : (Jvm.Cond.fieldLink "java/lang/StringUTF16" (407 : Nat) "java/lang/Integer" "DigitTens" "[B") ∈ lw_tbl := in_t2 _ (List.mem_of_getElem? (i := 144) (by decide +kernel))
theorem tw_2_145 : (Jvm.Cond.stringRef "java/util/ArrayList" (203 : Nat) ", Size: ") ∈ lw_tbl := in_t2 _ (List.mem_of_getElem? (i := 145) (by decide +kernel))
theorem tw_2_146 : (Jvm.Cond.methodLink "java/util/ArrayList" (32 : Nat) ({ cls := "java/lang/StringBuilder", name := "toString", desc := "()Ljava/lang/String;" } : Jvm.MethodName)) ∈ lw_tbl := in_t2 _ (List.mem_of_getElem? (i := 146) (by decide +kernel))
theorem tw_2_147 : (Jvm.Cond.instanceMethod ({ cls := "java/lang/StringBuilder", name := "toString", desc := "()Ljava/lang/String;" } : Jvm.MethodName)) ∈ lw_tbl := in_t2 _ (List.mem_of_getElem? (i := 147) (by decide +kernel))
theorem tw_2_148 : (Jvm.Cond.selects "java/lang/StringBuilder" ({ cls := "java/lang/StringBuilder", name := "toString", desc := "()Ljava/lang/String;" } : Jvm.MethodName) ({ cls := "java/lang/StringBuilder", name := "toString", desc := "()Ljava/lang/String;" } : Jvm.MethodName)) ∈ lw_tbl := in_t2 _ (List.mem_of_getElem? (i := 148) (by decide +kernel))
theorem tw_2_149 : (Jvm.Cond.code ({ cls := "java/lang/StringBuilder", name := "toString", desc := "()Ljava/lang/String;" } : Jvm.MethodName) prog_25_method_42_code (1 : Nat) (Option.some (Jvm.ClassFile.FieldType.object "java/lang/String"))) ∈ lw_tbl := in_t2 _ (List.mem_of_getElem? (i := 149) (by decide +kernel))
theorem tw_2_150 : (Jvm.Cond.classLink "java/lang/StringBuilder" (18 : Nat) "java/lang/String") ∈ lw_tbl := in_t2 _ (List.mem_of_getElem? (i := 150) (by decide +kernel))
theorem tw_2_151 : (Jvm.Cond.instantiable "java/lang/String" (4 : Nat)) ∈ lw_tbl := in_t2 _ (List.mem_of_getElem? (i := 151) (by decide +kernel))
theorem tw_2_152 : (Jvm.Cond.methodLink "java/lang/StringBuilder" (137 : Nat) ({ cls := "java/lang/String", name := "<init>", desc := "(Ljava/lang/StringBuilder;)V" } : Jvm.MethodName)) ∈ lw_tbl := in_t2 _ (List.mem_of_getElem? (i := 152) (by decide +kernel))
theorem tw_2_153 : (Jvm.Cond.instanceMethod ({ cls := "java/lang/String", name := "<init>", desc := "(Ljava/lang/StringBuilder;)V" } : Jvm.MethodName)) ∈ lw_tbl := in_t2 _ (List.mem_of_getElem? (i := 153) (by decide +kernel))
theorem tw_2_154 : (Jvm.Cond.code ({ cls := "java/lang/String", name := "<init>", desc := "(Ljava/lang/StringBuilder;)V" } : Jvm.MethodName) prog_24_method_53_code (2 : Nat) (Option.none : Option Jvm.ClassFile.FieldType)) ∈ lw_tbl := in_t2 _ (List.mem_of_getElem? (i := 154) (by decide +kernel))
theorem tw_2_155 : (Jvm.Cond.methodLink "java/lang/String" (489 : Nat) ({ cls := "java/lang/String", name := "<init>", desc := "(Ljava/lang/AbstractStringBuilder;Ljava/lang/Void;)V" } : Jvm.MethodName)) ∈ lw_tbl := in_t2 _ (List.mem_of_getElem? (i := 155) (by decide +kernel))
theorem tw_2_156 : (Jvm.Cond.instanceMethod ({ cls := "java/lang/String", name := "<init>", desc := "(Ljava/lang/AbstractStringBuilder;Ljava/lang/Void;)V" } : Jvm.MethodName)) ∈ lw_tbl := in_t2 _ (List.mem_of_getElem? (i := 156) (by decide +kernel))
theorem tw_2_157 : (Jvm.Cond.code ({ cls := "java/lang/String", name := "<init>", desc := "(Ljava/lang/AbstractStringBuilder;Ljava/lang/Void;)V" } : Jvm.MethodName) prog_24_method_150_code (5 : Nat) (Option.none : Option Jvm.ClassFile.FieldType)) ∈ lw_tbl := in_t2 _ (List.mem_of_getElem? (i := 157) (by decide +kernel))
theorem tw_2_158 : (Jvm.Cond.methodLink "java/lang/String" (1 : Nat) ({ cls := "java/lang/Object", name := "<init>", desc := "()V" } : Jvm.MethodName)) ∈ lw_tbl := in_t2 _ (List.mem_of_getElem? (i := 158) (by decide +kernel))
theorem tw_2_159 : (Jvm.Cond.methodLink "java/lang/String" (552 : Nat) ({ cls := "java/lang/AbstractStringBuilder", name := "getValue", desc := "()[B" } : Jvm.MethodName)) ∈ lw_tbl := in_t2 _ (List.mem_of_getElem? (i := 159) (by decide +kernel))
theorem tw_2_160 : (Jvm.Cond.instanceMethod ({ cls := "java/lang/AbstractStringBuilder", name := "getValue", desc := "()[B" } : Jvm.MethodName)) ∈ lw_tbl := in_t2 _ (List.mem_of_getElem? (i := 160) (by decide +kernel))
theorem tw_2_161 : (Jvm.Cond.sameMethod "java/lang/AbstractStringBuilder" "java/lang/AbstractStringBuilder" "getValue" "()[B") ∈ lw_tbl := in_t2 _ (List.mem_of_getElem? (i := 161) (by decide +kernel))
theorem tw_2_162 : (Jvm.Cond.selects "java/lang/StringBuilder" ({ cls := "java/lang/AbstractStringBuilder", name := "getValue", desc := "()[B" } : Jvm.MethodName) ({ cls := "java/lang/AbstractStringBuilder", name := "getValue", desc := "()[B" } : Jvm.MethodName)) ∈ lw_tbl := in_t2 _ (List.mem_of_getElem? (i := 162) (by decide +kernel))
theorem tw_2_163 : (Jvm.Cond.code ({ cls := "java/lang/AbstractStringBuilder", name := "getValue", desc := "()[B" } : Jvm.MethodName) prog_10_method_64_code (1 : Nat) (Option.some (Jvm.ClassFile.FieldType.array Jvm.ClassFile.FieldType.byte))) ∈ lw_tbl := in_t2 _ (List.mem_of_getElem? (i := 163) (by decide +kernel))
theorem tw_2_164 : (Jvm.Cond.methodLink "java/lang/String" (549 : Nat) ({ cls := "java/lang/AbstractStringBuilder", name := "length", desc := "()I" } : Jvm.MethodName)) ∈ lw_tbl := in_t2 _ (List.mem_of_getElem? (i := 164) (by decide +kernel))
theorem tw_2_165 : (Jvm.Cond.instanceMethod ({ cls := "java/lang/AbstractStringBuilder", name := "length", desc := "()I" } : Jvm.MethodName)) ∈ lw_tbl := in_t2 _ (List.mem_of_getElem? (i := 165) (by decide +kernel))
theorem tw_2_166 : (Jvm.Cond.sameMethod "java/lang/AbstractStringBuilder" "java/lang/AbstractStringBuilder" "length" "()I") ∈ lw_tbl := in_t2 _ (List.mem_of_getElem? (i := 166) (by decide +kernel))
theorem tw_2_167 : (Jvm.Cond.selects "java/lang/StringBuilder" ({ cls := "java/lang/AbstractStringBuilder", name := "length", desc := "()I" } : Jvm.MethodName) ({ cls := "java/lang/StringBuilder", name := "length", desc := "()I" } : Jvm.MethodName)) ∈ lw_tbl := in_t2 _ (List.mem_of_getElem? (i := 167) (by decide +kernel))
theorem tw_2_168 : (Jvm.Cond.instanceMethod ({ cls := "java/lang/StringBuilder", name := "length", desc := "()I" } : Jvm.MethodName)) ∈ lw_tbl := in_t2 _ (List.mem_of_getElem? (i := 168) (by decide +kernel))
theorem tw_2_169 : (Jvm.Cond.code ({ cls := "java/lang/StringBuilder", name := "length", desc := "()I" } : Jvm.MethodName) prog_25_method_93_code (1 : Nat) (Option.some Jvm.ClassFile.FieldType.int)) ∈ lw_tbl := in_t2 _ (List.mem_of_getElem? (i := 169) (by decide +kernel))
theorem tw_2_170 : (Jvm.Cond.methodLink "java/lang/StringBuilder" (343 : Nat) ({ cls := "java/lang/AbstractStringBuilder", name := "length", desc := "()I" } : Jvm.MethodName)) ∈ lw_tbl := in_t2 _ (List.mem_of_getElem? (i := 170) (by decide +kernel))
theorem tw_2_171 : (Jvm.Cond.code ({ cls := "java/lang/AbstractStringBuilder", name := "length", desc := "()I" } : Jvm.MethodName) prog_10_method_6_code (1 : Nat) (Option.some Jvm.ClassFile.FieldType.int)) ∈ lw_tbl := in_t2 _ (List.mem_of_getElem? (i := 171) (by decide +kernel))
theorem tw_2_172 : (Jvm.Cond.methodLink "java/lang/String" (1047 : Nat) ({ cls := "java/lang/AbstractStringBuilder", name := "isLatin1", desc := "()Z" } : Jvm.MethodName)) ∈ lw_tbl := in_t2 _ (List.mem_of_getElem? (i := 172) (by decide +kernel))
theorem tw_2_173 : (Jvm.Cond.methodLink "java/lang/String" (54 : Nat) ({ cls := "java/util/Arrays", name := "copyOfRange", desc := "([BII)[B" } : Jvm.MethodName)) ∈ lw_tbl := in_t2 _ (List.mem_of_getElem? (i := 173) (by decide +kernel))
theorem tw_2_174 : (Jvm.Cond.static ({ cls := "java/util/Arrays", name := "copyOfRange", desc := "([BII)[B" } : Jvm.MethodName)) ∈ lw_tbl := in_t2 _ (List.mem_of_getElem? (i := 174) (by decide +kernel))
theorem tw_2_175 : (Jvm.Cond.code ({ cls := "java/util/Arrays", name := "copyOfRange", desc := "([BII)[B" } : Jvm.MethodName) prog_35_method_132_code (3 : Nat) (Option.some (Jvm.ClassFile.FieldType.array Jvm.ClassFile.FieldType.byte))) ∈ lw_tbl := in_t2 _ (List.mem_of_getElem? (i := 175) (by decide +kernel))
theorem tw_2_176 : (Jvm.Cond.methodLink "java/util/Arrays" (339 : Nat) ({ cls := "java/util/Arrays", name := "copyOfRangeByte", desc := "([BII)[B" } : Jvm.MethodName)) ∈ lw_tbl := in_t2 _ (List.mem_of_getElem? (i := 176) (by decide +kernel))
theorem tw_2_177 : (Jvm.Cond.static ({ cls := "java/util/Arrays", name := "copyOfRangeByte", desc := "([BII)[B" } : Jvm.MethodName)) ∈ lw_tbl := in_t2 _ (List.mem_of_getElem? (i := 177) (by decide +kernel))
theorem tw_2_178 : (Jvm.Cond.code ({ cls := "java/util/Arrays", name := "copyOfRangeByte", desc := "([BII)[B" } : Jvm.MethodName) prog_35_method_133_code (5 : Nat) (Option.some (Jvm.ClassFile.FieldType.array Jvm.ClassFile.FieldType.byte))) ∈ lw_tbl := in_t2 _ (List.mem_of_getElem? (i := 178) (by decide +kernel))
theorem tw_2_179 : (Jvm.Cond.methodLink "java/util/Arrays" (343 : Nat) ({ cls := "java/util/Arrays", name := "checkLength", desc := "(II)V" } : Jvm.MethodName)) ∈ lw_tbl := in_t2 _ (List.mem_of_getElem? (i := 179) (by decide +kernel))
theorem tw_2_180 : (Jvm.Cond.static ({ cls := "java/util/Arrays", name := "checkLength", desc := "(II)V" } : Jvm.MethodName)) ∈ lw_tbl := in_t2 _ (List.mem_of_getElem? (i := 180) (by decide +kernel))
theorem tw_2_181 : (Jvm.Cond.code ({ cls := "java/util/Arrays", name := "checkLength", desc := "(II)V" } : Jvm.MethodName) prog_35_method_131_code (2 : Nat) (Option.none : Option Jvm.ClassFile.FieldType)) ∈ lw_tbl := in_t2 _ (List.mem_of_getElem? (i := 181) (by decide +kernel))
theorem tw_2_182 : (Jvm.Cond.classLink "java/util/Arrays" (43 : Nat) "java/lang/IllegalArgumentException") ∈ lw_tbl := in_t2 _ (List.mem_of_getElem? (i := 182) (by decide +kernel))
theorem tw_2_183 : (Jvm.Cond.instantiable "java/lang/IllegalArgumentException" (6 : Nat)) ∈ lw_tbl := in_t2 _ (List.mem_of_getElem? (i := 183) (by decide +kernel))
theorem tw_2_184 : (Jvm.Cond.castable "java/lang/IllegalArgumentException" "java/lang/IllegalArgumentException") ∈ lw_tbl := in_t2 _ (List.mem_of_getElem? (i := 184) (by decide +kernel))
theorem tw_2_185 : (Jvm.Cond.selects "java/lang/IllegalArgumentException" ({ cls := "java/lang/Throwable", name := "fillInStackTrace", desc := "(I)Ljava/lang/Throwable;" } : Jvm.MethodName) ({ cls := "java/lang/Throwable", name := "fillInStackTrace", desc := "(I)Ljava/lang/Throwable;" } : Jvm.MethodName)) ∈ lw_tbl := in_t2 _ (List.mem_of_getElem? (i := 185) (by decide +kernel))
theorem tw_2_186 : (Jvm.Cond.lays "java/lang/IllegalArgumentException" "java/lang/Throwable" "cause" "Ljava/lang/Throwable;") ∈ lw_tbl := in_t2 _ (List.mem_of_getElem? (i := 186) (by decide +kernel))
theorem tw_2_187 : (Jvm.Cond.lays "java/lang/IllegalArgumentException" "java/lang/Throwable" "stackTrace" "[Ljava/lang/StackTraceElement;") ∈ lw_tbl := in_t2 _ (List.mem_of_getElem? (i := 187) (by decide +kernel))
theorem tw_2_188 : (Jvm.Cond.lays "java/lang/IllegalArgumentException" "java/lang/Throwable" "suppressedExceptions" "Ljava/util/List;") ∈ lw_tbl := in_t2 _ (List.mem_of_getElem? (i := 188) (by decide +kernel))
theorem tw_2_189 : (Jvm.Cond.lays "java/lang/IllegalArgumentException" "java/lang/Throwable" "detailMessage" "Ljava/lang/String;") ∈ lw_tbl := in_t2 _ (List.mem_of_getElem? (i := 189) (by decide +kernel))
theorem tw_2_190 : (Jvm.Cond.lays "java/lang/IllegalArgumentException" "java/lang/Throwable" "backtrace" "Ljava/lang/Object;") ∈ lw_tbl := in_t2 _ (List.mem_of_getElem? (i := 190) (by decide +kernel))
theorem tw_2_191 : (Jvm.Cond.classLink "java/util/Arrays" (45 : Nat) "java/lang/StringBuilder") ∈ lw_tbl := in_t2 _ (List.mem_of_getElem? (i := 191) (by decide +kernel))
theorem tw_2_192 : (Jvm.Cond.methodLink "java/util/Arrays" (47 : Nat) ({ cls := "java/lang/StringBuilder", name := "<init>", desc := "()V" } : Jvm.MethodName)) ∈ lw_tbl := in_t2 _ (List.mem_of_getElem? (i := 192) (by decide +kernel))
theorem tw_2_193 : (Jvm.Cond.methodLink "java/util/Arrays" (54 : Nat) ({ cls := "java/lang/StringBuilder", name := "append", desc := "(I)Ljava/lang/StringBuilder;" } : Jvm.MethodName)) ∈ lw_tbl := in_t2 _ (List.mem_of_getElem? (i := 193) (by decide +kernel))
theorem tw_2_194 : (Jvm.Cond.stringRef "java/util/Arrays" (337 : Nat) " > ") ∈ lw_tbl := in_t2 _ (List.mem_of_getElem? (i := 194) (by decide +kernel))
theorem tw_2_195 : (Jvm.Cond.methodLink "java/util/Arrays" (50 : Nat) ({ cls := "java/lang/StringBuilder", name := "append", desc := "(Ljava/lang/String;)Ljava/lang/StringBuilder;" } : Jvm.MethodName)) ∈ lw_tbl := in_t2 _ (List.mem_of_getElem? (i := 195) (by decide +kernel))
theorem tw_2_196 : (Jvm.Cond.methodLink "java/util/Arrays" (61 : Nat) ({ cls := "java/lang/StringBuilder", name := "toString", desc := "()Ljava/lang/String;" } : Jvm.MethodName)) ∈ lw_tbl := in_t2 _ (List.mem_of_getElem? (i := 196) (by decide +kernel))
theorem tw_2_197 : (Jvm.Cond.methodLink "java/util/Arrays" (65 : Nat) ({ cls := "java/lang/IllegalArgumentException", name := "<init>", desc := "(Ljava/lang/String;)V" } : Jvm.MethodName)) ∈ lw_tbl := in_t2 _ (List.mem_of_getElem? (i := 197) (by decide +kernel))
theorem tw_2_198 : (Jvm.Cond.instanceMethod ({ cls := "java/lang/IllegalArgumentException", name := "<init>", desc := "(Ljava/lang/String;)V" } : Jvm.MethodName)) ∈ lw_tbl := in_t2 _ (List.mem_of_getElem? (i := 198) (by decide +kernel))
theorem tw_2_199 : (Jvm.Cond.code ({ cls := "java/lang/IllegalArgumentException", name := "<init>", desc := "(Ljava/lang/String;)V" } : Jvm.MethodName) prog_16_method_2_code (2 : Nat) (Option.none : Option Jvm.ClassFile.FieldType)) ∈ lw_tbl := in_t2 _ (List.mem_of_getElem? (i := 199) (by decide +kernel))
theorem tw_2_200 : (Jvm.Cond.methodLink "java/lang/IllegalArgumentException" (7 : Nat) ({ cls := "java/lang/RuntimeException", name := "<init>", desc := "(Ljava/lang/String;)V" } : Jvm.MethodName)) ∈ lw_tbl := in_t2 _ (List.mem_of_getElem? (i := 200) (by decide +kernel))
theorem tw_2_201 : (Jvm.Cond.instanceMethod ({ cls := "java/lang/RuntimeException", name := "<init>", desc := "(Ljava/lang/String;)V" } : Jvm.MethodName)) ∈ lw_tbl := in_t2 _ (List.mem_of_getElem? (i := 201) (by decide +kernel))
theorem tw_2_202 : (Jvm.Cond.code ({ cls := "java/lang/RuntimeException", name := "<init>", desc := "(Ljava/lang/String;)V" } : Jvm.MethodName) prog_23_method_2_code (2 : Nat) (Option.none : Option Jvm.ClassFile.FieldType)) ∈ lw_tbl := in_t2 _ (List.mem_of_getElem? (i := 202) (by decide +kernel))
theorem tw_2_203 : (Jvm.Cond.methodLink "java/lang/RuntimeException" (7 : Nat) ({ cls := "java/lang/Exception", name := "<init>", desc := "(Ljava/lang/String;)V" } : Jvm.MethodName)) ∈ lw_tbl := in_t2 _ (List.mem_of_getElem? (i := 203) (by decide +kernel))
theorem tw_2_204 : (Jvm.Cond.instanceMethod ({ cls := "java/lang/Exception", name := "<init>", desc := "(Ljava/lang/String;)V" } : Jvm.MethodName)) ∈ lw_tbl := in_t2 _ (List.mem_of_getElem? (i := 204) (by decide +kernel))
theorem tw_2_205 : (Jvm.Cond.code ({ cls := "java/lang/Exception", name := "<init>", desc := "(Ljava/lang/String;)V" } : Jvm.MethodName) prog_15_method_2_code (2 : Nat) (Option.none : Option Jvm.ClassFile.FieldType)) ∈ lw_tbl := in_t2 _ (List.mem_of_getElem? (i := 205) (by decide +kernel))
theorem tw_2_206 : (Jvm.Cond.methodLink "java/lang/Exception" (7 : Nat) ({ cls := "java/lang/Throwable", name := "<init>", desc := "(Ljava/lang/String;)V" } : Jvm.MethodName)) ∈ lw_tbl := in_t2 _ (List.mem_of_getElem? (i := 206) (by decide +kernel))
theorem tw_2_207 : (Jvm.Cond.instanceMethod ({ cls := "java/lang/Throwable", name := "<init>", desc := "(Ljava/lang/String;)V" } : Jvm.MethodName)) ∈ lw_tbl := in_t2 _ (List.mem_of_getElem? (i := 207) (by decide +kernel))
theorem tw_2_208 : (Jvm.Cond.code ({ cls := "java/lang/Throwable", name := "<init>", desc := "(Ljava/lang/String;)V" } : Jvm.MethodName) prog_29_method_2_code (2 : Nat) (Option.none : Option Jvm.ClassFile.FieldType)) ∈ lw_tbl := in_t2 _ (List.mem_of_getElem? (i := 208) (by decide +kernel))
theorem tw_2_210 : (Jvm.Cond.fieldLink "java/lang/Throwable" (31 : Nat) "java/lang/Throwable" "detailMessage" "Ljava/lang/String;") ∈ lw_tbl := in_t2 _ (List.mem_of_getElem? (i := 210) (by decide +kernel))
theorem tw_2_211 : (Jvm.Cond.fieldLink "java/lang/Throwable" (7 : Nat) "java/lang/Throwable" "cause" "Ljava/lang/Throwable;") ∈ lw_tbl := in_t2 _ (List.mem_of_getElem? (i := 211) (by decide +kernel))
theorem tw_2_212 : (Jvm.Cond.fieldLink "java/lang/Throwable" (17 : Nat) "java/lang/Throwable" "stackTrace" "[Ljava/lang/StackTraceElement;") ∈ lw_tbl := in_t2 _ (List.mem_of_getElem? (i := 212) (by decide +kernel))
theorem tw_2_213 : (Jvm.Cond.fieldLink "java/lang/Throwable" (24 : Nat) "java/lang/Throwable" "suppressedExceptions" "Ljava/util/List;") ∈ lw_tbl := in_t2 _ (List.mem_of_getElem? (i := 213) (by decide +kernel))
theorem tw_2_214 : (Jvm.Cond.soleField "java/lang/Throwable" "backtrace") ∈ lw_tbl := in_t2 _ (List.mem_of_getElem? (i := 214) (by decide +kernel))
theorem tw_2_215 : (Jvm.Cond.soleField "java/lang/Throwable" "detailMessage") ∈ lw_tbl := in_t2 _ (List.mem_of_getElem? (i := 215) (by decide +kernel))
theorem tw_2_216 : (Jvm.Cond.soleField "java/lang/Throwable" "cause") ∈ lw_tbl := in_t2 _ (List.mem_of_getElem? (i := 216) (by decide +kernel))
theorem tw_2_217 : (Jvm.Cond.soleField "java/lang/Throwable" "stackTrace") ∈ lw_tbl := in_t2 _ (List.mem_of_getElem? (i := 217) (by decide +kernel))
theorem tw_2_218 : (Jvm.Cond.lays "java/lang/IllegalArgumentException" "java/lang/Throwable" "depth" "I") ∈ lw_tbl := in_t2 _ (List.mem_of_getElem? (i := 218) (by decide +kernel))
theorem tw_2_219 : (Jvm.Cond.soleField "java/lang/Throwable" "depth") ∈ lw_tbl := in_t2 _ (List.mem_of_getElem? (i := 219) (by decide +kernel))
theorem tw_2_220 : (Jvm.Cond.soleField "java/lang/Throwable" "suppressedExceptions") ∈ lw_tbl := in_t2 _ (List.mem_of_getElem? (i := 220) (by decide +kernel))
theorem tw_2_221 : (Jvm.Cond.superclass "java/lang/IllegalArgumentException" "java/lang/RuntimeException") ∈ lw_tbl := in_t2 _ (List.mem_of_getElem? (i := 221) (by decide +kernel))
theorem tw_2_222 : (Jvm.Cond.methodLink "java/lang/String" (1051 : Nat) ({ cls := "java/lang/StringUTF16", name := "compress", desc := "([BII)[B" } : Jvm.MethodName)) ∈ lw_tbl := in_t2 _ (List.mem_of_getElem? (i := 222) (by decide +kernel))
theorem tw_2_223 : (Jvm.Cond.static ({ cls := "java/lang/StringUTF16", name := "compress", desc := "([BII)[B" } : Jvm.MethodName)) ∈ lw_tbl := in_t2 _ (List.mem_of_getElem? (i := 223) (by decide +kernel))
theorem tw_2_224 : (Jvm.Cond.code ({ cls := "java/lang/StringUTF16", name := "compress", desc := "([BII)[B" } : Jvm.MethodName) prog_27_method_17_code (6 : Nat) (Option.some (Jvm.ClassFile.FieldType.array Jvm.ClassFile.FieldType.byte))) ∈ lw_tbl := in_t2 _ (List.mem_of_getElem? (i := 224) (by decide +kernel))
theorem tw_2_225 : (Jvm.Cond.methodLink "java/lang/StringUTF16" (123 : Nat) ({ cls := "java/lang/StringUTF16", name := "compress", desc := "([BI[BII)I" } : Jvm.MethodName)) ∈ lw_tbl := in_t2 _ (List.mem_of_getElem? (i := 225) (by decide +kernel))
theorem tw_2_226 : (Jvm.Cond.static ({ cls := "java/lang/StringUTF16", name := "compress", desc := "([BI[BII)I" } : Jvm.MethodName)) ∈ lw_tbl := in_t2 _ (List.mem_of_getElem? (i := 226) (by decide +kernel))
theorem tw_2_227 : (Jvm.Cond.code ({ cls := "java/lang/StringUTF16", name := "compress", desc := "([BI[BII)I" } : Jvm.MethodName) prog_27_method_22_code (7 : Nat) (Option.some Jvm.ClassFile.FieldType.int)) ∈ lw_tbl := in_t2 _ (List.mem_of_getElem? (i := 227) (by decide +kernel))
theorem tw_2_228 : (Jvm.Cond.methodLink "java/lang/StringUTF16" (71 : Nat) ({ cls := "java/lang/StringUTF16", name := "getChar", desc := "([BI)C" } : Jvm.MethodName)) ∈ lw_tbl := in_t2 _ (List.mem_of_getElem? (i := 228) (by decide +kernel))
theorem tw_2_229 : (Jvm.Cond.static ({ cls := "java/lang/StringUTF16", name := "getChar", desc := "([BI)C" } : Jvm.MethodName)) ∈ lw_tbl := in_t2 _ (List.mem_of_getElem? (i := 229) (by decide +kernel))
theorem tw_2_230 : (Jvm.Cond.code ({ cls := "java/lang/StringUTF16", name := "getChar", desc := "([BI)C" } : Jvm.MethodName) prog_27_method_5_code (2 : Nat) (Option.some Jvm.ClassFile.FieldType.char)) ∈ lw_tbl := in_t2 _ (List.mem_of_getElem? (i := 230) (by decide +kernel))
theorem tw_2_231 : (Jvm.Cond.methodLink "java/lang/StringUTF16" (126 : Nat) ({ cls := "java/util/Arrays", name := "copyOfRange", desc := "([BII)[B" } : Jvm.MethodName)) ∈ lw_tbl := in_t2 _ (List.mem_of_getElem? (i := 231) (by decide +kernel))
theorem tw_2_232 : (Jvm.Cond.methodLink "java/lang/String" (47 : Nat) ({ cls := "java/lang/StringUTF16", name := "coderFromArrayLen", desc := "([BI)B" } : Jvm.MethodName)) ∈ lw_tbl := in_t2 _ (List.mem_of_getElem? (i := 232) (by decide +kernel))
theorem tw_2_233 : (Jvm.Cond.static ({ cls := "java/lang/StringUTF16", name := "coderFromArrayLen", desc := "([BI)B" } : Jvm.MethodName)) ∈ lw_tbl := in_t2 _ (List.mem_of_getElem? (i := 233) (by decide +kernel))
theorem tw_2_234 : (Jvm.Cond.code ({ cls := "java/lang/StringUTF16", name := "coderFromArrayLen", desc := "([BI)B" } : Jvm.MethodName) prog_27_method_15_code (2 : Nat) (Option.some Jvm.ClassFile.FieldType.byte)) ∈ lw_tbl := in_t2 _ (List.mem_of_getElem? (i := 234) (by decide +kernel))
theorem tw_2_235 : (Jvm.Cond.fieldLink "java/lang/String" (9 : Nat) "java/lang/String" "value" "[B") ∈ lw_tbl := in_t2 _ (List.mem_of_getElem? (i := 235) (by decide +kernel))
theorem tw_2_236 : (Jvm.Cond.fieldLink "java/lang/String" (15 : Nat) "java/lang/String" "coder" "B") ∈ lw_tbl := in_t2 _ (List.mem_of_getElem? (i := 236) (by decide +kernel))
theorem tw_2_237 : (Jvm.Cond.laysFinal "java/lang/String" "java/lang/String" "value" "[B") ∈ lw_tbl := in_t2 _ (List.mem_of_getElem? (i := 237) (by decide +kernel))
theorem tw_2_238 : (Jvm.Cond.soleField "java/lang/String" "value") ∈ lw_tbl := in_t2 _ (List.mem_of_getElem? (i := 238) (by decide +kernel))
theorem tw_2_239 : (Jvm.Cond.laysFinal "java/lang/String" "java/lang/String" "coder" "B") ∈ lw_tbl := in_t2 _ (List.mem_of_getElem? (i := 239) (by decide +kernel))
theorem tw_3_0 : (Jvm.Cond.soleField "java/lang/String" "coder") ∈ lw_tbl := in_t3 _ (List.mem_of_getElem? (i := 0) (by decide +kernel))
theorem tw_3_1 : (Jvm.Cond.lays "java/lang/String" "java/lang/String" "hash" "I") ∈ lw_tbl := in_t3 _ (List.mem_of_getElem? (i := 1) (by decide +kernel))
theorem tw_3_2 : (Jvm.Cond.soleField "java/lang/String" "hash") ∈ lw_tbl := in_t3 _ (List.mem_of_getElem? (i := 2) (by decide +kernel))
theorem tw_3_3 : (Jvm.Cond.lays "java/lang/String" "java/lang/String" "hashIsZero" "Z") ∈ lw_tbl := in_t3 _ (List.mem_of_getElem? (i := 3) (by decide +kernel))
theorem tw_3_4 : (Jvm.Cond.soleField "java/lang/String" "hashIsZero") ∈ lw_tbl := in_t3 _ (List.mem_of_getElem? (i := 4) (by decide +kernel))
theorem tw_3_5 : (Jvm.Cond.superclass "java/lang/String" "java/lang/Object") ∈ lw_tbl := in_t3 _ (List.mem_of_getElem? (i := 5) (by decide +kernel))
theorem tw_3_6 : (Jvm.Cond.methodLink "java/util/ArrayList" (193 : Nat) ({ cls := "java/lang/IndexOutOfBoundsException", name := "<init>", desc := "(Ljava/lang/String;)V" } : Jvm.MethodName)) ∈ lw_tbl := in_t3 _ (List.mem_of_getElem? (i := 6) (by decide +kernel))
theorem tw_3_7 : (Jvm.Cond.instanceMethod ({ cls := "java/lang/IndexOutOfBoundsException", name := "<init>", desc := "(Ljava/lang/String;)V" } : Jvm.MethodName)) ∈ lw_tbl := in_t3 _ (List.mem_of_getElem? (i := 7) (by decide +kernel))
theorem tw_3_8 : (Jvm.Cond.code ({ cls := "java/lang/IndexOutOfBoundsException", name := "<init>", desc := "(Ljava/lang/String;)V" } : Jvm.MethodName) prog_18_method_2_code (2 : Nat) (Option.none : Option Jvm.ClassFile.FieldType)) ∈ lw_tbl := in_t3 _ (List.mem_of_getElem? (i := 8) (by decide +kernel))
theorem tw_3_9 : (Jvm.Cond.methodLink "java/lang/IndexOutOfBoundsException" (7 : Nat) ({ cls := "java/lang/RuntimeException", name := "<init>", desc := "(Ljava/lang/String;)V" } : Jvm.MethodName)) ∈ lw_tbl := in_t3 _ (List.mem_of_getElem? (i := 9) (by decide +kernel))
theorem tw_3_10 : (Jvm.Cond.lays "java/lang/IndexOutOfBoundsException" "java/lang/Throwable" "depth" "I") ∈ lw_tbl := in_t3 _ (List.mem_of_getElem? (i := 10) (by decide +kernel))
theorem tw_3_11 : (Jvm.Cond.superclass "java/lang/IndexOutOfBoundsException" "java/lang/RuntimeException") ∈ lw_tbl := in_t3 _ (List.mem_of_getElem? (i := 11) (by decide +kernel))
theorem tw_3_12 : (Jvm.Cond.methodLink "java/util/ArrayList" (129 : Nat) ({ cls := "java/util/ArrayList", name := "grow", desc := "()[Ljava/lang/Object;" } : Jvm.MethodName)) ∈ lw_tbl := in_t3 _ (List.mem_of_getElem? (i := 12) (by decide +kernel))
theorem tw_3_13 : (Jvm.Cond.privateMethod ({ cls := "java/util/ArrayList", name := "grow", desc := "()[Ljava/lang/Object;" } : Jvm.MethodName)) ∈ lw_tbl := in_t3 _ (List.mem_of_getElem? (i := 13) (by decide +kernel))
theorem tw_3_14 : (Jvm.Cond.instanceMethod ({ cls := "java/util/ArrayList", name := "grow", desc := "()[Ljava/lang/Object;" } : Jvm.MethodName)) ∈ lw_tbl := in_t3 _ (List.mem_of_getElem? (i := 14) (by decide +kernel))
theorem tw_3_15 : (Jvm.Cond.code ({ cls := "java/util/ArrayList", name := "grow", desc := "()[Ljava/lang/Object;" } : Jvm.MethodName) prog_34_method_7_code (1 : Nat) (Option.some (Jvm.ClassFile.FieldType.array (Jvm.ClassFile.FieldType.object "java/lang/Object")))) ∈ lw_tbl := in_t3 _ (List.mem_of_getElem? (i := 15) (by decide +kernel))
theorem tw_3_16 : (Jvm.Cond.methodLink "java/util/ArrayList" (69 : Nat) ({ cls := "java/util/ArrayList", name := "grow", desc := "(I)[Ljava/lang/Object;" } : Jvm.MethodName)) ∈ lw_tbl := in_t3 _ (List.mem_of_getElem? (i := 16) (by decide +kernel))
theorem tw_3_17 : (Jvm.Cond.privateMethod ({ cls := "java/util/ArrayList", name := "grow", desc := "(I)[Ljava/lang/Object;" } : Jvm.MethodName)) ∈ lw_tbl := in_t3 _ (List.mem_of_getElem? (i := 17) (by decide +kernel))
theorem tw_3_18 : (Jvm.Cond.instanceMethod ({ cls := "java/util/ArrayList", name := "grow", desc := "(I)[Ljava/lang/Object;" } : Jvm.MethodName)) ∈ lw_tbl := in_t3 _ (List.mem_of_getElem? (i := 18) (by decide +kernel))
theorem tw_3_19 : (Jvm.Cond.code ({ cls := "java/util/ArrayList", name := "grow", desc := "(I)[Ljava/lang/Object;" } : Jvm.MethodName) prog_34_method_6_code (4 : Nat) (Option.some (Jvm.ClassFile.FieldType.array (Jvm.ClassFile.FieldType.object "java/lang/Object")))) ∈ lw_tbl := in_t3 _ (List.mem_of_getElem? (i := 19) (by decide +kernel))
theorem tw_3_20 : (Jvm.Cond.methodLink "java/util/ArrayList" (73 : Nat) ({ cls := "jdk/internal/util/ArraysSupport", name := "newLength", desc := "(III)I" } : Jvm.MethodName)) ∈ lw_tbl := in_t3 _ (List.mem_of_getElem? (i := 20) (by decide +kernel))
theorem tw_3_21 : (Jvm.Cond.methodLink "java/util/ArrayList" (66 : Nat) ({ cls := "java/util/Arrays", name := "copyOf", desc := "([Ljava/lang/Object;I)[Ljava/lang/Object;" } : Jvm.MethodName)) ∈ lw_tbl := in_t3 _ (List.mem_of_getElem? (i := 21) (by decide +kernel))
theorem tw_3_22 : (Jvm.Cond.static ({ cls := "java/util/Arrays", name := "copyOf", desc := "([Ljava/lang/Object;I)[Ljava/lang/Object;" } : Jvm.MethodName)) ∈ lw_tbl := in_t3 _ (List.mem_of_getElem? (i := 22) (by decide +kernel))
theorem tw_3_23 : (Jvm.Cond.code ({ cls := "java/util/Arrays", name := "copyOf", desc := "([Ljava/lang/Object;I)[Ljava/lang/Object;" } : Jvm.MethodName) prog_35_method_119_code (2 : Nat) (Option.some (Jvm.ClassFile.FieldType.array (Jvm.ClassFile.FieldType.object "java/lang/Object")))) ∈ lw_tbl := in_t3 _ (List.mem_of_getElem? (i := 23) (by decide +kernel))
theorem tw_3_24 : (Jvm.Cond.methodLink "java/util/Arrays" (86 : Nat) ({ cls := "java/lang/Object", name := "getClass", desc := "()Ljava/lang/Class;" } : Jvm.MethodName)) ∈ lw_tbl := in_t3 _ (List.mem_of_getElem? (i := 24) (by decide +kernel))
theorem tw_3_25 : (Jvm.Cond.instanceMethod ({ cls := "java/lang/Object", name := "getClass", desc := "()Ljava/lang/Class;" } : Jvm.MethodName)) ∈ lw_tbl := in_t3 _ (List.mem_of_getElem? (i := 25) (by decide +kernel))
theorem tw_3_26 : (Jvm.Cond.sameMethod "java/lang/Object" "java/lang/Object" "getClass" "()Ljava/lang/Class;") ∈ lw_tbl := in_t3 _ (List.mem_of_getElem? (i := 26) (by decide +kernel))
theorem tw_3_27 : (Jvm.Cond.selects "CueBook" ({ cls := "java/lang/Object", name := "getClass", desc := "()Ljava/lang/Class;" } : Jvm.MethodName) ({ cls := "java/lang/Object", name := "getClass", desc := "()Ljava/lang/Class;" } : Jvm.MethodName)) ∈ lw_tbl := in_t3 _ (List.mem_of_getElem? (i := 27) (by decide +kernel))
theorem tw_3_28 : (Jvm.Cond.selects "CueBook$Cue" ({ cls := "java/lang/Object", name := "getClass", desc := "()Ljava/lang/Class;" } : Jvm.MethodName) ({ cls := "java/lang/Object", name := "getClass", desc := "()Ljava/lang/Class;" } : Jvm.MethodName)) ∈ lw_tbl := in_t3 _ (List.mem_of_getElem? (i := 28) (by decide +kernel))
theorem tw_3_29 : (Jvm.Cond.selects "CueBook$Path" ({ cls := "java/lang/Object", name := "getClass", desc := "()Ljava/lang/Class;" } : Jvm.MethodName) ({ cls := "java/lang/Object", name := "getClass", desc := "()Ljava/lang/Class;" } : Jvm.MethodName)) ∈ lw_tbl := in_t3 _ (List.mem_of_getElem? (i := 29) (by decide +kernel))
theorem tw_3_30 : (Jvm.Cond.selects "CueBook$Player" ({ cls := "java/lang/Object", name := "getClass", desc := "()Ljava/lang/Class;" } : Jvm.MethodName) ({ cls := "java/lang/Object", name := "getClass", desc := "()Ljava/lang/Class;" } : Jvm.MethodName)) ∈ lw_tbl := in_t3 _ (List.mem_of_getElem? (i := 30) (by decide +kernel))
theorem tw_3_31 : (Jvm.Cond.selects "CueBook$Puppet" ({ cls := "java/lang/Object", name := "getClass", desc := "()Ljava/lang/Class;" } : Jvm.MethodName) ({ cls := "java/lang/Object", name := "getClass", desc := "()Ljava/lang/Class;" } : Jvm.MethodName)) ∈ lw_tbl := in_t3 _ (List.mem_of_getElem? (i := 31) (by decide +kernel))
theorem tw_3_32 : (Jvm.Cond.selects "CueBook$Stay" ({ cls := "java/lang/Object", name := "getClass", desc := "()Ljava/lang/Class;" } : Jvm.MethodName) ({ cls := "java/lang/Object", name := "getClass", desc := "()Ljava/lang/Class;" } : Jvm.MethodName)) ∈ lw_tbl := in_t3 _ (List.mem_of_getElem? (i := 32) (by decide +kernel))
theorem tw_3_33 : (Jvm.Cond.selects "CueBookModel" ({ cls := "java/lang/Object", name := "getClass", desc := "()Ljava/lang/Class;" } : Jvm.MethodName) ({ cls := "java/lang/Object", name := "getClass", desc := "()Ljava/lang/Class;" } : Jvm.MethodName)) ∈ lw_tbl := in_t3 _ (List.mem_of_getElem? (i := 33) (by decide +kernel))
theorem tw_3_34 : (Jvm.Cond.selects "java/lang/IllegalArgumentException" ({ cls := "java/lang/Object", name := "getClass", desc := "()Ljava/lang/Class;" } : Jvm.MethodName) ({ cls := "java/lang/Object", name := "getClass", desc := "()Ljava/lang/Class;" } : Jvm.MethodName)) ∈ lw_tbl := in_t3 _ (List.mem_of_getElem? (i := 34) (by decide +kernel))
theorem tw_3_35 : (Jvm.Cond.selects "java/lang/IllegalStateException" ({ cls := "java/lang/Object", name := "getClass", desc := "()Ljava/lang/Class;" } : Jvm.MethodName) ({ cls := "java/lang/Object", name := "getClass", desc := "()Ljava/lang/Class;" } : Jvm.MethodName)) ∈ lw_tbl := in_t3 _ (List.mem_of_getElem? (i := 35) (by decide +kernel))
theorem tw_3_36 : (Jvm.Cond.selects "java/lang/IndexOutOfBoundsException" ({ cls := "java/lang/Object", name := "getClass", desc := "()Ljava/lang/Class;" } : Jvm.MethodName) ({ cls := "java/lang/Object", name := "getClass", desc := "()Ljava/lang/Class;" } : Jvm.MethodName)) ∈ lw_tbl := in_t3 _ (List.mem_of_getElem? (i := 36) (by decide +kernel))
theorem tw_3_37 : (Jvm.Cond.selects "java/lang/String" ({ cls := "java/lang/Object", name := "getClass", desc := "()Ljava/lang/Class;" } : Jvm.MethodName) ({ cls := "java/lang/Object", name := "getClass", desc := "()Ljava/lang/Class;" } : Jvm.MethodName)) ∈ lw_tbl := in_t3 _ (List.mem_of_getElem? (i := 37) (by decide +kernel))
theorem tw_3_38 : (Jvm.Cond.selects "java/lang/StringBuilder" ({ cls := "java/lang/Object", name := "getClass", desc := "()Ljava/lang/Class;" } : Jvm.MethodName) ({ cls := "java/lang/Object", name := "getClass", desc := "()Ljava/lang/Class;" } : Jvm.MethodName)) ∈ lw_tbl := in_t3 _ (List.mem_of_getElem? (i := 38) (by decide +kernel))
theorem tw_3_39 : (Jvm.Cond.selects "java/util/ArrayList" ({ cls := "java/lang/Object", name := "getClass", desc := "()Ljava/lang/Class;" } : Jvm.MethodName) ({ cls := "java/lang/Object", name := "getClass", desc := "()Ljava/lang/Class;" } : Jvm.MethodName)) ∈ lw_tbl := in_t3 _ (List.mem_of_getElem? (i := 39) (by decide +kernel))
theorem tw_3_40 : (Jvm.Cond.native ({ cls := "java/lang/Object", name := "getClass", desc := "()Ljava/lang/Class;" } : Jvm.MethodName)) ∈ lw_tbl := in_t3 _ (List.mem_of_getElem? (i := 40) (by decide +kernel))
theorem tw_3_41 : (Jvm.Cond.methodLink "java/util/Arrays" (300 : Nat) ({ cls := "java/util/Arrays", name := "copyOf", desc := "([Ljava/lang/Object;ILjava/lang/Class;)[Ljava/lang/Object;" } : Jvm.MethodName)) ∈ lw_tbl := in_t3 _ (List.mem_of_getElem? (i := 41) (by decide +kernel))
theorem tw_3_42 : (Jvm.Cond.static ({ cls := "java/util/Arrays", name := "copyOf", desc := "([Ljava/lang/Object;ILjava/lang/Class;)[Ljava/lang/Object;" } : Jvm.MethodName)) ∈ lw_tbl := in_t3 _ (List.mem_of_getElem? (i := 42) (by decide +kernel))
theorem tw_3_43 : (Jvm.Cond.code ({ cls := "java/util/Arrays", name := "copyOf", desc := "([Ljava/lang/Object;ILjava/lang/Class;)[Ljava/lang/Object;" } : Jvm.MethodName) prog_35_method_120_code (4 : Nat) (Option.some (Jvm.ClassFile.FieldType.array (Jvm.ClassFile.FieldType.object "java/lang/Object")))) ∈ lw_tbl := in_t3 _ (List.mem_of_getElem? (i := 43) (by decide +kernel))
theorem tw_3_44 : (Jvm.Cond.classLink "java/util/Arrays" (110 : Nat) "[Ljava/lang/Object;") ∈ lw_tbl := in_t3 _ (List.mem_of_getElem? (i := 44) (by decide +kernel))
theorem tw_3_45 : (Jvm.Cond.arrayOver (Jvm.ClassFile.FieldType.object "java/lang/Object")) ∈ lw_tbl := in_t3 _ (List.mem_of_getElem? (i := 45) (by decide +kernel))
theorem tw_3_46 : (Jvm.Cond.classLink "java/util/Arrays" (2 : Nat) "java/lang/Object") ∈ lw_tbl := in_t3 _ (List.mem_of_getElem? (i := 46) (by decide +kernel))
theorem tw_3_47 : (Jvm.Cond.methodLink "java/util/ArrayList" (79 : Nat) ({ cls := "java/lang/Math", name := "max", desc := "(II)I" } : Jvm.MethodName)) ∈ lw_tbl := in_t3 _ (List.mem_of_getElem? (i := 47) (by decide +kernel))
theorem tw_3_48 : (Jvm.Cond.classLink "java/util/ArrayList" (7 : Nat) "java/lang/Object") ∈ lw_tbl := in_t3 _ (List.mem_of_getElem? (i := 48) (by decide +kernel))
theorem tw_3_49 : (Jvm.Cond.methodLink "java/util/ArrayList" (112 : Nat) ({ cls := "java/lang/System", name := "arraycopy", desc := "(Ljava/lang/Object;ILjava/lang/Object;II)V" } : Jvm.MethodName)) ∈ lw_tbl := in_t3 _ (List.mem_of_getElem? (i := 49) (by decide +kernel))
theorem tw_3_50 : (Jvm.Cond.methodLink "CueBook" (275 : Nat) ({ cls := "CueBook", name := "namePlayer", desc := "(LCueBook$Stay;)V" } : Jvm.MethodName)) ∈ lw_tbl := in_t3 _ (List.mem_of_getElem? (i := 50) (by decide +kernel))
theorem tw_3_51 : (Jvm.Cond.privateMethod ({ cls := "CueBook", name := "namePlayer", desc := "(LCueBook$Stay;)V" } : Jvm.MethodName)) ∈ lw_tbl := in_t3 _ (List.mem_of_getElem? (i := 51) (by decide +kernel))
theorem tw_3_52 : (Jvm.Cond.instanceMethod ({ cls := "CueBook", name := "namePlayer", desc := "(LCueBook$Stay;)V" } : Jvm.MethodName)) ∈ lw_tbl := in_t3 _ (List.mem_of_getElem? (i := 52) (by decide +kernel))
theorem tw_3_53 : (Jvm.Cond.code ({ cls := "CueBook", name := "namePlayer", desc := "(LCueBook$Stay;)V" } : Jvm.MethodName) prog_1_method_44_code (4 : Nat) (Option.none : Option Jvm.ClassFile.FieldType)) ∈ lw_tbl := in_t3 _ (List.mem_of_getElem? (i := 53) (by decide +kernel))
theorem tw_3_54 : (Jvm.Cond.methodLink "CueBook" (288 : Nat) ({ cls := "CueBook", name := "canDo", desc := "(LCueBook$Player;LCueBook$Stay;)Z" } : Jvm.MethodName)) ∈ lw_tbl := in_t3 _ (List.mem_of_getElem? (i := 54) (by decide +kernel))
theorem tw_3_55 : (Jvm.Cond.privateMethod ({ cls := "CueBook", name := "canDo", desc := "(LCueBook$Player;LCueBook$Stay;)Z" } : Jvm.MethodName)) ∈ lw_tbl := in_t3 _ (List.mem_of_getElem? (i := 55) (by decide +kernel))
theorem tw_3_56 : (Jvm.Cond.instanceMethod ({ cls := "CueBook", name := "canDo", desc := "(LCueBook$Player;LCueBook$Stay;)Z" } : Jvm.MethodName)) ∈ lw_tbl := in_t3 _ (List.mem_of_getElem? (i := 56) (by decide +kernel))
theorem tw_3_57 : (Jvm.Cond.code ({ cls := "CueBook", name := "canDo", desc := "(LCueBook$Player;LCueBook$Stay;)Z" } : Jvm.MethodName) prog_1_method_45_code (4 : Nat) (Option.some Jvm.ClassFile.FieldType.boolean)) ∈ lw_tbl := in_t3 _ (List.mem_of_getElem? (i := 57) (by decide +kernel))
theorem tw_3_58 : (Jvm.Cond.methodLink "CueBook" (295 : Nat) ({ cls := "CueBook", name := "canComeToBeginning", desc := "(LCueBook$Player;LCueBook$Stay;)Z" } : Jvm.MethodName)) ∈ lw_tbl := in_t3 _ (List.mem_of_getElem? (i := 58) (by decide +kernel))
theorem tw_3_59 : (Jvm.Cond.privateMethod ({ cls := "CueBook", name := "canComeToBeginning", desc := "(LCueBook$Player;LCueBook$Stay;)Z" } : Jvm.MethodName)) ∈ lw_tbl := in_t3 _ (List.mem_of_getElem? (i := 59) (by decide +kernel))
theorem tw_3_60 : (Jvm.Cond.instanceMethod ({ cls := "CueBook", name := "canComeToBeginning", desc := "(LCueBook$Player;LCueBook$Stay;)Z" } : Jvm.MethodName)) ∈ lw_tbl := in_t3 _ (List.mem_of_getElem? (i := 60) (by decide +kernel))
theorem tw_3_61 : (Jvm.Cond.code ({ cls := "CueBook", name := "canComeToBeginning", desc := "(LCueBook$Player;LCueBook$Stay;)Z" } : Jvm.MethodName) prog_1_method_46_code (5 : Nat) (Option.some Jvm.ClassFile.FieldType.boolean)) ∈ lw_tbl := in_t3 _ (List.mem_of_getElem? (i := 61) (by decide +kernel))
theorem tw_3_62 : (Jvm.Cond.methodLink "CueBook" (303 : Nat) ({ cls := "CueBook", name := "placeOfHeld", desc := "(LCueBook$Player;I)I" } : Jvm.MethodName)) ∈ lw_tbl := in_t3 _ (List.mem_of_getElem? (i := 62) (by decide +kernel))
theorem tw_3_63 : (Jvm.Cond.privateMethod ({ cls := "CueBook", name := "placeOfHeld", desc := "(LCueBook$Player;I)I" } : Jvm.MethodName)) ∈ lw_tbl := in_t3 _ (List.mem_of_getElem? (i := 63) (by decide +kernel))
theorem tw_3_64 : (Jvm.Cond.instanceMethod ({ cls := "CueBook", name := "placeOfHeld", desc := "(LCueBook$Player;I)I" } : Jvm.MethodName)) ∈ lw_tbl := in_t3 _ (List.mem_of_getElem? (i := 64) (by decide +kernel))
theorem tw_3_65 : (Jvm.Cond.code ({ cls := "CueBook", name := "placeOfHeld", desc := "(LCueBook$Player;I)I" } : Jvm.MethodName) prog_1_method_47_code (4 : Nat) (Option.some Jvm.ClassFile.FieldType.int)) ∈ lw_tbl := in_t3 _ (List.mem_of_getElem? (i := 65) (by decide +kernel))
theorem tw_3_66 : (Jvm.Cond.methodLink "CueBook" (314 : Nat) ({ cls := "CueBook$Player", name := "holds", desc := "(LCueBook$Puppet;I)Z" } : Jvm.MethodName)) ∈ lw_tbl := in_t3 _ (List.mem_of_getElem? (i := 66) (by decide +kernel))
theorem tw_3_67 : (Jvm.Cond.instanceMethod ({ cls := "CueBook$Player", name := "holds", desc := "(LCueBook$Puppet;I)Z" } : Jvm.MethodName)) ∈ lw_tbl := in_t3 _ (List.mem_of_getElem? (i := 67) (by decide +kernel))
theorem tw_3_68 : (Jvm.Cond.selects "CueBook$Player" ({ cls := "CueBook$Player", name := "holds", desc := "(LCueBook$Puppet;I)Z" } : Jvm.MethodName) ({ cls := "CueBook$Player", name := "holds", desc := "(LCueBook$Puppet;I)Z" } : Jvm.MethodName)) ∈ lw_tbl := in_t3 _ (List.mem_of_getElem? (i := 68) (by decide +kernel))
theorem tw_3_69 : (Jvm.Cond.code ({ cls := "CueBook$Player", name := "holds", desc := "(LCueBook$Puppet;I)Z" } : Jvm.MethodName) prog_4_method_2_code (3 : Nat) (Option.some Jvm.ClassFile.FieldType.boolean)) ∈ lw_tbl := in_t3 _ (List.mem_of_getElem? (i := 69) (by decide +kernel))
theorem tw_3_70 : (Jvm.Cond.methodLink "CueBook" (307 : Nat) ({ cls := "CueBook", name := "distance", desc := "(II)I" } : Jvm.MethodName)) ∈ lw_tbl := in_t3 _ (List.mem_of_getElem? (i := 70) (by decide +kernel))
theorem tw_3_71 : (Jvm.Cond.static ({ cls := "CueBook", name := "distance", desc := "(II)I" } : Jvm.MethodName)) ∈ lw_tbl := in_t3 _ (List.mem_of_getElem? (i := 71) (by decide +kernel))
theorem tw_3_72 : (Jvm.Cond.code ({ cls := "CueBook", name := "distance", desc := "(II)I" } : Jvm.MethodName) prog_1_method_36_code (2 : Nat) (Option.some Jvm.ClassFile.FieldType.int)) ∈ lw_tbl := in_t3 _ (List.mem_of_getElem? (i := 72) (by decide +kernel))
theorem tw_3_73 : (Jvm.Cond.methodLink "CueBook" (199 : Nat) ({ cls := "java/lang/Math", name := "abs", desc := "(I)I" } : Jvm.MethodName)) ∈ lw_tbl := in_t3 _ (List.mem_of_getElem? (i := 73) (by decide +kernel))
theorem tw_3_74 : (Jvm.Cond.static ({ cls := "java/lang/Math", name := "abs", desc := "(I)I" } : Jvm.MethodName)) ∈ lw_tbl := in_t3 _ (List.mem_of_getElem? (i := 74) (by decide +kernel))
theorem tw_3_75 : (Jvm.Cond.code ({ cls := "java/lang/Math", name := "abs", desc := "(I)I" } : Jvm.MethodName) prog_21_method_59_code (1 : Nat) (Option.some Jvm.ClassFile.FieldType.int)) ∈ lw_tbl := in_t3 _ (List.mem_of_getElem? (i := 75) (by decide +kernel))
theorem tw_3_76 : (Jvm.Cond.methodLink "CueBook" (299 : Nat) ({ cls := "CueBook", name := "canHold", desc := "(LCueBook$Player;LCueBook$Puppet;I)Z" } : Jvm.MethodName)) ∈ lw_tbl := in_t3 _ (List.mem_of_getElem? (i := 76) (by decide +kernel))
theorem tw_3_77 : (Jvm.Cond.privateMethod ({ cls := "CueBook", name := "canHold", desc := "(LCueBook$Player;LCueBook$Puppet;I)Z" } : Jvm.MethodName)) ∈ lw_tbl := in_t3 _ (List.mem_of_getElem? (i := 77) (by decide +kernel))
theorem tw_3_78 : (Jvm.Cond.instanceMethod ({ cls := "CueBook", name := "canHold", desc := "(LCueBook$Player;LCueBook$Puppet;I)Z" } : Jvm.MethodName)) ∈ lw_tbl := in_t3 _ (List.mem_of_getElem? (i := 78) (by decide +kernel))
theorem tw_3_79 : (Jvm.Cond.code ({ cls := "CueBook", name := "canHold", desc := "(LCueBook$Player;LCueBook$Puppet;I)Z" } : Jvm.MethodName) prog_1_method_48_code (8 : Nat) (Option.some Jvm.ClassFile.FieldType.boolean)) ∈ lw_tbl := in_t3 _ (List.mem_of_getElem? (i := 79) (by decide +kernel))
theorem tw_3_80 : (Jvm.Cond.methodLink "CueBook" (292 : Nat) ({ cls := "CueBook$Player", name := "take", desc := "(LCueBook$Stay;)V" } : Jvm.MethodName)) ∈ lw_tbl := in_t3 _ (List.mem_of_getElem? (i := 80) (by decide +kernel))
theorem tw_3_81 : (Jvm.Cond.instanceMethod ({ cls := "CueBook$Player", name := "take", desc := "(LCueBook$Stay;)V" } : Jvm.MethodName)) ∈ lw_tbl := in_t3 _ (List.mem_of_getElem? (i := 81) (by decide +kernel))
theorem tw_3_82 : (Jvm.Cond.selects "CueBook$Player" ({ cls := "CueBook$Player", name := "take", desc := "(LCueBook$Stay;)V" } : Jvm.MethodName) ({ cls := "CueBook$Player", name := "take", desc := "(LCueBook$Stay;)V" } : Jvm.MethodName)) ∈ lw_tbl := in_t3 _ (List.mem_of_getElem? (i := 82) (by decide +kernel))
theorem tw_3_83 : (Jvm.Cond.code ({ cls := "CueBook$Player", name := "take", desc := "(LCueBook$Stay;)V" } : Jvm.MethodName) prog_4_method_4_code (3 : Nat) (Option.none : Option Jvm.ClassFile.FieldType)) ∈ lw_tbl := in_t3 _ (List.mem_of_getElem? (i := 83) (by decide +kernel))
theorem tw_3_84 : (Jvm.Cond.methodLink "CueBookLaw" (163 : Nat) ({ cls := "CueBook", name := "worst", desc := "()I" } : Jvm.MethodName)) ∈ lw_tbl := in_t3 _ (List.mem_of_getElem? (i := 84) (by decide +kernel))
theorem tw_3_85 : (Jvm.Cond.instanceMethod ({ cls := "CueBook", name := "worst", desc := "()I" } : Jvm.MethodName)) ∈ lw_tbl := in_t3 _ (List.mem_of_getElem? (i := 85) (by decide +kernel))
theorem tw_3_86 : (Jvm.Cond.selects "CueBook" ({ cls := "CueBook", name := "worst", desc := "()I" } : Jvm.MethodName) ({ cls := "CueBook", name := "worst", desc := "()I" } : Jvm.MethodName)) ∈ lw_tbl := in_t3 _ (List.mem_of_getElem? (i := 86) (by decide +kernel))
theorem tw_3_87 : (Jvm.Cond.code ({ cls := "CueBook", name := "worst", desc := "()I" } : Jvm.MethodName) prog_1_method_24_code (5 : Nat) (Option.some Jvm.ClassFile.FieldType.int)) ∈ lw_tbl := in_t3 _ (List.mem_of_getElem? (i := 87) (by decide +kernel))
theorem tw_3_88 : (Jvm.Cond.classLink "CueBook" (89 : Nat) "CueBook$Cue") ∈ lw_tbl := in_t3 _ (List.mem_of_getElem? (i := 88) (by decide +kernel))
theorem tw_3_89 : (Jvm.Cond.methodLink "CueBookLaw" (167 : Nat) ({ cls := "CueBook", name := "digest", desc := "()J" } : Jvm.MethodName)) ∈ lw_tbl := in_t3 _ (List.mem_of_getElem? (i := 89) (by decide +kernel))
theorem tw_3_90 : (Jvm.Cond.instanceMethod ({ cls := "CueBook", name := "digest", desc := "()J" } : Jvm.MethodName)) ∈ lw_tbl := in_t3 _ (List.mem_of_getElem? (i := 90) (by decide +kernel))
theorem tw_3_91 : (Jvm.Cond.selects "CueBook" ({ cls := "CueBook", name := "digest", desc := "()J" } : Jvm.MethodName) ({ cls := "CueBook", name := "digest", desc := "()J" } : Jvm.MethodName)) ∈ lw_tbl := in_t3 _ (List.mem_of_getElem? (i := 91) (by decide +kernel))
theorem tw_3_92 : (Jvm.Cond.code ({ cls := "CueBook", name := "digest", desc := "()J" } : Jvm.MethodName) prog_1_method_25_code (4 : Nat) (Option.some Jvm.ClassFile.FieldType.long)) ∈ lw_tbl := in_t3 _ (List.mem_of_getElem? (i := 92) (by decide +kernel))
theorem tw_3_93 : (Jvm.Cond.constantLong "CueBook" (205 : Nat) (277 : Int64)) ∈ lw_tbl := in_t3 _ (List.mem_of_getElem? (i := 93) (by decide +kernel))
theorem tw_3_94 : (Jvm.Cond.methodLink "CueBook" (207 : Nat) ({ cls := "CueBook", name := "digestWith", desc := "(JI)J" } : Jvm.MethodName)) ∈ lw_tbl := in_t3 _ (List.mem_of_getElem? (i := 94) (by decide +kernel))
theorem tw_3_95 : (Jvm.Cond.static ({ cls := "CueBook", name := "digestWith", desc := "(JI)J" } : Jvm.MethodName)) ∈ lw_tbl := in_t3 _ (List.mem_of_getElem? (i := 95) (by decide +kernel))
theorem tw_3_96 : (Jvm.Cond.code ({ cls := "CueBook", name := "digestWith", desc := "(JI)J" } : Jvm.MethodName) prog_1_method_49_code (3 : Nat) (Option.some Jvm.ClassFile.FieldType.long)) ∈ lw_tbl := in_t3 _ (List.mem_of_getElem? (i := 96) (by decide +kernel))
theorem tw_3_97 : (Jvm.Cond.constantLong "CueBook" (327 : Nat) (31 : Int64)) ∈ lw_tbl := in_t3 _ (List.mem_of_getElem? (i := 97) (by decide +kernel))
theorem tw_3_98 : (Jvm.Cond.methodLink "CueBook" (211 : Nat) ({ cls := "CueBook", name := "digestWithStays", desc := "(JLjava/util/ArrayList;)J" } : Jvm.MethodName)) ∈ lw_tbl := in_t3 _ (List.mem_of_getElem? (i := 98) (by decide +kernel))
theorem tw_3_99 : (Jvm.Cond.static ({ cls := "CueBook", name := "digestWithStays", desc := "(JLjava/util/ArrayList;)J" } : Jvm.MethodName)) ∈ lw_tbl := in_t3 _ (List.mem_of_getElem? (i := 99) (by decide +kernel))
theorem tw_3_100 : (Jvm.Cond.code ({ cls := "CueBook", name := "digestWithStays", desc := "(JLjava/util/ArrayList;)J" } : Jvm.MethodName) prog_1_method_50_code (7 : Nat) (Option.some Jvm.ClassFile.FieldType.long)) ∈ lw_tbl := in_t3 _ (List.mem_of_getElem? (i := 100) (by decide +kernel))
theorem tw_3_101 : (Jvm.Cond.methodLink "CueBook" (169 : Nat) ({ cls := "CueBook", name := "tellOfStay", desc := "(LCueBook$Stay;I)I" } : Jvm.MethodName)) ∈ lw_tbl := in_t3 _ (List.mem_of_getElem? (i := 101) (by decide +kernel))
theorem tw_3_102 : (Jvm.Cond.static ({ cls := "CueBook", name := "tellOfStay", desc := "(LCueBook$Stay;I)I" } : Jvm.MethodName)) ∈ lw_tbl := in_t3 _ (List.mem_of_getElem? (i := 102) (by decide +kernel))
theorem tw_3_103 : (Jvm.Cond.code ({ cls := "CueBook", name := "tellOfStay", desc := "(LCueBook$Stay;I)I" } : Jvm.MethodName) prog_1_method_35_code (2 : Nat) (Option.some Jvm.ClassFile.FieldType.int)) ∈ lw_tbl := in_t3 _ (List.mem_of_getElem? (i := 103) (by decide +kernel))
theorem tw_3_104 : (Jvm.Cond.classLink "CueBook" (121 : Nat) "java/lang/IndexOutOfBoundsException") ∈ lw_tbl := in_t3 _ (List.mem_of_getElem? (i := 104) (by decide +kernel))
theorem tw_3_105 : (Jvm.Cond.stringRef "CueBook" (260 : Nat) "what is not 0 to 2") ∈ lw_tbl := in_t3 _ (List.mem_of_getElem? (i := 105) (by decide +kernel))
theorem tw_3_106 : (Jvm.Cond.methodLink "CueBook" (125 : Nat) ({ cls := "java/lang/IndexOutOfBoundsException", name := "<init>", desc := "(Ljava/lang/String;)V" } : Jvm.MethodName)) ∈ lw_tbl := in_t3 _ (List.mem_of_getElem? (i := 106) (by decide +kernel))
theorem tw_3_107 : (Jvm.Cond.methodLink "CueBook" (183 : Nat) ({ cls := "CueBook$Player", name := "busyBeats", desc := "()I" } : Jvm.MethodName)) ∈ lw_tbl := in_t3 _ (List.mem_of_getElem? (i := 107) (by decide +kernel))
theorem tw_3_108 : (Jvm.Cond.instanceMethod ({ cls := "CueBook$Player", name := "busyBeats", desc := "()I" } : Jvm.MethodName)) ∈ lw_tbl := in_t3 _ (List.mem_of_getElem? (i := 108) (by decide +kernel))
theorem tw_3_109 : (Jvm.Cond.selects "CueBook$Player" ({ cls := "CueBook$Player", name := "busyBeats", desc := "()I" } : Jvm.MethodName) ({ cls := "CueBook$Player", name := "busyBeats", desc := "()I" } : Jvm.MethodName)) ∈ lw_tbl := in_t3 _ (List.mem_of_getElem? (i := 109) (by decide +kernel))
theorem tw_3_110 : (Jvm.Cond.code ({ cls := "CueBook$Player", name := "busyBeats", desc := "()I" } : Jvm.MethodName) prog_4_method_5_code (3 : Nat) (Option.some Jvm.ClassFile.FieldType.int)) ∈ lw_tbl := in_t3 _ (List.mem_of_getElem? (i := 110) (by decide +kernel))
theorem tw_3_111 : (Jvm.Cond.methodLink "CueBook" (215 : Nat) ({ cls := "CueBook", name := "digestWithCue", desc := "(JLCueBook$Cue;)J" } : Jvm.MethodName)) ∈ lw_tbl := in_t3 _ (List.mem_of_getElem? (i := 111) (by decide +kernel))
theorem tw_3_112 : (Jvm.Cond.static ({ cls := "CueBook", name := "digestWithCue", desc := "(JLCueBook$Cue;)J" } : Jvm.MethodName)) ∈ lw_tbl := in_t3 _ (List.mem_of_getElem? (i := 112) (by decide +kernel))
theorem tw_3_113 : (Jvm.Cond.code ({ cls := "CueBook", name := "digestWithCue", desc := "(JLCueBook$Cue;)J" } : Jvm.MethodName) prog_1_method_51_code (6 : Nat) (Option.some Jvm.ClassFile.FieldType.long)) ∈ lw_tbl := in_t3 _ (List.mem_of_getElem? (i := 113) (by decide +kernel))
theorem tw_3_114 : (Jvm.Cond.methodLink "CueBook" (126 : Nat) ({ cls := "CueBook", name := "tellOfCue", desc := "(LCueBook$Cue;I)I" } : Jvm.MethodName)) ∈ lw_tbl := in_t3 _ (List.mem_of_getElem? (i := 114) (by decide +kernel))
theorem tw_3_115 : (Jvm.Cond.static ({ cls := "CueBook", name := "tellOfCue", desc := "(LCueBook$Cue;I)I" } : Jvm.MethodName)) ∈ lw_tbl := in_t3 _ (List.mem_of_getElem? (i := 115) (by decide +kernel))
theorem tw_3_116 : (Jvm.Cond.code ({ cls := "CueBook", name := "tellOfCue", desc := "(LCueBook$Cue;I)I" } : Jvm.MethodName) prog_1_method_34_code (2 : Nat) (Option.some Jvm.ClassFile.FieldType.int)) ∈ lw_tbl := in_t3 _ (List.mem_of_getElem? (i := 116) (by decide +kernel))
theorem tw_3_117 : (Jvm.Cond.stringRef "CueBook" (258 : Nat) "what is not 0 to 4") ∈ lw_tbl := in_t3 _ (List.mem_of_getElem? (i := 117) (by decide +kernel))
theorem tw_3_118 : (Jvm.Cond.methodLink "CueBook" (219 : Nat) ({ cls := "CueBook", name := "clashes", desc := "()I" } : Jvm.MethodName)) ∈ lw_tbl := in_t3 _ (List.mem_of_getElem? (i := 118) (by decide +kernel))
theorem tw_3_119 : (Jvm.Cond.methodLink "CueBookLaw" (84 : Nat) ({ cls := "CueBookLaw", name := "addPuppet", desc := "(LCueBook;II[J)I" } : Jvm.MethodName)) ∈ lw_tbl := in_t3 _ (List.mem_of_getElem? (i := 119) (by decide +kernel))
theorem tw_3_120 : (Jvm.Cond.static ({ cls := "CueBookLaw", name := "addPuppet", desc := "(LCueBook;II[J)I" } : Jvm.MethodName)) ∈ lw_tbl := in_t3 _ (List.mem_of_getElem? (i := 120) (by decide +kernel))
theorem tw_3_121 : (Jvm.Cond.codeWith ({ cls := "CueBookLaw", name := "addPuppet", desc := "(LCueBook;II[J)I" } : Jvm.MethodName) method_3_code (5 : Nat) (Option.some Jvm.ClassFile.FieldType.int) [((0 : Nat), (10 : Nat), (13 : Nat), (13 : Nat)), ((0 : Nat), (10 : Nat), (17 : Nat), (15 : Nat))]) ∈ lw_tbl := in_t3 _ (List.mem_of_getElem? (i := 121) (by decide +kernel))
theorem tw_3_122 : (Jvm.Cond.classLink "CueBookLaw" (13 : Nat) "java/lang/IllegalArgumentException") ∈ lw_tbl := in_t3 _ (List.mem_of_getElem? (i := 122) (by decide +kernel))
theorem tw_3_123 : (Jvm.Cond.classLink "CueBookLaw" (15 : Nat) "java/lang/IllegalStateException") ∈ lw_tbl := in_t3 _ (List.mem_of_getElem? (i := 123) (by decide +kernel))
theorem tw_3_124 : (Jvm.Cond.methodLink "CueBookLaw" (7 : Nat) ({ cls := "CueBook", name := "addPuppet", desc := "(II)I" } : Jvm.MethodName)) ∈ lw_tbl := in_t3 _ (List.mem_of_getElem? (i := 124) (by decide +kernel))
theorem tw_3_125 : (Jvm.Cond.instanceMethod ({ cls := "CueBook", name := "addPuppet", desc := "(II)I" } : Jvm.MethodName)) ∈ lw_tbl := in_t3 _ (List.mem_of_getElem? (i := 125) (by decide +kernel))
theorem tw_3_126 : (Jvm.Cond.selects "CueBook" ({ cls := "CueBook", name := "addPuppet", desc := "(II)I" } : Jvm.MethodName) ({ cls := "CueBook", name := "addPuppet", desc := "(II)I" } : Jvm.MethodName)) ∈ lw_tbl := in_t3 _ (List.mem_of_getElem? (i := 126) (by decide +kernel))
theorem tw_3_127 : (Jvm.Cond.code ({ cls := "CueBook", name := "addPuppet", desc := "(II)I" } : Jvm.MethodName) prog_1_method_2_code (4 : Nat) (Option.some Jvm.ClassFile.FieldType.int)) ∈ lw_tbl := in_t3 _ (List.mem_of_getElem? (i := 127) (by decide +kernel))
theorem tw_3_128 : (Jvm.Cond.classLink "CueBook" (39 : Nat) "java/lang/IllegalArgumentException") ∈ lw_tbl := in_t3 _ (List.mem_of_getElem? (i := 128) (by decide +kernel))
theorem tw_3_129 : (Jvm.Cond.stringRef "CueBook" (41 : Nat) "the weight is not 1 to 9") ∈ lw_tbl := in_t3 _ (List.mem_of_getElem? (i := 129) (by decide +kernel))
theorem tw_3_130 : (Jvm.Cond.methodLink "CueBook" (43 : Nat) ({ cls := "java/lang/IllegalArgumentException", name := "<init>", desc := "(Ljava/lang/String;)V" } : Jvm.MethodName)) ∈ lw_tbl := in_t3 _ (List.mem_of_getElem? (i := 130) (by decide +kernel))
theorem tw_3_131 : (Jvm.Cond.stringRef "CueBook" (46 : Nat) "the hands are not 1 or 2") ∈ lw_tbl := in_t3 _ (List.mem_of_getElem? (i := 131) (by decide +kernel))
theorem tw_3_132 : (Jvm.Cond.classLink "CueBook" (52 : Nat) "java/lang/IllegalStateException") ∈ lw_tbl := in_t3 _ (List.mem_of_getElem? (i := 132) (by decide +kernel))
theorem tw_3_133 : (Jvm.Cond.instantiable "java/lang/IllegalStateException" (6 : Nat)) ∈ lw_tbl := in_t3 _ (List.mem_of_getElem? (i := 133) (by decide +kernel))
theorem tw_3_134 : (Jvm.Cond.castable "java/lang/IllegalStateException" "java/lang/IllegalStateException") ∈ lw_tbl := in_t3 _ (List.mem_of_getElem? (i := 134) (by decide +kernel))
theorem tw_3_135 : (Jvm.Cond.selects "java/lang/IllegalStateException" ({ cls := "java/lang/Throwable", name := "fillInStackTrace", desc := "(I)Ljava/lang/Throwable;" } : Jvm.MethodName) ({ cls := "java/lang/Throwable", name := "fillInStackTrace", desc := "(I)Ljava/lang/Throwable;" } : Jvm.MethodName)) ∈ lw_tbl := in_t3 _ (List.mem_of_getElem? (i := 135) (by decide +kernel))
theorem tw_3_136 : (Jvm.Cond.lays "java/lang/IllegalStateException" "java/lang/Throwable" "cause" "Ljava/lang/Throwable;") ∈ lw_tbl := in_t3 _ (List.mem_of_getElem? (i := 136) (by decide +kernel))
theorem tw_3_137 : (Jvm.Cond.lays "java/lang/IllegalStateException" "java/lang/Throwable" "stackTrace" "[Ljava/lang/StackTraceElement;") ∈ lw_tbl := in_t3 _ (List.mem_of_getElem? (i := 137) (by decide +kernel))
theorem tw_3_138 : (Jvm.Cond.lays "java/lang/IllegalStateException" "java/lang/Throwable" "suppressedExceptions" "Ljava/util/List;") ∈ lw_tbl := in_t3 _ (List.mem_of_getElem? (i := 138) (by decide +kernel))
theorem tw_3_139 : (Jvm.Cond.lays "java/lang/IllegalStateException" "java/lang/Throwable" "detailMessage" "Ljava/lang/String;") ∈ lw_tbl := in_t3 _ (List.mem_of_getElem? (i := 139) (by decide +kernel))
theorem tw_3_140 : (Jvm.Cond.lays "java/lang/IllegalStateException" "java/lang/Throwable" "backtrace" "Ljava/lang/Object;") ∈ lw_tbl := in_t3 _ (List.mem_of_getElem? (i := 140) (by decide +kernel))
theorem tw_3_141 : (Jvm.Cond.stringRef "CueBook" (54 : Nat) "there are 8 puppets") ∈ lw_tbl := in_t3 _ (List.mem_of_getElem? (i := 141) (by decide +kernel))
theorem tw_3_142 : (Jvm.Cond.methodLink "CueBook" (56 : Nat) ({ cls := "java/lang/IllegalStateException", name := "<init>", desc := "(Ljava/lang/String;)V" } : Jvm.MethodName)) ∈ lw_tbl := in_t3 _ (List.mem_of_getElem? (i := 142) (by decide +kernel))
theorem tw_3_143 : (Jvm.Cond.instanceMethod ({ cls := "java/lang/IllegalStateException", name := "<init>", desc := "(Ljava/lang/String;)V" } : Jvm.MethodName)) ∈ lw_tbl := in_t3 _ (List.mem_of_getElem? (i := 143) (by decide +kernel))
theorem tw_3_144 : (Jvm.Cond.code ({ cls := "java/lang/IllegalStateException", name := "<init>", desc := "(Ljava/lang/String;)V" } : Jvm.MethodName) prog_17_method_2_code (2 : Nat) (Option.none : Option Jvm.ClassFile.FieldType)) ∈ lw_tbl := in_t3 _ (List.mem_of_getElem? (i := 144) (by decide +kernel))
theorem tw_3_145 : (Jvm.Cond.methodLink "java/lang/IllegalStateException" (7 : Nat) ({ cls := "java/lang/RuntimeException", name := "<init>", desc := "(Ljava/lang/String;)V" } : Jvm.MethodName)) ∈ lw_tbl := in_t3 _ (List.mem_of_getElem? (i := 145) (by decide +kernel))
theorem tw_3_146 : (Jvm.Cond.lays "java/lang/IllegalStateException" "java/lang/Throwable" "depth" "I") ∈ lw_tbl := in_t3 _ (List.mem_of_getElem? (i := 146) (by decide +kernel))
theorem tw_3_147 : (Jvm.Cond.superclass "java/lang/IllegalStateException" "java/lang/RuntimeException") ∈ lw_tbl := in_t3 _ (List.mem_of_getElem? (i := 147) (by decide +kernel))
theorem tw_3_148 : (Jvm.Cond.instantiable "CueBook$Puppet" (8 : Nat)) ∈ lw_tbl := in_t3 _ (List.mem_of_getElem? (i := 148) (by decide +kernel))
theorem tw_3_149 : (Jvm.Cond.methodLink "CueBook" (59 : Nat) ({ cls := "CueBook$Puppet", name := "<init>", desc := "(III)V" } : Jvm.MethodName)) ∈ lw_tbl := in_t3 _ (List.mem_of_getElem? (i := 149) (by decide +kernel))
theorem tw_3_150 : (Jvm.Cond.instanceMethod ({ cls := "CueBook$Puppet", name := "<init>", desc := "(III)V" } : Jvm.MethodName)) ∈ lw_tbl := in_t3 _ (List.mem_of_getElem? (i := 150) (by decide +kernel))
theorem tw_3_151 : (Jvm.Cond.code ({ cls := "CueBook$Puppet", name := "<init>", desc := "(III)V" } : Jvm.MethodName) prog_5_method_1_code (4 : Nat) (Option.none : Option Jvm.ClassFile.FieldType)) ∈ lw_tbl := in_t3 _ (List.mem_of_getElem? (i := 151) (by decide +kernel))
theorem tw_3_152 : (Jvm.Cond.methodLink "CueBook$Puppet" (3 : Nat) ({ cls := "java/lang/Object", name := "<init>", desc := "()V" } : Jvm.MethodName)) ∈ lw_tbl := in_t3 _ (List.mem_of_getElem? (i := 152) (by decide +kernel))
theorem tw_3_153 : (Jvm.Cond.classLink "CueBook$Puppet" (9 : Nat) "java/util/ArrayList") ∈ lw_tbl := in_t3 _ (List.mem_of_getElem? (i := 153) (by decide +kernel))
theorem tw_3_154 : (Jvm.Cond.methodLink "CueBook$Puppet" (11 : Nat) ({ cls := "java/util/ArrayList", name := "<init>", desc := "()V" } : Jvm.MethodName)) ∈ lw_tbl := in_t3 _ (List.mem_of_getElem? (i := 154) (by decide +kernel))
theorem tw_3_155 : (Jvm.Cond.methodLink "CueBook$Puppet" (41 : Nat) ({ cls := "java/util/Arrays", name := "fill", desc := "([II)V" } : Jvm.MethodName)) ∈ lw_tbl := in_t3 _ (List.mem_of_getElem? (i := 155) (by decide +kernel))
theorem tw_3_156 : (Jvm.Cond.fieldLink "CueBook$Puppet" (28 : Nat) "CueBook$Puppet" "number" "I") ∈ lw_tbl := in_t3 _ (List.mem_of_getElem? (i := 156) (by decide +kernel))
theorem tw_3_157 : (Jvm.Cond.fieldLink "CueBook" (246 : Nat) "CueBook$Puppet" "number" "I") ∈ lw_tbl := in_t3 _ (List.mem_of_getElem? (i := 157) (by decide +kernel))
theorem tw_3_158 : (Jvm.Cond.fieldLink "CueBook$Puppet" (32 : Nat) "CueBook$Puppet" "bit" "I") ∈ lw_tbl := in_t3 _ (List.mem_of_getElem? (i := 158) (by decide +kernel))
theorem tw_3_159 : (Jvm.Cond.fieldLink "CueBook$Player" (22 : Nat) "CueBook$Puppet" "bit" "I") ∈ lw_tbl := in_t3 _ (List.mem_of_getElem? (i := 159) (by decide +kernel))
theorem tw_3_160 : (Jvm.Cond.fieldLink "CueBook" (141 : Nat) "CueBook$Puppet" "bit" "I") ∈ lw_tbl := in_t3 _ (List.mem_of_getElem? (i := 160) (by decide +kernel))
theorem tw_3_161 : (Jvm.Cond.fieldLink "CueBook$Puppet" (35 : Nat) "CueBook$Puppet" "weight" "I") ∈ lw_tbl := in_t3 _ (List.mem_of_getElem? (i := 161) (by decide +kernel))
theorem tw_3_162 : (Jvm.Cond.fieldLink "CueBook" (318 : Nat) "CueBook$Puppet" "weight" "I") ∈ lw_tbl := in_t3 _ (List.mem_of_getElem? (i := 162) (by decide +kernel))
theorem tw_3_163 : (Jvm.Cond.fieldLink "CueBook$Puppet" (38 : Nat) "CueBook$Puppet" "handsNeeded" "I") ∈ lw_tbl := in_t3 _ (List.mem_of_getElem? (i := 163) (by decide +kernel))
theorem tw_3_164 : (Jvm.Cond.fieldLink "CueBook" (324 : Nat) "CueBook$Puppet" "handsNeeded" "I") ∈ lw_tbl := in_t3 _ (List.mem_of_getElem? (i := 164) (by decide +kernel))
theorem tw_3_165 : (Jvm.Cond.fieldLink "CueBook$Puppet" (12 : Nat) "CueBook$Puppet" "script" "Ljava/util/ArrayList;") ∈ lw_tbl := in_t3 _ (List.mem_of_getElem? (i := 165) (by decide +kernel))
theorem tw_3_166 : (Jvm.Cond.fieldLink "CueBook" (118 : Nat) "CueBook$Puppet" "script" "Ljava/util/ArrayList;") ∈ lw_tbl := in_t3 _ (List.mem_of_getElem? (i := 166) (by decide +kernel))
theorem tw_3_167 : (Jvm.Cond.fieldLink "CueBook$Puppet" (18 : Nat) "CueBook$Puppet" "stayList" "Ljava/util/ArrayList;") ∈ lw_tbl := in_t3 _ (List.mem_of_getElem? (i := 167) (by decide +kernel))
theorem tw_3_168 : (Jvm.Cond.fieldLink "CueBook" (153 : Nat) "CueBook$Puppet" "stayList" "Ljava/util/ArrayList;") ∈ lw_tbl := in_t3 _ (List.mem_of_getElem? (i := 168) (by decide +kernel))
theorem tw_3_169 : (Jvm.Cond.fieldLink "CueBook$Puppet" (21 : Nat) "CueBook$Puppet" "placeAt" "[I") ∈ lw_tbl := in_t3 _ (List.mem_of_getElem? (i := 169) (by decide +kernel))
theorem tw_3_170 : (Jvm.Cond.fieldLink "CueBook" (130 : Nat) "CueBook$Puppet" "placeAt" "[I") ∈ lw_tbl := in_t3 _ (List.mem_of_getElem? (i := 170) (by decide +kernel))
theorem tw_3_171 : (Jvm.Cond.fieldLink "CueBook$Puppet" (25 : Nat) "CueBook$Puppet" "trackAt" "[I") ∈ lw_tbl := in_t3 _ (List.mem_of_getElem? (i := 171) (by decide +kernel))
theorem tw_3_172 : (Jvm.Cond.fieldLink "CueBook" (134 : Nat) "CueBook$Puppet" "trackAt" "[I") ∈ lw_tbl := in_t3 _ (List.mem_of_getElem? (i := 172) (by decide +kernel))
theorem tw_3_173 : (Jvm.Cond.laysFinal "CueBook$Puppet" "CueBook$Puppet" "number" "I") ∈ lw_tbl := in_t3 _ (List.mem_of_getElem? (i := 173) (by decide +kernel))
theorem tw_3_174 : (Jvm.Cond.soleField "CueBook$Puppet" "number") ∈ lw_tbl := in_t3 _ (List.mem_of_getElem? (i := 174) (by decide +kernel))
theorem tw_3_175 : (Jvm.Cond.laysFinal "CueBook$Puppet" "CueBook$Puppet" "bit" "I") ∈ lw_tbl := in_t3 _ (List.mem_of_getElem? (i := 175) (by decide +kernel))
theorem tw_3_176 : (Jvm.Cond.soleField "CueBook$Puppet" "bit") ∈ lw_tbl := in_t3 _ (List.mem_of_getElem? (i := 176) (by decide +kernel))
theorem tw_3_177 : (Jvm.Cond.laysFinal "CueBook$Puppet" "CueBook$Puppet" "weight" "I") ∈ lw_tbl := in_t3 _ (List.mem_of_getElem? (i := 177) (by decide +kernel))
theorem tw_3_178 : (Jvm.Cond.soleField "CueBook$Puppet" "weight") ∈ lw_tbl := in_t3 _ (List.mem_of_getElem? (i := 178) (by decide +kernel))
theorem tw_3_179 : (Jvm.Cond.laysFinal "CueBook$Puppet" "CueBook$Puppet" "handsNeeded" "I") ∈ lw_tbl := in_t3 _ (List.mem_of_getElem? (i := 179) (by decide +kernel))
theorem tw_3_180 : (Jvm.Cond.soleField "CueBook$Puppet" "handsNeeded") ∈ lw_tbl := in_t3 _ (List.mem_of_getElem? (i := 180) (by decide +kernel))
theorem tw_3_181 : (Jvm.Cond.laysFinal "CueBook$Puppet" "CueBook$Puppet" "script" "Ljava/util/ArrayList;") ∈ lw_tbl := in_t3 _ (List.mem_of_getElem? (i := 181) (by decide +kernel))
theorem tw_3_182 : (Jvm.Cond.soleField "CueBook$Puppet" "script") ∈ lw_tbl := in_t3 _ (List.mem_of_getElem? (i := 182) (by decide +kernel))
theorem tw_3_183 : (Jvm.Cond.laysFinal "CueBook$Puppet" "CueBook$Puppet" "stayList" "Ljava/util/ArrayList;") ∈ lw_tbl := in_t3 _ (List.mem_of_getElem? (i := 183) (by decide +kernel))
theorem tw_3_184 : (Jvm.Cond.soleField "CueBook$Puppet" "stayList") ∈ lw_tbl := in_t3 _ (List.mem_of_getElem? (i := 184) (by decide +kernel))
theorem tw_3_185 : (Jvm.Cond.laysFinal "CueBook$Puppet" "CueBook$Puppet" "placeAt" "[I") ∈ lw_tbl := in_t3 _ (List.mem_of_getElem? (i := 185) (by decide +kernel))
theorem tw_3_186 : (Jvm.Cond.soleField "CueBook$Puppet" "placeAt") ∈ lw_tbl := in_t3 _ (List.mem_of_getElem? (i := 186) (by decide +kernel))
theorem tw_3_187 : (Jvm.Cond.laysFinal "CueBook$Puppet" "CueBook$Puppet" "trackAt" "[I") ∈ lw_tbl := in_t3 _ (List.mem_of_getElem? (i := 187) (by decide +kernel))
theorem tw_3_188 : (Jvm.Cond.soleField "CueBook$Puppet" "trackAt") ∈ lw_tbl := in_t3 _ (List.mem_of_getElem? (i := 188) (by decide +kernel))
theorem tw_3_189 : (Jvm.Cond.superclass "CueBook$Puppet" "java/lang/Object") ∈ lw_tbl := in_t3 _ (List.mem_of_getElem? (i := 189) (by decide +kernel))
theorem tw_3_190 : (Jvm.Cond.arrayClass Jvm.ClassFile.FieldType.int) ∈ lw_tbl := in_t3 _ (List.mem_of_getElem? (i := 190) (by decide +kernel))
theorem tw_3_191 : (Jvm.Cond.methodLink "CueBook" (62 : Nat) ({ cls := "java/util/ArrayList", name := "add", desc := "(Ljava/lang/Object;)Z" } : Jvm.MethodName)) ∈ lw_tbl := in_t3 _ (List.mem_of_getElem? (i := 191) (by decide +kernel))
theorem tw_3_192 : (Jvm.Cond.instanceMethod ({ cls := "java/util/ArrayList", name := "add", desc := "(Ljava/lang/Object;)Z" } : Jvm.MethodName)) ∈ lw_tbl := in_t3 _ (List.mem_of_getElem? (i := 192) (by decide +kernel))
theorem tw_3_193 : (Jvm.Cond.selects "java/util/ArrayList" ({ cls := "java/util/ArrayList", name := "add", desc := "(Ljava/lang/Object;)Z" } : Jvm.MethodName) ({ cls := "java/util/ArrayList", name := "add", desc := "(Ljava/lang/Object;)Z" } : Jvm.MethodName)) ∈ lw_tbl := in_t3 _ (List.mem_of_getElem? (i := 193) (by decide +kernel))
theorem tw_3_194 : (Jvm.Cond.code ({ cls := "java/util/ArrayList", name := "add", desc := "(Ljava/lang/Object;)Z" } : Jvm.MethodName) prog_34_method_25_code (2 : Nat) (Option.some Jvm.ClassFile.FieldType.boolean)) ∈ lw_tbl := in_t3 _ (List.mem_of_getElem? (i := 194) (by decide +kernel))
theorem tw_3_195 : (Jvm.Cond.methodLink "java/util/ArrayList" (131 : Nat) ({ cls := "java/util/ArrayList", name := "add", desc := "(Ljava/lang/Object;[Ljava/lang/Object;I)V" } : Jvm.MethodName)) ∈ lw_tbl := in_t3 _ (List.mem_of_getElem? (i := 195) (by decide +kernel))
theorem tw_3_196 : (Jvm.Cond.privateMethod ({ cls := "java/util/ArrayList", name := "add", desc := "(Ljava/lang/Object;[Ljava/lang/Object;I)V" } : Jvm.MethodName)) ∈ lw_tbl := in_t3 _ (List.mem_of_getElem? (i := 196) (by decide +kernel))
theorem tw_3_197 : (Jvm.Cond.instanceMethod ({ cls := "java/util/ArrayList", name := "add", desc := "(Ljava/lang/Object;[Ljava/lang/Object;I)V" } : Jvm.MethodName)) ∈ lw_tbl := in_t3 _ (List.mem_of_getElem? (i := 197) (by decide +kernel))
theorem tw_3_198 : (Jvm.Cond.code ({ cls := "java/util/ArrayList", name := "add", desc := "(Ljava/lang/Object;[Ljava/lang/Object;I)V" } : Jvm.MethodName) prog_34_method_24_code (4 : Nat) (Option.none : Option Jvm.ClassFile.FieldType)) ∈ lw_tbl := in_t3 _ (List.mem_of_getElem? (i := 198) (by decide +kernel))
theorem tw_3_199 : (Jvm.Cond.methodLink "CueBookLaw" (94 : Nat) ({ cls := "CueBookLaw", name := "addPlayer", desc := "(LCueBook;II[J)I" } : Jvm.MethodName)) ∈ lw_tbl := in_t3 _ (List.mem_of_getElem? (i := 199) (by decide +kernel))
theorem tw_3_200 : (Jvm.Cond.static ({ cls := "CueBookLaw", name := "addPlayer", desc := "(LCueBook;II[J)I" } : Jvm.MethodName)) ∈ lw_tbl := in_t3 _ (List.mem_of_getElem? (i := 200) (by decide +kernel))
theorem tw_3_201 : (Jvm.Cond.codeWith ({ cls := "CueBookLaw", name := "addPlayer", desc := "(LCueBook;II[J)I" } : Jvm.MethodName) method_4_code (5 : Nat) (Option.some Jvm.ClassFile.FieldType.int) [((0 : Nat), (10 : Nat), (13 : Nat), (13 : Nat)), ((0 : Nat), (10 : Nat), (17 : Nat), (15 : Nat))]) ∈ lw_tbl := in_t3 _ (List.mem_of_getElem? (i := 201) (by decide +kernel))
theorem tw_3_202 : (Jvm.Cond.methodLink "CueBookLaw" (17 : Nat) ({ cls := "CueBook", name := "addPlayer", desc := "(II)I" } : Jvm.MethodName)) ∈ lw_tbl := in_t3 _ (List.mem_of_getElem? (i := 202) (by decide +kernel))
theorem tw_3_203 : (Jvm.Cond.instanceMethod ({ cls := "CueBook", name := "addPlayer", desc := "(II)I" } : Jvm.MethodName)) ∈ lw_tbl := in_t3 _ (List.mem_of_getElem? (i := 203) (by decide +kernel))
theorem tw_3_204 : (Jvm.Cond.selects "CueBook" ({ cls := "CueBook", name := "addPlayer", desc := "(II)I" } : Jvm.MethodName) ({ cls := "CueBook", name := "addPlayer", desc := "(II)I" } : Jvm.MethodName)) ∈ lw_tbl := in_t3 _ (List.mem_of_getElem? (i := 204) (by decide +kernel))
theorem tw_3_205 : (Jvm.Cond.code ({ cls := "CueBook", name := "addPlayer", desc := "(II)I" } : Jvm.MethodName) prog_1_method_3_code (4 : Nat) (Option.some Jvm.ClassFile.FieldType.int)) ∈ lw_tbl := in_t3 _ (List.mem_of_getElem? (i := 205) (by decide +kernel))
theorem tw_3_206 : (Jvm.Cond.stringRef "CueBook" (66 : Nat) "the strength is not 1 to 20") ∈ lw_tbl := in_t3 _ (List.mem_of_getElem? (i := 206) (by decide +kernel))
theorem tw_3_207 : (Jvm.Cond.methodLink "CueBook" (68 : Nat) ({ cls := "CueBook", name := "requirePlace", desc := "(I)V" } : Jvm.MethodName)) ∈ lw_tbl := in_t3 _ (List.mem_of_getElem? (i := 207) (by decide +kernel))
theorem tw_3_208 : (Jvm.Cond.static ({ cls := "CueBook", name := "requirePlace", desc := "(I)V" } : Jvm.MethodName)) ∈ lw_tbl := in_t3 _ (List.mem_of_getElem? (i := 208) (by decide +kernel))
theorem tw_3_209 : (Jvm.Cond.code ({ cls := "CueBook", name := "requirePlace", desc := "(I)V" } : Jvm.MethodName) prog_1_method_30_code (1 : Nat) (Option.none : Option Jvm.ClassFile.FieldType)) ∈ lw_tbl := in_t3 _ (List.mem_of_getElem? (i := 209) (by decide +kernel))
theorem tw_3_210 : (Jvm.Cond.stringRef "CueBook" (232 : Nat) "the place is not 0 to 19") ∈ lw_tbl := in_t3 _ (List.mem_of_getElem? (i := 210) (by decide +kernel))
theorem tw_3_211 : (Jvm.Cond.stringRef "CueBook" (72 : Nat) "there are 5 players") ∈ lw_tbl := in_t3 _ (List.mem_of_getElem? (i := 211) (by decide +kernel))
theorem tw_3_212 : (Jvm.Cond.instantiable "CueBook$Player" (3 : Nat)) ∈ lw_tbl := in_t3 _ (List.mem_of_getElem? (i := 212) (by decide +kernel))
theorem tw_3_213 : (Jvm.Cond.methodLink "CueBook" (76 : Nat) ({ cls := "CueBook$Player", name := "<init>", desc := "(II)V" } : Jvm.MethodName)) ∈ lw_tbl := in_t3 _ (List.mem_of_getElem? (i := 213) (by decide +kernel))
theorem tw_3_214 : (Jvm.Cond.instanceMethod ({ cls := "CueBook$Player", name := "<init>", desc := "(II)V" } : Jvm.MethodName)) ∈ lw_tbl := in_t3 _ (List.mem_of_getElem? (i := 214) (by decide +kernel))
theorem tw_3_215 : (Jvm.Cond.code ({ cls := "CueBook$Player", name := "<init>", desc := "(II)V" } : Jvm.MethodName) prog_4_method_1_code (3 : Nat) (Option.none : Option Jvm.ClassFile.FieldType)) ∈ lw_tbl := in_t3 _ (List.mem_of_getElem? (i := 215) (by decide +kernel))
theorem tw_3_216 : (Jvm.Cond.methodLink "CueBook$Player" (3 : Nat) ({ cls := "java/lang/Object", name := "<init>", desc := "()V" } : Jvm.MethodName)) ∈ lw_tbl := in_t3 _ (List.mem_of_getElem? (i := 216) (by decide +kernel))
theorem tw_3_217 : (Jvm.Cond.fieldLink "CueBook$Player" (15 : Nat) "CueBook$Player" "strength" "I") ∈ lw_tbl := in_t3 _ (List.mem_of_getElem? (i := 217) (by decide +kernel))
theorem tw_3_218 : (Jvm.Cond.fieldLink "CueBook" (321 : Nat) "CueBook$Player" "strength" "I") ∈ lw_tbl := in_t3 _ (List.mem_of_getElem? (i := 218) (by decide +kernel))
theorem tw_3_219 : (Jvm.Cond.fieldLink "CueBook$Player" (19 : Nat) "CueBook$Player" "placeAtFirst" "I") ∈ lw_tbl := in_t3 _ (List.mem_of_getElem? (i := 219) (by decide +kernel))
theorem tw_3_220 : (Jvm.Cond.fieldLink "CueBook" (311 : Nat) "CueBook$Player" "placeAtFirst" "I") ∈ lw_tbl := in_t3 _ (List.mem_of_getElem? (i := 220) (by decide +kernel))
theorem tw_3_221 : (Jvm.Cond.fieldLink "CueBook$Player" (9 : Nat) "CueBook$Player" "heldAt" "[I") ∈ lw_tbl := in_t3 _ (List.mem_of_getElem? (i := 221) (by decide +kernel))
theorem tw_3_222 : (Jvm.Cond.fieldLink "CueBook" (180 : Nat) "CueBook$Player" "heldAt" "[I") ∈ lw_tbl := in_t3 _ (List.mem_of_getElem? (i := 222) (by decide +kernel))
theorem tw_3_223 : (Jvm.Cond.laysFinal "CueBook$Player" "CueBook$Player" "strength" "I") ∈ lw_tbl := in_t3 _ (List.mem_of_getElem? (i := 223) (by decide +kernel))
theorem tw_3_224 : (Jvm.Cond.soleField "CueBook$Player" "strength") ∈ lw_tbl := in_t3 _ (List.mem_of_getElem? (i := 224) (by decide +kernel))
theorem tw_3_225 : (Jvm.Cond.laysFinal "CueBook$Player" "CueBook$Player" "placeAtFirst" "I") ∈ lw_tbl := in_t3 _ (List.mem_of_getElem? (i := 225) (by decide +kernel))
theorem tw_3_226 : (Jvm.Cond.soleField "CueBook$Player" "placeAtFirst") ∈ lw_tbl := in_t3 _ (List.mem_of_getElem? (i := 226) (by decide +kernel))
theorem tw_3_227 : (Jvm.Cond.laysFinal "CueBook$Player" "CueBook$Player" "heldAt" "[I") ∈ lw_tbl := in_t3 _ (List.mem_of_getElem? (i := 227) (by decide +kernel))
theorem tw_3_228 : (Jvm.Cond.soleField "CueBook$Player" "heldAt") ∈ lw_tbl := in_t3 _ (List.mem_of_getElem? (i := 228) (by decide +kernel))
theorem tw_3_229 : (Jvm.Cond.superclass "CueBook$Player" "java/lang/Object") ∈ lw_tbl := in_t3 _ (List.mem_of_getElem? (i := 229) (by decide +kernel))
theorem tw_3_230 : (Jvm.Cond.methodLink "CueBookLaw" (97 : Nat) ({ cls := "CueBookLaw", name := "enter", desc := "(LCueBook;IIII[J)I" } : Jvm.MethodName)) ∈ lw_tbl := in_t3 _ (List.mem_of_getElem? (i := 230) (by decide +kernel))
theorem tw_3_231 : (Jvm.Cond.static ({ cls := "CueBookLaw", name := "enter", desc := "(LCueBook;IIII[J)I" } : Jvm.MethodName)) ∈ lw_tbl := in_t3 _ (List.mem_of_getElem? (i := 231) (by decide +kernel))
theorem tw_3_232 : (Jvm.Cond.codeWith ({ cls := "CueBookLaw", name := "enter", desc := "(LCueBook;IIII[J)I" } : Jvm.MethodName) method_5_code (7 : Nat) (Option.some Jvm.ClassFile.FieldType.int) [((0 : Nat), (14 : Nat), (17 : Nat), (24 : Nat)), ((0 : Nat), (14 : Nat), (21 : Nat), (13 : Nat)), ((0 : Nat), (14 : Nat), (25 : Nat), (15 : Nat))]) ∈ lw_tbl := in_t3 _ (List.mem_of_getElem? (i := 232) (by decide +kernel))
theorem tw_3_233 : (Jvm.Cond.classLink "CueBookLaw" (24 : Nat) "java/lang/IndexOutOfBoundsException") ∈ lw_tbl := in_t3 _ (List.mem_of_getElem? (i := 233) (by decide +kernel))
theorem tw_3_234 : (Jvm.Cond.methodLink "CueBookLaw" (20 : Nat) ({ cls := "CueBook", name := "enter", desc := "(IIII)I" } : Jvm.MethodName)) ∈ lw_tbl := in_t3 _ (List.mem_of_getElem? (i := 234) (by decide +kernel))
theorem tw_3_235 : (Jvm.Cond.instanceMethod ({ cls := "CueBook", name := "enter", desc := "(IIII)I" } : Jvm.MethodName)) ∈ lw_tbl := in_t3 _ (List.mem_of_getElem? (i := 235) (by decide +kernel))
theorem tw_3_236 : (Jvm.Cond.selects "CueBook" ({ cls := "CueBook", name := "enter", desc := "(IIII)I" } : Jvm.MethodName) ({ cls := "CueBook", name := "enter", desc := "(IIII)I" } : Jvm.MethodName)) ∈ lw_tbl := in_t3 _ (List.mem_of_getElem? (i := 236) (by decide +kernel))
theorem tw_3_237 : (Jvm.Cond.code ({ cls := "CueBook", name := "enter", desc := "(IIII)I" } : Jvm.MethodName) prog_1_method_4_code (6 : Nat) (Option.some Jvm.ClassFile.FieldType.int)) ∈ lw_tbl := in_t3 _ (List.mem_of_getElem? (i := 237) (by decide +kernel))
theorem tw_3_238 : (Jvm.Cond.methodLink "CueBook" (79 : Nat) ({ cls := "CueBook", name := "puppetNumbered", desc := "(I)LCueBook$Puppet;" } : Jvm.MethodName)) ∈ lw_tbl := in_t3 _ (List.mem_of_getElem? (i := 238) (by decide +kernel))
theorem tw_3_239 : (Jvm.Cond.privateMethod ({ cls := "CueBook", name := "puppetNumbered", desc := "(I)LCueBook$Puppet;" } : Jvm.MethodName)) ∈ lw_tbl := in_t3 _ (List.mem_of_getElem? (i := 239) (by decide +kernel))
theorem tw_4_0 : (Jvm.Cond.instanceMethod ({ cls := "CueBook", name := "puppetNumbered", desc := "(I)LCueBook$Puppet;" } : Jvm.MethodName)) ∈ lw_tbl := in_t4 _ (List.mem_of_getElem? (i := 0) (by decide +kernel))
theorem tw_4_1 : (Jvm.Cond.code ({ cls := "CueBook", name := "puppetNumbered", desc := "(I)LCueBook$Puppet;" } : Jvm.MethodName) prog_1_method_26_code (2 : Nat) (Option.some (Jvm.ClassFile.FieldType.object "CueBook$Puppet"))) ∈ lw_tbl := in_t4 _ (List.mem_of_getElem? (i := 1) (by decide +kernel))
theorem tw_4_2 : (Jvm.Cond.stringRef "CueBook" (222 : Nat) "no such puppet") ∈ lw_tbl := in_t4 _ (List.mem_of_getElem? (i := 2) (by decide +kernel))
theorem tw_4_3 : (Jvm.Cond.methodLink "CueBook" (83 : Nat) ({ cls := "CueBook", name := "requireBeat", desc := "(I)V" } : Jvm.MethodName)) ∈ lw_tbl := in_t4 _ (List.mem_of_getElem? (i := 3) (by decide +kernel))
theorem tw_4_4 : (Jvm.Cond.static ({ cls := "CueBook", name := "requireBeat", desc := "(I)V" } : Jvm.MethodName)) ∈ lw_tbl := in_t4 _ (List.mem_of_getElem? (i := 4) (by decide +kernel))
theorem tw_4_5 : (Jvm.Cond.code ({ cls := "CueBook", name := "requireBeat", desc := "(I)V" } : Jvm.MethodName) prog_1_method_29_code (1 : Nat) (Option.none : Option Jvm.ClassFile.FieldType)) ∈ lw_tbl := in_t4 _ (List.mem_of_getElem? (i := 5) (by decide +kernel))
theorem tw_4_6 : (Jvm.Cond.stringRef "CueBook" (230 : Nat) "the beat is not 0 to 999") ∈ lw_tbl := in_t4 _ (List.mem_of_getElem? (i := 6) (by decide +kernel))
theorem tw_4_7 : (Jvm.Cond.methodLink "CueBook" (86 : Nat) ({ cls := "CueBook", name := "requireTrack", desc := "(I)V" } : Jvm.MethodName)) ∈ lw_tbl := in_t4 _ (List.mem_of_getElem? (i := 7) (by decide +kernel))
theorem tw_4_8 : (Jvm.Cond.static ({ cls := "CueBook", name := "requireTrack", desc := "(I)V" } : Jvm.MethodName)) ∈ lw_tbl := in_t4 _ (List.mem_of_getElem? (i := 8) (by decide +kernel))
theorem tw_4_9 : (Jvm.Cond.code ({ cls := "CueBook", name := "requireTrack", desc := "(I)V" } : Jvm.MethodName) prog_1_method_31_code (1 : Nat) (Option.none : Option Jvm.ClassFile.FieldType)) ∈ lw_tbl := in_t4 _ (List.mem_of_getElem? (i := 9) (by decide +kernel))
theorem tw_4_10 : (Jvm.Cond.stringRef "CueBook" (234 : Nat) "the track is not 0 to 3") ∈ lw_tbl := in_t4 _ (List.mem_of_getElem? (i := 10) (by decide +kernel))
theorem tw_4_11 : (Jvm.Cond.instantiable "CueBook$Cue" (9 : Nat)) ∈ lw_tbl := in_t4 _ (List.mem_of_getElem? (i := 11) (by decide +kernel))
theorem tw_4_12 : (Jvm.Cond.methodLink "CueBook" (91 : Nat) ({ cls := "CueBook$Cue", name := "<init>", desc := "(ILCueBook$Puppet;III)V" } : Jvm.MethodName)) ∈ lw_tbl := in_t4 _ (List.mem_of_getElem? (i := 12) (by decide +kernel))
theorem tw_4_13 : (Jvm.Cond.instanceMethod ({ cls := "CueBook$Cue", name := "<init>", desc := "(ILCueBook$Puppet;III)V" } : Jvm.MethodName)) ∈ lw_tbl := in_t4 _ (List.mem_of_getElem? (i := 13) (by decide +kernel))
theorem tw_4_14 : (Jvm.Cond.code ({ cls := "CueBook$Cue", name := "<init>", desc := "(ILCueBook$Puppet;III)V" } : Jvm.MethodName) prog_2_method_1_code (6 : Nat) (Option.none : Option Jvm.ClassFile.FieldType)) ∈ lw_tbl := in_t4 _ (List.mem_of_getElem? (i := 14) (by decide +kernel))
theorem tw_4_15 : (Jvm.Cond.methodLink "CueBook$Cue" (1 : Nat) ({ cls := "java/lang/Object", name := "<init>", desc := "()V" } : Jvm.MethodName)) ∈ lw_tbl := in_t4 _ (List.mem_of_getElem? (i := 15) (by decide +kernel))
theorem tw_4_16 : (Jvm.Cond.fieldLink "CueBook$Cue" (23 : Nat) "CueBook$Cue" "kind" "I") ∈ lw_tbl := in_t4 _ (List.mem_of_getElem? (i := 16) (by decide +kernel))
theorem tw_4_17 : (Jvm.Cond.fieldLink "CueBook$Path" (34 : Nat) "CueBook$Cue" "kind" "I") ∈ lw_tbl := in_t4 _ (List.mem_of_getElem? (i := 17) (by decide +kernel))
theorem tw_4_18 : (Jvm.Cond.fieldLink "CueBook$Puppet" (102 : Nat) "CueBook$Cue" "kind" "I") ∈ lw_tbl := in_t4 _ (List.mem_of_getElem? (i := 18) (by decide +kernel))
theorem tw_4_19 : (Jvm.Cond.fieldLink "CueBook" (243 : Nat) "CueBook$Cue" "kind" "I") ∈ lw_tbl := in_t4 _ (List.mem_of_getElem? (i := 19) (by decide +kernel))
theorem tw_4_20 : (Jvm.Cond.fieldLink "CueBook$Cue" (26 : Nat) "CueBook$Cue" "puppet" "LCueBook$Puppet;") ∈ lw_tbl := in_t4 _ (List.mem_of_getElem? (i := 20) (by decide +kernel))
theorem tw_4_21 : (Jvm.Cond.fieldLink "CueBook" (102 : Nat) "CueBook$Cue" "puppet" "LCueBook$Puppet;") ∈ lw_tbl := in_t4 _ (List.mem_of_getElem? (i := 21) (by decide +kernel))
theorem tw_4_22 : (Jvm.Cond.fieldLink "CueBook$Cue" (30 : Nat) "CueBook$Cue" "beat" "I") ∈ lw_tbl := in_t4 _ (List.mem_of_getElem? (i := 22) (by decide +kernel))
theorem tw_4_23 : (Jvm.Cond.fieldLink "CueBook$Puppet" (57 : Nat) "CueBook$Cue" "beat" "I") ∈ lw_tbl := in_t4 _ (List.mem_of_getElem? (i := 23) (by decide +kernel))
theorem tw_4_24 : (Jvm.Cond.fieldLink "CueBook$Path" (39 : Nat) "CueBook$Cue" "beat" "I") ∈ lw_tbl := in_t4 _ (List.mem_of_getElem? (i := 24) (by decide +kernel))
theorem tw_4_25 : (Jvm.Cond.fieldLink "CueBook" (249 : Nat) "CueBook$Cue" "beat" "I") ∈ lw_tbl := in_t4 _ (List.mem_of_getElem? (i := 25) (by decide +kernel))
theorem tw_4_26 : (Jvm.Cond.fieldLink "CueBook$Cue" (33 : Nat) "CueBook$Cue" "place" "I") ∈ lw_tbl := in_t4 _ (List.mem_of_getElem? (i := 26) (by decide +kernel))
theorem tw_4_27 : (Jvm.Cond.fieldLink "CueBook$Path" (42 : Nat) "CueBook$Cue" "place" "I") ∈ lw_tbl := in_t4 _ (List.mem_of_getElem? (i := 27) (by decide +kernel))
theorem tw_4_28 : (Jvm.Cond.fieldLink "CueBook" (252 : Nat) "CueBook$Cue" "place" "I") ∈ lw_tbl := in_t4 _ (List.mem_of_getElem? (i := 28) (by decide +kernel))
theorem tw_4_29 : (Jvm.Cond.fieldLink "CueBook$Cue" (36 : Nat) "CueBook$Cue" "track" "I") ∈ lw_tbl := in_t4 _ (List.mem_of_getElem? (i := 29) (by decide +kernel))
theorem tw_4_30 : (Jvm.Cond.fieldLink "CueBook$Path" (49 : Nat) "CueBook$Cue" "track" "I") ∈ lw_tbl := in_t4 _ (List.mem_of_getElem? (i := 30) (by decide +kernel))
theorem tw_4_31 : (Jvm.Cond.fieldLink "CueBook" (255 : Nat) "CueBook$Cue" "track" "I") ∈ lw_tbl := in_t4 _ (List.mem_of_getElem? (i := 31) (by decide +kernel))
theorem tw_4_32 : (Jvm.Cond.fieldLink "CueBook$Cue" (7 : Nat) "CueBook$Cue" "isStruck" "Z") ∈ lw_tbl := in_t4 _ (List.mem_of_getElem? (i := 32) (by decide +kernel))
theorem tw_4_33 : (Jvm.Cond.fieldLink "CueBook" (112 : Nat) "CueBook$Cue" "isStruck" "Z") ∈ lw_tbl := in_t4 _ (List.mem_of_getElem? (i := 33) (by decide +kernel))
theorem tw_4_34 : (Jvm.Cond.fieldLink "CueBook$Cue" (13 : Nat) "CueBook$Cue" "notes" "I") ∈ lw_tbl := in_t4 _ (List.mem_of_getElem? (i := 34) (by decide +kernel))
theorem tw_4_35 : (Jvm.Cond.fieldLink "CueBook" (188 : Nat) "CueBook$Cue" "notes" "I") ∈ lw_tbl := in_t4 _ (List.mem_of_getElem? (i := 35) (by decide +kernel))
theorem tw_4_36 : (Jvm.Cond.fieldLink "CueBook$Cue" (17 : Nat) "CueBook$Cue" "sumLate" "I") ∈ lw_tbl := in_t4 _ (List.mem_of_getElem? (i := 36) (by decide +kernel))
theorem tw_4_37 : (Jvm.Cond.fieldLink "CueBook" (193 : Nat) "CueBook$Cue" "sumLate" "I") ∈ lw_tbl := in_t4 _ (List.mem_of_getElem? (i := 37) (by decide +kernel))
theorem tw_4_38 : (Jvm.Cond.fieldLink "CueBook$Cue" (20 : Nat) "CueBook$Cue" "sumOff" "I") ∈ lw_tbl := in_t4 _ (List.mem_of_getElem? (i := 38) (by decide +kernel))
theorem tw_4_39 : (Jvm.Cond.fieldLink "CueBook" (196 : Nat) "CueBook$Cue" "sumOff" "I") ∈ lw_tbl := in_t4 _ (List.mem_of_getElem? (i := 39) (by decide +kernel))
theorem tw_4_40 : (Jvm.Cond.laysFinal "CueBook$Cue" "CueBook$Cue" "kind" "I") ∈ lw_tbl := in_t4 _ (List.mem_of_getElem? (i := 40) (by decide +kernel))
theorem tw_4_41 : (Jvm.Cond.soleField "CueBook$Cue" "kind") ∈ lw_tbl := in_t4 _ (List.mem_of_getElem? (i := 41) (by decide +kernel))
theorem tw_4_42 : (Jvm.Cond.laysFinal "CueBook$Cue" "CueBook$Cue" "puppet" "LCueBook$Puppet;") ∈ lw_tbl := in_t4 _ (List.mem_of_getElem? (i := 42) (by decide +kernel))
theorem tw_4_43 : (Jvm.Cond.soleField "CueBook$Cue" "puppet") ∈ lw_tbl := in_t4 _ (List.mem_of_getElem? (i := 43) (by decide +kernel))
theorem tw_4_44 : (Jvm.Cond.laysFinal "CueBook$Cue" "CueBook$Cue" "beat" "I") ∈ lw_tbl := in_t4 _ (List.mem_of_getElem? (i := 44) (by decide +kernel))
theorem tw_4_45 : (Jvm.Cond.soleField "CueBook$Cue" "beat") ∈ lw_tbl := in_t4 _ (List.mem_of_getElem? (i := 45) (by decide +kernel))
theorem tw_4_46 : (Jvm.Cond.laysFinal "CueBook$Cue" "CueBook$Cue" "place" "I") ∈ lw_tbl := in_t4 _ (List.mem_of_getElem? (i := 46) (by decide +kernel))
theorem tw_4_47 : (Jvm.Cond.soleField "CueBook$Cue" "place") ∈ lw_tbl := in_t4 _ (List.mem_of_getElem? (i := 47) (by decide +kernel))
theorem tw_4_48 : (Jvm.Cond.laysFinal "CueBook$Cue" "CueBook$Cue" "track" "I") ∈ lw_tbl := in_t4 _ (List.mem_of_getElem? (i := 48) (by decide +kernel))
theorem tw_4_49 : (Jvm.Cond.soleField "CueBook$Cue" "track") ∈ lw_tbl := in_t4 _ (List.mem_of_getElem? (i := 49) (by decide +kernel))
theorem tw_4_50 : (Jvm.Cond.lays "CueBook$Cue" "CueBook$Cue" "isStruck" "Z") ∈ lw_tbl := in_t4 _ (List.mem_of_getElem? (i := 50) (by decide +kernel))
theorem tw_4_51 : (Jvm.Cond.soleField "CueBook$Cue" "isStruck") ∈ lw_tbl := in_t4 _ (List.mem_of_getElem? (i := 51) (by decide +kernel))
theorem tw_4_52 : (Jvm.Cond.lays "CueBook$Cue" "CueBook$Cue" "notes" "I") ∈ lw_tbl := in_t4 _ (List.mem_of_getElem? (i := 52) (by decide +kernel))
theorem tw_4_53 : (Jvm.Cond.soleField "CueBook$Cue" "notes") ∈ lw_tbl := in_t4 _ (List.mem_of_getElem? (i := 53) (by decide +kernel))
theorem tw_4_54 : (Jvm.Cond.lays "CueBook$Cue" "CueBook$Cue" "sumLate" "I") ∈ lw_tbl := in_t4 _ (List.mem_of_getElem? (i := 54) (by decide +kernel))
theorem tw_4_55 : (Jvm.Cond.soleField "CueBook$Cue" "sumLate") ∈ lw_tbl := in_t4 _ (List.mem_of_getElem? (i := 55) (by decide +kernel))
theorem tw_4_56 : (Jvm.Cond.lays "CueBook$Cue" "CueBook$Cue" "sumOff" "I") ∈ lw_tbl := in_t4 _ (List.mem_of_getElem? (i := 56) (by decide +kernel))
theorem tw_4_57 : (Jvm.Cond.soleField "CueBook$Cue" "sumOff") ∈ lw_tbl := in_t4 _ (List.mem_of_getElem? (i := 57) (by decide +kernel))
theorem tw_4_58 : (Jvm.Cond.superclass "CueBook$Cue" "java/lang/Object") ∈ lw_tbl := in_t4 _ (List.mem_of_getElem? (i := 58) (by decide +kernel))
theorem tw_4_59 : (Jvm.Cond.methodLink "CueBook" (94 : Nat) ({ cls := "CueBook", name := "write", desc := "(LCueBook$Cue;)I" } : Jvm.MethodName)) ∈ lw_tbl := in_t4 _ (List.mem_of_getElem? (i := 59) (by decide +kernel))
theorem tw_4_60 : (Jvm.Cond.privateMethod ({ cls := "CueBook", name := "write", desc := "(LCueBook$Cue;)I" } : Jvm.MethodName)) ∈ lw_tbl := in_t4 _ (List.mem_of_getElem? (i := 60) (by decide +kernel))
theorem tw_4_61 : (Jvm.Cond.instanceMethod ({ cls := "CueBook", name := "write", desc := "(LCueBook$Cue;)I" } : Jvm.MethodName)) ∈ lw_tbl := in_t4 _ (List.mem_of_getElem? (i := 61) (by decide +kernel))
theorem tw_4_62 : (Jvm.Cond.code ({ cls := "CueBook", name := "write", desc := "(LCueBook$Cue;)I" } : Jvm.MethodName) prog_1_method_32_code (3 : Nat) (Option.some Jvm.ClassFile.FieldType.int)) ∈ lw_tbl := in_t4 _ (List.mem_of_getElem? (i := 62) (by decide +kernel))
theorem tw_4_63 : (Jvm.Cond.stringRef "CueBook" (236 : Nat) "there are 40 cues") ∈ lw_tbl := in_t4 _ (List.mem_of_getElem? (i := 63) (by decide +kernel))
theorem tw_4_64 : (Jvm.Cond.methodLink "CueBook" (238 : Nat) ({ cls := "CueBook$Puppet", name := "takesIn", desc := "(LCueBook$Cue;)Z" } : Jvm.MethodName)) ∈ lw_tbl := in_t4 _ (List.mem_of_getElem? (i := 64) (by decide +kernel))
theorem tw_4_65 : (Jvm.Cond.instanceMethod ({ cls := "CueBook$Puppet", name := "takesIn", desc := "(LCueBook$Cue;)Z" } : Jvm.MethodName)) ∈ lw_tbl := in_t4 _ (List.mem_of_getElem? (i := 65) (by decide +kernel))
theorem tw_4_66 : (Jvm.Cond.selects "CueBook$Puppet" ({ cls := "CueBook$Puppet", name := "takesIn", desc := "(LCueBook$Cue;)Z" } : Jvm.MethodName) ({ cls := "CueBook$Puppet", name := "takesIn", desc := "(LCueBook$Cue;)Z" } : Jvm.MethodName)) ∈ lw_tbl := in_t4 _ (List.mem_of_getElem? (i := 66) (by decide +kernel))
theorem tw_4_67 : (Jvm.Cond.code ({ cls := "CueBook$Puppet", name := "takesIn", desc := "(LCueBook$Cue;)Z" } : Jvm.MethodName) prog_5_method_2_code (3 : Nat) (Option.some Jvm.ClassFile.FieldType.boolean)) ∈ lw_tbl := in_t4 _ (List.mem_of_getElem? (i := 67) (by decide +kernel))
theorem tw_4_68 : (Jvm.Cond.methodLink "CueBook$Puppet" (47 : Nat) ({ cls := "java/util/ArrayList", name := "size", desc := "()I" } : Jvm.MethodName)) ∈ lw_tbl := in_t4 _ (List.mem_of_getElem? (i := 68) (by decide +kernel))
theorem tw_4_69 : (Jvm.Cond.methodLink "CueBook$Puppet" (51 : Nat) ({ cls := "java/util/ArrayList", name := "get", desc := "(I)Ljava/lang/Object;" } : Jvm.MethodName)) ∈ lw_tbl := in_t4 _ (List.mem_of_getElem? (i := 69) (by decide +kernel))
theorem tw_4_70 : (Jvm.Cond.classLink "CueBook$Puppet" (55 : Nat) "CueBook$Cue") ∈ lw_tbl := in_t4 _ (List.mem_of_getElem? (i := 70) (by decide +kernel))
theorem tw_4_71 : (Jvm.Cond.methodLink "CueBook$Puppet" (60 : Nat) ({ cls := "java/util/ArrayList", name := "add", desc := "(ILjava/lang/Object;)V" } : Jvm.MethodName)) ∈ lw_tbl := in_t4 _ (List.mem_of_getElem? (i := 71) (by decide +kernel))
theorem tw_4_72 : (Jvm.Cond.methodLink "CueBook$Puppet" (64 : Nat) ({ cls := "CueBook$Puppet", name := "isScriptRight", desc := "()Z" } : Jvm.MethodName)) ∈ lw_tbl := in_t4 _ (List.mem_of_getElem? (i := 72) (by decide +kernel))
theorem tw_4_73 : (Jvm.Cond.privateMethod ({ cls := "CueBook$Puppet", name := "isScriptRight", desc := "()Z" } : Jvm.MethodName)) ∈ lw_tbl := in_t4 _ (List.mem_of_getElem? (i := 73) (by decide +kernel))
theorem tw_4_74 : (Jvm.Cond.instanceMethod ({ cls := "CueBook$Puppet", name := "isScriptRight", desc := "()Z" } : Jvm.MethodName)) ∈ lw_tbl := in_t4 _ (List.mem_of_getElem? (i := 74) (by decide +kernel))
theorem tw_4_75 : (Jvm.Cond.code ({ cls := "CueBook$Puppet", name := "isScriptRight", desc := "()Z" } : Jvm.MethodName) prog_5_method_4_code (4 : Nat) (Option.some Jvm.ClassFile.FieldType.boolean)) ∈ lw_tbl := in_t4 _ (List.mem_of_getElem? (i := 75) (by decide +kernel))
theorem tw_4_76 : (Jvm.Cond.classLink "CueBook$Puppet" (74 : Nat) "CueBook$Path") ∈ lw_tbl := in_t4 _ (List.mem_of_getElem? (i := 76) (by decide +kernel))
theorem tw_4_77 : (Jvm.Cond.instantiable "CueBook$Path" (7 : Nat)) ∈ lw_tbl := in_t4 _ (List.mem_of_getElem? (i := 77) (by decide +kernel))
theorem tw_4_78 : (Jvm.Cond.methodLinkNest "CueBook$Puppet" (76 : Nat) ({ cls := "CueBook$Path", name := "<init>", desc := "()V" } : Jvm.MethodName) "CueBook") ∈ lw_tbl := in_t4 _ (List.mem_of_getElem? (i := 78) (by decide +kernel))
theorem tw_4_79 : (Jvm.Cond.instanceMethod ({ cls := "CueBook$Path", name := "<init>", desc := "()V" } : Jvm.MethodName)) ∈ lw_tbl := in_t4 _ (List.mem_of_getElem? (i := 79) (by decide +kernel))
theorem tw_4_80 : (Jvm.Cond.code ({ cls := "CueBook$Path", name := "<init>", desc := "()V" } : Jvm.MethodName) prog_3_method_1_code (1 : Nat) (Option.none : Option Jvm.ClassFile.FieldType)) ∈ lw_tbl := in_t4 _ (List.mem_of_getElem? (i := 80) (by decide +kernel))
theorem tw_4_81 : (Jvm.Cond.methodLink "CueBook$Path" (3 : Nat) ({ cls := "java/lang/Object", name := "<init>", desc := "()V" } : Jvm.MethodName)) ∈ lw_tbl := in_t4 _ (List.mem_of_getElem? (i := 81) (by decide +kernel))
theorem tw_4_82 : (Jvm.Cond.fieldLink "CueBook$Path" (9 : Nat) "CueBook$Path" "isOnStage" "Z") ∈ lw_tbl := in_t4 _ (List.mem_of_getElem? (i := 82) (by decide +kernel))
theorem tw_4_83 : (Jvm.Cond.fieldLink "CueBook$Path" (15 : Nat) "CueBook$Path" "enteredAt" "I") ∈ lw_tbl := in_t4 _ (List.mem_of_getElem? (i := 83) (by decide +kernel))
theorem tw_4_84 : (Jvm.Cond.fieldLink "CueBook$Path" (19 : Nat) "CueBook$Path" "track" "I") ∈ lw_tbl := in_t4 _ (List.mem_of_getElem? (i := 84) (by decide +kernel))
theorem tw_4_85 : (Jvm.Cond.fieldLink "CueBook$Path" (22 : Nat) "CueBook$Path" "fromPlace" "I") ∈ lw_tbl := in_t4 _ (List.mem_of_getElem? (i := 85) (by decide +kernel))
theorem tw_4_86 : (Jvm.Cond.fieldLink "CueBook$Path" (25 : Nat) "CueBook$Path" "toPlace" "I") ∈ lw_tbl := in_t4 _ (List.mem_of_getElem? (i := 86) (by decide +kernel))
theorem tw_4_87 : (Jvm.Cond.fieldLink "CueBook$Path" (28 : Nat) "CueBook$Path" "fromBeat" "I") ∈ lw_tbl := in_t4 _ (List.mem_of_getElem? (i := 87) (by decide +kernel))
theorem tw_4_88 : (Jvm.Cond.fieldLink "CueBook$Path" (31 : Nat) "CueBook$Path" "toBeat" "I") ∈ lw_tbl := in_t4 _ (List.mem_of_getElem? (i := 88) (by decide +kernel))
theorem tw_4_89 : (Jvm.Cond.lays "CueBook$Path" "CueBook$Path" "isOnStage" "Z") ∈ lw_tbl := in_t4 _ (List.mem_of_getElem? (i := 89) (by decide +kernel))
theorem tw_4_90 : (Jvm.Cond.soleField "CueBook$Path" "isOnStage") ∈ lw_tbl := in_t4 _ (List.mem_of_getElem? (i := 90) (by decide +kernel))
theorem tw_4_91 : (Jvm.Cond.lays "CueBook$Path" "CueBook$Path" "enteredAt" "I") ∈ lw_tbl := in_t4 _ (List.mem_of_getElem? (i := 91) (by decide +kernel))
theorem tw_4_92 : (Jvm.Cond.soleField "CueBook$Path" "enteredAt") ∈ lw_tbl := in_t4 _ (List.mem_of_getElem? (i := 92) (by decide +kernel))
theorem tw_4_93 : (Jvm.Cond.lays "CueBook$Path" "CueBook$Path" "track" "I") ∈ lw_tbl := in_t4 _ (List.mem_of_getElem? (i := 93) (by decide +kernel))
theorem tw_4_94 : (Jvm.Cond.soleField "CueBook$Path" "track") ∈ lw_tbl := in_t4 _ (List.mem_of_getElem? (i := 94) (by decide +kernel))
theorem tw_4_95 : (Jvm.Cond.lays "CueBook$Path" "CueBook$Path" "fromPlace" "I") ∈ lw_tbl := in_t4 _ (List.mem_of_getElem? (i := 95) (by decide +kernel))
theorem tw_4_96 : (Jvm.Cond.soleField "CueBook$Path" "fromPlace") ∈ lw_tbl := in_t4 _ (List.mem_of_getElem? (i := 96) (by decide +kernel))
theorem tw_4_97 : (Jvm.Cond.lays "CueBook$Path" "CueBook$Path" "toPlace" "I") ∈ lw_tbl := in_t4 _ (List.mem_of_getElem? (i := 97) (by decide +kernel))
theorem tw_4_98 : (Jvm.Cond.soleField "CueBook$Path" "toPlace") ∈ lw_tbl := in_t4 _ (List.mem_of_getElem? (i := 98) (by decide +kernel))
theorem tw_4_99 : (Jvm.Cond.lays "CueBook$Path" "CueBook$Path" "fromBeat" "I") ∈ lw_tbl := in_t4 _ (List.mem_of_getElem? (i := 99) (by decide +kernel))
theorem tw_4_100 : (Jvm.Cond.soleField "CueBook$Path" "fromBeat") ∈ lw_tbl := in_t4 _ (List.mem_of_getElem? (i := 100) (by decide +kernel))
theorem tw_4_101 : (Jvm.Cond.lays "CueBook$Path" "CueBook$Path" "toBeat" "I") ∈ lw_tbl := in_t4 _ (List.mem_of_getElem? (i := 101) (by decide +kernel))
theorem tw_4_102 : (Jvm.Cond.soleField "CueBook$Path" "toBeat") ∈ lw_tbl := in_t4 _ (List.mem_of_getElem? (i := 102) (by decide +kernel))
theorem tw_4_103 : (Jvm.Cond.superclass "CueBook$Path" "java/lang/Object") ∈ lw_tbl := in_t4 _ (List.mem_of_getElem? (i := 103) (by decide +kernel))
theorem tw_4_104 : (Jvm.Cond.methodLink "CueBook$Puppet" (77 : Nat) ({ cls := "CueBook$Path", name := "allows", desc := "(LCueBook$Cue;)Z" } : Jvm.MethodName)) ∈ lw_tbl := in_t4 _ (List.mem_of_getElem? (i := 104) (by decide +kernel))
theorem tw_4_105 : (Jvm.Cond.instanceMethod ({ cls := "CueBook$Path", name := "allows", desc := "(LCueBook$Cue;)Z" } : Jvm.MethodName)) ∈ lw_tbl := in_t4 _ (List.mem_of_getElem? (i := 105) (by decide +kernel))
theorem tw_4_106 : (Jvm.Cond.selects "CueBook$Path" ({ cls := "CueBook$Path", name := "allows", desc := "(LCueBook$Cue;)Z" } : Jvm.MethodName) ({ cls := "CueBook$Path", name := "allows", desc := "(LCueBook$Cue;)Z" } : Jvm.MethodName)) ∈ lw_tbl := in_t4 _ (List.mem_of_getElem? (i := 106) (by decide +kernel))
theorem tw_4_107 : (Jvm.Cond.code ({ cls := "CueBook$Path", name := "allows", desc := "(LCueBook$Cue;)Z" } : Jvm.MethodName) prog_3_method_2_code (2 : Nat) (Option.some Jvm.ClassFile.FieldType.boolean)) ∈ lw_tbl := in_t4 _ (List.mem_of_getElem? (i := 107) (by decide +kernel))
theorem tw_4_108 : (Jvm.Cond.methodLinkNest "CueBook$Path" (45 : Nat) ({ cls := "CueBook", name := "distance", desc := "(II)I" } : Jvm.MethodName) "CueBook") ∈ lw_tbl := in_t4 _ (List.mem_of_getElem? (i := 108) (by decide +kernel))
theorem tw_4_109 : (Jvm.Cond.methodLink "CueBook$Puppet" (81 : Nat) ({ cls := "CueBook$Path", name := "follow", desc := "(LCueBook$Cue;)V" } : Jvm.MethodName)) ∈ lw_tbl := in_t4 _ (List.mem_of_getElem? (i := 109) (by decide +kernel))
theorem tw_4_110 : (Jvm.Cond.instanceMethod ({ cls := "CueBook$Path", name := "follow", desc := "(LCueBook$Cue;)V" } : Jvm.MethodName)) ∈ lw_tbl := in_t4 _ (List.mem_of_getElem? (i := 110) (by decide +kernel))
theorem tw_4_111 : (Jvm.Cond.selects "CueBook$Path" ({ cls := "CueBook$Path", name := "follow", desc := "(LCueBook$Cue;)V" } : Jvm.MethodName) ({ cls := "CueBook$Path", name := "follow", desc := "(LCueBook$Cue;)V" } : Jvm.MethodName)) ∈ lw_tbl := in_t4 _ (List.mem_of_getElem? (i := 111) (by decide +kernel))
theorem tw_4_112 : (Jvm.Cond.code ({ cls := "CueBook$Path", name := "follow", desc := "(LCueBook$Cue;)V" } : Jvm.MethodName) prog_3_method_3_code (2 : Nat) (Option.none : Option Jvm.ClassFile.FieldType)) ∈ lw_tbl := in_t4 _ (List.mem_of_getElem? (i := 112) (by decide +kernel))
theorem tw_4_113 : (Jvm.Cond.methodLink "CueBook$Path" (50 : Nat) ({ cls := "CueBook$Path", name := "walk", desc := "(III)V" } : Jvm.MethodName)) ∈ lw_tbl := in_t4 _ (List.mem_of_getElem? (i := 113) (by decide +kernel))
theorem tw_4_114 : (Jvm.Cond.privateMethod ({ cls := "CueBook$Path", name := "walk", desc := "(III)V" } : Jvm.MethodName)) ∈ lw_tbl := in_t4 _ (List.mem_of_getElem? (i := 114) (by decide +kernel))
theorem tw_4_115 : (Jvm.Cond.instanceMethod ({ cls := "CueBook$Path", name := "walk", desc := "(III)V" } : Jvm.MethodName)) ∈ lw_tbl := in_t4 _ (List.mem_of_getElem? (i := 115) (by decide +kernel))
theorem tw_4_116 : (Jvm.Cond.code ({ cls := "CueBook$Path", name := "walk", desc := "(III)V" } : Jvm.MethodName) prog_3_method_4_code (4 : Nat) (Option.none : Option Jvm.ClassFile.FieldType)) ∈ lw_tbl := in_t4 _ (List.mem_of_getElem? (i := 116) (by decide +kernel))
theorem tw_4_117 : (Jvm.Cond.methodLink "CueBook$Puppet" (68 : Nat) ({ cls := "java/util/ArrayList", name := "remove", desc := "(I)Ljava/lang/Object;" } : Jvm.MethodName)) ∈ lw_tbl := in_t4 _ (List.mem_of_getElem? (i := 117) (by decide +kernel))
theorem tw_4_118 : (Jvm.Cond.instanceMethod ({ cls := "java/util/ArrayList", name := "remove", desc := "(I)Ljava/lang/Object;" } : Jvm.MethodName)) ∈ lw_tbl := in_t4 _ (List.mem_of_getElem? (i := 118) (by decide +kernel))
theorem tw_4_119 : (Jvm.Cond.selects "java/util/ArrayList" ({ cls := "java/util/ArrayList", name := "remove", desc := "(I)Ljava/lang/Object;" } : Jvm.MethodName) ({ cls := "java/util/ArrayList", name := "remove", desc := "(I)Ljava/lang/Object;" } : Jvm.MethodName)) ∈ lw_tbl := in_t4 _ (List.mem_of_getElem? (i := 119) (by decide +kernel))
theorem tw_4_120 : (Jvm.Cond.code ({ cls := "java/util/ArrayList", name := "remove", desc := "(I)Ljava/lang/Object;" } : Jvm.MethodName) prog_34_method_29_code (4 : Nat) (Option.some (Jvm.ClassFile.FieldType.object "java/lang/Object"))) ∈ lw_tbl := in_t4 _ (List.mem_of_getElem? (i := 120) (by decide +kernel))
theorem tw_4_121 : (Jvm.Cond.methodLink "java/util/ArrayList" (144 : Nat) ({ cls := "java/util/ArrayList", name := "fastRemove", desc := "([Ljava/lang/Object;I)V" } : Jvm.MethodName)) ∈ lw_tbl := in_t4 _ (List.mem_of_getElem? (i := 121) (by decide +kernel))
theorem tw_4_122 : (Jvm.Cond.privateMethod ({ cls := "java/util/ArrayList", name := "fastRemove", desc := "([Ljava/lang/Object;I)V" } : Jvm.MethodName)) ∈ lw_tbl := in_t4 _ (List.mem_of_getElem? (i := 122) (by decide +kernel))
theorem tw_4_123 : (Jvm.Cond.instanceMethod ({ cls := "java/util/ArrayList", name := "fastRemove", desc := "([Ljava/lang/Object;I)V" } : Jvm.MethodName)) ∈ lw_tbl := in_t4 _ (List.mem_of_getElem? (i := 123) (by decide +kernel))
theorem tw_4_124 : (Jvm.Cond.code ({ cls := "java/util/ArrayList", name := "fastRemove", desc := "([Ljava/lang/Object;I)V" } : Jvm.MethodName) prog_34_method_39_code (4 : Nat) (Option.none : Option Jvm.ClassFile.FieldType)) ∈ lw_tbl := in_t4 _ (List.mem_of_getElem? (i := 124) (by decide +kernel))
theorem tw_4_125 : (Jvm.Cond.methodLink "CueBook$Puppet" (71 : Nat) ({ cls := "CueBook$Puppet", name := "playScript", desc := "()V" } : Jvm.MethodName)) ∈ lw_tbl := in_t4 _ (List.mem_of_getElem? (i := 125) (by decide +kernel))
theorem tw_4_126 : (Jvm.Cond.privateMethod ({ cls := "CueBook$Puppet", name := "playScript", desc := "()V" } : Jvm.MethodName)) ∈ lw_tbl := in_t4 _ (List.mem_of_getElem? (i := 126) (by decide +kernel))
theorem tw_4_127 : (Jvm.Cond.instanceMethod ({ cls := "CueBook$Puppet", name := "playScript", desc := "()V" } : Jvm.MethodName)) ∈ lw_tbl := in_t4 _ (List.mem_of_getElem? (i := 127) (by decide +kernel))
theorem tw_4_128 : (Jvm.Cond.code ({ cls := "CueBook$Puppet", name := "playScript", desc := "()V" } : Jvm.MethodName) prog_5_method_5_code (5 : Nat) (Option.none : Option Jvm.ClassFile.FieldType)) ∈ lw_tbl := in_t4 _ (List.mem_of_getElem? (i := 128) (by decide +kernel))
theorem tw_4_129 : (Jvm.Cond.methodLink "CueBook$Puppet" (85 : Nat) ({ cls := "java/util/ArrayList", name := "clear", desc := "()V" } : Jvm.MethodName)) ∈ lw_tbl := in_t4 _ (List.mem_of_getElem? (i := 129) (by decide +kernel))
theorem tw_4_130 : (Jvm.Cond.methodLink "CueBook$Puppet" (88 : Nat) ({ cls := "CueBook$Puppet", name := "playBeats", desc := "(LCueBook$Path;II)V" } : Jvm.MethodName)) ∈ lw_tbl := in_t4 _ (List.mem_of_getElem? (i := 130) (by decide +kernel))
theorem tw_4_131 : (Jvm.Cond.privateMethod ({ cls := "CueBook$Puppet", name := "playBeats", desc := "(LCueBook$Path;II)V" } : Jvm.MethodName)) ∈ lw_tbl := in_t4 _ (List.mem_of_getElem? (i := 131) (by decide +kernel))
theorem tw_4_132 : (Jvm.Cond.instanceMethod ({ cls := "CueBook$Puppet", name := "playBeats", desc := "(LCueBook$Path;II)V" } : Jvm.MethodName)) ∈ lw_tbl := in_t4 _ (List.mem_of_getElem? (i := 132) (by decide +kernel))
theorem tw_4_133 : (Jvm.Cond.code ({ cls := "CueBook$Puppet", name := "playBeats", desc := "(LCueBook$Path;II)V" } : Jvm.MethodName) prog_5_method_6_code (5 : Nat) (Option.none : Option Jvm.ClassFile.FieldType)) ∈ lw_tbl := in_t4 _ (List.mem_of_getElem? (i := 133) (by decide +kernel))
theorem tw_4_134 : (Jvm.Cond.methodLink "CueBook$Puppet" (95 : Nat) ({ cls := "CueBook$Path", name := "placeAtBeat", desc := "(I)I" } : Jvm.MethodName)) ∈ lw_tbl := in_t4 _ (List.mem_of_getElem? (i := 134) (by decide +kernel))
theorem tw_4_135 : (Jvm.Cond.instanceMethod ({ cls := "CueBook$Path", name := "placeAtBeat", desc := "(I)I" } : Jvm.MethodName)) ∈ lw_tbl := in_t4 _ (List.mem_of_getElem? (i := 135) (by decide +kernel))
theorem tw_4_136 : (Jvm.Cond.selects "CueBook$Path" ({ cls := "CueBook$Path", name := "placeAtBeat", desc := "(I)I" } : Jvm.MethodName) ({ cls := "CueBook$Path", name := "placeAtBeat", desc := "(I)I" } : Jvm.MethodName)) ∈ lw_tbl := in_t4 _ (List.mem_of_getElem? (i := 136) (by decide +kernel))
theorem tw_4_137 : (Jvm.Cond.code ({ cls := "CueBook$Path", name := "placeAtBeat", desc := "(I)I" } : Jvm.MethodName) prog_3_method_5_code (3 : Nat) (Option.some Jvm.ClassFile.FieldType.int)) ∈ lw_tbl := in_t4 _ (List.mem_of_getElem? (i := 137) (by decide +kernel))
theorem tw_4_138 : (Jvm.Cond.methodLink "CueBook$Puppet" (99 : Nat) ({ cls := "CueBook$Path", name := "trackNow", desc := "()I" } : Jvm.MethodName)) ∈ lw_tbl := in_t4 _ (List.mem_of_getElem? (i := 138) (by decide +kernel))
theorem tw_4_139 : (Jvm.Cond.instanceMethod ({ cls := "CueBook$Path", name := "trackNow", desc := "()I" } : Jvm.MethodName)) ∈ lw_tbl := in_t4 _ (List.mem_of_getElem? (i := 139) (by decide +kernel))
theorem tw_4_140 : (Jvm.Cond.selects "CueBook$Path" ({ cls := "CueBook$Path", name := "trackNow", desc := "()I" } : Jvm.MethodName) ({ cls := "CueBook$Path", name := "trackNow", desc := "()I" } : Jvm.MethodName)) ∈ lw_tbl := in_t4 _ (List.mem_of_getElem? (i := 140) (by decide +kernel))
theorem tw_4_141 : (Jvm.Cond.code ({ cls := "CueBook$Path", name := "trackNow", desc := "()I" } : Jvm.MethodName) prog_3_method_6_code (1 : Nat) (Option.some Jvm.ClassFile.FieldType.int)) ∈ lw_tbl := in_t4 _ (List.mem_of_getElem? (i := 141) (by decide +kernel))
theorem tw_4_142 : (Jvm.Cond.methodLink "CueBook$Puppet" (92 : Nat) ({ cls := "CueBook$Puppet", name := "recordStay", desc := "(LCueBook$Cue;)V" } : Jvm.MethodName)) ∈ lw_tbl := in_t4 _ (List.mem_of_getElem? (i := 142) (by decide +kernel))
theorem tw_4_143 : (Jvm.Cond.privateMethod ({ cls := "CueBook$Puppet", name := "recordStay", desc := "(LCueBook$Cue;)V" } : Jvm.MethodName)) ∈ lw_tbl := in_t4 _ (List.mem_of_getElem? (i := 143) (by decide +kernel))
theorem tw_4_144 : (Jvm.Cond.instanceMethod ({ cls := "CueBook$Puppet", name := "recordStay", desc := "(LCueBook$Cue;)V" } : Jvm.MethodName)) ∈ lw_tbl := in_t4 _ (List.mem_of_getElem? (i := 144) (by decide +kernel))
theorem tw_4_145 : (Jvm.Cond.code ({ cls := "CueBook$Puppet", name := "recordStay", desc := "(LCueBook$Cue;)V" } : Jvm.MethodName) prog_5_method_7_code (2 : Nat) (Option.none : Option Jvm.ClassFile.FieldType)) ∈ lw_tbl := in_t4 _ (List.mem_of_getElem? (i := 145) (by decide +kernel))
theorem tw_4_146 : (Jvm.Cond.classLink "CueBook$Puppet" (105 : Nat) "CueBook$Stay") ∈ lw_tbl := in_t4 _ (List.mem_of_getElem? (i := 146) (by decide +kernel))
theorem tw_4_147 : (Jvm.Cond.instantiable "CueBook$Stay" (4 : Nat)) ∈ lw_tbl := in_t4 _ (List.mem_of_getElem? (i := 147) (by decide +kernel))
theorem tw_4_148 : (Jvm.Cond.methodLink "CueBook$Puppet" (107 : Nat) ({ cls := "CueBook$Stay", name := "<init>", desc := "(LCueBook$Puppet;I)V" } : Jvm.MethodName)) ∈ lw_tbl := in_t4 _ (List.mem_of_getElem? (i := 148) (by decide +kernel))
theorem tw_4_149 : (Jvm.Cond.instanceMethod ({ cls := "CueBook$Stay", name := "<init>", desc := "(LCueBook$Puppet;I)V" } : Jvm.MethodName)) ∈ lw_tbl := in_t4 _ (List.mem_of_getElem? (i := 149) (by decide +kernel))
theorem tw_4_150 : (Jvm.Cond.code ({ cls := "CueBook$Stay", name := "<init>", desc := "(LCueBook$Puppet;I)V" } : Jvm.MethodName) prog_6_method_1_code (3 : Nat) (Option.none : Option Jvm.ClassFile.FieldType)) ∈ lw_tbl := in_t4 _ (List.mem_of_getElem? (i := 150) (by decide +kernel))
theorem tw_4_151 : (Jvm.Cond.methodLink "CueBook$Stay" (3 : Nat) ({ cls := "java/lang/Object", name := "<init>", desc := "()V" } : Jvm.MethodName)) ∈ lw_tbl := in_t4 _ (List.mem_of_getElem? (i := 151) (by decide +kernel))
theorem tw_4_152 : (Jvm.Cond.fieldLink "CueBook$Stay" (18 : Nat) "CueBook$Stay" "puppet" "LCueBook$Puppet;") ∈ lw_tbl := in_t4 _ (List.mem_of_getElem? (i := 152) (by decide +kernel))
theorem tw_4_153 : (Jvm.Cond.fieldLink "CueBook$Player" (41 : Nat) "CueBook$Stay" "puppet" "LCueBook$Puppet;") ∈ lw_tbl := in_t4 _ (List.mem_of_getElem? (i := 153) (by decide +kernel))
theorem tw_4_154 : (Jvm.Cond.fieldLink "CueBook" (298 : Nat) "CueBook$Stay" "puppet" "LCueBook$Puppet;") ∈ lw_tbl := in_t4 _ (List.mem_of_getElem? (i := 154) (by decide +kernel))
theorem tw_4_155 : (Jvm.Cond.fieldLink "CueBook$Stay" (22 : Nat) "CueBook$Stay" "begin" "I") ∈ lw_tbl := in_t4 _ (List.mem_of_getElem? (i := 155) (by decide +kernel))
theorem tw_4_156 : (Jvm.Cond.fieldLink "CueBook$Player" (33 : Nat) "CueBook$Stay" "begin" "I") ∈ lw_tbl := in_t4 _ (List.mem_of_getElem? (i := 156) (by decide +kernel))
theorem tw_4_157 : (Jvm.Cond.fieldLink "CueBook" (161 : Nat) "CueBook$Stay" "begin" "I") ∈ lw_tbl := in_t4 _ (List.mem_of_getElem? (i := 157) (by decide +kernel))
theorem tw_4_158 : (Jvm.Cond.fieldLink "CueBook$Stay" (9 : Nat) "CueBook$Stay" "end" "I") ∈ lw_tbl := in_t4 _ (List.mem_of_getElem? (i := 158) (by decide +kernel))
theorem tw_4_159 : (Jvm.Cond.fieldLink "CueBook$Player" (38 : Nat) "CueBook$Stay" "end" "I") ∈ lw_tbl := in_t4 _ (List.mem_of_getElem? (i := 159) (by decide +kernel))
theorem tw_4_160 : (Jvm.Cond.fieldLink "CueBook$Puppet" (116 : Nat) "CueBook$Stay" "end" "I") ∈ lw_tbl := in_t4 _ (List.mem_of_getElem? (i := 160) (by decide +kernel))
theorem tw_4_161 : (Jvm.Cond.fieldLink "CueBook" (158 : Nat) "CueBook$Stay" "end" "I") ∈ lw_tbl := in_t4 _ (List.mem_of_getElem? (i := 161) (by decide +kernel))
theorem tw_4_162 : (Jvm.Cond.fieldLink "CueBook$Stay" (15 : Nat) "CueBook$Stay" "player" "I") ∈ lw_tbl := in_t4 _ (List.mem_of_getElem? (i := 162) (by decide +kernel))
theorem tw_4_163 : (Jvm.Cond.fieldLink "CueBook" (173 : Nat) "CueBook$Stay" "player" "I") ∈ lw_tbl := in_t4 _ (List.mem_of_getElem? (i := 163) (by decide +kernel))
theorem tw_4_164 : (Jvm.Cond.laysFinal "CueBook$Stay" "CueBook$Stay" "puppet" "LCueBook$Puppet;") ∈ lw_tbl := in_t4 _ (List.mem_of_getElem? (i := 164) (by decide +kernel))
theorem tw_4_165 : (Jvm.Cond.soleField "CueBook$Stay" "puppet") ∈ lw_tbl := in_t4 _ (List.mem_of_getElem? (i := 165) (by decide +kernel))
theorem tw_4_166 : (Jvm.Cond.laysFinal "CueBook$Stay" "CueBook$Stay" "begin" "I") ∈ lw_tbl := in_t4 _ (List.mem_of_getElem? (i := 166) (by decide +kernel))
theorem tw_4_167 : (Jvm.Cond.soleField "CueBook$Stay" "begin") ∈ lw_tbl := in_t4 _ (List.mem_of_getElem? (i := 167) (by decide +kernel))
theorem tw_4_168 : (Jvm.Cond.lays "CueBook$Stay" "CueBook$Stay" "end" "I") ∈ lw_tbl := in_t4 _ (List.mem_of_getElem? (i := 168) (by decide +kernel))
theorem tw_4_169 : (Jvm.Cond.soleField "CueBook$Stay" "end") ∈ lw_tbl := in_t4 _ (List.mem_of_getElem? (i := 169) (by decide +kernel))
theorem tw_4_170 : (Jvm.Cond.lays "CueBook$Stay" "CueBook$Stay" "player" "I") ∈ lw_tbl := in_t4 _ (List.mem_of_getElem? (i := 170) (by decide +kernel))
theorem tw_4_171 : (Jvm.Cond.soleField "CueBook$Stay" "player") ∈ lw_tbl := in_t4 _ (List.mem_of_getElem? (i := 171) (by decide +kernel))
theorem tw_4_172 : (Jvm.Cond.superclass "CueBook$Stay" "java/lang/Object") ∈ lw_tbl := in_t4 _ (List.mem_of_getElem? (i := 172) (by decide +kernel))
theorem tw_4_173 : (Jvm.Cond.methodLink "CueBook$Puppet" (110 : Nat) ({ cls := "java/util/ArrayList", name := "add", desc := "(Ljava/lang/Object;)Z" } : Jvm.MethodName)) ∈ lw_tbl := in_t4 _ (List.mem_of_getElem? (i := 173) (by decide +kernel))
theorem tw_4_174 : (Jvm.Cond.methodLink "CueBook$Puppet" (113 : Nat) ({ cls := "java/util/ArrayList", name := "isEmpty", desc := "()Z" } : Jvm.MethodName)) ∈ lw_tbl := in_t4 _ (List.mem_of_getElem? (i := 174) (by decide +kernel))
theorem tw_4_175 : (Jvm.Cond.instanceMethod ({ cls := "java/util/ArrayList", name := "isEmpty", desc := "()Z" } : Jvm.MethodName)) ∈ lw_tbl := in_t4 _ (List.mem_of_getElem? (i := 175) (by decide +kernel))
theorem tw_4_176 : (Jvm.Cond.selects "java/util/ArrayList" ({ cls := "java/util/ArrayList", name := "isEmpty", desc := "()Z" } : Jvm.MethodName) ({ cls := "java/util/ArrayList", name := "isEmpty", desc := "()Z" } : Jvm.MethodName)) ∈ lw_tbl := in_t4 _ (List.mem_of_getElem? (i := 176) (by decide +kernel))
theorem tw_4_177 : (Jvm.Cond.code ({ cls := "java/util/ArrayList", name := "isEmpty", desc := "()Z" } : Jvm.MethodName) prog_34_method_9_code (1 : Nat) (Option.some Jvm.ClassFile.FieldType.boolean)) ∈ lw_tbl := in_t4 _ (List.mem_of_getElem? (i := 177) (by decide +kernel))
theorem tw_4_178 : (Jvm.Cond.stringRef "CueBook" (241 : Nat) "it, or a cue behind it, would not be right") ∈ lw_tbl := in_t4 _ (List.mem_of_getElem? (i := 178) (by decide +kernel))
theorem tw_4_179 : (Jvm.Cond.methodLink "CueBook" (115 : Nat) ({ cls := "CueBook", name := "forgetWhatWasFound", desc := "()V" } : Jvm.MethodName)) ∈ lw_tbl := in_t4 _ (List.mem_of_getElem? (i := 179) (by decide +kernel))
theorem tw_4_180 : (Jvm.Cond.privateMethod ({ cls := "CueBook", name := "forgetWhatWasFound", desc := "()V" } : Jvm.MethodName)) ∈ lw_tbl := in_t4 _ (List.mem_of_getElem? (i := 180) (by decide +kernel))
theorem tw_4_181 : (Jvm.Cond.instanceMethod ({ cls := "CueBook", name := "forgetWhatWasFound", desc := "()V" } : Jvm.MethodName)) ∈ lw_tbl := in_t4 _ (List.mem_of_getElem? (i := 181) (by decide +kernel))
theorem tw_4_182 : (Jvm.Cond.code ({ cls := "CueBook", name := "forgetWhatWasFound", desc := "()V" } : Jvm.MethodName) prog_1_method_33_code (1 : Nat) (Option.none : Option Jvm.ClassFile.FieldType)) ∈ lw_tbl := in_t4 _ (List.mem_of_getElem? (i := 182) (by decide +kernel))
theorem tw_4_183 : (Jvm.Cond.methodLink "CueBookLaw" (101 : Nat) ({ cls := "CueBookLaw", name := "move", desc := "(LCueBook;III[J)I" } : Jvm.MethodName)) ∈ lw_tbl := in_t4 _ (List.mem_of_getElem? (i := 183) (by decide +kernel))
theorem tw_4_184 : (Jvm.Cond.static ({ cls := "CueBookLaw", name := "move", desc := "(LCueBook;III[J)I" } : Jvm.MethodName)) ∈ lw_tbl := in_t4 _ (List.mem_of_getElem? (i := 184) (by decide +kernel))
theorem tw_4_185 : (Jvm.Cond.codeWith ({ cls := "CueBookLaw", name := "move", desc := "(LCueBook;III[J)I" } : Jvm.MethodName) method_6_code (6 : Nat) (Option.some Jvm.ClassFile.FieldType.int) [((0 : Nat), (12 : Nat), (15 : Nat), (24 : Nat)), ((0 : Nat), (12 : Nat), (19 : Nat), (13 : Nat)), ((0 : Nat), (12 : Nat), (23 : Nat), (15 : Nat))]) ∈ lw_tbl := in_t4 _ (List.mem_of_getElem? (i := 185) (by decide +kernel))
theorem tw_4_186 : (Jvm.Cond.methodLink "CueBookLaw" (26 : Nat) ({ cls := "CueBook", name := "move", desc := "(III)I" } : Jvm.MethodName)) ∈ lw_tbl := in_t4 _ (List.mem_of_getElem? (i := 186) (by decide +kernel))
theorem tw_4_187 : (Jvm.Cond.instanceMethod ({ cls := "CueBook", name := "move", desc := "(III)I" } : Jvm.MethodName)) ∈ lw_tbl := in_t4 _ (List.mem_of_getElem? (i := 187) (by decide +kernel))
theorem tw_4_188 : (Jvm.Cond.selects "CueBook" ({ cls := "CueBook", name := "move", desc := "(III)I" } : Jvm.MethodName) ({ cls := "CueBook", name := "move", desc := "(III)I" } : Jvm.MethodName)) ∈ lw_tbl := in_t4 _ (List.mem_of_getElem? (i := 188) (by decide +kernel))
theorem tw_4_189 : (Jvm.Cond.code ({ cls := "CueBook", name := "move", desc := "(III)I" } : Jvm.MethodName) prog_1_method_5_code (5 : Nat) (Option.some Jvm.ClassFile.FieldType.int)) ∈ lw_tbl := in_t4 _ (List.mem_of_getElem? (i := 189) (by decide +kernel))
theorem tw_4_190 : (Jvm.Cond.methodLink "CueBookLaw" (105 : Nat) ({ cls := "CueBookLaw", name := "shift", desc := "(LCueBook;III[J)I" } : Jvm.MethodName)) ∈ lw_tbl := in_t4 _ (List.mem_of_getElem? (i := 190) (by decide +kernel))
theorem tw_4_191 : (Jvm.Cond.static ({ cls := "CueBookLaw", name := "shift", desc := "(LCueBook;III[J)I" } : Jvm.MethodName)) ∈ lw_tbl := in_t4 _ (List.mem_of_getElem? (i := 191) (by decide +kernel))
theorem tw_4_192 : (Jvm.Cond.codeWith ({ cls := "CueBookLaw", name := "shift", desc := "(LCueBook;III[J)I" } : Jvm.MethodName) method_7_code (6 : Nat) (Option.some Jvm.ClassFile.FieldType.int) [((0 : Nat), (12 : Nat), (15 : Nat), (24 : Nat)), ((0 : Nat), (12 : Nat), (19 : Nat), (13 : Nat)), ((0 : Nat), (12 : Nat), (23 : Nat), (15 : Nat))]) ∈ lw_tbl := in_t4 _ (List.mem_of_getElem? (i := 192) (by decide +kernel))
theorem tw_4_193 : (Jvm.Cond.methodLink "CueBookLaw" (30 : Nat) ({ cls := "CueBook", name := "shift", desc := "(III)I" } : Jvm.MethodName)) ∈ lw_tbl := in_t4 _ (List.mem_of_getElem? (i := 193) (by decide +kernel))
theorem tw_4_194 : (Jvm.Cond.instanceMethod ({ cls := "CueBook", name := "shift", desc := "(III)I" } : Jvm.MethodName)) ∈ lw_tbl := in_t4 _ (List.mem_of_getElem? (i := 194) (by decide +kernel))
theorem tw_4_195 : (Jvm.Cond.selects "CueBook" ({ cls := "CueBook", name := "shift", desc := "(III)I" } : Jvm.MethodName) ({ cls := "CueBook", name := "shift", desc := "(III)I" } : Jvm.MethodName)) ∈ lw_tbl := in_t4 _ (List.mem_of_getElem? (i := 195) (by decide +kernel))
theorem tw_4_196 : (Jvm.Cond.code ({ cls := "CueBook", name := "shift", desc := "(III)I" } : Jvm.MethodName) prog_1_method_6_code (5 : Nat) (Option.some Jvm.ClassFile.FieldType.int)) ∈ lw_tbl := in_t4 _ (List.mem_of_getElem? (i := 196) (by decide +kernel))
theorem tw_4_197 : (Jvm.Cond.methodLink "CueBookLaw" (108 : Nat) ({ cls := "CueBookLaw", name := "leave", desc := "(LCueBook;II[J)I" } : Jvm.MethodName)) ∈ lw_tbl := in_t4 _ (List.mem_of_getElem? (i := 197) (by decide +kernel))
theorem tw_4_198 : (Jvm.Cond.static ({ cls := "CueBookLaw", name := "leave", desc := "(LCueBook;II[J)I" } : Jvm.MethodName)) ∈ lw_tbl := in_t4 _ (List.mem_of_getElem? (i := 198) (by decide +kernel))
theorem tw_4_199 : (Jvm.Cond.codeWith ({ cls := "CueBookLaw", name := "leave", desc := "(LCueBook;II[J)I" } : Jvm.MethodName) method_8_code (5 : Nat) (Option.some Jvm.ClassFile.FieldType.int) [((0 : Nat), (10 : Nat), (13 : Nat), (24 : Nat)), ((0 : Nat), (10 : Nat), (17 : Nat), (13 : Nat)), ((0 : Nat), (10 : Nat), (21 : Nat), (15 : Nat))]) ∈ lw_tbl := in_t4 _ (List.mem_of_getElem? (i := 199) (by decide +kernel))
theorem tw_4_200 : (Jvm.Cond.methodLink "CueBookLaw" (33 : Nat) ({ cls := "CueBook", name := "leave", desc := "(II)I" } : Jvm.MethodName)) ∈ lw_tbl := in_t4 _ (List.mem_of_getElem? (i := 200) (by decide +kernel))
theorem tw_4_201 : (Jvm.Cond.instanceMethod ({ cls := "CueBook", name := "leave", desc := "(II)I" } : Jvm.MethodName)) ∈ lw_tbl := in_t4 _ (List.mem_of_getElem? (i := 201) (by decide +kernel))
theorem tw_4_202 : (Jvm.Cond.selects "CueBook" ({ cls := "CueBook", name := "leave", desc := "(II)I" } : Jvm.MethodName) ({ cls := "CueBook", name := "leave", desc := "(II)I" } : Jvm.MethodName)) ∈ lw_tbl := in_t4 _ (List.mem_of_getElem? (i := 202) (by decide +kernel))
theorem tw_4_203 : (Jvm.Cond.code ({ cls := "CueBook", name := "leave", desc := "(II)I" } : Jvm.MethodName) prog_1_method_7_code (4 : Nat) (Option.some Jvm.ClassFile.FieldType.int)) ∈ lw_tbl := in_t4 _ (List.mem_of_getElem? (i := 203) (by decide +kernel))
theorem tw_4_204 : (Jvm.Cond.methodLink "CueBookLaw" (111 : Nat) ({ cls := "CueBookLaw", name := "strike", desc := "(LCueBook;I[J)I" } : Jvm.MethodName)) ∈ lw_tbl := in_t4 _ (List.mem_of_getElem? (i := 204) (by decide +kernel))
theorem tw_4_205 : (Jvm.Cond.static ({ cls := "CueBookLaw", name := "strike", desc := "(LCueBook;I[J)I" } : Jvm.MethodName)) ∈ lw_tbl := in_t4 _ (List.mem_of_getElem? (i := 205) (by decide +kernel))
theorem tw_4_206 : (Jvm.Cond.codeWith ({ cls := "CueBookLaw", name := "strike", desc := "(LCueBook;I[J)I" } : Jvm.MethodName) method_9_code (4 : Nat) (Option.some Jvm.ClassFile.FieldType.int) [((0 : Nat), (9 : Nat), (12 : Nat), (24 : Nat)), ((0 : Nat), (9 : Nat), (15 : Nat), (15 : Nat))]) ∈ lw_tbl := in_t4 _ (List.mem_of_getElem? (i := 206) (by decide +kernel))
theorem tw_4_207 : (Jvm.Cond.methodLink "CueBookLaw" (36 : Nat) ({ cls := "CueBook", name := "strike", desc := "(I)I" } : Jvm.MethodName)) ∈ lw_tbl := in_t4 _ (List.mem_of_getElem? (i := 207) (by decide +kernel))
theorem tw_4_208 : (Jvm.Cond.instanceMethod ({ cls := "CueBook", name := "strike", desc := "(I)I" } : Jvm.MethodName)) ∈ lw_tbl := in_t4 _ (List.mem_of_getElem? (i := 208) (by decide +kernel))
theorem tw_4_209 : (Jvm.Cond.selects "CueBook" ({ cls := "CueBook", name := "strike", desc := "(I)I" } : Jvm.MethodName) ({ cls := "CueBook", name := "strike", desc := "(I)I" } : Jvm.MethodName)) ∈ lw_tbl := in_t4 _ (List.mem_of_getElem? (i := 209) (by decide +kernel))
theorem tw_4_210 : (Jvm.Cond.code ({ cls := "CueBook", name := "strike", desc := "(I)I" } : Jvm.MethodName) prog_1_method_8_code (3 : Nat) (Option.some Jvm.ClassFile.FieldType.int)) ∈ lw_tbl := in_t4 _ (List.mem_of_getElem? (i := 210) (by decide +kernel))
theorem tw_4_211 : (Jvm.Cond.methodLink "CueBook" (98 : Nat) ({ cls := "CueBook", name := "cueNumbered", desc := "(I)LCueBook$Cue;" } : Jvm.MethodName)) ∈ lw_tbl := in_t4 _ (List.mem_of_getElem? (i := 211) (by decide +kernel))
theorem tw_4_212 : (Jvm.Cond.privateMethod ({ cls := "CueBook", name := "cueNumbered", desc := "(I)LCueBook$Cue;" } : Jvm.MethodName)) ∈ lw_tbl := in_t4 _ (List.mem_of_getElem? (i := 212) (by decide +kernel))
theorem tw_4_213 : (Jvm.Cond.instanceMethod ({ cls := "CueBook", name := "cueNumbered", desc := "(I)LCueBook$Cue;" } : Jvm.MethodName)) ∈ lw_tbl := in_t4 _ (List.mem_of_getElem? (i := 213) (by decide +kernel))
theorem tw_4_214 : (Jvm.Cond.code ({ cls := "CueBook", name := "cueNumbered", desc := "(I)LCueBook$Cue;" } : Jvm.MethodName) prog_1_method_28_code (3 : Nat) (Option.some (Jvm.ClassFile.FieldType.object "CueBook$Cue"))) ∈ lw_tbl := in_t4 _ (List.mem_of_getElem? (i := 214) (by decide +kernel))
theorem tw_4_215 : (Jvm.Cond.stringRef "CueBook" (226 : Nat) "no such cue") ∈ lw_tbl := in_t4 _ (List.mem_of_getElem? (i := 215) (by decide +kernel))
theorem tw_4_216 : (Jvm.Cond.stringRef "CueBook" (228 : Nat) "the cue was struck out") ∈ lw_tbl := in_t4 _ (List.mem_of_getElem? (i := 216) (by decide +kernel))
theorem tw_4_217 : (Jvm.Cond.methodLink "CueBook" (106 : Nat) ({ cls := "CueBook$Puppet", name := "takesOut", desc := "(LCueBook$Cue;)Z" } : Jvm.MethodName)) ∈ lw_tbl := in_t4 _ (List.mem_of_getElem? (i := 217) (by decide +kernel))
theorem tw_4_218 : (Jvm.Cond.instanceMethod ({ cls := "CueBook$Puppet", name := "takesOut", desc := "(LCueBook$Cue;)Z" } : Jvm.MethodName)) ∈ lw_tbl := in_t4 _ (List.mem_of_getElem? (i := 218) (by decide +kernel))
theorem tw_4_219 : (Jvm.Cond.selects "CueBook$Puppet" ({ cls := "CueBook$Puppet", name := "takesOut", desc := "(LCueBook$Cue;)Z" } : Jvm.MethodName) ({ cls := "CueBook$Puppet", name := "takesOut", desc := "(LCueBook$Cue;)Z" } : Jvm.MethodName)) ∈ lw_tbl := in_t4 _ (List.mem_of_getElem? (i := 219) (by decide +kernel))
theorem tw_4_220 : (Jvm.Cond.code ({ cls := "CueBook$Puppet", name := "takesOut", desc := "(LCueBook$Cue;)Z" } : Jvm.MethodName) prog_5_method_3_code (3 : Nat) (Option.some Jvm.ClassFile.FieldType.boolean)) ∈ lw_tbl := in_t4 _ (List.mem_of_getElem? (i := 220) (by decide +kernel))
theorem tw_4_221 : (Jvm.Cond.stringRef "CueBook" (110 : Nat) "another cue would not be right without it") ∈ lw_tbl := in_t4 _ (List.mem_of_getElem? (i := 221) (by decide +kernel))
theorem tw_4_222 : (Jvm.Cond.methodLink "CueBookLaw" (115 : Nat) ({ cls := "CueBookLaw", name := "count", desc := "(LCueBook;I[J)I" } : Jvm.MethodName)) ∈ lw_tbl := in_t4 _ (List.mem_of_getElem? (i := 222) (by decide +kernel))
theorem tw_4_223 : (Jvm.Cond.static ({ cls := "CueBookLaw", name := "count", desc := "(LCueBook;I[J)I" } : Jvm.MethodName)) ∈ lw_tbl := in_t4 _ (List.mem_of_getElem? (i := 223) (by decide +kernel))
theorem tw_4_224 : (Jvm.Cond.codeWith ({ cls := "CueBookLaw", name := "count", desc := "(LCueBook;I[J)I" } : Jvm.MethodName) method_10_code (4 : Nat) (Option.some Jvm.ClassFile.FieldType.int) [((0 : Nat), (9 : Nat), (12 : Nat), (24 : Nat))]) ∈ lw_tbl := in_t4 _ (List.mem_of_getElem? (i := 224) (by decide +kernel))
theorem tw_4_225 : (Jvm.Cond.methodLink "CueBookLaw" (40 : Nat) ({ cls := "CueBook", name := "count", desc := "(I)I" } : Jvm.MethodName)) ∈ lw_tbl := in_t4 _ (List.mem_of_getElem? (i := 225) (by decide +kernel))
theorem tw_4_226 : (Jvm.Cond.instanceMethod ({ cls := "CueBook", name := "count", desc := "(I)I" } : Jvm.MethodName)) ∈ lw_tbl := in_t4 _ (List.mem_of_getElem? (i := 226) (by decide +kernel))
theorem tw_4_227 : (Jvm.Cond.selects "CueBook" ({ cls := "CueBook", name := "count", desc := "(I)I" } : Jvm.MethodName) ({ cls := "CueBook", name := "count", desc := "(I)I" } : Jvm.MethodName)) ∈ lw_tbl := in_t4 _ (List.mem_of_getElem? (i := 227) (by decide +kernel))
theorem tw_4_228 : (Jvm.Cond.code ({ cls := "CueBook", name := "count", desc := "(I)I" } : Jvm.MethodName) prog_1_method_9_code (2 : Nat) (Option.some Jvm.ClassFile.FieldType.int)) ∈ lw_tbl := in_t4 _ (List.mem_of_getElem? (i := 228) (by decide +kernel))
theorem tw_4_229 : (Jvm.Cond.stringRef "CueBook" (123 : Nat) "what is not 0 to 3") ∈ lw_tbl := in_t4 _ (List.mem_of_getElem? (i := 229) (by decide +kernel))
theorem tw_4_230 : (Jvm.Cond.methodLink "CueBookLaw" (118 : Nat) ({ cls := "CueBookLaw", name := "cue", desc := "(LCueBook;II[J)I" } : Jvm.MethodName)) ∈ lw_tbl := in_t4 _ (List.mem_of_getElem? (i := 230) (by decide +kernel))
theorem tw_4_231 : (Jvm.Cond.static ({ cls := "CueBookLaw", name := "cue", desc := "(LCueBook;II[J)I" } : Jvm.MethodName)) ∈ lw_tbl := in_t4 _ (List.mem_of_getElem? (i := 231) (by decide +kernel))
theorem tw_4_232 : (Jvm.Cond.codeWith ({ cls := "CueBookLaw", name := "cue", desc := "(LCueBook;II[J)I" } : Jvm.MethodName) method_11_code (5 : Nat) (Option.some Jvm.ClassFile.FieldType.int) [((0 : Nat), (10 : Nat), (13 : Nat), (24 : Nat))]) ∈ lw_tbl := in_t4 _ (List.mem_of_getElem? (i := 232) (by decide +kernel))
theorem tw_4_233 : (Jvm.Cond.methodLink "CueBookLaw" (43 : Nat) ({ cls := "CueBook", name := "cue", desc := "(II)I" } : Jvm.MethodName)) ∈ lw_tbl := in_t4 _ (List.mem_of_getElem? (i := 233) (by decide +kernel))
theorem tw_4_234 : (Jvm.Cond.instanceMethod ({ cls := "CueBook", name := "cue", desc := "(II)I" } : Jvm.MethodName)) ∈ lw_tbl := in_t4 _ (List.mem_of_getElem? (i := 234) (by decide +kernel))
theorem tw_4_235 : (Jvm.Cond.selects "CueBook" ({ cls := "CueBook", name := "cue", desc := "(II)I" } : Jvm.MethodName) ({ cls := "CueBook", name := "cue", desc := "(II)I" } : Jvm.MethodName)) ∈ lw_tbl := in_t4 _ (List.mem_of_getElem? (i := 235) (by decide +kernel))
theorem tw_4_236 : (Jvm.Cond.code ({ cls := "CueBook", name := "cue", desc := "(II)I" } : Jvm.MethodName) prog_1_method_10_code (3 : Nat) (Option.some Jvm.ClassFile.FieldType.int)) ∈ lw_tbl := in_t4 _ (List.mem_of_getElem? (i := 236) (by decide +kernel))
theorem tw_4_237 : (Jvm.Cond.methodLink "CueBookLaw" (121 : Nat) ({ cls := "CueBookLaw", name := "place", desc := "(LCueBook;II[J)I" } : Jvm.MethodName)) ∈ lw_tbl := in_t4 _ (List.mem_of_getElem? (i := 237) (by decide +kernel))
theorem tw_4_238 : (Jvm.Cond.static ({ cls := "CueBookLaw", name := "place", desc := "(LCueBook;II[J)I" } : Jvm.MethodName)) ∈ lw_tbl := in_t4 _ (List.mem_of_getElem? (i := 238) (by decide +kernel))
theorem tw_4_239 : (Jvm.Cond.codeWith ({ cls := "CueBookLaw", name := "place", desc := "(LCueBook;II[J)I" } : Jvm.MethodName) method_12_code (5 : Nat) (Option.some Jvm.ClassFile.FieldType.int) [((0 : Nat), (10 : Nat), (13 : Nat), (24 : Nat)), ((0 : Nat), (10 : Nat), (17 : Nat), (13 : Nat))]) ∈ lw_tbl := in_t4 _ (List.mem_of_getElem? (i := 239) (by decide +kernel))
theorem tw_5_0 : (Jvm.Cond.methodLink "CueBookLaw" (46 : Nat) ({ cls := "CueBook", name := "place", desc := "(II)I" } : Jvm.MethodName)) ∈ lw_tbl := in_t5 _ (List.mem_of_getElem? (i := 0) (by decide +kernel))
theorem tw_5_1 : (Jvm.Cond.instanceMethod ({ cls := "CueBook", name := "place", desc := "(II)I" } : Jvm.MethodName)) ∈ lw_tbl := in_t5 _ (List.mem_of_getElem? (i := 1) (by decide +kernel))
theorem tw_5_2 : (Jvm.Cond.selects "CueBook" ({ cls := "CueBook", name := "place", desc := "(II)I" } : Jvm.MethodName) ({ cls := "CueBook", name := "place", desc := "(II)I" } : Jvm.MethodName)) ∈ lw_tbl := in_t5 _ (List.mem_of_getElem? (i := 2) (by decide +kernel))
theorem tw_5_3 : (Jvm.Cond.code ({ cls := "CueBook", name := "place", desc := "(II)I" } : Jvm.MethodName) prog_1_method_11_code (4 : Nat) (Option.some Jvm.ClassFile.FieldType.int)) ∈ lw_tbl := in_t5 _ (List.mem_of_getElem? (i := 3) (by decide +kernel))
theorem tw_5_4 : (Jvm.Cond.methodLink "CueBookLaw" (124 : Nat) ({ cls := "CueBookLaw", name := "track", desc := "(LCueBook;II[J)I" } : Jvm.MethodName)) ∈ lw_tbl := in_t5 _ (List.mem_of_getElem? (i := 4) (by decide +kernel))
theorem tw_5_5 : (Jvm.Cond.static ({ cls := "CueBookLaw", name := "track", desc := "(LCueBook;II[J)I" } : Jvm.MethodName)) ∈ lw_tbl := in_t5 _ (List.mem_of_getElem? (i := 5) (by decide +kernel))
theorem tw_5_6 : (Jvm.Cond.codeWith ({ cls := "CueBookLaw", name := "track", desc := "(LCueBook;II[J)I" } : Jvm.MethodName) method_13_code (5 : Nat) (Option.some Jvm.ClassFile.FieldType.int) [((0 : Nat), (10 : Nat), (13 : Nat), (24 : Nat)), ((0 : Nat), (10 : Nat), (17 : Nat), (13 : Nat))]) ∈ lw_tbl := in_t5 _ (List.mem_of_getElem? (i := 6) (by decide +kernel))
theorem tw_5_7 : (Jvm.Cond.methodLink "CueBookLaw" (49 : Nat) ({ cls := "CueBook", name := "track", desc := "(II)I" } : Jvm.MethodName)) ∈ lw_tbl := in_t5 _ (List.mem_of_getElem? (i := 7) (by decide +kernel))
theorem tw_5_8 : (Jvm.Cond.instanceMethod ({ cls := "CueBook", name := "track", desc := "(II)I" } : Jvm.MethodName)) ∈ lw_tbl := in_t5 _ (List.mem_of_getElem? (i := 8) (by decide +kernel))
theorem tw_5_9 : (Jvm.Cond.selects "CueBook" ({ cls := "CueBook", name := "track", desc := "(II)I" } : Jvm.MethodName) ({ cls := "CueBook", name := "track", desc := "(II)I" } : Jvm.MethodName)) ∈ lw_tbl := in_t5 _ (List.mem_of_getElem? (i := 9) (by decide +kernel))
theorem tw_5_10 : (Jvm.Cond.code ({ cls := "CueBook", name := "track", desc := "(II)I" } : Jvm.MethodName) prog_1_method_12_code (4 : Nat) (Option.some Jvm.ClassFile.FieldType.int)) ∈ lw_tbl := in_t5 _ (List.mem_of_getElem? (i := 10) (by decide +kernel))
theorem tw_5_11 : (Jvm.Cond.methodLink "CueBookLaw" (127 : Nat) ({ cls := "CueBookLaw", name := "onStage", desc := "(LCueBook;I[J)I" } : Jvm.MethodName)) ∈ lw_tbl := in_t5 _ (List.mem_of_getElem? (i := 11) (by decide +kernel))
theorem tw_5_12 : (Jvm.Cond.static ({ cls := "CueBookLaw", name := "onStage", desc := "(LCueBook;I[J)I" } : Jvm.MethodName)) ∈ lw_tbl := in_t5 _ (List.mem_of_getElem? (i := 12) (by decide +kernel))
theorem tw_5_13 : (Jvm.Cond.codeWith ({ cls := "CueBookLaw", name := "onStage", desc := "(LCueBook;I[J)I" } : Jvm.MethodName) method_14_code (4 : Nat) (Option.some Jvm.ClassFile.FieldType.int) [((0 : Nat), (9 : Nat), (12 : Nat), (13 : Nat))]) ∈ lw_tbl := in_t5 _ (List.mem_of_getElem? (i := 13) (by decide +kernel))
theorem tw_5_14 : (Jvm.Cond.methodLink "CueBookLaw" (52 : Nat) ({ cls := "CueBook", name := "onStage", desc := "(I)I" } : Jvm.MethodName)) ∈ lw_tbl := in_t5 _ (List.mem_of_getElem? (i := 14) (by decide +kernel))
theorem tw_5_15 : (Jvm.Cond.instanceMethod ({ cls := "CueBook", name := "onStage", desc := "(I)I" } : Jvm.MethodName)) ∈ lw_tbl := in_t5 _ (List.mem_of_getElem? (i := 15) (by decide +kernel))
theorem tw_5_16 : (Jvm.Cond.selects "CueBook" ({ cls := "CueBook", name := "onStage", desc := "(I)I" } : Jvm.MethodName) ({ cls := "CueBook", name := "onStage", desc := "(I)I" } : Jvm.MethodName)) ∈ lw_tbl := in_t5 _ (List.mem_of_getElem? (i := 16) (by decide +kernel))
theorem tw_5_17 : (Jvm.Cond.code ({ cls := "CueBook", name := "onStage", desc := "(I)I" } : Jvm.MethodName) prog_1_method_13_code (5 : Nat) (Option.some Jvm.ClassFile.FieldType.int)) ∈ lw_tbl := in_t5 _ (List.mem_of_getElem? (i := 17) (by decide +kernel))
theorem tw_5_18 : (Jvm.Cond.methodLink "CueBookLaw" (130 : Nat) ({ cls := "CueBookLaw", name := "clash", desc := "(LCueBook;II[J)I" } : Jvm.MethodName)) ∈ lw_tbl := in_t5 _ (List.mem_of_getElem? (i := 18) (by decide +kernel))
theorem tw_5_19 : (Jvm.Cond.static ({ cls := "CueBookLaw", name := "clash", desc := "(LCueBook;II[J)I" } : Jvm.MethodName)) ∈ lw_tbl := in_t5 _ (List.mem_of_getElem? (i := 19) (by decide +kernel))
theorem tw_5_20 : (Jvm.Cond.codeWith ({ cls := "CueBookLaw", name := "clash", desc := "(LCueBook;II[J)I" } : Jvm.MethodName) method_15_code (5 : Nat) (Option.some Jvm.ClassFile.FieldType.int) [((0 : Nat), (10 : Nat), (13 : Nat), (24 : Nat)), ((0 : Nat), (10 : Nat), (17 : Nat), (13 : Nat))]) ∈ lw_tbl := in_t5 _ (List.mem_of_getElem? (i := 20) (by decide +kernel))
theorem tw_5_21 : (Jvm.Cond.methodLink "CueBookLaw" (55 : Nat) ({ cls := "CueBook", name := "clash", desc := "(II)I" } : Jvm.MethodName)) ∈ lw_tbl := in_t5 _ (List.mem_of_getElem? (i := 21) (by decide +kernel))
theorem tw_5_22 : (Jvm.Cond.instanceMethod ({ cls := "CueBook", name := "clash", desc := "(II)I" } : Jvm.MethodName)) ∈ lw_tbl := in_t5 _ (List.mem_of_getElem? (i := 22) (by decide +kernel))
theorem tw_5_23 : (Jvm.Cond.selects "CueBook" ({ cls := "CueBook", name := "clash", desc := "(II)I" } : Jvm.MethodName) ({ cls := "CueBook", name := "clash", desc := "(II)I" } : Jvm.MethodName)) ∈ lw_tbl := in_t5 _ (List.mem_of_getElem? (i := 23) (by decide +kernel))
theorem tw_5_24 : (Jvm.Cond.code ({ cls := "CueBook", name := "clash", desc := "(II)I" } : Jvm.MethodName) prog_1_method_14_code (5 : Nat) (Option.some Jvm.ClassFile.FieldType.int)) ∈ lw_tbl := in_t5 _ (List.mem_of_getElem? (i := 24) (by decide +kernel))
theorem tw_5_25 : (Jvm.Cond.stringRef "CueBook" (144 : Nat) "the puppets are the same") ∈ lw_tbl := in_t5 _ (List.mem_of_getElem? (i := 25) (by decide +kernel))
theorem tw_5_26 : (Jvm.Cond.methodLink "CueBookLaw" (137 : Nat) ({ cls := "CueBookLaw", name := "beats", desc := "(LCueBook;I[J)I" } : Jvm.MethodName)) ∈ lw_tbl := in_t5 _ (List.mem_of_getElem? (i := 26) (by decide +kernel))
theorem tw_5_27 : (Jvm.Cond.static ({ cls := "CueBookLaw", name := "beats", desc := "(LCueBook;I[J)I" } : Jvm.MethodName)) ∈ lw_tbl := in_t5 _ (List.mem_of_getElem? (i := 27) (by decide +kernel))
theorem tw_5_28 : (Jvm.Cond.codeWith ({ cls := "CueBookLaw", name := "beats", desc := "(LCueBook;I[J)I" } : Jvm.MethodName) method_16_code (4 : Nat) (Option.some Jvm.ClassFile.FieldType.int) [((0 : Nat), (9 : Nat), (12 : Nat), (24 : Nat))]) ∈ lw_tbl := in_t5 _ (List.mem_of_getElem? (i := 28) (by decide +kernel))
theorem tw_5_29 : (Jvm.Cond.methodLink "CueBookLaw" (58 : Nat) ({ cls := "CueBook", name := "beats", desc := "(I)I" } : Jvm.MethodName)) ∈ lw_tbl := in_t5 _ (List.mem_of_getElem? (i := 29) (by decide +kernel))
theorem tw_5_30 : (Jvm.Cond.instanceMethod ({ cls := "CueBook", name := "beats", desc := "(I)I" } : Jvm.MethodName)) ∈ lw_tbl := in_t5 _ (List.mem_of_getElem? (i := 30) (by decide +kernel))
theorem tw_5_31 : (Jvm.Cond.selects "CueBook" ({ cls := "CueBook", name := "beats", desc := "(I)I" } : Jvm.MethodName) ({ cls := "CueBook", name := "beats", desc := "(I)I" } : Jvm.MethodName)) ∈ lw_tbl := in_t5 _ (List.mem_of_getElem? (i := 31) (by decide +kernel))
theorem tw_5_32 : (Jvm.Cond.code ({ cls := "CueBook", name := "beats", desc := "(I)I" } : Jvm.MethodName) prog_1_method_16_code (6 : Nat) (Option.some Jvm.ClassFile.FieldType.int)) ∈ lw_tbl := in_t5 _ (List.mem_of_getElem? (i := 32) (by decide +kernel))
theorem tw_5_33 : (Jvm.Cond.methodLink "CueBookLaw" (140 : Nat) ({ cls := "CueBookLaw", name := "stays", desc := "(LCueBook;I[J)I" } : Jvm.MethodName)) ∈ lw_tbl := in_t5 _ (List.mem_of_getElem? (i := 33) (by decide +kernel))
theorem tw_5_34 : (Jvm.Cond.static ({ cls := "CueBookLaw", name := "stays", desc := "(LCueBook;I[J)I" } : Jvm.MethodName)) ∈ lw_tbl := in_t5 _ (List.mem_of_getElem? (i := 34) (by decide +kernel))
theorem tw_5_35 : (Jvm.Cond.codeWith ({ cls := "CueBookLaw", name := "stays", desc := "(LCueBook;I[J)I" } : Jvm.MethodName) method_17_code (4 : Nat) (Option.some Jvm.ClassFile.FieldType.int) [((0 : Nat), (9 : Nat), (12 : Nat), (24 : Nat))]) ∈ lw_tbl := in_t5 _ (List.mem_of_getElem? (i := 35) (by decide +kernel))
theorem tw_5_36 : (Jvm.Cond.methodLink "CueBookLaw" (61 : Nat) ({ cls := "CueBook", name := "stays", desc := "(I)I" } : Jvm.MethodName)) ∈ lw_tbl := in_t5 _ (List.mem_of_getElem? (i := 36) (by decide +kernel))
theorem tw_5_37 : (Jvm.Cond.instanceMethod ({ cls := "CueBook", name := "stays", desc := "(I)I" } : Jvm.MethodName)) ∈ lw_tbl := in_t5 _ (List.mem_of_getElem? (i := 37) (by decide +kernel))
theorem tw_5_38 : (Jvm.Cond.selects "CueBook" ({ cls := "CueBook", name := "stays", desc := "(I)I" } : Jvm.MethodName) ({ cls := "CueBook", name := "stays", desc := "(I)I" } : Jvm.MethodName)) ∈ lw_tbl := in_t5 _ (List.mem_of_getElem? (i := 38) (by decide +kernel))
theorem tw_5_39 : (Jvm.Cond.code ({ cls := "CueBook", name := "stays", desc := "(I)I" } : Jvm.MethodName) prog_1_method_17_code (2 : Nat) (Option.some Jvm.ClassFile.FieldType.int)) ∈ lw_tbl := in_t5 _ (List.mem_of_getElem? (i := 39) (by decide +kernel))
theorem tw_5_40 : (Jvm.Cond.methodLink "CueBookLaw" (143 : Nat) ({ cls := "CueBookLaw", name := "stay", desc := "(LCueBook;III[J)I" } : Jvm.MethodName)) ∈ lw_tbl := in_t5 _ (List.mem_of_getElem? (i := 40) (by decide +kernel))
theorem tw_5_41 : (Jvm.Cond.static ({ cls := "CueBookLaw", name := "stay", desc := "(LCueBook;III[J)I" } : Jvm.MethodName)) ∈ lw_tbl := in_t5 _ (List.mem_of_getElem? (i := 41) (by decide +kernel))
theorem tw_5_42 : (Jvm.Cond.codeWith ({ cls := "CueBookLaw", name := "stay", desc := "(LCueBook;III[J)I" } : Jvm.MethodName) method_18_code (6 : Nat) (Option.some Jvm.ClassFile.FieldType.int) [((0 : Nat), (12 : Nat), (15 : Nat), (24 : Nat))]) ∈ lw_tbl := in_t5 _ (List.mem_of_getElem? (i := 42) (by decide +kernel))
theorem tw_5_43 : (Jvm.Cond.methodLink "CueBookLaw" (64 : Nat) ({ cls := "CueBook", name := "stay", desc := "(III)I" } : Jvm.MethodName)) ∈ lw_tbl := in_t5 _ (List.mem_of_getElem? (i := 43) (by decide +kernel))
theorem tw_5_44 : (Jvm.Cond.instanceMethod ({ cls := "CueBook", name := "stay", desc := "(III)I" } : Jvm.MethodName)) ∈ lw_tbl := in_t5 _ (List.mem_of_getElem? (i := 44) (by decide +kernel))
theorem tw_5_45 : (Jvm.Cond.selects "CueBook" ({ cls := "CueBook", name := "stay", desc := "(III)I" } : Jvm.MethodName) ({ cls := "CueBook", name := "stay", desc := "(III)I" } : Jvm.MethodName)) ∈ lw_tbl := in_t5 _ (List.mem_of_getElem? (i := 45) (by decide +kernel))
theorem tw_5_46 : (Jvm.Cond.code ({ cls := "CueBook", name := "stay", desc := "(III)I" } : Jvm.MethodName) prog_1_method_18_code (5 : Nat) (Option.some Jvm.ClassFile.FieldType.int)) ∈ lw_tbl := in_t5 _ (List.mem_of_getElem? (i := 46) (by decide +kernel))
theorem tw_5_47 : (Jvm.Cond.stringRef "CueBook" (164 : Nat) "no such stay") ∈ lw_tbl := in_t5 _ (List.mem_of_getElem? (i := 47) (by decide +kernel))
theorem tw_5_48 : (Jvm.Cond.methodLink "CueBookLaw" (150 : Nat) ({ cls := "CueBookLaw", name := "hands", desc := "(LCueBook;II[J)I" } : Jvm.MethodName)) ∈ lw_tbl := in_t5 _ (List.mem_of_getElem? (i := 48) (by decide +kernel))
theorem tw_5_49 : (Jvm.Cond.static ({ cls := "CueBookLaw", name := "hands", desc := "(LCueBook;II[J)I" } : Jvm.MethodName)) ∈ lw_tbl := in_t5 _ (List.mem_of_getElem? (i := 49) (by decide +kernel))
theorem tw_5_50 : (Jvm.Cond.codeWith ({ cls := "CueBookLaw", name := "hands", desc := "(LCueBook;II[J)I" } : Jvm.MethodName) method_19_code (5 : Nat) (Option.some Jvm.ClassFile.FieldType.int) [((0 : Nat), (10 : Nat), (13 : Nat), (24 : Nat)), ((0 : Nat), (10 : Nat), (17 : Nat), (13 : Nat))]) ∈ lw_tbl := in_t5 _ (List.mem_of_getElem? (i := 50) (by decide +kernel))
theorem tw_5_51 : (Jvm.Cond.methodLink "CueBookLaw" (67 : Nat) ({ cls := "CueBook", name := "hands", desc := "(II)I" } : Jvm.MethodName)) ∈ lw_tbl := in_t5 _ (List.mem_of_getElem? (i := 51) (by decide +kernel))
theorem tw_5_52 : (Jvm.Cond.instanceMethod ({ cls := "CueBook", name := "hands", desc := "(II)I" } : Jvm.MethodName)) ∈ lw_tbl := in_t5 _ (List.mem_of_getElem? (i := 52) (by decide +kernel))
theorem tw_5_53 : (Jvm.Cond.selects "CueBook" ({ cls := "CueBook", name := "hands", desc := "(II)I" } : Jvm.MethodName) ({ cls := "CueBook", name := "hands", desc := "(II)I" } : Jvm.MethodName)) ∈ lw_tbl := in_t5 _ (List.mem_of_getElem? (i := 53) (by decide +kernel))
theorem tw_5_54 : (Jvm.Cond.code ({ cls := "CueBook", name := "hands", desc := "(II)I" } : Jvm.MethodName) prog_1_method_20_code (4 : Nat) (Option.some Jvm.ClassFile.FieldType.int)) ∈ lw_tbl := in_t5 _ (List.mem_of_getElem? (i := 54) (by decide +kernel))
theorem tw_5_55 : (Jvm.Cond.methodLink "CueBook" (176 : Nat) ({ cls := "CueBook", name := "playerNumbered", desc := "(I)LCueBook$Player;" } : Jvm.MethodName)) ∈ lw_tbl := in_t5 _ (List.mem_of_getElem? (i := 55) (by decide +kernel))
theorem tw_5_56 : (Jvm.Cond.privateMethod ({ cls := "CueBook", name := "playerNumbered", desc := "(I)LCueBook$Player;" } : Jvm.MethodName)) ∈ lw_tbl := in_t5 _ (List.mem_of_getElem? (i := 56) (by decide +kernel))
theorem tw_5_57 : (Jvm.Cond.instanceMethod ({ cls := "CueBook", name := "playerNumbered", desc := "(I)LCueBook$Player;" } : Jvm.MethodName)) ∈ lw_tbl := in_t5 _ (List.mem_of_getElem? (i := 57) (by decide +kernel))
theorem tw_5_58 : (Jvm.Cond.code ({ cls := "CueBook", name := "playerNumbered", desc := "(I)LCueBook$Player;" } : Jvm.MethodName) prog_1_method_27_code (2 : Nat) (Option.some (Jvm.ClassFile.FieldType.object "CueBook$Player"))) ∈ lw_tbl := in_t5 _ (List.mem_of_getElem? (i := 58) (by decide +kernel))
theorem tw_5_59 : (Jvm.Cond.stringRef "CueBook" (224 : Nat) "no such player") ∈ lw_tbl := in_t5 _ (List.mem_of_getElem? (i := 59) (by decide +kernel))
theorem tw_5_60 : (Jvm.Cond.methodLink "CueBookLaw" (153 : Nat) ({ cls := "CueBookLaw", name := "load", desc := "(LCueBook;I[J)I" } : Jvm.MethodName)) ∈ lw_tbl := in_t5 _ (List.mem_of_getElem? (i := 60) (by decide +kernel))
theorem tw_5_61 : (Jvm.Cond.static ({ cls := "CueBookLaw", name := "load", desc := "(LCueBook;I[J)I" } : Jvm.MethodName)) ∈ lw_tbl := in_t5 _ (List.mem_of_getElem? (i := 61) (by decide +kernel))
theorem tw_5_62 : (Jvm.Cond.codeWith ({ cls := "CueBookLaw", name := "load", desc := "(LCueBook;I[J)I" } : Jvm.MethodName) method_20_code (4 : Nat) (Option.some Jvm.ClassFile.FieldType.int) [((0 : Nat), (9 : Nat), (12 : Nat), (24 : Nat))]) ∈ lw_tbl := in_t5 _ (List.mem_of_getElem? (i := 62) (by decide +kernel))
theorem tw_5_63 : (Jvm.Cond.methodLink "CueBookLaw" (70 : Nat) ({ cls := "CueBook", name := "load", desc := "(I)I" } : Jvm.MethodName)) ∈ lw_tbl := in_t5 _ (List.mem_of_getElem? (i := 63) (by decide +kernel))
theorem tw_5_64 : (Jvm.Cond.instanceMethod ({ cls := "CueBook", name := "load", desc := "(I)I" } : Jvm.MethodName)) ∈ lw_tbl := in_t5 _ (List.mem_of_getElem? (i := 64) (by decide +kernel))
theorem tw_5_65 : (Jvm.Cond.selects "CueBook" ({ cls := "CueBook", name := "load", desc := "(I)I" } : Jvm.MethodName) ({ cls := "CueBook", name := "load", desc := "(I)I" } : Jvm.MethodName)) ∈ lw_tbl := in_t5 _ (List.mem_of_getElem? (i := 65) (by decide +kernel))
theorem tw_5_66 : (Jvm.Cond.code ({ cls := "CueBook", name := "load", desc := "(I)I" } : Jvm.MethodName) prog_1_method_21_code (3 : Nat) (Option.some Jvm.ClassFile.FieldType.int)) ∈ lw_tbl := in_t5 _ (List.mem_of_getElem? (i := 66) (by decide +kernel))
theorem tw_5_67 : (Jvm.Cond.methodLink "CueBookLaw" (156 : Nat) ({ cls := "CueBookLaw", name := "note", desc := "(LCueBook;II[J)I" } : Jvm.MethodName)) ∈ lw_tbl := in_t5 _ (List.mem_of_getElem? (i := 67) (by decide +kernel))
theorem tw_5_68 : (Jvm.Cond.static ({ cls := "CueBookLaw", name := "note", desc := "(LCueBook;II[J)I" } : Jvm.MethodName)) ∈ lw_tbl := in_t5 _ (List.mem_of_getElem? (i := 68) (by decide +kernel))
theorem tw_5_69 : (Jvm.Cond.codeWith ({ cls := "CueBookLaw", name := "note", desc := "(LCueBook;II[J)I" } : Jvm.MethodName) method_21_code (5 : Nat) (Option.some Jvm.ClassFile.FieldType.int) [((0 : Nat), (10 : Nat), (13 : Nat), (24 : Nat)), ((0 : Nat), (10 : Nat), (17 : Nat), (13 : Nat)), ((0 : Nat), (10 : Nat), (21 : Nat), (15 : Nat))]) ∈ lw_tbl := in_t5 _ (List.mem_of_getElem? (i := 69) (by decide +kernel))
theorem tw_5_70 : (Jvm.Cond.methodLink "CueBookLaw" (73 : Nat) ({ cls := "CueBook", name := "note", desc := "(II)I" } : Jvm.MethodName)) ∈ lw_tbl := in_t5 _ (List.mem_of_getElem? (i := 70) (by decide +kernel))
theorem tw_5_71 : (Jvm.Cond.instanceMethod ({ cls := "CueBook", name := "note", desc := "(II)I" } : Jvm.MethodName)) ∈ lw_tbl := in_t5 _ (List.mem_of_getElem? (i := 71) (by decide +kernel))
theorem tw_5_72 : (Jvm.Cond.selects "CueBook" ({ cls := "CueBook", name := "note", desc := "(II)I" } : Jvm.MethodName) ({ cls := "CueBook", name := "note", desc := "(II)I" } : Jvm.MethodName)) ∈ lw_tbl := in_t5 _ (List.mem_of_getElem? (i := 72) (by decide +kernel))
theorem tw_5_73 : (Jvm.Cond.code ({ cls := "CueBook", name := "note", desc := "(II)I" } : Jvm.MethodName) prog_1_method_22_code (4 : Nat) (Option.some Jvm.ClassFile.FieldType.int)) ∈ lw_tbl := in_t5 _ (List.mem_of_getElem? (i := 73) (by decide +kernel))
theorem tw_5_74 : (Jvm.Cond.stringRef "CueBook" (186 : Nat) "late is not -50 to 50") ∈ lw_tbl := in_t5 _ (List.mem_of_getElem? (i := 74) (by decide +kernel))
theorem tw_5_75 : (Jvm.Cond.stringRef "CueBook" (191 : Nat) "it was noted 20 times") ∈ lw_tbl := in_t5 _ (List.mem_of_getElem? (i := 75) (by decide +kernel))
theorem tw_5_76 : (Jvm.Cond.methodLink "CueBookLaw" (159 : Nat) ({ cls := "CueBookLaw", name := "mean", desc := "(LCueBook;I[D)I" } : Jvm.MethodName)) ∈ lw_tbl := in_t5 _ (List.mem_of_getElem? (i := 76) (by decide +kernel))
theorem tw_5_77 : (Jvm.Cond.static ({ cls := "CueBookLaw", name := "mean", desc := "(LCueBook;I[D)I" } : Jvm.MethodName)) ∈ lw_tbl := in_t5 _ (List.mem_of_getElem? (i := 77) (by decide +kernel))
theorem tw_5_78 : (Jvm.Cond.codeWith ({ cls := "CueBookLaw", name := "mean", desc := "(LCueBook;I[D)I" } : Jvm.MethodName) method_22_code (4 : Nat) (Option.some Jvm.ClassFile.FieldType.int) [((0 : Nat), (8 : Nat), (11 : Nat), (24 : Nat))]) ∈ lw_tbl := in_t5 _ (List.mem_of_getElem? (i := 78) (by decide +kernel))
theorem tw_5_79 : (Jvm.Cond.methodLink "CueBookLaw" (76 : Nat) ({ cls := "CueBook", name := "mean", desc := "(I)D" } : Jvm.MethodName)) ∈ lw_tbl := in_t5 _ (List.mem_of_getElem? (i := 79) (by decide +kernel))
theorem tw_5_80 : (Jvm.Cond.instanceMethod ({ cls := "CueBook", name := "mean", desc := "(I)D" } : Jvm.MethodName)) ∈ lw_tbl := in_t5 _ (List.mem_of_getElem? (i := 80) (by decide +kernel))
theorem tw_5_81 : (Jvm.Cond.selects "CueBook" ({ cls := "CueBook", name := "mean", desc := "(I)D" } : Jvm.MethodName) ({ cls := "CueBook", name := "mean", desc := "(I)D" } : Jvm.MethodName)) ∈ lw_tbl := in_t5 _ (List.mem_of_getElem? (i := 81) (by decide +kernel))
theorem tw_5_82 : (Jvm.Cond.code ({ cls := "CueBook", name := "mean", desc := "(I)D" } : Jvm.MethodName) prog_1_method_23_code (3 : Nat) (Option.some Jvm.ClassFile.FieldType.double)) ∈ lw_tbl := in_t5 _ (List.mem_of_getElem? (i := 82) (by decide +kernel))
theorem tw_5_83 : (Jvm.Cond.classLink "CueBookLaw" (81 : Nat) "CueBookModel") ∈ lw_tbl := in_t5 _ (List.mem_of_getElem? (i := 83) (by decide +kernel))
theorem tw_5_84 : (Jvm.Cond.instantiable "CueBookModel" (22 : Nat)) ∈ lw_tbl := in_t5 _ (List.mem_of_getElem? (i := 84) (by decide +kernel))
theorem tw_5_85 : (Jvm.Cond.methodLink "CueBookLaw" (83 : Nat) ({ cls := "CueBookModel", name := "<init>", desc := "()V" } : Jvm.MethodName)) ∈ lw_tbl := in_t5 _ (List.mem_of_getElem? (i := 85) (by decide +kernel))
theorem tw_5_86 : (Jvm.Cond.instanceMethod ({ cls := "CueBookModel", name := "<init>", desc := "()V" } : Jvm.MethodName)) ∈ lw_tbl := in_t5 _ (List.mem_of_getElem? (i := 86) (by decide +kernel))
theorem tw_5_87 : (Jvm.Cond.code ({ cls := "CueBookModel", name := "<init>", desc := "()V" } : Jvm.MethodName) prog_8_method_1_code (1 : Nat) (Option.none : Option Jvm.ClassFile.FieldType)) ∈ lw_tbl := in_t5 _ (List.mem_of_getElem? (i := 87) (by decide +kernel))
theorem tw_5_88 : (Jvm.Cond.methodLink "CueBookModel" (1 : Nat) ({ cls := "java/lang/Object", name := "<init>", desc := "()V" } : Jvm.MethodName)) ∈ lw_tbl := in_t5 _ (List.mem_of_getElem? (i := 88) (by decide +kernel))
theorem tw_5_89 : (Jvm.Cond.fieldLink "CueBookModel" (59 : Nat) "CueBookModel" "thrown" "I") ∈ lw_tbl := in_t5 _ (List.mem_of_getElem? (i := 89) (by decide +kernel))
theorem tw_5_90 : (Jvm.Cond.fieldLink "CueBookModel" (63 : Nat) "CueBookModel" "puppets" "I") ∈ lw_tbl := in_t5 _ (List.mem_of_getElem? (i := 90) (by decide +kernel))
theorem tw_5_91 : (Jvm.Cond.fieldLink "CueBookModel" (9 : Nat) "CueBookModel" "weights" "[I") ∈ lw_tbl := in_t5 _ (List.mem_of_getElem? (i := 91) (by decide +kernel))
theorem tw_5_92 : (Jvm.Cond.fieldLink "CueBookModel" (13 : Nat) "CueBookModel" "needs" "[I") ∈ lw_tbl := in_t5 _ (List.mem_of_getElem? (i := 92) (by decide +kernel))
theorem tw_5_93 : (Jvm.Cond.fieldLink "CueBookModel" (70 : Nat) "CueBookModel" "players" "I") ∈ lw_tbl := in_t5 _ (List.mem_of_getElem? (i := 93) (by decide +kernel))
theorem tw_5_94 : (Jvm.Cond.fieldLink "CueBookModel" (16 : Nat) "CueBookModel" "strengths" "[I") ∈ lw_tbl := in_t5 _ (List.mem_of_getElem? (i := 94) (by decide +kernel))
theorem tw_5_95 : (Jvm.Cond.fieldLink "CueBookModel" (19 : Nat) "CueBookModel" "homes" "[I") ∈ lw_tbl := in_t5 _ (List.mem_of_getElem? (i := 95) (by decide +kernel))
theorem tw_5_96 : (Jvm.Cond.fieldLink "CueBookModel" (81 : Nat) "CueBookModel" "cues" "I") ∈ lw_tbl := in_t5 _ (List.mem_of_getElem? (i := 96) (by decide +kernel))
theorem tw_5_97 : (Jvm.Cond.fieldLink "CueBookModel" (22 : Nat) "CueBookModel" "table" "[I") ∈ lw_tbl := in_t5 _ (List.mem_of_getElem? (i := 97) (by decide +kernel))
theorem tw_5_98 : (Jvm.Cond.fieldLink "CueBookModel" (25 : Nat) "CueBookModel" "areStruck" "[Z") ∈ lw_tbl := in_t5 _ (List.mem_of_getElem? (i := 98) (by decide +kernel))
theorem tw_5_99 : (Jvm.Cond.fieldLink "CueBookModel" (123 : Nat) "CueBookModel" "struck" "I") ∈ lw_tbl := in_t5 _ (List.mem_of_getElem? (i := 99) (by decide +kernel))
theorem tw_5_100 : (Jvm.Cond.fieldLink "CueBookModel" (29 : Nat) "CueBookModel" "noted" "[I") ∈ lw_tbl := in_t5 _ (List.mem_of_getElem? (i := 100) (by decide +kernel))
theorem tw_5_101 : (Jvm.Cond.fieldLink "CueBookModel" (32 : Nat) "CueBookModel" "sums" "[I") ∈ lw_tbl := in_t5 _ (List.mem_of_getElem? (i := 101) (by decide +kernel))
theorem tw_5_102 : (Jvm.Cond.fieldLink "CueBookModel" (35 : Nat) "CueBookModel" "greatness" "[I") ∈ lw_tbl := in_t5 _ (List.mem_of_getElem? (i := 102) (by decide +kernel))
theorem tw_5_103 : (Jvm.Cond.fieldLink "CueBookModel" (77 : Nat) "CueBookModel" "isFresh" "Z") ∈ lw_tbl := in_t5 _ (List.mem_of_getElem? (i := 103) (by decide +kernel))
theorem tw_5_104 : (Jvm.Cond.fieldLink "CueBookModel" (38 : Nat) "CueBookModel" "places" "[I") ∈ lw_tbl := in_t5 _ (List.mem_of_getElem? (i := 104) (by decide +kernel))
theorem tw_5_105 : (Jvm.Cond.fieldLink "CueBookModel" (41 : Nat) "CueBookModel" "tracks" "[I") ∈ lw_tbl := in_t5 _ (List.mem_of_getElem? (i := 105) (by decide +kernel))
theorem tw_5_106 : (Jvm.Cond.fieldLink "CueBookModel" (44 : Nat) "CueBookModel" "stays" "[I") ∈ lw_tbl := in_t5 _ (List.mem_of_getElem? (i := 106) (by decide +kernel))
theorem tw_5_107 : (Jvm.Cond.fieldLink "CueBookModel" (47 : Nat) "CueBookModel" "manyStays" "[I") ∈ lw_tbl := in_t5 _ (List.mem_of_getElem? (i := 107) (by decide +kernel))
theorem tw_5_108 : (Jvm.Cond.fieldLink "CueBookModel" (50 : Nat) "CueBookModel" "begins" "[I") ∈ lw_tbl := in_t5 _ (List.mem_of_getElem? (i := 108) (by decide +kernel))
theorem tw_5_109 : (Jvm.Cond.fieldLink "CueBookModel" (53 : Nat) "CueBookModel" "ends" "[I") ∈ lw_tbl := in_t5 _ (List.mem_of_getElem? (i := 109) (by decide +kernel))
theorem tw_5_110 : (Jvm.Cond.fieldLink "CueBookModel" (56 : Nat) "CueBookModel" "cast" "[I") ∈ lw_tbl := in_t5 _ (List.mem_of_getElem? (i := 110) (by decide +kernel))
theorem tw_5_111 : (Jvm.Cond.lays "CueBookModel" "CueBookModel" "thrown" "I") ∈ lw_tbl := in_t5 _ (List.mem_of_getElem? (i := 111) (by decide +kernel))
theorem tw_5_112 : (Jvm.Cond.soleField "CueBookModel" "thrown") ∈ lw_tbl := in_t5 _ (List.mem_of_getElem? (i := 112) (by decide +kernel))
theorem tw_5_113 : (Jvm.Cond.lays "CueBookModel" "CueBookModel" "puppets" "I") ∈ lw_tbl := in_t5 _ (List.mem_of_getElem? (i := 113) (by decide +kernel))
theorem tw_5_114 : (Jvm.Cond.soleField "CueBookModel" "puppets") ∈ lw_tbl := in_t5 _ (List.mem_of_getElem? (i := 114) (by decide +kernel))
theorem tw_5_115 : (Jvm.Cond.laysFinal "CueBookModel" "CueBookModel" "weights" "[I") ∈ lw_tbl := in_t5 _ (List.mem_of_getElem? (i := 115) (by decide +kernel))
theorem tw_5_116 : (Jvm.Cond.soleField "CueBookModel" "weights") ∈ lw_tbl := in_t5 _ (List.mem_of_getElem? (i := 116) (by decide +kernel))
theorem tw_5_117 : (Jvm.Cond.laysFinal "CueBookModel" "CueBookModel" "needs" "[I") ∈ lw_tbl := in_t5 _ (List.mem_of_getElem? (i := 117) (by decide +kernel))
theorem tw_5_118 : (Jvm.Cond.soleField "CueBookModel" "needs") ∈ lw_tbl := in_t5 _ (List.mem_of_getElem? (i := 118) (by decide +kernel))
theorem tw_5_119 : (Jvm.Cond.lays "CueBookModel" "CueBookModel" "players" "I") ∈ lw_tbl := in_t5 _ (List.mem_of_getElem? (i := 119) (by decide +kernel))
theorem tw_5_120 : (Jvm.Cond.soleField "CueBookModel" "players") ∈ lw_tbl := in_t5 _ (List.mem_of_getElem? (i := 120) (by decide +kernel))
theorem tw_5_121 : (Jvm.Cond.laysFinal "CueBookModel" "CueBookModel" "strengths" "[I") ∈ lw_tbl := in_t5 _ (List.mem_of_getElem? (i := 121) (by decide +kernel))
theorem tw_5_122 : (Jvm.Cond.soleField "CueBookModel" "strengths") ∈ lw_tbl := in_t5 _ (List.mem_of_getElem? (i := 122) (by decide +kernel))
theorem tw_5_123 : (Jvm.Cond.laysFinal "CueBookModel" "CueBookModel" "homes" "[I") ∈ lw_tbl := in_t5 _ (List.mem_of_getElem? (i := 123) (by decide +kernel))
theorem tw_5_124 : (Jvm.Cond.soleField "CueBookModel" "homes") ∈ lw_tbl := in_t5 _ (List.mem_of_getElem? (i := 124) (by decide +kernel))
theorem tw_5_125 : (Jvm.Cond.lays "CueBookModel" "CueBookModel" "cues" "I") ∈ lw_tbl := in_t5 _ (List.mem_of_getElem? (i := 125) (by decide +kernel))
theorem tw_5_126 : (Jvm.Cond.soleField "CueBookModel" "cues") ∈ lw_tbl := in_t5 _ (List.mem_of_getElem? (i := 126) (by decide +kernel))
theorem tw_5_127 : (Jvm.Cond.laysFinal "CueBookModel" "CueBookModel" "table" "[I") ∈ lw_tbl := in_t5 _ (List.mem_of_getElem? (i := 127) (by decide +kernel))
theorem tw_5_128 : (Jvm.Cond.soleField "CueBookModel" "table") ∈ lw_tbl := in_t5 _ (List.mem_of_getElem? (i := 128) (by decide +kernel))
theorem tw_5_129 : (Jvm.Cond.laysFinal "CueBookModel" "CueBookModel" "areStruck" "[Z") ∈ lw_tbl := in_t5 _ (List.mem_of_getElem? (i := 129) (by decide +kernel))
theorem tw_5_130 : (Jvm.Cond.soleField "CueBookModel" "areStruck") ∈ lw_tbl := in_t5 _ (List.mem_of_getElem? (i := 130) (by decide +kernel))
theorem tw_5_131 : (Jvm.Cond.lays "CueBookModel" "CueBookModel" "struck" "I") ∈ lw_tbl := in_t5 _ (List.mem_of_getElem? (i := 131) (by decide +kernel))
theorem tw_5_132 : (Jvm.Cond.soleField "CueBookModel" "struck") ∈ lw_tbl := in_t5 _ (List.mem_of_getElem? (i := 132) (by decide +kernel))
theorem tw_5_133 : (Jvm.Cond.laysFinal "CueBookModel" "CueBookModel" "noted" "[I") ∈ lw_tbl := in_t5 _ (List.mem_of_getElem? (i := 133) (by decide +kernel))
theorem tw_5_134 : (Jvm.Cond.soleField "CueBookModel" "noted") ∈ lw_tbl := in_t5 _ (List.mem_of_getElem? (i := 134) (by decide +kernel))
theorem tw_5_135 : (Jvm.Cond.laysFinal "CueBookModel" "CueBookModel" "sums" "[I") ∈ lw_tbl := in_t5 _ (List.mem_of_getElem? (i := 135) (by decide +kernel))
theorem tw_5_136 : (Jvm.Cond.soleField "CueBookModel" "sums") ∈ lw_tbl := in_t5 _ (List.mem_of_getElem? (i := 136) (by decide +kernel))
theorem tw_5_137 : (Jvm.Cond.laysFinal "CueBookModel" "CueBookModel" "greatness" "[I") ∈ lw_tbl := in_t5 _ (List.mem_of_getElem? (i := 137) (by decide +kernel))
theorem tw_5_138 : (Jvm.Cond.soleField "CueBookModel" "greatness") ∈ lw_tbl := in_t5 _ (List.mem_of_getElem? (i := 138) (by decide +kernel))
theorem tw_5_139 : (Jvm.Cond.lays "CueBookModel" "CueBookModel" "isFresh" "Z") ∈ lw_tbl := in_t5 _ (List.mem_of_getElem? (i := 139) (by decide +kernel))
theorem tw_5_140 : (Jvm.Cond.soleField "CueBookModel" "isFresh") ∈ lw_tbl := in_t5 _ (List.mem_of_getElem? (i := 140) (by decide +kernel))
theorem tw_5_141 : (Jvm.Cond.laysFinal "CueBookModel" "CueBookModel" "places" "[I") ∈ lw_tbl := in_t5 _ (List.mem_of_getElem? (i := 141) (by decide +kernel))
theorem tw_5_142 : (Jvm.Cond.soleField "CueBookModel" "places") ∈ lw_tbl := in_t5 _ (List.mem_of_getElem? (i := 142) (by decide +kernel))
theorem tw_5_143 : (Jvm.Cond.laysFinal "CueBookModel" "CueBookModel" "tracks" "[I") ∈ lw_tbl := in_t5 _ (List.mem_of_getElem? (i := 143) (by decide +kernel))
theorem tw_5_144 : (Jvm.Cond.soleField "CueBookModel" "tracks") ∈ lw_tbl := in_t5 _ (List.mem_of_getElem? (i := 144) (by decide +kernel))
theorem tw_5_145 : (Jvm.Cond.laysFinal "CueBookModel" "CueBookModel" "stays" "[I") ∈ lw_tbl := in_t5 _ (List.mem_of_getElem? (i := 145) (by decide +kernel))
theorem tw_5_146 : (Jvm.Cond.soleField "CueBookModel" "stays") ∈ lw_tbl := in_t5 _ (List.mem_of_getElem? (i := 146) (by decide +kernel))
theorem tw_5_147 : (Jvm.Cond.laysFinal "CueBookModel" "CueBookModel" "manyStays" "[I") ∈ lw_tbl := in_t5 _ (List.mem_of_getElem? (i := 147) (by decide +kernel))
theorem tw_5_148 : (Jvm.Cond.soleField "CueBookModel" "manyStays") ∈ lw_tbl := in_t5 _ (List.mem_of_getElem? (i := 148) (by decide +kernel))
theorem tw_5_149 : (Jvm.Cond.laysFinal "CueBookModel" "CueBookModel" "begins" "[I") ∈ lw_tbl := in_t5 _ (List.mem_of_getElem? (i := 149) (by decide +kernel))
theorem tw_5_150 : (Jvm.Cond.soleField "CueBookModel" "begins") ∈ lw_tbl := in_t5 _ (List.mem_of_getElem? (i := 150) (by decide +kernel))
theorem tw_5_151 : (Jvm.Cond.laysFinal "CueBookModel" "CueBookModel" "ends" "[I") ∈ lw_tbl := in_t5 _ (List.mem_of_getElem? (i := 151) (by decide +kernel))
theorem tw_5_152 : (Jvm.Cond.soleField "CueBookModel" "ends") ∈ lw_tbl := in_t5 _ (List.mem_of_getElem? (i := 152) (by decide +kernel))
theorem tw_5_153 : (Jvm.Cond.laysFinal "CueBookModel" "CueBookModel" "cast" "[I") ∈ lw_tbl := in_t5 _ (List.mem_of_getElem? (i := 153) (by decide +kernel))
theorem tw_5_154 : (Jvm.Cond.soleField "CueBookModel" "cast") ∈ lw_tbl := in_t5 _ (List.mem_of_getElem? (i := 154) (by decide +kernel))
theorem tw_5_155 : (Jvm.Cond.superclass "CueBookModel" "java/lang/Object") ∈ lw_tbl := in_t5 _ (List.mem_of_getElem? (i := 155) (by decide +kernel))
theorem tw_5_156 : (Jvm.Cond.arrayClass Jvm.ClassFile.FieldType.boolean) ∈ lw_tbl := in_t5 _ (List.mem_of_getElem? (i := 156) (by decide +kernel))
theorem tw_5_157 : (Jvm.Cond.methodLink "CueBookLaw" (90 : Nat) ({ cls := "CueBookModel", name := "thrown", desc := "()I" } : Jvm.MethodName)) ∈ lw_tbl := in_t5 _ (List.mem_of_getElem? (i := 157) (by decide +kernel))
theorem tw_5_158 : (Jvm.Cond.instanceMethod ({ cls := "CueBookModel", name := "thrown", desc := "()I" } : Jvm.MethodName)) ∈ lw_tbl := in_t5 _ (List.mem_of_getElem? (i := 158) (by decide +kernel))
theorem tw_5_159 : (Jvm.Cond.selects "CueBookModel" ({ cls := "CueBookModel", name := "thrown", desc := "()I" } : Jvm.MethodName) ({ cls := "CueBookModel", name := "thrown", desc := "()I" } : Jvm.MethodName)) ∈ lw_tbl := in_t5 _ (List.mem_of_getElem? (i := 159) (by decide +kernel))
theorem tw_5_160 : (Jvm.Cond.code ({ cls := "CueBookModel", name := "thrown", desc := "()I" } : Jvm.MethodName) prog_8_method_2_code (1 : Nat) (Option.some Jvm.ClassFile.FieldType.int)) ∈ lw_tbl := in_t5 _ (List.mem_of_getElem? (i := 160) (by decide +kernel))
theorem tw_5_161 : (Jvm.Cond.methodLink "CueBookLaw" (89 : Nat) ({ cls := "CueBookModel", name := "addPuppet", desc := "(II)I" } : Jvm.MethodName)) ∈ lw_tbl := in_t5 _ (List.mem_of_getElem? (i := 161) (by decide +kernel))
theorem tw_5_162 : (Jvm.Cond.instanceMethod ({ cls := "CueBookModel", name := "addPuppet", desc := "(II)I" } : Jvm.MethodName)) ∈ lw_tbl := in_t5 _ (List.mem_of_getElem? (i := 162) (by decide +kernel))
theorem tw_5_163 : (Jvm.Cond.selects "CueBookModel" ({ cls := "CueBookModel", name := "addPuppet", desc := "(II)I" } : Jvm.MethodName) ({ cls := "CueBookModel", name := "addPuppet", desc := "(II)I" } : Jvm.MethodName)) ∈ lw_tbl := in_t5 _ (List.mem_of_getElem? (i := 163) (by decide +kernel))
theorem tw_5_164 : (Jvm.Cond.code ({ cls := "CueBookModel", name := "addPuppet", desc := "(II)I" } : Jvm.MethodName) prog_8_method_8_code (3 : Nat) (Option.some Jvm.ClassFile.FieldType.int)) ∈ lw_tbl := in_t5 _ (List.mem_of_getElem? (i := 164) (by decide +kernel))
theorem tw_5_165 : (Jvm.Cond.methodLink "CueBookModel" (66 : Nat) ({ cls := "CueBookModel", name := "isIn", desc := "(III)Z" } : Jvm.MethodName)) ∈ lw_tbl := in_t5 _ (List.mem_of_getElem? (i := 165) (by decide +kernel))
theorem tw_5_166 : (Jvm.Cond.static ({ cls := "CueBookModel", name := "isIn", desc := "(III)Z" } : Jvm.MethodName)) ∈ lw_tbl := in_t5 _ (List.mem_of_getElem? (i := 166) (by decide +kernel))
theorem tw_5_167 : (Jvm.Cond.code ({ cls := "CueBookModel", name := "isIn", desc := "(III)Z" } : Jvm.MethodName) prog_8_method_4_code (3 : Nat) (Option.some Jvm.ClassFile.FieldType.boolean)) ∈ lw_tbl := in_t5 _ (List.mem_of_getElem? (i := 167) (by decide +kernel))
theorem tw_5_168 : (Jvm.Cond.methodLink "CueBookModel" (73 : Nat) ({ cls := "CueBookModel", name := "fail", desc := "(I)I" } : Jvm.MethodName)) ∈ lw_tbl := in_t5 _ (List.mem_of_getElem? (i := 168) (by decide +kernel))
theorem tw_5_169 : (Jvm.Cond.privateMethod ({ cls := "CueBookModel", name := "fail", desc := "(I)I" } : Jvm.MethodName)) ∈ lw_tbl := in_t5 _ (List.mem_of_getElem? (i := 169) (by decide +kernel))
theorem tw_5_170 : (Jvm.Cond.instanceMethod ({ cls := "CueBookModel", name := "fail", desc := "(I)I" } : Jvm.MethodName)) ∈ lw_tbl := in_t5 _ (List.mem_of_getElem? (i := 170) (by decide +kernel))
theorem tw_5_171 : (Jvm.Cond.code ({ cls := "CueBookModel", name := "fail", desc := "(I)I" } : Jvm.MethodName) prog_8_method_3_code (2 : Nat) (Option.some Jvm.ClassFile.FieldType.int)) ∈ lw_tbl := in_t5 _ (List.mem_of_getElem? (i := 171) (by decide +kernel))
theorem tw_5_172 : (Jvm.Cond.methodLink "CueBookLaw" (96 : Nat) ({ cls := "CueBookModel", name := "addPlayer", desc := "(II)I" } : Jvm.MethodName)) ∈ lw_tbl := in_t5 _ (List.mem_of_getElem? (i := 172) (by decide +kernel))
theorem tw_5_173 : (Jvm.Cond.instanceMethod ({ cls := "CueBookModel", name := "addPlayer", desc := "(II)I" } : Jvm.MethodName)) ∈ lw_tbl := in_t5 _ (List.mem_of_getElem? (i := 173) (by decide +kernel))
theorem tw_5_174 : (Jvm.Cond.selects "CueBookModel" ({ cls := "CueBookModel", name := "addPlayer", desc := "(II)I" } : Jvm.MethodName) ({ cls := "CueBookModel", name := "addPlayer", desc := "(II)I" } : Jvm.MethodName)) ∈ lw_tbl := in_t5 _ (List.mem_of_getElem? (i := 174) (by decide +kernel))
theorem tw_5_175 : (Jvm.Cond.code ({ cls := "CueBookModel", name := "addPlayer", desc := "(II)I" } : Jvm.MethodName) prog_8_method_9_code (3 : Nat) (Option.some Jvm.ClassFile.FieldType.int)) ∈ lw_tbl := in_t5 _ (List.mem_of_getElem? (i := 175) (by decide +kernel))
theorem tw_5_176 : (Jvm.Cond.methodLink "CueBookLaw" (100 : Nat) ({ cls := "CueBookModel", name := "enter", desc := "(IIII)I" } : Jvm.MethodName)) ∈ lw_tbl := in_t5 _ (List.mem_of_getElem? (i := 176) (by decide +kernel))
theorem tw_5_177 : (Jvm.Cond.instanceMethod ({ cls := "CueBookModel", name := "enter", desc := "(IIII)I" } : Jvm.MethodName)) ∈ lw_tbl := in_t5 _ (List.mem_of_getElem? (i := 177) (by decide +kernel))
theorem tw_5_178 : (Jvm.Cond.selects "CueBookModel" ({ cls := "CueBookModel", name := "enter", desc := "(IIII)I" } : Jvm.MethodName) ({ cls := "CueBookModel", name := "enter", desc := "(IIII)I" } : Jvm.MethodName)) ∈ lw_tbl := in_t5 _ (List.mem_of_getElem? (i := 178) (by decide +kernel))
theorem tw_5_179 : (Jvm.Cond.code ({ cls := "CueBookModel", name := "enter", desc := "(IIII)I" } : Jvm.MethodName) prog_8_method_17_code (5 : Nat) (Option.some Jvm.ClassFile.FieldType.int)) ∈ lw_tbl := in_t5 _ (List.mem_of_getElem? (i := 179) (by decide +kernel))
theorem tw_5_180 : (Jvm.Cond.methodLink "CueBookModel" (117 : Nat) ({ cls := "CueBookModel", name := "written", desc := "(IIIII)I" } : Jvm.MethodName)) ∈ lw_tbl := in_t5 _ (List.mem_of_getElem? (i := 180) (by decide +kernel))
theorem tw_5_181 : (Jvm.Cond.privateMethod ({ cls := "CueBookModel", name := "written", desc := "(IIIII)I" } : Jvm.MethodName)) ∈ lw_tbl := in_t5 _ (List.mem_of_getElem? (i := 181) (by decide +kernel))
theorem tw_5_182 : (Jvm.Cond.instanceMethod ({ cls := "CueBookModel", name := "written", desc := "(IIIII)I" } : Jvm.MethodName)) ∈ lw_tbl := in_t5 _ (List.mem_of_getElem? (i := 182) (by decide +kernel))
theorem tw_5_183 : (Jvm.Cond.code ({ cls := "CueBookModel", name := "written", desc := "(IIIII)I" } : Jvm.MethodName) prog_8_method_16_code (8 : Nat) (Option.some Jvm.ClassFile.FieldType.int)) ∈ lw_tbl := in_t5 _ (List.mem_of_getElem? (i := 183) (by decide +kernel))
theorem tw_5_184 : (Jvm.Cond.methodLink "CueBookModel" (107 : Nat) ({ cls := "CueBookModel", name := "isPuppet", desc := "(I)Z" } : Jvm.MethodName)) ∈ lw_tbl := in_t5 _ (List.mem_of_getElem? (i := 184) (by decide +kernel))
theorem tw_5_185 : (Jvm.Cond.privateMethod ({ cls := "CueBookModel", name := "isPuppet", desc := "(I)Z" } : Jvm.MethodName)) ∈ lw_tbl := in_t5 _ (List.mem_of_getElem? (i := 185) (by decide +kernel))
theorem tw_5_186 : (Jvm.Cond.instanceMethod ({ cls := "CueBookModel", name := "isPuppet", desc := "(I)Z" } : Jvm.MethodName)) ∈ lw_tbl := in_t5 _ (List.mem_of_getElem? (i := 186) (by decide +kernel))
theorem tw_5_187 : (Jvm.Cond.code ({ cls := "CueBookModel", name := "isPuppet", desc := "(I)Z" } : Jvm.MethodName) prog_8_method_5_code (2 : Nat) (Option.some Jvm.ClassFile.FieldType.boolean)) ∈ lw_tbl := in_t5 _ (List.mem_of_getElem? (i := 187) (by decide +kernel))
theorem tw_5_188 : (Jvm.Cond.methodLink "CueBookModel" (110 : Nat) ({ cls := "CueBookModel", name := "isBeat", desc := "(I)Z" } : Jvm.MethodName)) ∈ lw_tbl := in_t5 _ (List.mem_of_getElem? (i := 188) (by decide +kernel))
theorem tw_5_189 : (Jvm.Cond.static ({ cls := "CueBookModel", name := "isBeat", desc := "(I)Z" } : Jvm.MethodName)) ∈ lw_tbl := in_t5 _ (List.mem_of_getElem? (i := 189) (by decide +kernel))
theorem tw_5_190 : (Jvm.Cond.code ({ cls := "CueBookModel", name := "isBeat", desc := "(I)Z" } : Jvm.MethodName) prog_8_method_7_code (1 : Nat) (Option.some Jvm.ClassFile.FieldType.boolean)) ∈ lw_tbl := in_t5 _ (List.mem_of_getElem? (i := 190) (by decide +kernel))
theorem tw_5_191 : (Jvm.Cond.methodLink "CueBookModel" (113 : Nat) ({ cls := "CueBookModel", name := "write", desc := "(IIIII)I" } : Jvm.MethodName)) ∈ lw_tbl := in_t5 _ (List.mem_of_getElem? (i := 191) (by decide +kernel))
theorem tw_5_192 : (Jvm.Cond.privateMethod ({ cls := "CueBookModel", name := "write", desc := "(IIIII)I" } : Jvm.MethodName)) ∈ lw_tbl := in_t5 _ (List.mem_of_getElem? (i := 192) (by decide +kernel))
theorem tw_5_193 : (Jvm.Cond.instanceMethod ({ cls := "CueBookModel", name := "write", desc := "(IIIII)I" } : Jvm.MethodName)) ∈ lw_tbl := in_t5 _ (List.mem_of_getElem? (i := 193) (by decide +kernel))
theorem tw_5_194 : (Jvm.Cond.code ({ cls := "CueBookModel", name := "write", desc := "(IIIII)I" } : Jvm.MethodName) prog_8_method_15_code (7 : Nat) (Option.some Jvm.ClassFile.FieldType.int)) ∈ lw_tbl := in_t5 _ (List.mem_of_getElem? (i := 194) (by decide +kernel))
theorem tw_5_195 : (Jvm.Cond.methodLink "CueBookModel" (103 : Nat) ({ cls := "CueBookModel", name := "areRight", desc := "(I)Z" } : Jvm.MethodName)) ∈ lw_tbl := in_t5 _ (List.mem_of_getElem? (i := 195) (by decide +kernel))
theorem tw_5_196 : (Jvm.Cond.privateMethod ({ cls := "CueBookModel", name := "areRight", desc := "(I)Z" } : Jvm.MethodName)) ∈ lw_tbl := in_t5 _ (List.mem_of_getElem? (i := 196) (by decide +kernel))
theorem tw_5_197 : (Jvm.Cond.instanceMethod ({ cls := "CueBookModel", name := "areRight", desc := "(I)Z" } : Jvm.MethodName)) ∈ lw_tbl := in_t5 _ (List.mem_of_getElem? (i := 197) (by decide +kernel))
theorem tw_5_198 : (Jvm.Cond.code ({ cls := "CueBookModel", name := "areRight", desc := "(I)Z" } : Jvm.MethodName) prog_8_method_14_code (7 : Nat) (Option.some Jvm.ClassFile.FieldType.boolean)) ∈ lw_tbl := in_t5 _ (List.mem_of_getElem? (i := 198) (by decide +kernel))
theorem tw_5_199 : (Jvm.Cond.methodLink "CueBookModel" (91 : Nat) ({ cls := "CueBookModel", name := "behind", desc := "(II)I" } : Jvm.MethodName)) ∈ lw_tbl := in_t5 _ (List.mem_of_getElem? (i := 199) (by decide +kernel))
theorem tw_5_200 : (Jvm.Cond.privateMethod ({ cls := "CueBookModel", name := "behind", desc := "(II)I" } : Jvm.MethodName)) ∈ lw_tbl := in_t5 _ (List.mem_of_getElem? (i := 200) (by decide +kernel))
theorem tw_5_201 : (Jvm.Cond.instanceMethod ({ cls := "CueBookModel", name := "behind", desc := "(II)I" } : Jvm.MethodName)) ∈ lw_tbl := in_t5 _ (List.mem_of_getElem? (i := 201) (by decide +kernel))
theorem tw_5_202 : (Jvm.Cond.code ({ cls := "CueBookModel", name := "behind", desc := "(II)I" } : Jvm.MethodName) prog_8_method_12_code (5 : Nat) (Option.some Jvm.ClassFile.FieldType.int)) ∈ lw_tbl := in_t5 _ (List.mem_of_getElem? (i := 202) (by decide +kernel))
theorem tw_5_203 : (Jvm.Cond.methodLink "CueBookModel" (84 : Nat) ({ cls := "CueBookModel", name := "isBehind", desc := "(II)Z" } : Jvm.MethodName)) ∈ lw_tbl := in_t5 _ (List.mem_of_getElem? (i := 203) (by decide +kernel))
theorem tw_5_204 : (Jvm.Cond.privateMethod ({ cls := "CueBookModel", name := "isBehind", desc := "(II)Z" } : Jvm.MethodName)) ∈ lw_tbl := in_t5 _ (List.mem_of_getElem? (i := 204) (by decide +kernel))
theorem tw_5_205 : (Jvm.Cond.instanceMethod ({ cls := "CueBookModel", name := "isBehind", desc := "(II)Z" } : Jvm.MethodName)) ∈ lw_tbl := in_t5 _ (List.mem_of_getElem? (i := 205) (by decide +kernel))
theorem tw_5_206 : (Jvm.Cond.code ({ cls := "CueBookModel", name := "isBehind", desc := "(II)Z" } : Jvm.MethodName) prog_8_method_13_code (3 : Nat) (Option.some Jvm.ClassFile.FieldType.boolean)) ∈ lw_tbl := in_t5 _ (List.mem_of_getElem? (i := 206) (by decide +kernel))
theorem tw_5_207 : (Jvm.Cond.methodLink "CueBookModel" (88 : Nat) ({ cls := "CueBookModel", name := "beat", desc := "(I)I" } : Jvm.MethodName)) ∈ lw_tbl := in_t5 _ (List.mem_of_getElem? (i := 207) (by decide +kernel))
theorem tw_5_208 : (Jvm.Cond.privateMethod ({ cls := "CueBookModel", name := "beat", desc := "(I)I" } : Jvm.MethodName)) ∈ lw_tbl := in_t5 _ (List.mem_of_getElem? (i := 208) (by decide +kernel))
theorem tw_5_209 : (Jvm.Cond.instanceMethod ({ cls := "CueBookModel", name := "beat", desc := "(I)I" } : Jvm.MethodName)) ∈ lw_tbl := in_t5 _ (List.mem_of_getElem? (i := 209) (by decide +kernel))
theorem tw_5_210 : (Jvm.Cond.code ({ cls := "CueBookModel", name := "beat", desc := "(I)I" } : Jvm.MethodName) prog_8_method_11_code (2 : Nat) (Option.some Jvm.ClassFile.FieldType.int)) ∈ lw_tbl := in_t5 _ (List.mem_of_getElem? (i := 210) (by decide +kernel))
theorem tw_5_211 : (Jvm.Cond.methodLink "CueBookModel" (95 : Nat) ({ cls := "CueBookModel", name := "kind", desc := "(I)I" } : Jvm.MethodName)) ∈ lw_tbl := in_t5 _ (List.mem_of_getElem? (i := 211) (by decide +kernel))
theorem tw_5_212 : (Jvm.Cond.privateMethod ({ cls := "CueBookModel", name := "kind", desc := "(I)I" } : Jvm.MethodName)) ∈ lw_tbl := in_t5 _ (List.mem_of_getElem? (i := 212) (by decide +kernel))
theorem tw_5_213 : (Jvm.Cond.instanceMethod ({ cls := "CueBookModel", name := "kind", desc := "(I)I" } : Jvm.MethodName)) ∈ lw_tbl := in_t5 _ (List.mem_of_getElem? (i := 213) (by decide +kernel))
theorem tw_5_214 : (Jvm.Cond.code ({ cls := "CueBookModel", name := "kind", desc := "(I)I" } : Jvm.MethodName) prog_8_method_10_code (2 : Nat) (Option.some Jvm.ClassFile.FieldType.int)) ∈ lw_tbl := in_t5 _ (List.mem_of_getElem? (i := 214) (by decide +kernel))
theorem tw_5_215 : (Jvm.Cond.methodLink "CueBookModel" (98 : Nat) ({ cls := "java/lang/Math", name := "abs", desc := "(I)I" } : Jvm.MethodName)) ∈ lw_tbl := in_t5 _ (List.mem_of_getElem? (i := 215) (by decide +kernel))
theorem tw_5_216 : (Jvm.Cond.methodLink "CueBookLaw" (104 : Nat) ({ cls := "CueBookModel", name := "move", desc := "(III)I" } : Jvm.MethodName)) ∈ lw_tbl := in_t5 _ (List.mem_of_getElem? (i := 216) (by decide +kernel))
theorem tw_5_217 : (Jvm.Cond.instanceMethod ({ cls := "CueBookModel", name := "move", desc := "(III)I" } : Jvm.MethodName)) ∈ lw_tbl := in_t5 _ (List.mem_of_getElem? (i := 217) (by decide +kernel))
theorem tw_5_218 : (Jvm.Cond.selects "CueBookModel" ({ cls := "CueBookModel", name := "move", desc := "(III)I" } : Jvm.MethodName) ({ cls := "CueBookModel", name := "move", desc := "(III)I" } : Jvm.MethodName)) ∈ lw_tbl := in_t5 _ (List.mem_of_getElem? (i := 218) (by decide +kernel))
theorem tw_5_219 : (Jvm.Cond.code ({ cls := "CueBookModel", name := "move", desc := "(III)I" } : Jvm.MethodName) prog_8_method_18_code (4 : Nat) (Option.some Jvm.ClassFile.FieldType.int)) ∈ lw_tbl := in_t5 _ (List.mem_of_getElem? (i := 219) (by decide +kernel))
theorem tw_5_220 : (Jvm.Cond.methodLink "CueBookLaw" (107 : Nat) ({ cls := "CueBookModel", name := "shift", desc := "(III)I" } : Jvm.MethodName)) ∈ lw_tbl := in_t5 _ (List.mem_of_getElem? (i := 220) (by decide +kernel))
theorem tw_5_221 : (Jvm.Cond.instanceMethod ({ cls := "CueBookModel", name := "shift", desc := "(III)I" } : Jvm.MethodName)) ∈ lw_tbl := in_t5 _ (List.mem_of_getElem? (i := 221) (by decide +kernel))
theorem tw_5_222 : (Jvm.Cond.selects "CueBookModel" ({ cls := "CueBookModel", name := "shift", desc := "(III)I" } : Jvm.MethodName) ({ cls := "CueBookModel", name := "shift", desc := "(III)I" } : Jvm.MethodName)) ∈ lw_tbl := in_t5 _ (List.mem_of_getElem? (i := 222) (by decide +kernel))
theorem tw_5_223 : (Jvm.Cond.code ({ cls := "CueBookModel", name := "shift", desc := "(III)I" } : Jvm.MethodName) prog_8_method_19_code (4 : Nat) (Option.some Jvm.ClassFile.FieldType.int)) ∈ lw_tbl := in_t5 _ (List.mem_of_getElem? (i := 223) (by decide +kernel))
theorem tw_5_224 : (Jvm.Cond.methodLink "CueBookLaw" (110 : Nat) ({ cls := "CueBookModel", name := "leave", desc := "(II)I" } : Jvm.MethodName)) ∈ lw_tbl := in_t5 _ (List.mem_of_getElem? (i := 224) (by decide +kernel))
theorem tw_5_225 : (Jvm.Cond.instanceMethod ({ cls := "CueBookModel", name := "leave", desc := "(II)I" } : Jvm.MethodName)) ∈ lw_tbl := in_t5 _ (List.mem_of_getElem? (i := 225) (by decide +kernel))
theorem tw_5_226 : (Jvm.Cond.selects "CueBookModel" ({ cls := "CueBookModel", name := "leave", desc := "(II)I" } : Jvm.MethodName) ({ cls := "CueBookModel", name := "leave", desc := "(II)I" } : Jvm.MethodName)) ∈ lw_tbl := in_t5 _ (List.mem_of_getElem? (i := 226) (by decide +kernel))
theorem tw_5_227 : (Jvm.Cond.code ({ cls := "CueBookModel", name := "leave", desc := "(II)I" } : Jvm.MethodName) prog_8_method_20_code (3 : Nat) (Option.some Jvm.ClassFile.FieldType.int)) ∈ lw_tbl := in_t5 _ (List.mem_of_getElem? (i := 227) (by decide +kernel))
theorem tw_5_228 : (Jvm.Cond.methodLink "CueBookLaw" (114 : Nat) ({ cls := "CueBookModel", name := "strike", desc := "(I)I" } : Jvm.MethodName)) ∈ lw_tbl := in_t5 _ (List.mem_of_getElem? (i := 228) (by decide +kernel))
theorem tw_5_229 : (Jvm.Cond.instanceMethod ({ cls := "CueBookModel", name := "strike", desc := "(I)I" } : Jvm.MethodName)) ∈ lw_tbl := in_t5 _ (List.mem_of_getElem? (i := 229) (by decide +kernel))
theorem tw_5_230 : (Jvm.Cond.selects "CueBookModel" ({ cls := "CueBookModel", name := "strike", desc := "(I)I" } : Jvm.MethodName) ({ cls := "CueBookModel", name := "strike", desc := "(I)I" } : Jvm.MethodName)) ∈ lw_tbl := in_t5 _ (List.mem_of_getElem? (i := 230) (by decide +kernel))
theorem tw_5_231 : (Jvm.Cond.code ({ cls := "CueBookModel", name := "strike", desc := "(I)I" } : Jvm.MethodName) prog_8_method_22_code (5 : Nat) (Option.some Jvm.ClassFile.FieldType.int)) ∈ lw_tbl := in_t5 _ (List.mem_of_getElem? (i := 231) (by decide +kernel))
theorem tw_5_232 : (Jvm.Cond.methodLink "CueBookModel" (120 : Nat) ({ cls := "CueBookModel", name := "isCue", desc := "(I)Z" } : Jvm.MethodName)) ∈ lw_tbl := in_t5 _ (List.mem_of_getElem? (i := 232) (by decide +kernel))
theorem tw_5_233 : (Jvm.Cond.privateMethod ({ cls := "CueBookModel", name := "isCue", desc := "(I)Z" } : Jvm.MethodName)) ∈ lw_tbl := in_t5 _ (List.mem_of_getElem? (i := 233) (by decide +kernel))
theorem tw_5_234 : (Jvm.Cond.instanceMethod ({ cls := "CueBookModel", name := "isCue", desc := "(I)Z" } : Jvm.MethodName)) ∈ lw_tbl := in_t5 _ (List.mem_of_getElem? (i := 234) (by decide +kernel))
theorem tw_5_235 : (Jvm.Cond.code ({ cls := "CueBookModel", name := "isCue", desc := "(I)Z" } : Jvm.MethodName) prog_8_method_21_code (2 : Nat) (Option.some Jvm.ClassFile.FieldType.boolean)) ∈ lw_tbl := in_t5 _ (List.mem_of_getElem? (i := 235) (by decide +kernel))
theorem tw_5_236 : (Jvm.Cond.methodLink "CueBookLaw" (117 : Nat) ({ cls := "CueBookModel", name := "count", desc := "(I)I" } : Jvm.MethodName)) ∈ lw_tbl := in_t5 _ (List.mem_of_getElem? (i := 236) (by decide +kernel))
theorem tw_5_237 : (Jvm.Cond.instanceMethod ({ cls := "CueBookModel", name := "count", desc := "(I)I" } : Jvm.MethodName)) ∈ lw_tbl := in_t5 _ (List.mem_of_getElem? (i := 237) (by decide +kernel))
theorem tw_5_238 : (Jvm.Cond.selects "CueBookModel" ({ cls := "CueBookModel", name := "count", desc := "(I)I" } : Jvm.MethodName) ({ cls := "CueBookModel", name := "count", desc := "(I)I" } : Jvm.MethodName)) ∈ lw_tbl := in_t5 _ (List.mem_of_getElem? (i := 238) (by decide +kernel))
theorem tw_5_239 : (Jvm.Cond.code ({ cls := "CueBookModel", name := "count", desc := "(I)I" } : Jvm.MethodName) prog_8_method_23_code (2 : Nat) (Option.some Jvm.ClassFile.FieldType.int)) ∈ lw_tbl := in_t5 _ (List.mem_of_getElem? (i := 239) (by decide +kernel))
theorem tw_6_0 : (Jvm.Cond.methodLink "CueBookLaw" (120 : Nat) ({ cls := "CueBookModel", name := "cue", desc := "(II)I" } : Jvm.MethodName)) ∈ lw_tbl := in_t6 _ (List.mem_of_getElem? (i := 0) (by decide +kernel))
theorem tw_6_1 : (Jvm.Cond.instanceMethod ({ cls := "CueBookModel", name := "cue", desc := "(II)I" } : Jvm.MethodName)) ∈ lw_tbl := in_t6 _ (List.mem_of_getElem? (i := 1) (by decide +kernel))
theorem tw_6_2 : (Jvm.Cond.selects "CueBookModel" ({ cls := "CueBookModel", name := "cue", desc := "(II)I" } : Jvm.MethodName) ({ cls := "CueBookModel", name := "cue", desc := "(II)I" } : Jvm.MethodName)) ∈ lw_tbl := in_t6 _ (List.mem_of_getElem? (i := 2) (by decide +kernel))
theorem tw_6_3 : (Jvm.Cond.code ({ cls := "CueBookModel", name := "cue", desc := "(II)I" } : Jvm.MethodName) prog_8_method_24_code (3 : Nat) (Option.some Jvm.ClassFile.FieldType.int)) ∈ lw_tbl := in_t6 _ (List.mem_of_getElem? (i := 3) (by decide +kernel))
theorem tw_6_4 : (Jvm.Cond.methodLink "CueBookLaw" (123 : Nat) ({ cls := "CueBookModel", name := "place", desc := "(II)I" } : Jvm.MethodName)) ∈ lw_tbl := in_t6 _ (List.mem_of_getElem? (i := 4) (by decide +kernel))
theorem tw_6_5 : (Jvm.Cond.instanceMethod ({ cls := "CueBookModel", name := "place", desc := "(II)I" } : Jvm.MethodName)) ∈ lw_tbl := in_t6 _ (List.mem_of_getElem? (i := 5) (by decide +kernel))
theorem tw_6_6 : (Jvm.Cond.selects "CueBookModel" ({ cls := "CueBookModel", name := "place", desc := "(II)I" } : Jvm.MethodName) ({ cls := "CueBookModel", name := "place", desc := "(II)I" } : Jvm.MethodName)) ∈ lw_tbl := in_t6 _ (List.mem_of_getElem? (i := 6) (by decide +kernel))
theorem tw_6_7 : (Jvm.Cond.code ({ cls := "CueBookModel", name := "place", desc := "(II)I" } : Jvm.MethodName) prog_8_method_33_code (3 : Nat) (Option.some Jvm.ClassFile.FieldType.int)) ∈ lw_tbl := in_t6 _ (List.mem_of_getElem? (i := 7) (by decide +kernel))
theorem tw_6_8 : (Jvm.Cond.methodLink "CueBookModel" (144 : Nat) ({ cls := "CueBookModel", name := "whyBeat", desc := "(I)I" } : Jvm.MethodName)) ∈ lw_tbl := in_t6 _ (List.mem_of_getElem? (i := 8) (by decide +kernel))
theorem tw_6_9 : (Jvm.Cond.privateMethod ({ cls := "CueBookModel", name := "whyBeat", desc := "(I)I" } : Jvm.MethodName)) ∈ lw_tbl := in_t6 _ (List.mem_of_getElem? (i := 9) (by decide +kernel))
theorem tw_6_10 : (Jvm.Cond.instanceMethod ({ cls := "CueBookModel", name := "whyBeat", desc := "(I)I" } : Jvm.MethodName)) ∈ lw_tbl := in_t6 _ (List.mem_of_getElem? (i := 10) (by decide +kernel))
theorem tw_6_11 : (Jvm.Cond.code ({ cls := "CueBookModel", name := "whyBeat", desc := "(I)I" } : Jvm.MethodName) prog_8_method_32_code (2 : Nat) (Option.some Jvm.ClassFile.FieldType.int)) ∈ lw_tbl := in_t6 _ (List.mem_of_getElem? (i := 11) (by decide +kernel))
theorem tw_6_12 : (Jvm.Cond.methodLink "CueBookModel" (147 : Nat) ({ cls := "CueBookModel", name := "workOut", desc := "()V" } : Jvm.MethodName)) ∈ lw_tbl := in_t6 _ (List.mem_of_getElem? (i := 12) (by decide +kernel))
theorem tw_6_13 : (Jvm.Cond.privateMethod ({ cls := "CueBookModel", name := "workOut", desc := "()V" } : Jvm.MethodName)) ∈ lw_tbl := in_t6 _ (List.mem_of_getElem? (i := 13) (by decide +kernel))
theorem tw_6_14 : (Jvm.Cond.instanceMethod ({ cls := "CueBookModel", name := "workOut", desc := "()V" } : Jvm.MethodName)) ∈ lw_tbl := in_t6 _ (List.mem_of_getElem? (i := 14) (by decide +kernel))
theorem tw_6_15 : (Jvm.Cond.code ({ cls := "CueBookModel", name := "workOut", desc := "()V" } : Jvm.MethodName) prog_8_method_25_code (2 : Nat) (Option.none : Option Jvm.ClassFile.FieldType)) ∈ lw_tbl := in_t6 _ (List.mem_of_getElem? (i := 15) (by decide +kernel))
theorem tw_6_16 : (Jvm.Cond.methodLink "CueBookModel" (126 : Nat) ({ cls := "CueBookModel", name := "workOut", desc := "(I)V" } : Jvm.MethodName)) ∈ lw_tbl := in_t6 _ (List.mem_of_getElem? (i := 16) (by decide +kernel))
theorem tw_6_17 : (Jvm.Cond.privateMethod ({ cls := "CueBookModel", name := "workOut", desc := "(I)V" } : Jvm.MethodName)) ∈ lw_tbl := in_t6 _ (List.mem_of_getElem? (i := 17) (by decide +kernel))
theorem tw_6_18 : (Jvm.Cond.instanceMethod ({ cls := "CueBookModel", name := "workOut", desc := "(I)V" } : Jvm.MethodName)) ∈ lw_tbl := in_t6 _ (List.mem_of_getElem? (i := 18) (by decide +kernel))
theorem tw_6_19 : (Jvm.Cond.code ({ cls := "CueBookModel", name := "workOut", desc := "(I)V" } : Jvm.MethodName) prog_8_method_26_code (8 : Nat) (Option.none : Option Jvm.ClassFile.FieldType)) ∈ lw_tbl := in_t6 _ (List.mem_of_getElem? (i := 19) (by decide +kernel))
theorem tw_6_20 : (Jvm.Cond.methodLink "CueBookModel" (133 : Nat) ({ cls := "java/lang/Integer", name := "signum", desc := "(I)I" } : Jvm.MethodName)) ∈ lw_tbl := in_t6 _ (List.mem_of_getElem? (i := 20) (by decide +kernel))
theorem tw_6_21 : (Jvm.Cond.static ({ cls := "java/lang/Integer", name := "signum", desc := "(I)I" } : Jvm.MethodName)) ∈ lw_tbl := in_t6 _ (List.mem_of_getElem? (i := 21) (by decide +kernel))
theorem tw_6_22 : (Jvm.Cond.code ({ cls := "java/lang/Integer", name := "signum", desc := "(I)I" } : Jvm.MethodName) prog_19_method_56_code (1 : Nat) (Option.some Jvm.ClassFile.FieldType.int)) ∈ lw_tbl := in_t6 _ (List.mem_of_getElem? (i := 22) (by decide +kernel))
theorem tw_6_23 : (Jvm.Cond.methodLink "CueBookModel" (130 : Nat) ({ cls := "CueBookModel", name := "castAll", desc := "()V" } : Jvm.MethodName)) ∈ lw_tbl := in_t6 _ (List.mem_of_getElem? (i := 23) (by decide +kernel))
theorem tw_6_24 : (Jvm.Cond.privateMethod ({ cls := "CueBookModel", name := "castAll", desc := "()V" } : Jvm.MethodName)) ∈ lw_tbl := in_t6 _ (List.mem_of_getElem? (i := 24) (by decide +kernel))
theorem tw_6_25 : (Jvm.Cond.instanceMethod ({ cls := "CueBookModel", name := "castAll", desc := "()V" } : Jvm.MethodName)) ∈ lw_tbl := in_t6 _ (List.mem_of_getElem? (i := 25) (by decide +kernel))
theorem tw_6_26 : (Jvm.Cond.code ({ cls := "CueBookModel", name := "castAll", desc := "()V" } : Jvm.MethodName) prog_8_method_29_code (6 : Nat) (Option.none : Option Jvm.ClassFile.FieldType)) ∈ lw_tbl := in_t6 _ (List.mem_of_getElem? (i := 26) (by decide +kernel))
theorem tw_6_27 : (Jvm.Cond.methodLink "CueBookModel" (141 : Nat) ({ cls := "CueBookModel", name := "canDo", desc := "(I)Z" } : Jvm.MethodName)) ∈ lw_tbl := in_t6 _ (List.mem_of_getElem? (i := 27) (by decide +kernel))
theorem tw_6_28 : (Jvm.Cond.privateMethod ({ cls := "CueBookModel", name := "canDo", desc := "(I)Z" } : Jvm.MethodName)) ∈ lw_tbl := in_t6 _ (List.mem_of_getElem? (i := 28) (by decide +kernel))
theorem tw_6_29 : (Jvm.Cond.instanceMethod ({ cls := "CueBookModel", name := "canDo", desc := "(I)Z" } : Jvm.MethodName)) ∈ lw_tbl := in_t6 _ (List.mem_of_getElem? (i := 29) (by decide +kernel))
theorem tw_6_30 : (Jvm.Cond.code ({ cls := "CueBookModel", name := "canDo", desc := "(I)Z" } : Jvm.MethodName) prog_8_method_28_code (9 : Nat) (Option.some Jvm.ClassFile.FieldType.boolean)) ∈ lw_tbl := in_t6 _ (List.mem_of_getElem? (i := 30) (by decide +kernel))
theorem tw_6_31 : (Jvm.Cond.methodLink "CueBookModel" (138 : Nat) ({ cls := "CueBookModel", name := "playerAt", desc := "(II)I" } : Jvm.MethodName)) ∈ lw_tbl := in_t6 _ (List.mem_of_getElem? (i := 31) (by decide +kernel))
theorem tw_6_32 : (Jvm.Cond.privateMethod ({ cls := "CueBookModel", name := "playerAt", desc := "(II)I" } : Jvm.MethodName)) ∈ lw_tbl := in_t6 _ (List.mem_of_getElem? (i := 32) (by decide +kernel))
theorem tw_6_33 : (Jvm.Cond.instanceMethod ({ cls := "CueBookModel", name := "playerAt", desc := "(II)I" } : Jvm.MethodName)) ∈ lw_tbl := in_t6 _ (List.mem_of_getElem? (i := 33) (by decide +kernel))
theorem tw_6_34 : (Jvm.Cond.code ({ cls := "CueBookModel", name := "playerAt", desc := "(II)I" } : Jvm.MethodName) prog_8_method_27_code (3 : Nat) (Option.some Jvm.ClassFile.FieldType.int)) ∈ lw_tbl := in_t6 _ (List.mem_of_getElem? (i := 34) (by decide +kernel))
theorem tw_6_35 : (Jvm.Cond.methodLink "CueBookModel" (149 : Nat) ({ cls := "CueBookModel", name := "placeAt", desc := "(II)I" } : Jvm.MethodName)) ∈ lw_tbl := in_t6 _ (List.mem_of_getElem? (i := 35) (by decide +kernel))
theorem tw_6_36 : (Jvm.Cond.privateMethod ({ cls := "CueBookModel", name := "placeAt", desc := "(II)I" } : Jvm.MethodName)) ∈ lw_tbl := in_t6 _ (List.mem_of_getElem? (i := 36) (by decide +kernel))
theorem tw_6_37 : (Jvm.Cond.instanceMethod ({ cls := "CueBookModel", name := "placeAt", desc := "(II)I" } : Jvm.MethodName)) ∈ lw_tbl := in_t6 _ (List.mem_of_getElem? (i := 37) (by decide +kernel))
theorem tw_6_38 : (Jvm.Cond.code ({ cls := "CueBookModel", name := "placeAt", desc := "(II)I" } : Jvm.MethodName) prog_8_method_30_code (3 : Nat) (Option.some Jvm.ClassFile.FieldType.int)) ∈ lw_tbl := in_t6 _ (List.mem_of_getElem? (i := 38) (by decide +kernel))
theorem tw_6_39 : (Jvm.Cond.methodLink "CueBookLaw" (126 : Nat) ({ cls := "CueBookModel", name := "track", desc := "(II)I" } : Jvm.MethodName)) ∈ lw_tbl := in_t6 _ (List.mem_of_getElem? (i := 39) (by decide +kernel))
theorem tw_6_40 : (Jvm.Cond.instanceMethod ({ cls := "CueBookModel", name := "track", desc := "(II)I" } : Jvm.MethodName)) ∈ lw_tbl := in_t6 _ (List.mem_of_getElem? (i := 40) (by decide +kernel))
theorem tw_6_41 : (Jvm.Cond.selects "CueBookModel" ({ cls := "CueBookModel", name := "track", desc := "(II)I" } : Jvm.MethodName) ({ cls := "CueBookModel", name := "track", desc := "(II)I" } : Jvm.MethodName)) ∈ lw_tbl := in_t6 _ (List.mem_of_getElem? (i := 41) (by decide +kernel))
theorem tw_6_42 : (Jvm.Cond.code ({ cls := "CueBookModel", name := "track", desc := "(II)I" } : Jvm.MethodName) prog_8_method_34_code (3 : Nat) (Option.some Jvm.ClassFile.FieldType.int)) ∈ lw_tbl := in_t6 _ (List.mem_of_getElem? (i := 42) (by decide +kernel))
theorem tw_6_43 : (Jvm.Cond.methodLink "CueBookModel" (152 : Nat) ({ cls := "CueBookModel", name := "trackAt", desc := "(II)I" } : Jvm.MethodName)) ∈ lw_tbl := in_t6 _ (List.mem_of_getElem? (i := 43) (by decide +kernel))
theorem tw_6_44 : (Jvm.Cond.privateMethod ({ cls := "CueBookModel", name := "trackAt", desc := "(II)I" } : Jvm.MethodName)) ∈ lw_tbl := in_t6 _ (List.mem_of_getElem? (i := 44) (by decide +kernel))
theorem tw_6_45 : (Jvm.Cond.instanceMethod ({ cls := "CueBookModel", name := "trackAt", desc := "(II)I" } : Jvm.MethodName)) ∈ lw_tbl := in_t6 _ (List.mem_of_getElem? (i := 45) (by decide +kernel))
theorem tw_6_46 : (Jvm.Cond.code ({ cls := "CueBookModel", name := "trackAt", desc := "(II)I" } : Jvm.MethodName) prog_8_method_31_code (3 : Nat) (Option.some Jvm.ClassFile.FieldType.int)) ∈ lw_tbl := in_t6 _ (List.mem_of_getElem? (i := 46) (by decide +kernel))
theorem tw_6_47 : (Jvm.Cond.methodLink "CueBookLaw" (129 : Nat) ({ cls := "CueBookModel", name := "onStage", desc := "(I)I" } : Jvm.MethodName)) ∈ lw_tbl := in_t6 _ (List.mem_of_getElem? (i := 47) (by decide +kernel))
theorem tw_6_48 : (Jvm.Cond.instanceMethod ({ cls := "CueBookModel", name := "onStage", desc := "(I)I" } : Jvm.MethodName)) ∈ lw_tbl := in_t6 _ (List.mem_of_getElem? (i := 48) (by decide +kernel))
theorem tw_6_49 : (Jvm.Cond.selects "CueBookModel" ({ cls := "CueBookModel", name := "onStage", desc := "(I)I" } : Jvm.MethodName) ({ cls := "CueBookModel", name := "onStage", desc := "(I)I" } : Jvm.MethodName)) ∈ lw_tbl := in_t6 _ (List.mem_of_getElem? (i := 49) (by decide +kernel))
theorem tw_6_50 : (Jvm.Cond.code ({ cls := "CueBookModel", name := "onStage", desc := "(I)I" } : Jvm.MethodName) prog_8_method_35_code (4 : Nat) (Option.some Jvm.ClassFile.FieldType.int)) ∈ lw_tbl := in_t6 _ (List.mem_of_getElem? (i := 50) (by decide +kernel))
theorem tw_6_51 : (Jvm.Cond.methodLink "CueBookLaw" (132 : Nat) ({ cls := "CueBookModel", name := "clash", desc := "(II)I" } : Jvm.MethodName)) ∈ lw_tbl := in_t6 _ (List.mem_of_getElem? (i := 51) (by decide +kernel))
theorem tw_6_52 : (Jvm.Cond.instanceMethod ({ cls := "CueBookModel", name := "clash", desc := "(II)I" } : Jvm.MethodName)) ∈ lw_tbl := in_t6 _ (List.mem_of_getElem? (i := 52) (by decide +kernel))
theorem tw_6_53 : (Jvm.Cond.selects "CueBookModel" ({ cls := "CueBookModel", name := "clash", desc := "(II)I" } : Jvm.MethodName) ({ cls := "CueBookModel", name := "clash", desc := "(II)I" } : Jvm.MethodName)) ∈ lw_tbl := in_t6 _ (List.mem_of_getElem? (i := 53) (by decide +kernel))
theorem tw_6_54 : (Jvm.Cond.code ({ cls := "CueBookModel", name := "clash", desc := "(II)I" } : Jvm.MethodName) prog_8_method_38_code (3 : Nat) (Option.some Jvm.ClassFile.FieldType.int)) ∈ lw_tbl := in_t6 _ (List.mem_of_getElem? (i := 54) (by decide +kernel))
theorem tw_6_55 : (Jvm.Cond.methodLink "CueBookModel" (158 : Nat) ({ cls := "CueBookModel", name := "firstClash", desc := "(II)I" } : Jvm.MethodName)) ∈ lw_tbl := in_t6 _ (List.mem_of_getElem? (i := 55) (by decide +kernel))
theorem tw_6_56 : (Jvm.Cond.privateMethod ({ cls := "CueBookModel", name := "firstClash", desc := "(II)I" } : Jvm.MethodName)) ∈ lw_tbl := in_t6 _ (List.mem_of_getElem? (i := 56) (by decide +kernel))
theorem tw_6_57 : (Jvm.Cond.instanceMethod ({ cls := "CueBookModel", name := "firstClash", desc := "(II)I" } : Jvm.MethodName)) ∈ lw_tbl := in_t6 _ (List.mem_of_getElem? (i := 57) (by decide +kernel))
theorem tw_6_58 : (Jvm.Cond.code ({ cls := "CueBookModel", name := "firstClash", desc := "(II)I" } : Jvm.MethodName) prog_8_method_37_code (4 : Nat) (Option.some Jvm.ClassFile.FieldType.int)) ∈ lw_tbl := in_t6 _ (List.mem_of_getElem? (i := 58) (by decide +kernel))
theorem tw_6_59 : (Jvm.Cond.methodLink "CueBookModel" (155 : Nat) ({ cls := "CueBookModel", name := "areOnOneTrack", desc := "(III)Z" } : Jvm.MethodName)) ∈ lw_tbl := in_t6 _ (List.mem_of_getElem? (i := 59) (by decide +kernel))
theorem tw_6_60 : (Jvm.Cond.privateMethod ({ cls := "CueBookModel", name := "areOnOneTrack", desc := "(III)Z" } : Jvm.MethodName)) ∈ lw_tbl := in_t6 _ (List.mem_of_getElem? (i := 60) (by decide +kernel))
theorem tw_6_61 : (Jvm.Cond.instanceMethod ({ cls := "CueBookModel", name := "areOnOneTrack", desc := "(III)Z" } : Jvm.MethodName)) ∈ lw_tbl := in_t6 _ (List.mem_of_getElem? (i := 61) (by decide +kernel))
theorem tw_6_62 : (Jvm.Cond.code ({ cls := "CueBookModel", name := "areOnOneTrack", desc := "(III)Z" } : Jvm.MethodName) prog_8_method_36_code (4 : Nat) (Option.some Jvm.ClassFile.FieldType.boolean)) ∈ lw_tbl := in_t6 _ (List.mem_of_getElem? (i := 62) (by decide +kernel))
theorem tw_6_63 : (Jvm.Cond.methodLink "CueBookLaw" (136 : Nat) ({ cls := "CueBookModel", name := "clashes", desc := "()I" } : Jvm.MethodName)) ∈ lw_tbl := in_t6 _ (List.mem_of_getElem? (i := 63) (by decide +kernel))
theorem tw_6_64 : (Jvm.Cond.instanceMethod ({ cls := "CueBookModel", name := "clashes", desc := "()I" } : Jvm.MethodName)) ∈ lw_tbl := in_t6 _ (List.mem_of_getElem? (i := 64) (by decide +kernel))
theorem tw_6_65 : (Jvm.Cond.selects "CueBookModel" ({ cls := "CueBookModel", name := "clashes", desc := "()I" } : Jvm.MethodName) ({ cls := "CueBookModel", name := "clashes", desc := "()I" } : Jvm.MethodName)) ∈ lw_tbl := in_t6 _ (List.mem_of_getElem? (i := 65) (by decide +kernel))
theorem tw_6_66 : (Jvm.Cond.code ({ cls := "CueBookModel", name := "clashes", desc := "()I" } : Jvm.MethodName) prog_8_method_40_code (1 : Nat) (Option.some Jvm.ClassFile.FieldType.int)) ∈ lw_tbl := in_t6 _ (List.mem_of_getElem? (i := 66) (by decide +kernel))
theorem tw_6_67 : (Jvm.Cond.methodLink "CueBookModel" (161 : Nat) ({ cls := "CueBookModel", name := "allClashes", desc := "()I" } : Jvm.MethodName)) ∈ lw_tbl := in_t6 _ (List.mem_of_getElem? (i := 67) (by decide +kernel))
theorem tw_6_68 : (Jvm.Cond.privateMethod ({ cls := "CueBookModel", name := "allClashes", desc := "()I" } : Jvm.MethodName)) ∈ lw_tbl := in_t6 _ (List.mem_of_getElem? (i := 68) (by decide +kernel))
theorem tw_6_69 : (Jvm.Cond.instanceMethod ({ cls := "CueBookModel", name := "allClashes", desc := "()I" } : Jvm.MethodName)) ∈ lw_tbl := in_t6 _ (List.mem_of_getElem? (i := 69) (by decide +kernel))
theorem tw_6_70 : (Jvm.Cond.code ({ cls := "CueBookModel", name := "allClashes", desc := "()I" } : Jvm.MethodName) prog_8_method_39_code (4 : Nat) (Option.some Jvm.ClassFile.FieldType.int)) ∈ lw_tbl := in_t6 _ (List.mem_of_getElem? (i := 70) (by decide +kernel))
theorem tw_6_71 : (Jvm.Cond.methodLink "CueBookLaw" (139 : Nat) ({ cls := "CueBookModel", name := "beats", desc := "(I)I" } : Jvm.MethodName)) ∈ lw_tbl := in_t6 _ (List.mem_of_getElem? (i := 71) (by decide +kernel))
theorem tw_6_72 : (Jvm.Cond.instanceMethod ({ cls := "CueBookModel", name := "beats", desc := "(I)I" } : Jvm.MethodName)) ∈ lw_tbl := in_t6 _ (List.mem_of_getElem? (i := 72) (by decide +kernel))
theorem tw_6_73 : (Jvm.Cond.selects "CueBookModel" ({ cls := "CueBookModel", name := "beats", desc := "(I)I" } : Jvm.MethodName) ({ cls := "CueBookModel", name := "beats", desc := "(I)I" } : Jvm.MethodName)) ∈ lw_tbl := in_t6 _ (List.mem_of_getElem? (i := 73) (by decide +kernel))
theorem tw_6_74 : (Jvm.Cond.code ({ cls := "CueBookModel", name := "beats", desc := "(I)I" } : Jvm.MethodName) prog_8_method_41_code (4 : Nat) (Option.some Jvm.ClassFile.FieldType.int)) ∈ lw_tbl := in_t6 _ (List.mem_of_getElem? (i := 74) (by decide +kernel))
theorem tw_6_75 : (Jvm.Cond.methodLink "CueBookLaw" (142 : Nat) ({ cls := "CueBookModel", name := "stays", desc := "(I)I" } : Jvm.MethodName)) ∈ lw_tbl := in_t6 _ (List.mem_of_getElem? (i := 75) (by decide +kernel))
theorem tw_6_76 : (Jvm.Cond.instanceMethod ({ cls := "CueBookModel", name := "stays", desc := "(I)I" } : Jvm.MethodName)) ∈ lw_tbl := in_t6 _ (List.mem_of_getElem? (i := 76) (by decide +kernel))
theorem tw_6_77 : (Jvm.Cond.selects "CueBookModel" ({ cls := "CueBookModel", name := "stays", desc := "(I)I" } : Jvm.MethodName) ({ cls := "CueBookModel", name := "stays", desc := "(I)I" } : Jvm.MethodName)) ∈ lw_tbl := in_t6 _ (List.mem_of_getElem? (i := 77) (by decide +kernel))
theorem tw_6_78 : (Jvm.Cond.code ({ cls := "CueBookModel", name := "stays", desc := "(I)I" } : Jvm.MethodName) prog_8_method_42_code (2 : Nat) (Option.some Jvm.ClassFile.FieldType.int)) ∈ lw_tbl := in_t6 _ (List.mem_of_getElem? (i := 78) (by decide +kernel))
theorem tw_6_79 : (Jvm.Cond.methodLink "CueBookLaw" (145 : Nat) ({ cls := "CueBookModel", name := "stay", desc := "(III)I" } : Jvm.MethodName)) ∈ lw_tbl := in_t6 _ (List.mem_of_getElem? (i := 79) (by decide +kernel))
theorem tw_6_80 : (Jvm.Cond.instanceMethod ({ cls := "CueBookModel", name := "stay", desc := "(III)I" } : Jvm.MethodName)) ∈ lw_tbl := in_t6 _ (List.mem_of_getElem? (i := 80) (by decide +kernel))
theorem tw_6_81 : (Jvm.Cond.selects "CueBookModel" ({ cls := "CueBookModel", name := "stay", desc := "(III)I" } : Jvm.MethodName) ({ cls := "CueBookModel", name := "stay", desc := "(III)I" } : Jvm.MethodName)) ∈ lw_tbl := in_t6 _ (List.mem_of_getElem? (i := 81) (by decide +kernel))
theorem tw_6_82 : (Jvm.Cond.code ({ cls := "CueBookModel", name := "stay", desc := "(III)I" } : Jvm.MethodName) prog_8_method_44_code (4 : Nat) (Option.some Jvm.ClassFile.FieldType.int)) ∈ lw_tbl := in_t6 _ (List.mem_of_getElem? (i := 82) (by decide +kernel))
theorem tw_6_83 : (Jvm.Cond.methodLink "CueBookModel" (165 : Nat) ({ cls := "CueBookModel", name := "stayTold", desc := "(III)I" } : Jvm.MethodName)) ∈ lw_tbl := in_t6 _ (List.mem_of_getElem? (i := 83) (by decide +kernel))
theorem tw_6_84 : (Jvm.Cond.privateMethod ({ cls := "CueBookModel", name := "stayTold", desc := "(III)I" } : Jvm.MethodName)) ∈ lw_tbl := in_t6 _ (List.mem_of_getElem? (i := 84) (by decide +kernel))
theorem tw_6_85 : (Jvm.Cond.instanceMethod ({ cls := "CueBookModel", name := "stayTold", desc := "(III)I" } : Jvm.MethodName)) ∈ lw_tbl := in_t6 _ (List.mem_of_getElem? (i := 85) (by decide +kernel))
theorem tw_6_86 : (Jvm.Cond.code ({ cls := "CueBookModel", name := "stayTold", desc := "(III)I" } : Jvm.MethodName) prog_8_method_43_code (5 : Nat) (Option.some Jvm.ClassFile.FieldType.int)) ∈ lw_tbl := in_t6 _ (List.mem_of_getElem? (i := 86) (by decide +kernel))
theorem tw_6_87 : (Jvm.Cond.methodLink "CueBookLaw" (149 : Nat) ({ cls := "CueBookModel", name := "uncast", desc := "()I" } : Jvm.MethodName)) ∈ lw_tbl := in_t6 _ (List.mem_of_getElem? (i := 87) (by decide +kernel))
theorem tw_6_88 : (Jvm.Cond.instanceMethod ({ cls := "CueBookModel", name := "uncast", desc := "()I" } : Jvm.MethodName)) ∈ lw_tbl := in_t6 _ (List.mem_of_getElem? (i := 88) (by decide +kernel))
theorem tw_6_89 : (Jvm.Cond.selects "CueBookModel" ({ cls := "CueBookModel", name := "uncast", desc := "()I" } : Jvm.MethodName) ({ cls := "CueBookModel", name := "uncast", desc := "()I" } : Jvm.MethodName)) ∈ lw_tbl := in_t6 _ (List.mem_of_getElem? (i := 89) (by decide +kernel))
theorem tw_6_90 : (Jvm.Cond.code ({ cls := "CueBookModel", name := "uncast", desc := "()I" } : Jvm.MethodName) prog_8_method_45_code (4 : Nat) (Option.some Jvm.ClassFile.FieldType.int)) ∈ lw_tbl := in_t6 _ (List.mem_of_getElem? (i := 90) (by decide +kernel))
theorem tw_6_91 : (Jvm.Cond.methodLink "CueBookLaw" (152 : Nat) ({ cls := "CueBookModel", name := "hands", desc := "(II)I" } : Jvm.MethodName)) ∈ lw_tbl := in_t6 _ (List.mem_of_getElem? (i := 91) (by decide +kernel))
theorem tw_6_92 : (Jvm.Cond.instanceMethod ({ cls := "CueBookModel", name := "hands", desc := "(II)I" } : Jvm.MethodName)) ∈ lw_tbl := in_t6 _ (List.mem_of_getElem? (i := 92) (by decide +kernel))
theorem tw_6_93 : (Jvm.Cond.selects "CueBookModel" ({ cls := "CueBookModel", name := "hands", desc := "(II)I" } : Jvm.MethodName) ({ cls := "CueBookModel", name := "hands", desc := "(II)I" } : Jvm.MethodName)) ∈ lw_tbl := in_t6 _ (List.mem_of_getElem? (i := 93) (by decide +kernel))
theorem tw_6_94 : (Jvm.Cond.code ({ cls := "CueBookModel", name := "hands", desc := "(II)I" } : Jvm.MethodName) prog_8_method_47_code (3 : Nat) (Option.some Jvm.ClassFile.FieldType.int)) ∈ lw_tbl := in_t6 _ (List.mem_of_getElem? (i := 94) (by decide +kernel))
theorem tw_6_95 : (Jvm.Cond.methodLink "CueBookModel" (169 : Nat) ({ cls := "CueBookModel", name := "isPlayer", desc := "(I)Z" } : Jvm.MethodName)) ∈ lw_tbl := in_t6 _ (List.mem_of_getElem? (i := 95) (by decide +kernel))
theorem tw_6_96 : (Jvm.Cond.privateMethod ({ cls := "CueBookModel", name := "isPlayer", desc := "(I)Z" } : Jvm.MethodName)) ∈ lw_tbl := in_t6 _ (List.mem_of_getElem? (i := 96) (by decide +kernel))
theorem tw_6_97 : (Jvm.Cond.instanceMethod ({ cls := "CueBookModel", name := "isPlayer", desc := "(I)Z" } : Jvm.MethodName)) ∈ lw_tbl := in_t6 _ (List.mem_of_getElem? (i := 97) (by decide +kernel))
theorem tw_6_98 : (Jvm.Cond.code ({ cls := "CueBookModel", name := "isPlayer", desc := "(I)Z" } : Jvm.MethodName) prog_8_method_6_code (2 : Nat) (Option.some Jvm.ClassFile.FieldType.boolean)) ∈ lw_tbl := in_t6 _ (List.mem_of_getElem? (i := 98) (by decide +kernel))
theorem tw_6_99 : (Jvm.Cond.methodLink "CueBookModel" (172 : Nat) ({ cls := "CueBookModel", name := "handsOf", desc := "(II)I" } : Jvm.MethodName)) ∈ lw_tbl := in_t6 _ (List.mem_of_getElem? (i := 99) (by decide +kernel))
theorem tw_6_100 : (Jvm.Cond.privateMethod ({ cls := "CueBookModel", name := "handsOf", desc := "(II)I" } : Jvm.MethodName)) ∈ lw_tbl := in_t6 _ (List.mem_of_getElem? (i := 100) (by decide +kernel))
theorem tw_6_101 : (Jvm.Cond.instanceMethod ({ cls := "CueBookModel", name := "handsOf", desc := "(II)I" } : Jvm.MethodName)) ∈ lw_tbl := in_t6 _ (List.mem_of_getElem? (i := 101) (by decide +kernel))
theorem tw_6_102 : (Jvm.Cond.code ({ cls := "CueBookModel", name := "handsOf", desc := "(II)I" } : Jvm.MethodName) prog_8_method_46_code (5 : Nat) (Option.some Jvm.ClassFile.FieldType.int)) ∈ lw_tbl := in_t6 _ (List.mem_of_getElem? (i := 102) (by decide +kernel))
theorem tw_6_103 : (Jvm.Cond.methodLink "CueBookLaw" (155 : Nat) ({ cls := "CueBookModel", name := "load", desc := "(I)I" } : Jvm.MethodName)) ∈ lw_tbl := in_t6 _ (List.mem_of_getElem? (i := 103) (by decide +kernel))
theorem tw_6_104 : (Jvm.Cond.instanceMethod ({ cls := "CueBookModel", name := "load", desc := "(I)I" } : Jvm.MethodName)) ∈ lw_tbl := in_t6 _ (List.mem_of_getElem? (i := 104) (by decide +kernel))
theorem tw_6_105 : (Jvm.Cond.selects "CueBookModel" ({ cls := "CueBookModel", name := "load", desc := "(I)I" } : Jvm.MethodName) ({ cls := "CueBookModel", name := "load", desc := "(I)I" } : Jvm.MethodName)) ∈ lw_tbl := in_t6 _ (List.mem_of_getElem? (i := 105) (by decide +kernel))
theorem tw_6_106 : (Jvm.Cond.code ({ cls := "CueBookModel", name := "load", desc := "(I)I" } : Jvm.MethodName) prog_8_method_49_code (2 : Nat) (Option.some Jvm.ClassFile.FieldType.int)) ∈ lw_tbl := in_t6 _ (List.mem_of_getElem? (i := 106) (by decide +kernel))
theorem tw_6_107 : (Jvm.Cond.methodLink "CueBookModel" (175 : Nat) ({ cls := "CueBookModel", name := "loadOf", desc := "(I)I" } : Jvm.MethodName)) ∈ lw_tbl := in_t6 _ (List.mem_of_getElem? (i := 107) (by decide +kernel))
theorem tw_6_108 : (Jvm.Cond.privateMethod ({ cls := "CueBookModel", name := "loadOf", desc := "(I)I" } : Jvm.MethodName)) ∈ lw_tbl := in_t6 _ (List.mem_of_getElem? (i := 108) (by decide +kernel))
theorem tw_6_109 : (Jvm.Cond.instanceMethod ({ cls := "CueBookModel", name := "loadOf", desc := "(I)I" } : Jvm.MethodName)) ∈ lw_tbl := in_t6 _ (List.mem_of_getElem? (i := 109) (by decide +kernel))
theorem tw_6_110 : (Jvm.Cond.code ({ cls := "CueBookModel", name := "loadOf", desc := "(I)I" } : Jvm.MethodName) prog_8_method_48_code (4 : Nat) (Option.some Jvm.ClassFile.FieldType.int)) ∈ lw_tbl := in_t6 _ (List.mem_of_getElem? (i := 110) (by decide +kernel))
theorem tw_6_111 : (Jvm.Cond.methodLink "CueBookLaw" (158 : Nat) ({ cls := "CueBookModel", name := "note", desc := "(II)I" } : Jvm.MethodName)) ∈ lw_tbl := in_t6 _ (List.mem_of_getElem? (i := 111) (by decide +kernel))
theorem tw_6_112 : (Jvm.Cond.instanceMethod ({ cls := "CueBookModel", name := "note", desc := "(II)I" } : Jvm.MethodName)) ∈ lw_tbl := in_t6 _ (List.mem_of_getElem? (i := 112) (by decide +kernel))
theorem tw_6_113 : (Jvm.Cond.selects "CueBookModel" ({ cls := "CueBookModel", name := "note", desc := "(II)I" } : Jvm.MethodName) ({ cls := "CueBookModel", name := "note", desc := "(II)I" } : Jvm.MethodName)) ∈ lw_tbl := in_t6 _ (List.mem_of_getElem? (i := 113) (by decide +kernel))
theorem tw_6_114 : (Jvm.Cond.code ({ cls := "CueBookModel", name := "note", desc := "(II)I" } : Jvm.MethodName) prog_8_method_50_code (3 : Nat) (Option.some Jvm.ClassFile.FieldType.int)) ∈ lw_tbl := in_t6 _ (List.mem_of_getElem? (i := 114) (by decide +kernel))
theorem tw_6_115 : (Jvm.Cond.methodLink "CueBookLaw" (162 : Nat) ({ cls := "CueBookModel", name := "mean", desc := "(I)D" } : Jvm.MethodName)) ∈ lw_tbl := in_t6 _ (List.mem_of_getElem? (i := 115) (by decide +kernel))
theorem tw_6_116 : (Jvm.Cond.instanceMethod ({ cls := "CueBookModel", name := "mean", desc := "(I)D" } : Jvm.MethodName)) ∈ lw_tbl := in_t6 _ (List.mem_of_getElem? (i := 116) (by decide +kernel))
theorem tw_6_117 : (Jvm.Cond.selects "CueBookModel" ({ cls := "CueBookModel", name := "mean", desc := "(I)D" } : Jvm.MethodName) ({ cls := "CueBookModel", name := "mean", desc := "(I)D" } : Jvm.MethodName)) ∈ lw_tbl := in_t6 _ (List.mem_of_getElem? (i := 117) (by decide +kernel))
theorem tw_6_118 : (Jvm.Cond.code ({ cls := "CueBookModel", name := "mean", desc := "(I)D" } : Jvm.MethodName) prog_8_method_51_code (2 : Nat) (Option.some Jvm.ClassFile.FieldType.double)) ∈ lw_tbl := in_t6 _ (List.mem_of_getElem? (i := 118) (by decide +kernel))
theorem tw_6_119 : (Jvm.Cond.methodLink "CueBookLaw" (166 : Nat) ({ cls := "CueBookModel", name := "worst", desc := "()I" } : Jvm.MethodName)) ∈ lw_tbl := in_t6 _ (List.mem_of_getElem? (i := 119) (by decide +kernel))
theorem tw_6_120 : (Jvm.Cond.instanceMethod ({ cls := "CueBookModel", name := "worst", desc := "()I" } : Jvm.MethodName)) ∈ lw_tbl := in_t6 _ (List.mem_of_getElem? (i := 120) (by decide +kernel))
theorem tw_6_121 : (Jvm.Cond.selects "CueBookModel" ({ cls := "CueBookModel", name := "worst", desc := "()I" } : Jvm.MethodName) ({ cls := "CueBookModel", name := "worst", desc := "()I" } : Jvm.MethodName)) ∈ lw_tbl := in_t6 _ (List.mem_of_getElem? (i := 121) (by decide +kernel))
theorem tw_6_122 : (Jvm.Cond.code ({ cls := "CueBookModel", name := "worst", desc := "()I" } : Jvm.MethodName) prog_8_method_52_code (3 : Nat) (Option.some Jvm.ClassFile.FieldType.int)) ∈ lw_tbl := in_t6 _ (List.mem_of_getElem? (i := 122) (by decide +kernel))
theorem tw_6_123 : (Jvm.Cond.methodLink "CueBookLaw" (171 : Nat) ({ cls := "CueBookModel", name := "digest", desc := "()J" } : Jvm.MethodName)) ∈ lw_tbl := in_t6 _ (List.mem_of_getElem? (i := 123) (by decide +kernel))
theorem tw_6_124 : (Jvm.Cond.instanceMethod ({ cls := "CueBookModel", name := "digest", desc := "()J" } : Jvm.MethodName)) ∈ lw_tbl := in_t6 _ (List.mem_of_getElem? (i := 124) (by decide +kernel))
theorem tw_6_125 : (Jvm.Cond.selects "CueBookModel" ({ cls := "CueBookModel", name := "digest", desc := "()J" } : Jvm.MethodName) ({ cls := "CueBookModel", name := "digest", desc := "()J" } : Jvm.MethodName)) ∈ lw_tbl := in_t6 _ (List.mem_of_getElem? (i := 125) (by decide +kernel))
theorem tw_6_126 : (Jvm.Cond.code ({ cls := "CueBookModel", name := "digest", desc := "()J" } : Jvm.MethodName) prog_8_method_53_code (6 : Nat) (Option.some Jvm.ClassFile.FieldType.long)) ∈ lw_tbl := in_t6 _ (List.mem_of_getElem? (i := 126) (by decide +kernel))
theorem tw_6_127 : (Jvm.Cond.constantLong "CueBookModel" (178 : Nat) (8587 : Int64)) ∈ lw_tbl := in_t6 _ (List.mem_of_getElem? (i := 127) (by decide +kernel))
theorem tw_6_128 : (Jvm.Cond.constantLong "CueBookModel" (180 : Nat) (31 : Int64)) ∈ lw_tbl := in_t6 _ (List.mem_of_getElem? (i := 128) (by decide +kernel))
theorem tw_6_129 : (Jvm.Cond.arrayClass Jvm.ClassFile.FieldType.long) ∈ lw_tbl := in_t6 _ (List.mem_of_getElem? (i := 129) (by decide +kernel))
theorem tw_6_130 : (Jvm.Cond.arrayClass Jvm.ClassFile.FieldType.double) ∈ lw_tbl := in_t6 _ (List.mem_of_getElem? (i := 130) (by decide +kernel))
theorem tw_6_131 : (Jvm.Cond.sameMethod "java/lang/Throwable" "java/lang/Throwable" "fillInStackTrace" "(I)Ljava/lang/Throwable;") ∈ lw_tbl := in_t6 _ (List.mem_of_getElem? (i := 131) (by decide +kernel))
theorem tw_6_132 : (Jvm.Cond.sameMethod "java/lang/AbstractStringBuilder" "java/lang/AbstractStringBuilder" "append" "(Ljava/lang/String;)Ljava/lang/AbstractStringBuilder;") ∈ lw_tbl := in_t6 _ (List.mem_of_getElem? (i := 132) (by decide +kernel))
theorem tw_6_133 : (Jvm.Cond.sameMethod "java/lang/AbstractStringBuilder" "java/lang/AbstractStringBuilder" "appendNull" "()Ljava/lang/AbstractStringBuilder;") ∈ lw_tbl := in_t6 _ (List.mem_of_getElem? (i := 133) (by decide +kernel))
theorem tw_6_134 : (Jvm.Cond.sameMethod "java/lang/AbstractStringBuilder" "java/lang/AbstractStringBuilder" "ensureCapacityInternal" "(I)V") ∈ lw_tbl := in_t6 _ (List.mem_of_getElem? (i := 134) (by decide +kernel))
theorem tw_6_135 : (Jvm.Cond.sameMethod "java/lang/AbstractStringBuilder" "java/lang/AbstractStringBuilder" "newCapacity" "(I)I") ∈ lw_tbl := in_t6 _ (List.mem_of_getElem? (i := 135) (by decide +kernel))
theorem tw_6_136 : (Jvm.Cond.sameMethod "java/lang/AbstractStringBuilder" "java/lang/AbstractStringBuilder" "putStringAt" "(ILjava/lang/String;)V") ∈ lw_tbl := in_t6 _ (List.mem_of_getElem? (i := 136) (by decide +kernel))
theorem tw_6_137 : (Jvm.Cond.sameMethod "java/lang/AbstractStringBuilder" "java/lang/AbstractStringBuilder" "inflateIfNeededFor" "(Ljava/lang/String;)V") ∈ lw_tbl := in_t6 _ (List.mem_of_getElem? (i := 137) (by decide +kernel))
theorem tw_6_138 : (Jvm.Cond.sameMethod "java/lang/AbstractStringBuilder" "java/lang/AbstractStringBuilder" "inflate" "()V") ∈ lw_tbl := in_t6 _ (List.mem_of_getElem? (i := 138) (by decide +kernel))
theorem tw_6_139 : (Jvm.Cond.sameMethod "java/lang/AbstractStringBuilder" "java/lang/AbstractStringBuilder" "append" "(I)Ljava/lang/AbstractStringBuilder;") ∈ lw_tbl := in_t6 _ (List.mem_of_getElem? (i := 139) (by decide +kernel))
theorem tw_6_140 : (Jvm.Cond.castable "CueBook" "java/lang/Object") ∈ lw_tbl := in_t6 _ (List.mem_of_getElem? (i := 140) (by decide +kernel))
theorem tw_6_141 : (Jvm.Cond.castable "java/util/ArrayList" "java/lang/Object") ∈ lw_tbl := in_t6 _ (List.mem_of_getElem? (i := 141) (by decide +kernel))
theorem tw_6_142 : (Jvm.Cond.castable "CueBookModel" "java/lang/Object") ∈ lw_tbl := in_t6 _ (List.mem_of_getElem? (i := 142) (by decide +kernel))
theorem tw_6_143 : (Jvm.Cond.castable "java/lang/IllegalArgumentException" "java/lang/Object") ∈ lw_tbl := in_t6 _ (List.mem_of_getElem? (i := 143) (by decide +kernel))
theorem tw_6_144 : (Jvm.Cond.castable "java/lang/IllegalStateException" "java/lang/Object") ∈ lw_tbl := in_t6 _ (List.mem_of_getElem? (i := 144) (by decide +kernel))
theorem tw_6_145 : (Jvm.Cond.castable "CueBook$Puppet" "java/lang/Object") ∈ lw_tbl := in_t6 _ (List.mem_of_getElem? (i := 145) (by decide +kernel))
theorem tw_6_146 : (Jvm.Cond.castable "CueBook$Player" "java/lang/Object") ∈ lw_tbl := in_t6 _ (List.mem_of_getElem? (i := 146) (by decide +kernel))
theorem tw_6_147 : (Jvm.Cond.castable "java/lang/IndexOutOfBoundsException" "java/lang/Object") ∈ lw_tbl := in_t6 _ (List.mem_of_getElem? (i := 147) (by decide +kernel))
theorem tw_6_148 : (Jvm.Cond.castable "CueBook$Cue" "java/lang/Object") ∈ lw_tbl := in_t6 _ (List.mem_of_getElem? (i := 148) (by decide +kernel))
theorem tw_6_149 : (Jvm.Cond.castable "java/lang/StringBuilder" "java/lang/Object") ∈ lw_tbl := in_t6 _ (List.mem_of_getElem? (i := 149) (by decide +kernel))
theorem tw_6_150 : (Jvm.Cond.castable "java/lang/String" "java/lang/Object") ∈ lw_tbl := in_t6 _ (List.mem_of_getElem? (i := 150) (by decide +kernel))
theorem tw_6_151 : (Jvm.Cond.castable "CueBook$Path" "java/lang/Object") ∈ lw_tbl := in_t6 _ (List.mem_of_getElem? (i := 151) (by decide +kernel))
theorem tw_6_152 : (Jvm.Cond.castable "CueBook$Stay" "java/lang/Object") ∈ lw_tbl := in_t6 _ (List.mem_of_getElem? (i := 152) (by decide +kernel))
theorem tw_6_153 : (Jvm.Cond.castable "java/lang/Throwable" "java/lang/Object") ∈ lw_tbl := in_t6 _ (List.mem_of_getElem? (i := 153) (by decide +kernel))
theorem tw_6_154 : (Jvm.Cond.sameMethod "[Ljava/lang/Object;" "java/lang/Object" "getClass" "()Ljava/lang/Class;") ∈ lw_tbl := in_t6 _ (List.mem_of_getElem? (i := 154) (by decide +kernel))
theorem tw_6_155 : (Jvm.Cond.selects "[Ljava/lang/Object;" ({ cls := "java/lang/Object", name := "getClass", desc := "()Ljava/lang/Class;" } : Jvm.MethodName) ({ cls := "java/lang/Object", name := "getClass", desc := "()Ljava/lang/Class;" } : Jvm.MethodName)) ∈ lw_tbl := in_t6 _ (List.mem_of_getElem? (i := 155) (by decide +kernel))
theorem tw_6_156 : (Jvm.Cond.declares ({ cls := "java/lang/Object", name := "getClass", desc := "()Ljava/lang/Class;" } : Jvm.MethodName)) ∈ lw_tbl := in_t6 _ (List.mem_of_getElem? (i := 156) (by decide +kernel))
theorem tw_6_157 : (Jvm.Cond.castable "[B" "java/lang/Object") ∈ lw_tbl := in_t6 _ (List.mem_of_getElem? (i := 157) (by decide +kernel))
theorem tw_6_158 : (Jvm.Cond.castable "[Ljava/lang/Object;" "java/lang/Object") ∈ lw_tbl := in_t6 _ (List.mem_of_getElem? (i := 158) (by decide +kernel))
theorem tw_6_159 : (Jvm.Cond.castable "[I" "java/lang/Object") ∈ lw_tbl := in_t6 _ (List.mem_of_getElem? (i := 159) (by decide +kernel))
theorem tw_6_160 : (Jvm.Cond.castable "[Z" "java/lang/Object") ∈ lw_tbl := in_t6 _ (List.mem_of_getElem? (i := 160) (by decide +kernel))
theorem tw_6_161 : (Jvm.Cond.castable "[J" "java/lang/Object") ∈ lw_tbl := in_t6 _ (List.mem_of_getElem? (i := 161) (by decide +kernel))
theorem tw_6_162 : (Jvm.Cond.castable "[D" "java/lang/Object") ∈ lw_tbl := in_t6 _ (List.mem_of_getElem? (i := 162) (by decide +kernel))
end
section
/-! ===== the pool: one world for all objects; a map for each field ===== -/
abbrev PS : Type := List Nat × (Nat → Nat) × (Nat → Nat → Int32) × (Nat → Nat → Option Nat) × (Nat → Nat) × (Nat → Nat → Int32) × (Nat → Nat → Int64) × (Nat → Nat → UInt64) × (Nat → Nat → Option Nat) × (Nat → Nat)
def pL (S : PS) : List Nat := S.1
def pK (S : PS) : Nat → Nat := S.2.1
def pI (S : PS) : Nat → Nat → Int32 := S.2.2.1
def pP (S : PS) : Nat → Nat → Option Nat := S.2.2.2.1
def pN (S : PS) : Nat → Nat := S.2.2.2.2.1
def pR (S : PS) : Nat → Nat → Int32 := S.2.2.2.2.2.1
def pRL (S : PS) : Nat → Nat → Int64 := S.2.2.2.2.2.2.1
def pRD (S : PS) : Nat → Nat → UInt64 := S.2.2.2.2.2.2.2.1
def pRP (S : PS) : Nat → Nat → Option Nat := S.2.2.2.2.2.2.2.2.1
def pW (S : PS) : Nat → Nat := S.2.2.2.2.2.2.2.2.2
def uI (S : PS) (f a : Nat) (v : Int32) : PS := (S.1, S.2.1, fun g b => if g = f then (if b = a then v else S.2.2.1 g b) else S.2.2.1 g b, S.2.2.2)
def uP (S : PS) (f a : Nat) (v : Option Nat) : PS := (S.1, S.2.1, S.2.2.1, fun g b => if g = f then (if b = a then v else S.2.2.2.1 g b) else S.2.2.2.1 g b, S.2.2.2.2)
def uR (S : PS) (a : Nat) (r : Nat → Int32) : PS := (S.1, S.2.1, S.2.2.1, S.2.2.2.1, S.2.2.2.2.1, va_up S.2.2.2.2.2.1 a r, S.2.2.2.2.2.2)
def uRL (S : PS) (a : Nat) (r : Nat → Int64) : PS := (S.1, S.2.1, S.2.2.1, S.2.2.2.1, S.2.2.2.2.1, S.2.2.2.2.2.1, va_up S.2.2.2.2.2.2.1 a r, S.2.2.2.2.2.2.2)
def uRD (S : PS) (a : Nat) (r : Nat → UInt64) : PS := (S.1, S.2.1, S.2.2.1, S.2.2.2.1, S.2.2.2.2.1, S.2.2.2.2.2.1, S.2.2.2.2.2.2.1, va_up S.2.2.2.2.2.2.2.1 a r, S.2.2.2.2.2.2.2.2)
def uRP (S : PS) (a : Nat) (r : Nat → Option Nat) : PS := (S.1, S.2.1, S.2.2.1, S.2.2.2.1, S.2.2.2.2.1, S.2.2.2.2.2.1, S.2.2.2.2.2.2.1, S.2.2.2.2.2.2.2.1, va_up S.2.2.2.2.2.2.2.2.1 a r, S.2.2.2.2.2.2.2.2.2)
def uW (S : PS) (a o : Nat) : PS := (S.1, S.2.1, S.2.2.1, S.2.2.2.1, S.2.2.2.2.1, S.2.2.2.2.2.1, S.2.2.2.2.2.2.1, S.2.2.2.2.2.2.2.1, S.2.2.2.2.2.2.2.2.1, va_up S.2.2.2.2.2.2.2.2.2 a o)
/-- a new object of kind k -/
def nO (S : PS) (q k : Nat) : PS := (S.1 ++ [q], va_up S.2.1 q k, fun g b => if b = q then 0 else S.2.2.1 g b, fun g b => if b = q then none else S.2.2.2.1 g b, S.2.2.2.2)
/-- a new array of kind k and length n -/
def nA (S : PS) (q k n : Nat) : PS := (S.1 ++ [q], va_up S.2.1 q k, S.2.2.1, S.2.2.2.1, va_up S.2.2.2.2.1 q n, va_up S.2.2.2.2.2.1 q (fun _ => 0), va_up S.2.2.2.2.2.2.1 q (fun _ => 0), va_up S.2.2.2.2.2.2.2.1 q (fun _ => 0), va_up S.2.2.2.2.2.2.2.2.1 q (fun _ => none), S.2.2.2.2.2.2.2.2.2)
def al (S : PS) (a k : Nat) : Prop := a ∈ pL S ∧ pK S a = k
/-- fields: how many a kind has, and which are references -/
def kN : Nat → Nat
  | 0 => 9 | 1 => 7 | 2 => 3 | 3 => 8 | 4 => 4 | 5 => 8 | 6 => 22 | _ => 3
def kref : Nat → List Bool
  | 0 => [false, true, false, false, false, false, false, false, false]
  | 1 => [false, false, false, false, false, false, false]
  | 2 => [false, false, true]
  | 3 => [false, false, false, false, true, true, true, true]
  | 4 => [true, false, false, false]
  | 5 => [true, true, true, true, false, false, false, false]
  | 6 => [false, false, true, true, false, true, true, false, true, true, false, true, true, true, false, true, true, true, true, true, true, true]
  | _ => [false, true, false]
def fvs : PS → Nat → Nat → Nat → List Bool → List Value
  | _, _, _, _, [] => []
  | S, k, a, j, r :: rs => (if r then va_rf (pP S (32 * k + j) a) else .int (pI S (32 * k + j) a)) :: fvs S k a (j + 1) rs
def PFo (cy : Nat → ClassId) (S : PS) (a : Nat) : va_E :=
  if pK S a < 8 then .inr (pK S a, fvs S (pK S a) a 0 (kref (pK S a)))
  else if pK S a = 8 then .inl (cy 0, (pN S a, .inl (pR S a)))
  else if pK S a = 9 then .inl (cy 1, (pN S a, .inl (pR S a)))
  else if pK S a = 10 then .inl (cy 2, (pN S a, .inr (.inl (pRL S a))))
  else if pK S a = 11 then .inl (cy 3, (pN S a, .inr (.inr (.inr (.inl (pRD S a))))))
  else .inl (cy 4, (pN S a, .inr (.inr (.inr (.inr (pRP S a))))))
abbrev gcl : List vw_C := [(RX0, TX0, 9), (RX1, TX1, 7), (RX2, TX2, 3), (RX3, TX3, 8), (RX4, TX4, 4), (RX5, TX5, 8), (RX6, TX6, 22), (RJx4a65c, TJx4a65c, 3)]
abbrev atys (cy : Nat → ClassId) : List (ClassId × FieldType) := [(cy 0, .int), (cy 1, .boolean), (cy 2, .long), (cy 3, .double), (cy 4, .object "java/lang/Object")]
abbrev pw (cy : Nat → ClassId) (S : PS) : va_W := va_pl (pL S) (PFo cy S)
theorem fvs_get (S : PS) (k a : Nat) : ∀ (rs : List Bool) (j i : Nat) (r : Bool), rs[i]? = some r → (fvs S k a j rs)[i]? = some (if r then va_rf (pP S (32 * k + (j + i)) a) else .int (pI S (32 * k + (j + i)) a)) := by
  intro rs
  induction rs with
  | nil => intro j i r h; simp at h
  | cons b bs ih =>
    intro j i r h
    cases i with
    | zero => simp at h; subst h; simp [fvs]
    | succ i =>
      simp at h
      have := ih (j + 1) i r h
      rw [show j + (i + 1) = j + 1 + i by omega]
      simpa [fvs] using this
theorem fvs_len (S : PS) (k a : Nat) : ∀ (rs : List Bool) (j : Nat), (fvs S k a j rs).length = rs.length := by
  intro rs
  induction rs with
  | nil => intro j; rfl
  | cons b bs ih => intro j; simp [fvs, ih]
theorem fvs_ext {S S' : PS} {k a : Nat} : ∀ (rs : List Bool) (j : Nat), (∀ i, j ≤ i → i < j + rs.length → pI S' (32 * k + i) a = pI S (32 * k + i) a ∧ pP S' (32 * k + i) a = pP S (32 * k + i) a) → fvs S' k a j rs = fvs S k a j rs := by
  intro rs
  induction rs with
  | nil => intro j h; rfl
  | cons b bs ih =>
    intro j h
    obtain ⟨h1, h2⟩ := h j (Nat.le_refl _) (by simp)
    simp only [fvs, h1, h2]
    rw [ih (j + 1) (fun i hi hj => h i (by omega) (by simp at hj ⊢; omega))]
theorem kref_len (k : Nat) (h : k < 8) : (kref k).length ≤ 32 := by
  match k, h with
  | 0, _ => decide | 1, _ => decide | 2, _ => decide | 3, _ => decide | 4, _ => decide | 5, _ => decide | 6, _ => decide | 7, _ => decide
  | n + 8, h => omega
theorem fid_inj {k k' i i' : Nat} (hi : i < 32) (hi' : i' < 32) (h : 32 * k + i = 32 * k' + i') : k = k' ∧ i = i' := by omega
/-- a field of ints set: what a cell holds then -/
theorem PFo_uI (cy : Nat → ClassId) (S : PS) {a k i : Nat} (hk : pK S a = k) (h8 : k < 8) (hi : (kref k)[i]? = some false) (v : Int32) : ∀ b, va_up (PFo cy S) a (.inr (k, (fvs S k a 0 (kref k)).set i (.int v))) b = PFo cy (uI S (32 * k + i) a v) b := by
  have hl := kref_len k h8
  have hil : i < (kref k).length := (List.getElem?_eq_some_iff.mp hi).1
  intro b
  by_cases hb : b = a
  · subst hb
    rw [va_up_self]
    unfold PFo
    have e1 : pK (uI S (32 * k + i) b v) b = k := hk
    rw [e1, if_pos h8]
    congr 2
    apply List.ext_getElem?
    intro j
    by_cases hj : j = i
    · subst hj
      rw [List.getElem?_set_self (by rw [fvs_len]; exact hil), fvs_get _ _ _ _ _ _ _ hi]
      simp [pI, uI]
    · rw [List.getElem?_set_ne (Ne.symm hj)]
      cases hr : (kref k)[j]? with
      | none =>
        have h0 : (kref k).length ≤ j := by simpa using hr
        rw [List.getElem?_eq_none (by rw [fvs_len]; exact h0), List.getElem?_eq_none (by rw [fvs_len]; exact h0)]
      | some r =>
        rw [fvs_get _ _ _ _ _ _ _ hr, fvs_get _ _ _ _ _ _ _ hr]
        have hne : ¬ 32 * k + (0 + j) = 32 * k + i := by omega
        cases r
        · simp [pI, uI, hj]
        · rfl
  · rw [va_up_ne _ _ hb]
    unfold PFo
    have e1 : pK (uI S (32 * k + i) a v) b = pK S b := rfl
    have e2 : fvs (uI S (32 * k + i) a v) (pK S b) b 0 (kref (pK S b)) = fvs S (pK S b) b 0 (kref (pK S b)) := by
      refine fvs_ext _ _ (fun j _ _ => ⟨?_, rfl⟩)
      simp only [pI, uI, if_neg hb]
      split <;> rfl
    rw [e1, e2]
    rfl
theorem PFo_uP (cy : Nat → ClassId) (S : PS) {a k i : Nat} (hk : pK S a = k) (h8 : k < 8) (hi : (kref k)[i]? = some true) (v : Option Nat) : ∀ b, va_up (PFo cy S) a (.inr (k, (fvs S k a 0 (kref k)).set i (va_rf v))) b = PFo cy (uP S (32 * k + i) a v) b := by
  have hl := kref_len k h8
  have hil : i < (kref k).length := (List.getElem?_eq_some_iff.mp hi).1
  intro b
  by_cases hb : b = a
  · subst hb
    rw [va_up_self]
    unfold PFo
    have e1 : pK (uP S (32 * k + i) b v) b = k := hk
    rw [e1, if_pos h8]
    congr 2
    apply List.ext_getElem?
    intro j
    by_cases hj : j = i
    · subst hj
      rw [List.getElem?_set_self (by rw [fvs_len]; exact hil), fvs_get _ _ _ _ _ _ _ hi]
      simp [pP, uP]
    · rw [List.getElem?_set_ne (Ne.symm hj)]
      cases hr : (kref k)[j]? with
      | none =>
        have h0 : (kref k).length ≤ j := by simpa using hr
        rw [List.getElem?_eq_none (by rw [fvs_len]; exact h0), List.getElem?_eq_none (by rw [fvs_len]; exact h0)]
      | some r =>
        rw [fvs_get _ _ _ _ _ _ _ hr, fvs_get _ _ _ _ _ _ _ hr]
        have hne : ¬ 32 * k + (0 + j) = 32 * k + i := by omega
        cases r
        · rfl
        · simp [pP, uP, hj]
  · rw [va_up_ne _ _ hb]
    unfold PFo
    have e1 : pK (uP S (32 * k + i) a v) b = pK S b := rfl
    have e2 : fvs (uP S (32 * k + i) a v) (pK S b) b 0 (kref (pK S b)) = fvs S (pK S b) b 0 (kref (pK S b)) := by
      refine fvs_ext _ _ (fun j _ _ => ⟨rfl, ?_⟩)
      simp only [pP, uP, if_neg hb]
      split <;> rfl
    rw [e1, e2]
    rfl
theorem fvs_zero (S : PS) (k q : Nat) (hI : ∀ f, pI S f q = 0) (hP : ∀ f, pP S f q = none) : ∀ (rs : List Bool) (j : Nat), fvs S k q j rs = rs.map (fun r => if r then Value.null else .int 0) := by
  intro rs
  induction rs with
  | nil => intro j; rfl
  | cons b bs ih =>
    intro j
    simp only [fvs, List.map_cons, ih, hI, hP]
    cases b <;> rfl
theorem PFo_nO (cy : Nat → ClassId) (S : PS) {q k : Nat} (h8 : k < 8) : ∀ b, va_up (PFo cy S) q (.inr (k, (kref k).map (fun r => if r then Value.null else .int 0))) b = PFo cy (nO S q k) b := by
  intro b
  by_cases hb : b = q
  · subst hb
    rw [va_up_self]
    unfold PFo
    have e1 : pK (nO S b k) b = k := va_up_self _ _ _
    rw [e1, if_pos h8, fvs_zero]
    · intro f; simp [pI, nO]
    · intro f; simp [pP, nO]
  · rw [va_up_ne _ _ hb]
    unfold PFo
    have e1 : pK (nO S q k) b = pK S b := va_up_ne _ _ hb
    have e2 : fvs (nO S q k) (pK S b) b 0 (kref (pK S b)) = fvs S (pK S b) b 0 (kref (pK S b)) := by
      refine fvs_ext _ _ (fun j _ _ => ⟨?_, ?_⟩)
      · simp [pI, nO, hb]
      · simp [pP, nO, hb]
    rw [e1, e2]
    rfl
/-- the cell of a new array -/
def aE (cy : Nat → ClassId) (k n : Nat) : va_E :=
  if k = 8 then .inl (cy 0, (n, .inl (fun _ => 0)))
  else if k = 9 then .inl (cy 1, (n, .inl (fun _ => 0)))
  else if k = 10 then .inl (cy 2, (n, .inr (.inl (fun _ => 0))))
  else if k = 11 then .inl (cy 3, (n, .inr (.inr (.inr (.inl (fun _ => 0))))))
  else .inl (cy 4, (n, .inr (.inr (.inr (.inr (fun _ => none))))))
theorem PFo_nA (cy : Nat → ClassId) (S : PS) {q k n : Nat} (h8 : 8 ≤ k) : ∀ b, va_up (PFo cy S) q (aE cy k n) b = PFo cy (nA S q k n) b := by
  intro b
  by_cases hb : b = q
  · subst hb
    rw [va_up_self]
    unfold PFo aE
    have e1 : pK (nA S b k n) b = k := va_up_self _ _ _
    have e2 : pN (nA S b k n) b = n := va_up_self _ _ _
    have e3 : pR (nA S b k n) b = fun _ => 0 := va_up_self _ _ _
    have e4 : pRL (nA S b k n) b = fun _ => 0 := va_up_self _ _ _
    have e5 : pRD (nA S b k n) b = fun _ => 0 := va_up_self _ _ _
    have e6 : pRP (nA S b k n) b = fun _ => none := va_up_self _ _ _
    rw [e1, e2, e3, e4, e5, e6, if_neg (show ¬ k < 8 by omega)]
  · rw [va_up_ne _ _ hb]
    unfold PFo
    have e1 : pK (nA S q k n) b = pK S b := va_up_ne _ _ hb
    have e0 : pN (nA S q k n) b = pN S b := va_up_ne _ _ hb
    have e3 : pR (nA S q k n) b = pR S b := va_up_ne _ _ hb
    have e4 : pRL (nA S q k n) b = pRL S b := va_up_ne _ _ hb
    have e5 : pRD (nA S q k n) b = pRD S b := va_up_ne _ _ hb
    have e6 : pRP (nA S q k n) b = pRP S b := va_up_ne _ _ hb
    have e2 : fvs (nA S q k n) (pK S b) b 0 (kref (pK S b)) = fvs S (pK S b) b 0 (kref (pK S b)) := fvs_ext _ _ (fun j _ _ => ⟨rfl, rfl⟩)
    rw [e1, e2, e0, e3, e4, e5, e6]
theorem PFo_uR (cy : Nat → ClassId) (S : PS) {a k : Nat} (hk : pK S a = k) (h8 : k = 8 ∨ k = 9) (r : Nat → Int32) : ∀ b, va_up (PFo cy S) a (.inl (cy (k - 8), (pN S a, .inl r))) b = PFo cy (uR S a r) b := by
  intro b
  by_cases hb : b = a
  · subst hb
    rw [va_up_self]
    unfold PFo
    have e1 : pK (uR S b r) b = k := hk
    have e3 : pR (uR S b r) b = r := va_up_self _ _ _
    rw [e1, e3]
    rcases h8 with rfl | rfl
    · simp; rfl
    · simp; rfl
  · rw [va_up_ne _ _ hb]
    unfold PFo
    have e1 : pK (uR S a r) b = pK S b := rfl
    have e3 : pR (uR S a r) b = pR S b := va_up_ne _ _ hb
    have e2 : fvs (uR S a r) (pK S b) b 0 (kref (pK S b)) = fvs S (pK S b) b 0 (kref (pK S b)) := fvs_ext _ _ (fun _ _ _ => ⟨rfl, rfl⟩)
    rw [e1, e2, e3]
    rfl
theorem PFo_uRL (cy : Nat → ClassId) (S : PS) {a : Nat} (hk : pK S a = 10) (r : Nat → Int64) : ∀ b, va_up (PFo cy S) a (.inl (cy 2, (pN S a, .inr (.inl r)))) b = PFo cy (uRL S a r) b := by
  intro b
  by_cases hb : b = a
  · subst hb
    rw [va_up_self]
    unfold PFo
    have e1 : pK (uRL S b r) b = 10 := hk
    have e3 : pRL (uRL S b r) b = r := va_up_self _ _ _
    rw [e1, e3]
    simp; rfl
  · rw [va_up_ne _ _ hb]
    unfold PFo
    have e1 : pK (uRL S a r) b = pK S b := rfl
    have e3 : pRL (uRL S a r) b = pRL S b := va_up_ne _ _ hb
    have e2 : fvs (uRL S a r) (pK S b) b 0 (kref (pK S b)) = fvs S (pK S b) b 0 (kref (pK S b)) := fvs_ext _ _ (fun _ _ _ => ⟨rfl, rfl⟩)
    rw [e1, e2, e3]
    rfl
theorem PFo_uRD (cy : Nat → ClassId) (S : PS) {a : Nat} (hk : pK S a = 11) (r : Nat → UInt64) : ∀ b, va_up (PFo cy S) a (.inl (cy 3, (pN S a, .inr (.inr (.inr (.inl r)))))) b = PFo cy (uRD S a r) b := by
  intro b
  by_cases hb : b = a
  · subst hb
    rw [va_up_self]
    unfold PFo
    have e1 : pK (uRD S b r) b = 11 := hk
    have e3 : pRD (uRD S b r) b = r := va_up_self _ _ _
    rw [e1, e3]
    simp; rfl
  · rw [va_up_ne _ _ hb]
    unfold PFo
    have e1 : pK (uRD S a r) b = pK S b := rfl
    have e3 : pRD (uRD S a r) b = pRD S b := va_up_ne _ _ hb
    have e2 : fvs (uRD S a r) (pK S b) b 0 (kref (pK S b)) = fvs S (pK S b) b 0 (kref (pK S b)) := fvs_ext _ _ (fun _ _ _ => ⟨rfl, rfl⟩)
    rw [e1, e2, e3]
    rfl
theorem PFo_uRP (cy : Nat → ClassId) (S : PS) {a : Nat} (hk : pK S a = 12) (r : Nat → Option Nat) : ∀ b, va_up (PFo cy S) a (.inl (cy 4, (pN S a, .inr (.inr (.inr (.inr r)))))) b = PFo cy (uRP S a r) b := by
  intro b
  by_cases hb : b = a
  · subst hb
    rw [va_up_self]
    unfold PFo
    have e1 : pK (uRP S b r) b = 12 := hk
    have e3 : pRP (uRP S b r) b = r := va_up_self _ _ _
    rw [e1, e3]
    simp; rfl
  · rw [va_up_ne _ _ hb]
    unfold PFo
    have e1 : pK (uRP S a r) b = pK S b := rfl
    have e3 : pRP (uRP S a r) b = pRP S b := va_up_ne _ _ hb
    have e2 : fvs (uRP S a r) (pK S b) b 0 (kref (pK S b)) = fvs S (pK S b) b 0 (kref (pK S b)) := fvs_ext _ _ (fun _ _ _ => ⟨rfl, rfl⟩)
    rw [e1, e2, e3]
    rfl
theorem PFo_obj (cy : Nat → ClassId) {S : PS} {a k : Nat} (h : al S a k) (h8 : k < 8) : PFo cy S a = .inr (k, fvs S k a 0 (kref k)) := by
  unfold PFo; rw [h.2, if_pos h8]
theorem PFo_I (cy : Nat → ClassId) {S : PS} {a : Nat} (h : al S a 8) : PFo cy S a = .inl (cy 0, (pN S a, .inl (pR S a))) := by unfold PFo; rw [h.2]; rfl
theorem PFo_Z (cy : Nat → ClassId) {S : PS} {a : Nat} (h : al S a 9) : PFo cy S a = .inl (cy 1, (pN S a, .inl (pR S a))) := by unfold PFo; rw [h.2]; rfl
theorem PFo_J (cy : Nat → ClassId) {S : PS} {a : Nat} (h : al S a 10) : PFo cy S a = .inl (cy 2, (pN S a, .inr (.inl (pRL S a)))) := by unfold PFo; rw [h.2]; rfl
theorem PFo_D (cy : Nat → ClassId) {S : PS} {a : Nat} (h : al S a 11) : PFo cy S a = .inl (cy 3, (pN S a, .inr (.inr (.inr (.inl (pRD S a)))))) := by unfold PFo; rw [h.2]; rfl
theorem PFo_Q (cy : Nat → ClassId) {S : PS} {a : Nat} (h : al S a 12) : PFo cy S a = .inl (cy 4, (pN S a, .inr (.inr (.inr (.inr (pRP S a)))))) := by unfold PFo; rw [h.2]; rfl
theorem pw_get (cy : Nat → ClassId) {S : PS} {a : Nat} (h : a ∈ pL S) : ∃ k : Nat, (pw cy S)[k]? = some (a, PFo cy S a) := by
  apply List.getElem?_of_mem
  exact List.mem_map.mpr ⟨a, h, rfl⟩
theorem pw_set {cy : Nat → ClassId} {A : Nat → Prop} {S : PS} {a k : Nat} {e : va_E} (hD : va_D A (pw cy S)) (h : a ∈ pL S) (hk : (pw cy S)[k]? = some (a, PFo cy S a)) : (pw cy S).set k (a, e) = va_pl (pL S) (va_up (PFo cy S) a e) :=
  va_pl_set (X := []) hD h hk
end
section
/-! ===== the judgement over the pool, and a row for each instruction ===== -/
/-- what all walks stand on: the law's start, the class numbers, the array classes' numbers, the launch, the script's address, the empty row of lists -/
abbrev GBase : Type := State × va_G × (Nat → ClassId) × Launch × Nat × Nat
def bS (Γ : GBase) : State := Γ.1
def bD (Γ : GBase) : va_G := Γ.2.1
def bC (Γ : GBase) : Nat → ClassId := Γ.2.2.1
def bL (Γ : GBase) : Launch := Γ.2.2.2.1
def bB (Γ : GBase) : Nat := Γ.2.2.2.2.1
def bE (Γ : GBase) : Nat := Γ.2.2.2.2.2
def AA (Γ : GBase) : Nat → Prop := fun q => (bS Γ).heap.size ≤ q
/-- what holds at the law's start -/
def FB (Γ : GBase) : Prop := (∀ w ∈ lw_tbl, w.before #[Value.ref (bB Γ)] (bS Γ) = true) ∧ va_K (bD Γ) gcl (atys (bC Γ)) (bS Γ) ∧ (bL Γ).flags = flags0 ∧ (Jvm.Cond.and given_1 narrow_1).before #[Value.ref (bB Γ)] (bS Γ) = true ∧ va_Z "java/util/ArrayList" "DEFAULTCAPACITY_EMPTY_ELEMENTDATA" "[Ljava/lang/Object;" (.ref (bE Γ)) (AA Γ) (bS Γ) (bS Γ).heap ∧ va_T (.object "java/lang/Object") (bE Γ) 0 (fun _ => .null) (AA Γ) (bS Γ) (bS Γ).heap
/-- the world at a state -/
def GU (Γ : GBase) (S : PS) (U : State) : Prop := (bS Γ).WarmedH U.vm ∧ (bS Γ).heap.size ≤ U.heap.size ∧ (∀ q : Nat, q < (bS Γ).heap.size → U.heap[q]? = (bS Γ).heap[q]?) ∧ va_P (bD Γ) gcl (pw (bC Γ) S) U.heap ∧ va_D (AA Γ) (pw (bC Γ) S)
abbrev Cx : Type := Program × Env × Room × State × MethodId × Array Value × List Frame × Method × Code × (State → Prop)
def rmv (lvl mc ms : Nat) : Room := { frames := 20 * (lvl + 1), cells := mc, slots := ms, locals := 400 * (lvl + 1) }
/-- what a body stands on -/
def GC (Γ : GBase) (X : Cx) (cc : ByteArray) (nL : Nat) (own : String) (lvl mc ms : Nat) : Prop :=
  X.1.tables.exec = Jvm.exec ∧ X.2.2.2.2.2.2.2.2.1.code = cc ∧ X.2.2.2.2.2.2.2.2.1.maxLocals = nL ∧ X.2.2.2.1.vm.findClass own = some X.2.2.2.2.1.cls ∧ (bS Γ).WarmedH X.2.2.2.1.vm ∧ (bS Γ).heap.size ≤ X.2.2.2.1.heap.size ∧ (∀ q : Nat, q < (bS Γ).heap.size → X.2.2.2.1.heap[q]? = (bS Γ).heap[q]?) ∧ FB Γ ∧ X.2.2.2.2.2.2.2.1.locks = false ∧ 20 * (lvl + 1) ≤ X.2.2.1.frames ∧ 400 * (lvl + 1) ≤ X.2.2.1.locals ∧ X.2.2.1.cells = mc ∧ X.2.2.1.slots = ms
theorem GC.hx {Γ : GBase} {X : Cx} {cc : ByteArray} {nL : Nat} {own : String} {lvl mc ms : Nat} (C : GC Γ X cc nL own lvl mc ms) : X.1.tables.exec = Jvm.exec := C.1
theorem GC.hb {Γ : GBase} {X : Cx} {cc : ByteArray} {nL : Nat} {own : String} {lvl mc ms : Nat} (C : GC Γ X cc nL own lvl mc ms) : X.2.2.2.2.2.2.2.2.1.code = cc := C.2.1
theorem GC.hml {Γ : GBase} {X : Cx} {cc : ByteArray} {nL : Nat} {own : String} {lvl mc ms : Nat} (C : GC Γ X cc nL own lvl mc ms) : X.2.2.2.2.2.2.2.2.1.maxLocals = nL := C.2.2.1
theorem GC.hown {Γ : GBase} {X : Cx} {cc : ByteArray} {nL : Nat} {own : String} {lvl mc ms : Nat} (C : GC Γ X cc nL own lvl mc ms) : X.2.2.2.1.vm.findClass own = some X.2.2.2.2.1.cls := C.2.2.2.1
theorem GC.hW {Γ : GBase} {X : Cx} {cc : ByteArray} {nL : Nat} {own : String} {lvl mc ms : Nat} (C : GC Γ X cc nL own lvl mc ms) : (bS Γ).WarmedH X.2.2.2.1.vm := C.2.2.2.2.1
theorem GC.hN {Γ : GBase} {X : Cx} {cc : ByteArray} {nL : Nat} {own : String} {lvl mc ms : Nat} (C : GC Γ X cc nL own lvl mc ms) : (bS Γ).heap.size ≤ X.2.2.2.1.heap.size := C.2.2.2.2.2.1
theorem GC.hq {Γ : GBase} {X : Cx} {cc : ByteArray} {nL : Nat} {own : String} {lvl mc ms : Nat} (C : GC Γ X cc nL own lvl mc ms) : ∀ q : Nat, q < (bS Γ).heap.size → X.2.2.2.1.heap[q]? = (bS Γ).heap[q]? := C.2.2.2.2.2.2.1
theorem GC.F {Γ : GBase} {X : Cx} {cc : ByteArray} {nL : Nat} {own : String} {lvl mc ms : Nat} (C : GC Γ X cc nL own lvl mc ms) : FB Γ := C.2.2.2.2.2.2.2.1
theorem GC.locks {Γ : GBase} {X : Cx} {cc : ByteArray} {nL : Nat} {own : String} {lvl mc ms : Nat} (C : GC Γ X cc nL own lvl mc ms) : X.2.2.2.2.2.2.2.1.locks = false := C.2.2.2.2.2.2.2.2.1
theorem GC.rf {Γ : GBase} {X : Cx} {cc : ByteArray} {nL : Nat} {own : String} {lvl mc ms : Nat} (C : GC Γ X cc nL own lvl mc ms) : 20 * (lvl + 1) ≤ X.2.2.1.frames := C.2.2.2.2.2.2.2.2.2.1
theorem GC.rl {Γ : GBase} {X : Cx} {cc : ByteArray} {nL : Nat} {own : String} {lvl mc ms : Nat} (C : GC Γ X cc nL own lvl mc ms) : 400 * (lvl + 1) ≤ X.2.2.1.locals := C.2.2.2.2.2.2.2.2.2.2.1
theorem GC.rc {Γ : GBase} {X : Cx} {cc : ByteArray} {nL : Nat} {own : String} {lvl mc ms : Nat} (C : GC Γ X cc nL own lvl mc ms) : X.2.2.1.cells = mc := C.2.2.2.2.2.2.2.2.2.2.2.1
theorem GC.rs {Γ : GBase} {X : Cx} {cc : ByteArray} {nL : Nat} {own : String} {lvl mc ms : Nat} (C : GC Γ X cc nL own lvl mc ms) : X.2.2.1.slots = ms := C.2.2.2.2.2.2.2.2.2.2.2.2
theorem GC.tw {Γ : GBase} {X : Cx} {cc : ByteArray} {nL : Nat} {own : String} {lvl mc ms : Nat} (C : GC Γ X cc nL own lvl mc ms) {w : Cond} (h : w ∈ lw_tbl) (g : goodWord w = true) : w.before X.2.2.2.2.2.1 X.2.2.2.1 = true := word_at C.hW (good_of_word g) (C.F.1 w h)
theorem GC.hK {Γ : GBase} {X : Cx} {cc : ByteArray} {nL : Nat} {own : String} {lvl mc ms : Nat} (C : GC Γ X cc nL own lvl mc ms) : va_K (bD Γ) gcl (atys (bC Γ)) X.2.2.2.1 := va_K.moved C.hW.alike C.F.2.1
theorem GC.hA {Γ : GBase} {X : Cx} {cc : ByteArray} {nL : Nat} {own : String} {lvl mc ms : Nat} (C : GC Γ X cc nL own lvl mc ms) : ∀ q, X.2.2.2.1.heap.size ≤ q → AA Γ q := fun _ h => Nat.le_trans C.hN h
/-- locals: the first entry of a place counts -/
def lk : List (Nat × Value) → Nat → Option Value
  | [], _ => none
  | (j, v) :: l, i => if j = i then some v else lk l i
def lh (ls : Array Slot) (n : Nat) (loc : List (Nat × Value)) : Prop := ls.size = n ∧ lv_wf ls ∧ ∀ i v, lk loc i = some v → ls[i]? = some (.val v)
/-- nothing of two slots ends at the place i -/
def oks (loc : List (Nat × Value)) : Nat → Bool
  | 0 => true
  | i + 1 => match lk loc i with
    | some w => w.category == 1
    | none => true
def lsub (loc : List (Nat × Value)) : List (Nat × Value) → Prop
  | [] => True
  | (i, v) :: r => lk loc i = some v ∧ lsub loc r
theorem lsub_lk {loc : List (Nat × Value)} : ∀ {l : List (Nat × Value)}, lsub loc l → ∀ i v, lk l i = some v → lk loc i = some v := by
  intro l
  induction l with
  | nil => intro _ i v h; simp [lk] at h
  | cons q r ih =>
    obtain ⟨j, w⟩ := q
    intro h i v hv
    simp only [lk] at hv
    by_cases hj : j = i
    · rw [if_pos hj] at hv
      cases hv
      rw [← hj]
      exact h.1
    · rw [if_neg hj] at hv
      exact ih h.2 i v hv
theorem lh_sub {ls : Array Slot} {n : Nat} {loc l : List (Nat × Value)} (h : lh ls n loc) (hs : lsub loc l) : lh ls n l := ⟨h.1, h.2.1, fun i v hv => h.2.2 i v (lsub_lk hs i v hv)⟩
def leff (loc : List (Nat × Value)) : List (Nat × Value) := loc.filterMap (fun q => (lk loc q.1).map (fun v => (q.1, v)))
theorem leff_mem {loc : List (Nat × Value)} {i : Nat} {v : Value} (h : lk loc i = some v) : (i, v) ∈ leff loc := by
  have h2 : ∃ w, (i, w) ∈ loc := by
    have : ∀ (l : List (Nat × Value)), lk l i = some v → ∃ w, (i, w) ∈ l := by
      intro l
      induction l with
      | nil => intro h; simp [lk] at h
      | cons q r ih =>
        obtain ⟨j, w⟩ := q
        intro h
        simp only [lk] at h
        by_cases hj : j = i
        · exact ⟨w, by rw [hj]; exact List.mem_cons_self⟩
        · rw [if_neg hj] at h
          obtain ⟨w', hw⟩ := ih h
          exact ⟨w', List.mem_cons_of_mem _ hw⟩
    exact this loc h
  obtain ⟨w, hw⟩ := h2
  exact List.mem_filterMap.mpr ⟨(i, w), hw, by simp [h]⟩
theorem lh_has {ls : Array Slot} {n : Nat} {loc : List (Nat × Value)} (h : lh ls n loc) : lv_has ls n (leff loc) := by
  refine ⟨h.1, h.2.1, fun q hq => ?_⟩
  obtain ⟨p, -, hp⟩ := List.mem_filterMap.mp hq
  cases hv : lk loc p.1 with
  | none => rw [hv] at hp; cases hp
  | some v => rw [hv] at hp; cases hp; exact h.2.2 _ _ hv
theorem has_lh1 {ls : Array Slot} {n : Nat} {loc : List (Nat × Value)} {i : Nat} {v : Value} (ho : oks loc i = true) (h : lv_has ls n ((i, v) :: (leff loc).filter (fun q => !(q.1 == i) && !(q.1 + 1 == i && q.2.category == 2)))) : lh ls n ((i, v) :: loc) := by
  refine ⟨h.1, h.2.1, fun j w hw => ?_⟩
  simp only [lk] at hw
  by_cases hj : i = j
  · rw [if_pos hj] at hw
    cases hw
    rw [← hj]
    exact h.2.2 _ List.mem_cons_self
  · rw [if_neg hj] at hw
    refine h.2.2 (j, w) (List.mem_cons_of_mem _ (List.mem_filter.mpr ⟨leff_mem hw, ?_⟩))
    have hji : ¬ j = i := fun q => hj q.symm
    simp only [Bool.and_eq_true, Bool.not_eq_true', beq_eq_false_iff_ne, ne_eq, hji, not_false_eq_true, true_and, Bool.and_eq_false_iff]
    by_cases hji2 : j + 1 = i
    · right
      subst hji2
      simp only [oks, hw, beq_iff_eq] at ho
      omega
    · exact Or.inl hji2
theorem has_lh2 {ls : Array Slot} {n : Nat} {loc : List (Nat × Value)} {i : Nat} {v : Value} (ho : oks loc i = true) (hn : lk loc (i + 1) = none) (h : lv_has ls n ((i, v) :: (leff loc).filter (fun q => !(q.1 == i) && (!(q.1 == i + 1) && !(q.1 + 1 == i && q.2.category == 2))))) : lh ls n ((i, v) :: loc) := by
  refine ⟨h.1, h.2.1, fun j w hw => ?_⟩
  simp only [lk] at hw
  by_cases hj : i = j
  · rw [if_pos hj] at hw
    cases hw
    rw [← hj]
    exact h.2.2 _ List.mem_cons_self
  · rw [if_neg hj] at hw
    refine h.2.2 (j, w) (List.mem_cons_of_mem _ (List.mem_filter.mpr ⟨leff_mem hw, ?_⟩))
    have hji : ¬ j = i := fun q => hj q.symm
    have hj1 : ¬ j = i + 1 := fun q => by rw [q, hn] at hw; cases hw
    simp only [Bool.and_eq_true, Bool.not_eq_true', beq_eq_false_iff_ne, ne_eq, hji, hj1, not_false_eq_true, true_and, Bool.and_eq_false_iff]
    by_cases hji2 : j + 1 = i
    · right
      subst hji2
      simp only [oks, hw, beq_iff_eq] at ho
      omega
    · exact Or.inl hji2
theorem lh_entry (vs : List Value) {n : Nat} (h : (lg_sl vs).length ≤ n) : lh ((lg_sl vs ++ List.replicate (n - (lg_sl vs).length) Slot.unset).toArray) n (lv_args 0 vs) := by
  have h1 := lv_entry vs h
  refine ⟨h1.1, h1.2.1, fun i v hv => ?_⟩
  have : ∀ (l : List (Nat × Value)), lk l i = some v → (i, v) ∈ l := by
    intro l
    induction l with
    | nil => intro h; simp [lk] at h
    | cons q r ih =>
      obtain ⟨j, w⟩ := q
      intro h
      simp only [lk] at h
      by_cases hj : j = i
      · rw [if_pos hj] at h
        cases h
        rw [hj]
        exact List.mem_cons_self
      · rw [if_neg hj] at h
        exact List.mem_cons_of_mem _ (ih h)
  exact h1.2.2 _ (this _ hv)
/-- the judgement: pool S, k cells and n slots made so far, the frame at pc -/
def GW (Γ : GBase) (X : Cx) (S : PS) (k n pc : Nat) (loc : List (Nat × Value)) (st : List Value) : Prop :=
  ∀ (H : Heap) (locs : List Loc) (ls : Array Slot), va_P (bD Γ) gcl (pw (bC Γ) S) H → va_D (AA Γ) (pw (bC Γ) S) → va_S (AA Γ) X.2.2.2.1.heap H locs → lh ls X.2.2.2.2.2.2.2.2.1.maxLocals loc →
    W X.1 (bL Γ) X.2.1 X.2.2.1 X.2.2.2.1 X.2.2.2.2.1 X.2.2.2.2.2.1 X.2.2.2.2.2.2.1 X.2.2.2.2.2.2.2.1 X.2.2.2.2.2.2.2.2.1 H locs k n X.2.2.2.2.2.2.2.2.2 (F0 X.2.2.2.2.1 pc ls st)
section GRows
variable {Γ : GBase} {X : Cx} {cc : ByteArray} {nL : Nat} {own : String} {lvl mc ms : Nat} {S : PS} {k n pc : Nat} {loc : List (Nat × Value)} {st : List Value}
theorem g_pc {pc' : Nat} (h : pc = pc') (kk : GW Γ X S k n pc' loc st) : GW Γ X S k n pc loc st := h ▸ kk
theorem g_sub (l : List (Nat × Value)) (hs : lsub loc l) (kk : GW Γ X S k n pc l st) : GW Γ X S k n pc loc st := fun H locs ls hP hD hS hl => kk H locs ls hP hD hS (lh_sub hl hs)
theorem g_widen (k' n' : Nat) (h1 : k ≤ k') (h2 : n ≤ n') (kk : GW Γ X S k' n' pc loc st) : GW Γ X S k n pc loc st := fun H locs ls hP hD hS hl => W.widen h1 h2 (kk H locs ls hP hD hS hl)

theorem g_iconst (C : GC Γ X cc nL own lvl mc ms) {i : Int} {v : Int32} (d : decode cc pc = .ok (.iconst i, 1)) (h : Int32.ofInt i = v) (kk : GW Γ X S k n (pc + 1) loc (.int v :: st)) : GW Γ X S k n pc loc (st) := fun H locs ls hP hD hS hl => lv_iconst C.hx C.hb d h (kk H locs ls hP hD hS hl)
theorem g_bipush (C : GC Γ X cc nL own lvl mc ms) {i : Int} {v : Int32} (d : decode cc pc = .ok (.bipush i, 2)) (h : (Int8.ofInt i).toInt32 = v) (kk : GW Γ X S k n (pc + 2) loc (.int v :: st)) : GW Γ X S k n pc loc (st) := fun H locs ls hP hD hS hl => lv_bipush C.hx C.hb d h (kk H locs ls hP hD hS hl)
theorem g_sipush (C : GC Γ X cc nL own lvl mc ms) {i : Int} {v : Int32} (d : decode cc pc = .ok (.sipush i, 3)) (h : (Int16.ofInt i).toInt32 = v) (kk : GW Γ X S k n (pc + 3) loc (.int v :: st)) : GW Γ X S k n pc loc (st) := fun H locs ls hP hD hS hl => lv_sipush C.hx C.hb d h (kk H locs ls hP hD hS hl)
theorem g_lconst (C : GC Γ X cc nL own lvl mc ms) {i : Fin 2} {v : Int64} (d : decode cc pc = .ok (.lconst i, 1)) (h : Int64.ofNat (i : Nat) = v) (kk : GW Γ X S k n (pc + 1) loc (.long v :: st)) : GW Γ X S k n pc loc (st) := fun H locs ls hP hD hS hl => lv_lconst C.hx C.hb d h (kk H locs ls hP hD hS hl)
theorem g_dconst0 (C : GC Γ X cc nL own lvl mc ms)  (d : decode cc pc = .ok (.dconst 0, 1))  (kk : GW Γ X S k n (pc + 1) loc (.double 0 :: st)) : GW Γ X S k n pc loc (st) := fun H locs ls hP hD hS hl => lv_dconst0 C.hx C.hb d  (kk H locs ls hP hD hS hl)
theorem g_null (C : GC Γ X cc nL own lvl mc ms)  (d : decode cc pc = .ok (.aconst_null, 1))  (kk : GW Γ X S k n (pc + 1) loc (.null :: st)) : GW Γ X S k n pc loc (st) := fun H locs ls hP hD hS hl => lv_null C.hx C.hb d  (kk H locs ls hP hD hS hl)
theorem g_iload (C : GC Γ X cc nL own lvl mc ms) {i : Nat} {x : Int32} (d : decode cc pc = .ok (.iload i, 2)) (h : lk loc i = some (.int x)) (kk : GW Γ X S k n (pc + 2) loc (.int x :: st)) : GW Γ X S k n pc loc (st) := fun H locs ls hP hD hS hl => lv_iload C.hx C.hb d (hl.2.2 i _ h) (kk H locs ls hP hD hS hl)
theorem g_iload_n (C : GC Γ X cc nL own lvl mc ms) {i : Nat} {j : Fin 4} {x : Int32} (d : decode cc pc = .ok (.iload_n j, 1)) (hi : (j : Nat) = i) (h : lk loc i = some (.int x)) (kk : GW Γ X S k n (pc + 1) loc (.int x :: st)) : GW Γ X S k n pc loc (st) := fun H locs ls hP hD hS hl => lv_iload_n C.hx C.hb d hi (hl.2.2 i _ h) (kk H locs ls hP hD hS hl)
theorem g_lload (C : GC Γ X cc nL own lvl mc ms) {i : Nat} {x : Int64} (d : decode cc pc = .ok (.lload i, 2)) (h : lk loc i = some (.long x)) (kk : GW Γ X S k n (pc + 2) loc (.long x :: st)) : GW Γ X S k n pc loc (st) := fun H locs ls hP hD hS hl => lv_lload C.hx C.hb d (hl.2.2 i _ h) (kk H locs ls hP hD hS hl)
theorem g_lload_n (C : GC Γ X cc nL own lvl mc ms) {i : Nat} {j : Fin 4} {x : Int64} (d : decode cc pc = .ok (.lload_n j, 1)) (hi : (j : Nat) = i) (h : lk loc i = some (.long x)) (kk : GW Γ X S k n (pc + 1) loc (.long x :: st)) : GW Γ X S k n pc loc (st) := fun H locs ls hP hD hS hl => lv_lload_n C.hx C.hb d hi (hl.2.2 i _ h) (kk H locs ls hP hD hS hl)
theorem g_dload (C : GC Γ X cc nL own lvl mc ms) {i : Nat} {x : UInt64} (d : decode cc pc = .ok (.dload i, 2)) (h : lk loc i = some (.double x)) (kk : GW Γ X S k n (pc + 2) loc (.double x :: st)) : GW Γ X S k n pc loc (st) := fun H locs ls hP hD hS hl => lv_dload C.hx C.hb d (hl.2.2 i _ h) (kk H locs ls hP hD hS hl)
theorem g_dload_n (C : GC Γ X cc nL own lvl mc ms) {i : Nat} {j : Fin 4} {x : UInt64} (d : decode cc pc = .ok (.dload_n j, 1)) (hi : (j : Nat) = i) (h : lk loc i = some (.double x)) (kk : GW Γ X S k n (pc + 1) loc (.double x :: st)) : GW Γ X S k n pc loc (st) := fun H locs ls hP hD hS hl => lv_dload_n C.hx C.hb d hi (hl.2.2 i _ h) (kk H locs ls hP hD hS hl)
theorem g_aload (C : GC Γ X cc nL own lvl mc ms) {i : Nat} {x : Nat} (d : decode cc pc = .ok (.aload i, 2)) (h : lk loc i = some (.ref x)) (kk : GW Γ X S k n (pc + 2) loc (.ref x :: st)) : GW Γ X S k n pc loc (st) := fun H locs ls hP hD hS hl => lv_aload C.hx C.hb d (hl.2.2 i _ h) (kk H locs ls hP hD hS hl)
theorem g_aload_n (C : GC Γ X cc nL own lvl mc ms) {i : Nat} {j : Fin 4} {x : Nat} (d : decode cc pc = .ok (.aload_n j, 1)) (hi : (j : Nat) = i) (h : lk loc i = some (.ref x)) (kk : GW Γ X S k n (pc + 1) loc (.ref x :: st)) : GW Γ X S k n pc loc (st) := fun H locs ls hP hD hS hl => lv_aload_n C.hx C.hb d hi (hl.2.2 i _ h) (kk H locs ls hP hD hS hl)
theorem g_aloadN (C : GC Γ X cc nL own lvl mc ms) {i : Nat} (d : decode cc pc = .ok (.aload i, 2)) (h : lk loc i = some .null) (kk : GW Γ X S k n (pc + 2) loc (.null :: st)) : GW Γ X S k n pc loc (st) := fun H locs ls hP hD hS hl => lv_aloadN C.hx C.hb d (hl.2.2 i _ h) (kk H locs ls hP hD hS hl)
theorem g_aload_nN (C : GC Γ X cc nL own lvl mc ms) {i : Nat} {j : Fin 4} (d : decode cc pc = .ok (.aload_n j, 1)) (hi : (j : Nat) = i) (h : lk loc i = some .null) (kk : GW Γ X S k n (pc + 1) loc (.null :: st)) : GW Γ X S k n pc loc (st) := fun H locs ls hP hD hS hl => lv_aload_nN C.hx C.hb d hi (hl.2.2 i _ h) (kk H locs ls hP hD hS hl)
theorem g_istore (C : GC Γ X cc nL own lvl mc ms) {i : Nat} {x : Int32} (d : decode cc pc = .ok (.istore i, 2)) (hn : i < nL) (ho : oks loc i = true) (kk : GW Γ X S k n (pc + 2) ((i, .int x) :: loc) st) : GW Γ X S k n pc loc (.int x :: st) := fun H locs ls hP hD hS hl => lv_istore C.hx C.hb d (lh_has hl) (by rw [C.hml]; exact hn) rfl (fun ls' h' => kk H locs ls' hP hD hS (has_lh1 ho h'))
theorem g_istore_n (C : GC Γ X cc nL own lvl mc ms) {i : Nat} {j : Fin 4} {x : Int32} (d : decode cc pc = .ok (.istore_n j, 1)) (hi : (j : Nat) = i) (hn : i < nL) (ho : oks loc i = true) (kk : GW Γ X S k n (pc + 1) ((i, .int x) :: loc) st) : GW Γ X S k n pc loc (.int x :: st) := fun H locs ls hP hD hS hl => lv_istore_n C.hx C.hb d hi (lh_has hl) (by rw [C.hml]; exact hn) rfl (fun ls' h' => kk H locs ls' hP hD hS (has_lh1 ho h'))
theorem g_astore (C : GC Γ X cc nL own lvl mc ms) {i : Nat} {x : Nat} (d : decode cc pc = .ok (.astore i, 2)) (hn : i < nL) (ho : oks loc i = true) (kk : GW Γ X S k n (pc + 2) ((i, .ref x) :: loc) st) : GW Γ X S k n pc loc (.ref x :: st) := fun H locs ls hP hD hS hl => lv_astore C.hx C.hb d (lh_has hl) (by rw [C.hml]; exact hn) rfl (fun ls' h' => kk H locs ls' hP hD hS (has_lh1 ho h'))
theorem g_astore_n (C : GC Γ X cc nL own lvl mc ms) {i : Nat} {j : Fin 4} {x : Nat} (d : decode cc pc = .ok (.astore_n j, 1)) (hi : (j : Nat) = i) (hn : i < nL) (ho : oks loc i = true) (kk : GW Γ X S k n (pc + 1) ((i, .ref x) :: loc) st) : GW Γ X S k n pc loc (.ref x :: st) := fun H locs ls hP hD hS hl => lv_astore_n C.hx C.hb d hi (lh_has hl) (by rw [C.hml]; exact hn) rfl (fun ls' h' => kk H locs ls' hP hD hS (has_lh1 ho h'))
theorem g_lstore (C : GC Γ X cc nL own lvl mc ms) {i : Nat} {x : Int64} (d : decode cc pc = .ok (.lstore i, 2)) (hn : i + 1 < nL) (ho : oks loc i = true) (h2 : lk loc (i + 1) = none) (kk : GW Γ X S k n (pc + 2) ((i, .long x) :: loc) st) : GW Γ X S k n pc loc (.long x :: st) := fun H locs ls hP hD hS hl => lv_lstore C.hx C.hb d (lh_has hl) (by rw [C.hml]; exact hn) rfl (fun ls' h' => kk H locs ls' hP hD hS (has_lh2 ho h2 h'))
theorem g_lstore_n (C : GC Γ X cc nL own lvl mc ms) {i : Nat} {j : Fin 4} {x : Int64} (d : decode cc pc = .ok (.lstore_n j, 1)) (hi : (j : Nat) = i) (hn : i + 1 < nL) (ho : oks loc i = true) (h2 : lk loc (i + 1) = none) (kk : GW Γ X S k n (pc + 1) ((i, .long x) :: loc) st) : GW Γ X S k n pc loc (.long x :: st) := fun H locs ls hP hD hS hl => lv_lstore_n C.hx C.hb d hi (lh_has hl) (by rw [C.hml]; exact hn) rfl (fun ls' h' => kk H locs ls' hP hD hS (has_lh2 ho h2 h'))
theorem g_dstore (C : GC Γ X cc nL own lvl mc ms) {i : Nat} {x : UInt64} (d : decode cc pc = .ok (.dstore i, 2)) (hn : i + 1 < nL) (ho : oks loc i = true) (h2 : lk loc (i + 1) = none) (kk : GW Γ X S k n (pc + 2) ((i, .double x) :: loc) st) : GW Γ X S k n pc loc (.double x :: st) := fun H locs ls hP hD hS hl => lv_dstore C.hx C.hb d (lh_has hl) (by rw [C.hml]; exact hn) rfl (fun ls' h' => kk H locs ls' hP hD hS (has_lh2 ho h2 h'))
theorem g_dstore_n (C : GC Γ X cc nL own lvl mc ms) {i : Nat} {j : Fin 4} {x : UInt64} (d : decode cc pc = .ok (.dstore_n j, 1)) (hi : (j : Nat) = i) (hn : i + 1 < nL) (ho : oks loc i = true) (h2 : lk loc (i + 1) = none) (kk : GW Γ X S k n (pc + 1) ((i, .double x) :: loc) st) : GW Γ X S k n pc loc (.double x :: st) := fun H locs ls hP hD hS hl => lv_dstore_n C.hx C.hb d hi (lh_has hl) (by rw [C.hml]; exact hn) rfl (fun ls' h' => kk H locs ls' hP hD hS (has_lh2 ho h2 h'))
theorem g_iinc (C : GC Γ X cc nL own lvl mc ms) {i : Nat} {j : Int} {x v : Int32} (d : decode cc pc = .ok (.iinc i j, 3)) (h : lk loc i = some (.int x)) (hv : x + Int32.ofInt j = v) (hn : i < nL) (ho : oks loc i = true) (kk : GW Γ X S k n (pc + 3) ((i, .int v) :: loc) st) : GW Γ X S k n pc loc st := fun H locs ls hP hD hS hl => by
  obtain ⟨q, hq⟩ := List.getElem?_of_mem (leff_mem h)
  exact lv_iinc C.hx C.hb d (lh_has hl) (k := q) hq hv (by rw [C.hml]; exact hn) rfl (fun ls' h' => kk H locs ls' hP hD hS (has_lh1 ho h'))
theorem g_iadd (C : GC Γ X cc nL own lvl mc ms) {x y : Int32} (d : decode cc pc = .ok (.iadd, 1))  (kk : GW Γ X S k n (pc + 1) loc (.int (x + y) :: st)) : GW Γ X S k n pc loc (.int y :: .int x :: st) := fun H locs ls hP hD hS hl => lv_iadd C.hx C.hb d  (kk H locs ls hP hD hS hl)
theorem g_isub (C : GC Γ X cc nL own lvl mc ms) {x y : Int32} (d : decode cc pc = .ok (.isub, 1))  (kk : GW Γ X S k n (pc + 1) loc (.int (x - y) :: st)) : GW Γ X S k n pc loc (.int y :: .int x :: st) := fun H locs ls hP hD hS hl => lv_isub C.hx C.hb d  (kk H locs ls hP hD hS hl)
theorem g_imul (C : GC Γ X cc nL own lvl mc ms) {x y : Int32} (d : decode cc pc = .ok (.imul, 1))  (kk : GW Γ X S k n (pc + 1) loc (.int (x * y) :: st)) : GW Γ X S k n pc loc (.int y :: .int x :: st) := fun H locs ls hP hD hS hl => lv_imul C.hx C.hb d  (kk H locs ls hP hD hS hl)
theorem g_iand (C : GC Γ X cc nL own lvl mc ms) {x y : Int32} (d : decode cc pc = .ok (.iand, 1))  (kk : GW Γ X S k n (pc + 1) loc (.int (x &&& y) :: st)) : GW Γ X S k n pc loc (.int y :: .int x :: st) := fun H locs ls hP hD hS hl => lv_iand C.hx C.hb d  (kk H locs ls hP hD hS hl)
theorem g_ior (C : GC Γ X cc nL own lvl mc ms) {x y : Int32} (d : decode cc pc = .ok (.ior, 1))  (kk : GW Γ X S k n (pc + 1) loc (.int (x ||| y) :: st)) : GW Γ X S k n pc loc (.int y :: .int x :: st) := fun H locs ls hP hD hS hl => lv_ior C.hx C.hb d  (kk H locs ls hP hD hS hl)
theorem g_ladd (C : GC Γ X cc nL own lvl mc ms) {x y : Int64} (d : decode cc pc = .ok (.ladd, 1))  (kk : GW Γ X S k n (pc + 1) loc (.long (x + y) :: st)) : GW Γ X S k n pc loc (.long y :: .long x :: st) := fun H locs ls hP hD hS hl => lv_ladd C.hx C.hb d  (kk H locs ls hP hD hS hl)
theorem g_lmul (C : GC Γ X cc nL own lvl mc ms) {x y : Int64} (d : decode cc pc = .ok (.lmul, 1))  (kk : GW Γ X S k n (pc + 1) loc (.long (x * y) :: st)) : GW Γ X S k n pc loc (.long y :: .long x :: st) := fun H locs ls hP hD hS hl => lv_lmul C.hx C.hb d  (kk H locs ls hP hD hS hl)
theorem g_ishl (C : GC Γ X cc nL own lvl mc ms) {x y : Int32} (d : decode cc pc = .ok (.ishl, 1))  (kk : GW Γ X S k n (pc + 1) loc (.int (x <<< (y &&& 31)) :: st)) : GW Γ X S k n pc loc (.int y :: .int x :: st) := fun H locs ls hP hD hS hl => lv_ishl C.hx C.hb d  (kk H locs ls hP hD hS hl)
theorem g_ishr (C : GC Γ X cc nL own lvl mc ms) {x y : Int32} (d : decode cc pc = .ok (.ishr, 1))  (kk : GW Γ X S k n (pc + 1) loc (.int (x >>> (y &&& 31)) :: st)) : GW Γ X S k n pc loc (.int y :: .int x :: st) := fun H locs ls hP hD hS hl => lv_ishr C.hx C.hb d  (kk H locs ls hP hD hS hl)
theorem g_i2l (C : GC Γ X cc nL own lvl mc ms) {x : Int32} (d : decode cc pc = .ok (.i2l, 1))  (kk : GW Γ X S k n (pc + 1) loc (.long x.toInt64 :: st)) : GW Γ X S k n pc loc (.int x :: st) := fun H locs ls hP hD hS hl => lv_i2l C.hx C.hb d rfl (kk H locs ls hP hD hS hl)
theorem g_i2d (C : GC Γ X cc nL own lvl mc ms) {x : Int32} (d : decode cc pc = .ok (.i2d, 1))  (kk : GW Γ X S k n (pc + 1) loc (.double (FP.i2d x) :: st)) : GW Γ X S k n pc loc (.int x :: st) := fun H locs ls hP hD hS hl => lv_i2d C.hx C.hb d  (kk H locs ls hP hD hS hl)
theorem g_ddiv (C : GC Γ X cc nL own lvl mc ms) {x y : UInt64} (d : decode cc pc = .ok (.ddiv, 1)) (hne : vf_n64 (FP.ddiv x y)) (kk : GW Γ X S k n (pc + 1) loc (.double (FP.ddiv x y) :: st)) : GW Γ X S k n pc loc (.double y :: .double x :: st) := fun H locs ls hP hD hS hl => lv_ddiv C.hx C.hb d hne (kk H locs ls hP hD hS hl)
theorem g_lcmp (C : GC Γ X cc nL own lvl mc ms) {x y : Int64} (d : decode cc pc = .ok (.lcmp, 1))  (kk : GW Γ X S k n (pc + 1) loc (.int (lg_cmp x y) :: st)) : GW Γ X S k n pc loc (.long y :: .long x :: st) := fun H locs ls hP hD hS hl => W.lcmp C.hx C.hb d  (kk H locs ls hP hD hS hl)
theorem g_dcmp (C : GC Γ X cc nL own lvl mc ms) {x y : UInt64} {op : CmpOp} (d : decode cc pc = .ok (.dcmp op, 1))  (kk : GW Γ X S k n (pc + 1) loc (.int (Op.cmpValue (FP.dcmp x y) op) :: st)) : GW Γ X S k n pc loc (.double y :: .double x :: st) := fun H locs ls hP hD hS hl => lv_dcmp C.hx C.hb d  (kk H locs ls hP hD hS hl)
theorem g_dup (C : GC Γ X cc nL own lvl mc ms) {v : Value} (d : decode cc pc = .ok (.dup, 1)) (h : v.category = 1) (kk : GW Γ X S k n (pc + 1) loc (v :: v :: st)) : GW Γ X S k n pc loc (v :: st) := fun H locs ls hP hD hS hl => lv_dup C.hx C.hb d h (kk H locs ls hP hD hS hl)
theorem g_pop (C : GC Γ X cc nL own lvl mc ms) {v : Value} (d : decode cc pc = .ok (.pop, 1)) (h : v.category = 1) (kk : GW Γ X S k n (pc + 1) loc (st)) : GW Γ X S k n pc loc (v :: st) := fun H locs ls hP hD hS hl => lv_pop C.hx C.hb d h (kk H locs ls hP hD hS hl)
theorem g_dup_x1 (C : GC Γ X cc nL own lvl mc ms) {v w : Value} (d : decode cc pc = .ok (.dup_x1, 1)) (h : v.category = 1) (h2 : w.category = 1) (kk : GW Γ X S k n (pc + 1) loc (v :: w :: v :: st)) : GW Γ X S k n pc loc (v :: w :: st) := fun H locs ls hP hD hS hl => lv_dup_x1 C.hx C.hb d h h2 (kk H locs ls hP hD hS hl)
theorem g_dup_x2 (C : GC Γ X cc nL own lvl mc ms) {v w u : Value} (d : decode cc pc = .ok (.dup_x2, 1)) (h : v.category = 1) (h2 : w.category = 1) (h3 : u.category = 1) (kk : GW Γ X S k n (pc + 1) loc (v :: w :: u :: v :: st)) : GW Γ X S k n pc loc (v :: w :: u :: st) := fun H locs ls hP hD hS hl => lv_dup_x2 C.hx C.hb d h h2 h3 (kk H locs ls hP hD hS hl)
theorem g_dup2 (C : GC Γ X cc nL own lvl mc ms) {v w : Value} (d : decode cc pc = .ok (.dup2, 1)) (h : v.category = 1) (h2 : w.category = 1) (kk : GW Γ X S k n (pc + 1) loc (v :: w :: v :: w :: st)) : GW Γ X S k n pc loc (v :: w :: st) := fun H locs ls hP hD hS hl => lv_dup2_11 C.hx C.hb d h h2 (kk H locs ls hP hD hS hl)
theorem g_goto (C : GC Γ X cc nL own lvl mc ms) {off : Int} {tgt : Nat} (d : decode cc pc = .ok (.goto off, 3)) (ht : (pc : Int) + off = (tgt : Int)) (kk : GW Γ X S k n tgt loc st) : GW Γ X S k n pc loc st := fun H locs ls hP hD hS hl => lv_goto C.hx C.hb d ht (kk H locs ls hP hD hS hl)
theorem g_if_eq (C : GC Γ X cc nL own lvl mc ms) {x : Int32} {off : Int} {tgt : Nat} (d : decode cc pc = .ok (.ifCond .eq off, 3)) (ht : (pc : Int) + off = (tgt : Int)) (kt : x = 0 → GW Γ X S k n tgt loc st) (kf : ¬ (x = 0) → GW Γ X S k n (pc + 3) loc st) : GW Γ X S k n pc loc (.int x :: st) := fun H locs ls hP hD hS hl => lv_if_eq C.hx C.hb d ht (fun h => kt h H locs ls hP hD hS hl) (fun h => kf h H locs ls hP hD hS hl)
theorem g_icmp_eq (C : GC Γ X cc nL own lvl mc ms) {x y : Int32} {off : Int} {tgt : Nat} (d : decode cc pc = .ok (.if_icmp .eq off, 3)) (ht : (pc : Int) + off = (tgt : Int)) (kt : x = y → GW Γ X S k n tgt loc st) (kf : ¬ (x = y) → GW Γ X S k n (pc + 3) loc st) : GW Γ X S k n pc loc (.int y :: .int x :: st) := fun H locs ls hP hD hS hl => lv_icmp_eq C.hx C.hb d ht (fun h => kt h H locs ls hP hD hS hl) (fun h => kf h H locs ls hP hD hS hl)
theorem g_if_ne (C : GC Γ X cc nL own lvl mc ms) {x : Int32} {off : Int} {tgt : Nat} (d : decode cc pc = .ok (.ifCond .ne off, 3)) (ht : (pc : Int) + off = (tgt : Int)) (kt : ¬ x = 0 → GW Γ X S k n tgt loc st) (kf : x = 0 → GW Γ X S k n (pc + 3) loc st) : GW Γ X S k n pc loc (.int x :: st) := fun H locs ls hP hD hS hl => lv_if_ne C.hx C.hb d ht (fun h => kt h H locs ls hP hD hS hl) (fun h => kf h H locs ls hP hD hS hl)
theorem g_icmp_ne (C : GC Γ X cc nL own lvl mc ms) {x y : Int32} {off : Int} {tgt : Nat} (d : decode cc pc = .ok (.if_icmp .ne off, 3)) (ht : (pc : Int) + off = (tgt : Int)) (kt : ¬ x = y → GW Γ X S k n tgt loc st) (kf : x = y → GW Γ X S k n (pc + 3) loc st) : GW Γ X S k n pc loc (.int y :: .int x :: st) := fun H locs ls hP hD hS hl => lv_icmp_ne C.hx C.hb d ht (fun h => kt h H locs ls hP hD hS hl) (fun h => kf h H locs ls hP hD hS hl)
theorem g_if_lt (C : GC Γ X cc nL own lvl mc ms) {x : Int32} {off : Int} {tgt : Nat} (d : decode cc pc = .ok (.ifCond .lt off, 3)) (ht : (pc : Int) + off = (tgt : Int)) (kt : x < 0 → GW Γ X S k n tgt loc st) (kf : ¬ (x < 0) → GW Γ X S k n (pc + 3) loc st) : GW Γ X S k n pc loc (.int x :: st) := fun H locs ls hP hD hS hl => lv_if_lt C.hx C.hb d ht (fun h => kt h H locs ls hP hD hS hl) (fun h => kf h H locs ls hP hD hS hl)
theorem g_icmp_lt (C : GC Γ X cc nL own lvl mc ms) {x y : Int32} {off : Int} {tgt : Nat} (d : decode cc pc = .ok (.if_icmp .lt off, 3)) (ht : (pc : Int) + off = (tgt : Int)) (kt : x < y → GW Γ X S k n tgt loc st) (kf : ¬ (x < y) → GW Γ X S k n (pc + 3) loc st) : GW Γ X S k n pc loc (.int y :: .int x :: st) := fun H locs ls hP hD hS hl => lv_icmp_lt C.hx C.hb d ht (fun h => kt h H locs ls hP hD hS hl) (fun h => kf h H locs ls hP hD hS hl)
theorem g_if_ge (C : GC Γ X cc nL own lvl mc ms) {x : Int32} {off : Int} {tgt : Nat} (d : decode cc pc = .ok (.ifCond .ge off, 3)) (ht : (pc : Int) + off = (tgt : Int)) (kt : 0 ≤ x → GW Γ X S k n tgt loc st) (kf : ¬ (0 ≤ x) → GW Γ X S k n (pc + 3) loc st) : GW Γ X S k n pc loc (.int x :: st) := fun H locs ls hP hD hS hl => lv_if_ge C.hx C.hb d ht (fun h => kt h H locs ls hP hD hS hl) (fun h => kf h H locs ls hP hD hS hl)
theorem g_icmp_ge (C : GC Γ X cc nL own lvl mc ms) {x y : Int32} {off : Int} {tgt : Nat} (d : decode cc pc = .ok (.if_icmp .ge off, 3)) (ht : (pc : Int) + off = (tgt : Int)) (kt : y ≤ x → GW Γ X S k n tgt loc st) (kf : ¬ (y ≤ x) → GW Γ X S k n (pc + 3) loc st) : GW Γ X S k n pc loc (.int y :: .int x :: st) := fun H locs ls hP hD hS hl => lv_icmp_ge C.hx C.hb d ht (fun h => kt h H locs ls hP hD hS hl) (fun h => kf h H locs ls hP hD hS hl)
theorem g_if_gt (C : GC Γ X cc nL own lvl mc ms) {x : Int32} {off : Int} {tgt : Nat} (d : decode cc pc = .ok (.ifCond .gt off, 3)) (ht : (pc : Int) + off = (tgt : Int)) (kt : 0 < x → GW Γ X S k n tgt loc st) (kf : ¬ (0 < x) → GW Γ X S k n (pc + 3) loc st) : GW Γ X S k n pc loc (.int x :: st) := fun H locs ls hP hD hS hl => lv_if_gt C.hx C.hb d ht (fun h => kt h H locs ls hP hD hS hl) (fun h => kf h H locs ls hP hD hS hl)
theorem g_icmp_gt (C : GC Γ X cc nL own lvl mc ms) {x y : Int32} {off : Int} {tgt : Nat} (d : decode cc pc = .ok (.if_icmp .gt off, 3)) (ht : (pc : Int) + off = (tgt : Int)) (kt : y < x → GW Γ X S k n tgt loc st) (kf : ¬ (y < x) → GW Γ X S k n (pc + 3) loc st) : GW Γ X S k n pc loc (.int y :: .int x :: st) := fun H locs ls hP hD hS hl => lv_icmp_gt C.hx C.hb d ht (fun h => kt h H locs ls hP hD hS hl) (fun h => kf h H locs ls hP hD hS hl)
theorem g_if_le (C : GC Γ X cc nL own lvl mc ms) {x : Int32} {off : Int} {tgt : Nat} (d : decode cc pc = .ok (.ifCond .le off, 3)) (ht : (pc : Int) + off = (tgt : Int)) (kt : x ≤ 0 → GW Γ X S k n tgt loc st) (kf : ¬ (x ≤ 0) → GW Γ X S k n (pc + 3) loc st) : GW Γ X S k n pc loc (.int x :: st) := fun H locs ls hP hD hS hl => lv_if_le C.hx C.hb d ht (fun h => kt h H locs ls hP hD hS hl) (fun h => kf h H locs ls hP hD hS hl)
theorem g_icmp_le (C : GC Γ X cc nL own lvl mc ms) {x y : Int32} {off : Int} {tgt : Nat} (d : decode cc pc = .ok (.if_icmp .le off, 3)) (ht : (pc : Int) + off = (tgt : Int)) (kt : x ≤ y → GW Γ X S k n tgt loc st) (kf : ¬ (x ≤ y) → GW Γ X S k n (pc + 3) loc st) : GW Γ X S k n pc loc (.int y :: .int x :: st) := fun H locs ls hP hD hS hl => lv_icmp_le C.hx C.hb d ht (fun h => kt h H locs ls hP hD hS hl) (fun h => kf h H locs ls hP hD hS hl)
theorem g_acmp_eq (C : GC Γ X cc nL own lvl mc ms) {x y : Nat} {off : Int} {tgt : Nat} (d : decode cc pc = .ok (.if_acmp .eq off, 3)) (ht : (pc : Int) + off = (tgt : Int)) (kt : x = y → GW Γ X S k n tgt loc st) (kf : ¬ x = y → GW Γ X S k n (pc + 3) loc st) : GW Γ X S k n pc loc (.ref y :: .ref x :: st) := fun H locs ls hP hD hS hl => lv_acmp_eq (rx := some x) (ry := some y) C.hx C.hb d ht (fun h => kt (Option.some.inj h) H locs ls hP hD hS hl) (fun h => kf (fun q => h (congrArg some q)) H locs ls hP hD hS hl)
theorem g_tableIn (C : GC Γ X cc nL own lvl mc ms) {dflt lo hi : Int} {offs : Array Int} {len : Nat} {x : Int32} {off : Int} {tgt : Nat} (d : decode cc pc = .ok (.tableswitch dflt lo hi offs, len)) (h1 : ¬ x.toInt < lo) (h2 : ¬ hi < x.toInt) (ho : offs[(x.toInt - lo).toNat]? = some off) (ht : (pc : Int) + off = (tgt : Int)) (kk : GW Γ X S k n tgt loc st) : GW Γ X S k n pc loc (.int x :: st) := fun H locs ls hP hD hS hl => lv_tableIn C.hx C.hb d h1 h2 ho ht (kk H locs ls hP hD hS hl)
theorem g_tableOut (C : GC Γ X cc nL own lvl mc ms) {dflt lo hi : Int} {offs : Array Int} {len : Nat} {x : Int32} {tgt : Nat} (d : decode cc pc = .ok (.tableswitch dflt lo hi offs, len)) (h : x.toInt < lo ∨ hi < x.toInt) (ht : (pc : Int) + dflt = (tgt : Int)) (kk : GW Γ X S k n tgt loc st) : GW Γ X S k n pc loc (.int x :: st) := fun H locs ls hP hD hS hl => lv_tableOut C.hx C.hb d h ht (kk H locs ls hP hD hS hl)
theorem g_ldc2 (C : GC Γ X cc nL own lvl mc ms) {index : Nat} {v : Int64} (w : Cond.constantLong own index v ∈ lw_tbl) (d : decode cc pc = .ok (.ldc2_w index, 3)) (kk : GW Γ X S k n (pc + 3) loc (.long v :: st)) : GW Γ X S k n pc loc st := fun H locs ls hP hD hS hl => lv_ldc2 C.hx C.hb C.hown (C.tw w rfl) d (kk H locs ls hP hD hS hl)
theorem g_objInit (C : GC Γ X cc nL own lvl mc ms) {index a : Nat} (w : Cond.methodLink own index Lib.objectInit ∈ lw_tbl) (w2 : Cond.instanceMethod Lib.objectInit ∈ lw_tbl) (w3 : Cond.code Lib.objectInit ⟨#[0xb1]⟩ 1 none ∈ lw_tbl) (d : decode cc pc = .ok (.invokespecial index, 3)) (hr : (st.map fun v => v.category).sum ≤ 300) (kk : GW Γ X S k n (pc + 3) loc st) : GW Γ X S k n pc loc (.ref a :: st) := fun H locs ls hP hD hS hl => W.objInit C.hx C.hb C.hown (C.tw w rfl) (C.tw w2 rfl) (C.tw w3 rfl) rfl hl.1 rfl d (by have := C.rf; omega) (by have := C.rl; show 2 * 0 + _ + 12 ≤ _; omega) (kk H locs ls hP hD hS hl)
/-! fields -/
def KD (kk : Nat) (Cn : String) (T : u_T) (N : Nat) (ty : Nat → FieldType) : Prop := gcl[kk]? = some (Cn, T, N) ∧ (∀ w ∈ u_ws Cn T N, w ∈ lw_tbl ∧ goodWord w = true) ∧ (∀ j, j < N → parseFieldDescriptor (T j).2.2.1 = some (ty j)) ∧ (∀ a, a < N → ∀ b, b < N → a ≠ b → (T a).2.1 ≠ (T b).2.1) ∧ kk < 8 ∧ (kref kk).length = N ∧ (∀ j, j < N → defaultValue (ty j) = vp_V ((kref kk).map (fun r => if r then Value.null else .int 0)) j)
theorem KD.ts {kk : Nat} {Cn : String} {T : u_T} {N : Nat} {ty : Nat → FieldType} (h : KD kk Cn T N ty) (C : GC Γ X cc nL own lvl mc ms) : ∀ w ∈ u_ws Cn T N, w.before X.2.2.2.2.2.1 X.2.2.2.1 = true := fun w hw => C.tw (h.2.1 w hw).1 (h.2.1 w hw).2
theorem g_getI (C : GC Γ X cc nL own lvl mc ms) {kk : Nat} {Cn : String} {T : u_T} {N : Nat} {ty : Nat → FieldType} (h : KD kk Cn T N ty) {i index a : Nat} {ref : String} (hi : (kref kk)[i]? = some false) (hlink : Cond.fieldLink own index ref (T i).2.1 (T i).2.2.1 ∈ lw_tbl) (hsame : ref = (T i).1 ∨ Cond.sameField ref (T i).1 (T i).2.1 (T i).2.2.1 ∈ lw_tbl) (ha : al S a kk) {v : Int32} (hv : pI S (32 * kk + i) a = v) (d : decode cc pc = .ok (.getfield index, 3)) (q : GW Γ X S k n (pc + 3) loc (.int v :: st)) : GW Γ X S k n pc loc (.ref a :: st) := fun H locs ls hP hD hS hl => by
  obtain ⟨q0, hq⟩ := pw_get (bC Γ) ha.1
  rw [PFo_obj (bC Γ) ha h.2.2.2.2.1] at hq
  have hiN : i < N := by rw [← h.2.2.2.2.2.1]; exact (List.getElem?_eq_some_iff.mp hi).1
  refine va_get (own := own) (ref := ref) C.hx C.hb (h.ts C) (fun w hw => hw) C.hown C.hK hP q0 hq h.1 i hiN (C.tw hlink rfl) ?_ (v := .int v) ?_ d (q H locs ls hP hD hS hl)
  · rcases hsame with rfl | hs
    · exact fun _ h9 => h9
    · exact u_same (C.tw hs rfl)
  · rw [fvs_get _ _ _ _ _ _ _ hi]
    simp [← hv]
theorem g_getP (C : GC Γ X cc nL own lvl mc ms) {kk : Nat} {Cn : String} {T : u_T} {N : Nat} {ty : Nat → FieldType} (h : KD kk Cn T N ty) {i index a : Nat} (hi : (kref kk)[i]? = some true) (hlink : Cond.fieldLink own index (T i).1 (T i).2.1 (T i).2.2.1 ∈ lw_tbl) (ha : al S a kk) {v : Nat} (hv : pP S (32 * kk + i) a = some v) (d : decode cc pc = .ok (.getfield index, 3)) (q : GW Γ X S k n (pc + 3) loc (.ref v :: st)) : GW Γ X S k n pc loc (.ref a :: st) := fun H locs ls hP hD hS hl => by
  obtain ⟨q0, hq⟩ := pw_get (bC Γ) ha.1
  rw [PFo_obj (bC Γ) ha h.2.2.2.2.1] at hq
  have hiN : i < N := by rw [← h.2.2.2.2.2.1]; exact (List.getElem?_eq_some_iff.mp hi).1
  refine va_get (own := own) (ref := (T i).1) C.hx C.hb (h.ts C) (fun w hw => hw) C.hown C.hK hP q0 hq h.1 i hiN (C.tw hlink rfl) (fun _ h9 => h9) (v := .ref v) ?_ d (q H locs ls hP hD hS hl)
  rw [fvs_get _ _ _ _ _ _ _ hi]
  simp [hv, va_rf]
theorem pw_uI {cy : Nat → ClassId} {A : Nat → Prop} {a kk i q0 : Nat} (hD : va_D A (pw cy S)) (ha : al S a kk) (h8 : kk < 8) (hq : (pw cy S)[q0]? = some (a, PFo cy S a)) (hi : (kref kk)[i]? = some false) (v : Int32) : (pw cy S).set q0 (a, .inr (kk, (fvs S kk a 0 (kref kk)).set i (.int v))) = pw cy (uI S (32 * kk + i) a v) := by
  rw [pw_set hD ha.1 hq]
  exact va_pl_congr (PFo_uI cy S ha.2 h8 hi v)
theorem pw_uP {cy : Nat → ClassId} {A : Nat → Prop} {a kk i q0 : Nat} (hD : va_D A (pw cy S)) (ha : al S a kk) (h8 : kk < 8) (hq : (pw cy S)[q0]? = some (a, PFo cy S a)) (hi : (kref kk)[i]? = some true) (v : Option Nat) : (pw cy S).set q0 (a, .inr (kk, (fvs S kk a 0 (kref kk)).set i (va_rf v))) = pw cy (uP S (32 * kk + i) a v) := by
  rw [pw_set hD ha.1 hq]
  exact va_pl_congr (PFo_uP cy S ha.2 h8 hi v)
theorem g_putI (C : GC Γ X cc nL own lvl mc ms) {kk : Nat} {Cn : String} {T : u_T} {N : Nat} {ty : Nat → FieldType} (h : KD kk Cn T N ty) {i index a : Nat} {ref : String} (hi : (kref kk)[i]? = some false) (hlink : Cond.fieldLink own index ref (T i).2.1 (T i).2.2.1 ∈ lw_tbl) (hsame : ref = (T i).1 ∨ Cond.sameField ref (T i).1 (T i).2.1 (T i).2.2.1 ∈ lw_tbl) (hfin : (T i).2.2.2 = false ∨ ((T i).2.2.2 = true ∧ X.2.2.2.2.2.2.2.1.name = "<init>" ∧ (T i).1 = own ∧ ref = (T i).1)) (ha : al S a kk) {v : Int32} (hn : narrow (ty i) (.int v) = .int v) (hfit : fits (ty i) (.int v) = true) (d : decode cc pc = .ok (.putfield index, 3)) (q : GW Γ X (uI S (32 * kk + i) a v) k n (pc + 3) loc st) : GW Γ X S k n pc loc (.int v :: .ref a :: st) := fun H locs ls hP hD hS hl => by
  obtain ⟨q0, hq0⟩ := pw_get (bC Γ) ha.1
  have hq := hq0
  rw [PFo_obj (bC Γ) ha h.2.2.2.2.1] at hq
  have hiN : i < N := by rw [← h.2.2.2.2.2.1]; exact (List.getElem?_eq_some_iff.mp hi).1
  have hsame' : ∀ x, X.2.2.2.1.fieldFound? (T i).1 (T i).2.1 (T i).2.2.1 = some x → X.2.2.2.1.fieldFound? ref (T i).2.1 (T i).2.2.1 = some x := by
    rcases hsame with rfl | hs
    · exact fun _ h9 => h9
    · exact u_same (C.tw hs rfl)
  rcases hfin with hf | ⟨hf, hin, hdecl, href⟩
  · refine va_put (own := own) (ref := ref) C.hx C.hb (h.ts C) (fun w hw => hw) ty h.2.2.1 h.2.2.2.1 C.hown C.hK hP hD hS q0 hq h.1 i hiN (C.tw hlink rfl) hsame' hf (h.2.2.1 i hiN) hn hfit (by rw [fvs_len, h.2.2.2.2.2.1]; exact hiN) d (fun H1 locs1 hP1 hD1 hS1 => ?_)
    rw [pw_uI hD ha h.2.2.2.2.1 hq0 hi] at hP1 hD1
    exact q H1 locs1 ls hP1 hD1 hS1 hl
  · refine va_putF (own := own) (ref := ref) C.hx C.hb (h.ts C) (fun w hw => hw) ty h.2.2.1 h.2.2.2.1 C.hown C.hK hP hD hS q0 hq h.1 i hiN (C.tw hlink rfl) hsame' hf hin hdecl (h.2.2.1 i hiN) hn hfit (by rw [fvs_len, h.2.2.2.2.2.1]; exact hiN) d (fun H1 locs1 hP1 hD1 hS1 => ?_)
    rw [pw_uI hD ha h.2.2.2.2.1 hq0 hi] at hP1 hD1
    exact q H1 locs1 ls hP1 hD1 hS1 hl
theorem g_putP (C : GC Γ X cc nL own lvl mc ms) {kk : Nat} {Cn : String} {T : u_T} {N : Nat} {ty : Nat → FieldType} (h : KD kk Cn T N ty) {i index a : Nat} (hi : (kref kk)[i]? = some true) (hlink : Cond.fieldLink own index (T i).1 (T i).2.1 (T i).2.2.1 ∈ lw_tbl) (hfin : (T i).2.2.2 = false ∨ ((T i).2.2.2 = true ∧ X.2.2.2.2.2.2.2.1.name = "<init>" ∧ (T i).1 = own)) (ha : al S a kk) {v : Nat} (hn : narrow (ty i) (.ref v) = .ref v) (hfit : fits (ty i) (.ref v) = true) (d : decode cc pc = .ok (.putfield index, 3)) (q : GW Γ X (uP S (32 * kk + i) a (some v)) k n (pc + 3) loc st) : GW Γ X S k n pc loc (.ref v :: .ref a :: st) := fun H locs ls hP hD hS hl => by
  obtain ⟨q0, hq0⟩ := pw_get (bC Γ) ha.1
  have hq := hq0
  rw [PFo_obj (bC Γ) ha h.2.2.2.2.1] at hq
  have hiN : i < N := by rw [← h.2.2.2.2.2.1]; exact (List.getElem?_eq_some_iff.mp hi).1
  rcases hfin with hf | ⟨hf, hin, hdecl⟩
  · refine va_put (own := own) (ref := (T i).1) C.hx C.hb (h.ts C) (fun w hw => hw) ty h.2.2.1 h.2.2.2.1 C.hown C.hK hP hD hS q0 hq h.1 i hiN (C.tw hlink rfl) (fun _ h9 => h9) hf (h.2.2.1 i hiN) hn hfit (by rw [fvs_len, h.2.2.2.2.2.1]; exact hiN) d (fun H1 locs1 hP1 hD1 hS1 => ?_)
    have e := pw_uP (cy := bC Γ) hD ha h.2.2.2.2.1 hq0 hi (some v)
    simp only [va_rf] at e
    rw [e] at hP1 hD1
    exact q H1 locs1 ls hP1 hD1 hS1 hl
  · refine va_putF (own := own) (ref := (T i).1) C.hx C.hb (h.ts C) (fun w hw => hw) ty h.2.2.1 h.2.2.2.1 C.hown C.hK hP hD hS q0 hq h.1 i hiN (C.tw hlink rfl) (fun _ h9 => h9) hf hin hdecl (h.2.2.1 i hiN) hn hfit (by rw [fvs_len, h.2.2.2.2.2.1]; exact hiN) d (fun H1 locs1 hP1 hD1 hS1 => ?_)
    have e := pw_uP (cy := bC Γ) hD ha h.2.2.2.2.1 hq0 hi (some v)
    simp only [va_rf] at e
    rw [e] at hP1 hD1
    exact q H1 locs1 ls hP1 hD1 hS1 hl
theorem pw_fresh {cy : Nat → ClassId} {D : va_G} {H : Heap} (hP : va_P D gcl (pw cy S) H) {a : Nat} (h : H.size ≤ a) : a ∉ pL S := va_pl_fresh (X := []) hP h
theorem g_new (C : GC Γ X cc nL own lvl mc ms) {kk : Nat} {Cn : String} {T : u_T} {N : Nat} {ty : Nat → FieldType} (h : KD kk Cn T N ty) {index : Nat} (w1 : Cond.classLink own index Cn ∈ lw_tbl) (w2 : Cond.instantiable Cn N ∈ lw_tbl) (w3 : Cond.initialized Cn ∈ lw_tbl) (hk : k + 1 ≤ mc) (hn : n + N ≤ ms) (d : decode cc pc = .ok (.new index, 3)) (q : ∀ a : Nat, a ∉ pL S → GW Γ X (nO S a kk) (k + 1) (n + N) (pc + 3) loc (.ref a :: st)) : GW Γ X S k n pc loc st := fun H locs ls hP hD hS hl => by
  refine va_new (own := own) (ci := kk) (fs := (kref kk).map (fun r => if r then Value.null else .int 0)) C.hx C.hb (h.ts C) (fun w hw => hw) ty h.2.2.1 C.hown (C.tw w1 rfl) (C.tw w2 rfl) (C.tw w3 rfl) C.hK hP hD hS C.hA h.1 h.2.2.2.2.2.2 (by rw [C.rc]; exact hk) (by rw [C.rs]; exact hn) d (fun a H1 hP1 hD1 hS1 => ?_)
  have hf : a ∉ pL S := by
    intro hm
    obtain ⟨j, hj⟩ := pw_get (bC Γ) hm
    have hl2 : j < (pw (bC Γ) S).length := (List.getElem?_eq_some_iff.mp hj).1
    have e1 : (pw (bC Γ) S ++ [(a, .inr (kk, (kref kk).map (fun r => if r then Value.null else .int 0)))])[j]? = some (a, PFo (bC Γ) S a) := by rw [List.getElem?_append_left hl2]; exact hj
    have e2 : (pw (bC Γ) S ++ [(a, (.inr (kk, (kref kk).map (fun r => if r then Value.null else .int 0)) : va_E))])[(pw (bC Γ) S).length]? = some (a, .inr (kk, (kref kk).map (fun r => if r then Value.null else .int 0))) := by simp
    have := hD1.1 _ _ _ _ e1 e2 rfl
    omega
  have e : pw (bC Γ) S ++ [(a, (.inr (kk, (kref kk).map (fun r => if r then Value.null else .int 0)) : va_E))] = pw (bC Γ) (nO S a kk) := by
    rw [va_pl_push hf]
    exact va_pl_congr (PFo_nO (bC Γ) S h.2.2.2.2.1)
  rw [e] at hP1 hD1
  exact q a hf H1 locs ls hP1 hD1 hS1 hl

/-! arrays -/
theorem g_alen (C : GC Γ X cc nL own lvl mc ms) {a kk : Nat} (h8 : 8 ≤ kk) (ha : al S a kk) (d : decode cc pc = .ok (.arraylength, 1)) (q : GW Γ X S k n (pc + 1) loc (.int (nI (pN S a)) :: st)) : GW Γ X S k n pc loc (.ref a :: st) := fun H locs ls hP hD hS hl => by
  obtain ⟨q0, hq⟩ := pw_get (bC Γ) ha.1
  have h1 : ¬ kk < 8 := by omega
  unfold PFo at hq
  rw [ha.2, if_neg h1] at hq
  by_cases h2 : kk = 8
  · rw [if_pos h2] at hq
    exact va_alen C.hx C.hb C.hK hP q0 0 hq rfl rfl d (q H locs ls hP hD hS hl)
  · rw [if_neg h2] at hq
    by_cases h3 : kk = 9
    · rw [if_pos h3] at hq
      exact va_alen C.hx C.hb C.hK hP q0 1 hq rfl rfl d (q H locs ls hP hD hS hl)
    · rw [if_neg h3] at hq
      by_cases h4 : kk = 10
      · rw [if_pos h4] at hq
        exact va_alen C.hx C.hb C.hK hP q0 2 hq rfl rfl d (q H locs ls hP hD hS hl)
      · rw [if_neg h4] at hq
        by_cases h5 : kk = 11
        · rw [if_pos h5] at hq
          exact va_alen C.hx C.hb C.hK hP q0 3 hq rfl rfl d (q H locs ls hP hD hS hl)
        · rw [if_neg h5] at hq
          exact va_alen C.hx C.hb C.hK hP q0 4 hq rfl rfl d (q H locs ls hP hD hS hl)
theorem nI_vp {j N : Nat} (hj : j < N) (h31 : j < 2147483648) : vp_in (nI j) N := by
  intro h
  rw [nI_clamp (by omega)] at h
  rcases h with h | h
  · exact nI_pos (by omega) h
  · omega
theorem up_vup (f : Nat → Int32) (j : Nat) (v : Int32) : upd f j v = va_up f j v := rfl

theorem g_ldI (C : GC Γ X cc nL own lvl mc ms) {a j : Nat} {x : Int32} (hx : x = nI j) (ha : al S a 8) (hj : j < pN S a) (h31 : j < 2147483648) {v : Int32} (hv : pR S a j = v) (d : decode cc pc = .ok (.iaload, 1)) (q : GW Γ X S k n (pc + 1) loc (.int v :: st)) : GW Γ X S k n pc loc (.int x :: .ref a :: st) := fun H locs ls hP hD hS hl => by
  subst hx; subst hv
  obtain ⟨q0, hq⟩ := pw_get (bC Γ) ha.1
  rw [PFo_I (bC Γ) ha] at hq
  refine va_iald C.hx C.hb C.hK hP q0 0 hq rfl (nI_vp hj h31) d ?_
  rw [nI_clamp (by omega)]
  exact q H locs ls hP hD hS hl
theorem g_stI (C : GC Γ X cc nL own lvl mc ms) {a j : Nat} {x : Int32} {v : Int32} (hx : x = nI j) (ha : al S a 8) (hj : j < pN S a) (h31 : j < 2147483648) (d : decode cc pc = .ok (.iastore, 1)) (q : GW Γ X (uR S a (va_up (pR S a) j v)) k n (pc + 1) loc st) : GW Γ X S k n pc loc (.int v :: .int x :: .ref a :: st) := fun H locs ls hP hD hS hl => by
  subst hx
  obtain ⟨q0, hq0⟩ := pw_get (bC Γ) ha.1
  have hq := hq0
  rw [PFo_I (bC Γ) ha] at hq
  refine va_iast C.hx C.hb C.hK hP hD hS q0 0 hq rfl (nI_vp hj h31) d (fun H1 locs1 hP1 hD1 hS1 => ?_)
  rw [nI_clamp (by omega)] at hP1 hD1
  have e : ∀ r, (pw (bC Γ) S).set q0 (a, .inl (bC Γ 0, (pN S a, .inl r))) = pw (bC Γ) (uR S a r) := fun r => by
    rw [pw_set hD ha.1 hq0]
    exact va_pl_congr (PFo_uR (bC Γ) S ha.2 (Or.inl rfl) r)
  erw [e] at hP1 hD1
  exact q H1 locs1 ls hP1 hD1 hS1 hl
theorem g_ldZ (C : GC Γ X cc nL own lvl mc ms) {a j : Nat} {x : Int32} (hx : x = nI j) (ha : al S a 9) (hj : j < pN S a) (h31 : j < 2147483648) {v : Int32} (hv : pR S a j = v) (d : decode cc pc = .ok (.baload, 1)) (q : GW Γ X S k n (pc + 1) loc (.int v :: st)) : GW Γ X S k n pc loc (.int x :: .ref a :: st) := fun H locs ls hP hD hS hl => by
  subst hx; subst hv
  obtain ⟨q0, hq⟩ := pw_get (bC Γ) ha.1
  rw [PFo_Z (bC Γ) ha] at hq
  refine va_zald C.hx C.hb C.hK hP q0 1 hq rfl (nI_vp hj h31) d ?_
  rw [nI_clamp (by omega)]
  exact q H locs ls hP hD hS hl
theorem g_stZ (C : GC Γ X cc nL own lvl mc ms) {a j : Nat} {x : Int32} {v : Int32} (hz : v = 0 ∨ v = 1) (hx : x = nI j) (ha : al S a 9) (hj : j < pN S a) (h31 : j < 2147483648) (d : decode cc pc = .ok (.bastore, 1)) (q : GW Γ X (uR S a (va_up (pR S a) j v)) k n (pc + 1) loc st) : GW Γ X S k n pc loc (.int v :: .int x :: .ref a :: st) := fun H locs ls hP hD hS hl => by
  subst hx
  obtain ⟨q0, hq0⟩ := pw_get (bC Γ) ha.1
  have hq := hq0
  rw [PFo_Z (bC Γ) ha] at hq
  refine va_zast C.hx C.hb C.hK hP hD hS q0 1 hq rfl (nI_vp hj h31) d (fun H1 locs1 hP1 hD1 hS1 => ?_)
  rw [nI_clamp (by omega)] at hP1 hD1
  rw [show vp_nar .boolean v = v by rcases hz with rfl | rfl <;> rfl] at hP1 hD1
  have e : ∀ r, (pw (bC Γ) S).set q0 (a, .inl (bC Γ 1, (pN S a, .inl r))) = pw (bC Γ) (uR S a r) := fun r => by
    rw [pw_set hD ha.1 hq0]
    exact va_pl_congr (PFo_uR (bC Γ) S ha.2 (Or.inr rfl) r)
  erw [e] at hP1 hD1
  exact q H1 locs1 ls hP1 hD1 hS1 hl
theorem g_ldJ (C : GC Γ X cc nL own lvl mc ms) {a j : Nat} {x : Int32} (hx : x = nI j) (ha : al S a 10) (hj : j < pN S a) (h31 : j < 2147483648) {v : Int64} (hv : pRL S a j = v) (d : decode cc pc = .ok (.laload, 1)) (q : GW Γ X S k n (pc + 1) loc (.long v :: st)) : GW Γ X S k n pc loc (.int x :: .ref a :: st) := fun H locs ls hP hD hS hl => by
  subst hx; subst hv
  obtain ⟨q0, hq⟩ := pw_get (bC Γ) ha.1
  rw [PFo_J (bC Γ) ha] at hq
  refine va_lald C.hx C.hb C.hK hP q0 2 hq rfl (nI_vp hj h31) d ?_
  rw [nI_clamp (by omega)]
  exact q H locs ls hP hD hS hl
theorem g_stJ (C : GC Γ X cc nL own lvl mc ms) {a j : Nat} {x : Int32} {v : Int64} (hx : x = nI j) (ha : al S a 10) (hj : j < pN S a) (h31 : j < 2147483648) (d : decode cc pc = .ok (.lastore, 1)) (q : GW Γ X (uRL S a (va_up (pRL S a) j v)) k n (pc + 1) loc st) : GW Γ X S k n pc loc (.long v :: .int x :: .ref a :: st) := fun H locs ls hP hD hS hl => by
  subst hx
  obtain ⟨q0, hq0⟩ := pw_get (bC Γ) ha.1
  have hq := hq0
  rw [PFo_J (bC Γ) ha] at hq
  refine va_last C.hx C.hb C.hK hP hD hS q0 2 hq rfl (nI_vp hj h31) d (fun H1 locs1 hP1 hD1 hS1 => ?_)
  rw [nI_clamp (by omega)] at hP1 hD1
  have e : ∀ r, (pw (bC Γ) S).set q0 (a, .inl (bC Γ 2, (pN S a, .inr (.inl r)))) = pw (bC Γ) (uRL S a r) := fun r => by
    rw [pw_set hD ha.1 hq0]
    exact va_pl_congr (PFo_uRL (bC Γ) S ha.2 r)
  erw [e] at hP1 hD1
  exact q H1 locs1 ls hP1 hD1 hS1 hl
theorem g_ldD (C : GC Γ X cc nL own lvl mc ms) {a j : Nat} {x : Int32} (hx : x = nI j) (ha : al S a 11) (hj : j < pN S a) (h31 : j < 2147483648) {v : UInt64} (hv : pRD S a j = v) (d : decode cc pc = .ok (.daload, 1)) (q : GW Γ X S k n (pc + 1) loc (.double v :: st)) : GW Γ X S k n pc loc (.int x :: .ref a :: st) := fun H locs ls hP hD hS hl => by
  subst hx; subst hv
  obtain ⟨q0, hq⟩ := pw_get (bC Γ) ha.1
  rw [PFo_D (bC Γ) ha] at hq
  refine va_dald C.hx C.hb C.hK hP q0 3 hq rfl (nI_vp hj h31) d ?_
  rw [nI_clamp (by omega)]
  exact q H locs ls hP hD hS hl
theorem g_stD (C : GC Γ X cc nL own lvl mc ms) {a j : Nat} {x : Int32} {v : UInt64} (hx : x = nI j) (ha : al S a 11) (hj : j < pN S a) (h31 : j < 2147483648) (d : decode cc pc = .ok (.dastore, 1)) (q : GW Γ X (uRD S a (va_up (pRD S a) j v)) k n (pc + 1) loc st) : GW Γ X S k n pc loc (.double v :: .int x :: .ref a :: st) := fun H locs ls hP hD hS hl => by
  subst hx
  obtain ⟨q0, hq0⟩ := pw_get (bC Γ) ha.1
  have hq := hq0
  rw [PFo_D (bC Γ) ha] at hq
  refine va_dast C.hx C.hb C.hK hP hD hS q0 3 hq rfl (nI_vp hj h31) d (fun H1 locs1 hP1 hD1 hS1 => ?_)
  rw [nI_clamp (by omega)] at hP1 hD1
  have e : ∀ r, (pw (bC Γ) S).set q0 (a, .inl (bC Γ 3, (pN S a, .inr (.inr (.inr (.inl r)))))) = pw (bC Γ) (uRD S a r) := fun r => by
    rw [pw_set hD ha.1 hq0]
    exact va_pl_congr (PFo_uRD (bC Γ) S ha.2 r)
  erw [e] at hP1 hD1
  exact q H1 locs1 ls hP1 hD1 hS1 hl
theorem g_ldQ (C : GC Γ X cc nL own lvl mc ms) {a j : Nat} {x : Int32} (hx : x = nI j) (ha : al S a 12) (hj : j < pN S a) (h31 : j < 2147483648) {v : Nat} (hv : pRP S a j = some v) (d : decode cc pc = .ok (.aaload, 1)) (q : GW Γ X S k n (pc + 1) loc (.ref v :: st)) : GW Γ X S k n pc loc (.int x :: .ref a :: st) := fun H locs ls hP hD hS hl => by
  subst hx
  obtain ⟨q0, hq⟩ := pw_get (bC Γ) ha.1
  rw [PFo_Q (bC Γ) ha] at hq
  refine va_aldq C.hx C.hb C.hK hP q0 4 hq rfl (nI_vp hj h31) d ?_
  rw [nI_clamp (by omega), hv]
  exact q H locs ls hP hD hS hl
theorem g_stQN (C : GC Γ X cc nL own lvl mc ms) {a j : Nat} {x : Int32} (hx : x = nI j) (ha : al S a 12) (hj : j < pN S a) (h31 : j < 2147483648) (d : decode cc pc = .ok (.aastore, 1)) (q : GW Γ X (uRP S a (va_up (pRP S a) j none)) k n (pc + 1) loc st) : GW Γ X S k n pc loc (.null :: .int x :: .ref a :: st) := fun H locs ls hP hD hS hl => by
  subst hx
  obtain ⟨q0, hq0⟩ := pw_get (bC Γ) ha.1
  have hq := hq0
  rw [PFo_Q (bC Γ) ha] at hq
  refine va_astqN C.hx C.hb C.hK hP hD hS q0 4 hq rfl (nI_vp hj h31) d (fun H1 locs1 hP1 hD1 hS1 => ?_)
  rw [nI_clamp (by omega)] at hP1 hD1
  have e : ∀ r, (pw (bC Γ) S).set q0 (a, .inl (bC Γ 4, (pN S a, .inr (.inr (.inr (.inr r)))))) = pw (bC Γ) (uRP S a r) := fun r => by
    rw [pw_set hD ha.1 hq0]
    exact va_pl_congr (PFo_uRP (bC Γ) S ha.2 r)
  rw [e] at hP1 hD1
  exact q H1 locs1 ls hP1 hD1 hS1 hl
/-- a class of ours may be cast to Object -/
theorem cast_obj (hF : FB Γ) {kk : Nat} {r : vw_C} (hr : gcl[kk]? = some r) : va_Nw (.castable r.1 "java/lang/Object") (bS Γ) := by
  have key : ∀ {w : Cond}, w ∈ lw_tbl → w.onTables = true → va_Nw w (bS Γ) := fun h g => va_Nw.of g (hF.1 _ h)
  match kk, hr with
  | 0, h => cases h; exact key tw_6_148 rfl
  | 1, h => cases h; exact key tw_6_151 rfl
  | 2, h => cases h; exact key tw_6_146 rfl
  | 3, h => cases h; exact key tw_6_145 rfl
  | 4, h => cases h; exact key tw_6_152 rfl
  | 5, h => cases h; exact key tw_6_140 rfl
  | 6, h => cases h; exact key tw_6_142 rfl
  | 7, h => cases h; exact key tw_6_141 rfl
  | j + 8, h => simp at h
theorem gcl_of {kk : Nat} (h : kk < 8) : ∃ r, gcl[kk]? = some r := ⟨gcl[kk], List.getElem?_eq_getElem h⟩
theorem g_stQ (C : GC Γ X cc nL own lvl mc ms) {a j v kv : Nat} {x : Int32} (hx : x = nI j) (ha : al S a 12) (hv : al S v kv) (h8 : kv < 8) (hj : j < pN S a) (h31 : j < 2147483648) (d : decode cc pc = .ok (.aastore, 1)) (q : GW Γ X (uRP S a (va_up (pRP S a) j (some v))) k n (pc + 1) loc st) : GW Γ X S k n pc loc (.ref v :: .int x :: .ref a :: st) := fun H locs ls hP hD hS hl => by
  subst hx
  obtain ⟨q0, hq0⟩ := pw_get (bC Γ) ha.1
  have hq := hq0
  rw [PFo_Q (bC Γ) ha] at hq
  obtain ⟨q1, hq1⟩ := pw_get (bC Γ) hv.1
  rw [PFo_obj (bC Γ) hv h8] at hq1
  obtain ⟨r, hr⟩ := gcl_of h8
  refine va_astqO C.hx C.hb C.hK hP hD hS q0 4 q1 kv hq rfl (va_Nw.warmC C.hW (cast_obj C.F hr)) hq1 hr (nI_vp hj h31) d (fun H1 locs1 hP1 hD1 hS1 => ?_)
  rw [nI_clamp (by omega)] at hP1 hD1
  have e : ∀ r, (pw (bC Γ) S).set q0 (a, .inl (bC Γ 4, (pN S a, .inr (.inr (.inr (.inr r)))))) = pw (bC Γ) (uRP S a r) := fun r => by
    rw [pw_set hD ha.1 hq0]
    exact va_pl_congr (PFo_uRP (bC Γ) S ha.2 r)
  rw [e] at hP1 hD1
  exact q H1 locs1 ls hP1 hD1 hS1 hl
theorem pw_push {cy : Nat → ClassId} {A : Nat → Prop} {a kk N : Nat} {e : va_E} (h8 : 8 ≤ kk) (he : e = aE cy kk N) (hD1 : va_D A (pw cy S ++ [(a, e)])) : a ∉ pL S ∧ pw cy S ++ [(a, e)] = pw cy (nA S a kk N) := by
  have hf : a ∉ pL S := by
    intro hm
    obtain ⟨j, hj⟩ := pw_get cy hm
    have hl2 : j < (pw cy S).length := (List.getElem?_eq_some_iff.mp hj).1
    have e1 : (pw cy S ++ [(a, e)])[j]? = some (a, PFo cy S a) := by rw [List.getElem?_append_left hl2]; exact hj
    have e2 : (pw cy S ++ [(a, e)])[(pw cy S).length]? = some (a, e) := by simp
    have := hD1.1 _ _ _ _ e1 e2 rfl
    omega
  refine ⟨hf, ?_⟩
  subst he
  rw [va_pl_push hf]
  exact va_pl_congr (PFo_nA cy S h8)
theorem arr_id {D : va_G} {s : State} {cy : Nat → ClassId} {cA : ClassId} {ty : FieldType} {j : Nat} (hK : va_K D gcl (atys cy) s) (hK1 : va_K D gcl (atys cy ++ [(cA, ty)]) s) (hj : (atys cy)[j]? = some (cy j, ty)) : cA = cy j := by
  have h5 : (atys cy ++ [(cA, ty)])[5]? = some (cA, ty) := rfl
  have h1 := (hK1.2 5 _ h5).2
  have h2 := (hK.2 j _ hj).2
  cases ty with
  | object C =>
    obtain ⟨_, _, _, _, _, e1⟩ := h1
    obtain ⟨_, _, _, _, _, e2⟩ := h2
    exact Option.some.inj (e1.symm.trans e2)
  | _ => exact Option.some.inj (h1.symm.trans h2)

theorem g_naI (C : GC Γ X cc nL own lvl mc ms) {N : Nat} {x : Int32} (hx : x = nI N) (hN : N ≤ 60000000) (hk : k + 1 ≤ mc) (hn : n + N ≤ ms) (d : decode cc pc = .ok (.newarray .int, 2)) (q : ∀ a : Nat, a ∉ pL S → GW Γ X (nA S a 8 N) (k + 1) (n + N) (pc + 2) loc (.ref a :: st)) : GW Γ X S k n pc loc (.int x :: st) := fun H locs ls hP hD hS hl => by
  subst hx
  have hb : N * componentBytes .int ≤ 536870912 := by
    have : componentBytes .int ≤ 8 := by decide
    have : N * componentBytes .int ≤ 60000000 * 8 := Nat.mul_le_mul hN this
    omega
  refine va_newa (atype := .int) (a0 := (N, .inl (fun _ => 0))) C.hx C.hb (C.tw tw_3_190 rfl) rfl C.hK hP hD hS C.hA (fun cA => rfl) (nI_pos (by omega)) (nI_clamp (by omega)) hb (by rw [C.rc]; exact hk) (by rw [C.rs]; exact hn) d (fun a cA H1 hK1 hP1 hD1 hS1 => ?_)
  have hc : cA = bC Γ 0 := arr_id (j := 0) C.hK hK1 rfl
  subst hc
  obtain ⟨hf, e⟩ := pw_push (kk := 8) (N := N) (e := .inl (bC Γ 0, (N, .inl (fun _ => 0)))) (by decide) rfl hD1
  rw [e] at hP1 hD1
  exact q a hf H1 locs ls hP1 hD1 hS1 hl
theorem g_naZ (C : GC Γ X cc nL own lvl mc ms) {N : Nat} {x : Int32} (hx : x = nI N) (hN : N ≤ 60000000) (hk : k + 1 ≤ mc) (hn : n + N ≤ ms) (d : decode cc pc = .ok (.newarray .boolean, 2)) (q : ∀ a : Nat, a ∉ pL S → GW Γ X (nA S a 9 N) (k + 1) (n + N) (pc + 2) loc (.ref a :: st)) : GW Γ X S k n pc loc (.int x :: st) := fun H locs ls hP hD hS hl => by
  subst hx
  have hb : N * componentBytes .boolean ≤ 536870912 := by
    have : componentBytes .boolean ≤ 8 := by decide
    have : N * componentBytes .boolean ≤ 60000000 * 8 := Nat.mul_le_mul hN this
    omega
  refine va_newa (atype := .boolean) (a0 := (N, .inl (fun _ => 0))) C.hx C.hb (C.tw tw_5_156 rfl) rfl C.hK hP hD hS C.hA (fun cA => rfl) (nI_pos (by omega)) (nI_clamp (by omega)) hb (by rw [C.rc]; exact hk) (by rw [C.rs]; exact hn) d (fun a cA H1 hK1 hP1 hD1 hS1 => ?_)
  have hc : cA = bC Γ 1 := arr_id (j := 1) C.hK hK1 rfl
  subst hc
  obtain ⟨hf, e⟩ := pw_push (kk := 9) (N := N) (e := .inl (bC Γ 1, (N, .inl (fun _ => 0)))) (by decide) rfl hD1
  rw [e] at hP1 hD1
  exact q a hf H1 locs ls hP1 hD1 hS1 hl
theorem g_naJ (C : GC Γ X cc nL own lvl mc ms) {N : Nat} {x : Int32} (hx : x = nI N) (hN : N ≤ 60000000) (hk : k + 1 ≤ mc) (hn : n + N ≤ ms) (d : decode cc pc = .ok (.newarray .long, 2)) (q : ∀ a : Nat, a ∉ pL S → GW Γ X (nA S a 10 N) (k + 1) (n + N) (pc + 2) loc (.ref a :: st)) : GW Γ X S k n pc loc (.int x :: st) := fun H locs ls hP hD hS hl => by
  subst hx
  have hb : N * componentBytes .long ≤ 536870912 := by
    have : componentBytes .long ≤ 8 := by decide
    have : N * componentBytes .long ≤ 60000000 * 8 := Nat.mul_le_mul hN this
    omega
  refine va_newa (atype := .long) (a0 := (N, .inr (.inl (fun _ => 0)))) C.hx C.hb (C.tw tw_6_129 rfl) rfl C.hK hP hD hS C.hA (fun cA => rfl) (nI_pos (by omega)) (nI_clamp (by omega)) hb (by rw [C.rc]; exact hk) (by rw [C.rs]; exact hn) d (fun a cA H1 hK1 hP1 hD1 hS1 => ?_)
  have hc : cA = bC Γ 2 := arr_id (j := 2) C.hK hK1 rfl
  subst hc
  obtain ⟨hf, e⟩ := pw_push (kk := 10) (N := N) (e := .inl (bC Γ 2, (N, .inr (.inl (fun _ => 0))))) (by decide) rfl hD1
  rw [e] at hP1 hD1
  exact q a hf H1 locs ls hP1 hD1 hS1 hl
theorem g_naD (C : GC Γ X cc nL own lvl mc ms) {N : Nat} {x : Int32} (hx : x = nI N) (hN : N ≤ 60000000) (hk : k + 1 ≤ mc) (hn : n + N ≤ ms) (d : decode cc pc = .ok (.newarray .double, 2)) (q : ∀ a : Nat, a ∉ pL S → GW Γ X (nA S a 11 N) (k + 1) (n + N) (pc + 2) loc (.ref a :: st)) : GW Γ X S k n pc loc (.int x :: st) := fun H locs ls hP hD hS hl => by
  subst hx
  have hb : N * componentBytes .double ≤ 536870912 := by
    have : componentBytes .double ≤ 8 := by decide
    have : N * componentBytes .double ≤ 60000000 * 8 := Nat.mul_le_mul hN this
    omega
  refine va_newa (atype := .double) (a0 := (N, .inr (.inr (.inr (.inl (fun _ => 0)))))) C.hx C.hb (C.tw tw_6_130 rfl) rfl C.hK hP hD hS C.hA (fun cA => rfl) (nI_pos (by omega)) (nI_clamp (by omega)) hb (by rw [C.rc]; exact hk) (by rw [C.rs]; exact hn) d (fun a cA H1 hK1 hP1 hD1 hS1 => ?_)
  have hc : cA = bC Γ 3 := arr_id (j := 3) C.hK hK1 rfl
  subst hc
  obtain ⟨hf, e⟩ := pw_push (kk := 11) (N := N) (e := .inl (bC Γ 3, (N, .inr (.inr (.inr (.inl (fun _ => 0))))))) (by decide) rfl hD1
  rw [e] at hP1 hD1
  exact q a hf H1 locs ls hP1 hD1 hS1 hl
theorem g_naQ (C : GC Γ X cc nL own lvl mc ms) {N index : Nat} {x : Int32} (w : Cond.classLink own index "java/lang/Object" ∈ lw_tbl) (hx : x = nI N) (hN : N ≤ 60000000) (hk : k + 1 ≤ mc) (hn : n + N ≤ ms) (d : decode cc pc = .ok (.anewarray index, 3)) (q : ∀ a : Nat, a ∉ pL S → GW Γ X (nA S a 12 N) (k + 1) (n + N) (pc + 3) loc (.ref a :: st)) : GW Γ X S k n pc loc (.int x :: st) := fun H locs ls hP hD hS hl => by
  subst hx
  have hover : va_AO "java/lang/Object" X.2.2.2.1 := va_AO.moved C.hW.alike (va_AO.of (C.F.1 _ tw_3_45))
  refine va_newq C.hx C.hb C.hown (C.tw w rfl) hover C.hK hP hD hS C.hA (nI_pos (by omega)) (nI_clamp (by omega)) (by omega) (by rw [C.rc]; exact hk) (by rw [C.rs]; exact hn) d (fun a cA H1 hK1 hP1 hD1 hS1 => ?_)
  have hc : cA = bC Γ 4 := arr_id (j := 4) C.hK hK1 rfl
  subst hc
  obtain ⟨hf, e⟩ := pw_push (kk := 12) (N := N) (e := .inl (bC Γ 4, (N, .inr (.inr (.inr (.inr (fun _ => none))))))) (by decide) rfl hD1
  rw [e] at hP1 hD1
  exact q a hf H1 locs ls hP1 hD1 hS1 hl
theorem g_recv (C : GC Γ X cc nL own lvl mc ms) {H : Heap} (hP : va_P (bD Γ) gcl (pw (bC Γ) S) H) {a kk : Nat} (ha : al S a kk) {r : vw_C} (hr : gcl[kk]? = some r) : ∃ cell : Cell, H[a]? = some cell ∧ cell.vm.isStatics = false ∧ X.2.2.2.1.vm.findClass r.1 = some cell.cls := by
  obtain ⟨q0, hq⟩ := pw_get (bC Γ) ha.1
  have h8 : kk < 8 := (List.getElem?_eq_some_iff.mp hr).1
  rw [PFo_obj (bC Γ) ha h8] at hq
  exact va_recv C.hK hP hr hq
theorem g_cast (C : GC Γ X cc nL own lvl mc ms) {a kk index : Nat} {r : vw_C} (hr : gcl[kk]? = some r) (ha : al S a kk) (w : Cond.classLink own index r.1 ∈ lw_tbl) (d : decode cc pc = .ok (.checkcast index, 3)) (q : GW Γ X S k n (pc + 3) loc (.ref a :: st)) : GW Γ X S k n pc loc (.ref a :: st) := fun H locs ls hP hD hS hl =>
  va_castS C.hx C.hb C.hown (C.tw w rfl) (C.hK.1 kk r hr).2 (g_recv C hP ha hr) d (q H locs ls hP hD hS hl)
theorem sE0 (C : GC Γ X cc nL own lvl mc ms) : va_Z "java/util/ArrayList" "DEFAULTCAPACITY_EMPTY_ELEMENTDATA" "[Ljava/lang/Object;" (.ref (bE Γ)) (AA Γ) X.2.2.2.1 X.2.2.2.1.heap := va_Z.moved C.hW.alike (va_Z.kept C.F.2.2.2.2.1 (fun q h _ => C.hq q h))
theorem tE0 (C : GC Γ X cc nL own lvl mc ms) : va_T (.object "java/lang/Object") (bE Γ) 0 (fun _ => .null) (AA Γ) X.2.2.2.1 X.2.2.2.1.heap := va_T.moved C.hW.alike (va_T.kept C.F.2.2.2.2.2 (fun q h _ => C.hq q h))
theorem g_getE0 (C : GC Γ X cc nL own lvl mc ms) {index : Nat} (w : Cond.fieldLink own index "java/util/ArrayList" "DEFAULTCAPACITY_EMPTY_ELEMENTDATA" "[Ljava/lang/Object;" ∈ lw_tbl) (d : decode cc pc = .ok (.getstatic index, 3)) (q : GW Γ X S k n (pc + 3) loc (.ref (bE Γ) :: st)) : GW Γ X S k n pc loc st := fun H locs ls hP hD hS hl =>
  va_gets C.hx C.hb (sE0 C) hS C.hown (C.tw w rfl) (fun _ h => h) d (q H locs ls hP hD hS hl)
theorem g_alenE0 (C : GC Γ X cc nL own lvl mc ms) (d : decode cc pc = .ok (.arraylength, 1)) (q : GW Γ X S k n (pc + 1) loc (.int 0 :: st)) : GW Γ X S k n pc loc (.ref (bE Γ) :: st) := fun H locs ls hP hD hS hl =>
  va_tlen (v := 0) C.hx C.hb (tE0 C) hS rfl d (q H locs ls hP hD hS hl)
/-- the absolute value, as Java has it -/
def jabs (x : Int32) : Int32 := if 0 ≤ x then x else 0 - x
theorem g_abs (C : GC Γ X cc nL own lvl mc ms) {index : Nat} {x : Int32} (w : Cond.methodLink own index Lib.Math.abs.name ∈ lw_tbl) (hr : (st.map fun v => v.category).sum ≤ 300) (hk : k ≤ mc) (hn : n ≤ ms) (d : decode cc pc = .ok (.invokestatic index, 3)) (q : GW Γ X S k n (pc + 3) loc (.int (jabs x) :: st)) : GW Γ X S k n pc loc (.int x :: st) := fun H locs ls hP hD hS hl =>
  va_mabs C.hx C.hb hl.1.symm C.hown (C.tw w rfl) (C.tw tw_3_74 rfl) (C.tw tw_1_14 rfl) (C.tw tw_3_75 rfl) (by have := C.rf; omega) (by have := C.rl; omega) (by rw [C.rc]; exact hk) (by rw [C.rs]; exact hn) d (q H locs ls hP hD hS hl)
theorem g_max (C : GC Γ X cc nL own lvl mc ms) {index : Nat} {x y : Int32} (w : Cond.methodLink own index Lib.Math.max.name ∈ lw_tbl) (hr : (st.map fun v => v.category).sum ≤ 300) (hk : k ≤ mc) (hn : n ≤ ms) (d : decode cc pc = .ok (.invokestatic index, 3)) (q : GW Γ X S k n (pc + 3) loc (.int (if x < y then y else x) :: st)) : GW Γ X S k n pc loc (.int y :: .int x :: st) := fun H locs ls hP hD hS hl =>
  va_mmax C.hx C.hb hl.1.symm C.hown (C.tw w rfl) (C.tw tw_2_23 rfl) (C.tw tw_1_14 rfl) (C.tw tw_2_24 rfl) (by have := C.rf; omega) (by have := C.rl; omega) (by rw [C.rc]; exact hk) (by rw [C.rs]; exact hn) d (q H locs ls hP hD hS hl)
end GRows
end
section
/-! ===== the kinds; contracts over the pool; calls, ends, throws ===== -/
theorem lay_0 : ∀ w ∈ u_ws RX0 TX0 9, w ∈ lw_tbl ∧ goodWord w = true := by decide +kernel
theorem kd_0 : KD 0 RX0 TX0 9 tyX0 := ⟨rfl, lay_0, tyX0_ok, nmX0, by decide, rfl, by intro j hj; rcases (show j = 0 ∨ j = 1 ∨ j = 2 ∨ j = 3 ∨ j = 4 ∨ j = 5 ∨ j = 6 ∨ j = 7 ∨ j = 8 by omega) with rfl | rfl | rfl | rfl | rfl | rfl | rfl | rfl | rfl <;> rfl⟩
theorem lay_1 : ∀ w ∈ u_ws RX1 TX1 7, w ∈ lw_tbl ∧ goodWord w = true := by decide +kernel
theorem kd_1 : KD 1 RX1 TX1 7 tyX1 := ⟨rfl, lay_1, tyX1_ok, nmX1, by decide, rfl, by intro j hj; rcases (show j = 0 ∨ j = 1 ∨ j = 2 ∨ j = 3 ∨ j = 4 ∨ j = 5 ∨ j = 6 by omega) with rfl | rfl | rfl | rfl | rfl | rfl | rfl <;> rfl⟩
theorem lay_2 : ∀ w ∈ u_ws RX2 TX2 3, w ∈ lw_tbl ∧ goodWord w = true := by decide +kernel
theorem kd_2 : KD 2 RX2 TX2 3 tyX2 := ⟨rfl, lay_2, tyX2_ok, nmX2, by decide, rfl, by intro j hj; rcases (show j = 0 ∨ j = 1 ∨ j = 2 by omega) with rfl | rfl | rfl <;> rfl⟩
theorem lay_3 : ∀ w ∈ u_ws RX3 TX3 8, w ∈ lw_tbl ∧ goodWord w = true := by decide +kernel
theorem kd_3 : KD 3 RX3 TX3 8 tyX3 := ⟨rfl, lay_3, tyX3_ok, nmX3, by decide, rfl, by intro j hj; rcases (show j = 0 ∨ j = 1 ∨ j = 2 ∨ j = 3 ∨ j = 4 ∨ j = 5 ∨ j = 6 ∨ j = 7 by omega) with rfl | rfl | rfl | rfl | rfl | rfl | rfl | rfl <;> rfl⟩
theorem lay_4 : ∀ w ∈ u_ws RX4 TX4 4, w ∈ lw_tbl ∧ goodWord w = true := by decide +kernel
theorem kd_4 : KD 4 RX4 TX4 4 tyX4 := ⟨rfl, lay_4, tyX4_ok, nmX4, by decide, rfl, by intro j hj; rcases (show j = 0 ∨ j = 1 ∨ j = 2 ∨ j = 3 by omega) with rfl | rfl | rfl | rfl <;> rfl⟩
theorem lay_5 : ∀ w ∈ u_ws RX5 TX5 8, w ∈ lw_tbl ∧ goodWord w = true := by decide +kernel
theorem kd_5 : KD 5 RX5 TX5 8 tyX5 := ⟨rfl, lay_5, tyX5_ok, nmX5, by decide, rfl, by intro j hj; rcases (show j = 0 ∨ j = 1 ∨ j = 2 ∨ j = 3 ∨ j = 4 ∨ j = 5 ∨ j = 6 ∨ j = 7 by omega) with rfl | rfl | rfl | rfl | rfl | rfl | rfl | rfl <;> rfl⟩
theorem lay_6 : ∀ w ∈ u_ws RX6 TX6 22, w ∈ lw_tbl ∧ goodWord w = true := by decide +kernel
theorem kd_6 : KD 6 RX6 TX6 22 tyX6 := ⟨rfl, lay_6, tyX6_ok, nmX6, by decide, rfl, by intro j hj; rcases (show j = 0 ∨ j = 1 ∨ j = 2 ∨ j = 3 ∨ j = 4 ∨ j = 5 ∨ j = 6 ∨ j = 7 ∨ j = 8 ∨ j = 9 ∨ j = 10 ∨ j = 11 ∨ j = 12 ∨ j = 13 ∨ j = 14 ∨ j = 15 ∨ j = 16 ∨ j = 17 ∨ j = 18 ∨ j = 19 ∨ j = 20 ∨ j = 21 by omega) with rfl | rfl | rfl | rfl | rfl | rfl | rfl | rfl | rfl | rfl | rfl | rfl | rfl | rfl | rfl | rfl | rfl | rfl | rfl | rfl | rfl | rfl <;> rfl⟩
theorem lay_7 : ∀ w ∈ u_ws RJx4a65c TJx4a65c 3, w ∈ lw_tbl ∧ goodWord w = true := by decide +kernel
theorem kd_7 : KD 7 RJx4a65c TJx4a65c 3 tyJx4a65c := ⟨rfl, lay_7, tyJx4a65c_ok, nmJx4a65c, by decide, rfl, by intro j hj; rcases (show j = 0 ∨ j = 1 ∨ j = 2 by omega) with rfl | rfl | rfl <;> rfl⟩
/-- a contract's end: it returns v over the pool S', or throws E over S' -/
def GPost (Γ : GBase) (post : Option Value → PS → Prop) : Array Value → State → Outcome → State → Prop := fun _ st oc t => (∃ (v : Option Value) (S' : PS), oc = .returned v ∧ post v S' ∧ GU Γ S' t) ∧ va_F (AA Γ) st t
def GH (Γ : GBase) (S : PS) (H : Heap) : Prop := (bS Γ).heap.size ≤ H.size ∧ (∀ q : Nat, q < (bS Γ).heap.size → H[q]? = (bS Γ).heap[q]?) ∧ va_P (bD Γ) gcl (pw (bC Γ) S) H ∧ va_D (AA Γ) (pw (bC Γ) S)
def GPx (Γ : GBase) (px : String → PS → Prop) : String → State → State → Prop := fun E st t => (∃ S' : PS, px E S' ∧ GH Γ S' t.heap) ∧ va_F (AA Γ) st t
def noX : String → PS → Prop := fun _ _ => False
abbrev gws (y : MethodName) (cc : ByteArray) (maxL : Nat) (ret : Option FieldType) : List Cond := [Cond.code y cc maxL ret]
/-- a contract over the pool -/
def GMet (Γ : GBase) (y : MethodName) (cc : ByteArray) (maxL : Nat) (ret : Option FieldType) (lvl mc ms : Nat) (av : List Value) (S : PS) (post : Option Value → PS → Prop) (px : String → PS → Prop) : Prop :=
  vx_Met (bL Γ) y (gws y cc maxL ret) (rmv lvl mc ms) (va_Pc av (GU Γ S)) (GPost Γ post) (GPx Γ px) mc ms (AA Γ)
theorem GMet.plain {Γ : GBase} {y : MethodName} {cc : ByteArray} {maxL : Nat} {ret : Option FieldType} {lvl mc ms : Nat} {av : List Value} {S : PS} {post : Option Value → PS → Prop} (h : GMet Γ y cc maxL ret lvl mc ms av S post noX) : Met (bL Γ) y (gws y cc maxL ret) (rmv lvl mc ms) (va_Pc av (GU Γ S)) (GPost Γ post) mc ms (AA Γ) := by
  unfold Met
  refine MetFree.mono h (fun _ _ h9 => h9) (by intros; trivial) (fun a st oc t _ hq => ?_)
  rcases hq with hq | ⟨q, -, E, ce, L, ⟨⟨S', hx, -⟩, -⟩, -⟩
  · exact hq
  · exact hx.elim
theorem GMet.weak {Γ : GBase} {y : MethodName} {cc : ByteArray} {maxL : Nat} {ret : Option FieldType} {lvl mc ms : Nat} {av : List Value} {S : PS} {post post' : Option Value → PS → Prop} {px px' : String → PS → Prop} (h : GMet Γ y cc maxL ret lvl mc ms av S post px) (h1 : ∀ v S', post v S' → post' v S') (h2 : ∀ E S', px E S' → px' E S') : GMet Γ y cc maxL ret lvl mc ms av S post' px' := by
  unfold GMet vx_Met at h ⊢
  refine MetFree.mono h (fun _ _ h9 => h9) (by intros; trivial) (fun a st oc t _ hq => ?_)
  rcases hq with ⟨⟨⟨v, S', e1, e2, e3⟩, e4⟩, e5⟩ | ⟨q, e0, E, ce, L, ⟨⟨S', hx, e1⟩, e2⟩, e3⟩
  · exact Or.inl ⟨⟨⟨v, S', e1, h1 _ _ e2, e3⟩, e4⟩, e5⟩
  · exact Or.inr ⟨q, e0, E, ce, L, ⟨⟨S', h2 _ _ hx, e1⟩, e2⟩, e3⟩
theorem GU_blind {Γ : GBase} {S : PS} {av : List Value} : FrameBlind (va_Pc av (GU Γ S)) := fun _ _ _ _ h => h
/-- what a body's end is told -/
def GRet (Γ : GBase) (X : Cx) (ret : Option FieldType) (mc ms : Nat) (post : Option Value → PS → Prop) (px : String → PS → Prop) : Prop :=
  X.2.2.2.2.2.2.2.2.2 = vx_MQ X.2.2.2.2.2.2.1 (GPost Γ post) (GPx Γ px) X.2.2.2.2.2.1 X.2.2.2.1 mc ms (AA Γ) ∧ X.2.2.2.2.2.2.2.1.sig.returnType = ret
theorem GMet.of {Γ : GBase} {y : MethodName} {cc : ByteArray} {maxL : Nat} {ret : Option FieldType} {lvl mc ms : Nat} {av : List Value} {S : PS} {post : Option Value → PS → Prop} {px : String → PS → Prop} {loc0 : List (Nat × Value)} (F : FB Γ) (hy : plainName y.cls = true) (h0 : lv_args 0 av = loc0) (hn : (lg_sl av).length ≤ maxL)
    (body : ∀ X : Cx, GC Γ X cc maxL y.cls lvl mc ms → GRet Γ X ret mc ms post px → (∀ x ∈ X.2.2.2.2.2.2.2.2.1.exceptionTable.toList, False) → X.2.2.2.2.2.2.2.1.name = y.name → GW Γ X S 0 0 0 loc0 []) : GMet Γ y cc maxL ret lvl mc ms av S post px := by
  refine vx_ofW (cc := cc) (maxL := maxL) (ret := ret) hy rfl ?_
  intro p e s m args below meth c s₁ B hml htab hv
  obtain ⟨rfl, hW, hN, hq, hP, hD⟩ := hv
  have hown : s.vm.findClass y.cls = some m.cls := findClass_of_methodNamed B.named
  have K := body (p, e, (headSpec (gws y cc maxL ret) (rmv lvl mc ms)).room, s, m, av.toArray, below, meth, c, vx_MQ below (GPost Γ post) (GPx Γ px) av.toArray s mc ms (AA Γ)) ⟨B.exec, B.bytes, hml, hown, hW, hN, hq, F, B.notSynchronized, Nat.le_refl _, Nat.le_refl _, rfl, rfl⟩ ⟨rfl, B.returns⟩ htab (name_of_methodNamed B.named B.method).1
  rw [lg_entry_eq]
  subst h0
  have hl := lh_entry av hn
  rw [← hml] at hl
  rw [← hml]
  exact K s.heap [] _ hP hD va_S.rf hl
theorem g_loc {a b m : Nat} (h : a < b) (h5 : m ≤ 100) : 8 + (m + 11) + 400 * (a + 1) ≤ 400 * (b + 1) := by omega
section GEnds
variable {Γ : GBase} {X : Cx} {cc : ByteArray} {nL : Nat} {own : String} {lvl mc ms : Nat} {S : PS} {k n pc : Nat} {loc : List (Nat × Value)} {st : List Value} {ret : Option FieldType} {post : Option Value → PS → Prop} {px : String → PS → Prop}
theorem GU_end (C : GC Γ X cc nL own lvl mc ms) {H : Heap} {locs : List Loc} (hP : va_P (bD Γ) gcl (pw (bC Γ) S) H) (hD : va_D (AA Γ) (pw (bC Γ) S)) (hS : va_S (AA Γ) X.2.2.2.1.heap H locs) {t : State} (ht : t.heap = H) (hW : X.2.2.2.1.WarmedH t.vm) : GU Γ S t := by
  refine ⟨C.hW.trans hW, by rw [ht]; exact Nat.le_trans C.hN hS.1, fun q h => ?_, by rw [ht]; exact hP, hD⟩
  rw [ht, hS.2.1 q (Nat.lt_of_lt_of_le h C.hN) (fun z => by unfold AA at z; omega)]
  exact C.hq q h
theorem GH_end (C : GC Γ X cc nL own lvl mc ms) {H : Heap} {locs : List Loc} (hP : va_P (bD Γ) gcl (pw (bC Γ) S) H) (hD : va_D (AA Γ) (pw (bC Γ) S)) (hS : va_S (AA Γ) X.2.2.2.1.heap H locs) {H' : Heap} (ht : H' = H) : GH Γ S H' := by
  subst ht
  refine ⟨Nat.le_trans C.hN hS.1, fun q h => ?_, hP, hD⟩
  rw [hS.2.1 q (Nat.lt_of_lt_of_le h C.hN) (fun z => by unfold AA at z; omega)]
  exact C.hq q h
theorem g_ghost (S' : PS) (h1 : pL S' = pL S) (h2 : ∀ cy, PFo cy S' = PFo cy S) (q : GW Γ X S' k n pc loc st) : GW Γ X S k n pc loc st := fun H locs ls hP hD hS hl => by
  have e : pw (bC Γ) S' = pw (bC Γ) S := by unfold pw; rw [h1, h2]
  refine q H locs ls ?_ ?_ hS hl
  · rw [e]; exact hP
  · rw [e]; exact hD
theorem g_iret (C : GC Γ X cc nL own lvl mc ms) {ty : FieldType} (R : GRet Γ X (some ty) mc ms post px) {v : Int32} (hn : narrow ty (.int v) = .int v) (hk : k ≤ mc) (hms : n ≤ ms) (d : decode cc pc = .ok (.ireturn, 1)) (hp : post (some (.int v)) S) : GW Γ X S k n pc loc [.int v] := fun H locs ls hP hD hS hl => by
  rw [R.1]
  exact W.widen hk hms (vx_ret (W.zret C.hx C.hb R.2 hn (fun t ht hW => ⟨⟨_, S, rfl, hp, GU_end C hP hD hS ht hW⟩, hS.F ht⟩) hS.2.2 d C.locks))
theorem g_vret (C : GC Γ X cc nL own lvl mc ms) (R : GRet Γ X none mc ms post px) (hk : k ≤ mc) (hms : n ≤ ms) (d : decode cc pc = .ok (.return_, 1)) (hp : post none S) : GW Γ X S k n pc loc [] := fun H locs ls hP hD hS hl => by
  rw [R.1]
  exact W.widen hk hms (vx_ret (W.vret C.hx C.hb R.2 (fun t ht hW => ⟨⟨_, S, rfl, hp, GU_end C hP hD hS ht hW⟩, hS.F ht⟩) hS.2.2 d C.locks))
theorem g_lret (C : GC Γ X cc nL own lvl mc ms) (R : GRet Γ X (some .long) mc ms post px) {v : Int64} (hk : k ≤ mc) (hms : n ≤ ms) (d : decode cc pc = .ok (.lreturn, 1)) (hp : post (some (.long v)) S) : GW Γ X S k n pc loc [.long v] := fun H locs ls hP hD hS hl => by
  rw [R.1]
  exact W.widen hk hms (vx_ret (W.lret C.hx C.hb R.2 (fun t ht hW => ⟨⟨_, S, rfl, hp, GU_end C hP hD hS ht hW⟩, hS.F ht⟩) hS.2.2 d C.locks))
theorem g_dret (C : GC Γ X cc nL own lvl mc ms) (R : GRet Γ X (some .double) mc ms post px) {v : UInt64} (hk : k ≤ mc) (hms : n ≤ ms) (d : decode cc pc = .ok (.dreturn, 1)) (hp : post (some (.double v)) S) : GW Γ X S k n pc loc [.double v] := fun H locs ls hP hD hS hl => by
  rw [R.1]
  exact W.widen hk hms (vx_ret (W.dret C.hx C.hb R.2 (fun t ht hW => ⟨⟨_, S, rfl, hp, GU_end C hP hD hS ht hW⟩, hS.F ht⟩) hS.2.2 d C.locks))
theorem g_aret (C : GC Γ X cc nL own lvl mc ms) {ty : FieldType} (R : GRet Γ X (some ty) mc ms post px) (hty : (∃ n, ty = .object n) ∨ ∃ t, ty = .array t) {v : Nat} (hk : k ≤ mc) (hms : n ≤ ms) (d : decode cc pc = .ok (.areturn, 1)) (hp : post (some (.ref v)) S) : GW Γ X S k n pc loc [.ref v] := fun H locs ls hP hD hS hl => by
  rw [R.1]
  exact W.widen hk hms (vx_ret (W.aret C.hx C.hb R.2 hty (Or.inr ⟨v, rfl⟩) (fun t ht hW => ⟨⟨_, S, rfl, hp, GU_end C hP hD hS ht hW⟩, hS.F ht⟩) hS.2.2 d C.locks))
/-- E was thrown to the frame at pc -/
def GX (Γ : GBase) (X : Cx) (S : PS) (k n pc : Nat) (loc : List (Nat × Value)) (E : String) : Prop :=
  ∀ (H : Heap) (locs : List Loc) (ls : Array Slot) (ce : Cell) (q : Addr) (st : List Value), va_P (bD Γ) gcl (pw (bC Γ) S) H → va_D (AA Γ) (pw (bC Γ) S) → va_S (AA Γ) X.2.2.2.1.heap H locs → lh ls X.2.2.2.2.2.2.2.2.1.maxLocals loc → H[q]? = some ce → ce.vm = .none → X.2.2.2.1.vm.findClass E = some ce.cls →
    vx_W X.1 (bL Γ) X.2.1 X.2.2.1 X.2.2.2.1 X.2.2.2.2.1 X.2.2.2.2.2.1 X.2.2.2.2.2.2.1 X.2.2.2.2.2.2.2.1 X.2.2.2.2.2.2.2.2.1 H locs k n X.2.2.2.2.2.2.2.2.2 (F0 X.2.2.2.2.1 pc ls st) q
theorem g_out (C : GC Γ X cc nL own lvl mc ms) (R : GRet Γ X ret mc ms post px) (Tb : ∀ x ∈ X.2.2.2.2.2.2.2.2.1.exceptionTable.toList, False) {E : String} (hk : k ≤ mc) (hms : n ≤ ms) (hp : px E S) : GX Γ X S k n pc loc E := fun H locs ls ce q st hP hD hS hl h1 h2 h3 => by
  rw [R.1]
  refine vx_out (fun x hx => (Tb x hx).elim) C.locks h1 h2 h3 (fun t ht hA => ?_) hS.2.2 hk hms
  exact ⟨⟨S, hp, GH_end C hP hD hS ht⟩, hS.F ht⟩
/-- facts of a method that callers want -/
def GY (y : MethodName) (cc : ByteArray) (maxL : Nat) (ret : Option FieldType) (np : Nat) : Prop := Cond.code y cc maxL ret ∈ lw_tbl ∧ Cond.initialized y.cls ∈ lw_tbl ∧ (y.cls ≠ "java/lang/invoke/MethodHandle" ∧ y.cls ≠ "java/lang/invoke/VarHandle") ∧ (parseMethodDescriptor y.desc).map (fun d => d.parameters.length) = some np ∧ maxL ≤ 100
variable {y : MethodName} {cy : ByteArray} {maxL np lvl' mc' ms' index : Nat} {rety : Option FieldType} {As : List Value} {b : Nat} {posty : Option Value → PS → Prop} {pxy : String → PS → Prop}
theorem g_cb (C : GC Γ X cc nL own lvl mc ms) (hy : GY y cy maxL rety np) (w : Cond.methodLink own index y ∈ lw_tbl) (hlv : lvl' < lvl) : CallB X.2.2.1 X.2.2.2.1 X.2.2.2.2.2.1 own index y cy maxL rety (gws y cy maxL rety) (rmv lvl' mc' ms') mc' ms' np := by
  obtain ⟨h1, h2, h3, h4, h5⟩ := hy
  refine ⟨rfl, rfl, ?_, ?_, ?_, List.mem_cons_self, C.tw h1 rfl, C.tw h2 rfl, h3, fun sig h => ?_, C.tw w rfl⟩
  · have := C.rf
    show 20 * (lvl' + 1) + 1 ≤ _
    omega
  · refine Nat.le_trans ?_ C.rl
    show 8 + (maxL + 11) + 400 * (lvl' + 1) ≤ 400 * (lvl + 1)
    exact g_loc hlv h5
  · intro w' hw' a' U hU
    rw [List.mem_singleton.mp hw']
    exact word_at hU (Or.inl rfl) (C.tw h1 rfl)
  · rw [h] at h4
    exact (Option.some.inj h4).symm
theorem g_fin (C : GC Γ X cc nL own lvl mc ms) {H : Heap} {locs : List Loc} (hP : va_P (bD Γ) gcl (pw (bC Γ) S) H) (hD : va_D (AA Γ) (pw (bC Γ) S)) (hS : va_S (AA Γ) X.2.2.2.1.heap H locs) {av : List Value} : ∀ U : State, U.heap = H → X.2.2.2.1.WarmedH U.vm → va_Pc av (GU Γ S) av.toArray U := fun U hU hW => ⟨rfl, GU_end C hP hD hS hU hW⟩
theorem g_keep {H : Heap} {locs L : List Loc} {H0 : Heap} {T' t st₀ : State} (hS : va_S (AA Γ) H0 H locs) (h0 : st₀.heap = H) (e1 : T'.heap = t.heap) (hL : ∀ q ∈ L, AA Γ q.base) (hF : va_F (AA Γ) st₀ t) : va_S (AA Γ) H0 T'.heap (locs ++ L) := by
  obtain ⟨hz, hk⟩ := hF
  rw [h0] at hz hk
  refine ⟨by rw [e1]; exact Nat.le_trans hS.1 hz, fun q h1 h2 => ?_, fun q hq => ?_⟩
  · rw [e1, hk q (Nat.lt_of_lt_of_le h1 hS.1) h2]
    exact hS.2.1 q h1 h2
  · rcases List.mem_append.mp hq with h | h
    · exact hS.2.2 q h
    · exact hL q h
end GEnds
end
section
/-! ===== calls ===== -/
theorem ts_0 : Cond.selects "CueBook" ⟨"CueBook", "countClashingPairs", "()I"⟩ ⟨"CueBook", "countClashingPairs", "()I"⟩ ∈ lw_tbl := List.mem_append_left _ (List.mem_of_getElem? (i := 0) (by decide +kernel))
theorem ts_1 : Cond.selects "CueBook" ⟨"CueBook", "findCasting", "()V"⟩ ⟨"CueBook", "findCasting", "()V"⟩ ∈ lw_tbl := List.mem_append_left _ (List.mem_of_getElem? (i := 1) (by decide +kernel))
theorem ts_2 : Cond.selects "CueBook" ⟨"CueBook", "orderStays", "()V"⟩ ⟨"CueBook", "orderStays", "()V"⟩ ∈ lw_tbl := List.mem_append_left _ (List.mem_of_getElem? (i := 2) (by decide +kernel))
theorem ts_3 : Cond.selects "CueBook" ⟨"CueBook", "putInOrder", "(LCueBook$Stay;)V"⟩ ⟨"CueBook", "putInOrder", "(LCueBook$Stay;)V"⟩ ∈ lw_tbl := List.mem_append_left _ (List.mem_of_getElem? (i := 3) (by decide +kernel))
theorem ts_4 : Cond.selects "java/util/ArrayList" ⟨"java/util/ArrayList", "rangeCheckForAdd", "(I)V"⟩ ⟨"java/util/ArrayList", "rangeCheckForAdd", "(I)V"⟩ ∈ lw_tbl := List.mem_append_left _ (List.mem_of_getElem? (i := 4) (by decide +kernel))
theorem ts_5 : Cond.selects "java/lang/Throwable" ⟨"java/lang/Throwable", "fillInStackTrace", "(I)Ljava/lang/Throwable;"⟩ ⟨"java/lang/Throwable", "fillInStackTrace", "(I)Ljava/lang/Throwable;"⟩ ∈ lw_tbl := List.mem_append_left _ (List.mem_of_getElem? (i := 5) (by decide +kernel))
theorem ts_6 : Cond.selects "java/util/ArrayList" ⟨"java/util/ArrayList", "outOfBoundsMsg", "(I)Ljava/lang/String;"⟩ ⟨"java/util/ArrayList", "outOfBoundsMsg", "(I)Ljava/lang/String;"⟩ ∈ lw_tbl := List.mem_append_left _ (List.mem_of_getElem? (i := 6) (by decide +kernel))
theorem ts_7 : Cond.selects "java/util/ArrayList" ⟨"java/util/ArrayList", "grow", "()[Ljava/lang/Object;"⟩ ⟨"java/util/ArrayList", "grow", "()[Ljava/lang/Object;"⟩ ∈ lw_tbl := List.mem_append_left _ (List.mem_of_getElem? (i := 7) (by decide +kernel))
theorem ts_8 : Cond.selects "java/util/ArrayList" ⟨"java/util/ArrayList", "grow", "(I)[Ljava/lang/Object;"⟩ ⟨"java/util/ArrayList", "grow", "(I)[Ljava/lang/Object;"⟩ ∈ lw_tbl := List.mem_append_left _ (List.mem_of_getElem? (i := 8) (by decide +kernel))
theorem ts_9 : Cond.selects "CueBook" ⟨"CueBook", "namePlayer", "(LCueBook$Stay;)V"⟩ ⟨"CueBook", "namePlayer", "(LCueBook$Stay;)V"⟩ ∈ lw_tbl := List.mem_append_left _ (List.mem_of_getElem? (i := 9) (by decide +kernel))
theorem ts_10 : Cond.selects "CueBook" ⟨"CueBook", "canDo", "(LCueBook$Player;LCueBook$Stay;)Z"⟩ ⟨"CueBook", "canDo", "(LCueBook$Player;LCueBook$Stay;)Z"⟩ ∈ lw_tbl := List.mem_append_left _ (List.mem_of_getElem? (i := 10) (by decide +kernel))
theorem ts_11 : Cond.selects "CueBook" ⟨"CueBook", "canComeToBeginning", "(LCueBook$Player;LCueBook$Stay;)Z"⟩ ⟨"CueBook", "canComeToBeginning", "(LCueBook$Player;LCueBook$Stay;)Z"⟩ ∈ lw_tbl := List.mem_append_left _ (List.mem_of_getElem? (i := 11) (by decide +kernel))
theorem ts_12 : Cond.selects "CueBook" ⟨"CueBook", "placeOfHeld", "(LCueBook$Player;I)I"⟩ ⟨"CueBook", "placeOfHeld", "(LCueBook$Player;I)I"⟩ ∈ lw_tbl := List.mem_append_left _ (List.mem_of_getElem? (i := 12) (by decide +kernel))
theorem ts_13 : Cond.selects "CueBook" ⟨"CueBook", "canHold", "(LCueBook$Player;LCueBook$Puppet;I)Z"⟩ ⟨"CueBook", "canHold", "(LCueBook$Player;LCueBook$Puppet;I)Z"⟩ ∈ lw_tbl := List.mem_append_left _ (List.mem_of_getElem? (i := 13) (by decide +kernel))
theorem ts_14 : Cond.selects "java/util/ArrayList" ⟨"java/util/ArrayList", "add", "(Ljava/lang/Object;[Ljava/lang/Object;I)V"⟩ ⟨"java/util/ArrayList", "add", "(Ljava/lang/Object;[Ljava/lang/Object;I)V"⟩ ∈ lw_tbl := List.mem_append_left _ (List.mem_of_getElem? (i := 14) (by decide +kernel))
theorem ts_15 : Cond.selects "CueBook" ⟨"CueBook", "puppetNumbered", "(I)LCueBook$Puppet;"⟩ ⟨"CueBook", "puppetNumbered", "(I)LCueBook$Puppet;"⟩ ∈ lw_tbl := List.mem_append_left _ (List.mem_of_getElem? (i := 15) (by decide +kernel))
theorem ts_16 : Cond.selects "CueBook" ⟨"CueBook", "write", "(LCueBook$Cue;)I"⟩ ⟨"CueBook", "write", "(LCueBook$Cue;)I"⟩ ∈ lw_tbl := List.mem_append_left _ (List.mem_of_getElem? (i := 16) (by decide +kernel))
theorem ts_17 : Cond.selects "CueBook$Puppet" ⟨"CueBook$Puppet", "isScriptRight", "()Z"⟩ ⟨"CueBook$Puppet", "isScriptRight", "()Z"⟩ ∈ lw_tbl := List.mem_append_left _ (List.mem_of_getElem? (i := 17) (by decide +kernel))
theorem ts_18 : Cond.selects "CueBook$Path" ⟨"CueBook$Path", "walk", "(III)V"⟩ ⟨"CueBook$Path", "walk", "(III)V"⟩ ∈ lw_tbl := List.mem_append_left _ (List.mem_of_getElem? (i := 18) (by decide +kernel))
theorem ts_19 : Cond.selects "java/util/ArrayList" ⟨"java/util/ArrayList", "fastRemove", "([Ljava/lang/Object;I)V"⟩ ⟨"java/util/ArrayList", "fastRemove", "([Ljava/lang/Object;I)V"⟩ ∈ lw_tbl := List.mem_append_left _ (List.mem_of_getElem? (i := 19) (by decide +kernel))
theorem ts_20 : Cond.selects "CueBook$Puppet" ⟨"CueBook$Puppet", "playScript", "()V"⟩ ⟨"CueBook$Puppet", "playScript", "()V"⟩ ∈ lw_tbl := List.mem_append_left _ (List.mem_of_getElem? (i := 20) (by decide +kernel))
theorem ts_21 : Cond.selects "CueBook$Puppet" ⟨"CueBook$Puppet", "playBeats", "(LCueBook$Path;II)V"⟩ ⟨"CueBook$Puppet", "playBeats", "(LCueBook$Path;II)V"⟩ ∈ lw_tbl := List.mem_append_left _ (List.mem_of_getElem? (i := 21) (by decide +kernel))
theorem ts_22 : Cond.selects "CueBook$Puppet" ⟨"CueBook$Puppet", "recordStay", "(LCueBook$Cue;)V"⟩ ⟨"CueBook$Puppet", "recordStay", "(LCueBook$Cue;)V"⟩ ∈ lw_tbl := List.mem_append_left _ (List.mem_of_getElem? (i := 22) (by decide +kernel))
theorem ts_23 : Cond.selects "CueBook" ⟨"CueBook", "forgetWhatWasFound", "()V"⟩ ⟨"CueBook", "forgetWhatWasFound", "()V"⟩ ∈ lw_tbl := List.mem_append_left _ (List.mem_of_getElem? (i := 23) (by decide +kernel))
theorem ts_24 : Cond.selects "CueBook" ⟨"CueBook", "cueNumbered", "(I)LCueBook$Cue;"⟩ ⟨"CueBook", "cueNumbered", "(I)LCueBook$Cue;"⟩ ∈ lw_tbl := List.mem_append_left _ (List.mem_of_getElem? (i := 24) (by decide +kernel))
theorem ts_25 : Cond.selects "CueBook" ⟨"CueBook", "playerNumbered", "(I)LCueBook$Player;"⟩ ⟨"CueBook", "playerNumbered", "(I)LCueBook$Player;"⟩ ∈ lw_tbl := List.mem_append_left _ (List.mem_of_getElem? (i := 25) (by decide +kernel))
theorem ts_26 : Cond.selects "CueBookModel" ⟨"CueBookModel", "fail", "(I)I"⟩ ⟨"CueBookModel", "fail", "(I)I"⟩ ∈ lw_tbl := List.mem_append_left _ (List.mem_of_getElem? (i := 26) (by decide +kernel))
theorem ts_27 : Cond.selects "CueBookModel" ⟨"CueBookModel", "written", "(IIIII)I"⟩ ⟨"CueBookModel", "written", "(IIIII)I"⟩ ∈ lw_tbl := List.mem_append_left _ (List.mem_of_getElem? (i := 27) (by decide +kernel))
theorem ts_28 : Cond.selects "CueBookModel" ⟨"CueBookModel", "isPuppet", "(I)Z"⟩ ⟨"CueBookModel", "isPuppet", "(I)Z"⟩ ∈ lw_tbl := List.mem_append_left _ (List.mem_of_getElem? (i := 28) (by decide +kernel))
theorem ts_29 : Cond.selects "CueBookModel" ⟨"CueBookModel", "write", "(IIIII)I"⟩ ⟨"CueBookModel", "write", "(IIIII)I"⟩ ∈ lw_tbl := List.mem_append_left _ (List.mem_of_getElem? (i := 29) (by decide +kernel))
theorem ts_30 : Cond.selects "CueBookModel" ⟨"CueBookModel", "areRight", "(I)Z"⟩ ⟨"CueBookModel", "areRight", "(I)Z"⟩ ∈ lw_tbl := List.mem_append_left _ (List.mem_of_getElem? (i := 30) (by decide +kernel))
theorem ts_31 : Cond.selects "CueBookModel" ⟨"CueBookModel", "behind", "(II)I"⟩ ⟨"CueBookModel", "behind", "(II)I"⟩ ∈ lw_tbl := List.mem_append_left _ (List.mem_of_getElem? (i := 31) (by decide +kernel))
theorem ts_32 : Cond.selects "CueBookModel" ⟨"CueBookModel", "isBehind", "(II)Z"⟩ ⟨"CueBookModel", "isBehind", "(II)Z"⟩ ∈ lw_tbl := List.mem_append_left _ (List.mem_of_getElem? (i := 32) (by decide +kernel))
theorem ts_33 : Cond.selects "CueBookModel" ⟨"CueBookModel", "beat", "(I)I"⟩ ⟨"CueBookModel", "beat", "(I)I"⟩ ∈ lw_tbl := List.mem_append_left _ (List.mem_of_getElem? (i := 33) (by decide +kernel))
theorem ts_34 : Cond.selects "CueBookModel" ⟨"CueBookModel", "kind", "(I)I"⟩ ⟨"CueBookModel", "kind", "(I)I"⟩ ∈ lw_tbl := List.mem_append_left _ (List.mem_of_getElem? (i := 34) (by decide +kernel))
theorem ts_35 : Cond.selects "CueBookModel" ⟨"CueBookModel", "isCue", "(I)Z"⟩ ⟨"CueBookModel", "isCue", "(I)Z"⟩ ∈ lw_tbl := List.mem_append_left _ (List.mem_of_getElem? (i := 35) (by decide +kernel))
theorem ts_36 : Cond.selects "CueBookModel" ⟨"CueBookModel", "whyBeat", "(I)I"⟩ ⟨"CueBookModel", "whyBeat", "(I)I"⟩ ∈ lw_tbl := List.mem_append_left _ (List.mem_of_getElem? (i := 36) (by decide +kernel))
theorem ts_37 : Cond.selects "CueBookModel" ⟨"CueBookModel", "workOut", "()V"⟩ ⟨"CueBookModel", "workOut", "()V"⟩ ∈ lw_tbl := List.mem_append_left _ (List.mem_of_getElem? (i := 37) (by decide +kernel))
theorem ts_38 : Cond.selects "CueBookModel" ⟨"CueBookModel", "workOut", "(I)V"⟩ ⟨"CueBookModel", "workOut", "(I)V"⟩ ∈ lw_tbl := List.mem_append_left _ (List.mem_of_getElem? (i := 38) (by decide +kernel))
theorem ts_39 : Cond.selects "CueBookModel" ⟨"CueBookModel", "castAll", "()V"⟩ ⟨"CueBookModel", "castAll", "()V"⟩ ∈ lw_tbl := List.mem_append_left _ (List.mem_of_getElem? (i := 39) (by decide +kernel))
theorem ts_40 : Cond.selects "CueBookModel" ⟨"CueBookModel", "canDo", "(I)Z"⟩ ⟨"CueBookModel", "canDo", "(I)Z"⟩ ∈ lw_tbl := List.mem_append_left _ (List.mem_of_getElem? (i := 40) (by decide +kernel))
theorem ts_41 : Cond.selects "CueBookModel" ⟨"CueBookModel", "playerAt", "(II)I"⟩ ⟨"CueBookModel", "playerAt", "(II)I"⟩ ∈ lw_tbl := List.mem_append_left _ (List.mem_of_getElem? (i := 41) (by decide +kernel))
theorem ts_42 : Cond.selects "CueBookModel" ⟨"CueBookModel", "placeAt", "(II)I"⟩ ⟨"CueBookModel", "placeAt", "(II)I"⟩ ∈ lw_tbl := List.mem_append_left _ (List.mem_of_getElem? (i := 42) (by decide +kernel))
theorem ts_43 : Cond.selects "CueBookModel" ⟨"CueBookModel", "trackAt", "(II)I"⟩ ⟨"CueBookModel", "trackAt", "(II)I"⟩ ∈ lw_tbl := List.mem_append_left _ (List.mem_of_getElem? (i := 43) (by decide +kernel))
theorem ts_44 : Cond.selects "CueBookModel" ⟨"CueBookModel", "firstClash", "(II)I"⟩ ⟨"CueBookModel", "firstClash", "(II)I"⟩ ∈ lw_tbl := List.mem_append_left _ (List.mem_of_getElem? (i := 44) (by decide +kernel))
theorem ts_45 : Cond.selects "CueBookModel" ⟨"CueBookModel", "areOnOneTrack", "(III)Z"⟩ ⟨"CueBookModel", "areOnOneTrack", "(III)Z"⟩ ∈ lw_tbl := List.mem_append_left _ (List.mem_of_getElem? (i := 45) (by decide +kernel))
theorem ts_46 : Cond.selects "CueBookModel" ⟨"CueBookModel", "allClashes", "()I"⟩ ⟨"CueBookModel", "allClashes", "()I"⟩ ∈ lw_tbl := List.mem_append_left _ (List.mem_of_getElem? (i := 46) (by decide +kernel))
theorem ts_47 : Cond.selects "CueBookModel" ⟨"CueBookModel", "stayTold", "(III)I"⟩ ⟨"CueBookModel", "stayTold", "(III)I"⟩ ∈ lw_tbl := List.mem_append_left _ (List.mem_of_getElem? (i := 47) (by decide +kernel))
theorem ts_48 : Cond.selects "CueBookModel" ⟨"CueBookModel", "isPlayer", "(I)Z"⟩ ⟨"CueBookModel", "isPlayer", "(I)Z"⟩ ∈ lw_tbl := List.mem_append_left _ (List.mem_of_getElem? (i := 48) (by decide +kernel))
theorem ts_49 : Cond.selects "CueBookModel" ⟨"CueBookModel", "handsOf", "(II)I"⟩ ⟨"CueBookModel", "handsOf", "(II)I"⟩ ∈ lw_tbl := List.mem_append_left _ (List.mem_of_getElem? (i := 49) (by decide +kernel))
theorem ts_50 : Cond.selects "CueBookModel" ⟨"CueBookModel", "loadOf", "(I)I"⟩ ⟨"CueBookModel", "loadOf", "(I)I"⟩ ∈ lw_tbl := List.mem_append_left _ (List.mem_of_getElem? (i := 50) (by decide +kernel))
section GCalls
variable {Γ : GBase} {X : Cx} {cc : ByteArray} {nL : Nat} {own : String} {lvl mc ms : Nat} {S : PS} {k n pc : Nat} {loc : List (Nat × Value)} {st st0 : List Value}
variable {y : MethodName} {cy : ByteArray} {maxL np lvl' mc' ms' index : Nat} {rety : Option FieldType} {As : List Value} {b : Nat} {posty : Option Value → PS → Prop} {pxy : String → PS → Prop}
theorem g_callV (C : GC Γ X cc nL own lvl mc ms) (hy : GY y cy maxL rety np) (w : Cond.methodLink own index y ∈ lw_tbl) (w2 : Cond.instanceMethod y ∈ lw_tbl) (w3 : Cond.selects y.cls y y ∈ lw_tbl) (hlv : lvl' < lvl) {kk : Nat} {r : vw_C} (hr : gcl[kk]? = some r) (hC : r.1 = y.cls) (ha : al S b kk) (hM : GMet Γ y cy maxL rety lvl' mc' ms' (.ref b :: As) S posty pxy) (hAs : As.length = np) (hst : st0 = As.reverse ++ .ref b :: st) (hcat : (st.map fun v => v.category).sum ≤ 8) (hk : k + mc' ≤ mc) (hn : n + ms' ≤ ms) (d : decode cc pc = .ok (.invokevirtual index, 3))
    (kx : ∀ (E : String) (S' : PS), pxy E S' → GX Γ X S' (k + mc') (n + ms') pc loc E) (q : ∀ (v : Option Value) (S' : PS), posty v S' → GW Γ X S' (k + mc') (n + ms') (pc + 3) loc (v.toList ++ st)) : GW Γ X S k n pc loc st0 := fun H locs ls hP hD hS hl => by
  subst hst
  intro T hT X0
  rcases vx_runV (rest := st) (As := As) (g := F0 X.2.2.2.2.1 pc ls _) (Ts := []) ⟨C.hx, C.hb, C.hml, C.hown, fun _ h => nomatch h⟩ hM ⟨g_cb C hy w hlv, C.tw w2 rfl, C.tw w3 rfl⟩ ⟨GU_blind, hC ▸ g_recv C hP ha hr, g_fin C hP hD hS⟩ rfl hAs (hl.1.trans C.hml) rfl (lv_room hcat) d ⟨by rw [C.rc]; exact hk, by rw [C.rs]; exact hn⟩ T hT X0 with ⟨v, st₀, t, T', L, h0, X', hL, e1, e2, ⟨⟨v', S', hv, hpost, hU⟩, hF⟩, go⟩ | ⟨q9, st₀, t, T', L, E, ce, h0, X', hL, e1, e2, ⟨⟨S', hpx, hH⟩, hF⟩, hce, hcv, hcl, go⟩
  · cases hv
    have hS' := g_keep (H0 := X.2.2.2.1.heap) hS h0 e1 hL hF
    obtain ⟨-, -, -, hP', hD'⟩ := hU
    rw [← e1] at hP'
    obtain ⟨t2, a1, b1⟩ := q v S' hpost T'.heap (locs ++ L) ls hP' hD' hS' hl T' rfl X'
    exact ⟨t2, go t2 a1, b1⟩
  · have hS' := g_keep (H0 := X.2.2.2.1.heap) hS h0 e1 hL hF
    obtain ⟨-, -, hP', hD'⟩ := hH
    rw [← e1] at hP' hce
    obtain ⟨t2, a1, b1⟩ := kx E S' hpx T'.heap (locs ++ L) ls ce q9 st hP' hD' hS' hl hce hcv hcl T' rfl X'
    exact ⟨t2, go.trans a1, b1⟩
theorem g_callS (C : GC Γ X cc nL own lvl mc ms) (hy : GY y cy maxL rety np) (w : Cond.methodLink own index y ∈ lw_tbl) (w2 : Cond.static y ∈ lw_tbl) (hlv : lvl' < lvl)  (hM : GMet Γ y cy maxL rety lvl' mc' ms' As S posty pxy) (hAs : As.length = np) (hst : st0 = As.reverse ++ st) (hcat : (st.map fun v => v.category).sum ≤ 8) (hk : k + mc' ≤ mc) (hn : n + ms' ≤ ms) (d : decode cc pc = .ok (.invokestatic index, 3))
    (kx : ∀ (E : String) (S' : PS), pxy E S' → GX Γ X S' (k + mc') (n + ms') pc loc E) (q : ∀ (v : Option Value) (S' : PS), posty v S' → GW Γ X S' (k + mc') (n + ms') (pc + 3) loc (v.toList ++ st)) : GW Γ X S k n pc loc st0 := fun H locs ls hP hD hS hl => by
  subst hst
  intro T hT X0
  rcases vx_runS (rest := st) (As := As) (g := F0 X.2.2.2.2.1 pc ls _) (Ts := []) ⟨C.hx, C.hb, C.hml, C.hown, fun _ h => nomatch h⟩ hM ⟨g_cb C hy w hlv, C.tw w2 rfl⟩ ⟨GU_blind, g_fin C hP hD hS⟩ rfl hAs (hl.1.trans C.hml) rfl (lv_room hcat) d ⟨by rw [C.rc]; exact hk, by rw [C.rs]; exact hn⟩ T hT X0 with ⟨v, st₀, t, T', L, h0, X', hL, e1, e2, ⟨⟨v', S', hv, hpost, hU⟩, hF⟩, go⟩ | ⟨q9, st₀, t, T', L, E, ce, h0, X', hL, e1, e2, ⟨⟨S', hpx, hH⟩, hF⟩, hce, hcv, hcl, go⟩
  · cases hv
    have hS' := g_keep (H0 := X.2.2.2.1.heap) hS h0 e1 hL hF
    obtain ⟨-, -, -, hP', hD'⟩ := hU
    rw [← e1] at hP'
    obtain ⟨t2, a1, b1⟩ := q v S' hpost T'.heap (locs ++ L) ls hP' hD' hS' hl T' rfl X'
    exact ⟨t2, go t2 a1, b1⟩
  · have hS' := g_keep (H0 := X.2.2.2.1.heap) hS h0 e1 hL hF
    obtain ⟨-, -, hP', hD'⟩ := hH
    rw [← e1] at hP' hce
    obtain ⟨t2, a1, b1⟩ := kx E S' hpx T'.heap (locs ++ L) ls ce q9 st hP' hD' hS' hl hce hcv hcl T' rfl X'
    exact ⟨t2, go.trans a1, b1⟩
theorem g_callI (C : GC Γ X cc nL own lvl mc ms) (hy : GY y cy maxL rety np) (w : Cond.methodLink own index y ∈ lw_tbl) (w2 : Cond.instanceMethod y ∈ lw_tbl) (h1 : y.name = "<init>") (hret : rety = none) (hlv : lvl' < lvl)  (hM : GMet Γ y cy maxL rety lvl' mc' ms' (.ref b :: As) S posty noX) (hAs : As.length = np) (hst : st0 = As.reverse ++ .ref b :: st) (hcat : (st.map fun v => v.category).sum ≤ 8) (hk : k + mc' ≤ mc) (hn : n + ms' ≤ ms) (d : decode cc pc = .ok (.invokespecial index, 3))
    (q : ∀ (v : Option Value) (S' : PS), posty v S' → GW Γ X S' (k + mc') (n + ms') (pc + 3) loc (v.toList ++ st)) : GW Γ X S k n pc loc st0 := fun H locs ls hP hD hS hl => by
  subst hst
  intro T hT X0
  obtain ⟨v, st₀, t, T', L, h0, X', hL, e1, e2, ⟨⟨v', S', hv, hpost, hU⟩, hF⟩, go⟩ := va_runI (rest := st) (As := As) (g := F0 X.2.2.2.2.1 pc ls _) (Ts := []) ⟨C.hx, C.hb, C.hml, C.hown, fun _ h => nomatch h⟩ hM.plain ⟨by subst hret; exact g_cb C hy w hlv, h1, C.tw w2 rfl⟩ ⟨GU_blind, g_fin C hP hD hS⟩ rfl hAs (hl.1.trans C.hml) rfl (lv_room hcat) d ⟨by rw [C.rc]; exact hk, by rw [C.rs]; exact hn⟩ T hT X0
  cases hv
  have hS' := g_keep (H0 := X.2.2.2.1.heap) hS h0 e1 hL hF
  obtain ⟨-, -, -, hP', hD'⟩ := hU
  rw [← e1] at hP'
  obtain ⟨t2, a1, b1⟩ := q v S' hpost T'.heap (locs ++ L) ls hP' hD' hS' hl T' rfl X'
  exact ⟨t2, go t2 a1, b1⟩
theorem g_cbN (C : GC Γ X cc nL own lvl mc ms) {host : String} (hy : GY y cy maxL rety np) (w : Cond.methodLinkNest own index y host ∈ lw_tbl) (hlv : lvl' < lvl) : va_CN X.2.2.1 X.2.2.2.1 X.2.2.2.2.2.1 own index y host cy maxL rety (gws y cy maxL rety) (rmv lvl' mc' ms') mc' ms' np := by
  obtain ⟨h1, h2, h3, h4, h5⟩ := hy
  refine ⟨⟨rfl, rfl, ?_, ?_, ?_, List.mem_cons_self⟩, C.tw h1 rfl, C.tw h2 rfl, h3, fun sig h => ?_, va_Nw.use rfl (va_Nw.warmM C.hW (va_Nw.of rfl (C.F.1 _ w)))⟩
  · have := C.rf
    show 20 * (lvl' + 1) + 1 ≤ _
    omega
  · refine Nat.le_trans ?_ C.rl
    show 8 + (maxL + 11) + 400 * (lvl' + 1) ≤ 400 * (lvl + 1)
    exact g_loc hlv h5
  · intro w' hw' a' U hU
    rw [List.mem_singleton.mp hw']
    exact word_at hU (Or.inl rfl) (C.tw h1 rfl)
  · rw [h] at h4
    exact (Option.some.inj h4).symm
theorem g_callIN (C : GC Γ X cc nL own lvl mc ms) (hy : GY y cy maxL rety np) {host : String} (w : Cond.methodLinkNest own index y host ∈ lw_tbl) (w2 : Cond.instanceMethod y ∈ lw_tbl) (h1 : y.name = "<init>") (hret : rety = none) (hlv : lvl' < lvl)  (hM : GMet Γ y cy maxL rety lvl' mc' ms' (.ref b :: As) S posty noX) (hAs : As.length = np) (hst : st0 = As.reverse ++ .ref b :: st) (hcat : (st.map fun v => v.category).sum ≤ 8) (hk : k + mc' ≤ mc) (hn : n + ms' ≤ ms) (d : decode cc pc = .ok (.invokespecial index, 3))
    (q : ∀ (v : Option Value) (S' : PS), posty v S' → GW Γ X S' (k + mc') (n + ms') (pc + 3) loc (v.toList ++ st)) : GW Γ X S k n pc loc st0 := fun H locs ls hP hD hS hl => by
  subst hst
  intro T hT X0
  obtain ⟨v, st₀, t, T', L, h0, X', hL, e1, e2, ⟨⟨v', S', hv, hpost, hU⟩, hF⟩, go⟩ := va_runIN (rest := st) (As := As) (g := F0 X.2.2.2.2.1 pc ls _) (Ts := []) ⟨C.hx, C.hb, C.hml, C.hown, fun _ h => nomatch h⟩ hM.plain ⟨by subst hret; exact g_cbN C hy w hlv, h1, C.tw w2 rfl⟩ ⟨GU_blind, g_fin C hP hD hS⟩ rfl hAs (hl.1.trans C.hml) rfl (lv_room hcat) d ⟨by rw [C.rc]; exact hk, by rw [C.rs]; exact hn⟩ T hT X0
  cases hv
  have hS' := g_keep (H0 := X.2.2.2.1.heap) hS h0 e1 hL hF
  obtain ⟨-, -, -, hP', hD'⟩ := hU
  rw [← e1] at hP'
  obtain ⟨t2, a1, b1⟩ := q v S' hpost T'.heap (locs ++ L) ls hP' hD' hS' hl T' rfl X'
  exact ⟨t2, go t2 a1, b1⟩
theorem g_callSN (C : GC Γ X cc nL own lvl mc ms) (hy : GY y cy maxL rety np) {host : String} (w : Cond.methodLinkNest own index y host ∈ lw_tbl) (w2 : Cond.static y ∈ lw_tbl) (hlv : lvl' < lvl)  (hM : GMet Γ y cy maxL rety lvl' mc' ms' As S posty noX) (hAs : As.length = np) (hst : st0 = As.reverse ++ st) (hcat : (st.map fun v => v.category).sum ≤ 8) (hk : k + mc' ≤ mc) (hn : n + ms' ≤ ms) (d : decode cc pc = .ok (.invokestatic index, 3))
    (q : ∀ (v : Option Value) (S' : PS), posty v S' → GW Γ X S' (k + mc') (n + ms') (pc + 3) loc (v.toList ++ st)) : GW Γ X S k n pc loc st0 := fun H locs ls hP hD hS hl => by
  subst hst
  intro T hT X0
  obtain ⟨v, st₀, t, T', L, h0, X', hL, e1, e2, ⟨⟨v', S', hv, hpost, hU⟩, hF⟩, go⟩ := va_runSN (rest := st) (As := As) (g := F0 X.2.2.2.2.1 pc ls _) (Ts := []) ⟨C.hx, C.hb, C.hml, C.hown, fun _ h => nomatch h⟩ hM.plain ⟨g_cbN C hy w hlv, C.tw w2 rfl, trivial⟩ ⟨GU_blind, g_fin C hP hD hS⟩ rfl hAs (hl.1.trans C.hml) rfl (lv_room hcat) d ⟨by rw [C.rc]; exact hk, by rw [C.rs]; exact hn⟩ T hT X0
  cases hv
  have hS' := g_keep (H0 := X.2.2.2.1.heap) hS h0 e1 hL hF
  obtain ⟨-, -, -, hP', hD'⟩ := hU
  rw [← e1] at hP'
  obtain ⟨t2, a1, b1⟩ := q v S' hpost T'.heap (locs ++ L) ls hP' hD' hS' hl T' rfl X'
  exact ⟨t2, go t2 a1, b1⟩
end GCalls
end
section
/-! ===== throws ===== -/
def okW (w : Cond) : Bool := goodWord w || (match w with | .castable .. => true | .declares .. => true | _ => false)
theorem noTr {Γ : GBase} (F : FB Γ) : (bL Γ).stackTraces = false := by
  unfold Launch.stackTraces
  rw [F.2.2.1]
  decide +kernel
theorem st_U {Γ : GBase} (F : FB Γ) : vx_Zq Bundle.tN "UNASSIGNED_STACK" Bundle.steD (AA Γ) (bS Γ) (bS Γ).heap :=
  vx_Zqof (F.1 _ tw_1_189) (F.1 _ tw_1_6) (flat_of_before _ F.2.2.2.1 _ (by decide +kernel)) (fun a h z => by unfold AA at z; omega)
theorem st_N {Γ : GBase} (F : FB Γ) : vx_Zq Bundle.tN "SUPPRESSED_SENTINEL" Bundle.listD (AA Γ) (bS Γ) (bS Γ).heap :=
  vx_Zqof (F.1 _ tw_1_191) (F.1 _ tw_1_6) (flat_of_before _ F.2.2.2.1 _ (by decide +kernel)) (fun a h z => by unfold AA at z; omega)
section GThrow
variable {Γ : GBase} {X : Cx} {cc : ByteArray} {nL : Nat} {own : String} {lvl mc ms : Nat} {S : PS} {k n pc : Nat} {loc : List (Nat × Value)} {st : List Value} {ret : Option FieldType} {post : Option Value → PS → Prop} {px : String → PS → Prop}
theorem GC.tw2 (C : GC Γ X cc nL own lvl mc ms) {w : Cond} (h : w ∈ lw_tbl) (g : okW w = true) : w.before X.2.2.2.2.2.1 X.2.2.2.1 = true := by
  simp only [okW, Bool.or_eq_true] at g
  rcases g with g | g
  · exact C.tw h g
  · have hb := C.F.1 w h
    cases w <;> first | exact Bool.noConfusion (show false = true from g) | exact va_Nw.use rfl (va_Nw.warmC C.hW (va_Nw.of rfl hb)) | exact va_Nw.use rfl (va_Nw.warmD C.hW (va_Nw.of rfl hb))
theorem kept_pool {D : va_G} {cy : Nat → ClassId} {H H1 : Heap} (hP : va_P D gcl (pw cy S) H) (hk : ∀ q : Nat, q < H.size → H1[q]? = H[q]?) : va_P D gcl (pw cy S) H1 := hP.kept (fun i x hx => hk x.1 ((hP i x hx).lt))
theorem g_throwx (C : GC Γ X cc nL own lvl mc ms) {H : Heap} {locs : List Loc} (hP : va_P (bD Γ) gcl (pw (bC Γ) S) H) (hD : va_D (AA Γ) (pw (bC Γ) S)) (hS : va_S (AA Γ) X.2.2.2.1.heap H locs) {E : String} (hp : px E S) : ∀ t : State, X.2.2.2.1.vm.Alike t.vm → H.size ≤ t.heap.size → (∀ q : Nat, q < H.size → t.heap[q]? = H[q]?) → GPx Γ px E X.2.2.2.1 t := by
  intro t hA hz hq
  refine ⟨⟨S, hp, Nat.le_trans C.hN (Nat.le_trans hS.1 hz), fun q h => ?_, kept_pool hP hq, hD⟩, Nat.le_trans hS.1 hz, fun q h1 h2 => ?_⟩
  · rw [hq q (Nat.lt_of_lt_of_le h (Nat.le_trans C.hN hS.1)), hS.2.1 q (Nat.lt_of_lt_of_le h C.hN) (fun z => by unfold AA at z; omega)]
    exact C.hq q h
  · rw [hq q (Nat.lt_of_lt_of_le h1 hS.1)]
    exact hS.2.1 q h1 h2
/-- what a throw of ours stands on: class, text, places in the pool -/
def TX (own cls : String) (ik ic : Nat) : Prop := Bundle.fit cls = true ∧ Cond.classLink own ik cls ∈ lw_tbl ∧ Cond.initialized cls ∈ lw_tbl ∧ (∀ w ∈ vx_atS own ic cls ["java/lang/RuntimeException", "java/lang/Exception"], w ∈ lw_tbl ∧ okW w = true ∧ vx_ot w = true)
theorem vkR_base {Γ : GBase} (F : FB Γ) {tx : String} {is kk : Nat} {r : vw_C} (hr : gcl[kk]? = some r) (w : Cond.stringRef r.1 is tx ∈ lw_tbl) : ∃ sa, vk_R r.1 is tx sa (bS Γ) := by
  obtain ⟨_, _, _, a, _, _, _, _, _, h⟩ := Cond.stringRef_spec (F.2.1.1 kk r hr).2.1 (F.1 _ w)
  exact ⟨a, vk_R.of (F.1 _ w) h⟩
theorem g_throwS (C : GC Γ X cc nL own lvl mc ms) (R : GRet Γ X ret mc ms post px) (Tb : ∀ x ∈ X.2.2.2.2.2.2.2.2.1.exceptionTable.toList, False) {cls tx : String} {ik is ic kk : Nat} {r : vw_C} (hr : gcl[kk]? = some r) (ho : r.1 = own) (t : TX own cls ik ic) (w : Cond.stringRef own is tx ∈ lw_tbl)
    (d0 : decode cc pc = .ok (.new ik, 3)) (d3 : decode cc (pc + 3) = .ok (.dup, 1)) (d4 : decode cc (pc + 4) = .ok (.ldc is, 2)) (d6 : decode cc (pc + 6) = .ok (.invokespecial ic, 3)) (d9 : decode cc (pc + 9) = .ok (.athrow, 1)) (hst : (st.map fun v => v.category).sum ≤ 200) (hk : k + 1 ≤ mc) (hn : n + 6 ≤ ms) (hp : px cls S) : GW Γ X S k n pc loc st := fun H locs ls hP hD hS hl => by
  subst ho
  obtain ⟨sa, hsa⟩ := vkR_base C.F hr w
  rw [R.1]
  obtain ⟨t1, t2, t3, t4⟩ := t
  refine vx_throwS C.hx C.hb (noTr C.F) C.hown t1 (names := ["java/lang/RuntimeException", "java/lang/Exception"]) (by decide) (C.tw t2 rfl) (C.tw t3 rfl) (vk_R.warm C.hW hsa) (fun w' h' => C.tw2 (t4 w' h').1 (t4 w' h').2.1) (fun w' h' => ?_) (vx_Zq.moved C.hW.alike (vx_Zq.kept (st_U C.F) (fun q h _ => C.hq q h))) (vx_Zq.moved C.hW.alike (vx_Zq.kept (st_N C.F) (fun q h _ => C.hq q h))) hS hl.1 d0 d3 d4 d6 d9 (fun x hx => (Tb x hx).elim) ?_ ?_ ?_ ?_ C.locks (g_throwx C hP hD hS hp) hS.2.2 hk hn
  · rcases List.mem_cons.mp h' with rfl | h'
    · rfl
    · rcases List.mem_cons.mp h' with rfl | h'
      · rfl
      · exact (t4 w' h').2.2
  · have := C.rf; show 2 + 3 < _; omega
  · have := C.rl; show _ + (13 * (2 + 1) + 43) ≤ _; omega
  · rw [C.rc]; exact hk
  · rw [C.rs]; exact hn
theorem g_throwSW (C : GC Γ X cc nL own lvl mc ms) (R : GRet Γ X ret mc ms post px) (Tb : ∀ x ∈ X.2.2.2.2.2.2.2.2.1.exceptionTable.toList, False) {cls tx : String} {ik is ic kk : Nat} {r : vw_C} (hr : gcl[kk]? = some r) (ho : r.1 = own) (t : TX own cls ik ic) (w : Cond.stringRef own is tx ∈ lw_tbl)
    (d0 : decode cc pc = .ok (.new ik, 3)) (d3 : decode cc (pc + 3) = .ok (.dup, 1)) (d4 : decode cc (pc + 4) = .ok (.ldc_w is, 3)) (d6 : decode cc (pc + 7) = .ok (.invokespecial ic, 3)) (d9 : decode cc (pc + 10) = .ok (.athrow, 1)) (hst : (st.map fun v => v.category).sum ≤ 200) (hk : k + 1 ≤ mc) (hn : n + 6 ≤ ms) (hp : px cls S) : GW Γ X S k n pc loc st := fun H locs ls hP hD hS hl => by
  subst ho
  obtain ⟨sa, hsa⟩ := vkR_base C.F hr w
  rw [R.1]
  obtain ⟨t1, t2, t3, t4⟩ := t
  refine vx_throwSW C.hx C.hb (noTr C.F) C.hown t1 (names := ["java/lang/RuntimeException", "java/lang/Exception"]) (by decide) (C.tw t2 rfl) (C.tw t3 rfl) (vk_R.warm C.hW hsa) (fun w' h' => C.tw2 (t4 w' h').1 (t4 w' h').2.1) (fun w' h' => ?_) (vx_Zq.moved C.hW.alike (vx_Zq.kept (st_U C.F) (fun q h _ => C.hq q h))) (vx_Zq.moved C.hW.alike (vx_Zq.kept (st_N C.F) (fun q h _ => C.hq q h))) hS hl.1 d0 d3 d4 d6 d9 (fun x hx => (Tb x hx).elim) ?_ ?_ ?_ ?_ C.locks (g_throwx C hP hD hS hp) hS.2.2 hk hn
  · rcases List.mem_cons.mp h' with rfl | h'
    · rfl
    · rcases List.mem_cons.mp h' with rfl | h'
      · rfl
      · exact (t4 w' h').2.2
  · have := C.rf; show 2 + 3 < _; omega
  · have := C.rl; show _ + (13 * (2 + 1) + 43) ≤ _; omega
  · rw [C.rc]; exact hk
  · rw [C.rs]; exact hn
/-- System.arraycopy between two rows of references to objects of one kind -/
theorem g_copyQ (C : GC Γ X cc nL own lvl mc ms) {index a0 a1 sp dp m kv : Nat} {x y z : Int32} (w : Cond.methodLink own index arraycopyName ∈ lw_tbl) (hx : x = nI sp) (hy : y = nI dp) (hz : z = nI m) (ha0 : al S a0 12) (ha1 : al S a1 12) (h4 : sp + m ≤ pN S a0) (h5 : dp + m ≤ pN S a1) (h6 : pN S a0 < 1000000 ∧ pN S a1 < 1000000) (h8 : kv < 8) (hel : ∀ i : Nat, i < m → ∀ v : Nat, pRP S a0 (sp + i) = some v → al S v kv) (hst : (st.map fun v => v.category).sum ≤ 200) (d : decode cc pc = .ok (.invokestatic index, 3)) (q : GW Γ X (uRP S a1 (va_cpy (pRP S a0) (pRP S a1) sp dp m)) k n (pc + 3) loc st) : GW Γ X S k n pc loc (.int z :: .int y :: .ref a1 :: .int x :: .ref a0 :: st) := fun H locs ls hP hD hS hl => by
  subst hx; subst hy; subst hz
  obtain ⟨q0, hq0⟩ := pw_get (bC Γ) ha0.1
  obtain ⟨q1, hq1'⟩ := pw_get (bC Γ) ha1.1
  have hq1 := hq1'
  rw [PFo_Q (bC Γ) ha0] at hq0
  rw [PFo_Q (bC Γ) ha1] at hq1
  obtain ⟨r, hr⟩ := gcl_of h8
  have c1 : (nI sp).toNatClampNeg = sp := nI_clamp (by omega)
  have c2 : (nI dp).toNatClampNeg = dp := nI_clamp (by omega)
  have c3 : (nI m).toNatClampNeg = m := nI_clamp (by omega)
  refine va_copyq (C := r.1) (E0 := "java/lang/Object") (E1 := "java/lang/Object") C.hx C.hb hl.1.symm C.hown (C.tw w rfl) (C.tw tw_2_45 rfl) (C.tw tw_2_44 rfl) (C.tw tw_1_15 rfl) C.hK hP hD hS q0 q1 4 4 hq0 hq1 rfl rfl (nI_pos (by omega)) (nI_pos (by omega)) (nI_pos (by omega)) (by rw [c1, c3]; exact h4) (by rw [c2, c3]; exact h5) (fun i hi v hv => ?_) (vb_asgC (va_Nw.warmC C.hW (cast_obj C.F hr))) (by have := C.rf; omega) ?_ d (fun H1 locs1 hP1 hD1 hS1 => ?_)
  · rw [c3] at hi
    rw [c1] at hv
    exact g_recv C hP (hel i hi v hv) hr
  · have e : nativeFrameWords "java/lang/System" "arraycopy" 5 + 11 ≤ 100 := by decide
    have := C.rl
    omega
  · rw [c1, c2, c3] at hP1 hD1
    have e : ∀ r, (pw (bC Γ) S).set q1 (a1, .inl (bC Γ 4, (pN S a1, .inr (.inr (.inr (.inr r)))))) = pw (bC Γ) (uRP S a1 r) := fun r => by
      rw [pw_set hD ha1.1 hq1']
      exact va_pl_congr (PFo_uRP (bC Γ) S ha1.2 r)
    rw [e] at hP1 hD1
    exact q H1 locs1 ls hP1 hD1 hS1 hl
end GThrow
theorem tx_IAE : TX "CueBook" "java/lang/IllegalArgumentException" 39 43 := ⟨by decide +kernel, tw_3_128, tw_1_9, by decide +kernel⟩
theorem tx_ISE : TX "CueBook" "java/lang/IllegalStateException" 52 56 := ⟨by decide +kernel, tw_3_132, tw_1_10, by decide +kernel⟩
theorem tx_IOB : TX "CueBook" "java/lang/IndexOutOfBoundsException" 121 125 := ⟨by decide +kernel, tw_3_104, tw_1_17, by decide +kernel⟩
end
section
/-! ===== a row for each field; facts of each method ===== -/
theorem inc1 (i : Nat) : nI i + Int32.ofInt 1 = nI (i + 1) := nI_1 i
theorem decr1 (i : Nat) : nI (i + 1) + Int32.ofInt (-1) = nI i := by
  rw [show Int32.ofInt (-1) = (-1 : Int32) from by decide]; exact pk_m1 i
section GFields
variable {Γ : GBase} {X : Cx} {cc : ByteArray} {nL : Nat} {own : String} {lvl mc ms : Nat} {S : PS} {k n pc : Nat} {loc : List (Nat × Value)} {st : List Value} {a index : Nat}
theorem ge_Cue_kind (C : GC Γ X cc nL own lvl mc ms) (w : Cond.fieldLink own index "CueBook$Cue" "kind" "I" ∈ lw_tbl) (ha : al S a 0) {v : Int32} (hv : pI S 0 a = v) (d : decode cc pc = .ok (.getfield index, 3)) (q : GW Γ X S k n (pc + 3) loc (.int v :: st)) : GW Γ X S k n pc loc (.ref a :: st) := g_getI C kd_0 (i := 0) rfl w (Or.inl rfl) ha hv d q
theorem pu_Cue_kind (C : GC Γ X cc nL "CueBook$Cue" lvl mc ms) (w : Cond.fieldLink "CueBook$Cue" index "CueBook$Cue" "kind" "I" ∈ lw_tbl) (nm : X.2.2.2.2.2.2.2.1.name = "<init>") (ha : al S a 0) {v : Int32} (d : decode cc pc = .ok (.putfield index, 3)) (q : GW Γ X (uI S 0 a v) k n (pc + 3) loc st) : GW Γ X S k n pc loc (.int v :: .ref a :: st) := g_putI C kd_0 (i := 0) rfl w (Or.inl rfl) (Or.inr ⟨rfl, nm, rfl, rfl⟩) ha rfl rfl d q
theorem ge_Cue_puppet (C : GC Γ X cc nL own lvl mc ms) (w : Cond.fieldLink own index "CueBook$Cue" "puppet" "LCueBook$Puppet;" ∈ lw_tbl) (ha : al S a 0) {v : Nat} (hv : pP S 1 a = some v) (d : decode cc pc = .ok (.getfield index, 3)) (q : GW Γ X S k n (pc + 3) loc (.ref v :: st)) : GW Γ X S k n pc loc (.ref a :: st) := g_getP C kd_0 (i := 1) rfl w ha hv d q
theorem pu_Cue_puppet (C : GC Γ X cc nL "CueBook$Cue" lvl mc ms) (w : Cond.fieldLink "CueBook$Cue" index "CueBook$Cue" "puppet" "LCueBook$Puppet;" ∈ lw_tbl) (nm : X.2.2.2.2.2.2.2.1.name = "<init>") (ha : al S a 0) {v : Nat} (d : decode cc pc = .ok (.putfield index, 3)) (q : GW Γ X (uP S 1 a (some v)) k n (pc + 3) loc st) : GW Γ X S k n pc loc (.ref v :: .ref a :: st) := g_putP C kd_0 (i := 1) rfl w (Or.inr ⟨rfl, nm, rfl⟩) ha rfl rfl d q
theorem ge_Cue_beat (C : GC Γ X cc nL own lvl mc ms) (w : Cond.fieldLink own index "CueBook$Cue" "beat" "I" ∈ lw_tbl) (ha : al S a 0) {v : Int32} (hv : pI S 2 a = v) (d : decode cc pc = .ok (.getfield index, 3)) (q : GW Γ X S k n (pc + 3) loc (.int v :: st)) : GW Γ X S k n pc loc (.ref a :: st) := g_getI C kd_0 (i := 2) rfl w (Or.inl rfl) ha hv d q
theorem pu_Cue_beat (C : GC Γ X cc nL "CueBook$Cue" lvl mc ms) (w : Cond.fieldLink "CueBook$Cue" index "CueBook$Cue" "beat" "I" ∈ lw_tbl) (nm : X.2.2.2.2.2.2.2.1.name = "<init>") (ha : al S a 0) {v : Int32} (d : decode cc pc = .ok (.putfield index, 3)) (q : GW Γ X (uI S 2 a v) k n (pc + 3) loc st) : GW Γ X S k n pc loc (.int v :: .ref a :: st) := g_putI C kd_0 (i := 2) rfl w (Or.inl rfl) (Or.inr ⟨rfl, nm, rfl, rfl⟩) ha rfl rfl d q
theorem ge_Cue_place (C : GC Γ X cc nL own lvl mc ms) (w : Cond.fieldLink own index "CueBook$Cue" "place" "I" ∈ lw_tbl) (ha : al S a 0) {v : Int32} (hv : pI S 3 a = v) (d : decode cc pc = .ok (.getfield index, 3)) (q : GW Γ X S k n (pc + 3) loc (.int v :: st)) : GW Γ X S k n pc loc (.ref a :: st) := g_getI C kd_0 (i := 3) rfl w (Or.inl rfl) ha hv d q
theorem pu_Cue_place (C : GC Γ X cc nL "CueBook$Cue" lvl mc ms) (w : Cond.fieldLink "CueBook$Cue" index "CueBook$Cue" "place" "I" ∈ lw_tbl) (nm : X.2.2.2.2.2.2.2.1.name = "<init>") (ha : al S a 0) {v : Int32} (d : decode cc pc = .ok (.putfield index, 3)) (q : GW Γ X (uI S 3 a v) k n (pc + 3) loc st) : GW Γ X S k n pc loc (.int v :: .ref a :: st) := g_putI C kd_0 (i := 3) rfl w (Or.inl rfl) (Or.inr ⟨rfl, nm, rfl, rfl⟩) ha rfl rfl d q
theorem ge_Cue_track (C : GC Γ X cc nL own lvl mc ms) (w : Cond.fieldLink own index "CueBook$Cue" "track" "I" ∈ lw_tbl) (ha : al S a 0) {v : Int32} (hv : pI S 4 a = v) (d : decode cc pc = .ok (.getfield index, 3)) (q : GW Γ X S k n (pc + 3) loc (.int v :: st)) : GW Γ X S k n pc loc (.ref a :: st) := g_getI C kd_0 (i := 4) rfl w (Or.inl rfl) ha hv d q
theorem pu_Cue_track (C : GC Γ X cc nL "CueBook$Cue" lvl mc ms) (w : Cond.fieldLink "CueBook$Cue" index "CueBook$Cue" "track" "I" ∈ lw_tbl) (nm : X.2.2.2.2.2.2.2.1.name = "<init>") (ha : al S a 0) {v : Int32} (d : decode cc pc = .ok (.putfield index, 3)) (q : GW Γ X (uI S 4 a v) k n (pc + 3) loc st) : GW Γ X S k n pc loc (.int v :: .ref a :: st) := g_putI C kd_0 (i := 4) rfl w (Or.inl rfl) (Or.inr ⟨rfl, nm, rfl, rfl⟩) ha rfl rfl d q
theorem ge_Cue_isStruck (C : GC Γ X cc nL own lvl mc ms) (w : Cond.fieldLink own index "CueBook$Cue" "isStruck" "Z" ∈ lw_tbl) (ha : al S a 0) {v : Int32} (hv : pI S 5 a = v) (d : decode cc pc = .ok (.getfield index, 3)) (q : GW Γ X S k n (pc + 3) loc (.int v :: st)) : GW Γ X S k n pc loc (.ref a :: st) := g_getI C kd_0 (i := 5) rfl w (Or.inl rfl) ha hv d q
theorem pu_Cue_isStruck (C : GC Γ X cc nL own lvl mc ms) (w : Cond.fieldLink own index "CueBook$Cue" "isStruck" "Z" ∈ lw_tbl) (ha : al S a 0) {v : Int32} (hz : v = 0 ∨ v = 1) (d : decode cc pc = .ok (.putfield index, 3)) (q : GW Γ X (uI S 5 a v) k n (pc + 3) loc st) : GW Γ X S k n pc loc (.int v :: .ref a :: st) := g_putI C kd_0 (i := 5) rfl w (Or.inl rfl) (Or.inl rfl) ha (by rcases hz with rfl | rfl <;> rfl) (by rcases hz with rfl | rfl <;> rfl) d q
theorem ge_Cue_notes (C : GC Γ X cc nL own lvl mc ms) (w : Cond.fieldLink own index "CueBook$Cue" "notes" "I" ∈ lw_tbl) (ha : al S a 0) {v : Int32} (hv : pI S 6 a = v) (d : decode cc pc = .ok (.getfield index, 3)) (q : GW Γ X S k n (pc + 3) loc (.int v :: st)) : GW Γ X S k n pc loc (.ref a :: st) := g_getI C kd_0 (i := 6) rfl w (Or.inl rfl) ha hv d q
theorem pu_Cue_notes (C : GC Γ X cc nL own lvl mc ms) (w : Cond.fieldLink own index "CueBook$Cue" "notes" "I" ∈ lw_tbl) (ha : al S a 0) {v : Int32} (d : decode cc pc = .ok (.putfield index, 3)) (q : GW Γ X (uI S 6 a v) k n (pc + 3) loc st) : GW Γ X S k n pc loc (.int v :: .ref a :: st) := g_putI C kd_0 (i := 6) rfl w (Or.inl rfl) (Or.inl rfl) ha rfl rfl d q
theorem ge_Cue_sumLate (C : GC Γ X cc nL own lvl mc ms) (w : Cond.fieldLink own index "CueBook$Cue" "sumLate" "I" ∈ lw_tbl) (ha : al S a 0) {v : Int32} (hv : pI S 7 a = v) (d : decode cc pc = .ok (.getfield index, 3)) (q : GW Γ X S k n (pc + 3) loc (.int v :: st)) : GW Γ X S k n pc loc (.ref a :: st) := g_getI C kd_0 (i := 7) rfl w (Or.inl rfl) ha hv d q
theorem pu_Cue_sumLate (C : GC Γ X cc nL own lvl mc ms) (w : Cond.fieldLink own index "CueBook$Cue" "sumLate" "I" ∈ lw_tbl) (ha : al S a 0) {v : Int32} (d : decode cc pc = .ok (.putfield index, 3)) (q : GW Γ X (uI S 7 a v) k n (pc + 3) loc st) : GW Γ X S k n pc loc (.int v :: .ref a :: st) := g_putI C kd_0 (i := 7) rfl w (Or.inl rfl) (Or.inl rfl) ha rfl rfl d q
theorem ge_Cue_sumOff (C : GC Γ X cc nL own lvl mc ms) (w : Cond.fieldLink own index "CueBook$Cue" "sumOff" "I" ∈ lw_tbl) (ha : al S a 0) {v : Int32} (hv : pI S 8 a = v) (d : decode cc pc = .ok (.getfield index, 3)) (q : GW Γ X S k n (pc + 3) loc (.int v :: st)) : GW Γ X S k n pc loc (.ref a :: st) := g_getI C kd_0 (i := 8) rfl w (Or.inl rfl) ha hv d q
theorem pu_Cue_sumOff (C : GC Γ X cc nL own lvl mc ms) (w : Cond.fieldLink own index "CueBook$Cue" "sumOff" "I" ∈ lw_tbl) (ha : al S a 0) {v : Int32} (d : decode cc pc = .ok (.putfield index, 3)) (q : GW Γ X (uI S 8 a v) k n (pc + 3) loc st) : GW Γ X S k n pc loc (.int v :: .ref a :: st) := g_putI C kd_0 (i := 8) rfl w (Or.inl rfl) (Or.inl rfl) ha rfl rfl d q
theorem ge_Path_isOnStage (C : GC Γ X cc nL own lvl mc ms) (w : Cond.fieldLink own index "CueBook$Path" "isOnStage" "Z" ∈ lw_tbl) (ha : al S a 1) {v : Int32} (hv : pI S 32 a = v) (d : decode cc pc = .ok (.getfield index, 3)) (q : GW Γ X S k n (pc + 3) loc (.int v :: st)) : GW Γ X S k n pc loc (.ref a :: st) := g_getI C kd_1 (i := 0) rfl w (Or.inl rfl) ha hv d q
theorem pu_Path_isOnStage (C : GC Γ X cc nL own lvl mc ms) (w : Cond.fieldLink own index "CueBook$Path" "isOnStage" "Z" ∈ lw_tbl) (ha : al S a 1) {v : Int32} (hz : v = 0 ∨ v = 1) (d : decode cc pc = .ok (.putfield index, 3)) (q : GW Γ X (uI S 32 a v) k n (pc + 3) loc st) : GW Γ X S k n pc loc (.int v :: .ref a :: st) := g_putI C kd_1 (i := 0) rfl w (Or.inl rfl) (Or.inl rfl) ha (by rcases hz with rfl | rfl <;> rfl) (by rcases hz with rfl | rfl <;> rfl) d q
theorem ge_Path_enteredAt (C : GC Γ X cc nL own lvl mc ms) (w : Cond.fieldLink own index "CueBook$Path" "enteredAt" "I" ∈ lw_tbl) (ha : al S a 1) {v : Int32} (hv : pI S 33 a = v) (d : decode cc pc = .ok (.getfield index, 3)) (q : GW Γ X S k n (pc + 3) loc (.int v :: st)) : GW Γ X S k n pc loc (.ref a :: st) := g_getI C kd_1 (i := 1) rfl w (Or.inl rfl) ha hv d q
theorem pu_Path_enteredAt (C : GC Γ X cc nL own lvl mc ms) (w : Cond.fieldLink own index "CueBook$Path" "enteredAt" "I" ∈ lw_tbl) (ha : al S a 1) {v : Int32} (d : decode cc pc = .ok (.putfield index, 3)) (q : GW Γ X (uI S 33 a v) k n (pc + 3) loc st) : GW Γ X S k n pc loc (.int v :: .ref a :: st) := g_putI C kd_1 (i := 1) rfl w (Or.inl rfl) (Or.inl rfl) ha rfl rfl d q
theorem ge_Path_track (C : GC Γ X cc nL own lvl mc ms) (w : Cond.fieldLink own index "CueBook$Path" "track" "I" ∈ lw_tbl) (ha : al S a 1) {v : Int32} (hv : pI S 34 a = v) (d : decode cc pc = .ok (.getfield index, 3)) (q : GW Γ X S k n (pc + 3) loc (.int v :: st)) : GW Γ X S k n pc loc (.ref a :: st) := g_getI C kd_1 (i := 2) rfl w (Or.inl rfl) ha hv d q
theorem pu_Path_track (C : GC Γ X cc nL own lvl mc ms) (w : Cond.fieldLink own index "CueBook$Path" "track" "I" ∈ lw_tbl) (ha : al S a 1) {v : Int32} (d : decode cc pc = .ok (.putfield index, 3)) (q : GW Γ X (uI S 34 a v) k n (pc + 3) loc st) : GW Γ X S k n pc loc (.int v :: .ref a :: st) := g_putI C kd_1 (i := 2) rfl w (Or.inl rfl) (Or.inl rfl) ha rfl rfl d q
theorem ge_Path_fromPlace (C : GC Γ X cc nL own lvl mc ms) (w : Cond.fieldLink own index "CueBook$Path" "fromPlace" "I" ∈ lw_tbl) (ha : al S a 1) {v : Int32} (hv : pI S 35 a = v) (d : decode cc pc = .ok (.getfield index, 3)) (q : GW Γ X S k n (pc + 3) loc (.int v :: st)) : GW Γ X S k n pc loc (.ref a :: st) := g_getI C kd_1 (i := 3) rfl w (Or.inl rfl) ha hv d q
theorem pu_Path_fromPlace (C : GC Γ X cc nL own lvl mc ms) (w : Cond.fieldLink own index "CueBook$Path" "fromPlace" "I" ∈ lw_tbl) (ha : al S a 1) {v : Int32} (d : decode cc pc = .ok (.putfield index, 3)) (q : GW Γ X (uI S 35 a v) k n (pc + 3) loc st) : GW Γ X S k n pc loc (.int v :: .ref a :: st) := g_putI C kd_1 (i := 3) rfl w (Or.inl rfl) (Or.inl rfl) ha rfl rfl d q
theorem ge_Path_toPlace (C : GC Γ X cc nL own lvl mc ms) (w : Cond.fieldLink own index "CueBook$Path" "toPlace" "I" ∈ lw_tbl) (ha : al S a 1) {v : Int32} (hv : pI S 36 a = v) (d : decode cc pc = .ok (.getfield index, 3)) (q : GW Γ X S k n (pc + 3) loc (.int v :: st)) : GW Γ X S k n pc loc (.ref a :: st) := g_getI C kd_1 (i := 4) rfl w (Or.inl rfl) ha hv d q
theorem pu_Path_toPlace (C : GC Γ X cc nL own lvl mc ms) (w : Cond.fieldLink own index "CueBook$Path" "toPlace" "I" ∈ lw_tbl) (ha : al S a 1) {v : Int32} (d : decode cc pc = .ok (.putfield index, 3)) (q : GW Γ X (uI S 36 a v) k n (pc + 3) loc st) : GW Γ X S k n pc loc (.int v :: .ref a :: st) := g_putI C kd_1 (i := 4) rfl w (Or.inl rfl) (Or.inl rfl) ha rfl rfl d q
theorem ge_Path_fromBeat (C : GC Γ X cc nL own lvl mc ms) (w : Cond.fieldLink own index "CueBook$Path" "fromBeat" "I" ∈ lw_tbl) (ha : al S a 1) {v : Int32} (hv : pI S 37 a = v) (d : decode cc pc = .ok (.getfield index, 3)) (q : GW Γ X S k n (pc + 3) loc (.int v :: st)) : GW Γ X S k n pc loc (.ref a :: st) := g_getI C kd_1 (i := 5) rfl w (Or.inl rfl) ha hv d q
theorem pu_Path_fromBeat (C : GC Γ X cc nL own lvl mc ms) (w : Cond.fieldLink own index "CueBook$Path" "fromBeat" "I" ∈ lw_tbl) (ha : al S a 1) {v : Int32} (d : decode cc pc = .ok (.putfield index, 3)) (q : GW Γ X (uI S 37 a v) k n (pc + 3) loc st) : GW Γ X S k n pc loc (.int v :: .ref a :: st) := g_putI C kd_1 (i := 5) rfl w (Or.inl rfl) (Or.inl rfl) ha rfl rfl d q
theorem ge_Path_toBeat (C : GC Γ X cc nL own lvl mc ms) (w : Cond.fieldLink own index "CueBook$Path" "toBeat" "I" ∈ lw_tbl) (ha : al S a 1) {v : Int32} (hv : pI S 38 a = v) (d : decode cc pc = .ok (.getfield index, 3)) (q : GW Γ X S k n (pc + 3) loc (.int v :: st)) : GW Γ X S k n pc loc (.ref a :: st) := g_getI C kd_1 (i := 6) rfl w (Or.inl rfl) ha hv d q
theorem pu_Path_toBeat (C : GC Γ X cc nL own lvl mc ms) (w : Cond.fieldLink own index "CueBook$Path" "toBeat" "I" ∈ lw_tbl) (ha : al S a 1) {v : Int32} (d : decode cc pc = .ok (.putfield index, 3)) (q : GW Γ X (uI S 38 a v) k n (pc + 3) loc st) : GW Γ X S k n pc loc (.int v :: .ref a :: st) := g_putI C kd_1 (i := 6) rfl w (Or.inl rfl) (Or.inl rfl) ha rfl rfl d q
theorem ge_Player_strength (C : GC Γ X cc nL own lvl mc ms) (w : Cond.fieldLink own index "CueBook$Player" "strength" "I" ∈ lw_tbl) (ha : al S a 2) {v : Int32} (hv : pI S 64 a = v) (d : decode cc pc = .ok (.getfield index, 3)) (q : GW Γ X S k n (pc + 3) loc (.int v :: st)) : GW Γ X S k n pc loc (.ref a :: st) := g_getI C kd_2 (i := 0) rfl w (Or.inl rfl) ha hv d q
theorem pu_Player_strength (C : GC Γ X cc nL "CueBook$Player" lvl mc ms) (w : Cond.fieldLink "CueBook$Player" index "CueBook$Player" "strength" "I" ∈ lw_tbl) (nm : X.2.2.2.2.2.2.2.1.name = "<init>") (ha : al S a 2) {v : Int32} (d : decode cc pc = .ok (.putfield index, 3)) (q : GW Γ X (uI S 64 a v) k n (pc + 3) loc st) : GW Γ X S k n pc loc (.int v :: .ref a :: st) := g_putI C kd_2 (i := 0) rfl w (Or.inl rfl) (Or.inr ⟨rfl, nm, rfl, rfl⟩) ha rfl rfl d q
theorem ge_Player_placeAtFirst (C : GC Γ X cc nL own lvl mc ms) (w : Cond.fieldLink own index "CueBook$Player" "placeAtFirst" "I" ∈ lw_tbl) (ha : al S a 2) {v : Int32} (hv : pI S 65 a = v) (d : decode cc pc = .ok (.getfield index, 3)) (q : GW Γ X S k n (pc + 3) loc (.int v :: st)) : GW Γ X S k n pc loc (.ref a :: st) := g_getI C kd_2 (i := 1) rfl w (Or.inl rfl) ha hv d q
theorem pu_Player_placeAtFirst (C : GC Γ X cc nL "CueBook$Player" lvl mc ms) (w : Cond.fieldLink "CueBook$Player" index "CueBook$Player" "placeAtFirst" "I" ∈ lw_tbl) (nm : X.2.2.2.2.2.2.2.1.name = "<init>") (ha : al S a 2) {v : Int32} (d : decode cc pc = .ok (.putfield index, 3)) (q : GW Γ X (uI S 65 a v) k n (pc + 3) loc st) : GW Γ X S k n pc loc (.int v :: .ref a :: st) := g_putI C kd_2 (i := 1) rfl w (Or.inl rfl) (Or.inr ⟨rfl, nm, rfl, rfl⟩) ha rfl rfl d q
theorem ge_Player_heldAt (C : GC Γ X cc nL own lvl mc ms) (w : Cond.fieldLink own index "CueBook$Player" "heldAt" "[I" ∈ lw_tbl) (ha : al S a 2) {v : Nat} (hv : pP S 66 a = some v) (d : decode cc pc = .ok (.getfield index, 3)) (q : GW Γ X S k n (pc + 3) loc (.ref v :: st)) : GW Γ X S k n pc loc (.ref a :: st) := g_getP C kd_2 (i := 2) rfl w ha hv d q
theorem pu_Player_heldAt (C : GC Γ X cc nL "CueBook$Player" lvl mc ms) (w : Cond.fieldLink "CueBook$Player" index "CueBook$Player" "heldAt" "[I" ∈ lw_tbl) (nm : X.2.2.2.2.2.2.2.1.name = "<init>") (ha : al S a 2) {v : Nat} (d : decode cc pc = .ok (.putfield index, 3)) (q : GW Γ X (uP S 66 a (some v)) k n (pc + 3) loc st) : GW Γ X S k n pc loc (.ref v :: .ref a :: st) := g_putP C kd_2 (i := 2) rfl w (Or.inr ⟨rfl, nm, rfl⟩) ha rfl rfl d q
theorem ge_Puppet_number (C : GC Γ X cc nL own lvl mc ms) (w : Cond.fieldLink own index "CueBook$Puppet" "number" "I" ∈ lw_tbl) (ha : al S a 3) {v : Int32} (hv : pI S 96 a = v) (d : decode cc pc = .ok (.getfield index, 3)) (q : GW Γ X S k n (pc + 3) loc (.int v :: st)) : GW Γ X S k n pc loc (.ref a :: st) := g_getI C kd_3 (i := 0) rfl w (Or.inl rfl) ha hv d q
theorem pu_Puppet_number (C : GC Γ X cc nL "CueBook$Puppet" lvl mc ms) (w : Cond.fieldLink "CueBook$Puppet" index "CueBook$Puppet" "number" "I" ∈ lw_tbl) (nm : X.2.2.2.2.2.2.2.1.name = "<init>") (ha : al S a 3) {v : Int32} (d : decode cc pc = .ok (.putfield index, 3)) (q : GW Γ X (uI S 96 a v) k n (pc + 3) loc st) : GW Γ X S k n pc loc (.int v :: .ref a :: st) := g_putI C kd_3 (i := 0) rfl w (Or.inl rfl) (Or.inr ⟨rfl, nm, rfl, rfl⟩) ha rfl rfl d q
theorem ge_Puppet_bit (C : GC Γ X cc nL own lvl mc ms) (w : Cond.fieldLink own index "CueBook$Puppet" "bit" "I" ∈ lw_tbl) (ha : al S a 3) {v : Int32} (hv : pI S 97 a = v) (d : decode cc pc = .ok (.getfield index, 3)) (q : GW Γ X S k n (pc + 3) loc (.int v :: st)) : GW Γ X S k n pc loc (.ref a :: st) := g_getI C kd_3 (i := 1) rfl w (Or.inl rfl) ha hv d q
theorem pu_Puppet_bit (C : GC Γ X cc nL "CueBook$Puppet" lvl mc ms) (w : Cond.fieldLink "CueBook$Puppet" index "CueBook$Puppet" "bit" "I" ∈ lw_tbl) (nm : X.2.2.2.2.2.2.2.1.name = "<init>") (ha : al S a 3) {v : Int32} (d : decode cc pc = .ok (.putfield index, 3)) (q : GW Γ X (uI S 97 a v) k n (pc + 3) loc st) : GW Γ X S k n pc loc (.int v :: .ref a :: st) := g_putI C kd_3 (i := 1) rfl w (Or.inl rfl) (Or.inr ⟨rfl, nm, rfl, rfl⟩) ha rfl rfl d q
theorem ge_Puppet_weight (C : GC Γ X cc nL own lvl mc ms) (w : Cond.fieldLink own index "CueBook$Puppet" "weight" "I" ∈ lw_tbl) (ha : al S a 3) {v : Int32} (hv : pI S 98 a = v) (d : decode cc pc = .ok (.getfield index, 3)) (q : GW Γ X S k n (pc + 3) loc (.int v :: st)) : GW Γ X S k n pc loc (.ref a :: st) := g_getI C kd_3 (i := 2) rfl w (Or.inl rfl) ha hv d q
theorem pu_Puppet_weight (C : GC Γ X cc nL "CueBook$Puppet" lvl mc ms) (w : Cond.fieldLink "CueBook$Puppet" index "CueBook$Puppet" "weight" "I" ∈ lw_tbl) (nm : X.2.2.2.2.2.2.2.1.name = "<init>") (ha : al S a 3) {v : Int32} (d : decode cc pc = .ok (.putfield index, 3)) (q : GW Γ X (uI S 98 a v) k n (pc + 3) loc st) : GW Γ X S k n pc loc (.int v :: .ref a :: st) := g_putI C kd_3 (i := 2) rfl w (Or.inl rfl) (Or.inr ⟨rfl, nm, rfl, rfl⟩) ha rfl rfl d q
theorem ge_Puppet_handsNeeded (C : GC Γ X cc nL own lvl mc ms) (w : Cond.fieldLink own index "CueBook$Puppet" "handsNeeded" "I" ∈ lw_tbl) (ha : al S a 3) {v : Int32} (hv : pI S 99 a = v) (d : decode cc pc = .ok (.getfield index, 3)) (q : GW Γ X S k n (pc + 3) loc (.int v :: st)) : GW Γ X S k n pc loc (.ref a :: st) := g_getI C kd_3 (i := 3) rfl w (Or.inl rfl) ha hv d q
theorem pu_Puppet_handsNeeded (C : GC Γ X cc nL "CueBook$Puppet" lvl mc ms) (w : Cond.fieldLink "CueBook$Puppet" index "CueBook$Puppet" "handsNeeded" "I" ∈ lw_tbl) (nm : X.2.2.2.2.2.2.2.1.name = "<init>") (ha : al S a 3) {v : Int32} (d : decode cc pc = .ok (.putfield index, 3)) (q : GW Γ X (uI S 99 a v) k n (pc + 3) loc st) : GW Γ X S k n pc loc (.int v :: .ref a :: st) := g_putI C kd_3 (i := 3) rfl w (Or.inl rfl) (Or.inr ⟨rfl, nm, rfl, rfl⟩) ha rfl rfl d q
theorem ge_Puppet_script (C : GC Γ X cc nL own lvl mc ms) (w : Cond.fieldLink own index "CueBook$Puppet" "script" "Ljava/util/ArrayList;" ∈ lw_tbl) (ha : al S a 3) {v : Nat} (hv : pP S 100 a = some v) (d : decode cc pc = .ok (.getfield index, 3)) (q : GW Γ X S k n (pc + 3) loc (.ref v :: st)) : GW Γ X S k n pc loc (.ref a :: st) := g_getP C kd_3 (i := 4) rfl w ha hv d q
theorem pu_Puppet_script (C : GC Γ X cc nL "CueBook$Puppet" lvl mc ms) (w : Cond.fieldLink "CueBook$Puppet" index "CueBook$Puppet" "script" "Ljava/util/ArrayList;" ∈ lw_tbl) (nm : X.2.2.2.2.2.2.2.1.name = "<init>") (ha : al S a 3) {v : Nat} (d : decode cc pc = .ok (.putfield index, 3)) (q : GW Γ X (uP S 100 a (some v)) k n (pc + 3) loc st) : GW Γ X S k n pc loc (.ref v :: .ref a :: st) := g_putP C kd_3 (i := 4) rfl w (Or.inr ⟨rfl, nm, rfl⟩) ha rfl rfl d q
theorem ge_Puppet_stayList (C : GC Γ X cc nL own lvl mc ms) (w : Cond.fieldLink own index "CueBook$Puppet" "stayList" "Ljava/util/ArrayList;" ∈ lw_tbl) (ha : al S a 3) {v : Nat} (hv : pP S 101 a = some v) (d : decode cc pc = .ok (.getfield index, 3)) (q : GW Γ X S k n (pc + 3) loc (.ref v :: st)) : GW Γ X S k n pc loc (.ref a :: st) := g_getP C kd_3 (i := 5) rfl w ha hv d q
theorem pu_Puppet_stayList (C : GC Γ X cc nL "CueBook$Puppet" lvl mc ms) (w : Cond.fieldLink "CueBook$Puppet" index "CueBook$Puppet" "stayList" "Ljava/util/ArrayList;" ∈ lw_tbl) (nm : X.2.2.2.2.2.2.2.1.name = "<init>") (ha : al S a 3) {v : Nat} (d : decode cc pc = .ok (.putfield index, 3)) (q : GW Γ X (uP S 101 a (some v)) k n (pc + 3) loc st) : GW Γ X S k n pc loc (.ref v :: .ref a :: st) := g_putP C kd_3 (i := 5) rfl w (Or.inr ⟨rfl, nm, rfl⟩) ha rfl rfl d q
theorem ge_Puppet_placeAt (C : GC Γ X cc nL own lvl mc ms) (w : Cond.fieldLink own index "CueBook$Puppet" "placeAt" "[I" ∈ lw_tbl) (ha : al S a 3) {v : Nat} (hv : pP S 102 a = some v) (d : decode cc pc = .ok (.getfield index, 3)) (q : GW Γ X S k n (pc + 3) loc (.ref v :: st)) : GW Γ X S k n pc loc (.ref a :: st) := g_getP C kd_3 (i := 6) rfl w ha hv d q
theorem pu_Puppet_placeAt (C : GC Γ X cc nL "CueBook$Puppet" lvl mc ms) (w : Cond.fieldLink "CueBook$Puppet" index "CueBook$Puppet" "placeAt" "[I" ∈ lw_tbl) (nm : X.2.2.2.2.2.2.2.1.name = "<init>") (ha : al S a 3) {v : Nat} (d : decode cc pc = .ok (.putfield index, 3)) (q : GW Γ X (uP S 102 a (some v)) k n (pc + 3) loc st) : GW Γ X S k n pc loc (.ref v :: .ref a :: st) := g_putP C kd_3 (i := 6) rfl w (Or.inr ⟨rfl, nm, rfl⟩) ha rfl rfl d q
theorem ge_Puppet_trackAt (C : GC Γ X cc nL own lvl mc ms) (w : Cond.fieldLink own index "CueBook$Puppet" "trackAt" "[I" ∈ lw_tbl) (ha : al S a 3) {v : Nat} (hv : pP S 103 a = some v) (d : decode cc pc = .ok (.getfield index, 3)) (q : GW Γ X S k n (pc + 3) loc (.ref v :: st)) : GW Γ X S k n pc loc (.ref a :: st) := g_getP C kd_3 (i := 7) rfl w ha hv d q
theorem pu_Puppet_trackAt (C : GC Γ X cc nL "CueBook$Puppet" lvl mc ms) (w : Cond.fieldLink "CueBook$Puppet" index "CueBook$Puppet" "trackAt" "[I" ∈ lw_tbl) (nm : X.2.2.2.2.2.2.2.1.name = "<init>") (ha : al S a 3) {v : Nat} (d : decode cc pc = .ok (.putfield index, 3)) (q : GW Γ X (uP S 103 a (some v)) k n (pc + 3) loc st) : GW Γ X S k n pc loc (.ref v :: .ref a :: st) := g_putP C kd_3 (i := 7) rfl w (Or.inr ⟨rfl, nm, rfl⟩) ha rfl rfl d q
theorem ge_Stay_puppet (C : GC Γ X cc nL own lvl mc ms) (w : Cond.fieldLink own index "CueBook$Stay" "puppet" "LCueBook$Puppet;" ∈ lw_tbl) (ha : al S a 4) {v : Nat} (hv : pP S 128 a = some v) (d : decode cc pc = .ok (.getfield index, 3)) (q : GW Γ X S k n (pc + 3) loc (.ref v :: st)) : GW Γ X S k n pc loc (.ref a :: st) := g_getP C kd_4 (i := 0) rfl w ha hv d q
theorem pu_Stay_puppet (C : GC Γ X cc nL "CueBook$Stay" lvl mc ms) (w : Cond.fieldLink "CueBook$Stay" index "CueBook$Stay" "puppet" "LCueBook$Puppet;" ∈ lw_tbl) (nm : X.2.2.2.2.2.2.2.1.name = "<init>") (ha : al S a 4) {v : Nat} (d : decode cc pc = .ok (.putfield index, 3)) (q : GW Γ X (uP S 128 a (some v)) k n (pc + 3) loc st) : GW Γ X S k n pc loc (.ref v :: .ref a :: st) := g_putP C kd_4 (i := 0) rfl w (Or.inr ⟨rfl, nm, rfl⟩) ha rfl rfl d q
theorem ge_Stay_begin (C : GC Γ X cc nL own lvl mc ms) (w : Cond.fieldLink own index "CueBook$Stay" "begin" "I" ∈ lw_tbl) (ha : al S a 4) {v : Int32} (hv : pI S 129 a = v) (d : decode cc pc = .ok (.getfield index, 3)) (q : GW Γ X S k n (pc + 3) loc (.int v :: st)) : GW Γ X S k n pc loc (.ref a :: st) := g_getI C kd_4 (i := 1) rfl w (Or.inl rfl) ha hv d q
theorem pu_Stay_begin (C : GC Γ X cc nL "CueBook$Stay" lvl mc ms) (w : Cond.fieldLink "CueBook$Stay" index "CueBook$Stay" "begin" "I" ∈ lw_tbl) (nm : X.2.2.2.2.2.2.2.1.name = "<init>") (ha : al S a 4) {v : Int32} (d : decode cc pc = .ok (.putfield index, 3)) (q : GW Γ X (uI S 129 a v) k n (pc + 3) loc st) : GW Γ X S k n pc loc (.int v :: .ref a :: st) := g_putI C kd_4 (i := 1) rfl w (Or.inl rfl) (Or.inr ⟨rfl, nm, rfl, rfl⟩) ha rfl rfl d q
theorem ge_Stay_end (C : GC Γ X cc nL own lvl mc ms) (w : Cond.fieldLink own index "CueBook$Stay" "end" "I" ∈ lw_tbl) (ha : al S a 4) {v : Int32} (hv : pI S 130 a = v) (d : decode cc pc = .ok (.getfield index, 3)) (q : GW Γ X S k n (pc + 3) loc (.int v :: st)) : GW Γ X S k n pc loc (.ref a :: st) := g_getI C kd_4 (i := 2) rfl w (Or.inl rfl) ha hv d q
theorem pu_Stay_end (C : GC Γ X cc nL own lvl mc ms) (w : Cond.fieldLink own index "CueBook$Stay" "end" "I" ∈ lw_tbl) (ha : al S a 4) {v : Int32} (d : decode cc pc = .ok (.putfield index, 3)) (q : GW Γ X (uI S 130 a v) k n (pc + 3) loc st) : GW Γ X S k n pc loc (.int v :: .ref a :: st) := g_putI C kd_4 (i := 2) rfl w (Or.inl rfl) (Or.inl rfl) ha rfl rfl d q
theorem ge_Stay_player (C : GC Γ X cc nL own lvl mc ms) (w : Cond.fieldLink own index "CueBook$Stay" "player" "I" ∈ lw_tbl) (ha : al S a 4) {v : Int32} (hv : pI S 131 a = v) (d : decode cc pc = .ok (.getfield index, 3)) (q : GW Γ X S k n (pc + 3) loc (.int v :: st)) : GW Γ X S k n pc loc (.ref a :: st) := g_getI C kd_4 (i := 3) rfl w (Or.inl rfl) ha hv d q
theorem pu_Stay_player (C : GC Γ X cc nL own lvl mc ms) (w : Cond.fieldLink own index "CueBook$Stay" "player" "I" ∈ lw_tbl) (ha : al S a 4) {v : Int32} (d : decode cc pc = .ok (.putfield index, 3)) (q : GW Γ X (uI S 131 a v) k n (pc + 3) loc st) : GW Γ X S k n pc loc (.int v :: .ref a :: st) := g_putI C kd_4 (i := 3) rfl w (Or.inl rfl) (Or.inl rfl) ha rfl rfl d q
theorem ge_Book_puppets (C : GC Γ X cc nL own lvl mc ms) (w : Cond.fieldLink own index "CueBook" "puppets" "Ljava/util/ArrayList;" ∈ lw_tbl) (ha : al S a 5) {v : Nat} (hv : pP S 160 a = some v) (d : decode cc pc = .ok (.getfield index, 3)) (q : GW Γ X S k n (pc + 3) loc (.ref v :: st)) : GW Γ X S k n pc loc (.ref a :: st) := g_getP C kd_5 (i := 0) rfl w ha hv d q
theorem pu_Book_puppets (C : GC Γ X cc nL "CueBook" lvl mc ms) (w : Cond.fieldLink "CueBook" index "CueBook" "puppets" "Ljava/util/ArrayList;" ∈ lw_tbl) (nm : X.2.2.2.2.2.2.2.1.name = "<init>") (ha : al S a 5) {v : Nat} (d : decode cc pc = .ok (.putfield index, 3)) (q : GW Γ X (uP S 160 a (some v)) k n (pc + 3) loc st) : GW Γ X S k n pc loc (.ref v :: .ref a :: st) := g_putP C kd_5 (i := 0) rfl w (Or.inr ⟨rfl, nm, rfl⟩) ha rfl rfl d q
theorem ge_Book_players (C : GC Γ X cc nL own lvl mc ms) (w : Cond.fieldLink own index "CueBook" "players" "Ljava/util/ArrayList;" ∈ lw_tbl) (ha : al S a 5) {v : Nat} (hv : pP S 161 a = some v) (d : decode cc pc = .ok (.getfield index, 3)) (q : GW Γ X S k n (pc + 3) loc (.ref v :: st)) : GW Γ X S k n pc loc (.ref a :: st) := g_getP C kd_5 (i := 1) rfl w ha hv d q
theorem pu_Book_players (C : GC Γ X cc nL "CueBook" lvl mc ms) (w : Cond.fieldLink "CueBook" index "CueBook" "players" "Ljava/util/ArrayList;" ∈ lw_tbl) (nm : X.2.2.2.2.2.2.2.1.name = "<init>") (ha : al S a 5) {v : Nat} (d : decode cc pc = .ok (.putfield index, 3)) (q : GW Γ X (uP S 161 a (some v)) k n (pc + 3) loc st) : GW Γ X S k n pc loc (.ref v :: .ref a :: st) := g_putP C kd_5 (i := 1) rfl w (Or.inr ⟨rfl, nm, rfl⟩) ha rfl rfl d q
theorem ge_Book_cues (C : GC Γ X cc nL own lvl mc ms) (w : Cond.fieldLink own index "CueBook" "cues" "Ljava/util/ArrayList;" ∈ lw_tbl) (ha : al S a 5) {v : Nat} (hv : pP S 162 a = some v) (d : decode cc pc = .ok (.getfield index, 3)) (q : GW Γ X S k n (pc + 3) loc (.ref v :: st)) : GW Γ X S k n pc loc (.ref a :: st) := g_getP C kd_5 (i := 2) rfl w ha hv d q
theorem pu_Book_cues (C : GC Γ X cc nL "CueBook" lvl mc ms) (w : Cond.fieldLink "CueBook" index "CueBook" "cues" "Ljava/util/ArrayList;" ∈ lw_tbl) (nm : X.2.2.2.2.2.2.2.1.name = "<init>") (ha : al S a 5) {v : Nat} (d : decode cc pc = .ok (.putfield index, 3)) (q : GW Γ X (uP S 162 a (some v)) k n (pc + 3) loc st) : GW Γ X S k n pc loc (.ref v :: .ref a :: st) := g_putP C kd_5 (i := 2) rfl w (Or.inr ⟨rfl, nm, rfl⟩) ha rfl rfl d q
theorem ge_Book_castingOrder (C : GC Γ X cc nL own lvl mc ms) (w : Cond.fieldLink own index "CueBook" "castingOrder" "Ljava/util/ArrayList;" ∈ lw_tbl) (ha : al S a 5) {v : Nat} (hv : pP S 163 a = some v) (d : decode cc pc = .ok (.getfield index, 3)) (q : GW Γ X S k n (pc + 3) loc (.ref v :: st)) : GW Γ X S k n pc loc (.ref a :: st) := g_getP C kd_5 (i := 3) rfl w ha hv d q
theorem pu_Book_castingOrder (C : GC Γ X cc nL "CueBook" lvl mc ms) (w : Cond.fieldLink "CueBook" index "CueBook" "castingOrder" "Ljava/util/ArrayList;" ∈ lw_tbl) (nm : X.2.2.2.2.2.2.2.1.name = "<init>") (ha : al S a 5) {v : Nat} (d : decode cc pc = .ok (.putfield index, 3)) (q : GW Γ X (uP S 163 a (some v)) k n (pc + 3) loc st) : GW Γ X S k n pc loc (.ref v :: .ref a :: st) := g_putP C kd_5 (i := 3) rfl w (Or.inr ⟨rfl, nm, rfl⟩) ha rfl rfl d q
theorem ge_Book_struckCues (C : GC Γ X cc nL own lvl mc ms) (w : Cond.fieldLink own index "CueBook" "struckCues" "I" ∈ lw_tbl) (ha : al S a 5) {v : Int32} (hv : pI S 164 a = v) (d : decode cc pc = .ok (.getfield index, 3)) (q : GW Γ X S k n (pc + 3) loc (.int v :: st)) : GW Γ X S k n pc loc (.ref a :: st) := g_getI C kd_5 (i := 4) rfl w (Or.inl rfl) ha hv d q
theorem pu_Book_struckCues (C : GC Γ X cc nL own lvl mc ms) (w : Cond.fieldLink own index "CueBook" "struckCues" "I" ∈ lw_tbl) (ha : al S a 5) {v : Int32} (d : decode cc pc = .ok (.putfield index, 3)) (q : GW Γ X (uI S 164 a v) k n (pc + 3) loc st) : GW Γ X S k n pc loc (.int v :: .ref a :: st) := g_putI C kd_5 (i := 4) rfl w (Or.inl rfl) (Or.inl rfl) ha rfl rfl d q
theorem ge_Book_castingStands (C : GC Γ X cc nL own lvl mc ms) (w : Cond.fieldLink own index "CueBook" "castingStands" "Z" ∈ lw_tbl) (ha : al S a 5) {v : Int32} (hv : pI S 165 a = v) (d : decode cc pc = .ok (.getfield index, 3)) (q : GW Γ X S k n (pc + 3) loc (.int v :: st)) : GW Γ X S k n pc loc (.ref a :: st) := g_getI C kd_5 (i := 5) rfl w (Or.inl rfl) ha hv d q
theorem pu_Book_castingStands (C : GC Γ X cc nL own lvl mc ms) (w : Cond.fieldLink own index "CueBook" "castingStands" "Z" ∈ lw_tbl) (ha : al S a 5) {v : Int32} (hz : v = 0 ∨ v = 1) (d : decode cc pc = .ok (.putfield index, 3)) (q : GW Γ X (uI S 165 a v) k n (pc + 3) loc st) : GW Γ X S k n pc loc (.int v :: .ref a :: st) := g_putI C kd_5 (i := 5) rfl w (Or.inl rfl) (Or.inl rfl) ha (by rcases hz with rfl | rfl <;> rfl) (by rcases hz with rfl | rfl <;> rfl) d q
theorem ge_Book_clashesStand (C : GC Γ X cc nL own lvl mc ms) (w : Cond.fieldLink own index "CueBook" "clashesStand" "Z" ∈ lw_tbl) (ha : al S a 5) {v : Int32} (hv : pI S 166 a = v) (d : decode cc pc = .ok (.getfield index, 3)) (q : GW Γ X S k n (pc + 3) loc (.int v :: st)) : GW Γ X S k n pc loc (.ref a :: st) := g_getI C kd_5 (i := 6) rfl w (Or.inl rfl) ha hv d q
theorem pu_Book_clashesStand (C : GC Γ X cc nL own lvl mc ms) (w : Cond.fieldLink own index "CueBook" "clashesStand" "Z" ∈ lw_tbl) (ha : al S a 5) {v : Int32} (hz : v = 0 ∨ v = 1) (d : decode cc pc = .ok (.putfield index, 3)) (q : GW Γ X (uI S 166 a v) k n (pc + 3) loc st) : GW Γ X S k n pc loc (.int v :: .ref a :: st) := g_putI C kd_5 (i := 6) rfl w (Or.inl rfl) (Or.inl rfl) ha (by rcases hz with rfl | rfl <;> rfl) (by rcases hz with rfl | rfl <;> rfl) d q
theorem ge_Book_clashingPairs (C : GC Γ X cc nL own lvl mc ms) (w : Cond.fieldLink own index "CueBook" "clashingPairs" "I" ∈ lw_tbl) (ha : al S a 5) {v : Int32} (hv : pI S 167 a = v) (d : decode cc pc = .ok (.getfield index, 3)) (q : GW Γ X S k n (pc + 3) loc (.int v :: st)) : GW Γ X S k n pc loc (.ref a :: st) := g_getI C kd_5 (i := 7) rfl w (Or.inl rfl) ha hv d q
theorem pu_Book_clashingPairs (C : GC Γ X cc nL own lvl mc ms) (w : Cond.fieldLink own index "CueBook" "clashingPairs" "I" ∈ lw_tbl) (ha : al S a 5) {v : Int32} (d : decode cc pc = .ok (.putfield index, 3)) (q : GW Γ X (uI S 167 a v) k n (pc + 3) loc st) : GW Γ X S k n pc loc (.int v :: .ref a :: st) := g_putI C kd_5 (i := 7) rfl w (Or.inl rfl) (Or.inl rfl) ha rfl rfl d q
theorem ge_Model_thrown (C : GC Γ X cc nL own lvl mc ms) (w : Cond.fieldLink own index "CueBookModel" "thrown" "I" ∈ lw_tbl) (ha : al S a 6) {v : Int32} (hv : pI S 192 a = v) (d : decode cc pc = .ok (.getfield index, 3)) (q : GW Γ X S k n (pc + 3) loc (.int v :: st)) : GW Γ X S k n pc loc (.ref a :: st) := g_getI C kd_6 (i := 0) rfl w (Or.inl rfl) ha hv d q
theorem pu_Model_thrown (C : GC Γ X cc nL own lvl mc ms) (w : Cond.fieldLink own index "CueBookModel" "thrown" "I" ∈ lw_tbl) (ha : al S a 6) {v : Int32} (d : decode cc pc = .ok (.putfield index, 3)) (q : GW Γ X (uI S 192 a v) k n (pc + 3) loc st) : GW Γ X S k n pc loc (.int v :: .ref a :: st) := g_putI C kd_6 (i := 0) rfl w (Or.inl rfl) (Or.inl rfl) ha rfl rfl d q
theorem ge_Model_puppets (C : GC Γ X cc nL own lvl mc ms) (w : Cond.fieldLink own index "CueBookModel" "puppets" "I" ∈ lw_tbl) (ha : al S a 6) {v : Int32} (hv : pI S 193 a = v) (d : decode cc pc = .ok (.getfield index, 3)) (q : GW Γ X S k n (pc + 3) loc (.int v :: st)) : GW Γ X S k n pc loc (.ref a :: st) := g_getI C kd_6 (i := 1) rfl w (Or.inl rfl) ha hv d q
theorem pu_Model_puppets (C : GC Γ X cc nL own lvl mc ms) (w : Cond.fieldLink own index "CueBookModel" "puppets" "I" ∈ lw_tbl) (ha : al S a 6) {v : Int32} (d : decode cc pc = .ok (.putfield index, 3)) (q : GW Γ X (uI S 193 a v) k n (pc + 3) loc st) : GW Γ X S k n pc loc (.int v :: .ref a :: st) := g_putI C kd_6 (i := 1) rfl w (Or.inl rfl) (Or.inl rfl) ha rfl rfl d q
theorem ge_Model_weights (C : GC Γ X cc nL own lvl mc ms) (w : Cond.fieldLink own index "CueBookModel" "weights" "[I" ∈ lw_tbl) (ha : al S a 6) {v : Nat} (hv : pP S 194 a = some v) (d : decode cc pc = .ok (.getfield index, 3)) (q : GW Γ X S k n (pc + 3) loc (.ref v :: st)) : GW Γ X S k n pc loc (.ref a :: st) := g_getP C kd_6 (i := 2) rfl w ha hv d q
theorem pu_Model_weights (C : GC Γ X cc nL "CueBookModel" lvl mc ms) (w : Cond.fieldLink "CueBookModel" index "CueBookModel" "weights" "[I" ∈ lw_tbl) (nm : X.2.2.2.2.2.2.2.1.name = "<init>") (ha : al S a 6) {v : Nat} (d : decode cc pc = .ok (.putfield index, 3)) (q : GW Γ X (uP S 194 a (some v)) k n (pc + 3) loc st) : GW Γ X S k n pc loc (.ref v :: .ref a :: st) := g_putP C kd_6 (i := 2) rfl w (Or.inr ⟨rfl, nm, rfl⟩) ha rfl rfl d q
theorem ge_Model_needs (C : GC Γ X cc nL own lvl mc ms) (w : Cond.fieldLink own index "CueBookModel" "needs" "[I" ∈ lw_tbl) (ha : al S a 6) {v : Nat} (hv : pP S 195 a = some v) (d : decode cc pc = .ok (.getfield index, 3)) (q : GW Γ X S k n (pc + 3) loc (.ref v :: st)) : GW Γ X S k n pc loc (.ref a :: st) := g_getP C kd_6 (i := 3) rfl w ha hv d q
theorem pu_Model_needs (C : GC Γ X cc nL "CueBookModel" lvl mc ms) (w : Cond.fieldLink "CueBookModel" index "CueBookModel" "needs" "[I" ∈ lw_tbl) (nm : X.2.2.2.2.2.2.2.1.name = "<init>") (ha : al S a 6) {v : Nat} (d : decode cc pc = .ok (.putfield index, 3)) (q : GW Γ X (uP S 195 a (some v)) k n (pc + 3) loc st) : GW Γ X S k n pc loc (.ref v :: .ref a :: st) := g_putP C kd_6 (i := 3) rfl w (Or.inr ⟨rfl, nm, rfl⟩) ha rfl rfl d q
theorem ge_Model_players (C : GC Γ X cc nL own lvl mc ms) (w : Cond.fieldLink own index "CueBookModel" "players" "I" ∈ lw_tbl) (ha : al S a 6) {v : Int32} (hv : pI S 196 a = v) (d : decode cc pc = .ok (.getfield index, 3)) (q : GW Γ X S k n (pc + 3) loc (.int v :: st)) : GW Γ X S k n pc loc (.ref a :: st) := g_getI C kd_6 (i := 4) rfl w (Or.inl rfl) ha hv d q
theorem pu_Model_players (C : GC Γ X cc nL own lvl mc ms) (w : Cond.fieldLink own index "CueBookModel" "players" "I" ∈ lw_tbl) (ha : al S a 6) {v : Int32} (d : decode cc pc = .ok (.putfield index, 3)) (q : GW Γ X (uI S 196 a v) k n (pc + 3) loc st) : GW Γ X S k n pc loc (.int v :: .ref a :: st) := g_putI C kd_6 (i := 4) rfl w (Or.inl rfl) (Or.inl rfl) ha rfl rfl d q
theorem ge_Model_strengths (C : GC Γ X cc nL own lvl mc ms) (w : Cond.fieldLink own index "CueBookModel" "strengths" "[I" ∈ lw_tbl) (ha : al S a 6) {v : Nat} (hv : pP S 197 a = some v) (d : decode cc pc = .ok (.getfield index, 3)) (q : GW Γ X S k n (pc + 3) loc (.ref v :: st)) : GW Γ X S k n pc loc (.ref a :: st) := g_getP C kd_6 (i := 5) rfl w ha hv d q
theorem pu_Model_strengths (C : GC Γ X cc nL "CueBookModel" lvl mc ms) (w : Cond.fieldLink "CueBookModel" index "CueBookModel" "strengths" "[I" ∈ lw_tbl) (nm : X.2.2.2.2.2.2.2.1.name = "<init>") (ha : al S a 6) {v : Nat} (d : decode cc pc = .ok (.putfield index, 3)) (q : GW Γ X (uP S 197 a (some v)) k n (pc + 3) loc st) : GW Γ X S k n pc loc (.ref v :: .ref a :: st) := g_putP C kd_6 (i := 5) rfl w (Or.inr ⟨rfl, nm, rfl⟩) ha rfl rfl d q
theorem ge_Model_homes (C : GC Γ X cc nL own lvl mc ms) (w : Cond.fieldLink own index "CueBookModel" "homes" "[I" ∈ lw_tbl) (ha : al S a 6) {v : Nat} (hv : pP S 198 a = some v) (d : decode cc pc = .ok (.getfield index, 3)) (q : GW Γ X S k n (pc + 3) loc (.ref v :: st)) : GW Γ X S k n pc loc (.ref a :: st) := g_getP C kd_6 (i := 6) rfl w ha hv d q
theorem pu_Model_homes (C : GC Γ X cc nL "CueBookModel" lvl mc ms) (w : Cond.fieldLink "CueBookModel" index "CueBookModel" "homes" "[I" ∈ lw_tbl) (nm : X.2.2.2.2.2.2.2.1.name = "<init>") (ha : al S a 6) {v : Nat} (d : decode cc pc = .ok (.putfield index, 3)) (q : GW Γ X (uP S 198 a (some v)) k n (pc + 3) loc st) : GW Γ X S k n pc loc (.ref v :: .ref a :: st) := g_putP C kd_6 (i := 6) rfl w (Or.inr ⟨rfl, nm, rfl⟩) ha rfl rfl d q
theorem ge_Model_cues (C : GC Γ X cc nL own lvl mc ms) (w : Cond.fieldLink own index "CueBookModel" "cues" "I" ∈ lw_tbl) (ha : al S a 6) {v : Int32} (hv : pI S 199 a = v) (d : decode cc pc = .ok (.getfield index, 3)) (q : GW Γ X S k n (pc + 3) loc (.int v :: st)) : GW Γ X S k n pc loc (.ref a :: st) := g_getI C kd_6 (i := 7) rfl w (Or.inl rfl) ha hv d q
theorem pu_Model_cues (C : GC Γ X cc nL own lvl mc ms) (w : Cond.fieldLink own index "CueBookModel" "cues" "I" ∈ lw_tbl) (ha : al S a 6) {v : Int32} (d : decode cc pc = .ok (.putfield index, 3)) (q : GW Γ X (uI S 199 a v) k n (pc + 3) loc st) : GW Γ X S k n pc loc (.int v :: .ref a :: st) := g_putI C kd_6 (i := 7) rfl w (Or.inl rfl) (Or.inl rfl) ha rfl rfl d q
theorem ge_Model_table (C : GC Γ X cc nL own lvl mc ms) (w : Cond.fieldLink own index "CueBookModel" "table" "[I" ∈ lw_tbl) (ha : al S a 6) {v : Nat} (hv : pP S 200 a = some v) (d : decode cc pc = .ok (.getfield index, 3)) (q : GW Γ X S k n (pc + 3) loc (.ref v :: st)) : GW Γ X S k n pc loc (.ref a :: st) := g_getP C kd_6 (i := 8) rfl w ha hv d q
theorem pu_Model_table (C : GC Γ X cc nL "CueBookModel" lvl mc ms) (w : Cond.fieldLink "CueBookModel" index "CueBookModel" "table" "[I" ∈ lw_tbl) (nm : X.2.2.2.2.2.2.2.1.name = "<init>") (ha : al S a 6) {v : Nat} (d : decode cc pc = .ok (.putfield index, 3)) (q : GW Γ X (uP S 200 a (some v)) k n (pc + 3) loc st) : GW Γ X S k n pc loc (.ref v :: .ref a :: st) := g_putP C kd_6 (i := 8) rfl w (Or.inr ⟨rfl, nm, rfl⟩) ha rfl rfl d q
theorem ge_Model_areStruck (C : GC Γ X cc nL own lvl mc ms) (w : Cond.fieldLink own index "CueBookModel" "areStruck" "[Z" ∈ lw_tbl) (ha : al S a 6) {v : Nat} (hv : pP S 201 a = some v) (d : decode cc pc = .ok (.getfield index, 3)) (q : GW Γ X S k n (pc + 3) loc (.ref v :: st)) : GW Γ X S k n pc loc (.ref a :: st) := g_getP C kd_6 (i := 9) rfl w ha hv d q
theorem pu_Model_areStruck (C : GC Γ X cc nL "CueBookModel" lvl mc ms) (w : Cond.fieldLink "CueBookModel" index "CueBookModel" "areStruck" "[Z" ∈ lw_tbl) (nm : X.2.2.2.2.2.2.2.1.name = "<init>") (ha : al S a 6) {v : Nat} (d : decode cc pc = .ok (.putfield index, 3)) (q : GW Γ X (uP S 201 a (some v)) k n (pc + 3) loc st) : GW Γ X S k n pc loc (.ref v :: .ref a :: st) := g_putP C kd_6 (i := 9) rfl w (Or.inr ⟨rfl, nm, rfl⟩) ha rfl rfl d q
theorem ge_Model_struck (C : GC Γ X cc nL own lvl mc ms) (w : Cond.fieldLink own index "CueBookModel" "struck" "I" ∈ lw_tbl) (ha : al S a 6) {v : Int32} (hv : pI S 202 a = v) (d : decode cc pc = .ok (.getfield index, 3)) (q : GW Γ X S k n (pc + 3) loc (.int v :: st)) : GW Γ X S k n pc loc (.ref a :: st) := g_getI C kd_6 (i := 10) rfl w (Or.inl rfl) ha hv d q
theorem pu_Model_struck (C : GC Γ X cc nL own lvl mc ms) (w : Cond.fieldLink own index "CueBookModel" "struck" "I" ∈ lw_tbl) (ha : al S a 6) {v : Int32} (d : decode cc pc = .ok (.putfield index, 3)) (q : GW Γ X (uI S 202 a v) k n (pc + 3) loc st) : GW Γ X S k n pc loc (.int v :: .ref a :: st) := g_putI C kd_6 (i := 10) rfl w (Or.inl rfl) (Or.inl rfl) ha rfl rfl d q
theorem ge_Model_noted (C : GC Γ X cc nL own lvl mc ms) (w : Cond.fieldLink own index "CueBookModel" "noted" "[I" ∈ lw_tbl) (ha : al S a 6) {v : Nat} (hv : pP S 203 a = some v) (d : decode cc pc = .ok (.getfield index, 3)) (q : GW Γ X S k n (pc + 3) loc (.ref v :: st)) : GW Γ X S k n pc loc (.ref a :: st) := g_getP C kd_6 (i := 11) rfl w ha hv d q
theorem pu_Model_noted (C : GC Γ X cc nL "CueBookModel" lvl mc ms) (w : Cond.fieldLink "CueBookModel" index "CueBookModel" "noted" "[I" ∈ lw_tbl) (nm : X.2.2.2.2.2.2.2.1.name = "<init>") (ha : al S a 6) {v : Nat} (d : decode cc pc = .ok (.putfield index, 3)) (q : GW Γ X (uP S 203 a (some v)) k n (pc + 3) loc st) : GW Γ X S k n pc loc (.ref v :: .ref a :: st) := g_putP C kd_6 (i := 11) rfl w (Or.inr ⟨rfl, nm, rfl⟩) ha rfl rfl d q
theorem ge_Model_sums (C : GC Γ X cc nL own lvl mc ms) (w : Cond.fieldLink own index "CueBookModel" "sums" "[I" ∈ lw_tbl) (ha : al S a 6) {v : Nat} (hv : pP S 204 a = some v) (d : decode cc pc = .ok (.getfield index, 3)) (q : GW Γ X S k n (pc + 3) loc (.ref v :: st)) : GW Γ X S k n pc loc (.ref a :: st) := g_getP C kd_6 (i := 12) rfl w ha hv d q
theorem pu_Model_sums (C : GC Γ X cc nL "CueBookModel" lvl mc ms) (w : Cond.fieldLink "CueBookModel" index "CueBookModel" "sums" "[I" ∈ lw_tbl) (nm : X.2.2.2.2.2.2.2.1.name = "<init>") (ha : al S a 6) {v : Nat} (d : decode cc pc = .ok (.putfield index, 3)) (q : GW Γ X (uP S 204 a (some v)) k n (pc + 3) loc st) : GW Γ X S k n pc loc (.ref v :: .ref a :: st) := g_putP C kd_6 (i := 12) rfl w (Or.inr ⟨rfl, nm, rfl⟩) ha rfl rfl d q
theorem ge_Model_greatness (C : GC Γ X cc nL own lvl mc ms) (w : Cond.fieldLink own index "CueBookModel" "greatness" "[I" ∈ lw_tbl) (ha : al S a 6) {v : Nat} (hv : pP S 205 a = some v) (d : decode cc pc = .ok (.getfield index, 3)) (q : GW Γ X S k n (pc + 3) loc (.ref v :: st)) : GW Γ X S k n pc loc (.ref a :: st) := g_getP C kd_6 (i := 13) rfl w ha hv d q
theorem pu_Model_greatness (C : GC Γ X cc nL "CueBookModel" lvl mc ms) (w : Cond.fieldLink "CueBookModel" index "CueBookModel" "greatness" "[I" ∈ lw_tbl) (nm : X.2.2.2.2.2.2.2.1.name = "<init>") (ha : al S a 6) {v : Nat} (d : decode cc pc = .ok (.putfield index, 3)) (q : GW Γ X (uP S 205 a (some v)) k n (pc + 3) loc st) : GW Γ X S k n pc loc (.ref v :: .ref a :: st) := g_putP C kd_6 (i := 13) rfl w (Or.inr ⟨rfl, nm, rfl⟩) ha rfl rfl d q
theorem ge_Model_isFresh (C : GC Γ X cc nL own lvl mc ms) (w : Cond.fieldLink own index "CueBookModel" "isFresh" "Z" ∈ lw_tbl) (ha : al S a 6) {v : Int32} (hv : pI S 206 a = v) (d : decode cc pc = .ok (.getfield index, 3)) (q : GW Γ X S k n (pc + 3) loc (.int v :: st)) : GW Γ X S k n pc loc (.ref a :: st) := g_getI C kd_6 (i := 14) rfl w (Or.inl rfl) ha hv d q
theorem pu_Model_isFresh (C : GC Γ X cc nL own lvl mc ms) (w : Cond.fieldLink own index "CueBookModel" "isFresh" "Z" ∈ lw_tbl) (ha : al S a 6) {v : Int32} (hz : v = 0 ∨ v = 1) (d : decode cc pc = .ok (.putfield index, 3)) (q : GW Γ X (uI S 206 a v) k n (pc + 3) loc st) : GW Γ X S k n pc loc (.int v :: .ref a :: st) := g_putI C kd_6 (i := 14) rfl w (Or.inl rfl) (Or.inl rfl) ha (by rcases hz with rfl | rfl <;> rfl) (by rcases hz with rfl | rfl <;> rfl) d q
theorem ge_Model_places (C : GC Γ X cc nL own lvl mc ms) (w : Cond.fieldLink own index "CueBookModel" "places" "[I" ∈ lw_tbl) (ha : al S a 6) {v : Nat} (hv : pP S 207 a = some v) (d : decode cc pc = .ok (.getfield index, 3)) (q : GW Γ X S k n (pc + 3) loc (.ref v :: st)) : GW Γ X S k n pc loc (.ref a :: st) := g_getP C kd_6 (i := 15) rfl w ha hv d q
theorem pu_Model_places (C : GC Γ X cc nL "CueBookModel" lvl mc ms) (w : Cond.fieldLink "CueBookModel" index "CueBookModel" "places" "[I" ∈ lw_tbl) (nm : X.2.2.2.2.2.2.2.1.name = "<init>") (ha : al S a 6) {v : Nat} (d : decode cc pc = .ok (.putfield index, 3)) (q : GW Γ X (uP S 207 a (some v)) k n (pc + 3) loc st) : GW Γ X S k n pc loc (.ref v :: .ref a :: st) := g_putP C kd_6 (i := 15) rfl w (Or.inr ⟨rfl, nm, rfl⟩) ha rfl rfl d q
theorem ge_Model_tracks (C : GC Γ X cc nL own lvl mc ms) (w : Cond.fieldLink own index "CueBookModel" "tracks" "[I" ∈ lw_tbl) (ha : al S a 6) {v : Nat} (hv : pP S 208 a = some v) (d : decode cc pc = .ok (.getfield index, 3)) (q : GW Γ X S k n (pc + 3) loc (.ref v :: st)) : GW Γ X S k n pc loc (.ref a :: st) := g_getP C kd_6 (i := 16) rfl w ha hv d q
theorem pu_Model_tracks (C : GC Γ X cc nL "CueBookModel" lvl mc ms) (w : Cond.fieldLink "CueBookModel" index "CueBookModel" "tracks" "[I" ∈ lw_tbl) (nm : X.2.2.2.2.2.2.2.1.name = "<init>") (ha : al S a 6) {v : Nat} (d : decode cc pc = .ok (.putfield index, 3)) (q : GW Γ X (uP S 208 a (some v)) k n (pc + 3) loc st) : GW Γ X S k n pc loc (.ref v :: .ref a :: st) := g_putP C kd_6 (i := 16) rfl w (Or.inr ⟨rfl, nm, rfl⟩) ha rfl rfl d q
theorem ge_Model_stays (C : GC Γ X cc nL own lvl mc ms) (w : Cond.fieldLink own index "CueBookModel" "stays" "[I" ∈ lw_tbl) (ha : al S a 6) {v : Nat} (hv : pP S 209 a = some v) (d : decode cc pc = .ok (.getfield index, 3)) (q : GW Γ X S k n (pc + 3) loc (.ref v :: st)) : GW Γ X S k n pc loc (.ref a :: st) := g_getP C kd_6 (i := 17) rfl w ha hv d q
theorem pu_Model_stays (C : GC Γ X cc nL "CueBookModel" lvl mc ms) (w : Cond.fieldLink "CueBookModel" index "CueBookModel" "stays" "[I" ∈ lw_tbl) (nm : X.2.2.2.2.2.2.2.1.name = "<init>") (ha : al S a 6) {v : Nat} (d : decode cc pc = .ok (.putfield index, 3)) (q : GW Γ X (uP S 209 a (some v)) k n (pc + 3) loc st) : GW Γ X S k n pc loc (.ref v :: .ref a :: st) := g_putP C kd_6 (i := 17) rfl w (Or.inr ⟨rfl, nm, rfl⟩) ha rfl rfl d q
theorem ge_Model_manyStays (C : GC Γ X cc nL own lvl mc ms) (w : Cond.fieldLink own index "CueBookModel" "manyStays" "[I" ∈ lw_tbl) (ha : al S a 6) {v : Nat} (hv : pP S 210 a = some v) (d : decode cc pc = .ok (.getfield index, 3)) (q : GW Γ X S k n (pc + 3) loc (.ref v :: st)) : GW Γ X S k n pc loc (.ref a :: st) := g_getP C kd_6 (i := 18) rfl w ha hv d q
theorem pu_Model_manyStays (C : GC Γ X cc nL "CueBookModel" lvl mc ms) (w : Cond.fieldLink "CueBookModel" index "CueBookModel" "manyStays" "[I" ∈ lw_tbl) (nm : X.2.2.2.2.2.2.2.1.name = "<init>") (ha : al S a 6) {v : Nat} (d : decode cc pc = .ok (.putfield index, 3)) (q : GW Γ X (uP S 210 a (some v)) k n (pc + 3) loc st) : GW Γ X S k n pc loc (.ref v :: .ref a :: st) := g_putP C kd_6 (i := 18) rfl w (Or.inr ⟨rfl, nm, rfl⟩) ha rfl rfl d q
theorem ge_Model_begins (C : GC Γ X cc nL own lvl mc ms) (w : Cond.fieldLink own index "CueBookModel" "begins" "[I" ∈ lw_tbl) (ha : al S a 6) {v : Nat} (hv : pP S 211 a = some v) (d : decode cc pc = .ok (.getfield index, 3)) (q : GW Γ X S k n (pc + 3) loc (.ref v :: st)) : GW Γ X S k n pc loc (.ref a :: st) := g_getP C kd_6 (i := 19) rfl w ha hv d q
theorem pu_Model_begins (C : GC Γ X cc nL "CueBookModel" lvl mc ms) (w : Cond.fieldLink "CueBookModel" index "CueBookModel" "begins" "[I" ∈ lw_tbl) (nm : X.2.2.2.2.2.2.2.1.name = "<init>") (ha : al S a 6) {v : Nat} (d : decode cc pc = .ok (.putfield index, 3)) (q : GW Γ X (uP S 211 a (some v)) k n (pc + 3) loc st) : GW Γ X S k n pc loc (.ref v :: .ref a :: st) := g_putP C kd_6 (i := 19) rfl w (Or.inr ⟨rfl, nm, rfl⟩) ha rfl rfl d q
theorem ge_Model_ends (C : GC Γ X cc nL own lvl mc ms) (w : Cond.fieldLink own index "CueBookModel" "ends" "[I" ∈ lw_tbl) (ha : al S a 6) {v : Nat} (hv : pP S 212 a = some v) (d : decode cc pc = .ok (.getfield index, 3)) (q : GW Γ X S k n (pc + 3) loc (.ref v :: st)) : GW Γ X S k n pc loc (.ref a :: st) := g_getP C kd_6 (i := 20) rfl w ha hv d q
theorem pu_Model_ends (C : GC Γ X cc nL "CueBookModel" lvl mc ms) (w : Cond.fieldLink "CueBookModel" index "CueBookModel" "ends" "[I" ∈ lw_tbl) (nm : X.2.2.2.2.2.2.2.1.name = "<init>") (ha : al S a 6) {v : Nat} (d : decode cc pc = .ok (.putfield index, 3)) (q : GW Γ X (uP S 212 a (some v)) k n (pc + 3) loc st) : GW Γ X S k n pc loc (.ref v :: .ref a :: st) := g_putP C kd_6 (i := 20) rfl w (Or.inr ⟨rfl, nm, rfl⟩) ha rfl rfl d q
theorem ge_Model_cast (C : GC Γ X cc nL own lvl mc ms) (w : Cond.fieldLink own index "CueBookModel" "cast" "[I" ∈ lw_tbl) (ha : al S a 6) {v : Nat} (hv : pP S 213 a = some v) (d : decode cc pc = .ok (.getfield index, 3)) (q : GW Γ X S k n (pc + 3) loc (.ref v :: st)) : GW Γ X S k n pc loc (.ref a :: st) := g_getP C kd_6 (i := 21) rfl w ha hv d q
theorem pu_Model_cast (C : GC Γ X cc nL "CueBookModel" lvl mc ms) (w : Cond.fieldLink "CueBookModel" index "CueBookModel" "cast" "[I" ∈ lw_tbl) (nm : X.2.2.2.2.2.2.2.1.name = "<init>") (ha : al S a 6) {v : Nat} (d : decode cc pc = .ok (.putfield index, 3)) (q : GW Γ X (uP S 213 a (some v)) k n (pc + 3) loc st) : GW Γ X S k n pc loc (.ref v :: .ref a :: st) := g_putP C kd_6 (i := 21) rfl w (Or.inr ⟨rfl, nm, rfl⟩) ha rfl rfl d q
theorem ge_AL_modCount (C : GC Γ X cc nL own lvl mc ms) (w : Cond.fieldLink own index "java/util/ArrayList" "modCount" "I" ∈ lw_tbl) (ha : al S a 7) {v : Int32} (hv : pI S 224 a = v) (d : decode cc pc = .ok (.getfield index, 3)) (q : GW Γ X S k n (pc + 3) loc (.int v :: st)) : GW Γ X S k n pc loc (.ref a :: st) := g_getI C kd_7 (i := 0) rfl w (Or.inr tw_1_56) ha hv d q
theorem pu_AL_modCount (C : GC Γ X cc nL own lvl mc ms) (w : Cond.fieldLink own index "java/util/ArrayList" "modCount" "I" ∈ lw_tbl) (ha : al S a 7) {v : Int32} (d : decode cc pc = .ok (.putfield index, 3)) (q : GW Γ X (uI S 224 a v) k n (pc + 3) loc st) : GW Γ X S k n pc loc (.int v :: .ref a :: st) := g_putI C kd_7 (i := 0) rfl w (Or.inr tw_1_56) (Or.inl rfl) ha rfl rfl d q
theorem ge_AL_elementData (C : GC Γ X cc nL own lvl mc ms) (w : Cond.fieldLink own index "java/util/ArrayList" "elementData" "[Ljava/lang/Object;" ∈ lw_tbl) (ha : al S a 7) {v : Nat} (hv : pP S 225 a = some v) (d : decode cc pc = .ok (.getfield index, 3)) (q : GW Γ X S k n (pc + 3) loc (.ref v :: st)) : GW Γ X S k n pc loc (.ref a :: st) := g_getP C kd_7 (i := 1) rfl w ha hv d q
theorem pu_AL_elementData (C : GC Γ X cc nL own lvl mc ms) (w : Cond.fieldLink own index "java/util/ArrayList" "elementData" "[Ljava/lang/Object;" ∈ lw_tbl) (ha : al S a 7) {v : Nat} (d : decode cc pc = .ok (.putfield index, 3)) (q : GW Γ X (uP S 225 a (some v)) k n (pc + 3) loc st) : GW Γ X S k n pc loc (.ref v :: .ref a :: st) := g_putP C kd_7 (i := 1) rfl w (Or.inl rfl) ha rfl rfl d q
theorem ge_AL_size (C : GC Γ X cc nL own lvl mc ms) (w : Cond.fieldLink own index "java/util/ArrayList" "size" "I" ∈ lw_tbl) (ha : al S a 7) {v : Int32} (hv : pI S 226 a = v) (d : decode cc pc = .ok (.getfield index, 3)) (q : GW Γ X S k n (pc + 3) loc (.int v :: st)) : GW Γ X S k n pc loc (.ref a :: st) := g_getI C kd_7 (i := 2) rfl w (Or.inl rfl) ha hv d q
theorem pu_AL_size (C : GC Γ X cc nL own lvl mc ms) (w : Cond.fieldLink own index "java/util/ArrayList" "size" "I" ∈ lw_tbl) (ha : al S a 7) {v : Int32} (d : decode cc pc = .ok (.putfield index, 3)) (q : GW Γ X (uI S 226 a v) k n (pc + 3) loc st) : GW Γ X S k n pc loc (.int v :: .ref a :: st) := g_putI C kd_7 (i := 2) rfl w (Or.inl rfl) (Or.inl rfl) ha rfl rfl d q
end GFields
theorem gy_X0_init : GY yX0_init cX0_init 6 ((none : Option FieldType)) 5 := ⟨tw_4_14, tw_1_20, ⟨by decide +kernel, by decide +kernel⟩, by decide +kernel, by decide⟩
theorem gy_X1_init : GY yX1_init cX1_init 1 ((none : Option FieldType)) 0 := ⟨tw_4_80, tw_1_28, ⟨by decide +kernel, by decide +kernel⟩, by decide +kernel, by decide⟩
theorem gy_X1_allows : GY yX1_allows cX1_allows 2 ((some FieldType.boolean)) 1 := ⟨tw_4_107, tw_1_28, ⟨by decide +kernel, by decide +kernel⟩, by decide +kernel, by decide⟩
theorem gy_X1_follow : GY yX1_follow cX1_follow 2 ((none : Option FieldType)) 1 := ⟨tw_4_112, tw_1_28, ⟨by decide +kernel, by decide +kernel⟩, by decide +kernel, by decide⟩
theorem gy_X1_walk : GY yX1_walk cX1_walk 4 ((none : Option FieldType)) 3 := ⟨tw_4_116, tw_1_28, ⟨by decide +kernel, by decide +kernel⟩, by decide +kernel, by decide⟩
theorem gy_X1_placeAtBeat : GY yX1_placeAtBeat cX1_placeAtBeat 3 ((some FieldType.int)) 1 := ⟨tw_4_137, tw_1_28, ⟨by decide +kernel, by decide +kernel⟩, by decide +kernel, by decide⟩
theorem gy_X1_trackNow : GY yX1_trackNow cX1_trackNow 1 ((some FieldType.int)) 0 := ⟨tw_4_141, tw_1_28, ⟨by decide +kernel, by decide +kernel⟩, by decide +kernel, by decide⟩
theorem gy_X2_init : GY yX2_init cX2_init 3 ((none : Option FieldType)) 2 := ⟨tw_3_215, tw_1_16, ⟨by decide +kernel, by decide +kernel⟩, by decide +kernel, by decide⟩
theorem gy_X2_holds : GY yX2_holds cX2_holds 3 ((some FieldType.boolean)) 2 := ⟨tw_3_69, tw_1_16, ⟨by decide +kernel, by decide +kernel⟩, by decide +kernel, by decide⟩
theorem gy_X2_putDownAll : GY yX2_putDownAll cX2_putDownAll 1 ((none : Option FieldType)) 0 := ⟨tw_1_137, tw_1_16, ⟨by decide +kernel, by decide +kernel⟩, by decide +kernel, by decide⟩
theorem gy_X2_take : GY yX2_take cX2_take 3 ((none : Option FieldType)) 1 := ⟨tw_3_83, tw_1_16, ⟨by decide +kernel, by decide +kernel⟩, by decide +kernel, by decide⟩
theorem gy_X2_busyBeats : GY yX2_busyBeats cX2_busyBeats 3 ((some FieldType.int)) 0 := ⟨tw_3_110, tw_1_16, ⟨by decide +kernel, by decide +kernel⟩, by decide +kernel, by decide⟩
theorem gy_X3_init : GY yX3_init cX3_init 4 ((none : Option FieldType)) 3 := ⟨tw_3_151, tw_1_11, ⟨by decide +kernel, by decide +kernel⟩, by decide +kernel, by decide⟩
theorem gy_X3_takesIn : GY yX3_takesIn cX3_takesIn 3 ((some FieldType.boolean)) 1 := ⟨tw_4_67, tw_1_11, ⟨by decide +kernel, by decide +kernel⟩, by decide +kernel, by decide⟩
theorem gy_X3_takesOut : GY yX3_takesOut cX3_takesOut 3 ((some FieldType.boolean)) 1 := ⟨tw_4_220, tw_1_11, ⟨by decide +kernel, by decide +kernel⟩, by decide +kernel, by decide⟩
theorem gy_X3_isScriptRight : GY yX3_isScriptRight cX3_isScriptRight 4 ((some FieldType.boolean)) 0 := ⟨tw_4_75, tw_1_11, ⟨by decide +kernel, by decide +kernel⟩, by decide +kernel, by decide⟩
theorem gy_X3_playScript : GY yX3_playScript cX3_playScript 5 ((none : Option FieldType)) 0 := ⟨tw_4_128, tw_1_11, ⟨by decide +kernel, by decide +kernel⟩, by decide +kernel, by decide⟩
theorem gy_X3_playBeats : GY yX3_playBeats cX3_playBeats 5 ((none : Option FieldType)) 3 := ⟨tw_4_133, tw_1_11, ⟨by decide +kernel, by decide +kernel⟩, by decide +kernel, by decide⟩
theorem gy_X3_recordStay : GY yX3_recordStay cX3_recordStay 2 ((none : Option FieldType)) 1 := ⟨tw_4_145, tw_1_11, ⟨by decide +kernel, by decide +kernel⟩, by decide +kernel, by decide⟩
theorem gy_X4_init : GY yX4_init cX4_init 3 ((none : Option FieldType)) 2 := ⟨tw_4_150, tw_1_29, ⟨by decide +kernel, by decide +kernel⟩, by decide +kernel, by decide⟩
theorem gy_X5_init : GY yX5_init cX5_init 1 ((none : Option FieldType)) 0 := ⟨tw_1_34, tw_1_1, ⟨by decide +kernel, by decide +kernel⟩, by decide +kernel, by decide⟩
theorem gy_X5_addPuppet : GY yX5_addPuppet cX5_addPuppet 4 ((some FieldType.int)) 2 := ⟨tw_3_127, tw_1_1, ⟨by decide +kernel, by decide +kernel⟩, by decide +kernel, by decide⟩
theorem gy_X5_addPlayer : GY yX5_addPlayer cX5_addPlayer 4 ((some FieldType.int)) 2 := ⟨tw_3_205, tw_1_1, ⟨by decide +kernel, by decide +kernel⟩, by decide +kernel, by decide⟩
theorem gy_X5_enter : GY yX5_enter cX5_enter 6 ((some FieldType.int)) 4 := ⟨tw_3_237, tw_1_1, ⟨by decide +kernel, by decide +kernel⟩, by decide +kernel, by decide⟩
theorem gy_X5_move : GY yX5_move cX5_move 5 ((some FieldType.int)) 3 := ⟨tw_4_189, tw_1_1, ⟨by decide +kernel, by decide +kernel⟩, by decide +kernel, by decide⟩
theorem gy_X5_shift : GY yX5_shift cX5_shift 5 ((some FieldType.int)) 3 := ⟨tw_4_196, tw_1_1, ⟨by decide +kernel, by decide +kernel⟩, by decide +kernel, by decide⟩
theorem gy_X5_leave : GY yX5_leave cX5_leave 4 ((some FieldType.int)) 2 := ⟨tw_4_203, tw_1_1, ⟨by decide +kernel, by decide +kernel⟩, by decide +kernel, by decide⟩
theorem gy_X5_strike : GY yX5_strike cX5_strike 3 ((some FieldType.int)) 1 := ⟨tw_4_210, tw_1_1, ⟨by decide +kernel, by decide +kernel⟩, by decide +kernel, by decide⟩
theorem gy_X5_count : GY yX5_count cX5_count 2 ((some FieldType.int)) 1 := ⟨tw_4_228, tw_1_1, ⟨by decide +kernel, by decide +kernel⟩, by decide +kernel, by decide⟩
theorem gy_X5_cue : GY yX5_cue cX5_cue 3 ((some FieldType.int)) 2 := ⟨tw_4_236, tw_1_1, ⟨by decide +kernel, by decide +kernel⟩, by decide +kernel, by decide⟩
theorem gy_X5_place : GY yX5_place cX5_place 4 ((some FieldType.int)) 2 := ⟨tw_5_3, tw_1_1, ⟨by decide +kernel, by decide +kernel⟩, by decide +kernel, by decide⟩
theorem gy_X5_track : GY yX5_track cX5_track 4 ((some FieldType.int)) 2 := ⟨tw_5_10, tw_1_1, ⟨by decide +kernel, by decide +kernel⟩, by decide +kernel, by decide⟩
theorem gy_X5_onStage : GY yX5_onStage cX5_onStage 5 ((some FieldType.int)) 1 := ⟨tw_5_17, tw_1_1, ⟨by decide +kernel, by decide +kernel⟩, by decide +kernel, by decide⟩
theorem gy_X5_clash : GY yX5_clash cX5_clash 5 ((some FieldType.int)) 2 := ⟨tw_5_24, tw_1_1, ⟨by decide +kernel, by decide +kernel⟩, by decide +kernel, by decide⟩
theorem gy_X5_clashes : GY yX5_clashes cX5_clashes 1 ((some FieldType.int)) 0 := ⟨tw_1_92, tw_1_1, ⟨by decide +kernel, by decide +kernel⟩, by decide +kernel, by decide⟩
theorem gy_X5_beats : GY yX5_beats cX5_beats 6 ((some FieldType.int)) 1 := ⟨tw_5_32, tw_1_1, ⟨by decide +kernel, by decide +kernel⟩, by decide +kernel, by decide⟩
theorem gy_X5_stays : GY yX5_stays cX5_stays 2 ((some FieldType.int)) 1 := ⟨tw_5_39, tw_1_1, ⟨by decide +kernel, by decide +kernel⟩, by decide +kernel, by decide⟩
theorem gy_X5_stay : GY yX5_stay cX5_stay 5 ((some FieldType.int)) 3 := ⟨tw_5_46, tw_1_1, ⟨by decide +kernel, by decide +kernel⟩, by decide +kernel, by decide⟩
theorem gy_X5_uncast : GY yX5_uncast cX5_uncast 3 ((some FieldType.int)) 0 := ⟨tw_1_128, tw_1_1, ⟨by decide +kernel, by decide +kernel⟩, by decide +kernel, by decide⟩
theorem gy_X5_hands : GY yX5_hands cX5_hands 4 ((some FieldType.int)) 2 := ⟨tw_5_54, tw_1_1, ⟨by decide +kernel, by decide +kernel⟩, by decide +kernel, by decide⟩
theorem gy_X5_load : GY yX5_load cX5_load 3 ((some FieldType.int)) 1 := ⟨tw_5_66, tw_1_1, ⟨by decide +kernel, by decide +kernel⟩, by decide +kernel, by decide⟩
theorem gy_X5_note : GY yX5_note cX5_note 4 ((some FieldType.int)) 2 := ⟨tw_5_73, tw_1_1, ⟨by decide +kernel, by decide +kernel⟩, by decide +kernel, by decide⟩
theorem gy_X5_mean : GY yX5_mean cX5_mean 3 ((some FieldType.double)) 1 := ⟨tw_5_82, tw_1_1, ⟨by decide +kernel, by decide +kernel⟩, by decide +kernel, by decide⟩
theorem gy_X5_worst : GY yX5_worst cX5_worst 5 ((some FieldType.int)) 0 := ⟨tw_3_87, tw_1_1, ⟨by decide +kernel, by decide +kernel⟩, by decide +kernel, by decide⟩
theorem gy_X5_digest : GY yX5_digest cX5_digest 4 ((some FieldType.long)) 0 := ⟨tw_3_92, tw_1_1, ⟨by decide +kernel, by decide +kernel⟩, by decide +kernel, by decide⟩
theorem gy_X5_puppetNumbered : GY yX5_puppetNumbered cX5_puppetNumbered 2 ((some (FieldType.object "CueBook$Puppet"))) 1 := ⟨tw_4_1, tw_1_1, ⟨by decide +kernel, by decide +kernel⟩, by decide +kernel, by decide⟩
theorem gy_X5_playerNumbered : GY yX5_playerNumbered cX5_playerNumbered 2 ((some (FieldType.object "CueBook$Player"))) 1 := ⟨tw_5_58, tw_1_1, ⟨by decide +kernel, by decide +kernel⟩, by decide +kernel, by decide⟩
theorem gy_X5_cueNumbered : GY yX5_cueNumbered cX5_cueNumbered 3 ((some (FieldType.object "CueBook$Cue"))) 1 := ⟨tw_4_214, tw_1_1, ⟨by decide +kernel, by decide +kernel⟩, by decide +kernel, by decide⟩
theorem gy_X5_requireBeat : GY yX5_requireBeat cX5_requireBeat 1 ((none : Option FieldType)) 1 := ⟨tw_4_5, tw_1_1, ⟨by decide +kernel, by decide +kernel⟩, by decide +kernel, by decide⟩
theorem gy_X5_requirePlace : GY yX5_requirePlace cX5_requirePlace 1 ((none : Option FieldType)) 1 := ⟨tw_3_209, tw_1_1, ⟨by decide +kernel, by decide +kernel⟩, by decide +kernel, by decide⟩
theorem gy_X5_requireTrack : GY yX5_requireTrack cX5_requireTrack 1 ((none : Option FieldType)) 1 := ⟨tw_4_9, tw_1_1, ⟨by decide +kernel, by decide +kernel⟩, by decide +kernel, by decide⟩
theorem gy_X5_write : GY yX5_write cX5_write 3 ((some FieldType.int)) 1 := ⟨tw_4_62, tw_1_1, ⟨by decide +kernel, by decide +kernel⟩, by decide +kernel, by decide⟩
theorem gy_X5_forgetWhatWasFound : GY yX5_forgetWhatWasFound cX5_forgetWhatWasFound 1 ((none : Option FieldType)) 0 := ⟨tw_4_182, tw_1_1, ⟨by decide +kernel, by decide +kernel⟩, by decide +kernel, by decide⟩
theorem gy_X5_tellOfCue : GY yX5_tellOfCue cX5_tellOfCue 2 ((some FieldType.int)) 2 := ⟨tw_3_116, tw_1_1, ⟨by decide +kernel, by decide +kernel⟩, by decide +kernel, by decide⟩
theorem gy_X5_tellOfStay : GY yX5_tellOfStay cX5_tellOfStay 2 ((some FieldType.int)) 2 := ⟨tw_3_103, tw_1_1, ⟨by decide +kernel, by decide +kernel⟩, by decide +kernel, by decide⟩
theorem gy_X5_distance : GY yX5_distance cX5_distance 2 ((some FieldType.int)) 2 := ⟨tw_3_72, tw_1_1, ⟨by decide +kernel, by decide +kernel⟩, by decide +kernel, by decide⟩
theorem gy_X5_countClashingPairs : GY yX5_countClashingPairs cX5_countClashingPairs 4 ((some FieldType.int)) 0 := ⟨tw_1_96, tw_1_1, ⟨by decide +kernel, by decide +kernel⟩, by decide +kernel, by decide⟩
theorem gy_X5_firstClash : GY yX5_firstClash cX5_firstClash 3 ((some FieldType.int)) 2 := ⟨tw_1_118, tw_1_1, ⟨by decide +kernel, by decide +kernel⟩, by decide +kernel, by decide⟩
theorem gy_X5_areOnOneTrack : GY yX5_areOnOneTrack cX5_areOnOneTrack 3 ((some FieldType.boolean)) 3 := ⟨tw_1_121, tw_1_1, ⟨by decide +kernel, by decide +kernel⟩, by decide +kernel, by decide⟩
theorem gy_X5_exchangePlaces : GY yX5_exchangePlaces cX5_exchangePlaces 4 ((some FieldType.boolean)) 3 := ⟨tw_1_124, tw_1_1, ⟨by decide +kernel, by decide +kernel⟩, by decide +kernel, by decide⟩
theorem gy_X5_findCasting : GY yX5_findCasting cX5_findCasting 2 ((none : Option FieldType)) 0 := ⟨tw_1_132, tw_1_1, ⟨by decide +kernel, by decide +kernel⟩, by decide +kernel, by decide⟩
theorem gy_X5_orderStays : GY yX5_orderStays cX5_orderStays 4 ((none : Option FieldType)) 0 := ⟨tw_1_144, tw_1_1, ⟨by decide +kernel, by decide +kernel⟩, by decide +kernel, by decide⟩
theorem gy_X5_putInOrder : GY yX5_putInOrder cX5_putInOrder 3 ((none : Option FieldType)) 1 := ⟨tw_1_153, tw_1_1, ⟨by decide +kernel, by decide +kernel⟩, by decide +kernel, by decide⟩
theorem gy_X5_namePlayer : GY yX5_namePlayer cX5_namePlayer 4 ((none : Option FieldType)) 1 := ⟨tw_3_53, tw_1_1, ⟨by decide +kernel, by decide +kernel⟩, by decide +kernel, by decide⟩
theorem gy_X5_canDo : GY yX5_canDo cX5_canDo 4 ((some FieldType.boolean)) 2 := ⟨tw_3_57, tw_1_1, ⟨by decide +kernel, by decide +kernel⟩, by decide +kernel, by decide⟩
theorem gy_X5_canComeToBeginning : GY yX5_canComeToBeginning cX5_canComeToBeginning 5 ((some FieldType.boolean)) 2 := ⟨tw_3_61, tw_1_1, ⟨by decide +kernel, by decide +kernel⟩, by decide +kernel, by decide⟩
theorem gy_X5_placeOfHeld : GY yX5_placeOfHeld cX5_placeOfHeld 4 ((some FieldType.int)) 2 := ⟨tw_3_65, tw_1_1, ⟨by decide +kernel, by decide +kernel⟩, by decide +kernel, by decide⟩
theorem gy_X5_canHold : GY yX5_canHold cX5_canHold 8 ((some FieldType.boolean)) 3 := ⟨tw_3_79, tw_1_1, ⟨by decide +kernel, by decide +kernel⟩, by decide +kernel, by decide⟩
theorem gy_X5_digestWith : GY yX5_digestWith cX5_digestWith 3 ((some FieldType.long)) 2 := ⟨tw_3_96, tw_1_1, ⟨by decide +kernel, by decide +kernel⟩, by decide +kernel, by decide⟩
theorem gy_X5_digestWithStays : GY yX5_digestWithStays cX5_digestWithStays 7 ((some FieldType.long)) 2 := ⟨tw_3_100, tw_1_1, ⟨by decide +kernel, by decide +kernel⟩, by decide +kernel, by decide⟩
theorem gy_X5_digestWithCue : GY yX5_digestWithCue cX5_digestWithCue 6 ((some FieldType.long)) 2 := ⟨tw_3_113, tw_1_1, ⟨by decide +kernel, by decide +kernel⟩, by decide +kernel, by decide⟩
theorem gy_X6_init : GY yX6_init cX6_init 1 ((none : Option FieldType)) 0 := ⟨tw_5_87, tw_1_5, ⟨by decide +kernel, by decide +kernel⟩, by decide +kernel, by decide⟩
theorem gy_X6_thrown : GY yX6_thrown cX6_thrown 1 ((some FieldType.int)) 0 := ⟨tw_5_160, tw_1_5, ⟨by decide +kernel, by decide +kernel⟩, by decide +kernel, by decide⟩
theorem gy_X6_fail : GY yX6_fail cX6_fail 2 ((some FieldType.int)) 1 := ⟨tw_5_171, tw_1_5, ⟨by decide +kernel, by decide +kernel⟩, by decide +kernel, by decide⟩
theorem gy_X6_isIn : GY yX6_isIn cX6_isIn 3 ((some FieldType.boolean)) 3 := ⟨tw_5_167, tw_1_5, ⟨by decide +kernel, by decide +kernel⟩, by decide +kernel, by decide⟩
theorem gy_X6_isPuppet : GY yX6_isPuppet cX6_isPuppet 2 ((some FieldType.boolean)) 1 := ⟨tw_5_187, tw_1_5, ⟨by decide +kernel, by decide +kernel⟩, by decide +kernel, by decide⟩
theorem gy_X6_isPlayer : GY yX6_isPlayer cX6_isPlayer 2 ((some FieldType.boolean)) 1 := ⟨tw_6_98, tw_1_5, ⟨by decide +kernel, by decide +kernel⟩, by decide +kernel, by decide⟩
theorem gy_X6_isBeat : GY yX6_isBeat cX6_isBeat 1 ((some FieldType.boolean)) 1 := ⟨tw_5_190, tw_1_5, ⟨by decide +kernel, by decide +kernel⟩, by decide +kernel, by decide⟩
theorem gy_X6_addPuppet : GY yX6_addPuppet cX6_addPuppet 3 ((some FieldType.int)) 2 := ⟨tw_5_164, tw_1_5, ⟨by decide +kernel, by decide +kernel⟩, by decide +kernel, by decide⟩
theorem gy_X6_addPlayer : GY yX6_addPlayer cX6_addPlayer 3 ((some FieldType.int)) 2 := ⟨tw_5_175, tw_1_5, ⟨by decide +kernel, by decide +kernel⟩, by decide +kernel, by decide⟩
theorem gy_X6_kind : GY yX6_kind cX6_kind 2 ((some FieldType.int)) 1 := ⟨tw_5_214, tw_1_5, ⟨by decide +kernel, by decide +kernel⟩, by decide +kernel, by decide⟩
theorem gy_X6_beat : GY yX6_beat cX6_beat 2 ((some FieldType.int)) 1 := ⟨tw_5_210, tw_1_5, ⟨by decide +kernel, by decide +kernel⟩, by decide +kernel, by decide⟩
theorem gy_X6_behind : GY yX6_behind cX6_behind 5 ((some FieldType.int)) 2 := ⟨tw_5_202, tw_1_5, ⟨by decide +kernel, by decide +kernel⟩, by decide +kernel, by decide⟩
theorem gy_X6_isBehind : GY yX6_isBehind cX6_isBehind 3 ((some FieldType.boolean)) 2 := ⟨tw_5_206, tw_1_5, ⟨by decide +kernel, by decide +kernel⟩, by decide +kernel, by decide⟩
theorem gy_X6_areRight : GY yX6_areRight cX6_areRight 7 ((some FieldType.boolean)) 1 := ⟨tw_5_198, tw_1_5, ⟨by decide +kernel, by decide +kernel⟩, by decide +kernel, by decide⟩
theorem gy_X6_write : GY yX6_write cX6_write 7 ((some FieldType.int)) 5 := ⟨tw_5_194, tw_1_5, ⟨by decide +kernel, by decide +kernel⟩, by decide +kernel, by decide⟩
theorem gy_X6_written : GY yX6_written cX6_written 8 ((some FieldType.int)) 5 := ⟨tw_5_183, tw_1_5, ⟨by decide +kernel, by decide +kernel⟩, by decide +kernel, by decide⟩
theorem gy_X6_enter : GY yX6_enter cX6_enter 5 ((some FieldType.int)) 4 := ⟨tw_5_179, tw_1_5, ⟨by decide +kernel, by decide +kernel⟩, by decide +kernel, by decide⟩
theorem gy_X6_move : GY yX6_move cX6_move 4 ((some FieldType.int)) 3 := ⟨tw_5_219, tw_1_5, ⟨by decide +kernel, by decide +kernel⟩, by decide +kernel, by decide⟩
theorem gy_X6_shift : GY yX6_shift cX6_shift 4 ((some FieldType.int)) 3 := ⟨tw_5_223, tw_1_5, ⟨by decide +kernel, by decide +kernel⟩, by decide +kernel, by decide⟩
theorem gy_X6_leave : GY yX6_leave cX6_leave 3 ((some FieldType.int)) 2 := ⟨tw_5_227, tw_1_5, ⟨by decide +kernel, by decide +kernel⟩, by decide +kernel, by decide⟩
theorem gy_X6_isCue : GY yX6_isCue cX6_isCue 2 ((some FieldType.boolean)) 1 := ⟨tw_5_235, tw_1_5, ⟨by decide +kernel, by decide +kernel⟩, by decide +kernel, by decide⟩
theorem gy_X6_strike : GY yX6_strike cX6_strike 5 ((some FieldType.int)) 1 := ⟨tw_5_231, tw_1_5, ⟨by decide +kernel, by decide +kernel⟩, by decide +kernel, by decide⟩
theorem gy_X6_count : GY yX6_count cX6_count 2 ((some FieldType.int)) 1 := ⟨tw_5_239, tw_1_5, ⟨by decide +kernel, by decide +kernel⟩, by decide +kernel, by decide⟩
theorem gy_X6_cue : GY yX6_cue cX6_cue 3 ((some FieldType.int)) 2 := ⟨tw_6_3, tw_1_5, ⟨by decide +kernel, by decide +kernel⟩, by decide +kernel, by decide⟩
theorem gy_X6_workOut : GY yX6_workOut cX6_workOut 2 ((none : Option FieldType)) 0 := ⟨tw_6_15, tw_1_5, ⟨by decide +kernel, by decide +kernel⟩, by decide +kernel, by decide⟩
theorem gy_X6_workOut_ : GY yX6_workOut_ cX6_workOut_ 8 ((none : Option FieldType)) 1 := ⟨tw_6_19, tw_1_5, ⟨by decide +kernel, by decide +kernel⟩, by decide +kernel, by decide⟩
theorem gy_X6_playerAt : GY yX6_playerAt cX6_playerAt 3 ((some FieldType.int)) 2 := ⟨tw_6_34, tw_1_5, ⟨by decide +kernel, by decide +kernel⟩, by decide +kernel, by decide⟩
theorem gy_X6_canDo : GY yX6_canDo cX6_canDo 9 ((some FieldType.boolean)) 1 := ⟨tw_6_30, tw_1_5, ⟨by decide +kernel, by decide +kernel⟩, by decide +kernel, by decide⟩
theorem gy_X6_castAll : GY yX6_castAll cX6_castAll 6 ((none : Option FieldType)) 0 := ⟨tw_6_26, tw_1_5, ⟨by decide +kernel, by decide +kernel⟩, by decide +kernel, by decide⟩
theorem gy_X6_placeAt : GY yX6_placeAt cX6_placeAt 3 ((some FieldType.int)) 2 := ⟨tw_6_38, tw_1_5, ⟨by decide +kernel, by decide +kernel⟩, by decide +kernel, by decide⟩
theorem gy_X6_trackAt : GY yX6_trackAt cX6_trackAt 3 ((some FieldType.int)) 2 := ⟨tw_6_46, tw_1_5, ⟨by decide +kernel, by decide +kernel⟩, by decide +kernel, by decide⟩
theorem gy_X6_whyBeat : GY yX6_whyBeat cX6_whyBeat 2 ((some FieldType.int)) 1 := ⟨tw_6_11, tw_1_5, ⟨by decide +kernel, by decide +kernel⟩, by decide +kernel, by decide⟩
theorem gy_X6_place : GY yX6_place cX6_place 3 ((some FieldType.int)) 2 := ⟨tw_6_7, tw_1_5, ⟨by decide +kernel, by decide +kernel⟩, by decide +kernel, by decide⟩
theorem gy_X6_track : GY yX6_track cX6_track 3 ((some FieldType.int)) 2 := ⟨tw_6_42, tw_1_5, ⟨by decide +kernel, by decide +kernel⟩, by decide +kernel, by decide⟩
theorem gy_X6_onStage : GY yX6_onStage cX6_onStage 4 ((some FieldType.int)) 1 := ⟨tw_6_50, tw_1_5, ⟨by decide +kernel, by decide +kernel⟩, by decide +kernel, by decide⟩
theorem gy_X6_areOnOneTrack : GY yX6_areOnOneTrack cX6_areOnOneTrack 4 ((some FieldType.boolean)) 3 := ⟨tw_6_62, tw_1_5, ⟨by decide +kernel, by decide +kernel⟩, by decide +kernel, by decide⟩
theorem gy_X6_firstClash : GY yX6_firstClash cX6_firstClash 4 ((some FieldType.int)) 2 := ⟨tw_6_58, tw_1_5, ⟨by decide +kernel, by decide +kernel⟩, by decide +kernel, by decide⟩
theorem gy_X6_clash : GY yX6_clash cX6_clash 3 ((some FieldType.int)) 2 := ⟨tw_6_54, tw_1_5, ⟨by decide +kernel, by decide +kernel⟩, by decide +kernel, by decide⟩
theorem gy_X6_allClashes : GY yX6_allClashes cX6_allClashes 4 ((some FieldType.int)) 0 := ⟨tw_6_70, tw_1_5, ⟨by decide +kernel, by decide +kernel⟩, by decide +kernel, by decide⟩
theorem gy_X6_clashes : GY yX6_clashes cX6_clashes 1 ((some FieldType.int)) 0 := ⟨tw_6_66, tw_1_5, ⟨by decide +kernel, by decide +kernel⟩, by decide +kernel, by decide⟩
theorem gy_X6_beats : GY yX6_beats cX6_beats 4 ((some FieldType.int)) 1 := ⟨tw_6_74, tw_1_5, ⟨by decide +kernel, by decide +kernel⟩, by decide +kernel, by decide⟩
theorem gy_X6_stays : GY yX6_stays cX6_stays 2 ((some FieldType.int)) 1 := ⟨tw_6_78, tw_1_5, ⟨by decide +kernel, by decide +kernel⟩, by decide +kernel, by decide⟩
theorem gy_X6_stayTold : GY yX6_stayTold cX6_stayTold 5 ((some FieldType.int)) 3 := ⟨tw_6_86, tw_1_5, ⟨by decide +kernel, by decide +kernel⟩, by decide +kernel, by decide⟩
theorem gy_X6_stay : GY yX6_stay cX6_stay 4 ((some FieldType.int)) 3 := ⟨tw_6_82, tw_1_5, ⟨by decide +kernel, by decide +kernel⟩, by decide +kernel, by decide⟩
theorem gy_X6_uncast : GY yX6_uncast cX6_uncast 4 ((some FieldType.int)) 0 := ⟨tw_6_90, tw_1_5, ⟨by decide +kernel, by decide +kernel⟩, by decide +kernel, by decide⟩
theorem gy_X6_handsOf : GY yX6_handsOf cX6_handsOf 5 ((some FieldType.int)) 2 := ⟨tw_6_102, tw_1_5, ⟨by decide +kernel, by decide +kernel⟩, by decide +kernel, by decide⟩
theorem gy_X6_hands : GY yX6_hands cX6_hands 3 ((some FieldType.int)) 2 := ⟨tw_6_94, tw_1_5, ⟨by decide +kernel, by decide +kernel⟩, by decide +kernel, by decide⟩
theorem gy_X6_loadOf : GY yX6_loadOf cX6_loadOf 4 ((some FieldType.int)) 1 := ⟨tw_6_110, tw_1_5, ⟨by decide +kernel, by decide +kernel⟩, by decide +kernel, by decide⟩
theorem gy_X6_load : GY yX6_load cX6_load 2 ((some FieldType.int)) 1 := ⟨tw_6_106, tw_1_5, ⟨by decide +kernel, by decide +kernel⟩, by decide +kernel, by decide⟩
theorem gy_X6_note : GY yX6_note cX6_note 3 ((some FieldType.int)) 2 := ⟨tw_6_114, tw_1_5, ⟨by decide +kernel, by decide +kernel⟩, by decide +kernel, by decide⟩
theorem gy_X6_mean : GY yX6_mean cX6_mean 2 ((some FieldType.double)) 1 := ⟨tw_6_118, tw_1_5, ⟨by decide +kernel, by decide +kernel⟩, by decide +kernel, by decide⟩
theorem gy_X6_worst : GY yX6_worst cX6_worst 3 ((some FieldType.int)) 0 := ⟨tw_6_122, tw_1_5, ⟨by decide +kernel, by decide +kernel⟩, by decide +kernel, by decide⟩
theorem gy_X6_digest : GY yX6_digest cX6_digest 6 ((some FieldType.long)) 0 := ⟨tw_6_126, tw_1_5, ⟨by decide +kernel, by decide +kernel⟩, by decide +kernel, by decide⟩
theorem gy_J6_signum_0f7a4 : GY yJ6_signum_0f7a4 cJ6_signum_0f7a4 1 ((some FieldType.int)) 1 := ⟨tw_6_22, tw_1_27, ⟨by decide +kernel, by decide +kernel⟩, by decide +kernel, by decide⟩
theorem gy_Jxa1e45_init_da8c8 : GY yJxa1e45_init_da8c8 cJxa1e45_init_da8c8 1 ((none : Option FieldType)) 0 := ⟨tw_1_48, tw_1_2, ⟨by decide +kernel, by decide +kernel⟩, by decide +kernel, by decide⟩
theorem gy_Jxc12de_init_da8c8 : GY yJxc12de_init_da8c8 cJxc12de_init_da8c8 1 ((none : Option FieldType)) 0 := ⟨tw_1_45, tw_1_3, ⟨by decide +kernel, by decide +kernel⟩, by decide +kernel, by decide⟩
theorem gy_Jx4a65c_init_da8c8 : GY yJx4a65c_init_da8c8 cJx4a65c_init_da8c8 1 ((none : Option FieldType)) 0 := ⟨tw_1_42, tw_1_4, ⟨by decide +kernel, by decide +kernel⟩, by decide +kernel, by decide⟩
theorem gy_Jx4a65c_grow_92f84 : GY yJx4a65c_grow_92f84 cJx4a65c_grow_92f84 4 ((some (FieldType.array (FieldType.object "java/lang/Object")))) 1 := ⟨tw_3_19, tw_1_4, ⟨by decide +kernel, by decide +kernel⟩, by decide +kernel, by decide⟩
theorem gy_Jx4a65c_grow_d5877 : GY yJx4a65c_grow_d5877 cJx4a65c_grow_d5877 1 ((some (FieldType.array (FieldType.object "java/lang/Object")))) 0 := ⟨tw_3_15, tw_1_4, ⟨by decide +kernel, by decide +kernel⟩, by decide +kernel, by decide⟩
theorem gy_Jx4a65c_size_8abf5 : GY yJx4a65c_size_8abf5 cJx4a65c_size_8abf5 1 ((some FieldType.int)) 0 := ⟨tw_1_100, tw_1_4, ⟨by decide +kernel, by decide +kernel⟩, by decide +kernel, by decide⟩
theorem gy_Jx4a65c_isEmpty_aae02 : GY yJx4a65c_isEmpty_aae02 cJx4a65c_isEmpty_aae02 1 ((some FieldType.boolean)) 0 := ⟨tw_4_177, tw_1_4, ⟨by decide +kernel, by decide +kernel⟩, by decide +kernel, by decide⟩
theorem gy_Jx4a65c_elementData_915e3 : GY yJx4a65c_elementData_915e3 cJx4a65c_elementData_915e3 2 ((some (FieldType.object "java/lang/Object"))) 1 := ⟨tw_1_114, tw_1_4, ⟨by decide +kernel, by decide +kernel⟩, by decide +kernel, by decide⟩
theorem gy_Jx4a65c_get_915e3 : GY yJx4a65c_get_915e3 cJx4a65c_get_915e3 2 ((some (FieldType.object "java/lang/Object"))) 1 := ⟨tw_1_104, tw_1_4, ⟨by decide +kernel, by decide +kernel⟩, by decide +kernel, by decide⟩
theorem gy_Jx4a65c_add_72be8 : GY yJx4a65c_add_72be8 cJx4a65c_add_72be8 4 ((none : Option FieldType)) 3 := ⟨tw_3_198, tw_1_4, ⟨by decide +kernel, by decide +kernel⟩, by decide +kernel, by decide⟩
theorem gy_Jx4a65c_add_9ea2d : GY yJx4a65c_add_9ea2d cJx4a65c_add_9ea2d 2 ((some FieldType.boolean)) 1 := ⟨tw_3_194, tw_1_4, ⟨by decide +kernel, by decide +kernel⟩, by decide +kernel, by decide⟩
theorem gy_Jx4a65c_add_7a177 : GY yJx4a65c_add_7a177 cJx4a65c_add_7a177 5 ((none : Option FieldType)) 2 := ⟨tw_1_157, tw_1_4, ⟨by decide +kernel, by decide +kernel⟩, by decide +kernel, by decide⟩
theorem gy_Jx4a65c_remove_915e3 : GY yJx4a65c_remove_915e3 cJx4a65c_remove_915e3 4 ((some (FieldType.object "java/lang/Object"))) 1 := ⟨tw_4_120, tw_1_4, ⟨by decide +kernel, by decide +kernel⟩, by decide +kernel, by decide⟩
theorem gy_Jx4a65c_fastRemove_b59b0 : GY yJx4a65c_fastRemove_b59b0 cJx4a65c_fastRemove_b59b0 4 ((none : Option FieldType)) 2 := ⟨tw_4_124, tw_1_4, ⟨by decide +kernel, by decide +kernel⟩, by decide +kernel, by decide⟩
theorem gy_Jx4a65c_clear_da8c8 : GY yJx4a65c_clear_da8c8 cJx4a65c_clear_da8c8 4 ((none : Option FieldType)) 0 := ⟨tw_1_148, tw_1_4, ⟨by decide +kernel, by decide +kernel⟩, by decide +kernel, by decide⟩
theorem gy_Jx4a65c_rangeCheckForAdd_d00df : GY yJx4a65c_rangeCheckForAdd_d00df cJx4a65c_rangeCheckForAdd_d00df 2 ((none : Option FieldType)) 1 := ⟨tw_1_161, tw_1_4, ⟨by decide +kernel, by decide +kernel⟩, by decide +kernel, by decide⟩
theorem gy_J7_fill_53178 : GY yJ7_fill_53178 cJ7_fill_53178 4 ((none : Option FieldType)) 2 := ⟨tw_1_140, tw_1_12, ⟨by decide +kernel, by decide +kernel⟩, by decide +kernel, by decide⟩
theorem gy_J7_copyOf_1904c : GY yJ7_copyOf_1904c cJ7_copyOf_1904c 2 ((some (FieldType.array (FieldType.object "java/lang/Object")))) 2 := ⟨tw_3_23, tw_1_12, ⟨by decide +kernel, by decide +kernel⟩, by decide +kernel, by decide⟩
theorem gy_J7_copyOf_6403c : GY yJ7_copyOf_6403c cJ7_copyOf_6403c 4 ((some (FieldType.array (FieldType.object "java/lang/Object")))) 3 := ⟨tw_3_43, tw_1_12, ⟨by decide +kernel, by decide +kernel⟩, by decide +kernel, by decide⟩
theorem gy_J15_checkIndex_7cf53 : GY yJ15_checkIndex_7cf53 cJ15_checkIndex_7cf53 2 ((some FieldType.int)) 2 := ⟨tw_1_107, tw_1_18, ⟨by decide +kernel, by decide +kernel⟩, by decide +kernel, by decide⟩
theorem gy_J8_newLength_cabcc : GY yJ8_newLength_cabcc cJ8_newLength_cabcc 4 ((some FieldType.int)) 3 := ⟨tw_2_21, tw_1_13, ⟨by decide +kernel, by decide +kernel⟩, by decide +kernel, by decide⟩
theorem gy_J3_checkIndex_8e157 : GY yJ3_checkIndex_8e157 cJ3_checkIndex_8e157 3 ((some FieldType.int)) 3 := ⟨tw_1_110, tw_1_19, ⟨by decide +kernel, by decide +kernel⟩, by decide +kernel, by decide⟩
end
section
/-! ===== more rows; frames; lists; the JDK's methods ===== -/
section GMore
variable {Γ : GBase} {X : Cx} {cc : ByteArray} {nL : Nat} {own : String} {lvl mc ms : Nat} {S : PS} {k n pc : Nat} {loc : List (Nat × Value)} {st : List Value}
theorem g_ineg (C : GC Γ X cc nL own lvl mc ms) {x : Int32} (d : decode cc pc = .ok (.ineg, 1)) (kk : GW Γ X S k n (pc + 1) loc (.int (-x) :: st)) : GW Γ X S k n pc loc (.int x :: st) := fun H locs ls hP hD hS hl => lv_ineg C.hx C.hb d (by simpa using kk H locs ls hP hD hS hl)
theorem g_iushr (C : GC Γ X cc nL own lvl mc ms) {x y : Int32} (d : decode cc pc = .ok (.iushr, 1)) (kk : GW Γ X S k n (pc + 1) loc (.int ((x.toUInt32 >>> (y.toUInt32 &&& Int32.toUInt32 31)).toInt32) :: st)) : GW Γ X S k n pc loc (.int y :: .int x :: st) := fun H locs ls hP hD hS hl => lv_iushr C.hx C.hb d rfl (kk H locs ls hP hD hS hl)
theorem g_ldc (C : GC Γ X cc nL own lvl mc ms) {index : Nat} {v : Int32} (w : Cond.constant own index v ∈ lw_tbl) (d : decode cc pc = .ok (.ldc index, 2)) (kk : GW Γ X S k n (pc + 2) loc (.int v :: st)) : GW Γ X S k n pc loc st := fun H locs ls hP hD hS hl => lv_ldc C.hx C.hb C.hown (C.tw w rfl) d (kk H locs ls hP hD hS hl)
theorem g_min (C : GC Γ X cc nL own lvl mc ms) {index : Nat} {x y : Int32} (w : Cond.methodLink own index Lib.Math.min.name ∈ lw_tbl) (w2 : Cond.static Lib.Math.min.name ∈ lw_tbl) (w3 : Cond.code Lib.Math.min.name Lib.Math.min.code 2 (some .int) ∈ lw_tbl) (w4 : Cond.initialized "java/lang/Math" ∈ lw_tbl) (hr : (st.map fun v => v.category).sum ≤ 300) (hk : k ≤ mc) (hn : n ≤ ms) (d : decode cc pc = .ok (.invokestatic index, 3)) (q : GW Γ X S k n (pc + 3) loc (.int (if y < x then y else x) :: st)) : GW Γ X S k n pc loc (.int y :: .int x :: st) := fun H locs ls hP hD hS hl =>
  va_mmin C.hx C.hb hl.1.symm C.hown (C.tw w rfl) (C.tw w2 rfl) (C.tw w4 rfl) (C.tw w3 rfl) (by have := C.rf; omega) (by have := C.rl; omega) (by rw [C.rc]; exact hk) (by rw [C.rs]; exact hn) d (q H locs ls hP hD hS hl)
theorem g_recvQ (C : GC Γ X cc nL own lvl mc ms) {H : Heap} (hP : va_P (bD Γ) gcl (pw (bC Γ) S) H) {a : Nat} (ha : al S a 12) : ∃ cell : Cell, H[a]? = some cell ∧ cell.vm.isStatics = false ∧ X.2.2.2.1.vm.findClass "[Ljava/lang/Object;" = some cell.cls := by
  obtain ⟨q0, hq⟩ := pw_get (bC Γ) ha.1
  rw [PFo_Q (bC Γ) ha] at hq
  exact ⟨_, hP q0 _ hq, rfl, va_nmO (C.hK.2 4 _ rfl).2 (by decide +kernel)⟩
theorem g_getClassQ (C : GC Γ X cc nL own lvl mc ms) {a mi index : Nat} (hM : va_Mi "[Ljava/lang/Object;" mi (bS Γ)) (ha : al S a 12) (w : Cond.methodLink own index ⟨"java/lang/Object", "getClass", "()Ljava/lang/Class;"⟩ ∈ lw_tbl) (hr : (st.map fun v => v.category).sum ≤ 300) (d : decode cc pc = .ok (.invokevirtual index, 3)) (q : GW Γ X S k n (pc + 3) loc (.ref mi :: st)) : GW Γ X S k n pc loc (.ref a :: st) := fun H locs ls hP hD hS hl =>
  va_getC C.hx C.hb hl.1.symm C.hown (C.tw w rfl) (C.tw2 tw_6_156 rfl) (C.tw tw_6_155 rfl) (C.tw tw_3_25 rfl) (C.tw tw_3_40 rfl) (va_Mi.moved C.hW.alike hM) (g_recvQ C hP ha) (by have := C.rf; omega) (by have := C.rl; omega) d (q H locs ls hP hD hS hl)
theorem g_ldcM (C : GC Γ X cc nL own lvl mc ms) {mi index : Nat} (hM : va_Mi "[Ljava/lang/Object;" mi (bS Γ)) (w : Cond.classLink own index "[Ljava/lang/Object;" ∈ lw_tbl) (d : decode cc pc = .ok (.ldc index, 2)) (q : GW Γ X S k n (pc + 2) loc (.ref mi :: st)) : GW Γ X S k n pc loc st := fun H locs ls hP hD hS hl =>
  va_ldcM C.hx C.hb C.hown (C.tw w rfl) (va_Mi.moved C.hW.alike hM) d (q H locs ls hP hD hS hl)
theorem g_acmp_ne (C : GC Γ X cc nL own lvl mc ms) {x y : Nat} {off : Int} {tgt : Nat} (d : decode cc pc = .ok (.if_acmp .ne off, 3)) (ht : (pc : Int) + off = (tgt : Int)) (kt : ¬ x = y → GW Γ X S k n tgt loc st) (kf : x = y → GW Γ X S k n (pc + 3) loc st) : GW Γ X S k n pc loc (.ref y :: .ref x :: st) := fun H locs ls hP hD hS hl => lv_acmp_ne (rx := some x) (ry := some y) C.hx C.hb d ht (fun h => kt (fun q => h (congrArg some q)) H locs ls hP hD hS hl) (fun h => kf (Option.some.inj h) H locs ls hP hD hS hl)
end GMore
/-! frames: mo f b: field f of b may have changed; ma o b: the row b, owned by o, may have changed -/
def Fr (S S' : PS) (mo : Nat → Nat → Prop) (ma : Nat → Nat → Prop) : Prop := ∀ b, b ∈ pL S → b ∈ pL S' ∧ pK S' b = pK S b ∧ pN S' b = pN S b ∧ pW S' b = pW S b ∧ (∀ f, ¬ mo f b → pI S' f b = pI S f b ∧ pP S' f b = pP S f b) ∧ (¬ ma (pW S b) b → pR S' b = pR S b ∧ pRL S' b = pRL S b ∧ pRD S' b = pRD S b ∧ pRP S' b = pRP S b)
theorem Fr.rf {S : PS} {mo ma : Nat → Nat → Prop} : Fr S S mo ma := fun b h => ⟨h, rfl, rfl, rfl, fun _ _ => ⟨rfl, rfl⟩, fun _ => ⟨rfl, rfl, rfl, rfl⟩⟩
theorem Fr.tr {S S1 S2 : PS} {mo ma mo' ma' mo2 ma2 : Nat → Nat → Prop} (h1 : Fr S S1 mo ma) (h2 : Fr S1 S2 mo' ma') (hm : ∀ f b, b ∈ pL S → mo f b ∨ mo' f b → mo2 f b) (hr : ∀ o b, b ∈ pL S → ma o b ∨ ma' o b → ma2 o b) : Fr S S2 mo2 ma2 := by
  intro b hb
  obtain ⟨a1, a2, a3, a4, a5, a6⟩ := h1 b hb
  obtain ⟨b1, b2, b3, b4, b5, b6⟩ := h2 b a1
  refine ⟨b1, b2.trans a2, b3.trans a3, b4.trans a4, fun f hf => ?_, fun hf => ?_⟩
  · obtain ⟨c1, c2⟩ := a5 f (fun q => hf (hm f b hb (Or.inl q)))
    obtain ⟨d1, d2⟩ := b5 f (fun q => hf (hm f b hb (Or.inr q)))
    exact ⟨d1.trans c1, d2.trans c2⟩
  · obtain ⟨c1, c2, c3, c4⟩ := a6 (fun q => hf (hr _ b hb (Or.inl q)))
    obtain ⟨d1, d2, d3, d4⟩ := b6 (fun q => hf (hr _ b hb (Or.inr (a4 ▸ q))))
    exact ⟨d1.trans c1, d2.trans c2, d3.trans c3, d4.trans c4⟩
theorem Fr.mono {S S1 : PS} {mo ma mo2 ma2 : Nat → Nat → Prop} (h1 : Fr S S1 mo ma) (hm : ∀ f b, b ∈ pL S → mo f b → mo2 f b) (hr : ∀ o b, b ∈ pL S → ma o b → ma2 o b) : Fr S S1 mo2 ma2 := by
  intro b hb
  obtain ⟨a1, a2, a3, a4, a5, a6⟩ := h1 b hb
  exact ⟨a1, a2, a3, a4, fun f hf => a5 f (fun q => hf (hm f b hb q)), fun hf => a6 (fun q => hf (hr _ b hb q))⟩
theorem mem_ne {L : List Nat} {a b : Nat} (h : b ∈ L) (ha : a ∉ L) : b ≠ a := fun q => ha (by rw [← q]; exact h)
theorem al.fr {S S' : PS} {mo ma : Nat → Nat → Prop} {b k : Nat} (h : al S b k) (hf : Fr S S' mo ma) : al S' b k := ⟨(hf b h.1).1, (hf b h.1).2.1.trans h.2⟩
theorem al.nO {S : PS} {a k b j : Nat} (h : al S b j) (ha : a ∉ pL S) : al (nO S a k) b j := ⟨List.mem_append_left _ h.1, (va_up_ne _ _ (mem_ne h.1 ha)).trans h.2⟩
theorem al.nA {S : PS} {a k m b j : Nat} (h : al S b j) (ha : a ∉ pL S) : al (nA S a k m) b j := ⟨List.mem_append_left _ h.1, (va_up_ne _ _ (mem_ne h.1 ha)).trans h.2⟩
theorem al_nO {S : PS} {a k : Nat} : al (nO S a k) a k := ⟨List.mem_append_right _ List.mem_cons_self, va_up_self _ _ _⟩
theorem al_nA {S : PS} {a k m : Nat} : al (nA S a k m) a k := ⟨List.mem_append_right _ List.mem_cons_self, va_up_self _ _ _⟩
theorem al.ne {S : PS} {b k a : Nat} (h : al S b k) (ha : a ∉ pL S) : b ≠ a := mem_ne h.1 ha
theorem al.kne {S : PS} {a b k j : Nat} (h : al S a k) (h2 : al S b j) (hk : k ≠ j) : a ≠ b := fun q => hk (by rw [← h.2, ← h2.2, q])
theorem fr_uI {S : PS} {f a : Nat} {v : Int32} {mo ma : Nat → Nat → Prop} (h : mo f a) : Fr S (uI S f a v) mo ma := by
  intro b hb
  refine ⟨hb, rfl, rfl, rfl, fun g hg => ⟨?_, rfl⟩, fun _ => ⟨rfl, rfl, rfl, rfl⟩⟩
  simp only [pI, uI]
  split
  · rename_i h1
    split
    · rename_i h2
      subst h1; subst h2
      exact absurd h hg
    · rfl
  · rfl
theorem fr_uP {S : PS} {f a : Nat} {v : Option Nat} {mo ma : Nat → Nat → Prop} (h : mo f a) : Fr S (uP S f a v) mo ma := by
  intro b hb
  refine ⟨hb, rfl, rfl, rfl, fun g hg => ⟨rfl, ?_⟩, fun _ => ⟨rfl, rfl, rfl, rfl⟩⟩
  simp only [pP, uP]
  split
  · rename_i h1
    split
    · rename_i h2
      subst h1; subst h2
      exact absurd h hg
    · rfl
  · rfl
theorem fr_uR {S : PS} {a : Nat} {r : Nat → Int32} {mo ma : Nat → Nat → Prop} (h : ma (pW S a) a) : Fr S (uR S a r) mo ma := by
  intro b hb
  refine ⟨hb, rfl, rfl, rfl, fun g hg => ⟨rfl, rfl⟩, fun hn => ?_⟩
  have hba : b ≠ a := fun q => hn (q ▸ h)
  exact ⟨va_up_ne _ _ hba, rfl, rfl, rfl⟩
theorem fr_uRP {S : PS} {a : Nat} {r : Nat → Option Nat} {mo ma : Nat → Nat → Prop} (h : ma (pW S a) a) : Fr S (uRP S a r) mo ma := by
  intro b hb
  refine ⟨hb, rfl, rfl, rfl, fun g hg => ⟨rfl, rfl⟩, fun hn => ?_⟩
  have hba : b ≠ a := fun q => hn (q ▸ h)
  exact ⟨rfl, rfl, rfl, va_up_ne _ _ hba⟩
theorem fr_new {S : PS} {a k : Nat} {mo ma : Nat → Nat → Prop} (ha : a ∉ pL S) : Fr S (nO S a k) mo ma := by
  intro b hb
  have hba : b ≠ a := mem_ne hb ha
  refine ⟨List.mem_append_left _ hb, va_up_ne _ _ hba, rfl, rfl, fun g _ => ⟨?_, ?_⟩, fun _ => ⟨rfl, rfl, rfl, rfl⟩⟩
  · simp [pI, nO, hba]
  · simp [pP, nO, hba]
theorem fr_newA {S : PS} {a k m : Nat} {mo ma : Nat → Nat → Prop} (ha : a ∉ pL S) : Fr S (nA S a k m) mo ma := by
  intro b hb
  have hba : b ≠ a := mem_ne hb ha
  exact ⟨List.mem_append_left _ hb, va_up_ne _ _ hba, va_up_ne _ _ hba, rfl, fun g _ => ⟨rfl, rfl⟩, fun _ => ⟨va_up_ne _ _ hba, va_up_ne _ _ hba, va_up_ne _ _ hba, va_up_ne _ _ hba⟩⟩
theorem fr_uW {S : PS} {a o : Nat} {mo ma : Nat → Nat → Prop} (ha : a ∉ pL S) : Fr S (uW S a o) mo ma := by
  intro b hb
  have hba : b ≠ a := mem_ne hb ha
  exact ⟨hb, rfl, rfl, va_up_ne _ _ hba, fun g _ => ⟨rfl, rfl⟩, fun _ => ⟨rfl, rfl, rfl, rfl⟩⟩
theorem uRP_self (S : PS) (a : Nat) : uRP S a (pRP S a) = S := by
  obtain ⟨s1, s2, s3, s4, s5, s6, s7, s8, s9, s10⟩ := S
  simp only [uRP, pRP, Prod.mk.injEq, true_and, and_true]
  funext b
  by_cases hb : b = a
  · subst hb; exact va_up_self _ _ _
  · exact va_up_ne _ _ hb
/-- a list object, and what it holds -/
def isL (Γ : GBase) (S : PS) (a : Nat) (xs : List Nat) : Prop := al S a 7 ∧ pI S 226 a = nI xs.length ∧ ∃ E, pP S 225 a = some E ∧ ((E = bE Γ ∧ xs = []) ∨ (al S E 12 ∧ pW S E = a ∧ 0 < pN S E ∧ xs.length ≤ pN S E ∧ pN S E ≤ 100 ∧ ∀ j, j < xs.length → pRP S E j = xs[j]?))
theorem isL.len {Γ : GBase} {S : PS} {a : Nat} {xs : List Nat} (h : isL Γ S a xs) : xs.length ≤ 100 := by
  obtain ⟨-, -, E, -, h | h⟩ := h
  · rw [h.2]; simp
  · omega
theorem isL.fr {Γ : GBase} {S S' : PS} {mo ma : Nat → Nat → Prop} {a : Nat} {xs : List Nat} (h : isL Γ S a xs) (hf : Fr S S' mo ma) (h1 : ¬ mo 225 a) (h2 : ¬ mo 226 a) (h3 : ∀ E, al S E 12 → pW S E = a → ¬ ma a E) : isL Γ S' a xs := by
  obtain ⟨ha, hs, E, hE, hc⟩ := h
  obtain ⟨f1, f2, f3, f4, f5, f6⟩ := hf a ha.1
  refine ⟨ha.fr hf, (f5 226 h2).1.trans hs, E, (f5 225 h1).2.trans hE, ?_⟩
  rcases hc with hc | ⟨c1, c2, c3, c4, c5, c6⟩
  · exact Or.inl hc
  · obtain ⟨g1, g2, g3, g4, g5, g6⟩ := hf E c1.1
    refine Or.inr ⟨c1.fr hf, g4.trans c2, by rw [g3]; exact c3, by rw [g3]; exact c4, by rw [g3]; exact c5, fun j hj => ?_⟩
    rw [(g6 (c2 ▸ h3 E c1 c2)).2.2.2]
    exact c6 j hj
/-- what a call on the list a may change -/
def moL (a : Nat) : Nat → Nat → Prop := fun _ b => b = a
def maL (a : Nat) : Nat → Nat → Prop := fun o _ => o = a
/-! the methods -/
set_option maxHeartbeats 1000000 in
theorem m_ACinit {Γ : GBase} (F : FB Γ) (S : PS) (a : Nat) : GMet Γ yJxa1e45_init_da8c8 cJxa1e45_init_da8c8 1 ((none : Option FieldType)) 0 0 0 [.ref a] S (fun v S' => v = none ∧ S = S') noX := by
  refine GMet.of (loc0 := [(0, .ref a)]) F (by decide +kernel) rfl (Nat.le_of_ble_eq_true rfl) (fun X C R Tb nm => ?_)
  refine g_aload_n C dJxa1e45_init_da8c8_0 rfl rfl ?_
  refine g_objInit C tw_1_49 tw_1_36 tw_1_37 dJxa1e45_init_da8c8_1 (by simp [Value.category]) ?_
  refine g_vret C R (by omega) (by omega) dJxa1e45_init_da8c8_4 ?_
  exact ⟨rfl, rfl⟩
theorem m_ALinit0 {Γ : GBase} (F : FB Γ) (S : PS) (a : Nat) (ha : al S a 7) : GMet Γ yJxc12de_init_da8c8 cJxc12de_init_da8c8 1 ((none : Option FieldType)) 1 0 0 [.ref a] S (fun v S' => v = none ∧ S' = uI S 224 a 0) noX := by
  refine GMet.of (loc0 := [(0, .ref a)]) F (by decide +kernel) rfl (Nat.le_of_ble_eq_true rfl) (fun X C R Tb nm => ?_)
  refine g_aload_n C dJxc12de_init_da8c8_0 rfl rfl ?_
  refine g_callI C gy_Jxa1e45_init_da8c8 tw_1_46 tw_1_47 rfl rfl (by decide) (m_ACinit F S a) rfl rfl (Nat.le_of_ble_eq_true rfl) (by omega) (by omega) dJxc12de_init_da8c8_1 ?_
  rintro _ _ ⟨rfl, rfl⟩
  refine g_aload_n C dJxc12de_init_da8c8_4 rfl rfl ?_
  refine g_iconst C dJxc12de_init_da8c8_5 (v := 0) (by decide) ?_
  refine g_putI C kd_7 (i := 0) (v := 0) (ref := "java/util/AbstractList") rfl tw_1_54 (Or.inl rfl) (Or.inl rfl) ha rfl rfl dJxc12de_init_da8c8_6 ?_
  refine g_vret C R (by omega) (by omega) dJxc12de_init_da8c8_9 ?_
  exact ⟨rfl, rfl⟩
theorem m_ALinit {Γ : GBase} (F : FB Γ) (S : PS) (a : Nat) (ha : al S a 7) : GMet Γ yJx4a65c_init_da8c8 cJx4a65c_init_da8c8 1 ((none : Option FieldType)) 2 0 0 [.ref a] S (fun v S' => v = none ∧ S' = uP (uI S 224 a 0) 225 a (some (bE Γ))) noX := by
  refine GMet.of (loc0 := [(0, .ref a)]) F (by decide +kernel) rfl (Nat.le_of_ble_eq_true rfl) (fun X C R Tb nm => ?_)
  refine g_aload_n C dJx4a65c_init_da8c8_0 rfl rfl ?_
  refine g_callI C gy_Jxc12de_init_da8c8 tw_1_43 tw_1_44 rfl rfl (by decide) (m_ALinit0 F S a ha) rfl rfl (Nat.le_of_ble_eq_true rfl) (by omega) (by omega) dJx4a65c_init_da8c8_1 ?_
  rintro _ _ ⟨rfl, rfl⟩
  refine g_aload_n C dJx4a65c_init_da8c8_4 rfl rfl ?_
  refine g_getE0 C tw_1_50 dJx4a65c_init_da8c8_5 ?_
  refine pu_AL_elementData C tw_1_52 (by exact ha) dJx4a65c_init_da8c8_8 ?_
  refine g_vret C R (by omega) (by omega) dJx4a65c_init_da8c8_11 ?_
  exact ⟨rfl, rfl⟩
theorem m_size {Γ : GBase} (F : FB Γ) (S : PS) (a : Nat) (xs : List Nat) (hL : isL Γ S a xs) : GMet Γ yJx4a65c_size_8abf5 cJx4a65c_size_8abf5 1 ((some FieldType.int)) 0 0 0 [.ref a] S (fun v S' => v = some (.int (nI xs.length)) ∧ S = S') noX := by
  refine GMet.of (loc0 := [(0, .ref a)]) F (by decide +kernel) rfl (Nat.le_of_ble_eq_true rfl) (fun X C R Tb nm => ?_)
  refine g_aload_n C dJx4a65c_size_8abf5_0 rfl rfl ?_
  refine ge_AL_size C tw_1_53 (by exact hL.1) (by exact hL.2.1) dJx4a65c_size_8abf5_1 ?_
  refine g_iret C R rfl (by omega) (by omega) dJx4a65c_size_8abf5_4 ?_
  exact ⟨rfl, rfl⟩
theorem m_isEmpty {Γ : GBase} (F : FB Γ) (S : PS) (a : Nat) (xs : List Nat) (hL : isL Γ S a xs) : GMet Γ yJx4a65c_isEmpty_aae02 cJx4a65c_isEmpty_aae02 1 ((some FieldType.boolean)) 0 0 0 [.ref a] S (fun v S' => v = some (.int (if xs.length = 0 then 1 else 0)) ∧ S = S') noX := by
  have hlen := hL.len
  refine GMet.of (loc0 := [(0, .ref a)]) F (by decide +kernel) rfl (Nat.le_of_ble_eq_true rfl) (fun X C R Tb nm => ?_)
  refine g_aload_n C dJx4a65c_isEmpty_aae02_0 rfl rfl ?_
  refine ge_AL_size C tw_1_53 (by exact hL.1) (by exact hL.2.1) dJx4a65c_isEmpty_aae02_1 ?_
  refine g_if_ne C dJx4a65c_isEmpty_aae02_4 (tgt := 11) (by decide) (fun c => ?_) (fun c => ?_)
  · refine g_iconst C dJx4a65c_isEmpty_aae02_11 (v := 0) (by decide) ?_
    refine g_iret C R rfl (by omega) (by omega) dJx4a65c_isEmpty_aae02_12 ?_
    refine ⟨?_, rfl⟩
    have : ¬ xs.length = 0 := fun q => c (by rw [q]; rfl)
    rw [if_neg this]
  · refine g_iconst C dJx4a65c_isEmpty_aae02_7 (v := 1) (by decide) ?_
    refine g_goto C dJx4a65c_isEmpty_aae02_8 (tgt := 12) (by decide) ?_
    refine g_iret C R rfl (by omega) (by omega) dJx4a65c_isEmpty_aae02_12 ?_
    refine ⟨?_, rfl⟩
    have : xs.length = 0 := by
      rcases Nat.eq_zero_or_pos xs.length with q | q
      · exact q
      · exact absurd c (nI_ne0 q (by omega))
    rw [if_pos this]
theorem m_elementData {Γ : GBase} (F : FB Γ) (S : PS) (a : Nat) (xs : List Nat) (hL : isL Γ S a xs) (j v : Nat) (hj : xs[j]? = some v) : GMet Γ yJx4a65c_elementData_915e3 cJx4a65c_elementData_915e3 2 ((some (FieldType.object "java/lang/Object"))) 0 0 0 [.ref a, .int (nI j)] S (fun r S' => r = some (.ref v) ∧ S = S') noX := by
  have hlen := hL.len
  have hjl : j < xs.length := (List.getElem?_eq_some_iff.mp hj).1
  obtain ⟨ha, hs, E, hE, hc | ⟨c1, c2, c3, c4, c5, c6⟩⟩ := hL
  · exfalso
    rw [hc.2] at hjl
    simp at hjl
  · refine GMet.of (loc0 := [(0, .ref a), (1, .int (nI j))]) F (by decide +kernel) rfl (Nat.le_of_ble_eq_true rfl) (fun X C R Tb nm => ?_)
    refine g_aload_n C dJx4a65c_elementData_915e3_0 rfl rfl ?_
    refine ge_AL_elementData C tw_1_52 (by assumption) (by assumption) dJx4a65c_elementData_915e3_1 ?_
    refine g_iload_n C dJx4a65c_elementData_915e3_4 rfl rfl ?_
    refine g_ldQ C rfl c1 (by omega) (by omega) ((c6 j hjl).trans hj) dJx4a65c_elementData_915e3_5 ?_
    refine g_aret C R (Or.inl ⟨_, rfl⟩) (by omega) (by omega) dJx4a65c_elementData_915e3_6 ?_
    exact ⟨rfl, rfl⟩
theorem m_checkIndex0 {Γ : GBase} (F : FB Γ) (S : PS) (j m : Nat) (hj : j < m) (hm : m < 1000000) : GMet Γ yJ3_checkIndex_8e157 cJ3_checkIndex_8e157 3 ((some FieldType.int)) 0 0 0 [.int (nI j), .int (nI m), .null] S (fun r S' => r = some (.int (nI j)) ∧ S = S') noX := by
  refine GMet.of (loc0 := [(0, .int (nI j)), (1, .int (nI m)), (2, .null)]) F (by decide +kernel) rfl (Nat.le_of_ble_eq_true rfl) (fun X C R Tb nm => ?_)
  refine g_iload_n C dJ3_checkIndex_8e157_0 rfl rfl ?_
  refine g_if_lt C dJ3_checkIndex_8e157_1 (tgt := 9) (by decide) (fun c => ?_) (fun c => ?_)
  · exact absurd c (nI_pos (by omega))
  · refine g_iload_n C dJ3_checkIndex_8e157_4 rfl rfl ?_
    refine g_iload_n C dJ3_checkIndex_8e157_5 rfl rfl ?_
    refine g_icmp_lt C dJ3_checkIndex_8e157_6 (tgt := 16) (by decide) (fun c2 => ?_) (fun c2 => ?_)
    · refine g_iload_n C dJ3_checkIndex_8e157_16 rfl rfl ?_
      refine g_iret C R rfl (by omega) (by omega) dJ3_checkIndex_8e157_17 ?_
      exact ⟨rfl, rfl⟩
    · exact absurd (nI_lt hj (by omega)) c2
theorem m_checkIndex {Γ : GBase} (F : FB Γ) (S : PS) (j m : Nat) (hj : j < m) (hm : m < 1000000) : GMet Γ yJ15_checkIndex_7cf53 cJ15_checkIndex_7cf53 2 ((some FieldType.int)) 1 0 0 [.int (nI j), .int (nI m)] S (fun r S' => r = some (.int (nI j)) ∧ S = S') noX := by
  refine GMet.of (loc0 := [(0, .int (nI j)), (1, .int (nI m))]) F (by decide +kernel) rfl (Nat.le_of_ble_eq_true rfl) (fun X C R Tb nm => ?_)
  refine g_iload_n C dJ15_checkIndex_7cf53_0 rfl rfl ?_
  refine g_iload_n C dJ15_checkIndex_7cf53_1 rfl rfl ?_
  refine g_null C dJ15_checkIndex_7cf53_2 ?_
  refine g_callS C gy_J3_checkIndex_8e157 tw_1_108 tw_1_109 (by decide) (m_checkIndex0 F S j m hj hm) rfl rfl (Nat.le_of_ble_eq_true rfl) (by omega) (by omega) dJ15_checkIndex_7cf53_3 (fun _ _ h9 => h9.elim) ?_
  rintro _ _ ⟨rfl, rfl⟩
  refine g_iret C R rfl (by omega) (by omega) dJ15_checkIndex_7cf53_6 ?_
  exact ⟨rfl, rfl⟩
theorem m_get {Γ : GBase} (F : FB Γ) (S : PS) (a : Nat) (xs : List Nat) (hL : isL Γ S a xs) (j v : Nat) (hj : xs[j]? = some v) : GMet Γ yJx4a65c_get_915e3 cJx4a65c_get_915e3 2 ((some (FieldType.object "java/lang/Object"))) 2 0 0 [.ref a, .int (nI j)] S (fun r S' => r = some (.ref v) ∧ S = S') noX := by
  have hlen := hL.len
  have hjl : j < xs.length := (List.getElem?_eq_some_iff.mp hj).1
  refine GMet.of (loc0 := [(0, .ref a), (1, .int (nI j))]) F (by decide +kernel) rfl (Nat.le_of_ble_eq_true rfl) (fun X C R Tb nm => ?_)
  refine g_iload_n C dJx4a65c_get_915e3_0 rfl rfl ?_
  refine g_aload_n C dJx4a65c_get_915e3_1 rfl rfl ?_
  refine ge_AL_size C tw_1_53 (by exact hL.1) (by exact hL.2.1) dJx4a65c_get_915e3_2 ?_
  refine g_callS C gy_J15_checkIndex_7cf53 tw_1_105 tw_1_106 (by decide) (m_checkIndex F S j xs.length hjl (by omega)) rfl rfl (Nat.le_of_ble_eq_true rfl) (by omega) (by omega) dJx4a65c_get_915e3_5 (fun _ _ h9 => h9.elim) ?_
  rintro _ _ ⟨rfl, rfl⟩
  refine g_pop C dJx4a65c_get_915e3_8 rfl ?_
  refine g_aload_n C dJx4a65c_get_915e3_9 rfl rfl ?_
  refine g_iload_n C dJx4a65c_get_915e3_10 rfl rfl ?_
  refine g_callV C gy_Jx4a65c_elementData_915e3 tw_1_111 tw_1_112 tw_1_113 (by decide) (kk := 7) rfl rfl (by exact hL.1) (m_elementData F S a xs hL j v hj) rfl rfl (Nat.le_of_ble_eq_true rfl) (by omega) (by omega) dJx4a65c_get_915e3_11 (fun _ _ h9 => h9.elim) ?_
  rintro _ _ ⟨rfl, rfl⟩
  refine g_aret C R (Or.inl ⟨_, rfl⟩) (by omega) (by omega) dJx4a65c_get_915e3_14 ?_
  exact ⟨rfl, rfl⟩
end
section
/-! ===== the JDK's methods that make and change lists ===== -/
theorem nA_K {S : PS} {q k m b : Nat} (h : b ≠ q) : pK (nA S q k m) b = pK S b := va_up_ne _ _ h
theorem nA_N {S : PS} {q k m b : Nat} (h : b ≠ q) : pN (nA S q k m) b = pN S b := va_up_ne _ _ h
theorem nA_Nq {S : PS} {q k m : Nat} : pN (nA S q k m) q = m := va_up_self _ _ _
theorem nA_RP {S : PS} {q k m b : Nat} (h : b ≠ q) : pRP (nA S q k m) b = pRP S b := va_up_ne _ _ h
theorem nA_RPq {S : PS} {q k m : Nat} : pRP (nA S q k m) q = fun _ => none := va_up_self _ _ _
theorem uRP_q {S : PS} {q : Nat} {r : Nat → Option Nat} : pRP (uRP S q r) q = r := va_up_self _ _ _
theorem uRP_ne {S : PS} {q b : Nat} {r : Nat → Option Nat} (h : b ≠ q) : pRP (uRP S q r) b = pRP S b := va_up_ne _ _ h
theorem uW_q {S : PS} {q o : Nat} : pW (uW S q o) q = o := va_up_self _ _ _
theorem uW_ne {S : PS} {q o b : Nat} (h : b ≠ q) : pW (uW S q o) b = pW S b := va_up_ne _ _ h
theorem uP_q {S : PS} {f a : Nat} {v : Option Nat} : pP (uP S f a v) f a = v := by simp [pP, uP]
theorem uI_q {S : PS} {f a : Nat} {v : Int32} : pI (uI S f a v) f a = v := by simp [pI, uI]
theorem uI_ne {S : PS} {f a g b : Nat} {v : Int32} (h : g ≠ f ∨ b ≠ a) : pI (uI S f a v) g b = pI S g b := by
  simp only [pI, uI]
  rcases h with h | h
  · rw [if_neg h]
  · rw [if_neg h]; simp
theorem uP_ne {S : PS} {f a g b : Nat} {v : Option Nat} (h : g ≠ f ∨ b ≠ a) : pP (uP S f a v) g b = pP S g b := by
  simp only [pP, uP]
  rcases h with h | h
  · rw [if_neg h]
  · rw [if_neg h]; simp
theorem al.uI {S : PS} {f b a k : Nat} {v : Int32} (h : al S a k) : al (uI S f b v) a k := h
theorem al.uP {S : PS} {f b a k : Nat} {v : Option Nat} (h : al S a k) : al (uP S f b v) a k := h
theorem al.uR {S : PS} {b a k : Nat} {r : Nat → Int32} (h : al S a k) : al (uR S b r) a k := h
theorem al.uRP {S : PS} {b a k : Nat} {r : Nat → Option Nat} (h : al S a k) : al (uRP S b r) a k := h
theorem al.uW {S : PS} {b a k o : Nat} (h : al S a k) : al (uW S b o) a k := h
/-- put in at a place, taken out of a place -/
def insL (xs : List Nat) (j v : Nat) : List Nat := xs.take j ++ v :: xs.drop j
def remL (xs : List Nat) (j : Nat) : List Nat := xs.take j ++ xs.drop (j + 1)
theorem insL_len {xs : List Nat} {j v : Nat} (h : j ≤ xs.length) : (insL xs j v).length = xs.length + 1 := by simp [insL]; omega
theorem remL_len {xs : List Nat} {j : Nat} (h : j < xs.length) : (remL xs j).length = xs.length - 1 := by simp [remL]; omega
theorem insL_get {xs : List Nat} {j v : Nat} (h : j ≤ xs.length) (i : Nat) : (insL xs j v)[i]? = if i < j then xs[i]? else if i = j then some v else xs[i - 1]? := by
  unfold insL
  by_cases h1 : i < j
  · rw [if_pos h1, List.getElem?_append_left (by simp; omega), List.getElem?_take, if_pos h1]
  · rw [if_neg h1, List.getElem?_append_right (by simp; omega)]
    have e : (xs.take j).length = j := by simp; omega
    rw [e]
    by_cases h2 : i = j
    · rw [if_pos h2, h2]; simp
    · rw [if_neg h2]
      obtain ⟨m, rfl⟩ : ∃ m, i = j + m + 1 := ⟨i - j - 1, by omega⟩
      rw [show j + m + 1 - j = m + 1 by omega, List.getElem?_cons_succ, List.getElem?_drop]
      rfl
theorem remL_get {xs : List Nat} {j : Nat} (h : j < xs.length) (i : Nat) : (remL xs j)[i]? = if i < j then xs[i]? else xs[i + 1]? := by
  unfold remL
  have e : (xs.take j).length = j := by simp; omega
  by_cases h1 : i < j
  · rw [if_pos h1, List.getElem?_append_left (by omega), List.getElem?_take, if_pos h1]
  · rw [if_neg h1, List.getElem?_append_right (by omega), e, List.getElem?_drop]
    congr 1; omega
theorem m_newLength {Γ : GBase} (F : FB Γ) (S : PS) (x y z : Nat) (hx : x ≤ 1000) (hy : y ≤ 1000) (hz : z ≤ 1000) (h0 : 0 < x) : GMet Γ yJ8_newLength_cabcc cJ8_newLength_cabcc 4 ((some FieldType.int)) 0 0 0 [.int (nI x), .int (nI y), .int (nI z)] S (fun v S' => v = some (.int (nI (x + max y z))) ∧ S = S') noX := by
  have e : (if nI y < nI z then nI z else nI y) = nI (max y z) := by
    by_cases h : y < z
    · rw [if_pos (nI_lt h (by omega)), Nat.max_eq_right (by omega)]
    · rw [if_neg (nI_nlt (by omega) (by omega)), Nat.max_eq_left (by omega)]
  refine GMet.of (loc0 := [(0, .int (nI x)), (1, .int (nI y)), (2, .int (nI z))]) F (by decide +kernel) rfl (Nat.le_of_ble_eq_true rfl) (fun X C R Tb nm => ?_)
  refine g_iload_n C dJ8_newLength_cabcc_0 rfl rfl ?_
  refine g_iload_n C dJ8_newLength_cabcc_1 rfl rfl ?_
  refine g_iload_n C dJ8_newLength_cabcc_2 rfl rfl ?_
  refine g_max C tw_2_22 (by simp [Value.category]) (by omega) (by omega) dJ8_newLength_cabcc_3 ?_
  rw [e]
  refine g_iadd C dJ8_newLength_cabcc_6 ?_
  refine g_istore_n C dJ8_newLength_cabcc_7 rfl (by decide) rfl ?_
  refine g_iconst C dJ8_newLength_cabcc_8 (v := 0) (by decide) ?_
  refine g_iload_n C dJ8_newLength_cabcc_9 rfl rfl ?_
  rw [nI_add]
  refine g_icmp_ge C dJ8_newLength_cabcc_10 (tgt := 21) (by decide) (fun c => ?_) (fun c => ?_)
  · exact absurd c (nI_nle (by omega) (by omega))
  · refine g_iload_n C dJ8_newLength_cabcc_13 rfl rfl ?_
    refine g_ldc C (v := 2147483639) tw_2_25 dJ8_newLength_cabcc_14 ?_
    refine g_icmp_gt C dJ8_newLength_cabcc_16 (tgt := 21) (by decide) (fun c2 => ?_) (fun c2 => ?_)
    · exfalso
      rw [Int32.lt_iff_toInt_lt, nI_toInt (by omega)] at c2
      have e9 : (2147483639 : Int32).toInt = 2147483639 := by decide +kernel
      omega
    · refine g_iload_n C dJ8_newLength_cabcc_19 rfl rfl ?_
      refine g_iret C R rfl (by omega) (by omega) dJ8_newLength_cabcc_20 ?_
      exact ⟨rfl, rfl⟩
theorem m_copyOf3 {Γ : GBase} (F : FB Γ) (S : PS) (E m mi kv : Nat) (hM : va_Mi "[Ljava/lang/Object;" mi (bS Γ)) (hE : al S E 12) (h1 : pN S E ≤ m) (hm : m ≤ 100) (h8 : kv < 8) (hel : ∀ j, j < pN S E → ∀ v, pRP S E j = some v → al S v kv) : GMet Γ yJ7_copyOf_6403c cJ7_copyOf_6403c 4 ((some (FieldType.array (FieldType.object "java/lang/Object")))) 0 1 100 [.ref E, .int (nI m), .ref mi] S (fun v S' => ∃ q row, v = some (.ref q) ∧ q ∉ pL S ∧ (∀ j, j < pN S E → row j = pRP S E j) ∧ S' = uRP (nA S q 12 m) q row) noX := by
  refine GMet.of (loc0 := [(0, .ref E), (1, .int (nI m)), (2, .ref mi)]) F (by decide +kernel) rfl (Nat.le_of_ble_eq_true rfl) (fun X C R Tb nm => ?_)
  refine g_aload_n C dJ7_copyOf_6403c_0 rfl rfl ?_
  refine g_ldcM C hM tw_3_44 dJ7_copyOf_6403c_1 ?_
  refine g_acmp_ne C dJ7_copyOf_6403c_3 (tgt := 13) (by decide) (fun c => ?_) (fun c => ?_)
  · exact absurd rfl c
  · refine g_iload_n C dJ7_copyOf_6403c_6 rfl rfl ?_
    refine g_naQ C tw_3_46 rfl (by omega) (by omega) (by omega) dJ7_copyOf_6403c_7 (fun q hq => ?_)
    refine g_goto C dJ7_copyOf_6403c_10 (tgt := 24) (by decide) ?_
    have hE1 := hE.nA (k := 12) (m := m) hq
    have hEq := hE.ne hq
    refine g_astore_n C dJ7_copyOf_6403c_24 rfl (by decide) rfl ?_
    refine g_aload_n C dJ7_copyOf_6403c_25 rfl rfl ?_
    refine g_iconst C dJ7_copyOf_6403c_26 (v := 0) (by decide) ?_
    refine g_aload_n C dJ7_copyOf_6403c_27 rfl rfl ?_
    refine g_iconst C dJ7_copyOf_6403c_28 (v := 0) (by decide) ?_
    refine g_aload_n C dJ7_copyOf_6403c_29 rfl rfl ?_
    refine g_alen C (by decide) hE1 dJ7_copyOf_6403c_30 ?_
    refine g_iload_n C dJ7_copyOf_6403c_31 rfl rfl ?_
    have emin : (if nI m < nI (pN (nA S q 12 m) E) then nI m else nI (pN (nA S q 12 m) E)) = nI (pN S E) := by
      rw [nA_N hEq, if_neg (nI_nlt h1 (by omega))]
    refine g_min C tw_2_40 tw_2_41 tw_2_42 tw_1_14 (by simp [Value.category]) (by omega) (by omega) dJ7_copyOf_6403c_32 ?_
    rw [emin]
    refine g_copyQ C tw_2_43 (sp := 0) (dp := 0) (m := pN S E) (kv := kv) rfl rfl rfl hE1 al_nA (by rw [nA_N hEq]; omega) (by rw [nA_Nq]; omega) (by rw [nA_N hEq, nA_Nq]; omega) h8 (fun i hi v hv => by rw [nA_RP hEq] at hv; exact (hel _ (by omega) v hv).nA hq) (by simp [Value.category]) dJ7_copyOf_6403c_35 ?_
    refine g_aload_n C dJ7_copyOf_6403c_38 rfl rfl ?_
    refine g_aret C R (Or.inr ⟨_, rfl⟩) (by omega) (by omega) dJ7_copyOf_6403c_39 ?_
    refine ⟨q, _, rfl, hq, fun j hj => ?_, rfl⟩
    rw [pk_cpy_in (by omega) (by omega), nA_RP hEq]
    congr 1; omega
theorem m_copyOf2 {Γ : GBase} (F : FB Γ) (S : PS) (E m kv : Nat) (hE : al S E 12) (h1 : pN S E ≤ m) (hm : m ≤ 100) (h8 : kv < 8) (hel : ∀ j, j < pN S E → ∀ v, pRP S E j = some v → al S v kv) : GMet Γ yJ7_copyOf_1904c cJ7_copyOf_1904c 2 ((some (FieldType.array (FieldType.object "java/lang/Object")))) 1 1 100 [.ref E, .int (nI m)] S (fun v S' => ∃ q row, v = some (.ref q) ∧ q ∉ pL S ∧ (∀ j, j < pN S E → row j = pRP S E j) ∧ S' = uRP (nA S q 12 m) q row) noX := by
  obtain ⟨mi, hM⟩ := va_Mi.of (flat_of_before _ F.2.2.2.1 (.isRef (.mirror "[Ljava/lang/Object;")) (by decide +kernel))
  refine GMet.of (loc0 := [(0, .ref E), (1, .int (nI m))]) F (by decide +kernel) rfl (Nat.le_of_ble_eq_true rfl) (fun X C R Tb nm => ?_)
  refine g_aload_n C dJ7_copyOf_1904c_0 rfl rfl ?_
  refine g_iload_n C dJ7_copyOf_1904c_1 rfl rfl ?_
  refine g_aload_n C dJ7_copyOf_1904c_2 rfl rfl ?_
  refine g_getClassQ C hM hE tw_3_24 (by simp [Value.category]) dJ7_copyOf_1904c_3 ?_
  refine g_callS C gy_J7_copyOf_6403c tw_3_41 tw_3_42 (by decide) (m_copyOf3 F S E m mi kv hM hE h1 hm h8 hel) rfl rfl (Nat.le_of_ble_eq_true rfl) (by omega) (by omega) dJ7_copyOf_1904c_6 (fun _ _ h9 => h9.elim) ?_
  rintro _ _ ⟨q, row, rfl, hq, hr, rfl⟩
  refine g_aret C R (Or.inr ⟨_, rfl⟩) (by omega) (by omega) dJ7_copyOf_1904c_9 ?_
  exact ⟨q, row, rfl, hq, hr, rfl⟩
theorem m_grow1 {Γ : GBase} (F : FB Γ) (S : PS) (a kv : Nat) (xs : List Nat) (hL : isL Γ S a xs) (hfull : ∀ E, pP S 225 a = some E → al S E 12 → pN S E = xs.length) (h60 : xs.length ≤ 60) (h8 : kv < 8) (hel : ∀ x, x ∈ xs → al S x kv) : GMet Γ yJx4a65c_grow_92f84 cJx4a65c_grow_92f84 4 ((some (FieldType.array (FieldType.object "java/lang/Object")))) 2 1 100 [.ref a, .int (nI (xs.length + 1))] S (fun v S' => ∃ q N row, v = some (.ref q) ∧ q ∉ pL S ∧ xs.length < N ∧ N ≤ 100 ∧ (∀ j, j < xs.length → row j = xs[j]?) ∧ S' = uP (uRP (nA S q 12 N) q row) 225 a (some q)) noX := by
  obtain ⟨ha, hs, E, hE, hc | ⟨c1, c2, c3, c4, c5, c6⟩⟩ := hL
  · obtain ⟨rfl, rfl⟩ := hc
    refine GMet.of (loc0 := [(0, .ref a), (1, .int (nI 1))]) F (by decide +kernel) rfl (Nat.le_of_ble_eq_true rfl) (fun X C R Tb nm => ?_)
    refine g_aload_n C dJx4a65c_grow_92f84_0 rfl rfl ?_
    refine ge_AL_elementData C tw_1_52 (by exact ha) (by exact hE) dJx4a65c_grow_92f84_1 ?_
    refine g_alenE0 C dJx4a65c_grow_92f84_4 ?_
    refine g_istore_n C dJx4a65c_grow_92f84_5 rfl (by decide) rfl ?_
    refine g_iload_n C dJx4a65c_grow_92f84_6 rfl rfl ?_
    refine g_if_gt C dJx4a65c_grow_92f84_7 (tgt := 20) (by decide) (fun c => ?_) (fun c => ?_)
    · exact absurd c (by decide)
    · refine g_aload_n C dJx4a65c_grow_92f84_10 rfl rfl ?_
      refine ge_AL_elementData C tw_1_52 (by exact ha) (by exact hE) dJx4a65c_grow_92f84_11 ?_
      refine g_getE0 C tw_1_50 dJx4a65c_grow_92f84_14 ?_
      refine g_acmp_eq C dJx4a65c_grow_92f84_17 (tgt := 45) (by decide) (fun c2 => ?_) (fun c2 => ?_)
      · refine g_aload_n C dJx4a65c_grow_92f84_45 rfl rfl ?_
        refine g_bipush C dJx4a65c_grow_92f84_46 (v := 10) (by decide) ?_
        refine g_iload_n C dJx4a65c_grow_92f84_48 rfl rfl ?_
        refine g_max C tw_3_47 (by simp [Value.category]) (by omega) (by omega) dJx4a65c_grow_92f84_49 ?_
        rw [show (if (10 : Int32) < nI 1 then nI 1 else 10) = nI 10 by decide]
        refine g_naQ C tw_3_48 rfl (by omega) (by omega) (by omega) dJx4a65c_grow_92f84_52 (fun q hq => ?_)
        refine g_dup_x1 C dJx4a65c_grow_92f84_55 rfl rfl ?_
        refine pu_AL_elementData C tw_1_52 (by exact ha.nA hq) dJx4a65c_grow_92f84_56 ?_
        refine g_aret C R (Or.inr ⟨_, rfl⟩) (by omega) (by omega) dJx4a65c_grow_92f84_59 ?_
        refine ⟨q, 10, fun _ => none, rfl, hq, by simp, by omega, fun j hj => absurd hj (by simp), ?_⟩
        have e := uRP_self (nA S q 12 10) q
        rw [nA_RPq] at e
        rw [e]
      · exact absurd rfl c2
  · have hN : pN S E = xs.length := hfull E hE c1
    refine GMet.of (loc0 := [(0, .ref a), (1, .int (nI (xs.length + 1)))]) F (by decide +kernel) rfl (Nat.le_of_ble_eq_true rfl) (fun X C R Tb nm => ?_)
    refine g_aload_n C dJx4a65c_grow_92f84_0 rfl rfl ?_
    refine ge_AL_elementData C tw_1_52 (by exact ha) (by exact hE) dJx4a65c_grow_92f84_1 ?_
    refine g_alen C (by decide) c1 dJx4a65c_grow_92f84_4 ?_
    refine g_istore_n C dJx4a65c_grow_92f84_5 rfl (by decide) rfl ?_
    refine g_iload_n C dJx4a65c_grow_92f84_6 rfl rfl ?_
    rw [hN]
    refine g_if_gt C dJx4a65c_grow_92f84_7 (tgt := 20) (by decide) (fun c => ?_) (fun c => ?_)
    · refine g_iload_n C dJx4a65c_grow_92f84_20 rfl rfl ?_
      refine g_iload_n C dJx4a65c_grow_92f84_21 rfl rfl ?_
      refine g_iload_n C dJx4a65c_grow_92f84_22 rfl rfl ?_
      refine g_isub C dJx4a65c_grow_92f84_23 ?_
      refine g_iload_n C dJx4a65c_grow_92f84_24 rfl rfl ?_
      refine g_iconst C dJx4a65c_grow_92f84_25 (v := 1) (by decide) ?_
      refine g_ishr C dJx4a65c_grow_92f84_26 ?_
      rw [show nI (xs.length + 1) - nI xs.length = nI 1 by rw [pk_sub (by omega)]; congr 1; omega, pk_shrN (by omega) _ 1 (by decide)]
      refine g_callS C gy_J8_newLength_cabcc tw_3_20 tw_2_20 (by decide) (m_newLength F S xs.length 1 (xs.length / 2 ^ 1) (by omega) (by omega) (by omega) (by omega)) rfl rfl (Nat.le_of_ble_eq_true rfl) (by omega) (by omega) dJx4a65c_grow_92f84_27 (fun _ _ h9 => h9.elim) ?_
      rintro _ _ ⟨rfl, rfl⟩
      refine g_istore_n C dJx4a65c_grow_92f84_30 rfl (by decide) rfl ?_
      refine g_aload_n C dJx4a65c_grow_92f84_31 rfl rfl ?_
      refine g_aload_n C dJx4a65c_grow_92f84_32 rfl rfl ?_
      refine ge_AL_elementData C tw_1_52 (by exact ha) (by exact hE) dJx4a65c_grow_92f84_33 ?_
      refine g_iload_n C dJx4a65c_grow_92f84_36 rfl rfl ?_
      have hb : pN S E ≤ xs.length + max 1 (xs.length / 2 ^ 1) := by omega
      have hb2 : xs.length + max 1 (xs.length / 2 ^ 1) ≤ 100 := by omega
      refine g_callS C gy_J7_copyOf_1904c tw_3_21 tw_3_22 (by decide) (m_copyOf2 F S E (xs.length + max 1 (xs.length / 2 ^ 1)) kv c1 hb hb2 h8 (fun j hj v hv => hel v (by rw [c6 j (by omega)] at hv; exact List.mem_of_getElem? hv))) rfl rfl (Nat.le_of_ble_eq_true rfl) (by omega) (by omega) dJx4a65c_grow_92f84_37 (fun _ _ h9 => h9.elim) ?_
      rintro _ _ ⟨q, row, rfl, hq, hr, rfl⟩
      refine g_dup_x1 C dJx4a65c_grow_92f84_40 rfl rfl ?_
      refine pu_AL_elementData C tw_1_52 (by exact (ha.nA hq).uRP) dJx4a65c_grow_92f84_41 ?_
      refine g_aret C R (Or.inr ⟨_, rfl⟩) (by omega) (by omega) dJx4a65c_grow_92f84_44 ?_
      refine ⟨q, _, row, rfl, hq, by omega, hb2, fun j hj => ?_, rfl⟩
      rw [hr j (by omega), c6 j hj]
    · exact absurd c (fun h => h (by have := nI_lt (a := 0) (b := xs.length) (by omega) (by omega); exact this))
theorem m_grow {Γ : GBase} (F : FB Γ) (S : PS) (a kv : Nat) (xs : List Nat) (hL : isL Γ S a xs) (hfull : ∀ E, pP S 225 a = some E → al S E 12 → pN S E = xs.length) (h60 : xs.length ≤ 60) (h8 : kv < 8) (hel : ∀ x, x ∈ xs → al S x kv) : GMet Γ yJx4a65c_grow_d5877 cJx4a65c_grow_d5877 1 ((some (FieldType.array (FieldType.object "java/lang/Object")))) 3 1 100 [.ref a] S (fun v S' => ∃ q N row, v = some (.ref q) ∧ q ∉ pL S ∧ xs.length < N ∧ N ≤ 100 ∧ (∀ j, j < xs.length → row j = xs[j]?) ∧ S' = uP (uRP (nA S q 12 N) q row) 225 a (some q)) noX := by
  refine GMet.of (loc0 := [(0, .ref a)]) F (by decide +kernel) rfl (Nat.le_of_ble_eq_true rfl) (fun X C R Tb nm => ?_)
  refine g_aload_n C dJx4a65c_grow_d5877_0 rfl rfl ?_
  refine g_aload_n C dJx4a65c_grow_d5877_1 rfl rfl ?_
  refine ge_AL_size C tw_1_53 (by exact hL.1) (by exact hL.2.1) dJx4a65c_grow_d5877_2 ?_
  refine g_iconst C dJx4a65c_grow_d5877_5 (v := 1) (by decide) ?_
  refine g_iadd C dJx4a65c_grow_d5877_6 ?_
  rw [nI_1]
  refine g_callV C gy_Jx4a65c_grow_92f84 tw_3_16 tw_3_18 ts_8 (by decide) (kk := 7) rfl rfl (by exact hL.1) (m_grow1 F S a kv xs hL hfull h60 h8 hel) rfl rfl (Nat.le_of_ble_eq_true rfl) (by omega) (by omega) dJx4a65c_grow_d5877_7 (fun _ _ h9 => h9.elim) ?_
  rintro _ _ ⟨q, N, row, rfl, hq, h1, h2, h3, rfl⟩
  refine g_aret C R (Or.inr ⟨_, rfl⟩) (by omega) (by omega) dJx4a65c_grow_d5877_10 ?_
  exact ⟨q, N, row, rfl, hq, h1, h2, h3, rfl⟩
end
section
/-! ===== lists: add, add at a place, remove, clear; Arrays.fill; Integer.signum ===== -/
/-- a list with its row E, which has room for one more -/
def isR (S : PS) (a E : Nat) (xs : List Nat) : Prop := al S a 7 ∧ pI S 226 a = nI xs.length ∧ pP S 225 a = some E ∧ al S E 12 ∧ pW S E = a ∧ xs.length < pN S E ∧ pN S E ≤ 100 ∧ ∀ j, j < xs.length → pRP S E j = xs[j]?
theorem isR.L {Γ : GBase} {S : PS} {a E : Nat} {xs : List Nat} (h : isR S a E xs) : isL Γ S a xs := by
  obtain ⟨h1, h2, h3, h4, h5, h6, h7, h8⟩ := h
  exact ⟨h1, h2, E, h3, Or.inr ⟨h4, h5, by omega, by omega, h7, h8⟩⟩
theorem isL.uI224 {Γ : GBase} {S : PS} {a b : Nat} {xs : List Nat} {z : Int32} (h : isL Γ S a xs) : isL Γ (uI S 224 b z) a xs :=
  h.fr (S' := uI S 224 b z) (mo := fun f c => f = 224 ∧ c = b) (ma := fun _ _ => False) (fr_uI ⟨rfl, rfl⟩) (fun q => absurd q.1 (by decide)) (fun q => absurd q.1 (by decide)) (fun _ _ _ q => q)
theorem g_know {Γ : GBase} {X : Cx} {S : PS} {k n pc : Nat} {loc : List (Nat × Value)} {st : List Value} (q : (∀ b, b ∈ pL S → AA Γ b) → GW Γ X S k n pc loc st) : GW Γ X S k n pc loc st := fun H locs ls hP hD hS hl => by
  refine q (fun b hb => ?_) H locs ls hP hD hS hl
  obtain ⟨j, hj⟩ := pw_get (bC Γ) hb
  exact hD.2 j _ hj
theorem PFo_uW (cy : Nat → ClassId) (S : PS) (a o : Nat) : PFo cy (uW S a o) = PFo cy S := by
  funext b
  unfold PFo
  have e1 : pK (uW S a o) b = pK S b := rfl
  have e2 : fvs (uW S a o) (pK S b) b 0 (kref (pK S b)) = fvs S (pK S b) b 0 (kref (pK S b)) := fvs_ext _ _ (fun _ _ _ => ⟨rfl, rfl⟩)
  rw [e1, e2]
  rfl
/-- a ghost: who owns the row a -/
theorem g_own {Γ : GBase} {X : Cx} {S : PS} {k n pc : Nat} {loc : List (Nat × Value)} {st : List Value} (a o : Nat) (q : GW Γ X (uW S a o) k n pc loc st) : GW Γ X S k n pc loc st := g_ghost (uW S a o) rfl (fun cy => PFo_uW cy S a o) q
theorem g_E0 {Γ : GBase} {S : PS} (F : FB Γ) (h : ∀ b, b ∈ pL S → AA Γ b) : bE Γ ∉ pL S := fun hm => by
  obtain ⟨_, _, _, _, _, _, _, hn⟩ := F.2.2.2.2.2
  exact hn (h _ hm)
/-- what grow leaves, its new row given to the list -/
theorem grown {S : PS} {a q N : Nat} {row : Nat → Option Nat} {xs : List Nat} (ha : al S a 7) (hs : pI S 226 a = nI xs.length) (hq : q ∉ pL S) (h1 : xs.length < N) (h2 : N ≤ 100) (h3 : ∀ j, j < xs.length → row j = xs[j]?) : isR (uW (uP (uRP (nA S q 12 N) q row) 225 a (some q)) q a) a q xs ∧ Fr S (uW (uP (uRP (nA S q 12 N) q row) 225 a (some q)) q a) (moL a) (maL a) := by
  refine ⟨⟨ha.nA (m := N) hq, hs, uP_q (S := uRP (nA S q 12 N) q row) (f := 225) (a := a) (v := some q), al_nA (m := N), uW_q, ?_, ?_, fun j hj => ?_⟩, fun b hb => ?_⟩
  · show _ < pN (nA S q 12 N) q
    rw [nA_Nq]; exact h1
  · show pN (nA S q 12 N) q ≤ _
    rw [nA_Nq]; exact h2
  · show pRP (uRP (nA S q 12 N) q row) q j = _
    rw [uRP_q]; exact h3 j hj
  · have hbq : b ≠ q := mem_ne hb hq
    refine ⟨List.mem_append_left _ hb, va_up_ne _ _ hbq, va_up_ne _ _ hbq, uW_ne hbq, fun f hf => ⟨rfl, ?_⟩, fun _ => ⟨va_up_ne _ _ hbq, va_up_ne _ _ hbq, va_up_ne _ _ hbq, ?_⟩⟩
    · exact (uP_ne (S := uRP (nA S q 12 N) q row) (Or.inr hf)).trans rfl
    · exact (uRP_ne (S := nA S q 12 N) hbq).trans (nA_RP hbq)
/-- one stored at the end, the size set -/
theorem isR.put {Γ : GBase} {S : PS} {a E v : Nat} {xs : List Nat} (h : isR S a E xs) : isL Γ (uI (uRP S E (va_up (pRP S E) xs.length (some v))) 226 a (nI (xs.length + 1))) a (xs ++ [v]) ∧ Fr S (uI (uRP S E (va_up (pRP S E) xs.length (some v))) 226 a (nI (xs.length + 1))) (moL a) (maL a) := by
  obtain ⟨h1, h2, h3, h4, h5, h6, h7, h8⟩ := h
  refine ⟨⟨h1, ?_, E, h3, Or.inr ⟨h4, h5, by show 0 < pN S E; omega, ?_, h7, fun j hj => ?_⟩⟩, fun b hb => ?_⟩
  · rw [uI_q]; simp
  · show (xs ++ [v]).length ≤ pN S E
    simp; omega
  · show pRP (uRP S E _) E j = _
    rw [uRP_q]
    by_cases hj2 : j = xs.length
    · subst hj2; rw [va_up_self]; simp
    · rw [va_up_ne _ _ hj2, h8 j (by simp at hj; omega), List.getElem?_append_left (by simp at hj; omega)]
  · refine ⟨hb, rfl, rfl, rfl, fun f hf => ⟨(uI_ne (Or.inr hf)).trans rfl, rfl⟩, fun hf => ⟨rfl, rfl, rfl, ?_⟩⟩
    have : b ≠ E := fun q => hf (by rw [q]; exact h5)
    exact uRP_ne this
theorem Fr.trL {S S1 S2 : PS} {a : Nat} (h1 : Fr S S1 (moL a) (maL a)) (h2 : Fr S1 S2 (moL a) (maL a)) : Fr S S2 (moL a) (maL a) := h1.tr h2 (fun _ _ _ h => h.elim id id) (fun _ _ _ h => h.elim id id)
theorem m_add3 {Γ : GBase} (F : FB Γ) (S : PS) (a v E kv : Nat) (xs : List Nat) (hL : isL Γ S a xs) (hE : pP S 225 a = some E) (hv : al S v kv) (h60 : xs.length ≤ 60) (h8 : kv < 8) (hel : ∀ x, x ∈ xs → al S x kv) : GMet Γ yJx4a65c_add_72be8 cJx4a65c_add_72be8 4 ((none : Option FieldType)) 4 1 100 [.ref a, .ref v, .ref E, .int (nI xs.length)] S (fun r S' => r = none ∧ isL Γ S' a (xs ++ [v]) ∧ Fr S S' (moL a) (maL a)) noX := by
  refine GMet.of (loc0 := [(0, .ref a), (1, .ref v), (2, .ref E), (3, .int (nI xs.length))]) F (by decide +kernel) rfl (Nat.le_of_ble_eq_true rfl) (fun X C R Tb nm => ?_)
  have key : ∀ (S1 : PS) (E1 : Nat), isR S1 a E1 xs → Fr S S1 (moL a) (maL a) → GW Γ X S1 1 100 11 [(0, .ref a), (1, .ref v), (2, .ref E1), (3, .int (nI xs.length))] [] := by
    intro S1 E1 hR hF
    refine g_aload_n C dJx4a65c_add_72be8_11 rfl rfl ?_
    refine g_iload_n C dJx4a65c_add_72be8_12 rfl rfl ?_
    refine g_aload_n C dJx4a65c_add_72be8_13 rfl rfl ?_
    refine g_stQ C rfl hR.2.2.2.1 (hv.fr hF) h8 hR.2.2.2.2.2.1 (by omega) dJx4a65c_add_72be8_14 ?_
    refine g_aload_n C dJx4a65c_add_72be8_15 rfl rfl ?_
    refine g_iload_n C dJx4a65c_add_72be8_16 rfl rfl ?_
    refine g_iconst C dJx4a65c_add_72be8_17 (v := 1) (by decide) ?_
    refine g_iadd C dJx4a65c_add_72be8_18 ?_
    rw [nI_1]
    refine pu_AL_size C tw_1_53 (by exact hR.1) dJx4a65c_add_72be8_19 ?_
    refine g_vret C R (by omega) (by omega) dJx4a65c_add_72be8_22 ?_
    obtain ⟨p1, p2⟩ := hR.put (Γ := Γ) (v := v)
    exact ⟨rfl, p1, hF.trL p2⟩
  have hL0 := hL
  obtain ⟨ha, hs, E', hE', hc⟩ := hL
  have hEE : E' = E := Option.some.inj (hE'.symm.trans hE)
  subst hEE
  have kgrow : (∀ E9, pP S 225 a = some E9 → al S E9 12 → pN S E9 = xs.length) → GW Γ X S 0 0 6 [(0, .ref a), (1, .ref v), (2, .ref E'), (3, .int (nI xs.length))] [] := by
    intro hfull
    refine g_aload_n C dJx4a65c_add_72be8_6 rfl rfl ?_
    refine g_callV C gy_Jx4a65c_grow_d5877 tw_3_12 tw_3_14 ts_7 (by decide) (kk := 7) rfl rfl (by exact ha) (m_grow F S a kv xs hL0 hfull h60 h8 hel) rfl rfl (Nat.le_of_ble_eq_true rfl) (by omega) (by omega) dJx4a65c_add_72be8_7 (fun _ _ h9 => h9.elim) ?_
    rintro _ _ ⟨q, N, row, rfl, hq, g1, g2, g3, rfl⟩
    refine g_astore_n C dJx4a65c_add_72be8_10 rfl (by decide) rfl ?_
    obtain ⟨g4, g5⟩ := grown ha hs hq g1 g2 g3
    refine g_own q a ?_
    refine g_sub [(0, _), (1, _), (2, _), (3, _)] ⟨rfl, rfl, rfl, rfl, trivial⟩ ?_
    exact key _ q g4 g5
  rcases hc with ⟨rfl, rfl⟩ | ⟨c1, c2, c3, c4, c5, c6⟩
  · refine g_iload_n C dJx4a65c_add_72be8_0 rfl rfl ?_
    refine g_aload_n C dJx4a65c_add_72be8_1 rfl rfl ?_
    refine g_alenE0 C dJx4a65c_add_72be8_2 ?_
    refine g_icmp_ne C dJx4a65c_add_72be8_3 (tgt := 11) (by decide) (fun c => ?_) (fun c => ?_)
    · exact absurd rfl c
    · refine g_sub [(0, _), (1, _), (2, _), (3, _)] ⟨rfl, rfl, rfl, rfl, trivial⟩ ?_
      refine g_know (fun hAA => kgrow (fun E9 h9 h10 => ?_))
      exfalso
      have h11 : E9 = bE Γ := Option.some.inj (h9.symm.trans hE)
      subst h11
      exact g_E0 F hAA h10.1
  · refine g_iload_n C dJx4a65c_add_72be8_0 rfl rfl ?_
    refine g_aload_n C dJx4a65c_add_72be8_1 rfl rfl ?_
    refine g_alen C (by decide) c1 dJx4a65c_add_72be8_2 ?_
    refine g_icmp_ne C dJx4a65c_add_72be8_3 (tgt := 11) (by decide) (fun c => ?_) (fun c => ?_)
    · refine g_sub [(0, _), (1, _), (2, _), (3, _)] ⟨rfl, rfl, rfl, rfl, trivial⟩ ?_
      refine g_widen 1 100 (by omega) (by omega) ?_
      have hlt : xs.length < pN S E' := by
        rcases Nat.lt_or_ge xs.length (pN S E') with q | q
        · exact q
        · exact absurd (by rw [show pN S E' = xs.length by omega]) c
      exact key S E' ⟨ha, hs, hE, c1, c2, hlt, c5, c6⟩ Fr.rf
    · refine g_sub [(0, _), (1, _), (2, _), (3, _)] ⟨rfl, rfl, rfl, rfl, trivial⟩ ?_
      refine kgrow (fun E9 h9 _ => ?_)
      have : E9 = E' := Option.some.inj (h9.symm.trans hE)
      subst this
      exact ((nI_eq (by omega) (by omega)).mp c).symm
theorem m_add {Γ : GBase} (F : FB Γ) (S : PS) (a v kv : Nat) (xs : List Nat) (hL : isL Γ S a xs) (hv : al S v kv) (h60 : xs.length ≤ 60) (h8 : kv < 8) (hel : ∀ x, x ∈ xs → al S x kv) : GMet Γ yJx4a65c_add_9ea2d cJx4a65c_add_9ea2d 2 ((some FieldType.boolean)) 5 1 100 [.ref a, .ref v] S (fun r S' => r = some (.int 1) ∧ isL Γ S' a (xs ++ [v]) ∧ Fr S S' (moL a) (maL a)) noX := by
  have hL0 := hL
  obtain ⟨ha, hs, E, hE, hc⟩ := hL
  refine GMet.of (loc0 := [(0, .ref a), (1, .ref v)]) F (by decide +kernel) rfl (Nat.le_of_ble_eq_true rfl) (fun X C R Tb nm => ?_)
  refine g_aload_n C dJx4a65c_add_9ea2d_0 rfl rfl ?_
  refine g_dup C dJx4a65c_add_9ea2d_1 rfl ?_
  refine ge_AL_modCount C tw_1_55 (by exact ha) rfl dJx4a65c_add_9ea2d_2 ?_
  refine g_iconst C dJx4a65c_add_9ea2d_5 (v := 1) (by decide) ?_
  refine g_iadd C dJx4a65c_add_9ea2d_6 ?_
  refine pu_AL_modCount C tw_1_55 (by exact ha) dJx4a65c_add_9ea2d_7 ?_
  refine g_aload_n C dJx4a65c_add_9ea2d_10 rfl rfl ?_
  refine g_aload_n C dJx4a65c_add_9ea2d_11 rfl rfl ?_
  refine g_aload_n C dJx4a65c_add_9ea2d_12 rfl rfl ?_
  refine ge_AL_elementData C tw_1_52 (by exact ha) (by exact hE) dJx4a65c_add_9ea2d_13 ?_
  refine g_aload_n C dJx4a65c_add_9ea2d_16 rfl rfl ?_
  refine ge_AL_size C tw_1_53 (by exact ha) (by exact hs) dJx4a65c_add_9ea2d_17 ?_
  refine g_callV C gy_Jx4a65c_add_72be8 tw_3_195 tw_3_197 ts_14 (by decide) (kk := 7) rfl rfl (by exact ha) (m_add3 F _ a v E kv xs hL0.uI224 hE hv h60 h8 hel) rfl rfl (Nat.le_of_ble_eq_true rfl) (by omega) (by omega) dJx4a65c_add_9ea2d_20 (fun _ _ h9 => h9.elim) ?_
  rintro _ _ ⟨rfl, h1, h2⟩
  refine g_iconst C dJx4a65c_add_9ea2d_23 (v := 1) (by decide) ?_
  refine g_iret C R rfl (by omega) (by omega) dJx4a65c_add_9ea2d_24 ?_
  exact ⟨rfl, h1, Fr.trL (fr_uI rfl) h2⟩
theorem m_rangeCheck {Γ : GBase} (F : FB Γ) (S : PS) (a j : Nat) (xs : List Nat) (hL : isL Γ S a xs) (hj : j ≤ xs.length) : GMet Γ yJx4a65c_rangeCheckForAdd_d00df cJx4a65c_rangeCheckForAdd_d00df 2 ((none : Option FieldType)) 0 0 0 [.ref a, .int (nI j)] S (fun r S' => r = none ∧ S = S') noX := by
  have hlen := hL.len
  refine GMet.of (loc0 := [(0, .ref a), (1, .int (nI j))]) F (by decide +kernel) rfl (Nat.le_of_ble_eq_true rfl) (fun X C R Tb nm => ?_)
  refine g_iload_n C dJx4a65c_rangeCheckForAdd_d00df_0 rfl rfl ?_
  refine g_aload_n C dJx4a65c_rangeCheckForAdd_d00df_1 rfl rfl ?_
  refine ge_AL_size C tw_1_53 (by exact hL.1) (by exact hL.2.1) dJx4a65c_rangeCheckForAdd_d00df_2 ?_
  refine g_icmp_gt C dJx4a65c_rangeCheckForAdd_d00df_5 (tgt := 12) (by decide) (fun c => ?_) (fun c => ?_)
  · exact absurd c (nI_nlt hj (by omega))
  · refine g_iload_n C dJx4a65c_rangeCheckForAdd_d00df_8 rfl rfl ?_
    refine g_if_ge C dJx4a65c_rangeCheckForAdd_d00df_9 (tgt := 25) (by decide) (fun c2 => ?_) (fun c2 => ?_)
    · refine g_vret C R (by omega) (by omega) dJx4a65c_rangeCheckForAdd_d00df_25 ?_
      exact ⟨rfl, rfl⟩
    · exact absurd (nI_pos' (by omega)) c2
/-- the insertion: the row moved up from j, v stored -/
theorem isR.ins {Γ : GBase} {S : PS} {a E v j : Nat} {xs : List Nat} (h : isR S a E xs) (hj : j ≤ xs.length) : ∀ S2, S2 = uI (uRP (uRP S E (va_cpy (pRP S E) (pRP S E) j (j + 1) (xs.length - j))) E (va_up (pRP (uRP S E (va_cpy (pRP S E) (pRP S E) j (j + 1) (xs.length - j))) E) j (some v))) 226 a (nI (xs.length + 1)) → isL Γ S2 a (insL xs j v) ∧ Fr S S2 (moL a) (maL a) := by
  rintro S2 rfl
  obtain ⟨h1, h2, h3, h4, h5, h6, h7, h8⟩ := h
  refine ⟨⟨h1, ?_, E, h3, Or.inr ⟨h4, h5, by show 0 < pN S E; omega, ?_, h7, fun i hi => ?_⟩⟩, fun b hb => ?_⟩
  · rw [uI_q, insL_len hj]
  · show (insL xs j v).length ≤ pN S E
    rw [insL_len hj]; omega
  · rw [insL_len hj] at hi
    rw [insL_get hj]
    show pRP (uRP (uRP S E _) E _) E i = _
    rw [uRP_q, uRP_q]
    by_cases c1 : i = j
    · subst c1
      rw [va_up_self, if_neg (by omega), if_pos rfl]
    · rw [va_up_ne _ _ c1]
      by_cases c2 : i < j
      · rw [if_pos c2, pk_cpy_out (Or.inl (by omega)), h8 i (by omega)]
      · rw [if_neg c2, if_neg c1, pk_cpy_in (by omega) (by omega), h8 _ (by omega)]
        congr 1; omega
  · refine ⟨hb, rfl, rfl, rfl, fun f hf => ⟨(uI_ne (Or.inr hf)).trans rfl, rfl⟩, fun hf => ⟨rfl, rfl, rfl, ?_⟩⟩
    have hne : b ≠ E := fun q => hf (by rw [q]; exact h5)
    exact (uRP_ne hne).trans (uRP_ne hne)
theorem m_addAt {Γ : GBase} (F : FB Γ) (S : PS) (a v j kv : Nat) (xs : List Nat) (hL : isL Γ S a xs) (hj : j ≤ xs.length) (hv : al S v kv) (h60 : xs.length ≤ 60) (h8 : kv < 8) (hel : ∀ x, x ∈ xs → al S x kv) : GMet Γ yJx4a65c_add_7a177 cJx4a65c_add_7a177 5 ((none : Option FieldType)) 5 1 100 [.ref a, .int (nI j), .ref v] S (fun r S' => r = none ∧ isL Γ S' a (insL xs j v) ∧ Fr S S' (moL a) (maL a)) noX := by
  refine GMet.of (loc0 := [(0, .ref a), (1, .int (nI j)), (2, .ref v)]) F (by decide +kernel) rfl (Nat.le_of_ble_eq_true rfl) (fun X C R Tb nm => ?_)
  have hL0 := hL
  obtain ⟨ha, hs, E, hE, hc⟩ := hL
  refine g_aload_n C dJx4a65c_add_7a177_0 rfl rfl ?_
  refine g_iload_n C dJx4a65c_add_7a177_1 rfl rfl ?_
  refine g_callV C gy_Jx4a65c_rangeCheckForAdd_d00df tw_1_158 tw_1_160 ts_4 (by decide) (kk := 7) rfl rfl (by exact ha) (m_rangeCheck F S a j xs hL0 hj) rfl rfl (Nat.le_of_ble_eq_true rfl) (by omega) (by omega) dJx4a65c_add_7a177_2 (fun _ _ h9 => h9.elim) ?_
  rintro _ _ ⟨rfl, rfl⟩
  refine g_aload_n C dJx4a65c_add_7a177_5 rfl rfl ?_
  refine g_dup C dJx4a65c_add_7a177_6 rfl ?_
  refine ge_AL_modCount C tw_1_55 (by exact ha) rfl dJx4a65c_add_7a177_7 ?_
  refine g_iconst C dJx4a65c_add_7a177_10 (v := 1) (by decide) ?_
  refine g_iadd C dJx4a65c_add_7a177_11 ?_
  refine pu_AL_modCount C tw_1_55 (by exact ha) dJx4a65c_add_7a177_12 ?_
  generalize hm : pI S 224 a + 1 = mm
  have hF0 : Fr S (uI S 224 a mm) (moL a) (maL a) := fr_uI rfl
  have hL1 : isL Γ (uI S 224 a mm) a xs := hL0.uI224
  have hv1 : al (uI S 224 a mm) v kv := hv
  have hel1 : ∀ x, x ∈ xs → al (uI S 224 a mm) x kv := hel
  have hE1 : pP (uI S 224 a mm) 225 a = some E := hE
  have hs1 : pI (uI S 224 a mm) 226 a = nI xs.length := hs
  have ha1 : al (uI S 224 a mm) a 7 := ha
  have hc1 : (E = bE Γ ∧ xs = []) ∨ (al (uI S 224 a mm) E 12 ∧ pW (uI S 224 a mm) E = a ∧ 0 < pN (uI S 224 a mm) E ∧ xs.length ≤ pN (uI S 224 a mm) E ∧ pN (uI S 224 a mm) E ≤ 100 ∧ ∀ j, j < xs.length → pRP (uI S 224 a mm) E j = xs[j]?) := hc
  generalize uI S 224 a mm = S0 at hF0 hL1 hv1 hel1 hE1 hs1 ha1 hc1 ⊢
  have key : ∀ (S1 : PS) (E1 : Nat), isR S1 a E1 xs → Fr S0 S1 (moL a) (maL a) → GW Γ X S1 1 100 38 [(0, .ref a), (1, .int (nI j)), (2, .ref v), (3, .int (nI xs.length)), (4, .ref E1)] [] := by
    intro S1 E1 hR hF
    have hlt := hR.2.2.2.2.2.1
    have h100 := hR.2.2.2.2.2.2.1
    refine g_aload C dJx4a65c_add_7a177_38 rfl ?_
    refine g_iload_n C dJx4a65c_add_7a177_40 rfl rfl ?_
    refine g_aload C dJx4a65c_add_7a177_41 rfl ?_
    refine g_iload_n C dJx4a65c_add_7a177_43 rfl rfl ?_
    refine g_iconst C dJx4a65c_add_7a177_44 (v := 1) (by decide) ?_
    refine g_iadd C dJx4a65c_add_7a177_45 ?_
    rw [nI_1]
    refine g_iload_n C dJx4a65c_add_7a177_46 rfl rfl ?_
    refine g_iload_n C dJx4a65c_add_7a177_47 rfl rfl ?_
    refine g_isub C dJx4a65c_add_7a177_48 ?_
    rw [pk_sub hj]
    refine g_copyQ C tw_3_49 (sp := j) (dp := j + 1) (m := xs.length - j) (kv := kv) rfl rfl rfl hR.2.2.2.1 hR.2.2.2.1 (by omega) (by omega) (by omega) h8 (fun i hi w hw => (hel1 w (by rw [hR.2.2.2.2.2.2.2 _ (by omega)] at hw; exact List.mem_of_getElem? hw)).fr hF) (by simp [Value.category]) dJx4a65c_add_7a177_49 ?_
    refine g_aload C dJx4a65c_add_7a177_52 rfl ?_
    refine g_iload_n C dJx4a65c_add_7a177_54 rfl rfl ?_
    refine g_aload_n C dJx4a65c_add_7a177_55 rfl rfl ?_
    refine g_stQ C rfl (by exact hR.2.2.2.1) (by exact (hv1.fr hF).uRP) h8 (by show j < pN S1 E1; omega) (by omega) dJx4a65c_add_7a177_56 ?_
    refine g_aload_n C dJx4a65c_add_7a177_57 rfl rfl ?_
    refine g_iload_n C dJx4a65c_add_7a177_58 rfl rfl ?_
    refine g_iconst C dJx4a65c_add_7a177_59 (v := 1) (by decide) ?_
    refine g_iadd C dJx4a65c_add_7a177_60 ?_
    rw [nI_1]
    refine pu_AL_size C tw_1_53 (by exact hR.1) dJx4a65c_add_7a177_61 ?_
    refine g_vret C R (by omega) (by omega) dJx4a65c_add_7a177_64 ?_
    obtain ⟨p1, p2⟩ := hR.ins (Γ := Γ) (v := v) hj _ rfl
    exact ⟨rfl, p1, hF0.trL (hF.trL p2)⟩
  have kgrow : (∀ E9, pP S0 225 a = some E9 → al S0 E9 12 → pN S0 E9 = xs.length) → ∀ ee, GW Γ X S0 0 0 32 [(0, .ref a), (1, .int (nI j)), (2, .ref v), (3, .int (nI xs.length)), (4, .ref ee)] [] := by
    intro hfull ee
    refine g_aload_n C dJx4a65c_add_7a177_32 rfl rfl ?_
    refine g_callV C gy_Jx4a65c_grow_d5877 tw_3_12 tw_3_14 ts_7 (by decide) (kk := 7) rfl rfl (by exact ha1) (m_grow F S0 a kv xs hL1 hfull h60 h8 hel1) rfl rfl (Nat.le_of_ble_eq_true rfl) (by omega) (by omega) dJx4a65c_add_7a177_33 (fun _ _ h9 => h9.elim) ?_
    rintro _ _ ⟨q, N, row, rfl, hq, g1, g2, g3, rfl⟩
    refine g_astore C dJx4a65c_add_7a177_36 (by decide) rfl ?_
    obtain ⟨g4, g5⟩ := grown ha1 hs1 hq g1 g2 g3
    refine g_own q a ?_
    refine g_sub [(0, _), (1, _), (2, _), (3, _), (4, _)] ⟨rfl, rfl, rfl, rfl, rfl, trivial⟩ ?_
    exact key _ q g4 g5
  rcases hc1 with ⟨rfl, rfl⟩ | ⟨c1, c2, c3, c4, c5, c6⟩
  · refine g_aload_n C dJx4a65c_add_7a177_15 rfl rfl ?_
    refine ge_AL_size C tw_1_53 (by exact ha1) (by exact hs1) dJx4a65c_add_7a177_16 ?_
    refine g_dup C dJx4a65c_add_7a177_19 rfl ?_
    refine g_istore_n C dJx4a65c_add_7a177_20 rfl (by decide) rfl ?_
    refine g_aload_n C dJx4a65c_add_7a177_21 rfl rfl ?_
    refine ge_AL_elementData C tw_1_52 (by exact ha1) (by exact hE1) dJx4a65c_add_7a177_22 ?_
    refine g_dup C dJx4a65c_add_7a177_25 rfl ?_
    refine g_astore C dJx4a65c_add_7a177_26 (by decide) rfl ?_
    refine g_alenE0 C dJx4a65c_add_7a177_28 ?_
    refine g_icmp_ne C dJx4a65c_add_7a177_29 (tgt := 38) (by decide) (fun c => ?_) (fun c => ?_)
    · exact absurd rfl c
    · refine g_sub [(0, _), (1, _), (2, _), (3, _), (4, _)] ⟨rfl, rfl, rfl, rfl, rfl, trivial⟩ ?_
      refine g_know (fun hAA => kgrow (fun E9 h9 h10 => ?_) _)
      exfalso
      have h11 : E9 = bE Γ := Option.some.inj (h9.symm.trans hE1)
      subst h11
      exact g_E0 F hAA h10.1
  · refine g_aload_n C dJx4a65c_add_7a177_15 rfl rfl ?_
    refine ge_AL_size C tw_1_53 (by exact ha1) (by exact hs1) dJx4a65c_add_7a177_16 ?_
    refine g_dup C dJx4a65c_add_7a177_19 rfl ?_
    refine g_istore_n C dJx4a65c_add_7a177_20 rfl (by decide) rfl ?_
    refine g_aload_n C dJx4a65c_add_7a177_21 rfl rfl ?_
    refine ge_AL_elementData C tw_1_52 (by exact ha1) (by exact hE1) dJx4a65c_add_7a177_22 ?_
    refine g_dup C dJx4a65c_add_7a177_25 rfl ?_
    refine g_astore C dJx4a65c_add_7a177_26 (by decide) rfl ?_
    refine g_alen C (by decide) c1 dJx4a65c_add_7a177_28 ?_
    refine g_icmp_ne C dJx4a65c_add_7a177_29 (tgt := 38) (by decide) (fun c => ?_) (fun c => ?_)
    · refine g_sub [(0, _), (1, _), (2, _), (3, _), (4, _)] ⟨rfl, rfl, rfl, rfl, rfl, trivial⟩ ?_
      refine g_widen 1 100 (by omega) (by omega) ?_
      have hlt : xs.length < pN S0 E := by
        rcases Nat.lt_or_ge xs.length (pN S0 E) with q | q
        · exact q
        · exact absurd (by rw [show pN S0 E = xs.length by omega]) c
      exact key S0 E ⟨ha1, hs1, hE1, c1, c2, hlt, c5, c6⟩ Fr.rf
    · refine g_sub [(0, _), (1, _), (2, _), (3, _), (4, _)] ⟨rfl, rfl, rfl, rfl, rfl, trivial⟩ ?_
      refine kgrow (fun E9 h9 _ => ?_) _
      have h11 : E9 = E := Option.some.inj (h9.symm.trans hE1)
      subst h11
      exact ((nI_eq (by omega) (by omega)).mp c).symm
end
section
/-! ===== lists: remove, clear; Arrays.fill; Integer.signum ===== -/
/-- a list with its row E, which isn't the empty one -/
def isE (S : PS) (a E : Nat) (xs : List Nat) : Prop := al S a 7 ∧ pI S 226 a = nI xs.length ∧ pP S 225 a = some E ∧ al S E 12 ∧ pW S E = a ∧ 0 < pN S E ∧ xs.length ≤ pN S E ∧ pN S E ≤ 100 ∧ ∀ j, j < xs.length → pRP S E j = xs[j]?
theorem isL.E {Γ : GBase} {S : PS} {a : Nat} {xs : List Nat} (h : isL Γ S a xs) (h0 : 0 < xs.length) : ∃ E, isE S a E xs := by
  obtain ⟨ha, hs, E, hE, hc | ⟨c1, c2, c3, c4, c5, c6⟩⟩ := h
  · exfalso; rw [hc.2] at h0; simp at h0
  · exact ⟨E, ha, hs, hE, c1, c2, c3, c4, c5, c6⟩
theorem uRP_uRP {S : PS} {a : Nat} {r r' : Nat → Option Nat} : uRP (uRP S a r) a r' = uRP S a r' := by
  obtain ⟨s1, s2, s3, s4, s5, s6, s7, s8, s9, s10⟩ := S
  simp only [uRP, Prod.mk.injEq, true_and, and_true]
  funext b
  by_cases hb : b = a
  · subst hb; rw [va_up_self, va_up_self]
  · rw [va_up_ne _ _ hb, va_up_ne _ _ hb, va_up_ne _ _ hb]
theorem isE.rem {Γ : GBase} {S : PS} {a E i : Nat} {xs : List Nat} (h : isE S a E xs) (hi : i < xs.length) {row : Nat → Option Nat} (hrow : ∀ j, j < xs.length - 1 → row j = (remL xs i)[j]?) : ∀ S2, S2 = uRP (uI S 226 a (nI (xs.length - 1))) E row → isL Γ S2 a (remL xs i) ∧ Fr S S2 (moL a) (maL a) := by
  rintro S2 rfl
  obtain ⟨h1, h2, h3, h4, h5, h6, h7, h8, h9⟩ := h
  refine ⟨⟨h1, ?_, E, h3, Or.inr ⟨h4, h5, h6, ?_, h8, fun j hj => ?_⟩⟩, fun b hb => ?_⟩
  · show pI (uI S 226 a _) 226 a = _
    rw [uI_q, remL_len hi]
  · show (remL xs i).length ≤ pN S E
    rw [remL_len hi]; omega
  · rw [remL_len hi] at hj
    rw [uRP_q]; exact hrow j hj
  · refine ⟨hb, rfl, rfl, rfl, fun f hf => ⟨(uI_ne (S := S) (Or.inr hf)).trans rfl, rfl⟩, fun hf => ⟨rfl, rfl, rfl, ?_⟩⟩
    have hne : b ≠ E := fun q => hf (by rw [q]; exact h5)
    exact uRP_ne (S := uI S 226 a _) hne
theorem isE.uI224 {S : PS} {a b E : Nat} {xs : List Nat} {z : Int32} (h : isE S a E xs) : isE (uI S 224 b z) a E xs := by
  obtain ⟨h1, h2, h3, h4, h5, h6, h7, h8, h9⟩ := h
  exact ⟨h1, (uI_ne (Or.inl (by decide))).trans h2, h3, h4, h5, h6, h7, h8, h9⟩
theorem m_fastRemove {Γ : GBase} (F : FB Γ) (S : PS) (a E i kv : Nat) (xs : List Nat) (hE : isE S a E xs) (hi : i < xs.length) (h8 : kv < 8) (hel : ∀ x, x ∈ xs → al S x kv) : GMet Γ yJx4a65c_fastRemove_b59b0 cJx4a65c_fastRemove_b59b0 4 ((none : Option FieldType)) 0 0 0 [.ref a, .ref E, .int (nI i)] S (fun r S' => r = none ∧ isL Γ S' a (remL xs i) ∧ Fr S S' (moL a) (maL a)) noX := by
  refine GMet.of (loc0 := [(0, .ref a), (1, .ref E), (2, .int (nI i))]) F (by decide +kernel) rfl (Nat.le_of_ble_eq_true rfl) (fun X C R Tb nm => ?_)
  refine g_aload_n C dJx4a65c_fastRemove_b59b0_0 rfl rfl ?_
  refine g_dup C dJx4a65c_fastRemove_b59b0_1 rfl ?_
  refine ge_AL_modCount C tw_1_55 (by exact hE.1) rfl dJx4a65c_fastRemove_b59b0_2 ?_
  refine g_iconst C dJx4a65c_fastRemove_b59b0_5 (v := 1) (by decide) ?_
  refine g_iadd C dJx4a65c_fastRemove_b59b0_6 ?_
  refine pu_AL_modCount C tw_1_55 (by exact hE.1) dJx4a65c_fastRemove_b59b0_7 ?_
  generalize hm : pI S 224 a + 1 = mm
  have hF0 : Fr S (uI S 224 a mm) (moL a) (maL a) := fr_uI rfl
  have hE0 : isE (uI S 224 a mm) a E xs := hE.uI224
  have hel0 : ∀ x, x ∈ xs → al (uI S 224 a mm) x kv := hel
  generalize uI S 224 a mm = S0 at hF0 hE0 hel0 ⊢
  obtain ⟨h1, h2, h3, h4, h5, h6, h7, h10, h9⟩ := id hE0
  refine g_aload_n C dJx4a65c_fastRemove_b59b0_10 rfl rfl ?_
  refine ge_AL_size C tw_1_53 (by exact h1) (by exact h2) dJx4a65c_fastRemove_b59b0_11 ?_
  refine g_iconst C dJx4a65c_fastRemove_b59b0_14 (v := 1) (by decide) ?_
  refine g_isub C dJx4a65c_fastRemove_b59b0_15 ?_
  rw [show nI xs.length - 1 = nI (xs.length - 1) from pk_sub (b := 1) (by omega)]
  refine g_dup C dJx4a65c_fastRemove_b59b0_16 rfl ?_
  refine g_istore_n C dJx4a65c_fastRemove_b59b0_17 rfl (by decide) rfl ?_
  refine g_iload_n C dJx4a65c_fastRemove_b59b0_18 rfl rfl ?_
  have kend : ∀ row, (∀ j, j < xs.length - 1 → row j = (remL xs i)[j]?) → GW Γ X (uRP S0 E row) 0 0 34 [(0, .ref a), (1, .ref E), (2, .int (nI i)), (3, .int (nI (xs.length - 1)))] [] := by
    intro row hrow
    refine g_aload_n C dJx4a65c_fastRemove_b59b0_34 rfl rfl ?_
    refine g_aload_n C dJx4a65c_fastRemove_b59b0_35 rfl rfl ?_
    refine g_iload_n C dJx4a65c_fastRemove_b59b0_36 rfl rfl ?_
    refine g_dup_x1 C dJx4a65c_fastRemove_b59b0_37 rfl rfl ?_
    refine pu_AL_size C tw_1_53 (by exact h1) dJx4a65c_fastRemove_b59b0_38 ?_
    refine g_null C dJx4a65c_fastRemove_b59b0_41 ?_
    refine g_stQN C  rfl (by exact h4) (by show _ < pN S0 E; omega) (by omega) dJx4a65c_fastRemove_b59b0_42 ?_
    refine g_vret C R (by omega) (by omega) dJx4a65c_fastRemove_b59b0_43 ?_
    have e : uRP (uI (uRP S0 E row) 226 a (nI (xs.length - 1))) E (va_up (pRP (uI (uRP S0 E row) 226 a (nI (xs.length - 1))) E) (xs.length - 1) none) = uRP (uI S0 226 a (nI (xs.length - 1))) E (va_up row (xs.length - 1) none) := by
      show uRP (uRP (uI S0 226 a (nI (xs.length - 1))) E row) E (va_up (pRP (uRP S0 E row) E) (xs.length - 1) none) = _
      rw [uRP_uRP, uRP_q]
    rw [e]
    obtain ⟨p1, p2⟩ := hE0.rem (Γ := Γ) hi (row := va_up row (xs.length - 1) none) (fun j hj => by rw [va_up_ne _ _ (by omega)]; exact hrow j hj) _ rfl
    exact ⟨rfl, p1, hF0.trL p2⟩
  refine g_icmp_le C dJx4a65c_fastRemove_b59b0_19 (tgt := 34) (by decide) (fun c => ?_) (fun c => ?_)
  · have hlast : i = xs.length - 1 := by
      rcases Nat.lt_or_ge i (xs.length - 1) with q | q
      · exact absurd c (nI_ge q (by omega))
      · omega
    rw [← uRP_self S0 E]
    refine g_sub [(0, _), (1, _), (2, _), (3, _)] ⟨rfl, rfl, rfl, rfl, trivial⟩ ?_
    refine kend _ (fun j hj => ?_)
    rw [remL_get hi, if_pos (by omega), h9 j (by omega)]
  · refine g_aload_n C dJx4a65c_fastRemove_b59b0_22 rfl rfl ?_
    refine g_iload_n C dJx4a65c_fastRemove_b59b0_23 rfl rfl ?_
    refine g_iconst C dJx4a65c_fastRemove_b59b0_24 (v := 1) (by decide) ?_
    refine g_iadd C dJx4a65c_fastRemove_b59b0_25 ?_
    rw [nI_1]
    refine g_aload_n C dJx4a65c_fastRemove_b59b0_26 rfl rfl ?_
    refine g_iload_n C dJx4a65c_fastRemove_b59b0_27 rfl rfl ?_
    refine g_iload_n C dJx4a65c_fastRemove_b59b0_28 rfl rfl ?_
    refine g_iload_n C dJx4a65c_fastRemove_b59b0_29 rfl rfl ?_
    refine g_isub C dJx4a65c_fastRemove_b59b0_30 ?_
    rw [pk_sub (by omega)]
    refine g_copyQ C tw_3_49 (sp := i + 1) (dp := i) (m := xs.length - 1 - i) (kv := kv) rfl rfl rfl h4 h4 (by omega) (by omega) (by omega) h8 (fun j hj w hw => hel0 w (by rw [h9 _ (by omega)] at hw; exact List.mem_of_getElem? hw)) (by simp [Value.category]) dJx4a65c_fastRemove_b59b0_31 ?_
    refine g_sub [(0, _), (1, _), (2, _), (3, _)] ⟨rfl, rfl, rfl, rfl, trivial⟩ ?_
    refine kend _ (fun j hj => ?_)
    rw [remL_get hi]
    by_cases c2 : j < i
    · rw [if_pos c2, pk_cpy_out (Or.inl (by omega)), h9 j (by omega)]
    · rw [if_neg c2, pk_cpy_in (by omega) (by omega), h9 _ (by omega)]
      congr 1; omega
theorem m_remove {Γ : GBase} (F : FB Γ) (S : PS) (a i kv v : Nat) (xs : List Nat) (hL : isL Γ S a xs) (hi : xs[i]? = some v) (h8 : kv < 8) (hel : ∀ x, x ∈ xs → al S x kv) : GMet Γ yJx4a65c_remove_915e3 cJx4a65c_remove_915e3 4 ((some (FieldType.object "java/lang/Object"))) 2 0 0 [.ref a, .int (nI i)] S (fun r S' => r = some (.ref v) ∧ isL Γ S' a (remL xs i) ∧ Fr S S' (moL a) (maL a)) noX := by
  have hlen := hL.len
  have hil : i < xs.length := (List.getElem?_eq_some_iff.mp hi).1
  obtain ⟨E, hE⟩ := hL.E (by omega)
  obtain ⟨h1, h2, h3, h4, h5, h6, h7, h10, h9⟩ := id hE
  refine GMet.of (loc0 := [(0, .ref a), (1, .int (nI i))]) F (by decide +kernel) rfl (Nat.le_of_ble_eq_true rfl) (fun X C R Tb nm => ?_)
  refine g_iload_n C dJx4a65c_remove_915e3_0 rfl rfl ?_
  refine g_aload_n C dJx4a65c_remove_915e3_1 rfl rfl ?_
  refine ge_AL_size C tw_1_53 (by exact h1) (by exact h2) dJx4a65c_remove_915e3_2 ?_
  refine g_callS C gy_J15_checkIndex_7cf53 tw_1_105 tw_1_106 (by decide) (m_checkIndex F S i xs.length hil (by omega)) rfl rfl (Nat.le_of_ble_eq_true rfl) (by omega) (by omega) dJx4a65c_remove_915e3_5 (fun _ _ h9 => h9.elim) ?_
  rintro _ _ ⟨rfl, rfl⟩
  refine g_pop C dJx4a65c_remove_915e3_8 rfl ?_
  refine g_aload_n C dJx4a65c_remove_915e3_9 rfl rfl ?_
  refine ge_AL_elementData C tw_1_52 (by exact h1) (by exact h3) dJx4a65c_remove_915e3_10 ?_
  refine g_astore_n C dJx4a65c_remove_915e3_13 rfl (by decide) rfl ?_
  refine g_aload_n C dJx4a65c_remove_915e3_14 rfl rfl ?_
  refine g_iload_n C dJx4a65c_remove_915e3_15 rfl rfl ?_
  refine g_ldQ C rfl h4 (by omega) (by omega) ((h9 i hil).trans hi) dJx4a65c_remove_915e3_16 ?_
  refine g_astore_n C dJx4a65c_remove_915e3_17 rfl (by decide) rfl ?_
  refine g_aload_n C dJx4a65c_remove_915e3_18 rfl rfl ?_
  refine g_aload_n C dJx4a65c_remove_915e3_19 rfl rfl ?_
  refine g_iload_n C dJx4a65c_remove_915e3_20 rfl rfl ?_
  refine g_callV C gy_Jx4a65c_fastRemove_b59b0 tw_4_121 tw_4_123 ts_19 (by decide) (kk := 7) rfl rfl (by exact h1) (m_fastRemove F S a E i kv xs hE hil h8 hel) rfl rfl (Nat.le_of_ble_eq_true rfl) (by omega) (by omega) dJx4a65c_remove_915e3_21 (fun _ _ h9 => h9.elim) ?_
  rintro _ _ ⟨rfl, p1, p2⟩
  refine g_aload_n C dJx4a65c_remove_915e3_24 rfl rfl ?_
  refine g_aret C R (Or.inl ⟨_, rfl⟩) (by omega) (by omega) dJx4a65c_remove_915e3_25 ?_
  exact ⟨rfl, p1, p2⟩
theorem m_clear {Γ : GBase} (F : FB Γ) (S : PS) (a : Nat) (xs : List Nat) (hL : isL Γ S a xs) : GMet Γ yJx4a65c_clear_da8c8 cJx4a65c_clear_da8c8 4 ((none : Option FieldType)) 0 0 0 [.ref a] S (fun r S' => r = none ∧ isL Γ S' a [] ∧ Fr S S' (moL a) (maL a)) noX := by
  have hlen := hL.len
  obtain ⟨ha, hs, E, hE, hc⟩ := hL
  refine GMet.of (loc0 := [(0, .ref a)]) F (by decide +kernel) rfl (Nat.le_of_ble_eq_true rfl) (fun X C R Tb nm => ?_)
  refine g_aload_n C dJx4a65c_clear_da8c8_0 rfl rfl ?_
  refine g_dup C dJx4a65c_clear_da8c8_1 rfl ?_
  refine ge_AL_modCount C tw_1_55 (by exact ha) rfl dJx4a65c_clear_da8c8_2 ?_
  refine g_iconst C dJx4a65c_clear_da8c8_5 (v := 1) (by decide) ?_
  refine g_iadd C dJx4a65c_clear_da8c8_6 ?_
  refine pu_AL_modCount C tw_1_55 (by exact ha) dJx4a65c_clear_da8c8_7 ?_
  refine g_aload_n C dJx4a65c_clear_da8c8_10 rfl rfl ?_
  refine ge_AL_elementData C tw_1_52 (by exact ha) (by exact hE) dJx4a65c_clear_da8c8_11 ?_
  refine g_astore_n C dJx4a65c_clear_da8c8_14 rfl (by decide) rfl ?_
  refine g_aload_n C dJx4a65c_clear_da8c8_15 rfl rfl ?_
  refine ge_AL_size C tw_1_53 (by exact ha) (by exact hs) dJx4a65c_clear_da8c8_16 ?_
  refine g_istore_n C dJx4a65c_clear_da8c8_19 rfl (by decide) rfl ?_
  refine g_aload_n C dJx4a65c_clear_da8c8_20 rfl rfl ?_
  refine g_iconst C dJx4a65c_clear_da8c8_21 (v := 0) (by decide) ?_
  refine g_dup_x1 C dJx4a65c_clear_da8c8_22 rfl rfl ?_
  refine pu_AL_size C tw_1_53 (by exact ha) dJx4a65c_clear_da8c8_23 ?_
  refine g_istore_n C dJx4a65c_clear_da8c8_26 rfl (by decide) rfl ?_
  generalize hm : pI S 224 a + 1 = mm
  have hF0 : Fr S (uI (uI S 224 a mm) 226 a 0) (moL a) (maL a) := Fr.trL (fr_uI rfl) (fr_uI rfl)
  have hs0 : pI (uI (uI S 224 a mm) 226 a 0) 226 a = nI 0 := uI_q
  have ha0 : al (uI (uI S 224 a mm) 226 a 0) a 7 := ha
  have hE0 : pP (uI (uI S 224 a mm) 226 a 0) 225 a = some E := hE
  have hc0 : (E = bE Γ ∧ xs = []) ∨ (al (uI (uI S 224 a mm) 226 a 0) E 12 ∧ pW (uI (uI S 224 a mm) 226 a 0) E = a ∧ 0 < pN (uI (uI S 224 a mm) 226 a 0) E ∧ xs.length ≤ pN (uI (uI S 224 a mm) 226 a 0) E ∧ pN (uI (uI S 224 a mm) 226 a 0) E ≤ 100) := by
    rcases hc with h | ⟨c1, c2, c3, c4, c5, c6⟩
    · exact Or.inl h
    · exact Or.inr ⟨c1, c2, c3, c4, c5⟩
  refine g_know (fun hAA => ?_)
  have hnE : bE Γ ∉ pL S := fun q => g_E0 F hAA q
  generalize uI (uI S 224 a mm) 226 a 0 = S0 at hF0 hs0 ha0 hE0 hc0 ⊢
  have loop : ∀ (m i : Nat) (row : Nat → Option Nat), i + m = xs.length → GW Γ X (uRP S0 E row) 0 0 27 [(0, .ref a), (1, .ref E), (2, .int (nI xs.length)), (3, .int (nI i))] [] := by
    intro m
    induction m with
    | zero =>
      intro i row hi
      refine g_iload_n C dJx4a65c_clear_da8c8_27 rfl rfl ?_
      refine g_iload_n C dJx4a65c_clear_da8c8_28 rfl rfl ?_
      refine g_icmp_ge C dJx4a65c_clear_da8c8_29 (tgt := 42) (by decide) (fun c => ?_) (fun c => ?_)
      · refine g_vret C R (by omega) (by omega) dJx4a65c_clear_da8c8_42 ?_
        refine ⟨rfl, ⟨ha0, hs0, E, hE0, ?_⟩, ?_⟩
        · rcases hc0 with h | ⟨c1, c2, c3, c4, c5⟩
          · exact Or.inl ⟨h.1, rfl⟩
          · exact Or.inr ⟨c1, c2, c3, Nat.zero_le _, c5, fun j hj => absurd hj (Nat.not_lt_zero _)⟩
        · rcases hc0 with ⟨e1, e2⟩ | ⟨c1, c2, c3, c4, c5⟩
          · refine hF0.tr (ma' := fun _ b => b = E) (mo' := fun _ _ => False) (fr_uRP rfl) (fun _ _ _ h => h.elim id False.elim) (fun o b hb h => ?_)
            rcases h with h | h
            · exact h
            · exact absurd (by rw [← e1, ← h]; exact hb) hnE
          · exact hF0.trL (fr_uRP c2)
      · exact absurd (nI_le (by omega) (by omega)) c
    | succ m ih =>
      intro i row hi
      refine g_iload_n C dJx4a65c_clear_da8c8_27 rfl rfl ?_
      refine g_iload_n C dJx4a65c_clear_da8c8_28 rfl rfl ?_
      refine g_icmp_ge C dJx4a65c_clear_da8c8_29 (tgt := 42) (by decide) (fun c => ?_) (fun c => ?_)
      · exact absurd c (nI_ge (by omega) (by omega))
      · rcases hc0 with ⟨e1, e2⟩ | ⟨c1, c2, c3, c4, c5⟩
        · exfalso; rw [e2] at hi; simp at hi
        · refine g_aload_n C dJx4a65c_clear_da8c8_32 rfl rfl ?_
          refine g_iload_n C dJx4a65c_clear_da8c8_33 rfl rfl ?_
          refine g_null C dJx4a65c_clear_da8c8_34 ?_
          refine g_stQN C  rfl (by exact c1) (by show _ < pN S0 E; omega) (by omega) dJx4a65c_clear_da8c8_35 ?_
          refine g_iinc C dJx4a65c_clear_da8c8_36 rfl (by first | exact inc1 _ | exact rfl) (by decide) rfl ?_
          refine g_goto C dJx4a65c_clear_da8c8_39 (tgt := 27) (by decide) ?_
          refine g_sub [(0, _), (1, _), (2, _), (3, _)] ⟨rfl, rfl, rfl, rfl, trivial⟩ ?_
          rw [uRP_uRP]
          exact ih (i + 1) _ (by omega)
  rw [← uRP_self S0 E]
  refine g_sub [(0, _), (1, _), (2, _), (3, _)] ⟨rfl, rfl, rfl, rfl, trivial⟩ ?_
  exact loop xs.length 0 _ (by omega)
theorem uR_q {S : PS} {a : Nat} {r : Nat → Int32} : pR (uR S a r) a = r := va_up_self _ _ _
theorem uR_ne {S : PS} {a b : Nat} {r : Nat → Int32} (h : b ≠ a) : pR (uR S a r) b = pR S b := va_up_ne _ _ h
theorem uR_uR {S : PS} {a : Nat} {r r' : Nat → Int32} : uR (uR S a r) a r' = uR S a r' := by
  obtain ⟨s1, s2, s3, s4, s5, s6, s7, s8, s9, s10⟩ := S
  simp only [uR, Prod.mk.injEq, true_and, and_true]
  funext b
  by_cases hb : b = a
  · subst hb; rw [va_up_self, va_up_self]
  · rw [va_up_ne _ _ hb, va_up_ne _ _ hb, va_up_ne _ _ hb]
theorem uR_self (S : PS) (a : Nat) : uR S a (pR S a) = S := by
  obtain ⟨s1, s2, s3, s4, s5, s6, s7, s8, s9, s10⟩ := S
  simp only [uR, pR, Prod.mk.injEq, true_and, and_true]
  funext b
  by_cases hb : b = a
  · subst hb; exact va_up_self _ _ _
  · exact va_up_ne _ _ hb
theorem m_fill {Γ : GBase} (F : FB Γ) (S : PS) (T : Nat) (v : Int32) (hT : al S T 8) (hN : pN S T ≤ 1000000) : GMet Γ yJ7_fill_53178 cJ7_fill_53178 4 ((none : Option FieldType)) 0 0 0 [.ref T, .int v] S (fun r S' => r = none ∧ ∃ row, S' = uR S T row ∧ ∀ j, j < pN S T → row j = v) noX := by
  refine GMet.of (loc0 := [(0, .ref T), (1, .int v)]) F (by decide +kernel) rfl (Nat.le_of_ble_eq_true rfl) (fun X C R Tb nm => ?_)
  have loop : ∀ (m i : Nat) (row : Nat → Int32), i + m = pN S T → (∀ j, j < i → row j = v) → GW Γ X (uR S T row) 0 0 5 [(0, .ref T), (1, .int v), (2, .int (nI i)), (3, .int (nI (pN S T)))] [] := by
    intro m
    induction m with
    | zero =>
      intro i row hi hr
      refine g_iload_n C dJ7_fill_53178_5 rfl rfl ?_
      refine g_iload_n C dJ7_fill_53178_6 rfl rfl ?_
      refine g_icmp_ge C dJ7_fill_53178_7 (tgt := 20) (by decide) (fun c => ?_) (fun c => ?_)
      · refine g_vret C R (by omega) (by omega) dJ7_fill_53178_20 ?_
        exact ⟨rfl, row, rfl, fun j hj => hr j (by omega)⟩
      · exact absurd (nI_le (by omega) (by omega)) c
    | succ m ih =>
      intro i row hi hr
      refine g_iload_n C dJ7_fill_53178_5 rfl rfl ?_
      refine g_iload_n C dJ7_fill_53178_6 rfl rfl ?_
      refine g_icmp_ge C dJ7_fill_53178_7 (tgt := 20) (by decide) (fun c => ?_) (fun c => ?_)
      · exact absurd c (nI_ge (by omega) (by omega))
      · refine g_aload_n C dJ7_fill_53178_10 rfl rfl ?_
        refine g_iload_n C dJ7_fill_53178_11 rfl rfl ?_
        refine g_iload_n C dJ7_fill_53178_12 rfl rfl ?_
        refine g_stI C rfl (by exact hT) (by show i < pN S T; omega) (by omega) dJ7_fill_53178_13 ?_
        refine g_iinc C dJ7_fill_53178_14 rfl (by first | exact inc1 _ | exact rfl) (by decide) rfl ?_
        refine g_goto C dJ7_fill_53178_17 (tgt := 5) (by decide) ?_
        rw [uR_uR, uR_q]
        refine g_sub [(0, _), (1, _), (2, _), (3, _)] ⟨rfl, rfl, rfl, rfl, trivial⟩ ?_
        refine ih (i + 1) _ (by omega) (fun j hj => ?_)
        by_cases c2 : j = i
        · rw [c2, va_up_self]
        · rw [va_up_ne _ _ c2]; exact hr j (by omega)
  refine g_iconst C dJ7_fill_53178_0 (v := 0) (by decide) ?_
  refine g_istore_n C dJ7_fill_53178_1 rfl (by decide) rfl ?_
  refine g_aload_n C dJ7_fill_53178_2 rfl rfl ?_
  refine g_alen C (by decide) hT dJ7_fill_53178_3 ?_
  refine g_istore_n C dJ7_fill_53178_4 rfl (by decide) rfl ?_
  rw [← uR_self S T]
  refine g_sub [(0, _), (1, _), (2, _), (3, _)] ⟨rfl, rfl, rfl, rfl, trivial⟩ ?_
  exact loop (pN S T) 0 _ (by omega) (fun j hj => absurd hj (Nat.not_lt_zero _))
/-- the sign, as Integer.signum has it, of a small number -/
def sgnZ (z : Int) : Int32 := if z < 0 then -1 else if z = 0 then 0 else 1
theorem sgn_all : ∀ n : Nat, n < 201 → (((Int32.ofInt ((n : Int) - 100)) >>> ((31 : Int32) &&& 31)) ||| (((-(Int32.ofInt ((n : Int) - 100))).toUInt32 >>> ((31 : Int32).toUInt32 &&& Int32.toUInt32 31)).toInt32)) = sgnZ ((n : Int) - 100) := by decide +kernel
theorem m_signum {Γ : GBase} (F : FB Γ) (S : PS) (z : Int) (h1 : -100 ≤ z) (h2 : z ≤ 100) : GMet Γ yJ6_signum_0f7a4 cJ6_signum_0f7a4 1 ((some FieldType.int)) 0 0 0 [.int (Int32.ofInt z)] S (fun r S' => r = some (.int (sgnZ z)) ∧ S = S') noX := by
  obtain ⟨n, hn, rfl⟩ : ∃ n : Nat, n < 201 ∧ z = (n : Int) - 100 := ⟨(z + 100).toNat, by omega, by omega⟩
  refine GMet.of (loc0 := [(0, .int (Int32.ofInt ((n : Int) - 100)))]) F (by decide +kernel) rfl (Nat.le_of_ble_eq_true rfl) (fun X C R Tb nm => ?_)
  refine g_iload_n C dJ6_signum_0f7a4_0 rfl rfl ?_
  refine g_bipush C dJ6_signum_0f7a4_1 (v := 31) (by decide) ?_
  refine g_ishr C dJ6_signum_0f7a4_3 ?_
  refine g_iload_n C dJ6_signum_0f7a4_4 rfl rfl ?_
  refine g_ineg C dJ6_signum_0f7a4_5 ?_
  refine g_bipush C dJ6_signum_0f7a4_6 (v := 31) (by decide) ?_
  refine g_iushr C dJ6_signum_0f7a4_8 ?_
  refine g_ior C dJ6_signum_0f7a4_9 ?_
  rw [sgn_all n hn]
  refine g_iret C R rfl (by omega) (by omega) dJ6_signum_0f7a4_10 ?_
  exact ⟨rfl, rfl⟩
end
section
/-! ===== paths: what a puppet's cues do to it; the class Path ===== -/
/-- a cue: kind, beat, place, track -/
abbrev D4 : Type := Nat × Nat × Nat × Nat
/-- where a puppet stands in its cues: not on stage, or entered at, track, from place, to place, from beat, to beat -/
abbrev PT : Type := Option (Nat × Nat × Nat × Nat × Nat × Nat)
def ndist (a b : Nat) : Nat := if a ≤ b then b - a else a - b
def pAllows (p : PT) (d : D4) : Bool := match p with
  | none => d.1 == 0
  | some (e, _, _, tp, _, tb) => !(d.1 == 0) && decide (tb ≤ d.2.1) && (if d.1 = 1 then decide (d.2.1 + ndist tp d.2.2.1 < 1000) else if d.1 = 3 then decide (e < d.2.1) else true)
def pFollow (p : PT) (d : D4) : PT :=
  if d.1 = 0 then some (d.2.1, d.2.2.2, d.2.2.1, d.2.2.1, d.2.1, d.2.1) else match p with
  | none => none
  | some (e, t, fp, tp, fb, tb) => if d.1 = 1 then some (e, t, tp, d.2.2.1, d.2.1, d.2.1 + ndist tp d.2.2.1) else if d.1 = 2 then some (e, d.2.2.2, fp, tp, fb, tb) else none
def plAt (p : PT) (b : Nat) : Option Nat := match p with
  | none => none
  | some (_, _, fp, tp, fb, tb) => some (if tb ≤ b then tp else if fp < tp then fp + (b - fb) else fp - (b - fb))
def trOf (p : PT) : Option Nat := match p with
  | none => none
  | some (_, t, _, _, _, _) => some t
/-- none is -1 -/
def zO (o : Option Nat) : Int32 := match o with
  | none => -1
  | some x => nI x
def okD (d : D4) : Prop := d.1 < 4 ∧ d.2.1 < 1000 ∧ (d.1 ≤ 1 → d.2.2.1 < 20) ∧ (d.1 = 0 ∨ d.1 = 2 → d.2.2.2 < 4)
def okP (p : PT) : Prop := match p with
  | none => True
  | some (e, t, fp, tp, fb, tb) => e < 1000 ∧ t < 4 ∧ fp < 20 ∧ tp < 20 ∧ fb < 1000 ∧ tb = fb + ndist fp tp
theorem okP_follow {p : PT} {d : D4} (hp : okP p) (hd : okD d) : okP (pFollow p d) := by
  obtain ⟨k, b, x, t⟩ := d
  obtain ⟨h1, h2, h3, h4⟩ := hd
  simp only at h1 h2 h3 h4
  unfold pFollow
  by_cases h0 : k = 0
  · subst h0
    have := h3 (by omega); have := h4 (Or.inl rfl)
    simp [okP, ndist]
    omega
  · simp only [if_neg h0]
    cases p with
    | none => trivial
    | some q =>
      obtain ⟨e, t', fp, tp, fb, tb⟩ := q
      simp only [okP] at hp
      obtain ⟨p1, p2, p3, p4, p5, p6⟩ := hp
      by_cases hk1 : k = 1
      · simp only [if_pos hk1, okP]
        have := h3 (by omega)
        exact ⟨p1, p2, p4, this, h2, trivial⟩
      · by_cases hk2 : k = 2
        · simp only [if_neg hk1, if_pos hk2, okP]
          exact ⟨p1, h4 (Or.inr hk2), p3, p4, p5, p6⟩
        · simp only [if_neg hk1, if_neg hk2, okP]
/-- a Cue object that says d -/
def CueObj (S : PS) (c : Nat) (d : D4) : Prop := al S c 0 ∧ pI S 0 c = nI d.1 ∧ pI S 2 c = nI d.2.1 ∧ (d.1 ≤ 1 → pI S 3 c = nI d.2.2.1) ∧ (d.1 = 0 ∨ d.1 = 2 → pI S 4 c = nI d.2.2.2) ∧ okD d
theorem CueObj.fr {S S' : PS} {mo ma : Nat → Nat → Prop} {c : Nat} {d : D4} (h : CueObj S c d) (hf : Fr S S' mo ma) (hm : ∀ f, f < 5 → ¬ mo f c) : CueObj S' c d := by
  obtain ⟨h1, h2, h3, h4, h5, h6⟩ := h
  have e := (hf c h1.1).2.2.2.2.1
  exact ⟨h1.fr hf, (e 0 (hm 0 (by decide))).1.trans h2, (e 2 (hm 2 (by decide))).1.trans h3, fun q => (e 3 (hm 3 (by decide))).1.trans (h4 q), fun q => (e 4 (hm 4 (by decide))).1.trans (h5 q), h6⟩
def PathIs (S : PS) (q : Nat) (p : PT) : Prop := al S q 1 ∧ okP p ∧ match p with
  | none => pI S 32 q = 0
  | some (e, t, fp, tp, fb, tb) => pI S 32 q = 1 ∧ pI S 33 q = nI e ∧ pI S 34 q = nI t ∧ pI S 35 q = nI fp ∧ pI S 36 q = nI tp ∧ pI S 37 q = nI fb ∧ pI S 38 q = nI tb
def moO (a : Nat) : Nat → Nat → Prop := fun _ b => b = a
def maN : Nat → Nat → Prop := fun _ _ => False
theorem jabs_sub {a b : Nat} (ha : a < 1000000) (hb : b < 1000000) : jabs (nI a - nI b) = nI (ndist a b) := by
  unfold jabs ndist
  by_cases h : b ≤ a
  · rw [pk_sub h, if_pos (nI_pos' (by omega))]
    by_cases h2 : a ≤ b
    · rw [if_pos h2]; congr 1; omega
    · rw [if_neg h2]
  · rw [if_pos (show a ≤ b by omega)]
    have h3 : nI a - nI b < 0 := pk_sneg (by omega) (by omega)
    rw [if_neg (fun q => by rw [Int32.le_iff_toInt_le, Int32.toInt_zero] at q; rw [Int32.lt_iff_toInt_lt, Int32.toInt_zero] at h3; omega)]
    rw [← pk_sub (show a ≤ b by omega)]
    apply Int32.toBitVec_inj.mp
    simp only [Int32.toBitVec_sub]
    apply BitVec.eq_of_toNat_eq
    simp only [BitVec.toNat_sub]
    have := (nI a).toBitVec.isLt
    have := (nI b).toBitVec.isLt
    have e0 : (0 : Int32).toBitVec.toNat = 0 := rfl
    omega
theorem ndist_le {a b : Nat} (ha : a < 20) (hb : b < 20) : ndist a b < 20 := by unfold ndist; split <;> omega
theorem m_distance {Γ : GBase} (F : FB Γ) (S : PS) (x y : Nat) (hx : x < 1000000) (hy : y < 1000000) : GMet Γ yX5_distance cX5_distance 2 ((some FieldType.int)) 0 0 0 [.int (nI x), .int (nI y)] S (fun r S' => r = some (.int (nI (ndist x y))) ∧ S = S') noX := by
  refine GMet.of (loc0 := [(0, .int (nI x)), (1, .int (nI y))]) F (by decide +kernel) rfl (Nat.le_of_ble_eq_true rfl) (fun X C R Tb nm => ?_)
  refine g_iload_n C dX5_distance_0 rfl rfl ?_
  refine g_iload_n C dX5_distance_1 rfl rfl ?_
  refine g_isub C dX5_distance_2 ?_
  refine g_abs C tw_3_73 (by simp [Value.category]) (by omega) (by omega) dX5_distance_3 ?_
  rw [jabs_sub hx hy]
  refine g_iret C R rfl (by omega) (by omega) dX5_distance_6 ?_
  exact ⟨rfl, rfl⟩
theorem m_Path_init {Γ : GBase} (F : FB Γ) (S : PS) (a : Nat) (ha : al S a 1) : GMet Γ yX1_init cX1_init 1 ((none : Option FieldType)) 1 0 0 [.ref a] S (fun r S' => r = none ∧ PathIs S' a none ∧ Fr S S' (moO a) maN) noX := by
  refine GMet.of (loc0 := [(0, .ref a)]) F (by decide +kernel) rfl (Nat.le_of_ble_eq_true rfl) (fun X C R Tb nm => ?_)
  refine g_aload_n C dX1_init_0 rfl rfl ?_
  refine g_objInit C tw_4_81 tw_1_36 tw_1_37 dX1_init_1 (by simp [Value.category]) ?_
  refine g_aload_n C dX1_init_4 rfl rfl ?_
  refine g_iconst C dX1_init_5 (v := 0) (by decide) ?_
  refine pu_Path_isOnStage C tw_4_82 (by exact ha) (by first | exact Or.inl rfl | exact Or.inr rfl) dX1_init_6 ?_
  refine g_aload_n C dX1_init_9 rfl rfl ?_
  refine g_iconst C dX1_init_10 (v := 0) (by decide) ?_
  refine pu_Path_enteredAt C tw_4_83 (by exact ha) dX1_init_11 ?_
  refine g_aload_n C dX1_init_14 rfl rfl ?_
  refine g_iconst C dX1_init_15 (v := -1) (by decide) ?_
  refine pu_Path_track C tw_4_84 (by exact ha) dX1_init_16 ?_
  refine g_aload_n C dX1_init_19 rfl rfl ?_
  refine g_iconst C dX1_init_20 (v := -1) (by decide) ?_
  refine pu_Path_fromPlace C tw_4_85 (by exact ha) dX1_init_21 ?_
  refine g_aload_n C dX1_init_24 rfl rfl ?_
  refine g_iconst C dX1_init_25 (v := -1) (by decide) ?_
  refine pu_Path_toPlace C tw_4_86 (by exact ha) dX1_init_26 ?_
  refine g_aload_n C dX1_init_29 rfl rfl ?_
  refine g_iconst C dX1_init_30 (v := 0) (by decide) ?_
  refine pu_Path_fromBeat C tw_4_87 (by exact ha) dX1_init_31 ?_
  refine g_aload_n C dX1_init_34 rfl rfl ?_
  refine g_iconst C dX1_init_35 (v := 0) (by decide) ?_
  refine pu_Path_toBeat C tw_4_88 (by exact ha) dX1_init_36 ?_
  refine g_vret C R (by omega) (by omega) dX1_init_39 ?_
  refine ⟨rfl, ⟨ha, trivial, ?_⟩, ?_⟩
  · rw [uI_ne (Or.inl (by decide)), uI_ne (Or.inl (by decide)), uI_ne (Or.inl (by decide)), uI_ne (Or.inl (by decide)), uI_ne (Or.inl (by decide)), uI_ne (Or.inl (by decide)), uI_q]
  · have t : ∀ {S1 S2 : PS}, Fr S S1 (moO a) maN → Fr S1 S2 (moO a) maN → Fr S S2 (moO a) maN := fun h1 h2 => h1.tr h2 (fun _ _ _ h => h.elim id id) (fun _ _ _ h => h.elim id id)
    exact t (t (t (t (t (t (fr_uI rfl) (fr_uI rfl)) (fr_uI rfl)) (fr_uI rfl)) (fr_uI rfl)) (fr_uI rfl)) (fr_uI rfl)
theorem m_walk {Γ : GBase} (F : FB Γ) (S : PS) (a x y b : Nat) (ha : al S a 1) (hx : x < 20) (hy : y < 20) : GMet Γ yX1_walk cX1_walk 4 ((none : Option FieldType)) 1 0 0 [.ref a, .int (nI x), .int (nI y), .int (nI b)] S (fun r S' => r = none ∧ S' = uI (uI (uI (uI S 35 a (nI x)) 36 a (nI y)) 37 a (nI b)) 38 a (nI (b + ndist x y))) noX := by
  refine GMet.of (loc0 := [(0, .ref a), (1, .int (nI x)), (2, .int (nI y)), (3, .int (nI b))]) F (by decide +kernel) rfl (Nat.le_of_ble_eq_true rfl) (fun X C R Tb nm => ?_)
  refine g_aload_n C dX1_walk_0 rfl rfl ?_
  refine g_iload_n C dX1_walk_1 rfl rfl ?_
  refine pu_Path_fromPlace C tw_4_85 (by exact ha) dX1_walk_2 ?_
  refine g_aload_n C dX1_walk_5 rfl rfl ?_
  refine g_iload_n C dX1_walk_6 rfl rfl ?_
  refine pu_Path_toPlace C tw_4_86 (by exact ha) dX1_walk_7 ?_
  refine g_aload_n C dX1_walk_10 rfl rfl ?_
  refine g_iload_n C dX1_walk_11 rfl rfl ?_
  refine pu_Path_fromBeat C tw_4_87 (by exact ha) dX1_walk_12 ?_
  refine g_aload_n C dX1_walk_15 rfl rfl ?_
  refine g_iload_n C dX1_walk_16 rfl rfl ?_
  refine g_iload_n C dX1_walk_17 rfl rfl ?_
  refine g_iload_n C dX1_walk_18 rfl rfl ?_
  refine g_callSN C gy_X5_distance tw_4_108 tw_3_71 (by decide) (m_distance F _ x y (by omega) (by omega)) rfl rfl (Nat.le_of_ble_eq_true rfl) (by omega) (by omega) dX1_walk_19 ?_
  rintro _ _ ⟨rfl, rfl⟩
  refine g_iadd C dX1_walk_22 ?_
  rw [nI_add]
  refine pu_Path_toBeat C tw_4_88 (by exact ha) dX1_walk_23 ?_
  refine g_vret C R (by omega) (by omega) dX1_walk_26 ?_
  exact ⟨rfl, rfl⟩
theorem Fr.trO {S S1 S2 : PS} {a : Nat} (h1 : Fr S S1 (moO a) maN) (h2 : Fr S1 S2 (moO a) maN) : Fr S S2 (moO a) maN := h1.tr h2 (fun _ _ _ h => h.elim id id) (fun _ _ _ h => h.elim id id)
theorem m_follow {Γ : GBase} (F : FB Γ) (S : PS) (a c : Nat) (p : PT) (d : D4) (hP : PathIs S a p) (hC : CueObj S c d) (hal : pAllows p d = true) : GMet Γ yX1_follow cX1_follow 2 ((none : Option FieldType)) 2 0 0 [.ref a, .ref c] S (fun r S' => r = none ∧ PathIs S' a (pFollow p d) ∧ Fr S S' (moO a) maN) noX := by
  obtain ⟨k, bt, pc, tr⟩ := d
  obtain ⟨hc1, hc2, hc3, hc4, hc5, hok⟩ := hC
  obtain ⟨ha, hokp, hp⟩ := hP
  have hok2 := okP_follow hokp hok
  have hca : c ≠ a := hc1.kne ha (by decide)
  have hk : k < 4 := hok.1
  simp only at hc2 hc3 hc4 hc5
  refine GMet.of (loc0 := [(0, .ref a), (1, .ref c)]) F (by decide +kernel) rfl (Nat.le_of_ble_eq_true rfl) (fun X C R Tb nm => ?_)
  refine g_aload_n C dX1_follow_0 rfl rfl ?_
  refine ge_Cue_kind C tw_4_17 (by exact hc1) (by exact hc2) dX1_follow_1 ?_
  have kx : ∀ i, k = i → (nI k).toInt = (i : Int) := fun i hi => by rw [hi, nI_toInt (by omega)]
  rcases (show k = 0 ∨ k = 1 ∨ k = 2 ∨ k = 3 by omega) with rfl | rfl | rfl | rfl
  · refine g_tableIn C dX1_follow_4 (by decide) (by decide) (off := 28) (by decide +kernel) (tgt := 32) (by decide) ?_
    have hx : pc < 20 := hok.2.2.1 (Nat.zero_le _)
    refine g_aload_n C dX1_follow_32 rfl rfl ?_
    refine g_iconst C dX1_follow_33 (v := 1) (by decide) ?_
    refine pu_Path_isOnStage C tw_4_82 (by exact ha) (by first | exact Or.inl rfl | exact Or.inr rfl) dX1_follow_34 ?_
    refine g_aload_n C dX1_follow_37 rfl rfl ?_
    refine g_aload_n C dX1_follow_38 rfl rfl ?_
    refine ge_Cue_beat C tw_4_24 (by exact hc1) (by exact (uI_ne (Or.inl (by decide))).trans hc3) dX1_follow_39 ?_
    refine pu_Path_enteredAt C tw_4_83 (by exact ha) dX1_follow_42 ?_
    refine g_aload_n C dX1_follow_45 rfl rfl ?_
    refine g_aload_n C dX1_follow_46 rfl rfl ?_
    refine ge_Cue_track C tw_4_30 (by exact hc1) (by exact (uI_ne (Or.inl (by decide))).trans ((uI_ne (Or.inl (by decide))).trans (hc5 (Or.inl rfl)))) dX1_follow_47 ?_
    refine pu_Path_track C tw_4_84 (by exact ha) dX1_follow_50 ?_
    refine g_aload_n C dX1_follow_53 rfl rfl ?_
    refine g_aload_n C dX1_follow_54 rfl rfl ?_
    refine ge_Cue_place C tw_4_27 (by exact hc1) (by exact (uI_ne (Or.inl (by decide))).trans ((uI_ne (Or.inl (by decide))).trans ((uI_ne (Or.inl (by decide))).trans (hc4 (by decide))))) dX1_follow_55 ?_
    refine g_aload_n C dX1_follow_58 rfl rfl ?_
    refine ge_Cue_place C tw_4_27 (by exact hc1) (by exact (uI_ne (Or.inl (by decide))).trans ((uI_ne (Or.inl (by decide))).trans ((uI_ne (Or.inl (by decide))).trans (hc4 (by decide))))) dX1_follow_59 ?_
    refine g_aload_n C dX1_follow_62 rfl rfl ?_
    refine ge_Cue_beat C tw_4_24 (by exact hc1) (by exact (uI_ne (Or.inl (by decide))).trans ((uI_ne (Or.inl (by decide))).trans ((uI_ne (Or.inl (by decide))).trans hc3))) dX1_follow_63 ?_
    refine g_callV C gy_X1_walk tw_4_113 tw_4_115 ts_18 (by decide) (kk := 1) rfl rfl (by exact ha) (m_walk F _ a pc pc bt ha hx hx) rfl rfl (Nat.le_of_ble_eq_true rfl) (by omega) (by omega) dX1_follow_66 (fun _ _ h9 => h9.elim) ?_
    rintro _ _ ⟨rfl, rfl⟩
    refine g_goto C dX1_follow_69 (tgt := 107) (by decide) ?_
    refine g_vret C R (by omega) (by omega) dX1_follow_107 ?_
    have e0 : ndist pc pc = 0 := by simp [ndist]
    rw [e0, Nat.add_zero]
    refine ⟨rfl, ⟨ha, hok2, ?_⟩, ?_⟩
    · simp only [pFollow, if_true]
      simp [uI_q, uI_ne, pI, uI]
    · exact Fr.trO (Fr.trO (Fr.trO (Fr.trO (Fr.trO (Fr.trO (fr_uI rfl) (fr_uI rfl)) (fr_uI rfl)) (fr_uI rfl)) (fr_uI rfl)) (fr_uI rfl)) (fr_uI rfl)
  · refine g_tableIn C dX1_follow_4 (by decide) (by decide) (off := 68) (by decide +kernel) (tgt := 72) (by decide) ?_
    have hx : pc < 20 := hok.2.2.1 (Nat.le_refl _)
    cases p with
    | none => exact absurd hal (by simp [pAllows])
    | some q =>
      obtain ⟨e, t, fp, tp, fb, tb⟩ := q
      obtain ⟨q1, q2, q3, q4, q5, q6, q7⟩ := hp
      refine g_aload_n C dX1_follow_72 rfl rfl ?_
      refine g_aload_n C dX1_follow_73 rfl rfl ?_
      refine ge_Path_toPlace C tw_4_86 (by exact ha) (by exact q5) dX1_follow_74 ?_
      refine g_aload_n C dX1_follow_77 rfl rfl ?_
      refine ge_Cue_place C tw_4_27 (by exact hc1) (by exact (hc4 (by decide))) dX1_follow_78 ?_
      refine g_aload_n C dX1_follow_81 rfl rfl ?_
      refine ge_Cue_beat C tw_4_24 (by exact hc1) (by exact hc3) dX1_follow_82 ?_
      refine g_callV C gy_X1_walk tw_4_113 tw_4_115 ts_18 (by decide) (kk := 1) rfl rfl (by exact ha) (m_walk F _ a tp pc bt ha hokp.2.2.2.1 hx) rfl rfl (Nat.le_of_ble_eq_true rfl) (by omega) (by omega) dX1_follow_85 (fun _ _ h9 => h9.elim) ?_
      rintro _ _ ⟨rfl, rfl⟩
      refine g_goto C dX1_follow_88 (tgt := 107) (by decide) ?_
      refine g_vret C R (by omega) (by omega) dX1_follow_107 ?_
      refine ⟨rfl, ⟨ha, hok2, ?_⟩, ?_⟩
      · simp only [pFollow]
        simp [pI, uI] at q1 q2 q3 ⊢
        exact ⟨q1, q2, q3⟩
      · exact Fr.trO (Fr.trO (Fr.trO (fr_uI rfl) (fr_uI rfl)) (fr_uI rfl)) (fr_uI rfl)
  · refine g_tableIn C dX1_follow_4 (by decide) (by decide) (off := 87) (by decide +kernel) (tgt := 91) (by decide) ?_
    cases p with
    | none => exact absurd hal (by simp [pAllows])
    | some q =>
      obtain ⟨e, t, fp, tp, fb, tb⟩ := q
      obtain ⟨q1, q2, q3, q4, q5, q6, q7⟩ := hp
      refine g_aload_n C dX1_follow_91 rfl rfl ?_
      refine g_aload_n C dX1_follow_92 rfl rfl ?_
      refine ge_Cue_track C tw_4_30 (by exact hc1) (by exact (hc5 (Or.inr rfl))) dX1_follow_93 ?_
      refine pu_Path_track C tw_4_84 (by exact ha) dX1_follow_96 ?_
      refine g_goto C dX1_follow_99 (tgt := 107) (by decide) ?_
      refine g_vret C R (by omega) (by omega) dX1_follow_107 ?_
      refine ⟨rfl, ⟨ha, hok2, ?_⟩, fr_uI rfl⟩
      simp only [pFollow]
      simp [pI, uI] at q1 q2 q4 q5 q6 q7 ⊢
      exact ⟨q1, q2, q4, q5, q6, q7⟩
  · refine g_tableOut C dX1_follow_4 (Or.inr (by decide)) (tgt := 102) (by decide) ?_
    refine g_aload_n C dX1_follow_102 rfl rfl ?_
    refine g_iconst C dX1_follow_103 (v := 0) (by decide) ?_
    refine pu_Path_isOnStage C tw_4_82 (by exact ha) (by first | exact Or.inl rfl | exact Or.inr rfl) dX1_follow_104 ?_
    refine g_vret C R (by omega) (by omega) dX1_follow_107 ?_
    refine ⟨rfl, ⟨ha, hok2, ?_⟩, fr_uI rfl⟩
    cases p with
    | none => exact uI_q
    | some q =>
      obtain ⟨e, t, fp, tp, fb, tb⟩ := q
      exact uI_q
theorem m_allows {Γ : GBase} (F : FB Γ) (S : PS) (a c : Nat) (p : PT) (d : D4) (hP : PathIs S a p) (hC : CueObj S c d) : GMet Γ yX1_allows cX1_allows 2 ((some FieldType.boolean)) 1 0 0 [.ref a, .ref c] S (fun r S' => r = some (.int (if pAllows p d then 1 else 0)) ∧ S = S') noX := by
  obtain ⟨k, bt, pc, tr⟩ := d
  obtain ⟨hc1, hc2, hc3, hc4, hc5, hok⟩ := hC
  obtain ⟨ha, hokp, hp⟩ := hP
  obtain ⟨hk, hb, hx, -⟩ := hok
  simp only at hc2 hc3 hc4 hc5 hk hb hx
  refine GMet.of (loc0 := [(0, .ref a), (1, .ref c)]) F (by decide +kernel) rfl (Nat.le_of_ble_eq_true rfl) (fun X C R Tb nm => ?_)
  refine g_aload_n C dX1_allows_0 rfl rfl ?_
  refine ge_Cue_kind C tw_4_17 (by exact hc1) (by exact hc2) dX1_allows_1 ?_
  refine g_if_ne C dX1_allows_4 (tgt := 20) (by decide) (fun c0 => ?_) (fun c0 => ?_)
  · have hk0 : k ≠ 0 := fun q => c0 (by rw [q]; rfl)
    cases p with
    | none =>
      refine g_aload_n C dX1_allows_20 rfl rfl ?_
      refine ge_Path_isOnStage C tw_4_82 (by exact ha) (by exact hp) dX1_allows_21 ?_
      refine g_if_eq C dX1_allows_24 (tgt := 38) (by decide) (fun c1 => ?_) (fun c1 => ?_)
      · refine g_iconst C dX1_allows_38 (v := 0) (by decide) ?_
        refine g_iret C R rfl (by omega) (by omega) dX1_allows_39 ?_
        refine ⟨?_, rfl⟩
        rw [if_neg (by simp [pAllows, hk0])]
      · exact absurd rfl c1
    | some q =>
      obtain ⟨e, t, fp, tp, fb, tb⟩ := q
      obtain ⟨q1, q2, q3, q4, q5, q6, q7⟩ := hp
      obtain ⟨p1, p2, p3, p4, p5, p6⟩ := hokp
      have htb : tb < 2000 := by have := ndist_le p3 p4; omega
      refine g_aload_n C dX1_allows_20 rfl rfl ?_
      refine ge_Path_isOnStage C tw_4_82 (by exact ha) (by exact q1) dX1_allows_21 ?_
      refine g_if_eq C dX1_allows_24 (tgt := 38) (by decide) (fun c1 => ?_) (fun c1 => ?_)
      · exact absurd c1 (by decide)
      · refine g_aload_n C dX1_allows_27 rfl rfl ?_
        refine ge_Cue_beat C tw_4_24 (by exact hc1) (by exact hc3) dX1_allows_28 ?_
        refine g_aload_n C dX1_allows_31 rfl rfl ?_
        refine ge_Path_toBeat C tw_4_88 (by exact ha) (by exact q7) dX1_allows_32 ?_
        refine g_icmp_ge C dX1_allows_35 (tgt := 40) (by decide) (fun c2 => ?_) (fun c2 => ?_)
        · have hge : tb ≤ bt := (nI_leI (by omega) (by omega)).mp c2
          refine g_aload_n C dX1_allows_40 rfl rfl ?_
          refine ge_Cue_kind C tw_4_17 (by exact hc1) (by exact hc2) dX1_allows_41 ?_
          refine g_iconst C dX1_allows_44 (v := 1) (by decide) ?_
          rw [show (1 : Int32) = nI 1 from rfl]
          refine g_icmp_ne C dX1_allows_45 (tgt := 76) (by decide) (fun c3 => ?_) (fun c3 => ?_)
          · have hk1 : k ≠ 1 := fun q => c3 (by rw [q])
            refine g_aload_n C dX1_allows_76 rfl rfl ?_
            refine ge_Cue_kind C tw_4_17 (by exact hc1) (by exact hc2) dX1_allows_77 ?_
            refine g_iconst C dX1_allows_80 (v := 3) (by decide) ?_
            rw [show (3 : Int32) = nI 3 from rfl]
            refine g_icmp_ne C dX1_allows_81 (tgt := 95) (by decide) (fun c4 => ?_) (fun c4 => ?_)
            · have hk3 : k ≠ 3 := fun q => c4 (by rw [q])
              refine g_iconst C dX1_allows_95 (v := 1) (by decide) ?_
              refine g_goto C dX1_allows_96 (tgt := 100) (by decide) ?_
              refine g_iret C R rfl (by omega) (by omega) dX1_allows_100 ?_
              refine ⟨?_, rfl⟩
              rw [if_pos (by simp [pAllows, hk0, hk1, hk3, hge])]
            · have hk3 : k = 3 := (nI_eq (by omega) (by omega)).mp c4
              refine g_aload_n C dX1_allows_84 rfl rfl ?_
              refine ge_Cue_beat C tw_4_24 (by exact hc1) (by exact hc3) dX1_allows_85 ?_
              refine g_aload_n C dX1_allows_88 rfl rfl ?_
              refine ge_Path_enteredAt C tw_4_83 (by exact ha) (by exact q2) dX1_allows_89 ?_
              refine g_icmp_le C dX1_allows_92 (tgt := 99) (by decide) (fun c5 => ?_) (fun c5 => ?_)
              · have h5 : bt ≤ e := (nI_leI (by omega) (by omega)).mp c5
                refine g_iconst C dX1_allows_99 (v := 0) (by decide) ?_
                refine g_iret C R rfl (by omega) (by omega) dX1_allows_100 ?_
                refine ⟨?_, rfl⟩
                rw [if_neg (by simp [pAllows, hk0, hk1, hk3, hge]; omega)]
              · have h5 : e < bt := by
                  rcases Nat.lt_or_ge e bt with q | q
                  · exact q
                  · exact absurd (nI_le q (by omega)) c5
                refine g_iconst C dX1_allows_95 (v := 1) (by decide) ?_
                refine g_goto C dX1_allows_96 (tgt := 100) (by decide) ?_
                refine g_iret C R rfl (by omega) (by omega) dX1_allows_100 ?_
                refine ⟨?_, rfl⟩
                rw [if_pos (by simp [pAllows, hk0, hk1, hk3, hge]; omega)]
          · have hk1 : k = 1 := (nI_eq (by omega) (by omega)).mp c3
            have hx20 := hx (by omega)
            have hnd := ndist_le p4 hx20
            refine g_aload_n C dX1_allows_48 rfl rfl ?_
            refine ge_Cue_beat C tw_4_24 (by exact hc1) (by exact hc3) dX1_allows_49 ?_
            refine g_aload_n C dX1_allows_52 rfl rfl ?_
            refine ge_Path_toPlace C tw_4_86 (by exact ha) (by exact q5) dX1_allows_53 ?_
            refine g_aload_n C dX1_allows_56 rfl rfl ?_
            refine ge_Cue_place C tw_4_27 (by exact hc1) (by exact (hc4 (by omega))) dX1_allows_57 ?_
            refine g_callSN C gy_X5_distance tw_4_108 tw_3_71 (by decide) (m_distance F S tp pc (by omega) (by omega)) rfl rfl (Nat.le_of_ble_eq_true rfl) (by omega) (by omega) dX1_allows_60 ?_
            rintro _ _ ⟨rfl, rfl⟩
            refine g_iadd C dX1_allows_63 ?_
            rw [nI_add]
            refine g_sipush C dX1_allows_64 (v := 1000) (by decide) ?_
            rw [show (1000 : Int32) = nI 1000 from rfl]
            refine g_icmp_ge C dX1_allows_67 (tgt := 74) (by decide) (fun c4 => ?_) (fun c4 => ?_)
            · have h4 : 1000 ≤ bt + ndist tp pc := (nI_leI (by omega) (by omega)).mp c4
              refine g_iconst C dX1_allows_74 (v := 0) (by decide) ?_
              refine g_iret C R rfl (by omega) (by omega) dX1_allows_75 ?_
              refine ⟨?_, rfl⟩
              rw [if_neg (by simp [pAllows, hk0, hk1, hge]; omega)]
            · have h4 : bt + ndist tp pc < 1000 := by
                rcases Nat.lt_or_ge (bt + ndist tp pc) 1000 with q | q
                · exact q
                · exact absurd (nI_le q (by omega)) c4
              refine g_iconst C dX1_allows_70 (v := 1) (by decide) ?_
              refine g_goto C dX1_allows_71 (tgt := 75) (by decide) ?_
              refine g_iret C R rfl (by omega) (by omega) dX1_allows_75 ?_
              refine ⟨?_, rfl⟩
              rw [if_pos (by simp [pAllows, hk0, hk1, hge]; omega)]
        · have hlt : bt < tb := by
            rcases Nat.lt_or_ge bt tb with q | q
            · exact q
            · exact absurd (nI_le q (by omega)) c2
          refine g_iconst C dX1_allows_38 (v := 0) (by decide) ?_
          refine g_iret C R rfl (by omega) (by omega) dX1_allows_39 ?_
          refine ⟨?_, rfl⟩
          rw [if_neg (by simp [pAllows, hk0]; omega)]
  · have hk0 : k = 0 := by
      rcases Nat.eq_zero_or_pos k with q | q
      · exact q
      · exact absurd c0 (nI_ne0 q (by omega))
    subst hk0
    cases p with
    | none =>
      refine g_aload_n C dX1_allows_7 rfl rfl ?_
      refine ge_Path_isOnStage C tw_4_82 (by exact ha) (by exact hp) dX1_allows_8 ?_
      refine g_if_ne C dX1_allows_11 (tgt := 18) (by decide) (fun c1 => ?_) (fun c1 => ?_)
      · exact absurd rfl c1
      · refine g_iconst C dX1_allows_14 (v := 1) (by decide) ?_
        refine g_goto C dX1_allows_15 (tgt := 19) (by decide) ?_
        refine g_iret C R rfl (by omega) (by omega) dX1_allows_19 ?_
        exact ⟨rfl, rfl⟩
    | some q =>
      obtain ⟨e, t, fp, tp, fb, tb⟩ := q
      refine g_aload_n C dX1_allows_7 rfl rfl ?_
      refine ge_Path_isOnStage C tw_4_82 (by exact ha) (by exact hp.1) dX1_allows_8 ?_
      refine g_if_ne C dX1_allows_11 (tgt := 18) (by decide) (fun c1 => ?_) (fun c1 => ?_)
      · refine g_iconst C dX1_allows_18 (v := 0) (by decide) ?_
        refine g_iret C R rfl (by omega) (by omega) dX1_allows_19 ?_
        exact ⟨rfl, rfl⟩
      · exact absurd c1 (by decide)
theorem m_placeAtBeat {Γ : GBase} (F : FB Γ) (S : PS) (a b : Nat) (p : PT) (hP : PathIs S a p) (hb : b < 1000) (hfb : ∀ e t fp tp fb tb, p = some (e, t, fp, tp, fb, tb) → fb ≤ b) : GMet Γ yX1_placeAtBeat cX1_placeAtBeat 3 ((some FieldType.int)) 0 0 0 [.ref a, .int (nI b)] S (fun r S' => r = some (.int (zO (plAt p b))) ∧ S = S') noX := by
  obtain ⟨ha, hokp, hp⟩ := hP
  refine GMet.of (loc0 := [(0, .ref a), (1, .int (nI b))]) F (by decide +kernel) rfl (Nat.le_of_ble_eq_true rfl) (fun X C R Tb nm => ?_)
  cases p with
  | none =>
    refine g_aload_n C dX1_placeAtBeat_0 rfl rfl ?_
    refine ge_Path_isOnStage C tw_4_82 (by exact ha) (by exact hp) dX1_placeAtBeat_1 ?_
    refine g_if_ne C dX1_placeAtBeat_4 (tgt := 9) (by decide) (fun c => ?_) (fun c => ?_)
    · exact absurd rfl c
    · refine g_iconst C dX1_placeAtBeat_7 (v := -1) (by decide) ?_
      refine g_iret C R rfl (by omega) (by omega) dX1_placeAtBeat_8 ?_
      exact ⟨rfl, rfl⟩
  | some q =>
    obtain ⟨e, t, fp, tp, fb, tb⟩ := q
    obtain ⟨q1, q2, q3, q4, q5, q6, q7⟩ := hp
    obtain ⟨p1, p2, p3, p4, p5, p6⟩ := hokp
    have hfb' := hfb _ _ _ _ _ _ rfl
    have htb : tb < 2000 := by have := ndist_le p3 p4; omega
    refine g_aload_n C dX1_placeAtBeat_0 rfl rfl ?_
    refine ge_Path_isOnStage C tw_4_82 (by exact ha) (by exact q1) dX1_placeAtBeat_1 ?_
    refine g_if_ne C dX1_placeAtBeat_4 (tgt := 9) (by decide) (fun c => ?_) (fun c => ?_)
    · refine g_iload_n C dX1_placeAtBeat_9 rfl rfl ?_
      refine g_aload_n C dX1_placeAtBeat_10 rfl rfl ?_
      refine ge_Path_toBeat C tw_4_88 (by exact ha) (by exact q7) dX1_placeAtBeat_11 ?_
      refine g_icmp_lt C dX1_placeAtBeat_14 (tgt := 22) (by decide) (fun c2 => ?_) (fun c2 => ?_)
      · have h2 : b < tb := (nI_ltI (by omega) (by omega)).mp c2
        refine g_iload_n C dX1_placeAtBeat_22 rfl rfl ?_
        refine g_aload_n C dX1_placeAtBeat_23 rfl rfl ?_
        refine ge_Path_fromBeat C tw_4_87 (by exact ha) (by exact q6) dX1_placeAtBeat_24 ?_
        refine g_isub C dX1_placeAtBeat_27 ?_
        rw [pk_sub hfb']
        refine g_istore_n C dX1_placeAtBeat_28 rfl (by decide) rfl ?_
        refine g_aload_n C dX1_placeAtBeat_29 rfl rfl ?_
        refine ge_Path_fromPlace C tw_4_85 (by exact ha) (by exact q4) dX1_placeAtBeat_30 ?_
        refine g_aload_n C dX1_placeAtBeat_33 rfl rfl ?_
        refine ge_Path_toPlace C tw_4_86 (by exact ha) (by exact q5) dX1_placeAtBeat_34 ?_
        refine g_icmp_ge C dX1_placeAtBeat_37 (tgt := 49) (by decide) (fun c3 => ?_) (fun c3 => ?_)
        · have h3 : tp ≤ fp := (nI_leI (by omega) (by omega)).mp c3
          have h4 : tb = fb + (fp - tp) := by rw [p6]; unfold ndist; split <;> omega
          refine g_aload_n C dX1_placeAtBeat_49 rfl rfl ?_
          refine ge_Path_fromPlace C tw_4_85 (by exact ha) (by exact q4) dX1_placeAtBeat_50 ?_
          refine g_iload_n C dX1_placeAtBeat_53 rfl rfl ?_
          refine g_isub C dX1_placeAtBeat_54 ?_
          rw [pk_sub (by omega)]
          refine g_iret C R rfl (by omega) (by omega) dX1_placeAtBeat_55 ?_
          refine ⟨?_, rfl⟩
          simp only [plAt, zO]
          rw [if_neg (by omega), if_neg (by omega)]
        · have h3 : fp < tp := by
            rcases Nat.lt_or_ge fp tp with q | q
            · exact q
            · exact absurd (nI_le q (by omega)) c3
          refine g_aload_n C dX1_placeAtBeat_40 rfl rfl ?_
          refine ge_Path_fromPlace C tw_4_85 (by exact ha) (by exact q4) dX1_placeAtBeat_41 ?_
          refine g_iload_n C dX1_placeAtBeat_44 rfl rfl ?_
          refine g_iadd C dX1_placeAtBeat_45 ?_
          rw [nI_add]
          refine g_goto C dX1_placeAtBeat_46 (tgt := 55) (by decide) ?_
          refine g_iret C R rfl (by omega) (by omega) dX1_placeAtBeat_55 ?_
          refine ⟨?_, rfl⟩
          simp only [plAt, zO]
          rw [if_neg (by omega), if_pos h3]
      · have h2 : tb ≤ b := by
          rcases Nat.lt_or_ge b tb with q | q
          · exact absurd (nI_lt q (by omega)) c2
          · exact q
        refine g_aload_n C dX1_placeAtBeat_17 rfl rfl ?_
        refine ge_Path_toPlace C tw_4_86 (by exact ha) (by exact q5) dX1_placeAtBeat_18 ?_
        refine g_iret C R rfl (by omega) (by omega) dX1_placeAtBeat_21 ?_
        refine ⟨?_, rfl⟩
        simp only [plAt, zO]
        rw [if_pos h2]
    · exact absurd c (by decide)
theorem m_trackNow {Γ : GBase} (F : FB Γ) (S : PS) (a : Nat) (p : PT) (hP : PathIs S a p) : GMet Γ yX1_trackNow cX1_trackNow 1 ((some FieldType.int)) 0 0 0 [.ref a] S (fun r S' => r = some (.int (zO (trOf p))) ∧ S = S') noX := by
  obtain ⟨ha, hokp, hp⟩ := hP
  refine GMet.of (loc0 := [(0, .ref a)]) F (by decide +kernel) rfl (Nat.le_of_ble_eq_true rfl) (fun X C R Tb nm => ?_)
  cases p with
  | none =>
    refine g_aload_n C dX1_trackNow_0 rfl rfl ?_
    refine ge_Path_isOnStage C tw_4_82 (by exact ha) (by exact hp) dX1_trackNow_1 ?_
    refine g_if_eq C dX1_trackNow_4 (tgt := 14) (by decide) (fun c => ?_) (fun c => ?_)
    · refine g_iconst C dX1_trackNow_14 (v := -1) (by decide) ?_
      refine g_iret C R rfl (by omega) (by omega) dX1_trackNow_15 ?_
      exact ⟨rfl, rfl⟩
    · exact absurd rfl c
  | some q =>
    obtain ⟨e, t, fp, tp, fb, tb⟩ := q
    obtain ⟨q1, q2, q3, q4, q5, q6, q7⟩ := hp
    refine g_aload_n C dX1_trackNow_0 rfl rfl ?_
    refine ge_Path_isOnStage C tw_4_82 (by exact ha) (by exact q1) dX1_trackNow_1 ?_
    refine g_if_eq C dX1_trackNow_4 (tgt := 14) (by decide) (fun c => ?_) (fun c => ?_)
    · exact absurd c (by decide)
    · refine g_aload_n C dX1_trackNow_7 rfl rfl ?_
      refine ge_Path_track C tw_4_84 (by exact ha) (by exact q3) dX1_trackNow_8 ?_
      refine g_goto C dX1_trackNow_11 (tgt := 15) (by decide) ?_
      refine g_iret C R rfl (by omega) (by omega) dX1_trackNow_15 ?_
      exact ⟨rfl, rfl⟩
end
