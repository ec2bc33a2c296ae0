section
-- ===== PART A: goes FIRST, ahead of the names: the tables' words, and 'selects' of the private methods out of them =====
/-- a private method of a class that the tables say can be made, by its rows of tables_1 -/
def lw_okq (q : MethodName × Nat) : Prop := (q.1.cls ≠ "java/lang/invoke/MethodHandle" ∧ q.1.cls ≠ "java/lang/invoke/VarHandle") ∧ Cond.instantiable q.1.cls q.2 ∈ tables_1 ∧ Cond.privateMethod q.1 ∈ tables_1 ∧ Cond.instanceMethod q.1 ∈ tables_1
theorem lw_p0 : lw_okq (⟨"CueBook", "countClashingPairs", "()I"⟩, 8) := ⟨⟨by decide +kernel, by decide +kernel⟩, List.mem_of_getElem? (i := 31) (by decide +kernel), List.mem_of_getElem? (i := 94) (by decide +kernel), List.mem_of_getElem? (i := 95) (by decide +kernel)⟩
theorem lw_p1 : lw_okq (⟨"CueBook", "findCasting", "()V"⟩, 8) := ⟨⟨by decide +kernel, by decide +kernel⟩, List.mem_of_getElem? (i := 31) (by decide +kernel), List.mem_of_getElem? (i := 130) (by decide +kernel), List.mem_of_getElem? (i := 131) (by decide +kernel)⟩
theorem lw_p2 : lw_okq (⟨"CueBook", "orderStays", "()V"⟩, 8) := ⟨⟨by decide +kernel, by decide +kernel⟩, List.mem_of_getElem? (i := 31) (by decide +kernel), List.mem_of_getElem? (i := 142) (by decide +kernel), List.mem_of_getElem? (i := 143) (by decide +kernel)⟩
theorem lw_p3 : lw_okq (⟨"CueBook", "putInOrder", "(LCueBook$Stay;)V"⟩, 8) := ⟨⟨by decide +kernel, by decide +kernel⟩, List.mem_of_getElem? (i := 31) (by decide +kernel), List.mem_of_getElem? (i := 151) (by decide +kernel), List.mem_of_getElem? (i := 152) (by decide +kernel)⟩
theorem lw_p4 : lw_okq (⟨"java/util/ArrayList", "rangeCheckForAdd", "(I)V"⟩, 3) := ⟨⟨by decide +kernel, by decide +kernel⟩, List.mem_of_getElem? (i := 39) (by decide +kernel), List.mem_of_getElem? (i := 159) (by decide +kernel), List.mem_of_getElem? (i := 160) (by decide +kernel)⟩
theorem lw_p5 : lw_okq (⟨"java/lang/Throwable", "fillInStackTrace", "(I)Ljava/lang/Throwable;"⟩, 6) := ⟨⟨by decide +kernel, by decide +kernel⟩, List.mem_of_getElem? (i := 201) (by decide +kernel), List.mem_of_getElem? (i := 199) (by decide +kernel), List.mem_of_getElem? (i := 200) (by decide +kernel)⟩
theorem lw_p6 : lw_okq (⟨"java/util/ArrayList", "outOfBoundsMsg", "(I)Ljava/lang/String;"⟩, 3) := ⟨⟨by decide +kernel, by decide +kernel⟩, List.mem_of_getElem? (i := 39) (by decide +kernel), List.mem_of_getElem? (i := 204) (by decide +kernel), List.mem_of_getElem? (i := 205) (by decide +kernel)⟩
theorem lw_p7 : lw_okq (⟨"java/util/ArrayList", "grow", "()[Ljava/lang/Object;"⟩, 3) := ⟨⟨by decide +kernel, by decide +kernel⟩, List.mem_of_getElem? (i := 39) (by decide +kernel), List.mem_of_getElem? (i := 493) (by decide +kernel), List.mem_of_getElem? (i := 494) (by decide +kernel)⟩
theorem lw_p8 : lw_okq (⟨"java/util/ArrayList", "grow", "(I)[Ljava/lang/Object;"⟩, 3) := ⟨⟨by decide +kernel, by decide +kernel⟩, List.mem_of_getElem? (i := 39) (by decide +kernel), List.mem_of_getElem? (i := 497) (by decide +kernel), List.mem_of_getElem? (i := 498) (by decide +kernel)⟩
theorem lw_p9 : lw_okq (⟨"CueBook", "namePlayer", "(LCueBook$Stay;)V"⟩, 8) := ⟨⟨by decide +kernel, by decide +kernel⟩, List.mem_of_getElem? (i := 31) (by decide +kernel), List.mem_of_getElem? (i := 531) (by decide +kernel), List.mem_of_getElem? (i := 532) (by decide +kernel)⟩
theorem lw_p10 : lw_okq (⟨"CueBook", "canDo", "(LCueBook$Player;LCueBook$Stay;)Z"⟩, 8) := ⟨⟨by decide +kernel, by decide +kernel⟩, List.mem_of_getElem? (i := 31) (by decide +kernel), List.mem_of_getElem? (i := 535) (by decide +kernel), List.mem_of_getElem? (i := 536) (by decide +kernel)⟩
theorem lw_p11 : lw_okq (⟨"CueBook", "canComeToBeginning", "(LCueBook$Player;LCueBook$Stay;)Z"⟩, 8) := ⟨⟨by decide +kernel, by decide +kernel⟩, List.mem_of_getElem? (i := 31) (by decide +kernel), List.mem_of_getElem? (i := 539) (by decide +kernel), List.mem_of_getElem? (i := 540) (by decide +kernel)⟩
theorem lw_p12 : lw_okq (⟨"CueBook", "placeOfHeld", "(LCueBook$Player;I)I"⟩, 8) := ⟨⟨by decide +kernel, by decide +kernel⟩, List.mem_of_getElem? (i := 31) (by decide +kernel), List.mem_of_getElem? (i := 543) (by decide +kernel), List.mem_of_getElem? (i := 544) (by decide +kernel)⟩
theorem lw_p13 : lw_okq (⟨"CueBook", "canHold", "(LCueBook$Player;LCueBook$Puppet;I)Z"⟩, 8) := ⟨⟨by decide +kernel, by decide +kernel⟩, List.mem_of_getElem? (i := 31) (by decide +kernel), List.mem_of_getElem? (i := 557) (by decide +kernel), List.mem_of_getElem? (i := 558) (by decide +kernel)⟩
theorem lw_p14 : lw_okq (⟨"java/util/ArrayList", "add", "(Ljava/lang/Object;[Ljava/lang/Object;I)V"⟩, 3) := ⟨⟨by decide +kernel, by decide +kernel⟩, List.mem_of_getElem? (i := 39) (by decide +kernel), List.mem_of_getElem? (i := 676) (by decide +kernel), List.mem_of_getElem? (i := 677) (by decide +kernel)⟩
theorem lw_p15 : lw_okq (⟨"CueBook", "puppetNumbered", "(I)LCueBook$Puppet;"⟩, 8) := ⟨⟨by decide +kernel, by decide +kernel⟩, List.mem_of_getElem? (i := 31) (by decide +kernel), List.mem_of_getElem? (i := 719) (by decide +kernel), List.mem_of_getElem? (i := 720) (by decide +kernel)⟩
def lw_privs_1 : List (MethodName × Nat) := [(⟨"CueBook", "countClashingPairs", "()I"⟩, 8), (⟨"CueBook", "findCasting", "()V"⟩, 8), (⟨"CueBook", "orderStays", "()V"⟩, 8), (⟨"CueBook", "putInOrder", "(LCueBook$Stay;)V"⟩, 8), (⟨"java/util/ArrayList", "rangeCheckForAdd", "(I)V"⟩, 3), (⟨"java/lang/Throwable", "fillInStackTrace", "(I)Ljava/lang/Throwable;"⟩, 6), (⟨"java/util/ArrayList", "outOfBoundsMsg", "(I)Ljava/lang/String;"⟩, 3), (⟨"java/util/ArrayList", "grow", "()[Ljava/lang/Object;"⟩, 3), (⟨"java/util/ArrayList", "grow", "(I)[Ljava/lang/Object;"⟩, 3), (⟨"CueBook", "namePlayer", "(LCueBook$Stay;)V"⟩, 8), (⟨"CueBook", "canDo", "(LCueBook$Player;LCueBook$Stay;)Z"⟩, 8), (⟨"CueBook", "canComeToBeginning", "(LCueBook$Player;LCueBook$Stay;)Z"⟩, 8), (⟨"CueBook", "placeOfHeld", "(LCueBook$Player;I)I"⟩, 8), (⟨"CueBook", "canHold", "(LCueBook$Player;LCueBook$Puppet;I)Z"⟩, 8), (⟨"java/util/ArrayList", "add", "(Ljava/lang/Object;[Ljava/lang/Object;I)V"⟩, 3), (⟨"CueBook", "puppetNumbered", "(I)LCueBook$Puppet;"⟩, 8)]
theorem lw_r1 : ∀ q ∈ lw_privs_1, lw_okq q := List.forall_mem_cons.mpr ⟨lw_p0, List.forall_mem_cons.mpr ⟨lw_p1, List.forall_mem_cons.mpr ⟨lw_p2, List.forall_mem_cons.mpr ⟨lw_p3, List.forall_mem_cons.mpr ⟨lw_p4, List.forall_mem_cons.mpr ⟨lw_p5, List.forall_mem_cons.mpr ⟨lw_p6, List.forall_mem_cons.mpr ⟨lw_p7, List.forall_mem_cons.mpr ⟨lw_p8, List.forall_mem_cons.mpr ⟨lw_p9, List.forall_mem_cons.mpr ⟨lw_p10, List.forall_mem_cons.mpr ⟨lw_p11, List.forall_mem_cons.mpr ⟨lw_p12, List.forall_mem_cons.mpr ⟨lw_p13, List.forall_mem_cons.mpr ⟨lw_p14, List.forall_mem_cons.mpr ⟨lw_p15, fun _ h => absurd h List.not_mem_nil⟩⟩⟩⟩⟩⟩⟩⟩⟩⟩⟩⟩⟩⟩⟩⟩
theorem lw_p16 : lw_okq (⟨"CueBook", "write", "(LCueBook$Cue;)I"⟩, 8) := ⟨⟨by decide +kernel, by decide +kernel⟩, List.mem_of_getElem? (i := 31) (by decide +kernel), List.mem_of_getElem? (i := 780) (by decide +kernel), List.mem_of_getElem? (i := 781) (by decide +kernel)⟩
theorem lw_p17 : lw_okq (⟨"CueBook$Puppet", "isScriptRight", "()Z"⟩, 8) := ⟨⟨by decide +kernel, by decide +kernel⟩, List.mem_of_getElem? (i := 628) (by decide +kernel), List.mem_of_getElem? (i := 793) (by decide +kernel), List.mem_of_getElem? (i := 794) (by decide +kernel)⟩
theorem lw_p18 : lw_okq (⟨"CueBook$Path", "walk", "(III)V"⟩, 7) := ⟨⟨by decide +kernel, by decide +kernel⟩, List.mem_of_getElem? (i := 797) (by decide +kernel), List.mem_of_getElem? (i := 834) (by decide +kernel), List.mem_of_getElem? (i := 835) (by decide +kernel)⟩
theorem lw_p19 : lw_okq (⟨"java/util/ArrayList", "fastRemove", "([Ljava/lang/Object;I)V"⟩, 3) := ⟨⟨by decide +kernel, by decide +kernel⟩, List.mem_of_getElem? (i := 39) (by decide +kernel), List.mem_of_getElem? (i := 842) (by decide +kernel), List.mem_of_getElem? (i := 843) (by decide +kernel)⟩
theorem lw_p20 : lw_okq (⟨"CueBook$Puppet", "playScript", "()V"⟩, 8) := ⟨⟨by decide +kernel, by decide +kernel⟩, List.mem_of_getElem? (i := 628) (by decide +kernel), List.mem_of_getElem? (i := 846) (by decide +kernel), List.mem_of_getElem? (i := 847) (by decide +kernel)⟩
theorem lw_p21 : lw_okq (⟨"CueBook$Puppet", "playBeats", "(LCueBook$Path;II)V"⟩, 8) := ⟨⟨by decide +kernel, by decide +kernel⟩, List.mem_of_getElem? (i := 628) (by decide +kernel), List.mem_of_getElem? (i := 851) (by decide +kernel), List.mem_of_getElem? (i := 852) (by decide +kernel)⟩
theorem lw_p22 : lw_okq (⟨"CueBook$Puppet", "recordStay", "(LCueBook$Cue;)V"⟩, 8) := ⟨⟨by decide +kernel, by decide +kernel⟩, List.mem_of_getElem? (i := 628) (by decide +kernel), List.mem_of_getElem? (i := 863) (by decide +kernel), List.mem_of_getElem? (i := 864) (by decide +kernel)⟩
theorem lw_p23 : lw_okq (⟨"CueBook", "forgetWhatWasFound", "()V"⟩, 8) := ⟨⟨by decide +kernel, by decide +kernel⟩, List.mem_of_getElem? (i := 31) (by decide +kernel), List.mem_of_getElem? (i := 900) (by decide +kernel), List.mem_of_getElem? (i := 901) (by decide +kernel)⟩
theorem lw_p24 : lw_okq (⟨"CueBook", "cueNumbered", "(I)LCueBook$Cue;"⟩, 8) := ⟨⟨by decide +kernel, by decide +kernel⟩, List.mem_of_getElem? (i := 31) (by decide +kernel), List.mem_of_getElem? (i := 932) (by decide +kernel), List.mem_of_getElem? (i := 933) (by decide +kernel)⟩
theorem lw_p25 : lw_okq (⟨"CueBook", "playerNumbered", "(I)LCueBook$Player;"⟩, 8) := ⟨⟨by decide +kernel, by decide +kernel⟩, List.mem_of_getElem? (i := 31) (by decide +kernel), List.mem_of_getElem? (i := 1016) (by decide +kernel), List.mem_of_getElem? (i := 1017) (by decide +kernel)⟩
theorem lw_p26 : lw_okq (⟨"CueBookModel", "fail", "(I)I"⟩, 22) := ⟨⟨by decide +kernel, by decide +kernel⟩, List.mem_of_getElem? (i := 1044) (by decide +kernel), List.mem_of_getElem? (i := 1129) (by decide +kernel), List.mem_of_getElem? (i := 1130) (by decide +kernel)⟩
theorem lw_p27 : lw_okq (⟨"CueBookModel", "written", "(IIIII)I"⟩, 22) := ⟨⟨by decide +kernel, by decide +kernel⟩, List.mem_of_getElem? (i := 1044) (by decide +kernel), List.mem_of_getElem? (i := 1141) (by decide +kernel), List.mem_of_getElem? (i := 1142) (by decide +kernel)⟩
theorem lw_p28 : lw_okq (⟨"CueBookModel", "isPuppet", "(I)Z"⟩, 22) := ⟨⟨by decide +kernel, by decide +kernel⟩, List.mem_of_getElem? (i := 1044) (by decide +kernel), List.mem_of_getElem? (i := 1145) (by decide +kernel), List.mem_of_getElem? (i := 1146) (by decide +kernel)⟩
theorem lw_p29 : lw_okq (⟨"CueBookModel", "write", "(IIIII)I"⟩, 22) := ⟨⟨by decide +kernel, by decide +kernel⟩, List.mem_of_getElem? (i := 1044) (by decide +kernel), List.mem_of_getElem? (i := 1152) (by decide +kernel), List.mem_of_getElem? (i := 1153) (by decide +kernel)⟩
theorem lw_p30 : lw_okq (⟨"CueBookModel", "areRight", "(I)Z"⟩, 22) := ⟨⟨by decide +kernel, by decide +kernel⟩, List.mem_of_getElem? (i := 1044) (by decide +kernel), List.mem_of_getElem? (i := 1156) (by decide +kernel), List.mem_of_getElem? (i := 1157) (by decide +kernel)⟩
theorem lw_p31 : lw_okq (⟨"CueBookModel", "behind", "(II)I"⟩, 22) := ⟨⟨by decide +kernel, by decide +kernel⟩, List.mem_of_getElem? (i := 1044) (by decide +kernel), List.mem_of_getElem? (i := 1160) (by decide +kernel), List.mem_of_getElem? (i := 1161) (by decide +kernel)⟩
def lw_privs_2 : List (MethodName × Nat) := [(⟨"CueBook", "write", "(LCueBook$Cue;)I"⟩, 8), (⟨"CueBook$Puppet", "isScriptRight", "()Z"⟩, 8), (⟨"CueBook$Path", "walk", "(III)V"⟩, 7), (⟨"java/util/ArrayList", "fastRemove", "([Ljava/lang/Object;I)V"⟩, 3), (⟨"CueBook$Puppet", "playScript", "()V"⟩, 8), (⟨"CueBook$Puppet", "playBeats", "(LCueBook$Path;II)V"⟩, 8), (⟨"CueBook$Puppet", "recordStay", "(LCueBook$Cue;)V"⟩, 8), (⟨"CueBook", "forgetWhatWasFound", "()V"⟩, 8), (⟨"CueBook", "cueNumbered", "(I)LCueBook$Cue;"⟩, 8), (⟨"CueBook", "playerNumbered", "(I)LCueBook$Player;"⟩, 8), (⟨"CueBookModel", "fail", "(I)I"⟩, 22), (⟨"CueBookModel", "written", "(IIIII)I"⟩, 22), (⟨"CueBookModel", "isPuppet", "(I)Z"⟩, 22), (⟨"CueBookModel", "write", "(IIIII)I"⟩, 22), (⟨"CueBookModel", "areRight", "(I)Z"⟩, 22), (⟨"CueBookModel", "behind", "(II)I"⟩, 22)]
theorem lw_r2 : ∀ q ∈ lw_privs_2, lw_okq q := List.forall_mem_cons.mpr ⟨lw_p16, List.forall_mem_cons.mpr ⟨lw_p17, List.forall_mem_cons.mpr ⟨lw_p18, List.forall_mem_cons.mpr ⟨lw_p19, List.forall_mem_cons.mpr ⟨lw_p20, List.forall_mem_cons.mpr ⟨lw_p21, List.forall_mem_cons.mpr ⟨lw_p22, List.forall_mem_cons.mpr ⟨lw_p23, List.forall_mem_cons.mpr ⟨lw_p24, List.forall_mem_cons.mpr ⟨lw_p25, List.forall_mem_cons.mpr ⟨lw_p26, List.forall_mem_cons.mpr ⟨lw_p27, List.forall_mem_cons.mpr ⟨lw_p28, List.forall_mem_cons.mpr ⟨lw_p29, List.forall_mem_cons.mpr ⟨lw_p30, List.forall_mem_cons.mpr ⟨lw_p31, fun _ h => absurd h List.not_mem_nil⟩⟩⟩⟩⟩⟩⟩⟩⟩⟩⟩⟩⟩⟩⟩⟩
theorem lw_p32 : lw_okq (⟨"CueBookModel", "isBehind", "(II)Z"⟩, 22) := ⟨⟨by decide +kernel, by decide +kernel⟩, List.mem_of_getElem? (i := 1044) (by decide +kernel), List.mem_of_getElem? (i := 1164) (by decide +kernel), List.mem_of_getElem? (i := 1165) (by decide +kernel)⟩
theorem lw_p33 : lw_okq (⟨"CueBookModel", "beat", "(I)I"⟩, 22) := ⟨⟨by decide +kernel, by decide +kernel⟩, List.mem_of_getElem? (i := 1044) (by decide +kernel), List.mem_of_getElem? (i := 1168) (by decide +kernel), List.mem_of_getElem? (i := 1169) (by decide +kernel)⟩
theorem lw_p34 : lw_okq (⟨"CueBookModel", "kind", "(I)I"⟩, 22) := ⟨⟨by decide +kernel, by decide +kernel⟩, List.mem_of_getElem? (i := 1044) (by decide +kernel), List.mem_of_getElem? (i := 1172) (by decide +kernel), List.mem_of_getElem? (i := 1173) (by decide +kernel)⟩
theorem lw_p35 : lw_okq (⟨"CueBookModel", "isCue", "(I)Z"⟩, 22) := ⟨⟨by decide +kernel, by decide +kernel⟩, List.mem_of_getElem? (i := 1044) (by decide +kernel), List.mem_of_getElem? (i := 1193) (by decide +kernel), List.mem_of_getElem? (i := 1194) (by decide +kernel)⟩
theorem lw_p36 : lw_okq (⟨"CueBookModel", "whyBeat", "(I)I"⟩, 22) := ⟨⟨by decide +kernel, by decide +kernel⟩, List.mem_of_getElem? (i := 1044) (by decide +kernel), List.mem_of_getElem? (i := 1209) (by decide +kernel), List.mem_of_getElem? (i := 1210) (by decide +kernel)⟩
theorem lw_p37 : lw_okq (⟨"CueBookModel", "workOut", "()V"⟩, 22) := ⟨⟨by decide +kernel, by decide +kernel⟩, List.mem_of_getElem? (i := 1044) (by decide +kernel), List.mem_of_getElem? (i := 1213) (by decide +kernel), List.mem_of_getElem? (i := 1214) (by decide +kernel)⟩
theorem lw_p38 : lw_okq (⟨"CueBookModel", "workOut", "(I)V"⟩, 22) := ⟨⟨by decide +kernel, by decide +kernel⟩, List.mem_of_getElem? (i := 1044) (by decide +kernel), List.mem_of_getElem? (i := 1217) (by decide +kernel), List.mem_of_getElem? (i := 1218) (by decide +kernel)⟩
theorem lw_p39 : lw_okq (⟨"CueBookModel", "castAll", "()V"⟩, 22) := ⟨⟨by decide +kernel, by decide +kernel⟩, List.mem_of_getElem? (i := 1044) (by decide +kernel), List.mem_of_getElem? (i := 1224) (by decide +kernel), List.mem_of_getElem? (i := 1225) (by decide +kernel)⟩
theorem lw_p40 : lw_okq (⟨"CueBookModel", "canDo", "(I)Z"⟩, 22) := ⟨⟨by decide +kernel, by decide +kernel⟩, List.mem_of_getElem? (i := 1044) (by decide +kernel), List.mem_of_getElem? (i := 1228) (by decide +kernel), List.mem_of_getElem? (i := 1229) (by decide +kernel)⟩
theorem lw_p41 : lw_okq (⟨"CueBookModel", "playerAt", "(II)I"⟩, 22) := ⟨⟨by decide +kernel, by decide +kernel⟩, List.mem_of_getElem? (i := 1044) (by decide +kernel), List.mem_of_getElem? (i := 1232) (by decide +kernel), List.mem_of_getElem? (i := 1233) (by decide +kernel)⟩
theorem lw_p42 : lw_okq (⟨"CueBookModel", "placeAt", "(II)I"⟩, 22) := ⟨⟨by decide +kernel, by decide +kernel⟩, List.mem_of_getElem? (i := 1044) (by decide +kernel), List.mem_of_getElem? (i := 1236) (by decide +kernel), List.mem_of_getElem? (i := 1237) (by decide +kernel)⟩
theorem lw_p43 : lw_okq (⟨"CueBookModel", "trackAt", "(II)I"⟩, 22) := ⟨⟨by decide +kernel, by decide +kernel⟩, List.mem_of_getElem? (i := 1044) (by decide +kernel), List.mem_of_getElem? (i := 1244) (by decide +kernel), List.mem_of_getElem? (i := 1245) (by decide +kernel)⟩
theorem lw_p44 : lw_okq (⟨"CueBookModel", "firstClash", "(II)I"⟩, 22) := ⟨⟨by decide +kernel, by decide +kernel⟩, List.mem_of_getElem? (i := 1044) (by decide +kernel), List.mem_of_getElem? (i := 1256) (by decide +kernel), List.mem_of_getElem? (i := 1257) (by decide +kernel)⟩
theorem lw_p45 : lw_okq (⟨"CueBookModel", "areOnOneTrack", "(III)Z"⟩, 22) := ⟨⟨by decide +kernel, by decide +kernel⟩, List.mem_of_getElem? (i := 1044) (by decide +kernel), List.mem_of_getElem? (i := 1260) (by decide +kernel), List.mem_of_getElem? (i := 1261) (by decide +kernel)⟩
theorem lw_p46 : lw_okq (⟨"CueBookModel", "allClashes", "()I"⟩, 22) := ⟨⟨by decide +kernel, by decide +kernel⟩, List.mem_of_getElem? (i := 1044) (by decide +kernel), List.mem_of_getElem? (i := 1268) (by decide +kernel), List.mem_of_getElem? (i := 1269) (by decide +kernel)⟩
theorem lw_p47 : lw_okq (⟨"CueBookModel", "stayTold", "(III)I"⟩, 22) := ⟨⟨by decide +kernel, by decide +kernel⟩, List.mem_of_getElem? (i := 1044) (by decide +kernel), List.mem_of_getElem? (i := 1284) (by decide +kernel), List.mem_of_getElem? (i := 1285) (by decide +kernel)⟩
def lw_privs_3 : List (MethodName × Nat) := [(⟨"CueBookModel", "isBehind", "(II)Z"⟩, 22), (⟨"CueBookModel", "beat", "(I)I"⟩, 22), (⟨"CueBookModel", "kind", "(I)I"⟩, 22), (⟨"CueBookModel", "isCue", "(I)Z"⟩, 22), (⟨"CueBookModel", "whyBeat", "(I)I"⟩, 22), (⟨"CueBookModel", "workOut", "()V"⟩, 22), (⟨"CueBookModel", "workOut", "(I)V"⟩, 22), (⟨"CueBookModel", "castAll", "()V"⟩, 22), (⟨"CueBookModel", "canDo", "(I)Z"⟩, 22), (⟨"CueBookModel", "playerAt", "(II)I"⟩, 22), (⟨"CueBookModel", "placeAt", "(II)I"⟩, 22), (⟨"CueBookModel", "trackAt", "(II)I"⟩, 22), (⟨"CueBookModel", "firstClash", "(II)I"⟩, 22), (⟨"CueBookModel", "areOnOneTrack", "(III)Z"⟩, 22), (⟨"CueBookModel", "allClashes", "()I"⟩, 22), (⟨"CueBookModel", "stayTold", "(III)I"⟩, 22)]
theorem lw_r3 : ∀ q ∈ lw_privs_3, lw_okq q := List.forall_mem_cons.mpr ⟨lw_p32, List.forall_mem_cons.mpr ⟨lw_p33, List.forall_mem_cons.mpr ⟨lw_p34, List.forall_mem_cons.mpr ⟨lw_p35, List.forall_mem_cons.mpr ⟨lw_p36, List.forall_mem_cons.mpr ⟨lw_p37, List.forall_mem_cons.mpr ⟨lw_p38, List.forall_mem_cons.mpr ⟨lw_p39, List.forall_mem_cons.mpr ⟨lw_p40, List.forall_mem_cons.mpr ⟨lw_p41, List.forall_mem_cons.mpr ⟨lw_p42, List.forall_mem_cons.mpr ⟨lw_p43, List.forall_mem_cons.mpr ⟨lw_p44, List.forall_mem_cons.mpr ⟨lw_p45, List.forall_mem_cons.mpr ⟨lw_p46, List.forall_mem_cons.mpr ⟨lw_p47, fun _ h => absurd h List.not_mem_nil⟩⟩⟩⟩⟩⟩⟩⟩⟩⟩⟩⟩⟩⟩⟩⟩
theorem lw_p48 : lw_okq (⟨"CueBookModel", "isPlayer", "(I)Z"⟩, 22) := ⟨⟨by decide +kernel, by decide +kernel⟩, List.mem_of_getElem? (i := 1044) (by decide +kernel), List.mem_of_getElem? (i := 1296) (by decide +kernel), List.mem_of_getElem? (i := 1297) (by decide +kernel)⟩
theorem lw_p49 : lw_okq (⟨"CueBookModel", "handsOf", "(II)I"⟩, 22) := ⟨⟨by decide +kernel, by decide +kernel⟩, List.mem_of_getElem? (i := 1044) (by decide +kernel), List.mem_of_getElem? (i := 1300) (by decide +kernel), List.mem_of_getElem? (i := 1301) (by decide +kernel)⟩
theorem lw_p50 : lw_okq (⟨"CueBookModel", "loadOf", "(I)I"⟩, 22) := ⟨⟨by decide +kernel, by decide +kernel⟩, List.mem_of_getElem? (i := 1044) (by decide +kernel), List.mem_of_getElem? (i := 1308) (by decide +kernel), List.mem_of_getElem? (i := 1309) (by decide +kernel)⟩
def lw_privs_4 : List (MethodName × Nat) := [(⟨"CueBookModel", "isPlayer", "(I)Z"⟩, 22), (⟨"CueBookModel", "handsOf", "(II)I"⟩, 22), (⟨"CueBookModel", "loadOf", "(I)I"⟩, 22)]
theorem lw_r4 : ∀ q ∈ lw_privs_4, lw_okq q := List.forall_mem_cons.mpr ⟨lw_p48, List.forall_mem_cons.mpr ⟨lw_p49, List.forall_mem_cons.mpr ⟨lw_p50, fun _ h => absurd h List.not_mem_nil⟩⟩⟩
def lw_privs : List (MethodName × Nat) := lw_privs_1 ++ (lw_privs_2 ++ (lw_privs_3 ++ (lw_privs_4)))
def lw_tbl : List Cond := k2_sels lw_privs ++ tables_1
theorem lw_privs_ok : ∀ q ∈ lw_privs, lw_okq q := by
  show ∀ q ∈ lw_privs_1 ++ (lw_privs_2 ++ (lw_privs_3 ++ (lw_privs_4))), lw_okq q
  exact List.forall_mem_append.mpr ⟨lw_r1, List.forall_mem_append.mpr ⟨lw_r2, List.forall_mem_append.mpr ⟨lw_r3, lw_r4⟩⟩⟩
/-- the streams that the claim lets the run draw from -/
abbrev lw_cs : List Choice := [Jvm.Choice.named "NaN.bits"]
theorem lw_bits : nanBits ∈ lw_cs := by first | decide | exact List.mem_cons_self | simp [lw_cs, nanBits]
-- ===== end of PART A; then your names; then what follows =====
/-! ===== BEGIN words of one list among another's, by their places ===== -/
theorem goodIn_r {big : List Cond} (ws : List Cond) (ps : List Nat) (hp : ws = ps.filterMap (fun i => big[i]?)) (h : ws.all goodWord = true) : GoodIn big ws := by
  intro w hw
  have h1 := List.all_eq_true.mp h w hw
  rw [hp] at hw
  obtain ⟨i, -, hi⟩ := List.mem_filterMap.mp hw
  have hm : w ∈ big := by first | exact List.mem_of_getElem? hi | exact List.getElem?_mem hi
  exact ⟨hm, good_of_word h1⟩
theorem goodIn_app {big a b : List Cond} (ha : GoodIn big a) (hb : GoodIn big b) : GoodIn big (a ++ b) := fun w h => (List.mem_append.mp h).elim (ha w) (hb w)
theorem goodIn_ca {big a b : List Cond} {c : Cond} (ha : GoodIn big (c :: a)) (hb : GoodIn big b) : GoodIn big (c :: (a ++ b)) := fun w h => (List.mem_cons.mp h).elim (fun e => ha w (List.mem_cons.mpr (Or.inl e))) (fun h => (List.mem_append.mp h).elim (fun h => ha w (List.mem_cons.mpr (Or.inr h))) (hb w))
theorem goodIn_sub {big ws : List Cond} (hm : ∀ w ∈ ws, w ∈ big) (h : ws.all goodWord = true) : GoodIn big ws := fun w hw => ⟨hm w hw, good_of_word (List.all_eq_true.mp h w hw)⟩
/-! ===== END ===== -/

/-! ===== BEGIN exceptions that leave a method, and their catching by the caller (launches without stack traces) ===== -/
section VXA
/-! The laws vx_back, vx_callV, vx_callS, vx_callSW, vx_throw0, vx_throwS follow proofs of the library, with one case more: JvmDerived/Free/Laws.lean (Back.of_free), Shelf42/LK1.lean (callV, callS), Shelf/KitTraced.lean (throwNew0V, throwNewS). -/
/-- where a method has thrown q: the class by its name, the cell, what was written, the world -/
def vx_T (XC : String → State → State → Prop) (st : State) (q : Addr) (t : State) (mc ms : Nat) (free : Addr → Prop) : Prop :=
  ∃ (E : String) (ce : Cell) (L : List Loc), XC E st t ∧ t.heap[q]? = some ce ∧ ce.vm = .none ∧ st.vm.findClass E = some ce.cls ∧ st.WarmedH t.vm ∧ st.sameButNew ({ t with vm := st.vm } : State) L mc ms ∧ ∀ z ∈ L, free z.base
def vx_Q (Qc : Array Value → State → Outcome → State → Prop) (XC : String → State → State → Prop) (mc ms : Nat) (free : Addr → Prop) : Array Value → State → Outcome → State → Prop := fun a st o t =>
  (Qc a st o t ∧ ∃ L, FrameEnd st o t L mc ms ∧ ∀ q ∈ L, free q.base) ∨ ∃ q, o = .threw q ∧ vx_T XC st q t mc ms free
/-- a callee that returns or throws -/
def vx_Met (l : Launch) (y : MethodName) (ws : List Cond) (rm : Room) (Pc : Array Value → State → Prop) (Qc : Array Value → State → Outcome → State → Prop) (XC : String → State → State → Prop) (mc ms : Nat) (free : Addr → Prop) : Prop :=
  MetFree l y (headSpec ws rm) Pc (fun _ _ _ _ _ => True) (vx_Q Qc XC mc ms free)
def vx_Post (XC : String → State → State → Prop) (mc ms : Nat) (free : Addr → Prop) : Pt → Array Value → Addr → Pt → Prop := fun A a q B =>
  ∃ (g : JFrame) (mk : MethodId) (t : State) (L : List Loc) (E : String) (ce : Cell), B.U.heap = t.heap ∧ B.U.vm = t.vm ∧ XC E (A.U.calling g mk a) t ∧ t.heap[q]? = some ce ∧ ce.vm = .none ∧ A.U.vm.findClass E = some ce.cls ∧ B.locs = A.locs ++ L ∧ (∀ z ∈ L, free z.base) ∧ B.cells = A.cells + mc ∧ B.slots = A.slots + ms
def vx_Back (l : Launch) (R : Room) (p : Program) (e : Env) (below : List Frame) (s : State) (sargs : Array Value) (y : MethodName) (len W9 : Nat)
    (Pre : Pt → Array Value → Prop) (Post : Pt → Array Value → Option Value → Pt → Prop) (PostX : Pt → Array Value → Addr → Pt → Prop) : Prop :=
  ∀ (m : MethodId) (meth : Method) (c : Code) (A : Pt) (g : JFrame) (ig : Instr) (mk : MethodId) (a : Array Value),
    Stand p l e R s m sargs below meth c A.U A.locs A.cells A.slots → g.method = m → g.locals.size = c.maxLocals → decode c.code g.pc = .ok (ig, len) →
    2 * g.monitorRoom + (g.stack.map fun v => v.category).sum ≤ W9 → A.U.methodNamed? y = some mk → Pre A a →
    (∃ (v : Option Value) (B : Pt), Stand p l e R s m sargs below meth c B.U B.locs B.cells B.slots ∧ Post A a v B ∧
      Steps p.tables e below (doInvoke e (A.U.setTop g) [] mk a).1 (B.U.setTop { g with pc := g.pc + len, stack := v.toList ++ g.stack })) ∨
    (∃ (q : Addr) (B : Pt), Stand p l e R s m sargs below meth c B.U B.locs B.cells B.slots ∧ PostX A a q B ∧
      Steps p.tables e below (doInvoke e (A.U.setTop g) [] mk a).1 ((B.U.setTop g).pushFrame (.throwing q)))
section Payer
variable {l : Launch} {R : Room} {p : Program} {e : Env} {below : List Frame} {s : State} {sargs : Array Value} {y : MethodName} {len W9 : Nat}
theorem vx_back {ws : List Cond} {rm : Room} {Pc : Array Value → State → Prop} {Qc : Array Value → State → Outcome → State → Prop} {XC : String → State → State → Prop} {mc ms : Nat} {free : Addr → Prop} {bytes : ByteArray} {maxL : Nat} {ret : Option FieldType}
    (hM : vx_Met l y ws rm Pc Qc XC mc ms free) (hblind : FrameBlind Pc) (hrc : rm.cells = mc) (hrs : rm.slots = ms)
    (hframes : rm.frames + 1 ≤ R.frames) (hlocals : W9 + (maxL + 11) + rm.locals ≤ R.locals)
    (hws : ∀ w ∈ ws, ∀ a' U, s.WarmedH U.vm → w.before a' U = true) (hcode : Cond.code y bytes maxL ret ∈ ws) (hinit : ∀ a' U, s.WarmedH U.vm → (Cond.initialized y.cls).before a' U = true) :
    vx_Back l R p e below s sargs y len W9 (PreOf R mc ms Pc) (PostOf Qc mc ms free) (vx_Post XC mc ms free) := by
  intro m meth c A g ig mk a X hg hsize hdg hW hn hp
  have h1 : (headSpec ws rm).pre.before a A.U = true := atoms_intro fun w hw => hws w hw _ _ X.warmed
  have h2 : (Cond.code y bytes maxL ret).before a A.U = true := hws _ hcode _ _ X.warmed
  have h3 : (Cond.initialized y.cls).before a A.U = true := hinit _ _ X.warmed
  have h4 : A.cells + (headSpec ws rm).room.cells ≤ R.cells := by rw [show (headSpec ws rm).room.cells = mc from hrc]; exact hp.1
  have h5 : A.slots + (headSpec ws rm).room.slots ≤ R.slots := by rw [show (headSpec ws rm).room.slots = ms from hrs]; exact hp.2.1
  have hPc : Pc a (A.U.calling g mk a) := hblind _ _ _ _ hp.2.2
  obtain ⟨U, Ls, c0, s0⟩ := A
  dsimp only [Pt.U, Pt.locs, Pt.cells, Pt.slots] at h1 h2 h3 h4 h5 X hn hPc ⊢
  obtain ⟨methY, cY, hmY, hcY, -, hlY, -, -, -, -⟩ := Cond.code_spec hn h2
  obtain ⟨kY, hkY, -⟩ := className_of_methodNamed hn
  have hinitY : kY.init = .initialized := Cond.initialized_spec (findClass_of_methodNamed hn) hkY h3
  have h : At U g.method c below := by rw [hg]; exact X.here
  have hlocals9 : W9 + (maxL + 11) + (headSpec ws rm).room.locals ≤ R.locals := hlocals
  have happ : (headSpec ws rm).appliesLoose y e.platform (U.calling g mk a) = true :=
    Spec.appliesLoose_calling (g := g) h hdg hn hkY hinitY
      (X.room_calling (g := g) (R' := (headSpec ws rm).room) hsize hmY hcY hframes (by rw [hlY]; omega) h4 h5) h1
  obtain ⟨mid, hmid⟩ := h.above
  have hfr : (U.setTop g).frames = (.java g :: mid) ++ below := by rw [State.frames_setTop' g h.top, hmid]; rfl
  obtain ⟨o, s₂, hsteps, -, hend, hq⟩ := Steps.callFree hM p X.admits X.cas X.clock (acts := []) hfr happ hPc trivial
  have hq' : vx_Q Qc XC mc ms free a (U.calling g mk a) o s₂ := hq
  rw [State.frames_setTop' g h.top] at hend
  obtain ⟨g₀, hg0⟩ := Option.isSome_iff_exists.mp h.top
  obtain ⟨r, hr⟩ := State.topJava?_eq_some.mp hg0
  have hr' : (({ U with heap := s₂.heap, slotsUsed := s₂.slotsUsed } : State).setVm s₂.vm).frames = .java g₀ :: r := hr
  rcases hq' with ⟨hqc, L, hfe, hL⟩ | ⟨q, rfl, E, ce, L, hx, hce, hcv, hcl, hW₂, hsm, hL⟩
  · obtain ⟨⟨v, rfl⟩, hW₂, e2, q2, q3, q4, q5, q6⟩ := id hfe
    have e3 : s₂ = ({ (U.calling g mk a).setFrames s₂.frames with heap := s₂.heap, slotsUsed := s₂.slotsUsed } : State).setVm s₂.vm := by
      have : s₂ = ({ s₂ with vm := (U.calling g mk a).vm } : State).setVm s₂.vm := rfl
      rw [e2] at this
      exact this
    obtain ⟨c₂, i₂, len₂, hc₂, hd₂, hf₂⟩ := hend
    have hW' : U.WarmedH s₂.vm := hW₂
    have hcc : c₂ = c := by
      have h1 : s₂.code? g.method = U.code? g.method := by
        rw [State.code?_eq, State.code?_eq, hW'.alike.method?]
      exact Option.some.inj (hc₂.symm.trans (h1.trans h.code))
    subst hcc
    have hlen : len₂ = len := by rw [hdg] at hd₂; cases hd₂; rfl
    subst hlen
    have hs₂ : s₂ = (({ U with heap := s₂.heap, slotsUsed := s₂.slotsUsed } : State).setVm s₂.vm).setTop { g with pc := g.pc + len₂, stack := v.toList ++ g.stack } := by
      refine e3.trans ?_
      rw [hf₂, State.calling_eq h.top, State.setFrames_setFrames, State.setTop_of_frames _ hr', hr]
      rfl
    have hsame : U.sameButNew ({ U with heap := s₂.heap, slotsUsed := s₂.slotsUsed } : State) L mc ms := by
      refine ⟨?_, q2, q3, q4, q5, q6⟩
      obtain ⟨t, ht, -⟩ := State.frames_cons hr
      show ({ U with heap := s₂.heap, slotsUsed := s₂.slotsUsed } : State) = { U.setFrames U.frames with heap := s₂.heap, slotsUsed := s₂.slotsUsed }
      rw [State.setFrames_self ht]
    subst hg
    refine Or.inl ⟨v, ⟨(({ U with heap := s₂.heap, slotsUsed := s₂.slotsUsed } : State).setVm s₂.vm), Ls ++ L, c0 + mc, s0 + ms⟩,
      ⟨X.admits, X.cas, X.clock, X.frames, X.room, X.hears, X.method, X.code, (X.here.setHeapUsed s₂.heap s₂.slotsUsed).setVm hW'.alike, X.tail, State.WarmedH.trans X.warmed hW', X.limits, X.bytes, X.same.trans (hsame.setVm s.vm)⟩,
      ⟨g, mk, s₂, L, rfl, rfl, hqc, rfl, hL, rfl, rfl⟩, ?_⟩
    show Steps p.tables e below _ ((({ U with heap := s₂.heap, slotsUsed := s₂.slotsUsed } : State).setVm s₂.vm).setTop { g with pc := g.pc + len₂, stack := v.toList ++ g.stack })
    rw [← hs₂]
    exact hsteps
  · obtain ⟨e2, q2, q3, q4, q5, q6⟩ := id hsm
    have e3 : s₂ = ({ (U.calling g mk a).setFrames s₂.frames with heap := s₂.heap, slotsUsed := s₂.slotsUsed } : State).setVm s₂.vm := by
      have : s₂ = ({ s₂ with vm := (U.calling g mk a).vm } : State).setVm s₂.vm := rfl
      rw [e2] at this
      exact this
    have hf₂ : s₂.frames = .throwing q :: .java g :: U.frames.tail := hend
    have hW' : U.WarmedH s₂.vm := hW₂
    have hs₂ : s₂ = ((({ U with heap := s₂.heap, slotsUsed := s₂.slotsUsed } : State).setVm s₂.vm).setTop g).pushFrame (.throwing q) := by
      refine e3.trans ?_
      rw [hf₂, State.calling_eq h.top, State.setFrames_setFrames, State.pushFrame, State.frames_setTop _ hr', State.setTop_of_frames _ hr', State.setFrames_setFrames, hr]
      rfl
    have hsame : U.sameButNew ({ U with heap := s₂.heap, slotsUsed := s₂.slotsUsed } : State) L mc ms := by
      refine ⟨?_, q2, q3, q4, q5, q6⟩
      obtain ⟨t, ht, -⟩ := State.frames_cons hr
      show ({ U with heap := s₂.heap, slotsUsed := s₂.slotsUsed } : State) = { U.setFrames U.frames with heap := s₂.heap, slotsUsed := s₂.slotsUsed }
      rw [State.setFrames_self ht]
    subst hg
    refine Or.inr ⟨q, ⟨(({ U with heap := s₂.heap, slotsUsed := s₂.slotsUsed } : State).setVm s₂.vm), Ls ++ L, c0 + mc, s0 + ms⟩,
      ⟨X.admits, X.cas, X.clock, X.frames, X.room, X.hears, X.method, X.code, (X.here.setHeapUsed s₂.heap s₂.slotsUsed).setVm hW'.alike, X.tail, State.WarmedH.trans X.warmed hW', X.limits, X.bytes, X.same.trans (hsame.setVm s.vm)⟩,
      ⟨g, mk, s₂, L, E, ce, rfl, rfl, hx, hce, hcv, hcl, rfl, hL, rfl, rfl⟩, ?_⟩
    show Steps p.tables e below _ (((({ U with heap := s₂.heap, slotsUsed := s₂.slotsUsed } : State).setVm s₂.vm).setTop g).pushFrame (.throwing q))
    rw [← hs₂]
    exact hsteps
end Payer
section Calls
variable {p : Program} {l : Launch} {e : Env} {R : Room} {s : State} {m : MethodId} {args : Array Value} {below : List Frame} {meth : Method} {c : Code} {T : State} {locs : List Loc} {cells slots : Nat}
theorem vx_callV (X : Stand p l e R s m args below meth c T locs cells slots) (hexec : p.tables.exec = Jvm.exec) {own C : String} {index : Nat} {y : MethodName} {bytes : ByteArray} {maxL : Nat} {ret : Option FieldType}
    (hown : s.vm.findClass own = some m.cls) (hlink : (Cond.methodLink own index y).before args s = true) (hinst : (Cond.instanceMethod y).before args s = true) (hsel : (Cond.selects C y y).before args s = true)
    (hcode : (Cond.code y bytes maxL ret).before args s = true) (hy : y.cls ≠ "java/lang/invoke/MethodHandle" ∧ y.cls ≠ "java/lang/invoke/VarHandle")
    {W9 : Nat} {Pre : Pt → Array Value → Prop} {Post : Pt → Array Value → Option Value → Pt → Prop} {PostX : Pt → Array Value → Addr → Pt → Prop} (hK : vx_Back l R p e below s args y 3 W9 Pre Post PostX)
    {b : Addr} {cellB : Cell} (hcell : T.heap[b]? = some cellB) (hobj : cellB.vm.isStatics = false) (hcls : s.vm.findClass C = some cellB.cls)
    {g : JFrame} (hg : g.method = m) (hsize : g.locals.size = c.maxLocals) {argsL rest : List Value} (hlen : ∀ sig, parseMethodDescriptor y.desc = some sig → argsL.length = sig.parameters.length)
    (hstack : g.stack = argsL.reverse ++ .ref b :: rest) (hW : 2 * g.monitorRoom + (rest.map fun v => v.category).sum ≤ W9) (hdg : decode c.code g.pc = .ok (.invokevirtual index, 3))
    (hpre : ∀ vm₁, s.WarmedH vm₁ → Pre ⟨T.setVm vm₁, locs, cells, slots⟩ (Value.ref b :: argsL).toArray) :
    (∃ (v : Option Value) (vm₁ : Vm) (B : Pt), s.WarmedH vm₁ ∧ Stand p l e R s m args below meth c B.U B.locs B.cells B.slots ∧ Post ⟨T.setVm vm₁, locs, cells, slots⟩ (Value.ref b :: argsL).toArray v B ∧
      ∀ target, Steps p.tables e below (B.U.setTop { g with pc := g.pc + 3, stack := v.toList ++ rest }) target → Steps p.tables e below (T.setTop g) target) ∨
    (∃ (q : Addr) (vm₁ : Vm) (B : Pt), s.WarmedH vm₁ ∧ Stand p l e R s m args below meth c B.U B.locs B.cells B.slots ∧ PostX ⟨T.setVm vm₁, locs, cells, slots⟩ (Value.ref b :: argsL).toArray q B ∧
      Steps p.tables e below (T.setTop g) ((B.U.setTop { g with stack := rest }).pushFrame (.throwing q))) := by
  obtain ⟨mk, methM, hnamed, hmethM, hstM, habM⟩ := Cond.instanceMethod_spec hinst
  obtain ⟨methM', cM, hmethM', -, -, -, -, -, -, hsigM⟩ := Cond.code_spec hnamed hcode
  cases hmethM.symm.trans hmethM'
  obtain ⟨c2, r2, m2, q1, q2, q3, q4, kP, hkP, hkPi⟩ := Cond.selects_spec hsel
  cases hcls.symm.trans q1
  cases (State.methodFound?_of_named hnamed hy).symm.trans q2
  cases hnamed.symm.trans q3
  have hselP : selectMethod e.platform s.vm cellB.cls mk = .method mk := by rw [Launch.admits_selectMethod X.admits]; exact q4
  obtain ⟨vm₁, X₁, hstep₁⟩ := X.invokevirtual hexec hown hlink hnamed hmethM hstM hkP hkPi hy (a := b) (cell := cellB) hcell
    (fun z h => by rw [h] at hobj; cases hobj) hselP hmethM habM hkP hkPi (g := g) hg (argsL := argsL) (rest := rest) (hlen _ hsigM) hstack hdg
  rcases hK m meth c ⟨T.setVm vm₁, locs, cells, slots⟩ { g with stack := rest } (.invokevirtual index) mk (Value.ref b :: argsL).toArray X₁ hg hsize hdg hW (X₁.named hnamed) (hpre vm₁ X₁.warmed) with ⟨v, B, X', hpost, hsteps⟩ | ⟨q, B, X', hpost, hsteps⟩
  · exact Or.inl ⟨v, vm₁, B, X₁.warmed, X', hpost, fun target h => hstep₁ _ fun acts => by rw [doInvoke_state]; exact hsteps.trans h⟩
  · exact Or.inr ⟨q, vm₁, B, X₁.warmed, X', hpost, hstep₁ _ fun acts => by rw [doInvoke_state]; exact hsteps⟩
theorem vx_callS (X : Stand p l e R s m args below meth c T locs cells slots) (hexec : p.tables.exec = Jvm.exec) {own : String} {index : Nat} {y : MethodName} {bytes : ByteArray} {maxL : Nat} {ret : Option FieldType}
    (hown : s.vm.findClass own = some m.cls) (hlink : (Cond.methodLink own index y).before args s = true) (hstat : (Cond.static y).before args s = true) (hinit : (Cond.initialized y.cls).before args s = true)
    (hcode : (Cond.code y bytes maxL ret).before args s = true) (hy : y.cls ≠ "java/lang/invoke/MethodHandle" ∧ y.cls ≠ "java/lang/invoke/VarHandle")
    {W9 : Nat} {Pre : Pt → Array Value → Prop} {Post : Pt → Array Value → Option Value → Pt → Prop} {PostX : Pt → Array Value → Addr → Pt → Prop} (hK : vx_Back l R p e below s args y 3 W9 Pre Post PostX)
    {g : JFrame} (hg : g.method = m) (hsize : g.locals.size = c.maxLocals) {argsL rest : List Value} (hlen : ∀ sig, parseMethodDescriptor y.desc = some sig → argsL.length = sig.parameters.length)
    (hstack : g.stack = argsL.reverse ++ rest) (hW : 2 * g.monitorRoom + (rest.map fun v => v.category).sum ≤ W9) (hdg : decode c.code g.pc = .ok (.invokestatic index, 3))
    (hpre : ∀ vm₁, s.WarmedH vm₁ → Pre ⟨T.setVm vm₁, locs, cells, slots⟩ argsL.toArray) :
    (∃ (v : Option Value) (vm₁ : Vm) (B : Pt), s.WarmedH vm₁ ∧ Stand p l e R s m args below meth c B.U B.locs B.cells B.slots ∧ Post ⟨T.setVm vm₁, locs, cells, slots⟩ argsL.toArray v B ∧
      ∀ target, Steps p.tables e below (B.U.setTop { g with pc := g.pc + 3, stack := v.toList ++ rest }) target → Steps p.tables e below (T.setTop g) target) ∨
    (∃ (q : Addr) (vm₁ : Vm) (B : Pt), s.WarmedH vm₁ ∧ Stand p l e R s m args below meth c B.U B.locs B.cells B.slots ∧ PostX ⟨T.setVm vm₁, locs, cells, slots⟩ argsL.toArray q B ∧
      Steps p.tables e below (T.setTop g) ((B.U.setTop { g with stack := rest }).pushFrame (.throwing q))) := by
  obtain ⟨mk, hnamed⟩ := Cond.code_named hcode
  obtain ⟨methM, cM, hmethM, -, -, -, -, -, -, hsigM⟩ := Cond.code_spec hnamed hcode
  have hstatic : methM.isStatic = true := Cond.static_spec hnamed hmethM hstat
  obtain ⟨kP, hkP, -⟩ := className_of_methodNamed hnamed
  have hinitP : kP.init = .initialized := Cond.initialized_spec (findClass_of_methodNamed hnamed) hkP hinit
  obtain ⟨vm₁, X₁, hstep₁⟩ := X.invokestatic hexec hown hlink hnamed hmethM hstatic hkP hinitP hy (g := g) hg (argsL := argsL) (rest := rest) (hlen _ hsigM) hstack hdg
  rcases hK m meth c ⟨T.setVm vm₁, locs, cells, slots⟩ { g with stack := rest } (.invokestatic index) mk argsL.toArray X₁ hg hsize hdg hW (X₁.named hnamed) (hpre vm₁ X₁.warmed) with ⟨v, B, X', hpost, hsteps⟩ | ⟨q, B, X', hpost, hsteps⟩
  · exact Or.inl ⟨v, vm₁, B, X₁.warmed, X', hpost, fun target h => hstep₁ _ fun acts => by rw [doInvoke_state]; exact hsteps.trans h⟩
  · exact Or.inr ⟨q, vm₁, B, X₁.warmed, X', hpost, hstep₁ _ fun acts => by rw [doInvoke_state]; exact hsteps⟩
end Calls
theorem vx_cls {s : State} {T : State} {vm₁ : Vm} {E : String} {k : ClassId} (hW : s.WarmedH vm₁) (h : (T.setVm vm₁).vm.findClass E = some k) : s.vm.findClass E = some k := by
  have h1 : vm₁.findClass E = some k := h
  rw [hW.alike.findClass] at h1
  exact h1
/-- the method's frame g, with q thrown over it -/
def vx_W (p : Program) (l : Launch) (e : Env) (R : Room) (s : State) (m : MethodId) (args : Array Value) (below : List Frame) (meth : Method) (c : Code) (H : Heap) (locs : List Loc) (cells slots : Nat) (Q : State → Prop) (g : JFrame) (q : Addr) : Prop :=
  ∀ T : State, T.heap = H → Stand p l e R s m args below meth c T locs cells slots → ∃ t, Steps p.tables e below ((T.setTop g).pushFrame (.throwing q)) t ∧ Q t
def vx_Run (p : Program) (l : Launch) (e : Env) (R : Room) (s : State) (m : MethodId) (args : Array Value) (below : List Frame) (meth : Method) (c : Code) (H : Heap) (locs : List Loc) (cells slots mc ms : Nat) (g : JFrame) (rest : List Value) (Qa : State → Outcome → State → Prop) (XC : String → State → State → Prop) (free : Addr → Prop) : Prop :=
  ∀ T : State, T.heap = H → Stand p l e R s m args below meth c T locs cells slots →
    (∃ (v : Option Value) (st₀ t T' : State) (L : List Loc), st₀.heap = H ∧ Stand p l e R s m args below meth c T' (locs ++ L) (cells + mc) (slots + ms) ∧ (∀ q ∈ L, free q.base) ∧ T'.heap = t.heap ∧ T'.vm = t.vm ∧ Qa st₀ (.returned v) t ∧
      Goes p e below T g T' { g with pc := g.pc + 3, stack := v.toList ++ rest }) ∨
    (∃ (q : Addr) (st₀ t T' : State) (L : List Loc) (E : String) (ce : Cell), st₀.heap = H ∧ Stand p l e R s m args below meth c T' (locs ++ L) (cells + mc) (slots + ms) ∧ (∀ z ∈ L, free z.base) ∧ T'.heap = t.heap ∧ T'.vm = t.vm ∧ XC E st₀ t ∧ t.heap[q]? = some ce ∧ ce.vm = .none ∧ s.vm.findClass E = some ce.cls ∧
      Steps p.tables e below (T.setTop g) ((T'.setTop { g with stack := rest }).pushFrame (.throwing q)))
def vx_X {S : Type} (px : S → Prop) (B : String → S → State → Prop) (A : Nat → Prop) : String → State → State → Prop := fun E st t => ∃ u : S, px u ∧ B E u t ∧ va_F A st t
section Runs
variable {p : Program} {l : Launch} {e : Env} {R : Room} {s : State} {m : MethodId} {args : Array Value} {below : List Frame} {meth : Method} {c : Code} {H : Heap} {locs : List Loc} {cells slots : Nat}
variable {y : MethodName} {bytes cc : ByteArray} {maxL nL mc ms n index : Nat} {ret : Option FieldType} {ws : List Cond} {rm : Room} {Pc : Array Value → State → Prop} {Qc : Array Value → State → Outcome → State → Prop} {XC : String → State → State → Prop} {free : Addr → Prop} {Ts : List Cond} {own C : String} {b : Addr} {As rest : List Value} {g : JFrame}
theorem vx_callBack (cb : CallB R s args own index y bytes maxL ret ws rm mc ms n) (hM : vx_Met l y ws rm Pc Qc XC mc ms free) (hbl : FrameBlind Pc) : vx_Back l R p e below s args y 3 8 (PreOf R mc ms Pc) (PostOf Qc mc ms free) (vx_Post XC mc ms free) := by
  obtain ⟨hrc, hrs, hfr, hlo, hws, hcw, -, hini, -⟩ := cb
  exact vx_back (bytes := bytes) (maxL := maxL) (ret := ret) hM hbl hrc hrs hfr hlo hws hcw (fun a' U hW => word_at hW (Or.inl (by first | rfl | simp [Cond.onTables, Cond.keeps, Cond.steady])) hini)
theorem vx_runV (S : CallFix p m c cc nL s args Ts own) (hM : vx_Met l y ws rm Pc Qc XC mc ms free) (cw : CallW R s args own C index y bytes maxL ret ws rm mc ms n) (hp : PreV s H C b Pc As)
    (hg : g.method = m) (hn : As.length = n) (hsize : g.locals.size = nL) (hstack : g.stack = As.reverse ++ .ref b :: rest) (hW : 2 * g.monitorRoom + (rest.map fun v => v.category).sum ≤ 8) (hdg : decode cc g.pc = .ok (.invokevirtual index, 3)) (hf : cells + mc ≤ R.cells ∧ slots + ms ≤ R.slots) :
    vx_Run p l e R s m args below meth c H locs cells slots mc ms g rest (Qc (Value.ref b :: As).toArray) XC free := by
  have hK : vx_Back l R p e below s args y 3 8 (PreOf R mc ms Pc) (PostOf Qc mc ms free) (vx_Post XC mc ms free) := vx_callBack cw.1 hM hp.1
  obtain ⟨⟨-, -, -, -, -, -, hcode, -, hy, hlen, hl⟩, hin, hse⟩ := cw
  obtain ⟨hx, hb, hml, ho, -⟩ := S
  obtain ⟨-, ⟨cellB, hcB, hoB, hclB⟩, hPc⟩ := hp
  intro T hT X
  rcases vx_callV X hx (C := C) (bytes := bytes) (maxL := maxL) (ret := ret) ho hl hin hse hcode hy hK (by rw [hT]; exact hcB) hoB hclB hg (hsize.trans hml.symm) (argsL := As) (rest := rest) (fun sig h => hn.trans (hlen sig h)) hstack hW (by rw [hb]; exact hdg)
    (fun vm₁ hW₁ => ⟨hf.1, hf.2, hPc (T.setVm vm₁) hT hW₁⟩) with ⟨v, vm₁, ⟨U', l2, c2, s2⟩, hW₁, X', ⟨g', mk, t, L, e1, e2, hq, h1, hL, h2, h3⟩, st⟩ | ⟨q, vm₁, ⟨U', l2, c2, s2⟩, hW₁, X', ⟨g', mk, t, L, E, ce, e1, e2, hq, hce, hcv, hcl, h1, hL, h2, h3⟩, st⟩
  · dsimp only [Pt.U, Pt.locs, Pt.cells, Pt.slots] at X' e1 e2 h1 h2 h3 st
    subst h1; subst h2; subst h3
    exact Or.inl ⟨v, (T.setVm vm₁).calling g' mk (Value.ref b :: As).toArray, t, U', L, hT, X', hL, e1, e2, hq, st⟩
  · dsimp only [Pt.U, Pt.locs, Pt.cells, Pt.slots] at X' e1 e2 h1 h2 h3 st hcl
    subst h1; subst h2; subst h3
    exact Or.inr ⟨q, (T.setVm vm₁).calling g' mk (Value.ref b :: As).toArray, t, U', L, E, ce, hT, X', hL, e1, e2, hq, hce, hcv, vx_cls hW₁ hcl, st⟩
theorem vx_runS (S : CallFix p m c cc nL s args Ts own) (hM : vx_Met l y ws rm Pc Qc XC mc ms free) (cw : CallB R s args own index y bytes maxL ret ws rm mc ms n ∧ (Cond.static y).before args s = true) (hp : PreS s H Pc As)
    (hg : g.method = m) (hn : As.length = n) (hsize : g.locals.size = nL) (hstack : g.stack = As.reverse ++ rest) (hW : 2 * g.monitorRoom + (rest.map fun v => v.category).sum ≤ 8) (hdg : decode cc g.pc = .ok (.invokestatic index, 3)) (hf : cells + mc ≤ R.cells ∧ slots + ms ≤ R.slots) :
    vx_Run p l e R s m args below meth c H locs cells slots mc ms g rest (Qc As.toArray) XC free := by
  have hK : vx_Back l R p e below s args y 3 8 (PreOf R mc ms Pc) (PostOf Qc mc ms free) (vx_Post XC mc ms free) := vx_callBack cw.1 hM hp.1
  obtain ⟨⟨-, -, -, -, -, -, hcode, hini, hy, hlen, hl⟩, hstt⟩ := cw
  obtain ⟨hx, hb, hml, ho, -⟩ := S
  intro T hT X
  rcases vx_callS X hx (bytes := bytes) (maxL := maxL) (ret := ret) ho hl hstt hini hcode hy hK hg (hsize.trans hml.symm) (argsL := As) (rest := rest) (fun sig h => hn.trans (hlen sig h)) hstack hW (by rw [hb]; exact hdg)
    (fun vm₁ hW₁ => ⟨hf.1, hf.2, hp.2 (T.setVm vm₁) hT hW₁⟩) with ⟨v, vm₁, ⟨U', l2, c2, s2⟩, hW₁, X', ⟨g', mk, t, L, e1, e2, hq, h1, hL, h2, h3⟩, st⟩ | ⟨q, vm₁, ⟨U', l2, c2, s2⟩, hW₁, X', ⟨g', mk, t, L, E, ce, e1, e2, hq, hce, hcv, hcl, h1, hL, h2, h3⟩, st⟩
  · dsimp only [Pt.U, Pt.locs, Pt.cells, Pt.slots] at X' e1 e2 h1 h2 h3 st
    subst h1; subst h2; subst h3
    exact Or.inl ⟨v, (T.setVm vm₁).calling g' mk As.toArray, t, U', L, hT, X', hL, e1, e2, hq, st⟩
  · dsimp only [Pt.U, Pt.locs, Pt.cells, Pt.slots] at X' e1 e2 h1 h2 h3 st hcl
    subst h1; subst h2; subst h3
    exact Or.inr ⟨q, (T.setVm vm₁).calling g' mk As.toArray, t, U', L, E, ce, hT, X', hL, e1, e2, hq, hce, hcv, vx_cls hW₁ hcl, st⟩
end Runs
section Rows
variable {p : Program} {l : Launch} {e : Env} {R : Room} {s : State} {m : MethodId} {args : Array Value} {below : List Frame} {meth : Method} {c : Code} {H : Heap} {locs : List Loc} {cells slots : Nat} {Q : State → Prop}
variable {mc ms : Nat} {free : Addr → Prop} {A0 A1 : Nat → Prop} {H0 : Heap} {a : Array Value} {pc : Nat} {ls : Array Slot} {st0 rest : List Value}
theorem vx_keep {st₀ t T' : State} {L : List Loc} (h0 : st₀.heap = H) (e1 : T'.heap = t.heap) (hS : va_S A0 H0 H locs) (hA : ∀ q, q < H.size → A1 q → A0 q) (hf : ∀ q, free q → A0 q) (hL : ∀ q ∈ L, free q.base) (hF : va_F A1 st₀ t) :
    H.size ≤ T'.heap.size ∧ (∀ q : Nat, q < H.size → ¬ A1 q → T'.heap[q]? = H[q]?) ∧ va_S A0 H0 T'.heap (locs ++ L) := by
  obtain ⟨hz, hk⟩ := hF
  rw [h0] at hz hk
  exact ⟨by rw [e1]; exact hz, fun q h1 h2 => by rw [e1]; exact hk q h1 h2,
    ⟨Nat.le_trans hS.1 (by rw [e1]; exact hz), fun q h1 h2 => by rw [e1, hk q (Nat.lt_of_lt_of_le h1 hS.1) (fun z => h2 (hA q (Nat.lt_of_lt_of_le h1 hS.1) z))]; exact hS.2.1 q h1 h2, fun q hq => by
      rcases List.mem_append.mp hq with h | h
      · exact hS.2.2 q h
      · exact hf _ (hL q h)⟩⟩
theorem vx_calli {S SX : Type} {post : Int32 → S → Prop} {px : SX → Prop} {B : S → State → Prop} {BX : String → SX → State → Prop} {AX : Nat → Prop} (hr : vx_Run p l e R s m args below meth c H locs cells slots mc ms (F0 m pc ls st0) rest (va_Qi post B A1 a) (vx_X px BX AX) free) (hS : va_S A0 H0 H locs) (hA : ∀ q, q < H.size → A1 q → A0 q) (hf : ∀ q, free q → A0 q) (hAX : ∀ q, q < H.size → AX q → A0 q)
    (kx : ∀ (E : String) (ce : Cell) (q9 : Addr) (u : SX) (t : State) (H1 : Heap) (locs1 : List Loc), t.heap = H1 → s.vm.Alike t.vm → px u → BX E u t → H.size ≤ H1.size → (∀ q : Nat, q < H.size → ¬ AX q → H1[q]? = H[q]?) → va_S A0 H0 H1 locs1 → H1[q9]? = some ce → ce.vm = .none → s.vm.findClass E = some ce.cls → vx_W p l e R s m args below meth c H1 locs1 (cells + mc) (slots + ms) Q (F0 m pc ls rest) q9)
    (kk : ∀ (r : Int32) (u : S) (t : State) (H1 : Heap) (locs1 : List Loc), t.heap = H1 → s.vm.Alike t.vm → post r u → B u t → H.size ≤ H1.size → (∀ q : Nat, q < H.size → ¬ A1 q → H1[q]? = H[q]?) → va_S A0 H0 H1 locs1 → W p l e R s m args below meth c H1 locs1 (cells + mc) (slots + ms) Q (F0 m (pc + 3) ls (.int r :: rest))) : W p l e R s m args below meth c H locs cells slots Q (F0 m pc ls st0) := by
  intro T hT X
  rcases hr T hT X with ⟨v, st₀, t, T', L, h0, X', hL, e1, e2, ⟨⟨r, u, hv, hp, hb⟩, hF⟩, st⟩ | ⟨q, st₀, t, T', L, E, ce, h0, X', hL, e1, e2, ⟨u, hp, hb, hF⟩, hce, hcv, hcl, st⟩
  · cases hv
    obtain ⟨k1, k2, k3⟩ := vx_keep h0 e1 hS hA hf hL hF
    obtain ⟨t2, a1, b1⟩ := kk r u t T'.heap (locs ++ L) e1.symm (by rw [← e2]; exact X'.warmed.alike) hp hb k1 k2 k3 T' rfl X'
    exact ⟨t2, st t2 a1, b1⟩
  · obtain ⟨k1, k2, k3⟩ := vx_keep h0 e1 hS hAX hf hL hF
    obtain ⟨t2, a1, b1⟩ := kx E ce q u t T'.heap (locs ++ L) e1.symm (by rw [← e2]; exact X'.warmed.alike) hp hb k1 k2 k3 (by rw [e1]; exact hce) hcv hcl T' rfl X'
    exact ⟨t2, st.trans a1, b1⟩
theorem vx_calll {S SX : Type} {post : Int64 → S → Prop} {px : SX → Prop} {B : S → State → Prop} {BX : String → SX → State → Prop} {AX : Nat → Prop} (hr : vx_Run p l e R s m args below meth c H locs cells slots mc ms (F0 m pc ls st0) rest (va_Ql post B A1 a) (vx_X px BX AX) free) (hS : va_S A0 H0 H locs) (hA : ∀ q, q < H.size → A1 q → A0 q) (hf : ∀ q, free q → A0 q) (hAX : ∀ q, q < H.size → AX q → A0 q)
    (kx : ∀ (E : String) (ce : Cell) (q9 : Addr) (u : SX) (t : State) (H1 : Heap) (locs1 : List Loc), t.heap = H1 → s.vm.Alike t.vm → px u → BX E u t → H.size ≤ H1.size → (∀ q : Nat, q < H.size → ¬ AX q → H1[q]? = H[q]?) → va_S A0 H0 H1 locs1 → H1[q9]? = some ce → ce.vm = .none → s.vm.findClass E = some ce.cls → vx_W p l e R s m args below meth c H1 locs1 (cells + mc) (slots + ms) Q (F0 m pc ls rest) q9)
    (kk : ∀ (r : Int64) (u : S) (t : State) (H1 : Heap) (locs1 : List Loc), t.heap = H1 → s.vm.Alike t.vm → post r u → B u t → H.size ≤ H1.size → (∀ q : Nat, q < H.size → ¬ A1 q → H1[q]? = H[q]?) → va_S A0 H0 H1 locs1 → W p l e R s m args below meth c H1 locs1 (cells + mc) (slots + ms) Q (F0 m (pc + 3) ls (.long r :: rest))) : W p l e R s m args below meth c H locs cells slots Q (F0 m pc ls st0) := by
  intro T hT X
  rcases hr T hT X with ⟨v, st₀, t, T', L, h0, X', hL, e1, e2, ⟨⟨r, u, hv, hp, hb⟩, hF⟩, st⟩ | ⟨q, st₀, t, T', L, E, ce, h0, X', hL, e1, e2, ⟨u, hp, hb, hF⟩, hce, hcv, hcl, st⟩
  · cases hv
    obtain ⟨k1, k2, k3⟩ := vx_keep h0 e1 hS hA hf hL hF
    obtain ⟨t2, a1, b1⟩ := kk r u t T'.heap (locs ++ L) e1.symm (by rw [← e2]; exact X'.warmed.alike) hp hb k1 k2 k3 T' rfl X'
    exact ⟨t2, st t2 a1, b1⟩
  · obtain ⟨k1, k2, k3⟩ := vx_keep h0 e1 hS hAX hf hL hF
    obtain ⟨t2, a1, b1⟩ := kx E ce q u t T'.heap (locs ++ L) e1.symm (by rw [← e2]; exact X'.warmed.alike) hp hb k1 k2 k3 (by rw [e1]; exact hce) hcv hcl T' rfl X'
    exact ⟨t2, st.trans a1, b1⟩
theorem vx_callf {S SX : Type} {post : UInt32 → S → Prop} {px : SX → Prop} {B : S → State → Prop} {BX : String → SX → State → Prop} {AX : Nat → Prop} (hr : vx_Run p l e R s m args below meth c H locs cells slots mc ms (F0 m pc ls st0) rest (va_Qf post B A1 a) (vx_X px BX AX) free) (hS : va_S A0 H0 H locs) (hA : ∀ q, q < H.size → A1 q → A0 q) (hf : ∀ q, free q → A0 q) (hAX : ∀ q, q < H.size → AX q → A0 q)
    (kx : ∀ (E : String) (ce : Cell) (q9 : Addr) (u : SX) (t : State) (H1 : Heap) (locs1 : List Loc), t.heap = H1 → s.vm.Alike t.vm → px u → BX E u t → H.size ≤ H1.size → (∀ q : Nat, q < H.size → ¬ AX q → H1[q]? = H[q]?) → va_S A0 H0 H1 locs1 → H1[q9]? = some ce → ce.vm = .none → s.vm.findClass E = some ce.cls → vx_W p l e R s m args below meth c H1 locs1 (cells + mc) (slots + ms) Q (F0 m pc ls rest) q9)
    (kk : ∀ (r : UInt32) (u : S) (t : State) (H1 : Heap) (locs1 : List Loc), t.heap = H1 → s.vm.Alike t.vm → post r u → B u t → H.size ≤ H1.size → (∀ q : Nat, q < H.size → ¬ A1 q → H1[q]? = H[q]?) → va_S A0 H0 H1 locs1 → W p l e R s m args below meth c H1 locs1 (cells + mc) (slots + ms) Q (F0 m (pc + 3) ls (.float r :: rest))) : W p l e R s m args below meth c H locs cells slots Q (F0 m pc ls st0) := by
  intro T hT X
  rcases hr T hT X with ⟨v, st₀, t, T', L, h0, X', hL, e1, e2, ⟨⟨r, u, hv, hp, hb⟩, hF⟩, st⟩ | ⟨q, st₀, t, T', L, E, ce, h0, X', hL, e1, e2, ⟨u, hp, hb, hF⟩, hce, hcv, hcl, st⟩
  · cases hv
    obtain ⟨k1, k2, k3⟩ := vx_keep h0 e1 hS hA hf hL hF
    obtain ⟨t2, a1, b1⟩ := kk r u t T'.heap (locs ++ L) e1.symm (by rw [← e2]; exact X'.warmed.alike) hp hb k1 k2 k3 T' rfl X'
    exact ⟨t2, st t2 a1, b1⟩
  · obtain ⟨k1, k2, k3⟩ := vx_keep h0 e1 hS hAX hf hL hF
    obtain ⟨t2, a1, b1⟩ := kx E ce q u t T'.heap (locs ++ L) e1.symm (by rw [← e2]; exact X'.warmed.alike) hp hb k1 k2 k3 (by rw [e1]; exact hce) hcv hcl T' rfl X'
    exact ⟨t2, st.trans a1, b1⟩
theorem vx_calld {S SX : Type} {post : UInt64 → S → Prop} {px : SX → Prop} {B : S → State → Prop} {BX : String → SX → State → Prop} {AX : Nat → Prop} (hr : vx_Run p l e R s m args below meth c H locs cells slots mc ms (F0 m pc ls st0) rest (va_Qd post B A1 a) (vx_X px BX AX) free) (hS : va_S A0 H0 H locs) (hA : ∀ q, q < H.size → A1 q → A0 q) (hf : ∀ q, free q → A0 q) (hAX : ∀ q, q < H.size → AX q → A0 q)
    (kx : ∀ (E : String) (ce : Cell) (q9 : Addr) (u : SX) (t : State) (H1 : Heap) (locs1 : List Loc), t.heap = H1 → s.vm.Alike t.vm → px u → BX E u t → H.size ≤ H1.size → (∀ q : Nat, q < H.size → ¬ AX q → H1[q]? = H[q]?) → va_S A0 H0 H1 locs1 → H1[q9]? = some ce → ce.vm = .none → s.vm.findClass E = some ce.cls → vx_W p l e R s m args below meth c H1 locs1 (cells + mc) (slots + ms) Q (F0 m pc ls rest) q9)
    (kk : ∀ (r : UInt64) (u : S) (t : State) (H1 : Heap) (locs1 : List Loc), t.heap = H1 → s.vm.Alike t.vm → post r u → B u t → H.size ≤ H1.size → (∀ q : Nat, q < H.size → ¬ A1 q → H1[q]? = H[q]?) → va_S A0 H0 H1 locs1 → W p l e R s m args below meth c H1 locs1 (cells + mc) (slots + ms) Q (F0 m (pc + 3) ls (.double r :: rest))) : W p l e R s m args below meth c H locs cells slots Q (F0 m pc ls st0) := by
  intro T hT X
  rcases hr T hT X with ⟨v, st₀, t, T', L, h0, X', hL, e1, e2, ⟨⟨r, u, hv, hp, hb⟩, hF⟩, st⟩ | ⟨q, st₀, t, T', L, E, ce, h0, X', hL, e1, e2, ⟨u, hp, hb, hF⟩, hce, hcv, hcl, st⟩
  · cases hv
    obtain ⟨k1, k2, k3⟩ := vx_keep h0 e1 hS hA hf hL hF
    obtain ⟨t2, a1, b1⟩ := kk r u t T'.heap (locs ++ L) e1.symm (by rw [← e2]; exact X'.warmed.alike) hp hb k1 k2 k3 T' rfl X'
    exact ⟨t2, st t2 a1, b1⟩
  · obtain ⟨k1, k2, k3⟩ := vx_keep h0 e1 hS hAX hf hL hF
    obtain ⟨t2, a1, b1⟩ := kx E ce q u t T'.heap (locs ++ L) e1.symm (by rw [← e2]; exact X'.warmed.alike) hp hb k1 k2 k3 (by rw [e1]; exact hce) hcv hcl T' rfl X'
    exact ⟨t2, st.trans a1, b1⟩
theorem vx_callv {S SX : Type} {post : S → Prop} {px : SX → Prop} {B : S → State → Prop} {BX : String → SX → State → Prop} {AX : Nat → Prop} (hr : vx_Run p l e R s m args below meth c H locs cells slots mc ms (F0 m pc ls st0) rest (va_Qv post B A1 a) (vx_X px BX AX) free) (hS : va_S A0 H0 H locs) (hA : ∀ q, q < H.size → A1 q → A0 q) (hf : ∀ q, free q → A0 q) (hAX : ∀ q, q < H.size → AX q → A0 q)
    (kx : ∀ (E : String) (ce : Cell) (q9 : Addr) (u : SX) (t : State) (H1 : Heap) (locs1 : List Loc), t.heap = H1 → s.vm.Alike t.vm → px u → BX E u t → H.size ≤ H1.size → (∀ q : Nat, q < H.size → ¬ AX q → H1[q]? = H[q]?) → va_S A0 H0 H1 locs1 → H1[q9]? = some ce → ce.vm = .none → s.vm.findClass E = some ce.cls → vx_W p l e R s m args below meth c H1 locs1 (cells + mc) (slots + ms) Q (F0 m pc ls rest) q9)
    (kk : ∀ (u : S) (t : State) (H1 : Heap) (locs1 : List Loc), t.heap = H1 → s.vm.Alike t.vm → post u → B u t → H.size ≤ H1.size → (∀ q : Nat, q < H.size → ¬ A1 q → H1[q]? = H[q]?) → va_S A0 H0 H1 locs1 → W p l e R s m args below meth c H1 locs1 (cells + mc) (slots + ms) Q (F0 m (pc + 3) ls (rest))) : W p l e R s m args below meth c H locs cells slots Q (F0 m pc ls st0) := by
  intro T hT X
  rcases hr T hT X with ⟨v, st₀, t, T', L, h0, X', hL, e1, e2, ⟨⟨u, hv, hp, hb⟩, hF⟩, st⟩ | ⟨q, st₀, t, T', L, E, ce, h0, X', hL, e1, e2, ⟨u, hp, hb, hF⟩, hce, hcv, hcl, st⟩
  · cases hv
    obtain ⟨k1, k2, k3⟩ := vx_keep h0 e1 hS hA hf hL hF
    obtain ⟨t2, a1, b1⟩ := kk u t T'.heap (locs ++ L) e1.symm (by rw [← e2]; exact X'.warmed.alike) hp hb k1 k2 k3 T' rfl X'
    exact ⟨t2, st t2 a1, b1⟩
  · obtain ⟨k1, k2, k3⟩ := vx_keep h0 e1 hS hAX hf hL hF
    obtain ⟨t2, a1, b1⟩ := kx E ce q u t T'.heap (locs ++ L) e1.symm (by rw [← e2]; exact X'.warmed.alike) hp hb k1 k2 k3 (by rw [e1]; exact hce) hcv hcl T' rfl X'
    exact ⟨t2, st.trans a1, b1⟩
/-- caught by the row x of this method's table; the rows ahead don't take it -/
theorem vx_catch {own name : String} {E : String} {ce : Cell} {q : Addr} (hown : s.vm.findClass own = some m.cls) (pre : List ExceptionTableEntry) (x : ExceptionTableEntry) (suf : List ExceptionTableEntry) (hsplit : c.exceptionTable.toList = pre ++ x :: suf)
    (hpass : ∀ z ∈ pre, covers z pc = false ∨ (z.catchType ≠ 0 ∧ ∃ nm : String, (Cond.classLink own z.catchType nm).before args s = true ∧ va_Nc E nm s)) (hx : covers x pc = true) (h0 : x.catchType ≠ 0)
    (hlink : (Cond.classLink own x.catchType name).before args s = true) (hcast : (Cond.castable E name).before args s = true) (hcell : H[q]? = some ce) (hv : ce.vm = .none) (hcl : s.vm.findClass E = some ce.cls)
    (kk : W p l e R s m args below meth c H locs cells slots Q (F0 m x.handlerPc ls [.ref q])) : vx_W p l e R s m args below meth c H locs cells slots Q (F0 m pc ls rest) q := by
  intro T hT X
  have hpl : e.platform.magicAccessors = ({} : Platform).magicAccessors := by rw [X.admits.platform]
  obtain ⟨c3, c4, hc3, hc4, hasg⟩ := Cond.castable_spec hcast
  cases Option.some.inj (hc3.symm.trans hcl)
  obtain ⟨c5, hc5, hcl5⟩ := Cond.classLink_spec hown hlink e.platform hpl
  cases Option.some.inj (hc4.symm.trans hc5)
  obtain ⟨vm', X', st⟩ := X.thenCaughtThrough q (g := F0 m pc ls rest) rfl (Steps.refl _) (by rw [hT]; exact hcell) (by rw [hv]; rfl) (by obtain ⟨k9, h9, -⟩ := Vm.findClass_spec hcl; exact ⟨k9, h9⟩) pre x suf hsplit
    (fun z hz => by
      rcases hpass z hz with h | ⟨hz0, nm, hl1, hn1⟩
      · exact Or.inl h
      · obtain ⟨c6, hc6, hcl6⟩ := Cond.classLink_spec hown hl1 e.platform hpl
        obtain ⟨a8, b8, h1, h2, h3⟩ := hn1
        cases Option.some.inj (h1.symm.trans hcl)
        cases Option.some.inj (h2.symm.trans hc6)
        exact Or.inr ⟨hz0, _, hcl6, h3⟩) hx (Or.inr ⟨h0, c4, hcl5, hasg⟩)
  obtain ⟨t, a1, b1⟩ := kk (T.setVm vm') hT X'
  exact ⟨t, st.trans a1, b1⟩
end Rows
section Ends
variable {p : Program} {l : Launch} {e : Env} {R : Room} {s : State} {m : MethodId} {args : Array Value} {below : List Frame} {meth : Method} {c : Code} {H : Heap} {locs : List Loc} {cells slots : Nat} {Q : State → Prop}
variable {mc ms : Nat} {free : Addr → Prop} {A0 A1 : Nat → Prop} {H0 : Heap} {a : Array Value} {ls : Array Slot} {st0 rest : List Value}
variable {Qc : Array Value → State → Outcome → State → Prop} {XC : String → State → State → Prop}
/-- what a body that may throw owes at its end -/
def vx_MQ (below : List Frame) (Qc : Array Value → State → Outcome → State → Prop) (XC : String → State → State → Prop) (a : Array Value) (s : State) (mc ms : Nat) (free : Addr → Prop) : State → Prop := fun t =>
  ∃ o, t.status = .running ∧ Ended t below o ∧ vx_Q Qc XC mc ms free a s o t
theorem vx_ret {g : JFrame} {mc ms : Nat} (k : W p l e R s m args below meth c H locs cells slots (MQ below Qc args s mc ms free) g) : W p l e R s m args below meth c H locs cells slots (vx_MQ below Qc XC args s mc ms free) g := by
  intro T hT X
  obtain ⟨t, a1, o, b1, b2, b3, b4⟩ := k T hT X
  exact ⟨t, a1, o, b1, b2, Or.inl ⟨b3, b4⟩⟩
/-- not caught here: it goes on to the caller -/
theorem vx_widen {g : JFrame} {q : Addr} {k n : Nat} (h1 : cells ≤ k) (h2 : slots ≤ n) (kk : vx_W p l e R s m args below meth c H locs k n Q g q) : vx_W p l e R s m args below meth c H locs cells slots Q g q := fun T hT X => kk T hT (stand_widen X h1 h2)
theorem vx_out {pc : Nat} {E : String} {ce : Cell} {q : Addr} {mc ms : Nat} (hout : ∀ x ∈ c.exceptionTable.toList, covers x pc = false) (hlocks : meth.locks = false) (hcell : H[q]? = some ce) (hv : ce.vm = .none) (hcl : s.vm.findClass E = some ce.cls)
    (hx : ∀ t : State, t.heap = H → s.vm.Alike t.vm → XC E s t) (hf : ∀ z ∈ locs, free z.base) (hc : cells ≤ mc) (hs : slots ≤ ms) :
    vx_W p l e R s m args below meth c H locs cells slots (vx_MQ below Qc XC args s mc ms free) (F0 m pc ls rest) q := by
  intro T hT X
  obtain ⟨st1, hrun, hend, hW, hsm⟩ := X.leaveThrown q (g := F0 m pc ls rest) rfl rfl rfl hout hlocks
  have hcell9 : (T.setFrames (.throwing q :: below)).heap[q]? = some ce := by
    show T.heap[q]? = some ce
    rw [hT]; exact hcell
  exact ⟨_, st1, .threw q, hrun, hend, Or.inr ⟨q, rfl, E, ce, locs, hx _ hT hW.alike, hcell9, hv, hcl, hW, hsm.mono hc hs, hf⟩⟩
theorem vx_frame {U : State} {k n : Nat} (h : s.sameButNew ({ U with vm := s.vm } : State) locs k n) : s.heap.size ≤ U.heap.size ∧ ∀ q : Nat, q < s.heap.size → (∀ z ∈ locs, z.base ≠ q) → U.heap[q]? = s.heap[q]? := by
  obtain ⟨-, h2, -, -, -, h6⟩ := h
  refine ⟨h2, fun q hq hz => ?_⟩
  obtain ⟨c9, e1, e2, e3, e4⟩ := h6 q _ (Array.getElem?_eq_getElem hq)
  have hs : c9.slots = (s.heap[q]).slots := Array.ext_getElem? fun i => e4 i fun hm => hz _ hm rfl
  have h9 : c9 = s.heap[q] := by
    rw [hs] at e2
    exact e2
  have e5 : U.heap[q]? = some c9 := e1
  rw [e5, h9, Array.getElem?_eq_getElem hq]
/-- the words of a throw but the four that speak of the heap -/
def vx_no (w : Cond) : Bool := decide (w ≠ .isRef (.static Bundle.tN "UNASSIGNED_STACK" Bundle.steD)) && decide (w ≠ .isRef (.static Bundle.tN "SUPPRESSED_SENTINEL" Bundle.listD)) && decide (w ≠ .laysStatic Bundle.tN "UNASSIGNED_STACK" Bundle.steD) && decide (w ≠ .laysStatic Bundle.tN "SUPPRESSED_SENTINEL" Bundle.listD)
def vx_at0 (own : String) (ic : Nat) (X : String) (names : List String) : List Cond := (Bundle.ownAtoms0 own ic X names).filter vx_no
def vx_atS (own : String) (ic : Nat) (X : String) (names : List String) : List Cond := (Bundle.ownAtoms own ic X names).filter vx_no
/-- a word that the tables alone decide, or a good one -/
def vx_ot (w : Cond) : Bool := w.onTables || goodWord w
theorem vx_ot_at {args a' : Array Value} {s U : State} {w : Cond} (hW : s.WarmedH U.vm) (hvm : s.vm = U.vm) (hg : vx_ot w = true) (h : w.before args s = true) : w.before a' U = true := by
  simp only [vx_ot, Bool.or_eq_true] at hg
  rcases hg with hg | hg
  · exact va_tabs hg hvm h
  · exact word_at hW (good_of_word hg) h
/-- a list's words: the good ones out of the method's own list, the others by premises of their own -/
theorem vx_hat {args : Array Value} {s : State} {L B : List Cond} (h1 : ∀ w ∈ L.filter goodWord, w.before args s = true) (h2 : ∀ w ∈ L.filter (fun w => !goodWord w), w ∈ B) (h3 : ∀ w ∈ B, w.before args s = true) : ∀ w ∈ L, w.before args s = true := by
  intro w hw
  by_cases g : goodWord w = true
  · exact h1 w (List.mem_filter.mpr ⟨hw, g⟩)
  · refine h3 w (h2 w (List.mem_filter.mpr ⟨hw, ?_⟩))
    show (!goodWord w) = true
    cases hgw : goodWord w
    · rfl
    · exact absurd hgw g
theorem vx_c {args : Array Value} {s : State} {w : Cond} {B : List Cond} (h : w.before args s = true) (t : ∀ w ∈ B, w.before args s = true) : ∀ w' ∈ w :: B, w'.before args s = true := fun w' h' => (List.mem_cons.mp h').elim (fun e => by rw [e]; exact h) (t w')
theorem vx_n {args : Array Value} {s : State} : ∀ w ∈ ([] : List Cond), w.before args s = true := fun _ h => nomatch h
theorem vx_own {args : Array Value} {s : State} {L : List Cond} (h1 : ∀ w ∈ L.filter vx_no, w.before args s = true)
    (hU : (Cond.isRef (.static Bundle.tN "UNASSIGNED_STACK" Bundle.steD)).before args s = true) (hN : (Cond.isRef (.static Bundle.tN "SUPPRESSED_SENTINEL" Bundle.listD)).before args s = true)
    (lU : (Cond.laysStatic Bundle.tN "UNASSIGNED_STACK" Bundle.steD).before args s = true) (lN : (Cond.laysStatic Bundle.tN "SUPPRESSED_SENTINEL" Bundle.listD).before args s = true) : ∀ w ∈ L, w.before args s = true := by
  intro w hw
  by_cases e1 : w = .isRef (.static Bundle.tN "UNASSIGNED_STACK" Bundle.steD)
  · rw [e1]; exact hU
  · by_cases e2 : w = .isRef (.static Bundle.tN "SUPPRESSED_SENTINEL" Bundle.listD)
    · rw [e2]; exact hN
    · by_cases e3 : w = .laysStatic Bundle.tN "UNASSIGNED_STACK" Bundle.steD
      · rw [e3]; exact lU
      · by_cases e4 : w = .laysStatic Bundle.tN "SUPPRESSED_SENTINEL" Bundle.listD
        · rw [e4]; exact lN
        · exact h1 w (List.mem_filter.mpr ⟨hw, by unfold vx_no; rw [decide_eq_true e1, decide_eq_true e2, decide_eq_true e3, decide_eq_true e4]; rfl⟩)
/-- where a static field lies, its class's statics cell in H -/
def vx_L (C n d : String) (A : Nat → Prop) (U : State) (H : Heap) : Prop := ∃ (c : ClassId) (k : Class) (i : Nat) (f : Field) (a : Nat) (cell : Cell), U.vm.findClass C = some c ∧ U.fieldFound? C n d = some (c, k, i, f) ∧ f.isStatic = true ∧ k.statics = some a ∧ H[a]? = some cell ∧ cell.vm.isStatics = true ∧ cell.cls = c ∧ f.slot < cell.slots.size ∧ k.staticTypes[f.slot]? = some f.type ∧ ¬ A a
theorem vx_L.moved {C n d : String} {A : Nat → Prop} {u U : State} {H : Heap} (hvm : u.vm.Alike U.vm) (h : vx_L C n d A u H) : vx_L C n d A U H := by
  obtain ⟨c, k, i, f, a, cell, h1, h2, h3, h4, h5, h6, h7, h8, h9, h10⟩ := h
  obtain ⟨k', hi', he⟩ := State.fieldFound?_setVm hvm h2
  exact ⟨c, k', i, f, a, cell, by rw [hvm.findClass]; exact h1, hi', h3, by rw [he]; exact h4, h5, h6, h7, h8, by rw [he]; exact h9, h10⟩
theorem vx_L.kept {C n d : String} {A : Nat → Prop} {U : State} {H H1 : Heap} (h : vx_L C n d A U H) (hq : ∀ a : Nat, a < H.size → ¬ A a → H1[a]? = H[a]?) : vx_L C n d A U H1 := by
  obtain ⟨c, k, i, f, a, cell, h1, h2, h3, h4, h5, h6, h7, h8, h9, h10⟩ := h
  exact ⟨c, k, i, f, a, cell, h1, h2, h3, h4, by rw [hq a (Array.getElem?_eq_some_iff.mp h5).1 h10]; exact h5, h6, h7, h8, h9, h10⟩
theorem vx_L.narrow {C n d : String} {A B : Nat → Prop} {U : State} {H : Heap} (h : vx_L C n d A U H) (hAB : ∀ q, B q → A q) : vx_L C n d B U H := by
  obtain ⟨c, k, i, f, a, cell, h1, h2, h3, h4, h5, h6, h7, h8, h9, h10⟩ := h
  exact ⟨c, k, i, f, a, cell, h1, h2, h3, h4, h5, h6, h7, h8, h9, fun z => h10 (hAB _ z)⟩
theorem vx_L.word {C n d : String} {A : Nat → Prop} {s : State} {args : Array Value} (h : vx_L C n d A s s.heap) : (Cond.laysStatic C n d).before args s = true := by
  obtain ⟨c, k, i, f, a, cell, h1, h2, h3, h4, h5, h6, h7, h8, h9, -⟩ := h
  show (Cond.laysStatic C n d).holds args s none s [] = true
  exact Cond.laysStatic_of h1 h2 h3 h4 h5 h6 h7 h8 h9
/-- .. and what it holds: null or some reference -/
def vx_Zq (C n d : String) (A : Nat → Prop) (U : State) (H : Heap) : Prop := va_Zq C n d A U H ∧ vx_L C n d A U H
theorem vx_Zq.moved {C n d : String} {A : Nat → Prop} {u U : State} {H : Heap} (hvm : u.vm.Alike U.vm) (h : vx_Zq C n d A u H) : vx_Zq C n d A U H := ⟨va_Zq.moved hvm h.1, vx_L.moved hvm h.2⟩
theorem vx_Zq.kept {C n d : String} {A : Nat → Prop} {U : State} {H H1 : Heap} (h : vx_Zq C n d A U H) (hq : ∀ a : Nat, a < H.size → ¬ A a → H1[a]? = H[a]?) : vx_Zq C n d A U H1 := ⟨va_Zq.kept h.1 hq, vx_L.kept h.2 hq⟩
theorem vx_Zq.narrow {C n d : String} {A B : Nat → Prop} {U : State} {H : Heap} (h : vx_Zq C n d A U H) (hAB : ∀ q, B q → A q) : vx_Zq C n d B U H := ⟨va_Zq.narrow h.1 hAB, vx_L.narrow h.2 hAB⟩
theorem vx_Zqof {args : Array Value} {s : State} {C n d : String} {A : Nat → Prop} (hl : (Cond.laysStatic C n d).before args s = true) (hini : (Cond.initialized C).before args s = true) (h : (Cond.isRef (.static C n d)).before args s = true) (hA : ∀ a : Nat, a < s.heap.size → ¬ A a) : vx_Zq C n d A s s.heap := by
  refine ⟨va_Zqof hl hini h hA, ?_⟩
  obtain ⟨c, k, i, f, a, cell, h1, h2, h3, h4, h5, h6, h7, h8, h9⟩ := Cond.laysStatic_spec hl
  exact ⟨c, k, i, f, a, cell, h1, h2, h3, h4, h5, h6, h7, h8, h9, hA a (Array.getElem?_eq_some_iff.mp h5).1⟩
theorem vx_isRef {C n d : String} {v : Value} {A : Nat → Prop} {s : State} {args : Array Value} (h : va_Z C n d v A s s.heap) (hv : v.isRef = true) : (Cond.isRef (.static C n d)).before args s = true := by
  obtain ⟨cf, kf, fi, f, a, cell, h1, h2, h3, h4, h5, h6, h7, -⟩ := h
  have he : (Term.static C n d).eval args s none [] s = some v := by
    simp [Term.eval, State.fieldNamed?, h1, h2, h4, h5, h6, h7]
  simp only [Cond.before, Cond.holds, Cond.value, he]
  cases v <;> simp_all [Value.isRef]
theorem vx_isRefq {C n d : String} {A : Nat → Prop} {s : State} {args : Array Value} (h : va_Zq C n d A s s.heap) : (Cond.isRef (.static C n d)).before args s = true := by
  rcases h with h | ⟨t, h⟩
  · exact vx_isRef h rfl
  · exact vx_isRef h rfl
/-- the same frame, seen from here: as if the method were called anew in this heap -/
theorem vx_rebase {T : State} (X : Stand p l e R s m args below meth c T locs cells slots) {R' : Room} (hf : R'.frames ≤ R.frames) (hl : R'.locals ≤ R.locals) (hc : cells + R'.cells ≤ R.cells) (hs : slots + R'.slots ≤ R.slots) :
    Stand p l e R' ((T.setVm s.vm).setFrames (.invoking m args :: below)) m args below meth c T [] 0 0 := by
  have htop : (T.setVm s.vm).topJava?.isSome := X.here.top
  have hF : ((T.setVm s.vm).setFrames (.invoking m args :: below)).frames = .invoking m args :: below := State.frames_setFrames _ (State.cur_lt_of_top htop)
  obtain ⟨g₀, hg0⟩ := Option.isSome_iff_exists.mp htop
  obtain ⟨r, hr⟩ := State.topJava?_eq_some.mp hg0
  have hl9 : e.platform.stackLimits (T.setVm s.vm).me = e.platform.stackLimits s.me := X.limits
  have hb9 : (T.setVm s.vm).me.stackBytes = s.me.stackBytes := X.bytes
  refine ⟨X.admits, X.cas, X.clock, hF, ?_, X.hears, X.method, X.code, X.here, X.tail, X.warmed, ?_, ?_, ?_⟩
  · have h := X.room
    have hU : ((T.setVm s.vm).setFrames (.invoking m args :: below)).localsInUse = s.localsInUse := by
      rw [State.localsInUse_invoking hF (meth := meth) (c := c) X.method X.code, State.localsInUse_invoking X.frames X.method X.code]
    simp only [State.hasRoom, Bool.and_eq_true, decide_eq_true_eq] at h ⊢
    obtain ⟨⟨⟨⟨h1, h2, h3, h4, h5, h6⟩, h7⟩, h8⟩, h9⟩ := h
    rw [X.frames, List.length_cons] at h2 h3
    have q1 := X.heapSize
    have q2 := X.used
    simp only [hF, hU, List.length_cons, State.stackLimits_setFrames, State.stackBytes_setFrames, hl9, hb9]
    refine ⟨⟨⟨⟨by omega, by omega, by omega, by omega, by omega, h6⟩, ?_⟩, ?_⟩, X.book⟩
    · show T.heap.size + R'.cells ≤ e.platform.maxCells
      omega
    · show T.slotsUsed + R'.slots ≤ e.platform.maxSlots
      omega
  · rw [State.stackLimits_setFrames]; rfl
  · rw [State.stackBytes_setFrames]; rfl
  · refine ⟨?_, Nat.le_refl _, Nat.le_refl _, ?_, ?_, fun a c9 h9 => ⟨c9, h9, rfl, rfl, fun _ _ => rfl⟩⟩
    · obtain ⟨t, ht, -⟩ := State.frames_cons hr
      show T.setVm s.vm = { ((T.setVm s.vm).setFrames (.invoking m args :: below)).setFrames (T.setVm s.vm).frames with heap := T.heap, slotsUsed := T.slotsUsed }
      rw [State.setFrames_setFrames, State.setFrames_self ht]
      rfl
    · show T.slotsUsed = T.slotsUsed + ((T.heap.toList.drop T.heap.size).map (·.slots.size)).sum
      rw [List.drop_eq_nil_of_le (Nat.le_of_eq Array.length_toList)]
      rfl
    · show ((T.heap.toList.drop T.heap.size).map (·.slots.size)).sum ≤ 0
      rw [List.drop_eq_nil_of_le (Nat.le_of_eq Array.length_toList)]
      exact Nat.le_refl _
/-- 'throw new E()': new; dup; invokespecial; athrow -/
theorem vx_throw0 {cc : ByteArray} {pc : Nat} (hexec : p.tables.exec = Jvm.exec) (hb : c.code = cc) (hl : l.stackTraces = false) {own cls : String} {names : List String} {ik ic mc ms : Nat} {A : Nat → Prop}
    (hown : s.vm.findClass own = some m.cls) (hcls : Bundle.fit cls = true) (hnames : ∀ n ∈ names, Bundle.fit n = true)
    (hk : (Cond.classLink own ik cls).before args s = true) (hini : (Cond.initialized cls).before args s = true) (hat : ∀ w ∈ vx_at0 own ic cls names, w.before args s = true)
    (hgood : ∀ w ∈ Cond.classLink own ik cls :: Cond.initialized cls :: vx_at0 own ic cls names, vx_ot w = true)
    (hU : vx_Zq Bundle.tN "UNASSIGNED_STACK" Bundle.steD A s s.heap) (hN : vx_Zq Bundle.tN "SUPPRESSED_SENTINEL" Bundle.listD A s s.heap) (hS : va_S A s.heap H locs) (hsize : ls.size = c.maxLocals)
    (d0 : decode cc pc = .ok (.new ik, 3)) (d3 : decode cc (pc + 3) = .ok (.dup, 1)) (d4 : decode cc (pc + 4) = .ok (.invokespecial ic, 3)) (d7 : decode cc (pc + 7) = .ok (.athrow, 1))
    (hout : ∀ x ∈ c.exceptionTable.toList, covers x (pc + 7) = false)
    (hRframes : names.length + 3 < R.frames) (hRlocals : (rest.map fun v => v.category).sum + (13 * (names.length + 1) + 42) ≤ R.locals) (hRcells : cells + 1 ≤ R.cells) (hRslots : slots + 6 ≤ R.slots) (hlocks : meth.locks = false)
    (hx : ∀ t : State, s.vm.Alike t.vm → H.size ≤ t.heap.size → (∀ q : Nat, q < H.size → t.heap[q]? = H[q]?) → XC cls s t)
    (hf : ∀ z ∈ locs, free z.base) (hc : cells + 1 ≤ mc) (hs : slots + 6 ≤ ms) :
    W p l e R s m args below meth c H locs cells slots (vx_MQ below Qc XC args s mc ms free) (F0 m pc ls rest) := by
  intro T hT X
  have htr : e.platform.stackTraces = false := (show e.platform.stackTraces = l.stackTraces by rw [X.admits.platform]).trans hl
  have Y := vx_rebase X (R' := { frames := R.frames, locals := R.locals, cells := 1, slots := 6 }) (Nat.le_refl _) (Nat.le_refl _) hRcells hRslots
  obtain ⟨s', hA⟩ : ∃ z, z = (T.setVm s.vm).setFrames (.invoking m args :: below) := ⟨_, rfl⟩
  rw [← hA] at Y
  have hvm : s'.vm = s.vm := by rw [hA]; rfl
  have hhp : s'.heap = H := by rw [hA]; exact hT
  have hW0 : s.WarmedH s'.vm := by rw [hvm]; exact State.WarmedH.refl s
  have hat' : ∀ w ∈ vx_at0 own ic cls names, w.before args s' = true := fun w hw => vx_ot_at hW0 hvm.symm (hgood w (List.mem_cons_of_mem _ (List.mem_cons_of_mem _ hw))) (hat w hw)
  have hk' : (Cond.classLink own ik cls).before args s' = true := vx_ot_at hW0 hvm.symm (hgood _ List.mem_cons_self) hk
  have hini' : (Cond.initialized cls).before args s' = true := vx_ot_at hW0 hvm.symm (hgood _ (List.mem_cons_of_mem _ List.mem_cons_self)) hini
  have hU' : vx_Zq Bundle.tN "UNASSIGNED_STACK" Bundle.steD A s' s'.heap := by rw [hhp]; exact vx_Zq.moved hW0.alike (hU.kept hS.2.1)
  have hN' : vx_Zq Bundle.tN "SUPPRESSED_SENTINEL" Bundle.listD A s' s'.heap := by rw [hhp]; exact vx_Zq.moved hW0.alike (hN.kept hS.2.1)
  have h : ∀ w ∈ Bundle.ownAtoms0 own ic cls names, w.before args s' = true := vx_own hat' (vx_isRefq hU'.1) (vx_isRefq hN'.1) hU'.2.word hN'.2.word
  have hown' : s'.vm.findClass own = some m.cls := by rw [hvm]; exact hown
  have hins : (Cond.instantiable cls 6).before args s' = true := h _ (by simp [Bundle.ownAtoms0])
  obtain ⟨vm₁, cX, kX, hfX, hkX, -, -, X₁, st1⟩ := Y.newCold hexec (own := own) (C := cls) (index := ik) (n := 6) hown' hk' hins hini'
    (g := F0 m pc ls rest) rfl (by rw [hb]; exact d0) (Nat.le_refl _) (Nat.le_refl _)
  generalize hT1 : (T.setVm vm₁).pushCell { cls := cX, slots := kX.instanceTypes.map defaultValue, vm := .none } = T1 at X₁ st1
  have hcat : (Value.ref T.heap.size).category = 1 := rfl
  have hcellA : T1.heap[T.heap.size]? = some (freshCell cX kX) := by rw [← hT1]; exact State.heap_pushCell_size _ _
  have d3' : decode c.code (pc + 3) = .ok (.dup, 1) := by rw [hb]; exact d3
  obtain ⟨U, hsteps, hrun, hend, hW, hsame, ce, hce, hO⟩ := X₁.ctorThrow0 hexec htr (own := own) (cls := cls) (names := names) (ic := ic) hown' hcls hnames h (fun x hx => nomatch hx) hfX hkX hcellA (by rw [hhp, hT]; exact Nat.le_refl _)
    (g := { method := m, pc := pc + 4, locals := ls, stack := .ref T.heap.size :: .ref T.heap.size :: rest, locked := none }) rfl hsize rfl rfl (rest := rest) rfl
    (by rw [hb]; exact d4) (by rw [hb]; exact d7) hout hRframes (by simp only [List.map_cons, List.sum_cons, hcat]; omega) hlocks
  obtain ⟨f1, f2⟩ := vx_frame hsame
  rw [hhp] at f1 f2
  have hWs : s.WarmedH U.vm := State.WarmedH.trans hW0 hW
  have hcl : s.vm.findClass cls = some ce.cls := by
    have h9 := hO.cls
    rw [hvm] at h9
    exact h9
  have hall : s.sameButNew ({ U with vm := s.vm } : State) locs mc ms := by
    subst hA
    obtain ⟨e1, e2⟩ := hsame
    rw [State.setFrames_setFrames] at e1
    have h2 : (T.setVm s.vm).sameButNew ({ U with vm := s.vm } : State) [] (0 + 1) (0 + 6) := ⟨e1, e2⟩
    have h3 := X.same.trans h2
    rw [List.append_nil] at h3
    exact h3.mono hc hs
  refine ⟨U, ?_, .threw T.heap.size, hrun, hend, Or.inr ⟨T.heap.size, rfl, cls, ce, locs, hx U hWs.alike f1 (fun q hq => f2 q hq (fun z hz => nomatch hz)), hce, hO.vm, hcl, hWs, hall, hf⟩⟩
  refine st1 _ ?_
  show Steps p.tables e below (T1.setTop { method := m, pc := pc + 3, locals := ls, stack := .ref T.heap.size :: rest, locked := none }) _
  jvm_step X₁.here [X₁.here.top, hexec, d3', Value.category]
  exact hsteps
/-- 'throw new E("text")': new; dup; ldc; invokespecial; athrow -/
theorem vx_throwS {cc : ByteArray} {pc : Nat} (hexec : p.tables.exec = Jvm.exec) (hb : c.code = cc) (hl : l.stackTraces = false) {own cls text : String} {names : List String} {ik is ic mc ms sa : Nat} {A : Nat → Prop}
    (hown : s.vm.findClass own = some m.cls) (hcls : Bundle.fit cls = true) (hnames : ∀ n ∈ names, Bundle.fit n = true)
    (hk : (Cond.classLink own ik cls).before args s = true) (hini : (Cond.initialized cls).before args s = true) (hstr : vk_R own is text sa s) (hat : ∀ w ∈ vx_atS own ic cls names, w.before args s = true)
    (hgood : ∀ w ∈ Cond.classLink own ik cls :: Cond.initialized cls :: vx_atS own ic cls names, vx_ot w = true)
    (hU : vx_Zq Bundle.tN "UNASSIGNED_STACK" Bundle.steD A s s.heap) (hN : vx_Zq Bundle.tN "SUPPRESSED_SENTINEL" Bundle.listD A s s.heap) (hS : va_S A s.heap H locs) (hsize : ls.size = c.maxLocals)
    (d0 : decode cc pc = .ok (.new ik, 3)) (d3 : decode cc (pc + 3) = .ok (.dup, 1)) (d4 : decode cc (pc + 4) = .ok (.ldc is, 2)) (d6 : decode cc (pc + 6) = .ok (.invokespecial ic, 3)) (d9 : decode cc (pc + 9) = .ok (.athrow, 1))
    (hout : ∀ x ∈ c.exceptionTable.toList, covers x (pc + 9) = false)
    (hRframes : names.length + 3 < R.frames) (hRlocals : (rest.map fun v => v.category).sum + (13 * (names.length + 1) + 43) ≤ R.locals) (hRcells : cells + 1 ≤ R.cells) (hRslots : slots + 6 ≤ R.slots) (hlocks : meth.locks = false)
    (hx : ∀ t : State, s.vm.Alike t.vm → H.size ≤ t.heap.size → (∀ q : Nat, q < H.size → t.heap[q]? = H[q]?) → XC cls s t)
    (hf : ∀ z ∈ locs, free z.base) (hc : cells + 1 ≤ mc) (hs : slots + 6 ≤ ms) :
    W p l e R s m args below meth c H locs cells slots (vx_MQ below Qc XC args s mc ms free) (F0 m pc ls rest) := by
  intro T hT X
  have htr : e.platform.stackTraces = false := (show e.platform.stackTraces = l.stackTraces by rw [X.admits.platform]).trans hl
  have Y := vx_rebase X (R' := { frames := R.frames, locals := R.locals, cells := 1, slots := 6 }) (Nat.le_refl _) (Nat.le_refl _) hRcells hRslots
  obtain ⟨s', hA⟩ : ∃ z, z = (T.setVm s.vm).setFrames (.invoking m args :: below) := ⟨_, rfl⟩
  rw [← hA] at Y
  have hvm : s'.vm = s.vm := by rw [hA]; rfl
  have hhp : s'.heap = H := by rw [hA]; exact hT
  have hW0 : s.WarmedH s'.vm := by rw [hvm]; exact State.WarmedH.refl s
  have hat' : ∀ w ∈ vx_atS own ic cls names, w.before args s' = true := fun w hw => vx_ot_at hW0 hvm.symm (hgood w (List.mem_cons_of_mem _ (List.mem_cons_of_mem _ hw))) (hat w hw)
  have hk' : (Cond.classLink own ik cls).before args s' = true := vx_ot_at hW0 hvm.symm (hgood _ List.mem_cons_self) hk
  have hini' : (Cond.initialized cls).before args s' = true := vx_ot_at hW0 hvm.symm (hgood _ (List.mem_cons_of_mem _ List.mem_cons_self)) hini
  have hU' : vx_Zq Bundle.tN "UNASSIGNED_STACK" Bundle.steD A s' s'.heap := by rw [hhp]; exact vx_Zq.moved hW0.alike (hU.kept hS.2.1)
  have hN' : vx_Zq Bundle.tN "SUPPRESSED_SENTINEL" Bundle.listD A s' s'.heap := by rw [hhp]; exact vx_Zq.moved hW0.alike (hN.kept hS.2.1)
  have h : ∀ w ∈ Bundle.ownAtoms own ic cls names, w.before args s' = true := vx_own hat' (vx_isRefq hU'.1) (vx_isRefq hN'.1) hU'.2.word hN'.2.word
  have hown' : s'.vm.findClass own = some m.cls := by rw [hvm]; exact hown
  have hins : (Cond.instantiable cls 6).before args s' = true := h _ (by simp [Bundle.ownAtoms])
  obtain ⟨vm₁, cX, kX, hfX, hkX, -, -, X₁, st1⟩ := Y.newCold hexec (own := own) (C := cls) (index := ik) (n := 6) hown' hk' hins hini'
    (g := F0 m pc ls rest) rfl (by rw [hb]; exact d0) (Nat.le_refl _) (Nat.le_refl _)
  generalize hT1 : (T.setVm vm₁).pushCell { cls := cX, slots := kX.instanceTypes.map defaultValue, vm := .none } = T1 at X₁ st1
  have hcat : (Value.ref T.heap.size).category = 1 := rfl
  have hcellA : T1.heap[T.heap.size]? = some (freshCell cX kX) := by rw [← hT1]; exact State.heap_pushCell_size _ _
  have d3' : decode c.code (pc + 3) = .ok (.dup, 1) := by rw [hb]; exact d3
  have d4' : decode c.code (pc + 4) = .ok (.ldc is, 2) := by rw [hb]; exact d4
  have hstr' : vk_R own is text sa s' := vk_R.warm hW0 hstr
  obtain ⟨U, hsteps, hrun, hend, hW, hsame, ce, hce, hO⟩ := X₁.ctorThrowS hexec htr (own := own) (cls := cls) (names := names) (ic := ic) hown' hcls hnames h (fun x hx => nomatch hx) hfX hkX hcellA (by rw [hhp, hT]; exact Nat.le_refl _) (msg := .ref sa) rfl
    (g := { method := m, pc := pc + 6, locals := ls, stack := .ref sa :: .ref T.heap.size :: .ref T.heap.size :: rest, locked := none }) rfl hsize rfl rfl (rest := rest) rfl
    (by rw [hb]; exact d6) (by rw [hb]; exact d9) hout hRframes (by simp only [List.map_cons, List.sum_cons, hcat]; omega) hlocks
  obtain ⟨f1, f2⟩ := vx_frame hsame
  rw [hhp] at f1 f2
  have hWs : s.WarmedH U.vm := State.WarmedH.trans hW0 hW
  have hcl : s.vm.findClass cls = some ce.cls := by
    have h9 := hO.cls
    rw [hvm] at h9
    exact h9
  have hall : s.sameButNew ({ U with vm := s.vm } : State) locs mc ms := by
    subst hA
    obtain ⟨e1, e2⟩ := hsame
    rw [State.setFrames_setFrames] at e1
    have h2 : (T.setVm s.vm).sameButNew ({ U with vm := s.vm } : State) [] (0 + 1) (0 + 6) := ⟨e1, e2⟩
    have h3 := X.same.trans h2
    rw [List.append_nil] at h3
    exact h3.mono hc hs
  refine ⟨U, ?_, .threw T.heap.size, hrun, hend, Or.inr ⟨T.heap.size, rfl, cls, ce, locs, hx U hWs.alike f1 (fun q hq => f2 q hq (fun z hz => nomatch hz)), hce, hO.vm, hcl, hWs, hall, hf⟩⟩
  refine st1 _ ?_
  show Steps p.tables e below (T1.setTop { method := m, pc := pc + 3, locals := ls, stack := .ref T.heap.size :: rest, locked := none }) _
  jvm_step X₁.here [X₁.here.top, hexec, d3', Value.category]
  exact X₁.ldcString hexec (own := own) (text := text) (index := is) (a := sa) hown' hstr'.1 hstr'.2
    (g := { method := m, pc := pc + 4, locals := ls, stack := .ref T.heap.size :: .ref T.heap.size :: rest, locked := none }) rfl d4' _ hsteps
/-- 'throw new E("text")', the text by a wide index -/
theorem vx_throwSW {cc : ByteArray} {pc : Nat} (hexec : p.tables.exec = Jvm.exec) (hb : c.code = cc) (hl : l.stackTraces = false) {own cls text : String} {names : List String} {ik is ic mc ms sa : Nat} {A : Nat → Prop}
    (hown : s.vm.findClass own = some m.cls) (hcls : Bundle.fit cls = true) (hnames : ∀ n ∈ names, Bundle.fit n = true)
    (hk : (Cond.classLink own ik cls).before args s = true) (hini : (Cond.initialized cls).before args s = true) (hstr : vk_R own is text sa s) (hat : ∀ w ∈ vx_atS own ic cls names, w.before args s = true)
    (hgood : ∀ w ∈ Cond.classLink own ik cls :: Cond.initialized cls :: vx_atS own ic cls names, vx_ot w = true)
    (hU : vx_Zq Bundle.tN "UNASSIGNED_STACK" Bundle.steD A s s.heap) (hN : vx_Zq Bundle.tN "SUPPRESSED_SENTINEL" Bundle.listD A s s.heap) (hS : va_S A s.heap H locs) (hsize : ls.size = c.maxLocals)
    (d0 : decode cc pc = .ok (.new ik, 3)) (d3 : decode cc (pc + 3) = .ok (.dup, 1)) (d4 : decode cc (pc + 4) = .ok (.ldc_w is, 3)) (d7 : decode cc (pc + 7) = .ok (.invokespecial ic, 3)) (d10 : decode cc (pc + 10) = .ok (.athrow, 1))
    (hout : ∀ x ∈ c.exceptionTable.toList, covers x (pc + 10) = false)
    (hRframes : names.length + 3 < R.frames) (hRlocals : (rest.map fun v => v.category).sum + (13 * (names.length + 1) + 43) ≤ R.locals) (hRcells : cells + 1 ≤ R.cells) (hRslots : slots + 6 ≤ R.slots) (hlocks : meth.locks = false)
    (hx : ∀ t : State, s.vm.Alike t.vm → H.size ≤ t.heap.size → (∀ q : Nat, q < H.size → t.heap[q]? = H[q]?) → XC cls s t)
    (hf : ∀ z ∈ locs, free z.base) (hc : cells + 1 ≤ mc) (hs : slots + 6 ≤ ms) :
    W p l e R s m args below meth c H locs cells slots (vx_MQ below Qc XC args s mc ms free) (F0 m pc ls rest) := by
  intro T hT X
  have htr : e.platform.stackTraces = false := (show e.platform.stackTraces = l.stackTraces by rw [X.admits.platform]).trans hl
  have Y := vx_rebase X (R' := { frames := R.frames, locals := R.locals, cells := 1, slots := 6 }) (Nat.le_refl _) (Nat.le_refl _) hRcells hRslots
  obtain ⟨s', hA⟩ : ∃ z, z = (T.setVm s.vm).setFrames (.invoking m args :: below) := ⟨_, rfl⟩
  rw [← hA] at Y
  have hvm : s'.vm = s.vm := by rw [hA]; rfl
  have hhp : s'.heap = H := by rw [hA]; exact hT
  have hW0 : s.WarmedH s'.vm := by rw [hvm]; exact State.WarmedH.refl s
  have hat' : ∀ w ∈ vx_atS own ic cls names, w.before args s' = true := fun w hw => vx_ot_at hW0 hvm.symm (hgood w (List.mem_cons_of_mem _ (List.mem_cons_of_mem _ hw))) (hat w hw)
  have hk' : (Cond.classLink own ik cls).before args s' = true := vx_ot_at hW0 hvm.symm (hgood _ List.mem_cons_self) hk
  have hini' : (Cond.initialized cls).before args s' = true := vx_ot_at hW0 hvm.symm (hgood _ (List.mem_cons_of_mem _ List.mem_cons_self)) hini
  have hU' : vx_Zq Bundle.tN "UNASSIGNED_STACK" Bundle.steD A s' s'.heap := by rw [hhp]; exact vx_Zq.moved hW0.alike (hU.kept hS.2.1)
  have hN' : vx_Zq Bundle.tN "SUPPRESSED_SENTINEL" Bundle.listD A s' s'.heap := by rw [hhp]; exact vx_Zq.moved hW0.alike (hN.kept hS.2.1)
  have h : ∀ w ∈ Bundle.ownAtoms own ic cls names, w.before args s' = true := vx_own hat' (vx_isRefq hU'.1) (vx_isRefq hN'.1) hU'.2.word hN'.2.word
  have hown' : s'.vm.findClass own = some m.cls := by rw [hvm]; exact hown
  have hins : (Cond.instantiable cls 6).before args s' = true := h _ (by simp [Bundle.ownAtoms])
  obtain ⟨vm₁, cX, kX, hfX, hkX, -, -, X₁, st1⟩ := Y.newCold hexec (own := own) (C := cls) (index := ik) (n := 6) hown' hk' hins hini'
    (g := F0 m pc ls rest) rfl (by rw [hb]; exact d0) (Nat.le_refl _) (Nat.le_refl _)
  generalize hT1 : (T.setVm vm₁).pushCell { cls := cX, slots := kX.instanceTypes.map defaultValue, vm := .none } = T1 at X₁ st1
  have hcat : (Value.ref T.heap.size).category = 1 := rfl
  have hcellA : T1.heap[T.heap.size]? = some (freshCell cX kX) := by rw [← hT1]; exact State.heap_pushCell_size _ _
  have d3' : decode c.code (pc + 3) = .ok (.dup, 1) := by rw [hb]; exact d3
  have d4' : decode c.code (pc + 4) = .ok (.ldc_w is, 3) := by rw [hb]; exact d4
  have hstr' : vk_R own is text sa s' := vk_R.warm hW0 hstr
  obtain ⟨U, hsteps, hrun, hend, hW, hsame, ce, hce, hO⟩ := X₁.ctorThrowS hexec htr (own := own) (cls := cls) (names := names) (ic := ic) hown' hcls hnames h (fun x hx => nomatch hx) hfX hkX hcellA (by rw [hhp, hT]; exact Nat.le_refl _) (msg := .ref sa) rfl
    (g := { method := m, pc := pc + 7, locals := ls, stack := .ref sa :: .ref T.heap.size :: .ref T.heap.size :: rest, locked := none }) rfl hsize rfl rfl (rest := rest) rfl
    (by rw [hb]; exact d7) (by rw [hb]; exact d10) hout hRframes (by simp only [List.map_cons, List.sum_cons, hcat]; omega) hlocks
  obtain ⟨f1, f2⟩ := vx_frame hsame
  rw [hhp] at f1 f2
  have hWs : s.WarmedH U.vm := State.WarmedH.trans hW0 hW
  have hcl : s.vm.findClass cls = some ce.cls := by
    have h9 := hO.cls
    rw [hvm] at h9
    exact h9
  have hall : s.sameButNew ({ U with vm := s.vm } : State) locs mc ms := by
    subst hA
    obtain ⟨e1, e2⟩ := hsame
    rw [State.setFrames_setFrames] at e1
    have h2 : (T.setVm s.vm).sameButNew ({ U with vm := s.vm } : State) [] (0 + 1) (0 + 6) := ⟨e1, e2⟩
    have h3 := X.same.trans h2
    rw [List.append_nil] at h3
    exact h3.mono hc hs
  refine ⟨U, ?_, .threw T.heap.size, hrun, hend, Or.inr ⟨T.heap.size, rfl, cls, ce, locs, hx U hWs.alike f1 (fun q hq => f2 q hq (fun z hz => nomatch hz)), hce, hO.vm, hcl, hWs, hall, hf⟩⟩
  refine st1 _ ?_
  show Steps p.tables e below (T1.setTop { method := m, pc := pc + 3, locals := ls, stack := .ref T.heap.size :: rest, locked := none }) _
  jvm_step X₁.here [X₁.here.top, hexec, d3', Value.category]
  exact X₁.ldcStringW hexec (own := own) (text := text) (index := is) (a := sa) hown' hstr'.1 hstr'.2
    (g := { method := m, pc := pc + 4, locals := ls, stack := .ref T.heap.size :: .ref T.heap.size :: rest, locked := none }) rfl d4' _ hsteps
end Ends
section Bodies
variable {l : Launch}
theorem vx_ofW {y : MethodName} {ws ws' : List Cond} {rm : Room} {Pc : Array Value → State → Prop} {Qc : Array Value → State → Outcome → State → Prop} {XC : String → State → State → Prop} {mc ms : Nat} {free : Addr → Prop} {cc : ByteArray} {maxL : Nat} {ret : Option FieldType}
    (hy : plainName y.cls = true) (hw : ws = Cond.code y cc maxL ret :: ws')
    (body : ∀ p e s m args below meth c s₁, BodyLoose p l y (headSpec ws rm) cc maxL ret e s m args below meth c s₁ → c.maxLocals = maxL → (∀ x ∈ c.exceptionTable.toList, False) → Pc args s →
      W p l e (headSpec ws rm).room s m args below meth c s.heap [] 0 0 (vx_MQ below Qc XC args s mc ms free) (entryFrame m args maxL)) : vx_Met l y ws rm Pc Qc XC mc ms free := by
  refine MetFree.of_bodyS (code := cc) (maxLocals := maxL) (ret := ret) hy ?_ ?_
  · intro args s m h hn
    obtain ⟨meth, c, h1, h2, h3, h4, h5, h6, -, -⟩ := Cond.code_spec hn (atoms_spec (ws := ws) h _ (by rw [hw]; exact List.mem_cons_self))
    exact ⟨meth, c, h1, h2, h3, h4, h5, h6⟩
  · intro p e s m args below meth c s₁ B hml hP _
    have hh0 : s₁.heap = s.heap := by rw [B.state]; rfl
    have ht : ∀ x ∈ c.exceptionTable.toList, False := by
      obtain ⟨meth9, c9, h1, h2, -, -, -, -, h7, -⟩ := Cond.code_spec B.named (atoms_spec (ws := ws) B.pre _ (by rw [hw]; exact List.mem_cons_self))
      cases Option.some.inj (h1.symm.trans B.method)
      cases Option.some.inj (h2.symm.trans (Stand.of_body B).code)
      intro x hx
      rw [Array.isEmpty_iff.mp h7] at hx
      cases hx
    obtain ⟨t, a1, o, b1, b2, b3⟩ := body p e s m args below meth c s₁ B hml ht hP s₁ hh0 (Stand.of_body B)
    exact ⟨t, o, a1, b1, b2, b3⟩
/-- the table of a body with handlers -/
theorem vx_table {p : Program} {x y : MethodName} {S : Spec} {cc bytes : ByteArray} {maxL maxL' : Nat} {ret ret' : Option FieldType} {e : Env} {s s₁ : State} {m : MethodId} {args : Array Value} {below : List Frame} {meth : Method} {c : Code} {hh : List (Nat × Nat × Nat × Nat)}
    (B : BodyLoose p l y S cc maxL ret e s m args below meth c s₁) (h : (Cond.codeWith y bytes maxL' ret' hh).before args s = true) : c.exceptionTable.toList = tableOf hh := by
  obtain ⟨m9, meth9, c9, hn9, h1, h2, -, -, h6, -⟩ := Cond.codeWith_spec h
  cases Option.some.inj (hn9.symm.trans B.named)
  cases Option.some.inj (h1.symm.trans B.method)
  cases Option.some.inj (h2.symm.trans (Stand.of_body B).code)
  rw [← h6, table_eq]
end Bodies
end VXA
/-! ===== END ===== -/
/-! ===== BEGIN a static call of a method with an exception table ===== -/
section VXS
variable {p : Program} {l : Launch} {e : Env} {R : Room} {s : State} {m : MethodId} {args : Array Value} {below : List Frame} {meth : Method} {c : Code} {T : State} {H : Heap} {locs : List Loc} {cells slots : Nat}
abbrev vx_CSW (R : Room) (s : State) (args : Array Value) (own : String) (index : Nat) (y : MethodName) (bytes : ByteArray) (maxL : Nat) (ret : Option FieldType) (hh : List (Nat × Nat × Nat × Nat)) (ws : List Cond) (rm : Room) (mc ms n : Nat) : Prop :=
  (rm.cells = mc ∧ rm.slots = ms ∧ rm.frames + 1 ≤ R.frames ∧ 8 + (maxL + 11) + rm.locals ≤ R.locals ∧ (∀ w ∈ ws, ∀ (a' : Array Value) (U : State), s.WarmedH U.vm → w.before a' U = true) ∧ Cond.codeWith y bytes maxL ret hh ∈ ws) ∧
  (Cond.codeWith y bytes maxL ret hh).before args s = true ∧ (Cond.initialized y.cls).before args s = true ∧ (y.cls ≠ "java/lang/invoke/MethodHandle" ∧ y.cls ≠ "java/lang/invoke/VarHandle") ∧
  (∀ sig, parseMethodDescriptor y.desc = some sig → n = sig.parameters.length) ∧ (Cond.methodLink own index y).before args s = true ∧ (Cond.static y).before args s = true
theorem vx_cwSW {own : String} {index maxL mc ms : Nat} {y : MethodName} {bytes : ByteArray} {ret : Option FieldType} {hh : List (Nat × Nat × Nat × Nat)} {Ts ws ws' : List Cond} {rm : Room} (n : Nat) (ht : ∀ w ∈ Ts, w.before args s = true) (hT : GoodIn Ts (va_wsS own index y ws)) (hw : ws = Cond.codeWith y bytes maxL ret hh :: ws') (hrc : rm.cells = mc) (hrs : rm.slots = ms)
    (hd : y.cls ≠ "java/lang/invoke/MethodHandle" ∧ y.cls ≠ "java/lang/invoke/VarHandle" ∧ (parseMethodDescriptor y.desc).map (fun d => d.parameters.length) = some n) (hR : rm.frames + 1 ≤ R.frames ∧ 8 + (maxL + 11) + rm.locals ≤ R.locals) :
    vx_CSW R s args own index y bytes maxL ret hh ws rm mc ms n := by
  have ok : ∀ w ∈ va_wsS own index y ws, w.before args s = true := fun w h => ht w (hT w h).1
  have hG : GoodIn Ts ws := fun w h => hT w (by unfold va_wsS; exact List.mem_append_right _ h)
  have hc : Cond.codeWith y bytes maxL ret hh ∈ ws := by rw [hw]; exact List.mem_cons_self
  refine ⟨⟨hrc, hrs, hR.1, hR.2, pay_in ht hG, hc⟩, ht _ (hG _ hc).1, ok _ (by simp [va_wsS]), ⟨hd.1, hd.2.1⟩, fun sig h => ?_, ok _ (by simp [va_wsS]), ok _ (by simp [va_wsS])⟩
  have h2 := hd.2.2
  rw [h] at h2
  exact (Option.some.inj h2).symm
theorem vx_callSW (X : Stand p l e R s m args below meth c T locs cells slots) (hexec : p.tables.exec = Jvm.exec) {own : String} {index : Nat} {y : MethodName} {bytes : ByteArray} {maxL : Nat} {ret : Option FieldType} {hh : List (Nat × Nat × Nat × Nat)}
    (hown : s.vm.findClass own = some m.cls) (hlink : (Cond.methodLink own index y).before args s = true) (hstat : (Cond.static y).before args s = true) (hinit : (Cond.initialized y.cls).before args s = true)
    (hcode : (Cond.codeWith y bytes maxL ret hh).before args s = true) (hy : y.cls ≠ "java/lang/invoke/MethodHandle" ∧ y.cls ≠ "java/lang/invoke/VarHandle")
    {W9 : Nat} {Pre : Pt → Array Value → Prop} {Post : Pt → Array Value → Option Value → Pt → Prop} (hK : Back l R p e below s args y 3 W9 Pre Post)
    {g : JFrame} (hg : g.method = m) (hsize : g.locals.size = c.maxLocals) {argsL rest : List Value} (hlen : ∀ sig, parseMethodDescriptor y.desc = some sig → argsL.length = sig.parameters.length)
    (hstack : g.stack = argsL.reverse ++ rest) (hW : 2 * g.monitorRoom + (rest.map fun v => v.category).sum ≤ W9) (hdg : decode c.code g.pc = .ok (.invokestatic index, 3))
    (hpre : ∀ vm₁, s.WarmedH vm₁ → Pre ⟨T.setVm vm₁, locs, cells, slots⟩ argsL.toArray) :
    ∃ (v : Option Value) (vm₁ : Vm) (B : Pt), s.WarmedH vm₁ ∧ Stand p l e R s m args below meth c B.U B.locs B.cells B.slots ∧ Post ⟨T.setVm vm₁, locs, cells, slots⟩ argsL.toArray v B ∧
      ∀ target, Steps p.tables e below (B.U.setTop { g with pc := g.pc + 3, stack := v.toList ++ rest }) target → Steps p.tables e below (T.setTop g) target := by
  obtain ⟨mk, methM, cM, hnamed, hmethM, -, -, -, -, -, -, hsigM⟩ := Cond.codeWith_spec hcode
  have hstatic : methM.isStatic = true := Cond.static_spec hnamed hmethM hstat
  obtain ⟨kP, hkP, -⟩ := className_of_methodNamed hnamed
  have hinitP : kP.init = .initialized := Cond.initialized_spec (findClass_of_methodNamed hnamed) hkP hinit
  obtain ⟨vm₁, X₁, hstep₁⟩ := X.invokestatic hexec hown hlink hnamed hmethM hstatic hkP hinitP hy (g := g) hg (argsL := argsL) (rest := rest) (hlen _ hsigM) hstack hdg
  obtain ⟨v, B, X', hpost, hsteps⟩ := hK m meth c ⟨T.setVm vm₁, locs, cells, slots⟩ { g with stack := rest } (.invokestatic index) mk argsL.toArray X₁ hg hsize hdg hW (X₁.named hnamed) (hpre vm₁ X₁.warmed)
  exact ⟨v, vm₁, B, X₁.warmed, X', hpost, fun target h => hstep₁ _ fun acts => by rw [doInvoke_state]; exact hsteps.trans h⟩
theorem vx_runSW {y : MethodName} {bytes cc : ByteArray} {maxL nL mc ms n index : Nat} {ret : Option FieldType} {hh : List (Nat × Nat × Nat × Nat)} {ws : List Cond} {rm : Room} {Pc : Array Value → State → Prop} {Qc : Array Value → State → Outcome → State → Prop} {free : Addr → Prop} {Ts : List Cond} {own : String} {As rest : List Value} {g : JFrame}
    (S : CallFix p m c cc nL s args Ts own) (hM : Met l y ws rm Pc Qc mc ms free) (cw : vx_CSW R s args own index y bytes maxL ret hh ws rm mc ms n) (hp : PreS s H Pc As)
    (hg : g.method = m) (hn : As.length = n) (hsize : g.locals.size = nL) (hstack : g.stack = As.reverse ++ rest) (hW : 2 * g.monitorRoom + (rest.map fun v => v.category).sum ≤ 8) (hdg : decode cc g.pc = .ok (.invokestatic index, 3)) (hf : cells + mc ≤ R.cells ∧ slots + ms ≤ R.slots) :
    va_Run p l e R s m args below meth c H locs cells slots mc ms g rest (Qc As.toArray) (free) := by
  obtain ⟨⟨hrc, hrs, hfr, hlo, hws, hcw⟩, hcode, hini, hy, hlen, hl, hstt⟩ := cw
  have hK : Back l R p e below s args y 3 8 (PreOf R mc ms Pc) (PostOf Qc mc ms free) := va_backW (hh := hh) (bytes := bytes) (maxL := maxL) (ret := ret) hM hp.1 hrc hrs hfr hlo hws hcw (fun a' U hW => word_at hW (Or.inl (by first | rfl | simp [Cond.onTables, Cond.keeps, Cond.steady])) hini)
  obtain ⟨hx, hb, hml, ho, -⟩ := S
  intro T hT X
  obtain ⟨v, vm₁, ⟨U', l2, c2, s2⟩, hW₁, X', ⟨g', mk, t, L, e1, e2, hq, h1, hL, h2, h3⟩, st⟩ := vx_callSW X hx (hh := hh) (bytes := bytes) (maxL := maxL) (ret := ret) ho hl hstt hini hcode hy hK hg (hsize.trans hml.symm) (argsL := As) (rest := rest) (fun sig h => hn.trans (hlen sig h)) hstack hW (by rw [hb]; exact hdg)
    (fun vm₁ hW₁ => ⟨hf.1, hf.2, hp.2 (T.setVm vm₁) hT hW₁⟩)
  dsimp only [Pt.U, Pt.locs, Pt.cells, Pt.slots] at X' e1 e2 h1 h2 h3 st
  subst h1; subst h2; subst h3
  exact ⟨v, (T.setVm vm₁).calling g' mk As.toArray, t, U', L, hT, X', hL, e1, e2, hq, st⟩
/-- not caught here, past rows that name other classes: it goes on to the caller -/
theorem vx_outP {p : Program} {l : Launch} {e : Env} {R : Room} {s : State} {m : MethodId} {args : Array Value} {below : List Frame} {meth : Method} {c : Code} {H : Heap} {locs : List Loc} {cells slots : Nat} {free : Addr → Prop} {ls : Array Slot} {rest : List Value} {Qc : Array Value → State → Outcome → State → Prop} {XC : String → State → State → Prop}
    {pc : Nat} {own E : String} {ce : Cell} {q : Addr} {mc ms : Nat} (hown : s.vm.findClass own = some m.cls) (hlocks : meth.locks = false)
    (hpass : ∀ z ∈ c.exceptionTable.toList, covers z pc = false ∨ (z.catchType ≠ 0 ∧ ∃ nm : String, (Cond.classLink own z.catchType nm).before args s = true ∧ va_Nc E nm s)) (hcell : H[q]? = some ce) (hv : ce.vm = .none) (hcl : s.vm.findClass E = some ce.cls)
    (hx : ∀ t : State, t.heap = H → s.vm.Alike t.vm → XC E s t) (hf : ∀ z ∈ locs, free z.base) (hc : cells ≤ mc) (hs : slots ≤ ms) :
    vx_W p l e R s m args below meth c H locs cells slots (vx_MQ below Qc XC args s mc ms free) (F0 m pc ls rest) q := by
  intro T hT X
  have hpl : e.platform.magicAccessors = ({} : Platform).magicAccessors := by rw [X.admits.platform]
  obtain ⟨vm', hW', X', st⟩ := X.outThrough hlocks q (g := F0 m pc ls rest) rfl rfl rfl (cell := ce) (by rw [hT]; exact hcell) (by rw [hv]; rfl)
    (by obtain ⟨k9, h9, -⟩ := Vm.findClass_spec hcl; exact ⟨k9, h9⟩) (fun z hz => by
      rcases hpass z hz with h | ⟨hz0, nm, hl1, hn1⟩
      · exact Or.inl h
      · obtain ⟨c6, hc6, hcl6⟩ := Cond.classLink_spec hown hl1 e.platform hpl
        obtain ⟨a8, b8, h1, h2, h3⟩ := hn1
        cases Option.some.inj (h1.symm.trans hcl)
        cases Option.some.inj (h2.symm.trans hc6)
        exact Or.inr ⟨hz0, _, hcl6, h3⟩)
  obtain ⟨g₀, hfr⟩ := X'.frames_eq
  have hcell9 : ((T.setVm vm').setFrames (.throwing q :: below)).heap[q]? = some ce := by
    show T.heap[q]? = some ce
    rw [hT]; exact hcell
  have hend : Ended ((T.setVm vm').setFrames (.throwing q :: below)) below (.threw q) := State.frames_setFrames _ (State.cur_lt_of_frames hfr)
  refine ⟨(T.setVm vm').setFrames (.throwing q :: below), ?_, .threw q, X'.here.running, hend, Or.inr ⟨q, rfl, E, ce, locs, hx _ hT (X'.ends _).1.alike, hcell9, hv, hcl, (X'.ends _).1, (X'.ends _).2.mono hc hs, hf⟩⟩
  rw [X.pushThrowing_eq]
  exact st
/-- a thing of a world lies in the heap -/
theorem vx_lt {D : va_G} {cl : List vw_C} {ws : va_W} {H1 : Heap} (h : va_P D cl ws H1) {k : Nat} {q : Nat × va_E} (hk : ws[k]? = some q) : q.1 < H1.size := (h k q hk).lt
end VXS
/-! ===== END ===== -/
/-! ===== BEGIN methods with a table of their own: called by a name, returning or throwing ===== -/
section VXH
/-! vx_backW, vx_callVX, vx_callSX, vx_callVW, vx_runVW, vx_runVX, vx_runSX, vx_ofWH follow the same proofs as their sisters above (Free/Laws.lean, Shelf42/LK1.lean); vx_outP calls Shelf42/NT130.lean (outThrough). -/
section
variable {l : Launch} {R : Room} {p : Program} {e : Env} {below : List Frame} {s : State} {sargs : Array Value} {y : MethodName} {len W9 : Nat}
theorem vx_backW {ws : List Cond} {rm : Room} {Pc : Array Value → State → Prop} {Qc : Array Value → State → Outcome → State → Prop} {XC : String → State → State → Prop} {mc ms : Nat} {free : Addr → Prop} {bytes : ByteArray} {maxL : Nat} {ret : Option FieldType} {hh : List (Nat × Nat × Nat × Nat)}
    (hM : vx_Met l y ws rm Pc Qc XC mc ms free) (hblind : FrameBlind Pc) (hrc : rm.cells = mc) (hrs : rm.slots = ms)
    (hframes : rm.frames + 1 ≤ R.frames) (hlocals : W9 + (maxL + 11) + rm.locals ≤ R.locals)
    (hws : ∀ w ∈ ws, ∀ a' U, s.WarmedH U.vm → w.before a' U = true) (hcode : Cond.codeWith y bytes maxL ret hh ∈ ws) (hinit : ∀ a' U, s.WarmedH U.vm → (Cond.initialized y.cls).before a' U = true) :
    vx_Back l R p e below s sargs y len W9 (PreOf R mc ms Pc) (PostOf Qc mc ms free) (vx_Post XC mc ms free) := by
  intro m meth c A g ig mk a X hg hsize hdg hW hn hp
  have h1 : (headSpec ws rm).pre.before a A.U = true := atoms_intro fun w hw => hws w hw _ _ X.warmed
  have h2 : (Cond.codeWith y bytes maxL ret hh).before a A.U = true := hws _ hcode _ _ X.warmed
  have h3 : (Cond.initialized y.cls).before a A.U = true := hinit _ _ X.warmed
  have h4 : A.cells + (headSpec ws rm).room.cells ≤ R.cells := by rw [show (headSpec ws rm).room.cells = mc from hrc]; exact hp.1
  have h5 : A.slots + (headSpec ws rm).room.slots ≤ R.slots := by rw [show (headSpec ws rm).room.slots = ms from hrs]; exact hp.2.1
  have hPc : Pc a (A.U.calling g mk a) := hblind _ _ _ _ hp.2.2
  obtain ⟨U, Ls, c0, s0⟩ := A
  dsimp only [Pt.U, Pt.locs, Pt.cells, Pt.slots] at h1 h2 h3 h4 h5 X hn hPc ⊢
  obtain ⟨m9, methY, cY, hn9, hmY, hcY, -, hlY, -⟩ := Cond.codeWith_spec h2
  cases Option.some.inj (hn9.symm.trans hn)
  obtain ⟨kY, hkY, -⟩ := className_of_methodNamed hn
  have hinitY : kY.init = .initialized := Cond.initialized_spec (findClass_of_methodNamed hn) hkY h3
  have h : At U g.method c below := by rw [hg]; exact X.here
  have hlocals9 : W9 + (maxL + 11) + (headSpec ws rm).room.locals ≤ R.locals := hlocals
  have happ : (headSpec ws rm).appliesLoose y e.platform (U.calling g mk a) = true :=
    Spec.appliesLoose_calling (g := g) h hdg hn hkY hinitY
      (X.room_calling (g := g) (R' := (headSpec ws rm).room) hsize hmY hcY hframes (by rw [hlY]; omega) h4 h5) h1
  obtain ⟨mid, hmid⟩ := h.above
  have hfr : (U.setTop g).frames = (.java g :: mid) ++ below := by rw [State.frames_setTop' g h.top, hmid]; rfl
  obtain ⟨o, s₂, hsteps, -, hend, hq⟩ := Steps.callFree hM p X.admits X.cas X.clock (acts := []) hfr happ hPc trivial
  have hq' : vx_Q Qc XC mc ms free a (U.calling g mk a) o s₂ := hq
  rw [State.frames_setTop' g h.top] at hend
  obtain ⟨g₀, hg0⟩ := Option.isSome_iff_exists.mp h.top
  obtain ⟨r, hr⟩ := State.topJava?_eq_some.mp hg0
  have hr' : (({ U with heap := s₂.heap, slotsUsed := s₂.slotsUsed } : State).setVm s₂.vm).frames = .java g₀ :: r := hr
  rcases hq' with ⟨hqc, L, hfe, hL⟩ | ⟨q, rfl, E, ce, L, hx, hce, hcv, hcl, hW₂, hsm, hL⟩
  · obtain ⟨⟨v, rfl⟩, hW₂, e2, q2, q3, q4, q5, q6⟩ := id hfe
    have e3 : s₂ = ({ (U.calling g mk a).setFrames s₂.frames with heap := s₂.heap, slotsUsed := s₂.slotsUsed } : State).setVm s₂.vm := by
      have : s₂ = ({ s₂ with vm := (U.calling g mk a).vm } : State).setVm s₂.vm := rfl
      rw [e2] at this
      exact this
    obtain ⟨c₂, i₂, len₂, hc₂, hd₂, hf₂⟩ := hend
    have hW' : U.WarmedH s₂.vm := hW₂
    have hcc : c₂ = c := by
      have h1 : s₂.code? g.method = U.code? g.method := by
        rw [State.code?_eq, State.code?_eq, hW'.alike.method?]
      exact Option.some.inj (hc₂.symm.trans (h1.trans h.code))
    subst hcc
    have hlen : len₂ = len := by rw [hdg] at hd₂; cases hd₂; rfl
    subst hlen
    have hs₂ : s₂ = (({ U with heap := s₂.heap, slotsUsed := s₂.slotsUsed } : State).setVm s₂.vm).setTop { g with pc := g.pc + len₂, stack := v.toList ++ g.stack } := by
      refine e3.trans ?_
      rw [hf₂, State.calling_eq h.top, State.setFrames_setFrames, State.setTop_of_frames _ hr', hr]
      rfl
    have hsame : U.sameButNew ({ U with heap := s₂.heap, slotsUsed := s₂.slotsUsed } : State) L mc ms := by
      refine ⟨?_, q2, q3, q4, q5, q6⟩
      obtain ⟨t, ht, -⟩ := State.frames_cons hr
      show ({ U with heap := s₂.heap, slotsUsed := s₂.slotsUsed } : State) = { U.setFrames U.frames with heap := s₂.heap, slotsUsed := s₂.slotsUsed }
      rw [State.setFrames_self ht]
    subst hg
    refine Or.inl ⟨v, ⟨(({ U with heap := s₂.heap, slotsUsed := s₂.slotsUsed } : State).setVm s₂.vm), Ls ++ L, c0 + mc, s0 + ms⟩,
      ⟨X.admits, X.cas, X.clock, X.frames, X.room, X.hears, X.method, X.code, (X.here.setHeapUsed s₂.heap s₂.slotsUsed).setVm hW'.alike, X.tail, State.WarmedH.trans X.warmed hW', X.limits, X.bytes, X.same.trans (hsame.setVm s.vm)⟩,
      ⟨g, mk, s₂, L, rfl, rfl, hqc, rfl, hL, rfl, rfl⟩, ?_⟩
    show Steps p.tables e below _ ((({ U with heap := s₂.heap, slotsUsed := s₂.slotsUsed } : State).setVm s₂.vm).setTop { g with pc := g.pc + len₂, stack := v.toList ++ g.stack })
    rw [← hs₂]
    exact hsteps
  · obtain ⟨e2, q2, q3, q4, q5, q6⟩ := id hsm
    have e3 : s₂ = ({ (U.calling g mk a).setFrames s₂.frames with heap := s₂.heap, slotsUsed := s₂.slotsUsed } : State).setVm s₂.vm := by
      have : s₂ = ({ s₂ with vm := (U.calling g mk a).vm } : State).setVm s₂.vm := rfl
      rw [e2] at this
      exact this
    have hf₂ : s₂.frames = .throwing q :: .java g :: U.frames.tail := hend
    have hW' : U.WarmedH s₂.vm := hW₂
    have hs₂ : s₂ = ((({ U with heap := s₂.heap, slotsUsed := s₂.slotsUsed } : State).setVm s₂.vm).setTop g).pushFrame (.throwing q) := by
      refine e3.trans ?_
      rw [hf₂, State.calling_eq h.top, State.setFrames_setFrames, State.pushFrame, State.frames_setTop _ hr', State.setTop_of_frames _ hr', State.setFrames_setFrames, hr]
      rfl
    have hsame : U.sameButNew ({ U with heap := s₂.heap, slotsUsed := s₂.slotsUsed } : State) L mc ms := by
      refine ⟨?_, q2, q3, q4, q5, q6⟩
      obtain ⟨t, ht, -⟩ := State.frames_cons hr
      show ({ U with heap := s₂.heap, slotsUsed := s₂.slotsUsed } : State) = { U.setFrames U.frames with heap := s₂.heap, slotsUsed := s₂.slotsUsed }
      rw [State.setFrames_self ht]
    subst hg
    refine Or.inr ⟨q, ⟨(({ U with heap := s₂.heap, slotsUsed := s₂.slotsUsed } : State).setVm s₂.vm), Ls ++ L, c0 + mc, s0 + ms⟩,
      ⟨X.admits, X.cas, X.clock, X.frames, X.room, X.hears, X.method, X.code, (X.here.setHeapUsed s₂.heap s₂.slotsUsed).setVm hW'.alike, X.tail, State.WarmedH.trans X.warmed hW', X.limits, X.bytes, X.same.trans (hsame.setVm s.vm)⟩,
      ⟨g, mk, s₂, L, E, ce, rfl, rfl, hx, hce, hcv, hcl, rfl, hL, rfl, rfl⟩, ?_⟩
    show Steps p.tables e below _ (((({ U with heap := s₂.heap, slotsUsed := s₂.slotsUsed } : State).setVm s₂.vm).setTop g).pushFrame (.throwing q))
    rw [← hs₂]
    exact hsteps
end
variable {p : Program} {l : Launch} {e : Env} {R : Room} {s : State} {m : MethodId} {args : Array Value} {below : List Frame} {meth : Method} {c : Code} {T : State} {H : Heap} {locs : List Loc} {cells slots : Nat}
theorem vx_callVX (X : Stand p l e R s m args below meth c T locs cells slots) (hexec : p.tables.exec = Jvm.exec) {own C : String} {index : Nat} {y : MethodName} {bytes : ByteArray} {maxL : Nat} {ret : Option FieldType} {hh : List (Nat × Nat × Nat × Nat)}
    (hown : s.vm.findClass own = some m.cls) (hlink : (Cond.methodLink own index y).before args s = true) (hinst : (Cond.instanceMethod y).before args s = true) (hsel : (Cond.selects C y y).before args s = true)
    (hcode : (Cond.codeWith y bytes maxL ret hh).before args s = true) (hy : y.cls ≠ "java/lang/invoke/MethodHandle" ∧ y.cls ≠ "java/lang/invoke/VarHandle")
    {W9 : Nat} {Pre : Pt → Array Value → Prop} {Post : Pt → Array Value → Option Value → Pt → Prop} {PostX : Pt → Array Value → Addr → Pt → Prop} (hK : vx_Back l R p e below s args y 3 W9 Pre Post PostX)
    {b : Addr} {cellB : Cell} (hcell : T.heap[b]? = some cellB) (hobj : cellB.vm.isStatics = false) (hcls : s.vm.findClass C = some cellB.cls)
    {g : JFrame} (hg : g.method = m) (hsize : g.locals.size = c.maxLocals) {argsL rest : List Value} (hlen : ∀ sig, parseMethodDescriptor y.desc = some sig → argsL.length = sig.parameters.length)
    (hstack : g.stack = argsL.reverse ++ .ref b :: rest) (hW : 2 * g.monitorRoom + (rest.map fun v => v.category).sum ≤ W9) (hdg : decode c.code g.pc = .ok (.invokevirtual index, 3))
    (hpre : ∀ vm₁, s.WarmedH vm₁ → Pre ⟨T.setVm vm₁, locs, cells, slots⟩ (Value.ref b :: argsL).toArray) :
    (∃ (v : Option Value) (vm₁ : Vm) (B : Pt), s.WarmedH vm₁ ∧ Stand p l e R s m args below meth c B.U B.locs B.cells B.slots ∧ Post ⟨T.setVm vm₁, locs, cells, slots⟩ (Value.ref b :: argsL).toArray v B ∧
      ∀ target, Steps p.tables e below (B.U.setTop { g with pc := g.pc + 3, stack := v.toList ++ rest }) target → Steps p.tables e below (T.setTop g) target) ∨
    (∃ (q : Addr) (vm₁ : Vm) (B : Pt), s.WarmedH vm₁ ∧ Stand p l e R s m args below meth c B.U B.locs B.cells B.slots ∧ PostX ⟨T.setVm vm₁, locs, cells, slots⟩ (Value.ref b :: argsL).toArray q B ∧
      Steps p.tables e below (T.setTop g) ((B.U.setTop { g with stack := rest }).pushFrame (.throwing q))) := by
  obtain ⟨mk, methM, hnamed, hmethM, hstM, habM⟩ := Cond.instanceMethod_spec hinst
  obtain ⟨m8, methM', cM, hn8, hmethM', -, -, -, -, -, -, hsigM⟩ := Cond.codeWith_spec hcode
  cases Option.some.inj (hn8.symm.trans hnamed)
  cases hmethM.symm.trans hmethM'
  obtain ⟨c2, r2, m2, q1, q2, q3, q4, kP, hkP, hkPi⟩ := Cond.selects_spec hsel
  cases hcls.symm.trans q1
  cases (State.methodFound?_of_named hnamed hy).symm.trans q2
  cases hnamed.symm.trans q3
  have hselP : selectMethod e.platform s.vm cellB.cls mk = .method mk := by rw [Launch.admits_selectMethod X.admits]; exact q4
  obtain ⟨vm₁, X₁, hstep₁⟩ := X.invokevirtual hexec hown hlink hnamed hmethM hstM hkP hkPi hy (a := b) (cell := cellB) hcell
    (fun z h => by rw [h] at hobj; cases hobj) hselP hmethM habM hkP hkPi (g := g) hg (argsL := argsL) (rest := rest) (hlen _ hsigM) hstack hdg
  rcases hK m meth c ⟨T.setVm vm₁, locs, cells, slots⟩ { g with stack := rest } (.invokevirtual index) mk (Value.ref b :: argsL).toArray X₁ hg hsize hdg hW (X₁.named hnamed) (hpre vm₁ X₁.warmed) with ⟨v, B, X', hpost, hsteps⟩ | ⟨q, B, X', hpost, hsteps⟩
  · exact Or.inl ⟨v, vm₁, B, X₁.warmed, X', hpost, fun target h => hstep₁ _ fun acts => by rw [doInvoke_state]; exact hsteps.trans h⟩
  · exact Or.inr ⟨q, vm₁, B, X₁.warmed, X', hpost, hstep₁ _ fun acts => by rw [doInvoke_state]; exact hsteps⟩
theorem vx_callSX (X : Stand p l e R s m args below meth c T locs cells slots) (hexec : p.tables.exec = Jvm.exec) {own : String} {index : Nat} {y : MethodName} {bytes : ByteArray} {maxL : Nat} {ret : Option FieldType} {hh : List (Nat × Nat × Nat × Nat)}
    (hown : s.vm.findClass own = some m.cls) (hlink : (Cond.methodLink own index y).before args s = true) (hstat : (Cond.static y).before args s = true) (hinit : (Cond.initialized y.cls).before args s = true)
    (hcode : (Cond.codeWith y bytes maxL ret hh).before args s = true) (hy : y.cls ≠ "java/lang/invoke/MethodHandle" ∧ y.cls ≠ "java/lang/invoke/VarHandle")
    {W9 : Nat} {Pre : Pt → Array Value → Prop} {Post : Pt → Array Value → Option Value → Pt → Prop} {PostX : Pt → Array Value → Addr → Pt → Prop} (hK : vx_Back l R p e below s args y 3 W9 Pre Post PostX)
    {g : JFrame} (hg : g.method = m) (hsize : g.locals.size = c.maxLocals) {argsL rest : List Value} (hlen : ∀ sig, parseMethodDescriptor y.desc = some sig → argsL.length = sig.parameters.length)
    (hstack : g.stack = argsL.reverse ++ rest) (hW : 2 * g.monitorRoom + (rest.map fun v => v.category).sum ≤ W9) (hdg : decode c.code g.pc = .ok (.invokestatic index, 3))
    (hpre : ∀ vm₁, s.WarmedH vm₁ → Pre ⟨T.setVm vm₁, locs, cells, slots⟩ argsL.toArray) :
    (∃ (v : Option Value) (vm₁ : Vm) (B : Pt), s.WarmedH vm₁ ∧ Stand p l e R s m args below meth c B.U B.locs B.cells B.slots ∧ Post ⟨T.setVm vm₁, locs, cells, slots⟩ argsL.toArray v B ∧
      ∀ target, Steps p.tables e below (B.U.setTop { g with pc := g.pc + 3, stack := v.toList ++ rest }) target → Steps p.tables e below (T.setTop g) target) ∨
    (∃ (q : Addr) (vm₁ : Vm) (B : Pt), s.WarmedH vm₁ ∧ Stand p l e R s m args below meth c B.U B.locs B.cells B.slots ∧ PostX ⟨T.setVm vm₁, locs, cells, slots⟩ argsL.toArray q B ∧
      Steps p.tables e below (T.setTop g) ((B.U.setTop { g with stack := rest }).pushFrame (.throwing q))) := by
  obtain ⟨mk, methM, cM, hnamed, hmethM, -, -, -, -, -, -, hsigM⟩ := Cond.codeWith_spec hcode
  have hstatic : methM.isStatic = true := Cond.static_spec hnamed hmethM hstat
  obtain ⟨kP, hkP, -⟩ := className_of_methodNamed hnamed
  have hinitP : kP.init = .initialized := Cond.initialized_spec (findClass_of_methodNamed hnamed) hkP hinit
  obtain ⟨vm₁, X₁, hstep₁⟩ := X.invokestatic hexec hown hlink hnamed hmethM hstatic hkP hinitP hy (g := g) hg (argsL := argsL) (rest := rest) (hlen _ hsigM) hstack hdg
  rcases hK m meth c ⟨T.setVm vm₁, locs, cells, slots⟩ { g with stack := rest } (.invokestatic index) mk argsL.toArray X₁ hg hsize hdg hW (X₁.named hnamed) (hpre vm₁ X₁.warmed) with ⟨v, B, X', hpost, hsteps⟩ | ⟨q, B, X', hpost, hsteps⟩
  · exact Or.inl ⟨v, vm₁, B, X₁.warmed, X', hpost, fun target h => hstep₁ _ fun acts => by rw [doInvoke_state]; exact hsteps.trans h⟩
  · exact Or.inr ⟨q, vm₁, B, X₁.warmed, X', hpost, hstep₁ _ fun acts => by rw [doInvoke_state]; exact hsteps⟩
theorem vx_callVW (X : Stand p l e R s m args below meth c T locs cells slots) (hexec : p.tables.exec = Jvm.exec) {own C : String} {index : Nat} {y : MethodName} {bytes : ByteArray} {maxL : Nat} {ret : Option FieldType} {hh : List (Nat × Nat × Nat × Nat)}
    (hown : s.vm.findClass own = some m.cls) (hlink : (Cond.methodLink own index y).before args s = true) (hinst : (Cond.instanceMethod y).before args s = true) (hsel : (Cond.selects C y y).before args s = true)
    (hcode : (Cond.codeWith y bytes maxL ret hh).before args s = true) (hy : y.cls ≠ "java/lang/invoke/MethodHandle" ∧ y.cls ≠ "java/lang/invoke/VarHandle")
    {W9 : Nat} {Pre : Pt → Array Value → Prop} {Post : Pt → Array Value → Option Value → Pt → Prop} (hK : Back l R p e below s args y 3 W9 Pre Post)
    {b : Addr} {cellB : Cell} (hcell : T.heap[b]? = some cellB) (hobj : cellB.vm.isStatics = false) (hcls : s.vm.findClass C = some cellB.cls)
    {g : JFrame} (hg : g.method = m) (hsize : g.locals.size = c.maxLocals) {argsL rest : List Value} (hlen : ∀ sig, parseMethodDescriptor y.desc = some sig → argsL.length = sig.parameters.length)
    (hstack : g.stack = argsL.reverse ++ .ref b :: rest) (hW : 2 * g.monitorRoom + (rest.map fun v => v.category).sum ≤ W9) (hdg : decode c.code g.pc = .ok (.invokevirtual index, 3))
    (hpre : ∀ vm₁, s.WarmedH vm₁ → Pre ⟨T.setVm vm₁, locs, cells, slots⟩ (Value.ref b :: argsL).toArray) :
    ∃ (v : Option Value) (vm₁ : Vm) (B : Pt), s.WarmedH vm₁ ∧ Stand p l e R s m args below meth c B.U B.locs B.cells B.slots ∧ Post ⟨T.setVm vm₁, locs, cells, slots⟩ (Value.ref b :: argsL).toArray v B ∧
      ∀ target, Steps p.tables e below (B.U.setTop { g with pc := g.pc + 3, stack := v.toList ++ rest }) target → Steps p.tables e below (T.setTop g) target := by
  obtain ⟨mk, methM, hnamed, hmethM, hstM, habM⟩ := Cond.instanceMethod_spec hinst
  obtain ⟨m8, methM', cM, hn8, hmethM', -, -, -, -, -, -, hsigM⟩ := Cond.codeWith_spec hcode
  cases Option.some.inj (hn8.symm.trans hnamed)
  cases hmethM.symm.trans hmethM'
  obtain ⟨c2, r2, m2, q1, q2, q3, q4, kP, hkP, hkPi⟩ := Cond.selects_spec hsel
  cases hcls.symm.trans q1
  cases (State.methodFound?_of_named hnamed hy).symm.trans q2
  cases hnamed.symm.trans q3
  have hselP : selectMethod e.platform s.vm cellB.cls mk = .method mk := by rw [Launch.admits_selectMethod X.admits]; exact q4
  obtain ⟨vm₁, X₁, hstep₁⟩ := X.invokevirtual hexec hown hlink hnamed hmethM hstM hkP hkPi hy (a := b) (cell := cellB) hcell
    (fun z h => by rw [h] at hobj; cases hobj) hselP hmethM habM hkP hkPi (g := g) hg (argsL := argsL) (rest := rest) (hlen _ hsigM) hstack hdg
  obtain ⟨v, B, X', hpost, hsteps⟩ := hK m meth c ⟨T.setVm vm₁, locs, cells, slots⟩ { g with stack := rest } (.invokevirtual index) mk (Value.ref b :: argsL).toArray X₁ hg hsize hdg hW (X₁.named hnamed) (hpre vm₁ X₁.warmed)
  exact ⟨v, vm₁, B, X₁.warmed, X', hpost, fun target h => hstep₁ _ fun acts => by rw [doInvoke_state]; exact hsteps.trans h⟩
abbrev vx_CVW (R : Room) (s : State) (args : Array Value) (own C : String) (index : Nat) (y : MethodName) (bytes : ByteArray) (maxL : Nat) (ret : Option FieldType) (hh : List (Nat × Nat × Nat × Nat)) (ws : List Cond) (rm : Room) (mc ms n : Nat) : Prop :=
  (rm.cells = mc ∧ rm.slots = ms ∧ rm.frames + 1 ≤ R.frames ∧ 8 + (maxL + 11) + rm.locals ≤ R.locals ∧ (∀ w ∈ ws, ∀ (a' : Array Value) (U : State), s.WarmedH U.vm → w.before a' U = true) ∧ Cond.codeWith y bytes maxL ret hh ∈ ws) ∧
  (Cond.codeWith y bytes maxL ret hh).before args s = true ∧ (Cond.initialized y.cls).before args s = true ∧ (y.cls ≠ "java/lang/invoke/MethodHandle" ∧ y.cls ≠ "java/lang/invoke/VarHandle") ∧
  (∀ sig, parseMethodDescriptor y.desc = some sig → n = sig.parameters.length) ∧ (Cond.methodLink own index y).before args s = true ∧ (Cond.instanceMethod y).before args s = true ∧ (Cond.selects C y y).before args s = true
theorem vx_cwVW {own C : String} {index maxL mc ms : Nat} {y : MethodName} {bytes : ByteArray} {ret : Option FieldType} {hh : List (Nat × Nat × Nat × Nat)} {Ts ws ws' : List Cond} {rm : Room} (n : Nat) (ht : ∀ w ∈ Ts, w.before args s = true) (hT : GoodIn Ts (wsV own index C y ws)) (hw : ws = Cond.codeWith y bytes maxL ret hh :: ws') (hrc : rm.cells = mc) (hrs : rm.slots = ms)
    (hd : y.cls = C ∧ y.cls ≠ "java/lang/invoke/MethodHandle" ∧ y.cls ≠ "java/lang/invoke/VarHandle" ∧ (parseMethodDescriptor y.desc).map (fun d => d.parameters.length) = some n) (hR : rm.frames + 1 ≤ R.frames ∧ 8 + (maxL + 11) + rm.locals ≤ R.locals) :
    vx_CVW R s args own C index y bytes maxL ret hh ws rm mc ms n := by
  obtain ⟨hC, hd⟩ := hd
  subst hC
  have ok : ∀ w ∈ wsV own index y.cls y ws, w.before args s = true := fun w h => ht w (hT w h).1
  have hG : GoodIn Ts ws := fun w h => hT w (by unfold wsV; exact List.mem_append_right _ h)
  have hc : Cond.codeWith y bytes maxL ret hh ∈ ws := by rw [hw]; exact List.mem_cons_self
  refine ⟨⟨hrc, hrs, hR.1, hR.2, pay_in ht hG, hc⟩, ht _ (hG _ hc).1, ok _ (by simp [wsV]), ⟨hd.1, hd.2.1⟩, fun sig h => ?_, ok _ (by simp [wsV]), ok _ (by simp [wsV]), ok _ (by simp [wsV])⟩
  have h2 := hd.2.2
  rw [h] at h2
  exact (Option.some.inj h2).symm
theorem vx_runVW {y : MethodName} {bytes cc : ByteArray} {maxL nL mc ms n index : Nat} {ret : Option FieldType} {hh : List (Nat × Nat × Nat × Nat)} {ws : List Cond} {rm : Room} {Pc : Array Value → State → Prop} {Qc : Array Value → State → Outcome → State → Prop} {free : Addr → Prop} {Ts : List Cond} {own C : String} {b : Addr} {As rest : List Value} {g : JFrame}
    (S : CallFix p m c cc nL s args Ts own) (hM : Met l y ws rm Pc Qc mc ms free) (cw : vx_CVW R s args own C index y bytes maxL ret hh ws rm mc ms n) (hp : PreV s H C b Pc As)
    (hg : g.method = m) (hn : As.length = n) (hsize : g.locals.size = nL) (hstack : g.stack = As.reverse ++ .ref b :: rest) (hW : 2 * g.monitorRoom + (rest.map fun v => v.category).sum ≤ 8) (hdg : decode cc g.pc = .ok (.invokevirtual index, 3)) (hf : cells + mc ≤ R.cells ∧ slots + ms ≤ R.slots) :
    va_Run p l e R s m args below meth c H locs cells slots mc ms g rest (Qc (Value.ref b :: As).toArray) free := by
  obtain ⟨⟨hrc, hrs, hfr, hlo, hws, hcw⟩, hcode, hini, hy, hlen, hl, hin, hse⟩ := cw
  have hK : Back l R p e below s args y 3 8 (PreOf R mc ms Pc) (PostOf Qc mc ms free) := va_backW (hh := hh) (bytes := bytes) (maxL := maxL) (ret := ret) hM hp.1 hrc hrs hfr hlo hws hcw (fun a' U hW => word_at hW (Or.inl (by first | rfl | simp [Cond.onTables, Cond.keeps, Cond.steady])) hini)
  obtain ⟨hx, hb, hml, ho, -⟩ := S
  obtain ⟨-, ⟨cellB, hcB, hoB, hclB⟩, hPc⟩ := hp
  intro T hT X
  obtain ⟨v, vm₁, ⟨U', l2, c2, s2⟩, hW₁, X', ⟨g', mk, t, L, e1, e2, hq, h1, hL, h2, h3⟩, st⟩ := vx_callVW X hx (C := C) (hh := hh) (bytes := bytes) (maxL := maxL) (ret := ret) ho hl hin hse hcode hy hK (by rw [hT]; exact hcB) hoB hclB hg (hsize.trans hml.symm) (argsL := As) (rest := rest) (fun sig h => hn.trans (hlen sig h)) hstack hW (by rw [hb]; exact hdg)
    (fun vm₁ hW₁ => ⟨hf.1, hf.2, hPc (T.setVm vm₁) hT hW₁⟩)
  dsimp only [Pt.U, Pt.locs, Pt.cells, Pt.slots] at X' e1 e2 h1 h2 h3 st
  subst h1; subst h2; subst h3
  exact ⟨v, (T.setVm vm₁).calling g' mk (Value.ref b :: As).toArray, t, U', L, hT, X', hL, e1, e2, hq, st⟩
section
variable {y : MethodName} {bytes cc : ByteArray} {maxL nL mc ms n index : Nat} {ret : Option FieldType} {ws : List Cond} {rm : Room} {Pc : Array Value → State → Prop} {Qc : Array Value → State → Outcome → State → Prop} {XC : String → State → State → Prop} {free : Addr → Prop} {Ts : List Cond} {own C : String} {b : Addr} {As rest : List Value} {g : JFrame}
theorem vx_runVX {hh : List (Nat × Nat × Nat × Nat)} (S : CallFix p m c cc nL s args Ts own) (hM : vx_Met l y ws rm Pc Qc XC mc ms free) (cw : vx_CVW R s args own C index y bytes maxL ret hh ws rm mc ms n) (hp : PreV s H C b Pc As)
    (hg : g.method = m) (hn : As.length = n) (hsize : g.locals.size = nL) (hstack : g.stack = As.reverse ++ .ref b :: rest) (hW : 2 * g.monitorRoom + (rest.map fun v => v.category).sum ≤ 8) (hdg : decode cc g.pc = .ok (.invokevirtual index, 3)) (hf : cells + mc ≤ R.cells ∧ slots + ms ≤ R.slots) :
    vx_Run p l e R s m args below meth c H locs cells slots mc ms g rest (Qc (Value.ref b :: As).toArray) XC free := by
  obtain ⟨⟨hrc, hrs, hfr, hlo, hws, hcw⟩, hcode, hini, hy, hlen, hl, hin, hse⟩ := cw
  have hK : vx_Back l R p e below s args y 3 8 (PreOf R mc ms Pc) (PostOf Qc mc ms free) (vx_Post XC mc ms free) := vx_backW (hh := hh) (bytes := bytes) (maxL := maxL) (ret := ret) hM hp.1 hrc hrs hfr hlo hws hcw (fun a' U hW => word_at hW (Or.inl (by first | rfl | simp [Cond.onTables, Cond.keeps, Cond.steady])) hini)
  obtain ⟨hx, hb, hml, ho, -⟩ := S
  obtain ⟨-, ⟨cellB, hcB, hoB, hclB⟩, hPc⟩ := hp
  intro T hT X
  rcases vx_callVX X hx (C := C) (hh := hh) (bytes := bytes) (maxL := maxL) (ret := ret) ho hl hin hse hcode hy hK (by rw [hT]; exact hcB) hoB hclB hg (hsize.trans hml.symm) (argsL := As) (rest := rest) (fun sig h => hn.trans (hlen sig h)) hstack hW (by rw [hb]; exact hdg)
    (fun vm₁ hW₁ => ⟨hf.1, hf.2, hPc (T.setVm vm₁) hT hW₁⟩) with ⟨v, vm₁, ⟨U', l2, c2, s2⟩, hW₁, X', ⟨g', mk, t, L, e1, e2, hq, h1, hL, h2, h3⟩, st⟩ | ⟨q, vm₁, ⟨U', l2, c2, s2⟩, hW₁, X', ⟨g', mk, t, L, E, ce, e1, e2, hq, hce, hcv, hcl, h1, hL, h2, h3⟩, st⟩
  · dsimp only [Pt.U, Pt.locs, Pt.cells, Pt.slots] at X' e1 e2 h1 h2 h3 st
    subst h1; subst h2; subst h3
    exact Or.inl ⟨v, (T.setVm vm₁).calling g' mk (Value.ref b :: As).toArray, t, U', L, hT, X', hL, e1, e2, hq, st⟩
  · dsimp only [Pt.U, Pt.locs, Pt.cells, Pt.slots] at X' e1 e2 h1 h2 h3 st hcl
    subst h1; subst h2; subst h3
    exact Or.inr ⟨q, (T.setVm vm₁).calling g' mk (Value.ref b :: As).toArray, t, U', L, E, ce, hT, X', hL, e1, e2, hq, hce, hcv, vx_cls hW₁ hcl, st⟩
theorem vx_runSX {hh : List (Nat × Nat × Nat × Nat)} (S : CallFix p m c cc nL s args Ts own) (hM : vx_Met l y ws rm Pc Qc XC mc ms free) (cw : vx_CSW R s args own index y bytes maxL ret hh ws rm mc ms n) (hp : PreS s H Pc As)
    (hg : g.method = m) (hn : As.length = n) (hsize : g.locals.size = nL) (hstack : g.stack = As.reverse ++ rest) (hW : 2 * g.monitorRoom + (rest.map fun v => v.category).sum ≤ 8) (hdg : decode cc g.pc = .ok (.invokestatic index, 3)) (hf : cells + mc ≤ R.cells ∧ slots + ms ≤ R.slots) :
    vx_Run p l e R s m args below meth c H locs cells slots mc ms g rest (Qc As.toArray) XC free := by
  obtain ⟨⟨hrc, hrs, hfr, hlo, hws, hcw⟩, hcode, hini, hy, hlen, hl, hstt⟩ := cw
  have hK : vx_Back l R p e below s args y 3 8 (PreOf R mc ms Pc) (PostOf Qc mc ms free) (vx_Post XC mc ms free) := vx_backW (hh := hh) (bytes := bytes) (maxL := maxL) (ret := ret) hM hp.1 hrc hrs hfr hlo hws hcw (fun a' U hW => word_at hW (Or.inl (by first | rfl | simp [Cond.onTables, Cond.keeps, Cond.steady])) hini)
  obtain ⟨hx, hb, hml, ho, -⟩ := S
  intro T hT X
  rcases vx_callSX X hx (hh := hh) (bytes := bytes) (maxL := maxL) (ret := ret) ho hl hstt hini hcode hy hK hg (hsize.trans hml.symm) (argsL := As) (rest := rest) (fun sig h => hn.trans (hlen sig h)) hstack hW (by rw [hb]; exact hdg)
    (fun vm₁ hW₁ => ⟨hf.1, hf.2, hp.2 (T.setVm vm₁) hT hW₁⟩) with ⟨v, vm₁, ⟨U', l2, c2, s2⟩, hW₁, X', ⟨g', mk, t, L, e1, e2, hq, h1, hL, h2, h3⟩, st⟩ | ⟨q, vm₁, ⟨U', l2, c2, s2⟩, hW₁, X', ⟨g', mk, t, L, E, ce, e1, e2, hq, hce, hcv, hcl, h1, hL, h2, h3⟩, st⟩
  · dsimp only [Pt.U, Pt.locs, Pt.cells, Pt.slots] at X' e1 e2 h1 h2 h3 st
    subst h1; subst h2; subst h3
    exact Or.inl ⟨v, (T.setVm vm₁).calling g' mk As.toArray, t, U', L, hT, X', hL, e1, e2, hq, st⟩
  · dsimp only [Pt.U, Pt.locs, Pt.cells, Pt.slots] at X' e1 e2 h1 h2 h3 st hcl
    subst h1; subst h2; subst h3
    exact Or.inr ⟨q, (T.setVm vm₁).calling g' mk As.toArray, t, U', L, E, ce, hT, X', hL, e1, e2, hq, hce, hcv, vx_cls hW₁ hcl, st⟩
end
end VXH
theorem vx_ofWH {l : Launch} {y : MethodName} {ws ws' : List Cond} {rm : Room} {Pc : Array Value → State → Prop} {Qc : Array Value → State → Outcome → State → Prop} {XC : String → State → State → Prop} {mc ms : Nat} {free : Addr → Prop} {cc : ByteArray} {maxL : Nat} {ret : Option FieldType} {hh : List (Nat × Nat × Nat × Nat)}
    (hy : plainName y.cls = true) (hw : ws = Cond.codeWith y cc maxL ret hh :: ws')
    (body : ∀ p e s m args below meth c s₁, BodyLoose p l y (headSpec ws rm) cc maxL ret e s m args below meth c s₁ → c.maxLocals = maxL → Pc args s →
      W p l e (headSpec ws rm).room s m args below meth c s.heap [] 0 0 (vx_MQ below Qc XC args s mc ms free) (entryFrame m args maxL)) : vx_Met l y ws rm Pc Qc XC mc ms free := by
  refine MetFree.of_bodyS (code := cc) (maxLocals := maxL) (ret := ret) hy ?_ ?_
  · intro args s m h hn
    obtain ⟨m9, meth, c, hn9, h1, h2, h3, h4, -, h5, h6, -⟩ := Cond.codeWith_spec (atoms_spec (ws := ws) h _ (by rw [hw]; exact List.mem_cons_self))
    cases hn.symm.trans hn9
    exact ⟨meth, c, h1, h2, h3, h4, h5, h6⟩
  · intro p e s m args below meth c s₁ B hml hP _
    have hh0 : s₁.heap = s.heap := by rw [B.state]; rfl
    obtain ⟨t, a1, o, b1, b2, b3⟩ := body p e s m args below meth c s₁ B hml hP s₁ hh0 (Stand.of_body B)
    exact ⟨t, o, a1, b1, b2, b3⟩
/-! ===== END ===== -/
end
section
def RX0 : String := "CueBook$Cue"
def TX0 : u_T := fun k => match k with
  | 0 => ("CueBook$Cue", "kind", "I", true)
  | 1 => ("CueBook$Cue", "puppet", "LCueBook$Puppet;", true)
  | 2 => ("CueBook$Cue", "beat", "I", true)
  | 3 => ("CueBook$Cue", "place", "I", true)
  | 4 => ("CueBook$Cue", "track", "I", true)
  | 5 => ("CueBook$Cue", "isStruck", "Z", false)
  | 6 => ("CueBook$Cue", "notes", "I", false)
  | 7 => ("CueBook$Cue", "sumLate", "I", false)
  | _ => ("CueBook$Cue", "sumOff", "I", false)
def tyX0 : Nat → FieldType := fun k => match k with
  | 0 => .int
  | 1 => .object "CueBook$Puppet"
  | 2 => .int
  | 3 => .int
  | 4 => .int
  | 5 => .boolean
  | 6 => .int
  | 7 => .int
  | _ => .int
theorem nmX0 : ∀ a, a < 9 → ∀ b, b < 9 → a ≠ b → (TX0 a).2.1 ≠ (TX0 b).2.1 := by decide +kernel
theorem tyX0_ok : ∀ k, k < 9 → parseFieldDescriptor (TX0 k).2.2.1 = some (tyX0 k) := by decide +kernel
abbrev cX0_init : ByteArray := prog_2_method_1_code
def yX0_init : MethodName := ⟨RX0, "<init>", "(ILCueBook$Puppet;III)V"⟩
def RX1 : String := "CueBook$Path"
def TX1 : u_T := fun k => match k with
  | 0 => ("CueBook$Path", "isOnStage", "Z", false)
  | 1 => ("CueBook$Path", "enteredAt", "I", false)
  | 2 => ("CueBook$Path", "track", "I", false)
  | 3 => ("CueBook$Path", "fromPlace", "I", false)
  | 4 => ("CueBook$Path", "toPlace", "I", false)
  | 5 => ("CueBook$Path", "fromBeat", "I", false)
  | _ => ("CueBook$Path", "toBeat", "I", false)
def tyX1 : Nat → FieldType := fun k => match k with
  | 0 => .boolean
  | 1 => .int
  | 2 => .int
  | 3 => .int
  | 4 => .int
  | 5 => .int
  | _ => .int
theorem nmX1 : ∀ a, a < 7 → ∀ b, b < 7 → a ≠ b → (TX1 a).2.1 ≠ (TX1 b).2.1 := by decide +kernel
theorem tyX1_ok : ∀ k, k < 7 → parseFieldDescriptor (TX1 k).2.2.1 = some (tyX1 k) := by decide +kernel
abbrev cX1_init : ByteArray := prog_3_method_1_code
def yX1_init : MethodName := ⟨RX1, "<init>", "()V"⟩
abbrev cX1_allows : ByteArray := prog_3_method_2_code
def yX1_allows : MethodName := ⟨RX1, "allows", "(LCueBook$Cue;)Z"⟩
abbrev cX1_follow : ByteArray := prog_3_method_3_code
def yX1_follow : MethodName := ⟨RX1, "follow", "(LCueBook$Cue;)V"⟩
abbrev cX1_walk : ByteArray := prog_3_method_4_code
def yX1_walk : MethodName := ⟨RX1, "walk", "(III)V"⟩
abbrev cX1_placeAtBeat : ByteArray := prog_3_method_5_code
def yX1_placeAtBeat : MethodName := ⟨RX1, "placeAtBeat", "(I)I"⟩
abbrev cX1_trackNow : ByteArray := prog_3_method_6_code
def yX1_trackNow : MethodName := ⟨RX1, "trackNow", "()I"⟩
def RX2 : String := "CueBook$Player"
def TX2 : u_T := fun k => match k with
  | 0 => ("CueBook$Player", "strength", "I", true)
  | 1 => ("CueBook$Player", "placeAtFirst", "I", true)
  | _ => ("CueBook$Player", "heldAt", "[I", true)
def tyX2 : Nat → FieldType := fun k => match k with
  | 0 => .int
  | 1 => .int
  | _ => .array .int
theorem nmX2 : ∀ a, a < 3 → ∀ b, b < 3 → a ≠ b → (TX2 a).2.1 ≠ (TX2 b).2.1 := by decide +kernel
theorem tyX2_ok : ∀ k, k < 3 → parseFieldDescriptor (TX2 k).2.2.1 = some (tyX2 k) := by decide +kernel
abbrev cX2_init : ByteArray := prog_4_method_1_code
def yX2_init : MethodName := ⟨RX2, "<init>", "(II)V"⟩
abbrev cX2_holds : ByteArray := prog_4_method_2_code
def yX2_holds : MethodName := ⟨RX2, "holds", "(LCueBook$Puppet;I)Z"⟩
abbrev cX2_putDownAll : ByteArray := prog_4_method_3_code
def yX2_putDownAll : MethodName := ⟨RX2, "putDownAll", "()V"⟩
abbrev cX2_take : ByteArray := prog_4_method_4_code
def yX2_take : MethodName := ⟨RX2, "take", "(LCueBook$Stay;)V"⟩
abbrev cX2_busyBeats : ByteArray := prog_4_method_5_code
def yX2_busyBeats : MethodName := ⟨RX2, "busyBeats", "()I"⟩
def RX3 : String := "CueBook$Puppet"
def TX3 : u_T := fun k => match k with
  | 0 => ("CueBook$Puppet", "number", "I", true)
  | 1 => ("CueBook$Puppet", "bit", "I", true)
  | 2 => ("CueBook$Puppet", "weight", "I", true)
  | 3 => ("CueBook$Puppet", "handsNeeded", "I", true)
  | 4 => ("CueBook$Puppet", "script", "Ljava/util/ArrayList;", true)
  | 5 => ("CueBook$Puppet", "stayList", "Ljava/util/ArrayList;", true)
  | 6 => ("CueBook$Puppet", "placeAt", "[I", true)
  | _ => ("CueBook$Puppet", "trackAt", "[I", true)
def tyX3 : Nat → FieldType := fun k => match k with
  | 0 => .int
  | 1 => .int
  | 2 => .int
  | 3 => .int
  | 4 => .object "java/util/ArrayList"
  | 5 => .object "java/util/ArrayList"
  | 6 => .array .int
  | _ => .array .int
theorem nmX3 : ∀ a, a < 8 → ∀ b, b < 8 → a ≠ b → (TX3 a).2.1 ≠ (TX3 b).2.1 := by decide +kernel
theorem tyX3_ok : ∀ k, k < 8 → parseFieldDescriptor (TX3 k).2.2.1 = some (tyX3 k) := by decide +kernel
abbrev cX3_init : ByteArray := prog_5_method_1_code
def yX3_init : MethodName := ⟨RX3, "<init>", "(III)V"⟩
abbrev cX3_takesIn : ByteArray := prog_5_method_2_code
def yX3_takesIn : MethodName := ⟨RX3, "takesIn", "(LCueBook$Cue;)Z"⟩
abbrev cX3_takesOut : ByteArray := prog_5_method_3_code
def yX3_takesOut : MethodName := ⟨RX3, "takesOut", "(LCueBook$Cue;)Z"⟩
abbrev cX3_isScriptRight : ByteArray := prog_5_method_4_code
def yX3_isScriptRight : MethodName := ⟨RX3, "isScriptRight", "()Z"⟩
abbrev cX3_playScript : ByteArray := prog_5_method_5_code
def yX3_playScript : MethodName := ⟨RX3, "playScript", "()V"⟩
abbrev cX3_playBeats : ByteArray := prog_5_method_6_code
def yX3_playBeats : MethodName := ⟨RX3, "playBeats", "(LCueBook$Path;II)V"⟩
abbrev cX3_recordStay : ByteArray := prog_5_method_7_code
def yX3_recordStay : MethodName := ⟨RX3, "recordStay", "(LCueBook$Cue;)V"⟩
def RX4 : String := "CueBook$Stay"
def TX4 : u_T := fun k => match k with
  | 0 => ("CueBook$Stay", "puppet", "LCueBook$Puppet;", true)
  | 1 => ("CueBook$Stay", "begin", "I", true)
  | 2 => ("CueBook$Stay", "end", "I", false)
  | _ => ("CueBook$Stay", "player", "I", false)
def tyX4 : Nat → FieldType := fun k => match k with
  | 0 => .object "CueBook$Puppet"
  | 1 => .int
  | 2 => .int
  | _ => .int
theorem nmX4 : ∀ a, a < 4 → ∀ b, b < 4 → a ≠ b → (TX4 a).2.1 ≠ (TX4 b).2.1 := by decide +kernel
theorem tyX4_ok : ∀ k, k < 4 → parseFieldDescriptor (TX4 k).2.2.1 = some (tyX4 k) := by decide +kernel
abbrev cX4_init : ByteArray := prog_6_method_1_code
def yX4_init : MethodName := ⟨RX4, "<init>", "(LCueBook$Puppet;I)V"⟩
def RX5 : String := "CueBook"
def TX5 : u_T := fun k => match k with
  | 0 => ("CueBook", "puppets", "Ljava/util/ArrayList;", true)
  | 1 => ("CueBook", "players", "Ljava/util/ArrayList;", true)
  | 2 => ("CueBook", "cues", "Ljava/util/ArrayList;", true)
  | 3 => ("CueBook", "castingOrder", "Ljava/util/ArrayList;", true)
  | 4 => ("CueBook", "struckCues", "I", false)
  | 5 => ("CueBook", "castingStands", "Z", false)
  | 6 => ("CueBook", "clashesStand", "Z", false)
  | _ => ("CueBook", "clashingPairs", "I", false)
def tyX5 : Nat → FieldType := fun k => match k with
  | 0 => .object "java/util/ArrayList"
  | 1 => .object "java/util/ArrayList"
  | 2 => .object "java/util/ArrayList"
  | 3 => .object "java/util/ArrayList"
  | 4 => .int
  | 5 => .boolean
  | 6 => .boolean
  | _ => .int
theorem nmX5 : ∀ a, a < 8 → ∀ b, b < 8 → a ≠ b → (TX5 a).2.1 ≠ (TX5 b).2.1 := by decide +kernel
theorem tyX5_ok : ∀ k, k < 8 → parseFieldDescriptor (TX5 k).2.2.1 = some (tyX5 k) := by decide +kernel
abbrev cX5_init : ByteArray := prog_1_method_1_code
def yX5_init : MethodName := ⟨RX5, "<init>", "()V"⟩
abbrev cX5_addPuppet : ByteArray := prog_1_method_2_code
def yX5_addPuppet : MethodName := ⟨RX5, "addPuppet", "(II)I"⟩
abbrev cX5_addPlayer : ByteArray := prog_1_method_3_code
def yX5_addPlayer : MethodName := ⟨RX5, "addPlayer", "(II)I"⟩
abbrev cX5_enter : ByteArray := prog_1_method_4_code
def yX5_enter : MethodName := ⟨RX5, "enter", "(IIII)I"⟩
abbrev cX5_move : ByteArray := prog_1_method_5_code
def yX5_move : MethodName := ⟨RX5, "move", "(III)I"⟩
abbrev cX5_shift : ByteArray := prog_1_method_6_code
def yX5_shift : MethodName := ⟨RX5, "shift", "(III)I"⟩
abbrev cX5_leave : ByteArray := prog_1_method_7_code
def yX5_leave : MethodName := ⟨RX5, "leave", "(II)I"⟩
abbrev cX5_strike : ByteArray := prog_1_method_8_code
def yX5_strike : MethodName := ⟨RX5, "strike", "(I)I"⟩
abbrev cX5_count : ByteArray := prog_1_method_9_code
def yX5_count : MethodName := ⟨RX5, "count", "(I)I"⟩
abbrev cX5_cue : ByteArray := prog_1_method_10_code
def yX5_cue : MethodName := ⟨RX5, "cue", "(II)I"⟩
abbrev cX5_place : ByteArray := prog_1_method_11_code
def yX5_place : MethodName := ⟨RX5, "place", "(II)I"⟩
abbrev cX5_track : ByteArray := prog_1_method_12_code
def yX5_track : MethodName := ⟨RX5, "track", "(II)I"⟩
abbrev cX5_onStage : ByteArray := prog_1_method_13_code
def yX5_onStage : MethodName := ⟨RX5, "onStage", "(I)I"⟩
abbrev cX5_clash : ByteArray := prog_1_method_14_code
def yX5_clash : MethodName := ⟨RX5, "clash", "(II)I"⟩
abbrev cX5_clashes : ByteArray := prog_1_method_15_code
def yX5_clashes : MethodName := ⟨RX5, "clashes", "()I"⟩
abbrev cX5_beats : ByteArray := prog_1_method_16_code
def yX5_beats : MethodName := ⟨RX5, "beats", "(I)I"⟩
abbrev cX5_stays : ByteArray := prog_1_method_17_code
def yX5_stays : MethodName := ⟨RX5, "stays", "(I)I"⟩
abbrev cX5_stay : ByteArray := prog_1_method_18_code
def yX5_stay : MethodName := ⟨RX5, "stay", "(III)I"⟩
abbrev cX5_uncast : ByteArray := prog_1_method_19_code
def yX5_uncast : MethodName := ⟨RX5, "uncast", "()I"⟩
abbrev cX5_hands : ByteArray := prog_1_method_20_code
def yX5_hands : MethodName := ⟨RX5, "hands", "(II)I"⟩
abbrev cX5_load : ByteArray := prog_1_method_21_code
def yX5_load : MethodName := ⟨RX5, "load", "(I)I"⟩
abbrev cX5_note : ByteArray := prog_1_method_22_code
def yX5_note : MethodName := ⟨RX5, "note", "(II)I"⟩
abbrev cX5_mean : ByteArray := prog_1_method_23_code
def yX5_mean : MethodName := ⟨RX5, "mean", "(I)D"⟩
abbrev cX5_worst : ByteArray := prog_1_method_24_code
def yX5_worst : MethodName := ⟨RX5, "worst", "()I"⟩
abbrev cX5_digest : ByteArray := prog_1_method_25_code
def yX5_digest : MethodName := ⟨RX5, "digest", "()J"⟩
abbrev cX5_puppetNumbered : ByteArray := prog_1_method_26_code
def yX5_puppetNumbered : MethodName := ⟨RX5, "puppetNumbered", "(I)LCueBook$Puppet;"⟩
abbrev cX5_playerNumbered : ByteArray := prog_1_method_27_code
def yX5_playerNumbered : MethodName := ⟨RX5, "playerNumbered", "(I)LCueBook$Player;"⟩
abbrev cX5_cueNumbered : ByteArray := prog_1_method_28_code
def yX5_cueNumbered : MethodName := ⟨RX5, "cueNumbered", "(I)LCueBook$Cue;"⟩
abbrev cX5_requireBeat : ByteArray := prog_1_method_29_code
def yX5_requireBeat : MethodName := ⟨RX5, "requireBeat", "(I)V"⟩
abbrev cX5_requirePlace : ByteArray := prog_1_method_30_code
def yX5_requirePlace : MethodName := ⟨RX5, "requirePlace", "(I)V"⟩
abbrev cX5_requireTrack : ByteArray := prog_1_method_31_code
def yX5_requireTrack : MethodName := ⟨RX5, "requireTrack", "(I)V"⟩
abbrev cX5_write : ByteArray := prog_1_method_32_code
def yX5_write : MethodName := ⟨RX5, "write", "(LCueBook$Cue;)I"⟩
abbrev cX5_forgetWhatWasFound : ByteArray := prog_1_method_33_code
def yX5_forgetWhatWasFound : MethodName := ⟨RX5, "forgetWhatWasFound", "()V"⟩
abbrev cX5_tellOfCue : ByteArray := prog_1_method_34_code
def yX5_tellOfCue : MethodName := ⟨RX5, "tellOfCue", "(LCueBook$Cue;I)I"⟩
abbrev cX5_tellOfStay : ByteArray := prog_1_method_35_code
def yX5_tellOfStay : MethodName := ⟨RX5, "tellOfStay", "(LCueBook$Stay;I)I"⟩
abbrev cX5_distance : ByteArray := prog_1_method_36_code
def yX5_distance : MethodName := ⟨RX5, "distance", "(II)I"⟩
abbrev cX5_countClashingPairs : ByteArray := prog_1_method_37_code
def yX5_countClashingPairs : MethodName := ⟨RX5, "countClashingPairs", "()I"⟩
abbrev cX5_firstClash : ByteArray := prog_1_method_38_code
def yX5_firstClash : MethodName := ⟨RX5, "firstClash", "(LCueBook$Puppet;LCueBook$Puppet;)I"⟩
abbrev cX5_areOnOneTrack : ByteArray := prog_1_method_39_code
def yX5_areOnOneTrack : MethodName := ⟨RX5, "areOnOneTrack", "(LCueBook$Puppet;LCueBook$Puppet;I)Z"⟩
abbrev cX5_exchangePlaces : ByteArray := prog_1_method_40_code
def yX5_exchangePlaces : MethodName := ⟨RX5, "exchangePlaces", "(LCueBook$Puppet;LCueBook$Puppet;I)Z"⟩
abbrev cX5_findCasting : ByteArray := prog_1_method_41_code
def yX5_findCasting : MethodName := ⟨RX5, "findCasting", "()V"⟩
abbrev cX5_orderStays : ByteArray := prog_1_method_42_code
def yX5_orderStays : MethodName := ⟨RX5, "orderStays", "()V"⟩
abbrev cX5_putInOrder : ByteArray := prog_1_method_43_code
def yX5_putInOrder : MethodName := ⟨RX5, "putInOrder", "(LCueBook$Stay;)V"⟩
abbrev cX5_namePlayer : ByteArray := prog_1_method_44_code
def yX5_namePlayer : MethodName := ⟨RX5, "namePlayer", "(LCueBook$Stay;)V"⟩
abbrev cX5_canDo : ByteArray := prog_1_method_45_code
def yX5_canDo : MethodName := ⟨RX5, "canDo", "(LCueBook$Player;LCueBook$Stay;)Z"⟩
abbrev cX5_canComeToBeginning : ByteArray := prog_1_method_46_code
def yX5_canComeToBeginning : MethodName := ⟨RX5, "canComeToBeginning", "(LCueBook$Player;LCueBook$Stay;)Z"⟩
abbrev cX5_placeOfHeld : ByteArray := prog_1_method_47_code
def yX5_placeOfHeld : MethodName := ⟨RX5, "placeOfHeld", "(LCueBook$Player;I)I"⟩
abbrev cX5_canHold : ByteArray := prog_1_method_48_code
def yX5_canHold : MethodName := ⟨RX5, "canHold", "(LCueBook$Player;LCueBook$Puppet;I)Z"⟩
abbrev cX5_digestWith : ByteArray := prog_1_method_49_code
def yX5_digestWith : MethodName := ⟨RX5, "digestWith", "(JI)J"⟩
abbrev cX5_digestWithStays : ByteArray := prog_1_method_50_code
def yX5_digestWithStays : MethodName := ⟨RX5, "digestWithStays", "(JLjava/util/ArrayList;)J"⟩
abbrev cX5_digestWithCue : ByteArray := prog_1_method_51_code
def yX5_digestWithCue : MethodName := ⟨RX5, "digestWithCue", "(JLCueBook$Cue;)J"⟩
def RX6 : String := "CueBookModel"
def TX6 : u_T := fun k => match k with
  | 0 => ("CueBookModel", "thrown", "I", false)
  | 1 => ("CueBookModel", "puppets", "I", false)
  | 2 => ("CueBookModel", "weights", "[I", true)
  | 3 => ("CueBookModel", "needs", "[I", true)
  | 4 => ("CueBookModel", "players", "I", false)
  | 5 => ("CueBookModel", "strengths", "[I", true)
  | 6 => ("CueBookModel", "homes", "[I", true)
  | 7 => ("CueBookModel", "cues", "I", false)
  | 8 => ("CueBookModel", "table", "[I", true)
  | 9 => ("CueBookModel", "areStruck", "[Z", true)
  | 10 => ("CueBookModel", "struck", "I", false)
  | 11 => ("CueBookModel", "noted", "[I", true)
  | 12 => ("CueBookModel", "sums", "[I", true)
  | 13 => ("CueBookModel", "greatness", "[I", true)
  | 14 => ("CueBookModel", "isFresh", "Z", false)
  | 15 => ("CueBookModel", "places", "[I", true)
  | 16 => ("CueBookModel", "tracks", "[I", true)
  | 17 => ("CueBookModel", "stays", "[I", true)
  | 18 => ("CueBookModel", "manyStays", "[I", true)
  | 19 => ("CueBookModel", "begins", "[I", true)
  | 20 => ("CueBookModel", "ends", "[I", true)
  | _ => ("CueBookModel", "cast", "[I", true)
def tyX6 : Nat → FieldType := fun k => match k with
  | 0 => .int
  | 1 => .int
  | 2 => .array .int
  | 3 => .array .int
  | 4 => .int
  | 5 => .array .int
  | 6 => .array .int
  | 7 => .int
  | 8 => .array .int
  | 9 => .array .boolean
  | 10 => .int
  | 11 => .array .int
  | 12 => .array .int
  | 13 => .array .int
  | 14 => .boolean
  | 15 => .array .int
  | 16 => .array .int
  | 17 => .array .int
  | 18 => .array .int
  | 19 => .array .int
  | 20 => .array .int
  | _ => .array .int
theorem nmX6 : ∀ a, a < 22 → ∀ b, b < 22 → a ≠ b → (TX6 a).2.1 ≠ (TX6 b).2.1 := by decide +kernel
theorem tyX6_ok : ∀ k, k < 22 → parseFieldDescriptor (TX6 k).2.2.1 = some (tyX6 k) := by decide +kernel
abbrev cX6_init : ByteArray := prog_8_method_1_code
def yX6_init : MethodName := ⟨RX6, "<init>", "()V"⟩
abbrev cX6_thrown : ByteArray := prog_8_method_2_code
def yX6_thrown : MethodName := ⟨RX6, "thrown", "()I"⟩
abbrev cX6_fail : ByteArray := prog_8_method_3_code
def yX6_fail : MethodName := ⟨RX6, "fail", "(I)I"⟩
abbrev cX6_isIn : ByteArray := prog_8_method_4_code
def yX6_isIn : MethodName := ⟨RX6, "isIn", "(III)Z"⟩
abbrev cX6_isPuppet : ByteArray := prog_8_method_5_code
def yX6_isPuppet : MethodName := ⟨RX6, "isPuppet", "(I)Z"⟩
abbrev cX6_isPlayer : ByteArray := prog_8_method_6_code
def yX6_isPlayer : MethodName := ⟨RX6, "isPlayer", "(I)Z"⟩
abbrev cX6_isBeat : ByteArray := prog_8_method_7_code
def yX6_isBeat : MethodName := ⟨RX6, "isBeat", "(I)Z"⟩
abbrev cX6_addPuppet : ByteArray := prog_8_method_8_code
def yX6_addPuppet : MethodName := ⟨RX6, "addPuppet", "(II)I"⟩
abbrev cX6_addPlayer : ByteArray := prog_8_method_9_code
def yX6_addPlayer : MethodName := ⟨RX6, "addPlayer", "(II)I"⟩
abbrev cX6_kind : ByteArray := prog_8_method_10_code
def yX6_kind : MethodName := ⟨RX6, "kind", "(I)I"⟩
abbrev cX6_beat : ByteArray := prog_8_method_11_code
def yX6_beat : MethodName := ⟨RX6, "beat", "(I)I"⟩
abbrev cX6_behind : ByteArray := prog_8_method_12_code
def yX6_behind : MethodName := ⟨RX6, "behind", "(II)I"⟩
abbrev cX6_isBehind : ByteArray := prog_8_method_13_code
def yX6_isBehind : MethodName := ⟨RX6, "isBehind", "(II)Z"⟩
abbrev cX6_areRight : ByteArray := prog_8_method_14_code
def yX6_areRight : MethodName := ⟨RX6, "areRight", "(I)Z"⟩
abbrev cX6_write : ByteArray := prog_8_method_15_code
def yX6_write : MethodName := ⟨RX6, "write", "(IIIII)I"⟩
abbrev cX6_written : ByteArray := prog_8_method_16_code
def yX6_written : MethodName := ⟨RX6, "written", "(IIIII)I"⟩
abbrev cX6_enter : ByteArray := prog_8_method_17_code
def yX6_enter : MethodName := ⟨RX6, "enter", "(IIII)I"⟩
abbrev cX6_move : ByteArray := prog_8_method_18_code
def yX6_move : MethodName := ⟨RX6, "move", "(III)I"⟩
abbrev cX6_shift : ByteArray := prog_8_method_19_code
def yX6_shift : MethodName := ⟨RX6, "shift", "(III)I"⟩
abbrev cX6_leave : ByteArray := prog_8_method_20_code
def yX6_leave : MethodName := ⟨RX6, "leave", "(II)I"⟩
abbrev cX6_isCue : ByteArray := prog_8_method_21_code
def yX6_isCue : MethodName := ⟨RX6, "isCue", "(I)Z"⟩
abbrev cX6_strike : ByteArray := prog_8_method_22_code
def yX6_strike : MethodName := ⟨RX6, "strike", "(I)I"⟩
abbrev cX6_count : ByteArray := prog_8_method_23_code
def yX6_count : MethodName := ⟨RX6, "count", "(I)I"⟩
abbrev cX6_cue : ByteArray := prog_8_method_24_code
def yX6_cue : MethodName := ⟨RX6, "cue", "(II)I"⟩
abbrev cX6_workOut : ByteArray := prog_8_method_25_code
def yX6_workOut : MethodName := ⟨RX6, "workOut", "()V"⟩
abbrev cX6_workOut_ : ByteArray := prog_8_method_26_code
def yX6_workOut_ : MethodName := ⟨RX6, "workOut", "(I)V"⟩
abbrev cX6_playerAt : ByteArray := prog_8_method_27_code
def yX6_playerAt : MethodName := ⟨RX6, "playerAt", "(II)I"⟩
abbrev cX6_canDo : ByteArray := prog_8_method_28_code
def yX6_canDo : MethodName := ⟨RX6, "canDo", "(I)Z"⟩
abbrev cX6_castAll : ByteArray := prog_8_method_29_code
def yX6_castAll : MethodName := ⟨RX6, "castAll", "()V"⟩
abbrev cX6_placeAt : ByteArray := prog_8_method_30_code
def yX6_placeAt : MethodName := ⟨RX6, "placeAt", "(II)I"⟩
abbrev cX6_trackAt : ByteArray := prog_8_method_31_code
def yX6_trackAt : MethodName := ⟨RX6, "trackAt", "(II)I"⟩
abbrev cX6_whyBeat : ByteArray := prog_8_method_32_code
def yX6_whyBeat : MethodName := ⟨RX6, "whyBeat", "(I)I"⟩
abbrev cX6_place : ByteArray := prog_8_method_33_code
def yX6_place : MethodName := ⟨RX6, "place", "(II)I"⟩
abbrev cX6_track : ByteArray := prog_8_method_34_code
def yX6_track : MethodName := ⟨RX6, "track", "(II)I"⟩
abbrev cX6_onStage : ByteArray := prog_8_method_35_code
def yX6_onStage : MethodName := ⟨RX6, "onStage", "(I)I"⟩
abbrev cX6_areOnOneTrack : ByteArray := prog_8_method_36_code
def yX6_areOnOneTrack : MethodName := ⟨RX6, "areOnOneTrack", "(III)Z"⟩
abbrev cX6_firstClash : ByteArray := prog_8_method_37_code
def yX6_firstClash : MethodName := ⟨RX6, "firstClash", "(II)I"⟩
abbrev cX6_clash : ByteArray := prog_8_method_38_code
def yX6_clash : MethodName := ⟨RX6, "clash", "(II)I"⟩
abbrev cX6_allClashes : ByteArray := prog_8_method_39_code
def yX6_allClashes : MethodName := ⟨RX6, "allClashes", "()I"⟩
abbrev cX6_clashes : ByteArray := prog_8_method_40_code
def yX6_clashes : MethodName := ⟨RX6, "clashes", "()I"⟩
abbrev cX6_beats : ByteArray := prog_8_method_41_code
def yX6_beats : MethodName := ⟨RX6, "beats", "(I)I"⟩
abbrev cX6_stays : ByteArray := prog_8_method_42_code
def yX6_stays : MethodName := ⟨RX6, "stays", "(I)I"⟩
abbrev cX6_stayTold : ByteArray := prog_8_method_43_code
def yX6_stayTold : MethodName := ⟨RX6, "stayTold", "(III)I"⟩
abbrev cX6_stay : ByteArray := prog_8_method_44_code
def yX6_stay : MethodName := ⟨RX6, "stay", "(III)I"⟩
abbrev cX6_uncast : ByteArray := prog_8_method_45_code
def yX6_uncast : MethodName := ⟨RX6, "uncast", "()I"⟩
abbrev cX6_handsOf : ByteArray := prog_8_method_46_code
def yX6_handsOf : MethodName := ⟨RX6, "handsOf", "(II)I"⟩
abbrev cX6_hands : ByteArray := prog_8_method_47_code
def yX6_hands : MethodName := ⟨RX6, "hands", "(II)I"⟩
abbrev cX6_loadOf : ByteArray := prog_8_method_48_code
def yX6_loadOf : MethodName := ⟨RX6, "loadOf", "(I)I"⟩
abbrev cX6_load : ByteArray := prog_8_method_49_code
def yX6_load : MethodName := ⟨RX6, "load", "(I)I"⟩
abbrev cX6_note : ByteArray := prog_8_method_50_code
def yX6_note : MethodName := ⟨RX6, "note", "(II)I"⟩
abbrev cX6_mean : ByteArray := prog_8_method_51_code
def yX6_mean : MethodName := ⟨RX6, "mean", "(I)D"⟩
abbrev cX6_worst : ByteArray := prog_8_method_52_code
def yX6_worst : MethodName := ⟨RX6, "worst", "()I"⟩
abbrev cX6_digest : ByteArray := prog_8_method_53_code
def yX6_digest : MethodName := ⟨RX6, "digest", "()J"⟩
def RJx145de : String := "java/io/Serializable"
def TJx145de : u_T := fun k => match k with
  | _ => ("", "", "", false)
def tyJx145de : Nat → FieldType := fun k => match k with
  | _ => .int
theorem nmJx145de : ∀ a, a < 0 → ∀ b, b < 0 → a ≠ b → (TJx145de a).2.1 ≠ (TJx145de b).2.1 := by decide +kernel
theorem tyJx145de_ok : ∀ k, k < 0 → parseFieldDescriptor (TJx145de k).2.2.1 = some (tyJx145de k) := by decide +kernel
def RJ5 : String := "java/lang/AbstractStringBuilder"
def TJ5 : u_T := fun k => match k with
  | _ => ("", "", "", false)
def tyJ5 : Nat → FieldType := fun k => match k with
  | _ => .int
theorem nmJ5 : ∀ a, a < 0 → ∀ b, b < 0 → a ≠ b → (TJ5 a).2.1 ≠ (TJ5 b).2.1 := by decide +kernel
theorem tyJ5_ok : ∀ k, k < 0 → parseFieldDescriptor (TJ5 k).2.2.1 = some (tyJ5 k) := by decide +kernel
abbrev cJ5_init_d00df : ByteArray := prog_10_method_2_code
def yJ5_init_d00df : MethodName := ⟨RJ5, "<init>", "(I)V"⟩
abbrev cJ5_length_8abf5 : ByteArray := prog_10_method_6_code
def yJ5_length_8abf5 : MethodName := ⟨RJ5, "length", "()I"⟩
abbrev cJ5_ensureCapacityInternal_d00df : ByteArray := prog_10_method_9_code
def yJ5_ensureCapacityInternal_d00df : MethodName := ⟨RJ5, "ensureCapacityInternal", "(I)V"⟩
abbrev cJ5_newCapacity_0f7a4 : ByteArray := prog_10_method_10_code
def yJ5_newCapacity_0f7a4 : MethodName := ⟨RJ5, "newCapacity", "(I)I"⟩
abbrev cJ5_inflate_da8c8 : ByteArray := prog_10_method_11_code
def yJ5_inflate_da8c8 : MethodName := ⟨RJ5, "inflate", "()V"⟩
abbrev cJ5_append_cf1ce : ByteArray := prog_10_method_22_code
def yJ5_append_cf1ce : MethodName := ⟨RJ5, "append", "(Ljava/lang/String;)Ljava/lang/AbstractStringBuilder;"⟩
abbrev cJ5_appendNull_278bc : ByteArray := prog_10_method_26_code
def yJ5_appendNull_278bc : MethodName := ⟨RJ5, "appendNull", "()Ljava/lang/AbstractStringBuilder;"⟩
abbrev cJ5_append_c97b9 : ByteArray := prog_10_method_32_code
def yJ5_append_c97b9 : MethodName := ⟨RJ5, "append", "(I)Ljava/lang/AbstractStringBuilder;"⟩
abbrev cJ5_getValue_6d5f1 : ByteArray := prog_10_method_64_code
def yJ5_getValue_6d5f1 : MethodName := ⟨RJ5, "getValue", "()[B"⟩
abbrev cJ5_isLatin1_aae02 : ByteArray := prog_10_method_68_code
def yJ5_isLatin1_aae02 : MethodName := ⟨RJ5, "isLatin1", "()Z"⟩
abbrev cJ5_inflateIfNeededFor_a7421 : ByteArray := prog_10_method_71_code
def yJ5_inflateIfNeededFor_a7421 : MethodName := ⟨RJ5, "inflateIfNeededFor", "(Ljava/lang/String;)V"⟩
abbrev cJ5_putStringAt_47b60 : ByteArray := prog_10_method_73_code
def yJ5_putStringAt_47b60 : MethodName := ⟨RJ5, "putStringAt", "(ILjava/lang/String;)V"⟩
def RJx2cfe8 : String := "java/lang/Appendable"
def TJx2cfe8 : u_T := fun k => match k with
  | _ => ("", "", "", false)
def tyJx2cfe8 : Nat → FieldType := fun k => match k with
  | _ => .int
theorem nmJx2cfe8 : ∀ a, a < 0 → ∀ b, b < 0 → a ≠ b → (TJx2cfe8 a).2.1 ≠ (TJx2cfe8 b).2.1 := by decide +kernel
theorem tyJx2cfe8_ok : ∀ k, k < 0 → parseFieldDescriptor (TJx2cfe8 k).2.2.1 = some (tyJx2cfe8 k) := by decide +kernel
def RJx9f9b0 : String := "java/lang/CharSequence"
def TJx9f9b0 : u_T := fun k => match k with
  | _ => ("", "", "", false)
def tyJx9f9b0 : Nat → FieldType := fun k => match k with
  | _ => .int
theorem nmJx9f9b0 : ∀ a, a < 0 → ∀ b, b < 0 → a ≠ b → (TJx9f9b0 a).2.1 ≠ (TJx9f9b0 b).2.1 := by decide +kernel
theorem tyJx9f9b0_ok : ∀ k, k < 0 → parseFieldDescriptor (TJx9f9b0 k).2.2.1 = some (tyJx9f9b0 k) := by decide +kernel
def RJx8e188 : String := "java/lang/Cloneable"
def TJx8e188 : u_T := fun k => match k with
  | _ => ("", "", "", false)
def tyJx8e188 : Nat → FieldType := fun k => match k with
  | _ => .int
theorem nmJx8e188 : ∀ a, a < 0 → ∀ b, b < 0 → a ≠ b → (TJx8e188 a).2.1 ≠ (TJx8e188 b).2.1 := by decide +kernel
theorem tyJx8e188_ok : ∀ k, k < 0 → parseFieldDescriptor (TJx8e188 k).2.2.1 = some (tyJx8e188 k) := by decide +kernel
def RJxb160c : String := "java/lang/Comparable"
def TJxb160c : u_T := fun k => match k with
  | _ => ("", "", "", false)
def tyJxb160c : Nat → FieldType := fun k => match k with
  | _ => .int
theorem nmJxb160c : ∀ a, a < 0 → ∀ b, b < 0 → a ≠ b → (TJxb160c a).2.1 ≠ (TJxb160c b).2.1 := by decide +kernel
theorem tyJxb160c_ok : ∀ k, k < 0 → parseFieldDescriptor (TJxb160c k).2.2.1 = some (tyJxb160c k) := by decide +kernel
def RJ6 : String := "java/lang/Integer"
def TJ6 : u_T := fun k => match k with
  | _ => ("", "", "", false)
def tyJ6 : Nat → FieldType := fun k => match k with
  | _ => .int
theorem nmJ6 : ∀ a, a < 0 → ∀ b, b < 0 → a ≠ b → (TJ6 a).2.1 ≠ (TJ6 b).2.1 := by decide +kernel
theorem tyJ6_ok : ∀ k, k < 0 → parseFieldDescriptor (TJ6 k).2.2.1 = some (tyJ6 k) := by decide +kernel
abbrev cJ6_getChars_ba4f3 : ByteArray := prog_19_method_12_code
def yJ6_getChars_ba4f3 : MethodName := ⟨RJ6, "getChars", "(II[B)I"⟩
abbrev cJ6_stringSize_0f7a4 : ByteArray := prog_19_method_13_code
def yJ6_stringSize_0f7a4 : MethodName := ⟨RJ6, "stringSize", "(I)I"⟩
abbrev cJ6_signum_0f7a4 : ByteArray := prog_19_method_56_code
def yJ6_signum_0f7a4 : MethodName := ⟨RJ6, "signum", "(I)I"⟩
def RJxab1ab : String := "java/lang/Iterable"
def TJxab1ab : u_T := fun k => match k with
  | _ => ("", "", "", false)
def tyJxab1ab : Nat → FieldType := fun k => match k with
  | _ => .int
theorem nmJxab1ab : ∀ a, a < 0 → ∀ b, b < 0 → a ≠ b → (TJxab1ab a).2.1 ≠ (TJxab1ab b).2.1 := by decide +kernel
theorem tyJxab1ab_ok : ∀ k, k < 0 → parseFieldDescriptor (TJxab1ab k).2.2.1 = some (tyJxab1ab k) := by decide +kernel
def RJ9 : String := "java/lang/Math"
def TJ9 : u_T := fun k => match k with
  | _ => ("", "", "", false)
def tyJ9 : Nat → FieldType := fun k => match k with
  | _ => .int
theorem nmJ9 : ∀ a, a < 0 → ∀ b, b < 0 → a ≠ b → (TJ9 a).2.1 ≠ (TJ9 b).2.1 := by decide +kernel
theorem tyJ9_ok : ∀ k, k < 0 → parseFieldDescriptor (TJ9 k).2.2.1 = some (tyJ9 k) := by decide +kernel
abbrev cJ9_abs_0f7a4 : ByteArray := prog_21_method_59_code
def yJ9_abs_0f7a4 : MethodName := ⟨RJ9, "abs", "(I)I"⟩
abbrev cJ9_max_7cf53 : ByteArray := prog_21_method_65_code
def yJ9_max_7cf53 : MethodName := ⟨RJ9, "max", "(II)I"⟩
abbrev cJ9_min_7cf53 : ByteArray := prog_21_method_69_code
def yJ9_min_7cf53 : MethodName := ⟨RJ9, "min", "(II)I"⟩
def RJxd2413 : String := "java/lang/Number"
def TJxd2413 : u_T := fun k => match k with
  | _ => ("", "", "", false)
def tyJxd2413 : Nat → FieldType := fun k => match k with
  | _ => .int
theorem nmJxd2413 : ∀ a, a < 0 → ∀ b, b < 0 → a ≠ b → (TJxd2413 a).2.1 ≠ (TJxd2413 b).2.1 := by decide +kernel
theorem tyJxd2413_ok : ∀ k, k < 0 → parseFieldDescriptor (TJxd2413 k).2.2.1 = some (tyJxd2413 k) := by decide +kernel
def RJ0 : String := "java/lang/String"
def TJ0 : u_T := fun k => match k with
  | 0 => ("java/lang/String", "value", "[B", true)
  | 1 => ("java/lang/String", "coder", "B", true)
  | 2 => ("java/lang/String", "hash", "I", false)
  | _ => ("java/lang/String", "hashIsZero", "Z", false)
def tyJ0 : Nat → FieldType := fun k => match k with
  | 0 => .array .byte
  | 1 => .byte
  | 2 => .int
  | _ => .boolean
theorem nmJ0 : ∀ a, a < 4 → ∀ b, b < 4 → a ≠ b → (TJ0 a).2.1 ≠ (TJ0 b).2.1 := by decide +kernel
theorem tyJ0_ok : ∀ k, k < 4 → parseFieldDescriptor (TJ0 k).2.2.1 = some (tyJ0 k) := by decide +kernel
abbrev cJ0_init_81219 : ByteArray := prog_24_method_53_code
def yJ0_init_81219 : MethodName := ⟨RJ0, "<init>", "(Ljava/lang/StringBuilder;)V"⟩
abbrev cJ0_length_8abf5 : ByteArray := prog_24_method_54_code
def yJ0_length_8abf5 : MethodName := ⟨RJ0, "length", "()I"⟩
abbrev cJ0_getBytes_840e7 : ByteArray := prog_24_method_147_code
def yJ0_getBytes_840e7 : MethodName := ⟨RJ0, "getBytes", "([BIB)V"⟩
abbrev cJ0_init_db425 : ByteArray := prog_24_method_150_code
def yJ0_init_db425 : MethodName := ⟨RJ0, "<init>", "(Ljava/lang/AbstractStringBuilder;Ljava/lang/Void;)V"⟩
abbrev cJ0_coder_7d493 : ByteArray := prog_24_method_152_code
def yJ0_coder_7d493 : MethodName := ⟨RJ0, "coder", "()B"⟩
abbrev cJ0_checkBoundsOffCount_cabcc : ByteArray := prog_24_method_157_code
def yJ0_checkBoundsOffCount_cabcc : MethodName := ⟨RJ0, "checkBoundsOffCount", "(III)I"⟩
abbrev cJ0_checkBoundsBeginEnd_23922 : ByteArray := prog_24_method_158_code
def yJ0_checkBoundsBeginEnd_23922 : MethodName := ⟨RJ0, "checkBoundsBeginEnd", "(III)V"⟩
def RJ4 : String := "java/lang/StringBuilder"
def TJ4 : u_T := fun k => match k with
  | 0 => ("java/lang/AbstractStringBuilder", "value", "[B", false)
  | 1 => ("java/lang/AbstractStringBuilder", "coder", "B", false)
  | 2 => ("java/lang/AbstractStringBuilder", "maybeLatin1", "Z", false)
  | _ => ("java/lang/AbstractStringBuilder", "count", "I", false)
def tyJ4 : Nat → FieldType := fun k => match k with
  | 0 => .array .byte
  | 1 => .byte
  | 2 => .boolean
  | _ => .int
theorem nmJ4 : ∀ a, a < 4 → ∀ b, b < 4 → a ≠ b → (TJ4 a).2.1 ≠ (TJ4 b).2.1 := by decide +kernel
theorem tyJ4_ok : ∀ k, k < 4 → parseFieldDescriptor (TJ4 k).2.2.1 = some (tyJ4 k) := by decide +kernel
abbrev cJ4_init_da8c8 : ByteArray := prog_25_method_1_code
def yJ4_init_da8c8 : MethodName := ⟨RJ4, "<init>", "()V"⟩
abbrev cJ4_append_15ec4 : ByteArray := prog_25_method_7_code
def yJ4_append_15ec4 : MethodName := ⟨RJ4, "append", "(Ljava/lang/String;)Ljava/lang/StringBuilder;"⟩
abbrev cJ4_append_bf812 : ByteArray := prog_25_method_15_code
def yJ4_append_bf812 : MethodName := ⟨RJ4, "append", "(I)Ljava/lang/StringBuilder;"⟩
abbrev cJ4_toString_0e30d : ByteArray := prog_25_method_42_code
def yJ4_toString_0e30d : MethodName := ⟨RJ4, "toString", "()Ljava/lang/String;"⟩
abbrev cJ4_length_8abf5 : ByteArray := prog_25_method_93_code
def yJ4_length_8abf5 : MethodName := ⟨RJ4, "length", "()I"⟩
def RJ1 : String := "java/lang/StringLatin1"
def TJ1 : u_T := fun k => match k with
  | _ => ("", "", "", false)
def tyJ1 : Nat → FieldType := fun k => match k with
  | _ => .int
theorem nmJ1 : ∀ a, a < 0 → ∀ b, b < 0 → a ≠ b → (TJ1 a).2.1 ≠ (TJ1 b).2.1 := by decide +kernel
theorem tyJ1_ok : ∀ k, k < 0 → parseFieldDescriptor (TJ1 k).2.2.1 = some (tyJ1 k) := by decide +kernel
abbrev cJ1_inflate_0e8fd : ByteArray := prog_26_method_50_code
def yJ1_inflate_0e8fd : MethodName := ⟨RJ1, "inflate", "([BI[BII)V"⟩
def RJ2 : String := "java/lang/StringUTF16"
def TJ2 : u_T := fun k => match k with
  | _ => ("", "", "", false)
def tyJ2 : Nat → FieldType := fun k => match k with
  | _ => .int
theorem nmJ2 : ∀ a, a < 0 → ∀ b, b < 0 → a ≠ b → (TJ2 a).2.1 ≠ (TJ2 b).2.1 := by decide +kernel
theorem tyJ2_ok : ∀ k, k < 0 → parseFieldDescriptor (TJ2 k).2.2.1 = some (tyJ2 k) := by decide +kernel
abbrev cJ2_newBytesFor_77867 : ByteArray := prog_27_method_2_code
def yJ2_newBytesFor_77867 : MethodName := ⟨RJ2, "newBytesFor", "(I)[B"⟩
abbrev cJ2_newBytesLength_0f7a4 : ByteArray := prog_27_method_3_code
def yJ2_newBytesLength_0f7a4 : MethodName := ⟨RJ2, "newBytesLength", "(I)I"⟩
abbrev cJ2_putChar_b72d1 : ByteArray := prog_27_method_4_code
def yJ2_putChar_b72d1 : MethodName := ⟨RJ2, "putChar", "([BII)V"⟩
abbrev cJ2_getChar_3b067 : ByteArray := prog_27_method_5_code
def yJ2_getChar_3b067 : MethodName := ⟨RJ2, "getChar", "([BI)C"⟩
abbrev cJ2_length_9d52b : ByteArray := prog_27_method_6_code
def yJ2_length_9d52b : MethodName := ⟨RJ2, "length", "([B)I"⟩
abbrev cJ2_coderFromArrayLen_85cad : ByteArray := prog_27_method_15_code
def yJ2_coderFromArrayLen_85cad : MethodName := ⟨RJ2, "coderFromArrayLen", "([BI)B"⟩
abbrev cJ2_compress_39247 : ByteArray := prog_27_method_17_code
def yJ2_compress_39247 : MethodName := ⟨RJ2, "compress", "([BII)[B"⟩
abbrev cJ2_compress_5af95 : ByteArray := prog_27_method_22_code
def yJ2_compress_5af95 : MethodName := ⟨RJ2, "compress", "([BI[BII)I"⟩
abbrev cJ2_getChars_46870 : ByteArray := prog_27_method_77_code
def yJ2_getChars_46870 : MethodName := ⟨RJ2, "getChars", "(III[B)I"⟩
abbrev cJ2_putCharsAt_cd4e5 : ByteArray := prog_27_method_81_code
def yJ2_putCharsAt_cd4e5 : MethodName := ⟨RJ2, "putCharsAt", "([BICCCC)I"⟩
abbrev cJ2_inflate_0e8fd : ByteArray := prog_27_method_86_code
def yJ2_inflate_0e8fd : MethodName := ⟨RJ2, "inflate", "([BI[BII)V"⟩
abbrev cJ2_getChars_ba4f3 : ByteArray := prog_27_method_89_code
def yJ2_getChars_ba4f3 : MethodName := ⟨RJ2, "getChars", "(II[B)I"⟩
abbrev cJ2_checkBoundsBeginEnd_d044e : ByteArray := prog_27_method_93_code
def yJ2_checkBoundsBeginEnd_d044e : MethodName := ⟨RJ2, "checkBoundsBeginEnd", "(II[B)V"⟩
abbrev cJ2_checkBoundsOffCount_d044e : ByteArray := prog_27_method_94_code
def yJ2_checkBoundsOffCount_d044e : MethodName := ⟨RJ2, "checkBoundsOffCount", "(II[B)V"⟩
def RJ10 : String := "java/lang/System"
def TJ10 : u_T := fun k => match k with
  | _ => ("", "", "", false)
def tyJ10 : Nat → FieldType := fun k => match k with
  | _ => .int
theorem nmJ10 : ∀ a, a < 0 → ∀ b, b < 0 → a ≠ b → (TJ10 a).2.1 ≠ (TJ10 b).2.1 := by decide +kernel
theorem tyJ10_ok : ∀ k, k < 0 → parseFieldDescriptor (TJ10 k).2.2.1 = some (tyJ10 k) := by decide +kernel
def RJxfd54e : String := "java/lang/constant/Constable"
def TJxfd54e : u_T := fun k => match k with
  | _ => ("", "", "", false)
def tyJxfd54e : Nat → FieldType := fun k => match k with
  | _ => .int
theorem nmJxfd54e : ∀ a, a < 0 → ∀ b, b < 0 → a ≠ b → (TJxfd54e a).2.1 ≠ (TJxfd54e b).2.1 := by decide +kernel
theorem tyJxfd54e_ok : ∀ k, k < 0 → parseFieldDescriptor (TJxfd54e k).2.2.1 = some (tyJxfd54e k) := by decide +kernel
def RJx3cf43 : String := "java/lang/constant/ConstantDesc"
def TJx3cf43 : u_T := fun k => match k with
  | _ => ("", "", "", false)
def tyJx3cf43 : Nat → FieldType := fun k => match k with
  | _ => .int
theorem nmJx3cf43 : ∀ a, a < 0 → ∀ b, b < 0 → a ≠ b → (TJx3cf43 a).2.1 ≠ (TJx3cf43 b).2.1 := by decide +kernel
theorem tyJx3cf43_ok : ∀ k, k < 0 → parseFieldDescriptor (TJx3cf43 k).2.2.1 = some (tyJx3cf43 k) := by decide +kernel
def RJxa1e45 : String := "java/util/AbstractCollection"
def TJxa1e45 : u_T := fun k => match k with
  | _ => ("", "", "", false)
def tyJxa1e45 : Nat → FieldType := fun k => match k with
  | _ => .int
theorem nmJxa1e45 : ∀ a, a < 0 → ∀ b, b < 0 → a ≠ b → (TJxa1e45 a).2.1 ≠ (TJxa1e45 b).2.1 := by decide +kernel
theorem tyJxa1e45_ok : ∀ k, k < 0 → parseFieldDescriptor (TJxa1e45 k).2.2.1 = some (tyJxa1e45 k) := by decide +kernel
abbrev cJxa1e45_init_da8c8 : ByteArray := prog_32_method_1_code
def yJxa1e45_init_da8c8 : MethodName := ⟨RJxa1e45, "<init>", "()V"⟩
def RJxc12de : String := "java/util/AbstractList"
def TJxc12de : u_T := fun k => match k with
  | _ => ("", "", "", false)
def tyJxc12de : Nat → FieldType := fun k => match k with
  | _ => .int
theorem nmJxc12de : ∀ a, a < 0 → ∀ b, b < 0 → a ≠ b → (TJxc12de a).2.1 ≠ (TJxc12de b).2.1 := by decide +kernel
theorem tyJxc12de_ok : ∀ k, k < 0 → parseFieldDescriptor (TJxc12de k).2.2.1 = some (tyJxc12de k) := by decide +kernel
abbrev cJxc12de_init_da8c8 : ByteArray := prog_33_method_1_code
def yJxc12de_init_da8c8 : MethodName := ⟨RJxc12de, "<init>", "()V"⟩
def RJx4a65c : String := "java/util/ArrayList"
def TJx4a65c : u_T := fun k => match k with
  | 0 => ("java/util/AbstractList", "modCount", "I", false)
  | 1 => ("java/util/ArrayList", "elementData", "[Ljava/lang/Object;", false)
  | _ => ("java/util/ArrayList", "size", "I", false)
def tyJx4a65c : Nat → FieldType := fun k => match k with
  | 0 => .int
  | 1 => .array (.object "java/lang/Object")
  | _ => .int
theorem nmJx4a65c : ∀ a, a < 3 → ∀ b, b < 3 → a ≠ b → (TJx4a65c a).2.1 ≠ (TJx4a65c b).2.1 := by decide +kernel
theorem tyJx4a65c_ok : ∀ k, k < 3 → parseFieldDescriptor (TJx4a65c k).2.2.1 = some (tyJx4a65c k) := by decide +kernel
abbrev cJx4a65c_init_da8c8 : ByteArray := prog_34_method_2_code
def yJx4a65c_init_da8c8 : MethodName := ⟨RJx4a65c, "<init>", "()V"⟩
abbrev cJx4a65c_grow_92f84 : ByteArray := prog_34_method_6_code
def yJx4a65c_grow_92f84 : MethodName := ⟨RJx4a65c, "grow", "(I)[Ljava/lang/Object;"⟩
abbrev cJx4a65c_grow_d5877 : ByteArray := prog_34_method_7_code
def yJx4a65c_grow_d5877 : MethodName := ⟨RJx4a65c, "grow", "()[Ljava/lang/Object;"⟩
abbrev cJx4a65c_size_8abf5 : ByteArray := prog_34_method_8_code
def yJx4a65c_size_8abf5 : MethodName := ⟨RJx4a65c, "size", "()I"⟩
abbrev cJx4a65c_isEmpty_aae02 : ByteArray := prog_34_method_9_code
def yJx4a65c_isEmpty_aae02 : MethodName := ⟨RJx4a65c, "isEmpty", "()Z"⟩
abbrev cJx4a65c_elementData_915e3 : ByteArray := prog_34_method_18_code
def yJx4a65c_elementData_915e3 : MethodName := ⟨RJx4a65c, "elementData", "(I)Ljava/lang/Object;"⟩
abbrev cJx4a65c_get_915e3 : ByteArray := prog_34_method_20_code
def yJx4a65c_get_915e3 : MethodName := ⟨RJx4a65c, "get", "(I)Ljava/lang/Object;"⟩
abbrev cJx4a65c_add_72be8 : ByteArray := prog_34_method_24_code
def yJx4a65c_add_72be8 : MethodName := ⟨RJx4a65c, "add", "(Ljava/lang/Object;[Ljava/lang/Object;I)V"⟩
abbrev cJx4a65c_add_9ea2d : ByteArray := prog_34_method_25_code
def yJx4a65c_add_9ea2d : MethodName := ⟨RJx4a65c, "add", "(Ljava/lang/Object;)Z"⟩
abbrev cJx4a65c_add_7a177 : ByteArray := prog_34_method_26_code
def yJx4a65c_add_7a177 : MethodName := ⟨RJx4a65c, "add", "(ILjava/lang/Object;)V"⟩
abbrev cJx4a65c_remove_915e3 : ByteArray := prog_34_method_29_code
def yJx4a65c_remove_915e3 : MethodName := ⟨RJx4a65c, "remove", "(I)Ljava/lang/Object;"⟩
abbrev cJx4a65c_fastRemove_b59b0 : ByteArray := prog_34_method_39_code
def yJx4a65c_fastRemove_b59b0 : MethodName := ⟨RJx4a65c, "fastRemove", "([Ljava/lang/Object;I)V"⟩
abbrev cJx4a65c_clear_da8c8 : ByteArray := prog_34_method_40_code
def yJx4a65c_clear_da8c8 : MethodName := ⟨RJx4a65c, "clear", "()V"⟩
abbrev cJx4a65c_rangeCheckForAdd_d00df : ByteArray := prog_34_method_45_code
def yJx4a65c_rangeCheckForAdd_d00df : MethodName := ⟨RJx4a65c, "rangeCheckForAdd", "(I)V"⟩
abbrev cJx4a65c_outOfBoundsMsg_b52d3 : ByteArray := prog_34_method_46_code
def yJx4a65c_outOfBoundsMsg_b52d3 : MethodName := ⟨RJx4a65c, "outOfBoundsMsg", "(I)Ljava/lang/String;"⟩
def RJ7 : String := "java/util/Arrays"
def TJ7 : u_T := fun k => match k with
  | _ => ("", "", "", false)
def tyJ7 : Nat → FieldType := fun k => match k with
  | _ => .int
theorem nmJ7 : ∀ a, a < 0 → ∀ b, b < 0 → a ≠ b → (TJ7 a).2.1 ≠ (TJ7 b).2.1 := by decide +kernel
theorem tyJ7_ok : ∀ k, k < 0 → parseFieldDescriptor (TJ7 k).2.2.1 = some (tyJ7 k) := by decide +kernel
abbrev cJ7_fill_53178 : ByteArray := prog_35_method_103_code
def yJ7_fill_53178 : MethodName := ⟨RJ7, "fill", "([II)V"⟩
abbrev cJ7_copyOf_1904c : ByteArray := prog_35_method_119_code
def yJ7_copyOf_1904c : MethodName := ⟨RJ7, "copyOf", "([Ljava/lang/Object;I)[Ljava/lang/Object;"⟩
abbrev cJ7_copyOf_6403c : ByteArray := prog_35_method_120_code
def yJ7_copyOf_6403c : MethodName := ⟨RJ7, "copyOf", "([Ljava/lang/Object;ILjava/lang/Class;)[Ljava/lang/Object;"⟩
abbrev cJ7_copyOf_9075b : ByteArray := prog_35_method_121_code
def yJ7_copyOf_9075b : MethodName := ⟨RJ7, "copyOf", "([BI)[B"⟩
abbrev cJ7_checkLength_df160 : ByteArray := prog_35_method_131_code
def yJ7_checkLength_df160 : MethodName := ⟨RJ7, "checkLength", "(II)V"⟩
abbrev cJ7_copyOfRange_39247 : ByteArray := prog_35_method_132_code
def yJ7_copyOfRange_39247 : MethodName := ⟨RJ7, "copyOfRange", "([BII)[B"⟩
abbrev cJ7_copyOfRangeByte_39247 : ByteArray := prog_35_method_133_code
def yJ7_copyOfRangeByte_39247 : MethodName := ⟨RJ7, "copyOfRangeByte", "([BII)[B"⟩
def RJx5ef63 : String := "java/util/Collection"
def TJx5ef63 : u_T := fun k => match k with
  | _ => ("", "", "", false)
def tyJx5ef63 : Nat → FieldType := fun k => match k with
  | _ => .int
theorem nmJx5ef63 : ∀ a, a < 0 → ∀ b, b < 0 → a ≠ b → (TJx5ef63 a).2.1 ≠ (TJx5ef63 b).2.1 := by decide +kernel
theorem tyJx5ef63_ok : ∀ k, k < 0 → parseFieldDescriptor (TJx5ef63 k).2.2.1 = some (tyJx5ef63 k) := by decide +kernel
def RJxbd725 : String := "java/util/List"
def TJxbd725 : u_T := fun k => match k with
  | _ => ("", "", "", false)
def tyJxbd725 : Nat → FieldType := fun k => match k with
  | _ => .int
theorem nmJxbd725 : ∀ a, a < 0 → ∀ b, b < 0 → a ≠ b → (TJxbd725 a).2.1 ≠ (TJxbd725 b).2.1 := by decide +kernel
theorem tyJxbd725_ok : ∀ k, k < 0 → parseFieldDescriptor (TJxbd725 k).2.2.1 = some (tyJxbd725 k) := by decide +kernel
def RJ15 : String := "java/util/Objects"
def TJ15 : u_T := fun k => match k with
  | _ => ("", "", "", false)
def tyJ15 : Nat → FieldType := fun k => match k with
  | _ => .int
theorem nmJ15 : ∀ a, a < 0 → ∀ b, b < 0 → a ≠ b → (TJ15 a).2.1 ≠ (TJ15 b).2.1 := by decide +kernel
theorem tyJ15_ok : ∀ k, k < 0 → parseFieldDescriptor (TJ15 k).2.2.1 = some (tyJ15 k) := by decide +kernel
abbrev cJ15_checkIndex_7cf53 : ByteArray := prog_38_method_17_code
def yJ15_checkIndex_7cf53 : MethodName := ⟨RJ15, "checkIndex", "(II)I"⟩
def RJxf0a74 : String := "java/util/RandomAccess"
def TJxf0a74 : u_T := fun k => match k with
  | _ => ("", "", "", false)
def tyJxf0a74 : Nat → FieldType := fun k => match k with
  | _ => .int
theorem nmJxf0a74 : ∀ a, a < 0 → ∀ b, b < 0 → a ≠ b → (TJxf0a74 a).2.1 ≠ (TJxf0a74 b).2.1 := by decide +kernel
theorem tyJxf0a74_ok : ∀ k, k < 0 → parseFieldDescriptor (TJxf0a74 k).2.2.1 = some (tyJxf0a74 k) := by decide +kernel
def RJxa66e6 : String := "java/util/SequencedCollection"
def TJxa66e6 : u_T := fun k => match k with
  | _ => ("", "", "", false)
def tyJxa66e6 : Nat → FieldType := fun k => match k with
  | _ => .int
theorem nmJxa66e6 : ∀ a, a < 0 → ∀ b, b < 0 → a ≠ b → (TJxa66e6 a).2.1 ≠ (TJxa66e6 b).2.1 := by decide +kernel
theorem tyJxa66e6_ok : ∀ k, k < 0 → parseFieldDescriptor (TJxa66e6 k).2.2.1 = some (tyJxa66e6 k) := by decide +kernel
def RJ8 : String := "jdk/internal/util/ArraysSupport"
def TJ8 : u_T := fun k => match k with
  | _ => ("", "", "", false)
def tyJ8 : Nat → FieldType := fun k => match k with
  | _ => .int
theorem nmJ8 : ∀ a, a < 0 → ∀ b, b < 0 → a ≠ b → (TJ8 a).2.1 ≠ (TJ8 b).2.1 := by decide +kernel
theorem tyJ8_ok : ∀ k, k < 0 → parseFieldDescriptor (TJ8 k).2.2.1 = some (tyJ8 k) := by decide +kernel
abbrev cJ8_newLength_cabcc : ByteArray := prog_41_method_27_code
def yJ8_newLength_cabcc : MethodName := ⟨RJ8, "newLength", "(III)I"⟩
abbrev cJ8_hugeLength_7cf53 : ByteArray := prog_41_method_28_code
def yJ8_hugeLength_7cf53 : MethodName := ⟨RJ8, "hugeLength", "(II)I"⟩
def RJ3 : String := "jdk/internal/util/Preconditions"
def TJ3 : u_T := fun k => match k with
  | _ => ("", "", "", false)
def tyJ3 : Nat → FieldType := fun k => match k with
  | _ => .int
theorem nmJ3 : ∀ a, a < 0 → ∀ b, b < 0 → a ≠ b → (TJ3 a).2.1 ≠ (TJ3 b).2.1 := by decide +kernel
theorem tyJ3_ok : ∀ k, k < 0 → parseFieldDescriptor (TJ3 k).2.2.1 = some (tyJ3 k) := by decide +kernel
abbrev cJ3_checkIndex_8e157 : ByteArray := prog_42_method_11_code
def yJ3_checkIndex_8e157 : MethodName := ⟨RJ3, "checkIndex", "(IILjava/util/function/BiFunction;)I"⟩
abbrev cJ3_checkFromToIndex_8c36e : ByteArray := prog_42_method_12_code
def yJ3_checkFromToIndex_8c36e : MethodName := ⟨RJ3, "checkFromToIndex", "(IIILjava/util/function/BiFunction;)I"⟩
abbrev cJ3_checkFromIndexSize_8c36e : ByteArray := prog_42_method_13_code
def yJ3_checkFromIndexSize_8c36e : MethodName := ⟨RJ3, "checkFromIndexSize", "(IIILjava/util/function/BiFunction;)I"⟩
def RL : String := "CueBookLaw"
abbrev cL_addPuppet : ByteArray := method_3_code
def yL_addPuppet : MethodName := ⟨RL, "addPuppet", "(LCueBook;II[J)I"⟩
abbrev cL_addPlayer : ByteArray := method_4_code
def yL_addPlayer : MethodName := ⟨RL, "addPlayer", "(LCueBook;II[J)I"⟩
abbrev cL_enter : ByteArray := method_5_code
def yL_enter : MethodName := ⟨RL, "enter", "(LCueBook;IIII[J)I"⟩
abbrev cL_move : ByteArray := method_6_code
def yL_move : MethodName := ⟨RL, "move", "(LCueBook;III[J)I"⟩
abbrev cL_shift : ByteArray := method_7_code
def yL_shift : MethodName := ⟨RL, "shift", "(LCueBook;III[J)I"⟩
abbrev cL_leave : ByteArray := method_8_code
def yL_leave : MethodName := ⟨RL, "leave", "(LCueBook;II[J)I"⟩
abbrev cL_strike : ByteArray := method_9_code
def yL_strike : MethodName := ⟨RL, "strike", "(LCueBook;I[J)I"⟩
abbrev cL_count : ByteArray := method_10_code
def yL_count : MethodName := ⟨RL, "count", "(LCueBook;I[J)I"⟩
abbrev cL_cue : ByteArray := method_11_code
def yL_cue : MethodName := ⟨RL, "cue", "(LCueBook;II[J)I"⟩
abbrev cL_place : ByteArray := method_12_code
def yL_place : MethodName := ⟨RL, "place", "(LCueBook;II[J)I"⟩
abbrev cL_track : ByteArray := method_13_code
def yL_track : MethodName := ⟨RL, "track", "(LCueBook;II[J)I"⟩
abbrev cL_onStage : ByteArray := method_14_code
def yL_onStage : MethodName := ⟨RL, "onStage", "(LCueBook;I[J)I"⟩
abbrev cL_clash : ByteArray := method_15_code
def yL_clash : MethodName := ⟨RL, "clash", "(LCueBook;II[J)I"⟩
abbrev cL_beats : ByteArray := method_16_code
def yL_beats : MethodName := ⟨RL, "beats", "(LCueBook;I[J)I"⟩
abbrev cL_stays : ByteArray := method_17_code
def yL_stays : MethodName := ⟨RL, "stays", "(LCueBook;I[J)I"⟩
abbrev cL_stay : ByteArray := method_18_code
def yL_stay : MethodName := ⟨RL, "stay", "(LCueBook;III[J)I"⟩
abbrev cL_hands : ByteArray := method_19_code
def yL_hands : MethodName := ⟨RL, "hands", "(LCueBook;II[J)I"⟩
abbrev cL_load : ByteArray := method_20_code
def yL_load : MethodName := ⟨RL, "load", "(LCueBook;I[J)I"⟩
abbrev cL_note : ByteArray := method_21_code
def yL_note : MethodName := ⟨RL, "note", "(LCueBook;II[J)I"⟩
abbrev cL_mean : ByteArray := method_22_code
def yL_mean : MethodName := ⟨RL, "mean", "(LCueBook;I[D)I"⟩
abbrev cL_law : ByteArray := code
def yL_law : MethodName := ⟨RL, "law", "([I)Z"⟩
end
section
theorem dX0_init_0 : decode cX0_init 0 = .ok (.aload_n 0, 1) := by decide +kernel
theorem dX0_init_1 : decode cX0_init 1 = .ok (.invokespecial 1, 3) := by decide +kernel
theorem dX0_init_4 : decode cX0_init 4 = .ok (.aload_n 0, 1) := by decide +kernel
theorem dX0_init_5 : decode cX0_init 5 = .ok (.iconst 0, 1) := by decide +kernel
theorem dX0_init_6 : decode cX0_init 6 = .ok (.putfield 7, 3) := by decide +kernel
theorem dX0_init_9 : decode cX0_init 9 = .ok (.aload_n 0, 1) := by decide +kernel
theorem dX0_init_10 : decode cX0_init 10 = .ok (.iconst 0, 1) := by decide +kernel
theorem dX0_init_11 : decode cX0_init 11 = .ok (.putfield 13, 3) := by decide +kernel
theorem dX0_init_14 : decode cX0_init 14 = .ok (.aload_n 0, 1) := by decide +kernel
theorem dX0_init_15 : decode cX0_init 15 = .ok (.iconst 0, 1) := by decide +kernel
theorem dX0_init_16 : decode cX0_init 16 = .ok (.putfield 17, 3) := by decide +kernel
theorem dX0_init_19 : decode cX0_init 19 = .ok (.aload_n 0, 1) := by decide +kernel
theorem dX0_init_20 : decode cX0_init 20 = .ok (.iconst 0, 1) := by decide +kernel
theorem dX0_init_21 : decode cX0_init 21 = .ok (.putfield 20, 3) := by decide +kernel
theorem dX0_init_24 : decode cX0_init 24 = .ok (.aload_n 0, 1) := by decide +kernel
theorem dX0_init_25 : decode cX0_init 25 = .ok (.iload_n 1, 1) := by decide +kernel
theorem dX0_init_26 : decode cX0_init 26 = .ok (.putfield 23, 3) := by decide +kernel
theorem dX0_init_29 : decode cX0_init 29 = .ok (.aload_n 0, 1) := by decide +kernel
theorem dX0_init_30 : decode cX0_init 30 = .ok (.aload_n 2, 1) := by decide +kernel
theorem dX0_init_31 : decode cX0_init 31 = .ok (.putfield 26, 3) := by decide +kernel
theorem dX0_init_34 : decode cX0_init 34 = .ok (.aload_n 0, 1) := by decide +kernel
theorem dX0_init_35 : decode cX0_init 35 = .ok (.iload_n 3, 1) := by decide +kernel
theorem dX0_init_36 : decode cX0_init 36 = .ok (.putfield 30, 3) := by decide +kernel
theorem dX0_init_39 : decode cX0_init 39 = .ok (.aload_n 0, 1) := by decide +kernel
theorem dX0_init_40 : decode cX0_init 40 = .ok (.iload 4, 2) := by decide +kernel
theorem dX0_init_42 : decode cX0_init 42 = .ok (.putfield 33, 3) := by decide +kernel
theorem dX0_init_45 : decode cX0_init 45 = .ok (.aload_n 0, 1) := by decide +kernel
theorem dX0_init_46 : decode cX0_init 46 = .ok (.iload 5, 2) := by decide +kernel
theorem dX0_init_48 : decode cX0_init 48 = .ok (.putfield 36, 3) := by decide +kernel
theorem dX0_init_51 : decode cX0_init 51 = .ok (.return_, 1) := by decide +kernel
theorem dX1_init_0 : decode cX1_init 0 = .ok (.aload_n 0, 1) := by decide +kernel
theorem dX1_init_1 : decode cX1_init 1 = .ok (.invokespecial 3, 3) := by decide +kernel
theorem dX1_init_4 : decode cX1_init 4 = .ok (.aload_n 0, 1) := by decide +kernel
theorem dX1_init_5 : decode cX1_init 5 = .ok (.iconst 0, 1) := by decide +kernel
theorem dX1_init_6 : decode cX1_init 6 = .ok (.putfield 9, 3) := by decide +kernel
theorem dX1_init_9 : decode cX1_init 9 = .ok (.aload_n 0, 1) := by decide +kernel
theorem dX1_init_10 : decode cX1_init 10 = .ok (.iconst 0, 1) := by decide +kernel
theorem dX1_init_11 : decode cX1_init 11 = .ok (.putfield 15, 3) := by decide +kernel
theorem dX1_init_14 : decode cX1_init 14 = .ok (.aload_n 0, 1) := by decide +kernel
theorem dX1_init_15 : decode cX1_init 15 = .ok (.iconst (-1), 1) := by decide +kernel
theorem dX1_init_16 : decode cX1_init 16 = .ok (.putfield 19, 3) := by decide +kernel
theorem dX1_init_19 : decode cX1_init 19 = .ok (.aload_n 0, 1) := by decide +kernel
theorem dX1_init_20 : decode cX1_init 20 = .ok (.iconst (-1), 1) := by decide +kernel
theorem dX1_init_21 : decode cX1_init 21 = .ok (.putfield 22, 3) := by decide +kernel
theorem dX1_init_24 : decode cX1_init 24 = .ok (.aload_n 0, 1) := by decide +kernel
theorem dX1_init_25 : decode cX1_init 25 = .ok (.iconst (-1), 1) := by decide +kernel
theorem dX1_init_26 : decode cX1_init 26 = .ok (.putfield 25, 3) := by decide +kernel
theorem dX1_init_29 : decode cX1_init 29 = .ok (.aload_n 0, 1) := by decide +kernel
theorem dX1_init_30 : decode cX1_init 30 = .ok (.iconst 0, 1) := by decide +kernel
theorem dX1_init_31 : decode cX1_init 31 = .ok (.putfield 28, 3) := by decide +kernel
theorem dX1_init_34 : decode cX1_init 34 = .ok (.aload_n 0, 1) := by decide +kernel
theorem dX1_init_35 : decode cX1_init 35 = .ok (.iconst 0, 1) := by decide +kernel
theorem dX1_init_36 : decode cX1_init 36 = .ok (.putfield 31, 3) := by decide +kernel
theorem dX1_init_39 : decode cX1_init 39 = .ok (.return_, 1) := by decide +kernel
theorem dX1_allows_0 : decode cX1_allows 0 = .ok (.aload_n 1, 1) := by decide +kernel
theorem dX1_allows_1 : decode cX1_allows 1 = .ok (.getfield 34, 3) := by decide +kernel
theorem dX1_allows_4 : decode cX1_allows 4 = .ok (.ifCond .ne 16, 3) := by decide +kernel
theorem dX1_allows_7 : decode cX1_allows 7 = .ok (.aload_n 0, 1) := by decide +kernel
theorem dX1_allows_8 : decode cX1_allows 8 = .ok (.getfield 9, 3) := by decide +kernel
theorem dX1_allows_11 : decode cX1_allows 11 = .ok (.ifCond .ne 7, 3) := by decide +kernel
theorem dX1_allows_14 : decode cX1_allows 14 = .ok (.iconst 1, 1) := by decide +kernel
theorem dX1_allows_15 : decode cX1_allows 15 = .ok (.goto 4, 3) := by decide +kernel
theorem dX1_allows_18 : decode cX1_allows 18 = .ok (.iconst 0, 1) := by decide +kernel
theorem dX1_allows_19 : decode cX1_allows 19 = .ok (.ireturn, 1) := by decide +kernel
theorem dX1_allows_20 : decode cX1_allows 20 = .ok (.aload_n 0, 1) := by decide +kernel
theorem dX1_allows_21 : decode cX1_allows 21 = .ok (.getfield 9, 3) := by decide +kernel
theorem dX1_allows_24 : decode cX1_allows 24 = .ok (.ifCond .eq 14, 3) := by decide +kernel
theorem dX1_allows_27 : decode cX1_allows 27 = .ok (.aload_n 1, 1) := by decide +kernel
theorem dX1_allows_28 : decode cX1_allows 28 = .ok (.getfield 39, 3) := by decide +kernel
theorem dX1_allows_31 : decode cX1_allows 31 = .ok (.aload_n 0, 1) := by decide +kernel
theorem dX1_allows_32 : decode cX1_allows 32 = .ok (.getfield 31, 3) := by decide +kernel
theorem dX1_allows_35 : decode cX1_allows 35 = .ok (.if_icmp .ge 5, 3) := by decide +kernel
theorem dX1_allows_38 : decode cX1_allows 38 = .ok (.iconst 0, 1) := by decide +kernel
theorem dX1_allows_39 : decode cX1_allows 39 = .ok (.ireturn, 1) := by decide +kernel
theorem dX1_allows_40 : decode cX1_allows 40 = .ok (.aload_n 1, 1) := by decide +kernel
theorem dX1_allows_41 : decode cX1_allows 41 = .ok (.getfield 34, 3) := by decide +kernel
theorem dX1_allows_44 : decode cX1_allows 44 = .ok (.iconst 1, 1) := by decide +kernel
theorem dX1_allows_45 : decode cX1_allows 45 = .ok (.if_icmp .ne 31, 3) := by decide +kernel
theorem dX1_allows_48 : decode cX1_allows 48 = .ok (.aload_n 1, 1) := by decide +kernel
theorem dX1_allows_49 : decode cX1_allows 49 = .ok (.getfield 39, 3) := by decide +kernel
theorem dX1_allows_52 : decode cX1_allows 52 = .ok (.aload_n 0, 1) := by decide +kernel
theorem dX1_allows_53 : decode cX1_allows 53 = .ok (.getfield 25, 3) := by decide +kernel
theorem dX1_allows_56 : decode cX1_allows 56 = .ok (.aload_n 1, 1) := by decide +kernel
theorem dX1_allows_57 : decode cX1_allows 57 = .ok (.getfield 42, 3) := by decide +kernel
theorem dX1_allows_60 : decode cX1_allows 60 = .ok (.invokestatic 45, 3) := by decide +kernel
theorem dX1_allows_63 : decode cX1_allows 63 = .ok (.iadd, 1) := by decide +kernel
theorem dX1_allows_64 : decode cX1_allows 64 = .ok (.sipush 1000, 3) := by decide +kernel
theorem dX1_allows_67 : decode cX1_allows 67 = .ok (.if_icmp .ge 7, 3) := by decide +kernel
theorem dX1_allows_70 : decode cX1_allows 70 = .ok (.iconst 1, 1) := by decide +kernel
theorem dX1_allows_71 : decode cX1_allows 71 = .ok (.goto 4, 3) := by decide +kernel
theorem dX1_allows_74 : decode cX1_allows 74 = .ok (.iconst 0, 1) := by decide +kernel
theorem dX1_allows_75 : decode cX1_allows 75 = .ok (.ireturn, 1) := by decide +kernel
theorem dX1_allows_76 : decode cX1_allows 76 = .ok (.aload_n 1, 1) := by decide +kernel
theorem dX1_allows_77 : decode cX1_allows 77 = .ok (.getfield 34, 3) := by decide +kernel
theorem dX1_allows_80 : decode cX1_allows 80 = .ok (.iconst 3, 1) := by decide +kernel
theorem dX1_allows_81 : decode cX1_allows 81 = .ok (.if_icmp .ne 14, 3) := by decide +kernel
theorem dX1_allows_84 : decode cX1_allows 84 = .ok (.aload_n 1, 1) := by decide +kernel
theorem dX1_allows_85 : decode cX1_allows 85 = .ok (.getfield 39, 3) := by decide +kernel
theorem dX1_allows_88 : decode cX1_allows 88 = .ok (.aload_n 0, 1) := by decide +kernel
theorem dX1_allows_89 : decode cX1_allows 89 = .ok (.getfield 15, 3) := by decide +kernel
theorem dX1_allows_92 : decode cX1_allows 92 = .ok (.if_icmp .le 7, 3) := by decide +kernel
theorem dX1_allows_95 : decode cX1_allows 95 = .ok (.iconst 1, 1) := by decide +kernel
theorem dX1_allows_96 : decode cX1_allows 96 = .ok (.goto 4, 3) := by decide +kernel
theorem dX1_allows_99 : decode cX1_allows 99 = .ok (.iconst 0, 1) := by decide +kernel
theorem dX1_allows_100 : decode cX1_allows 100 = .ok (.ireturn, 1) := by decide +kernel
theorem dX1_follow_0 : decode cX1_follow 0 = .ok (.aload_n 1, 1) := by decide +kernel
theorem dX1_follow_1 : decode cX1_follow 1 = .ok (.getfield 34, 3) := by decide +kernel
theorem dX1_follow_4 : decode cX1_follow 4 = .ok (.tableswitch 98 0 2 #[28, 68, 87], 28) := by decide +kernel
theorem dX1_follow_32 : decode cX1_follow 32 = .ok (.aload_n 0, 1) := by decide +kernel
theorem dX1_follow_33 : decode cX1_follow 33 = .ok (.iconst 1, 1) := by decide +kernel
theorem dX1_follow_34 : decode cX1_follow 34 = .ok (.putfield 9, 3) := by decide +kernel
theorem dX1_follow_37 : decode cX1_follow 37 = .ok (.aload_n 0, 1) := by decide +kernel
theorem dX1_follow_38 : decode cX1_follow 38 = .ok (.aload_n 1, 1) := by decide +kernel
theorem dX1_follow_39 : decode cX1_follow 39 = .ok (.getfield 39, 3) := by decide +kernel
theorem dX1_follow_42 : decode cX1_follow 42 = .ok (.putfield 15, 3) := by decide +kernel
theorem dX1_follow_45 : decode cX1_follow 45 = .ok (.aload_n 0, 1) := by decide +kernel
theorem dX1_follow_46 : decode cX1_follow 46 = .ok (.aload_n 1, 1) := by decide +kernel
theorem dX1_follow_47 : decode cX1_follow 47 = .ok (.getfield 49, 3) := by decide +kernel
theorem dX1_follow_50 : decode cX1_follow 50 = .ok (.putfield 19, 3) := by decide +kernel
theorem dX1_follow_53 : decode cX1_follow 53 = .ok (.aload_n 0, 1) := by decide +kernel
theorem dX1_follow_54 : decode cX1_follow 54 = .ok (.aload_n 1, 1) := by decide +kernel
theorem dX1_follow_55 : decode cX1_follow 55 = .ok (.getfield 42, 3) := by decide +kernel
theorem dX1_follow_58 : decode cX1_follow 58 = .ok (.aload_n 1, 1) := by decide +kernel
theorem dX1_follow_59 : decode cX1_follow 59 = .ok (.getfield 42, 3) := by decide +kernel
theorem dX1_follow_62 : decode cX1_follow 62 = .ok (.aload_n 1, 1) := by decide +kernel
theorem dX1_follow_63 : decode cX1_follow 63 = .ok (.getfield 39, 3) := by decide +kernel
theorem dX1_follow_66 : decode cX1_follow 66 = .ok (.invokevirtual 50, 3) := by decide +kernel
theorem dX1_follow_69 : decode cX1_follow 69 = .ok (.goto 38, 3) := by decide +kernel
theorem dX1_follow_72 : decode cX1_follow 72 = .ok (.aload_n 0, 1) := by decide +kernel
theorem dX1_follow_73 : decode cX1_follow 73 = .ok (.aload_n 0, 1) := by decide +kernel
theorem dX1_follow_74 : decode cX1_follow 74 = .ok (.getfield 25, 3) := by decide +kernel
theorem dX1_follow_77 : decode cX1_follow 77 = .ok (.aload_n 1, 1) := by decide +kernel
theorem dX1_follow_78 : decode cX1_follow 78 = .ok (.getfield 42, 3) := by decide +kernel
theorem dX1_follow_81 : decode cX1_follow 81 = .ok (.aload_n 1, 1) := by decide +kernel
theorem dX1_follow_82 : decode cX1_follow 82 = .ok (.getfield 39, 3) := by decide +kernel
theorem dX1_follow_85 : decode cX1_follow 85 = .ok (.invokevirtual 50, 3) := by decide +kernel
theorem dX1_follow_88 : decode cX1_follow 88 = .ok (.goto 19, 3) := by decide +kernel
theorem dX1_follow_91 : decode cX1_follow 91 = .ok (.aload_n 0, 1) := by decide +kernel
theorem dX1_follow_92 : decode cX1_follow 92 = .ok (.aload_n 1, 1) := by decide +kernel
theorem dX1_follow_93 : decode cX1_follow 93 = .ok (.getfield 49, 3) := by decide +kernel
theorem dX1_follow_96 : decode cX1_follow 96 = .ok (.putfield 19, 3) := by decide +kernel
theorem dX1_follow_99 : decode cX1_follow 99 = .ok (.goto 8, 3) := by decide +kernel
theorem dX1_follow_102 : decode cX1_follow 102 = .ok (.aload_n 0, 1) := by decide +kernel
theorem dX1_follow_103 : decode cX1_follow 103 = .ok (.iconst 0, 1) := by decide +kernel
theorem dX1_follow_104 : decode cX1_follow 104 = .ok (.putfield 9, 3) := by decide +kernel
theorem dX1_follow_107 : decode cX1_follow 107 = .ok (.return_, 1) := by decide +kernel
theorem dX1_walk_0 : decode cX1_walk 0 = .ok (.aload_n 0, 1) := by decide +kernel
theorem dX1_walk_1 : decode cX1_walk 1 = .ok (.iload_n 1, 1) := by decide +kernel
theorem dX1_walk_2 : decode cX1_walk 2 = .ok (.putfield 22, 3) := by decide +kernel
theorem dX1_walk_5 : decode cX1_walk 5 = .ok (.aload_n 0, 1) := by decide +kernel
theorem dX1_walk_6 : decode cX1_walk 6 = .ok (.iload_n 2, 1) := by decide +kernel
theorem dX1_walk_7 : decode cX1_walk 7 = .ok (.putfield 25, 3) := by decide +kernel
theorem dX1_walk_10 : decode cX1_walk 10 = .ok (.aload_n 0, 1) := by decide +kernel
theorem dX1_walk_11 : decode cX1_walk 11 = .ok (.iload_n 3, 1) := by decide +kernel
theorem dX1_walk_12 : decode cX1_walk 12 = .ok (.putfield 28, 3) := by decide +kernel
theorem dX1_walk_15 : decode cX1_walk 15 = .ok (.aload_n 0, 1) := by decide +kernel
theorem dX1_walk_16 : decode cX1_walk 16 = .ok (.iload_n 3, 1) := by decide +kernel
theorem dX1_walk_17 : decode cX1_walk 17 = .ok (.iload_n 1, 1) := by decide +kernel
theorem dX1_walk_18 : decode cX1_walk 18 = .ok (.iload_n 2, 1) := by decide +kernel
theorem dX1_walk_19 : decode cX1_walk 19 = .ok (.invokestatic 45, 3) := by decide +kernel
theorem dX1_walk_22 : decode cX1_walk 22 = .ok (.iadd, 1) := by decide +kernel
theorem dX1_walk_23 : decode cX1_walk 23 = .ok (.putfield 31, 3) := by decide +kernel
theorem dX1_walk_26 : decode cX1_walk 26 = .ok (.return_, 1) := by decide +kernel
theorem dX1_placeAtBeat_0 : decode cX1_placeAtBeat 0 = .ok (.aload_n 0, 1) := by decide +kernel
theorem dX1_placeAtBeat_1 : decode cX1_placeAtBeat 1 = .ok (.getfield 9, 3) := by decide +kernel
theorem dX1_placeAtBeat_4 : decode cX1_placeAtBeat 4 = .ok (.ifCond .ne 5, 3) := by decide +kernel
theorem dX1_placeAtBeat_7 : decode cX1_placeAtBeat 7 = .ok (.iconst (-1), 1) := by decide +kernel
theorem dX1_placeAtBeat_8 : decode cX1_placeAtBeat 8 = .ok (.ireturn, 1) := by decide +kernel
theorem dX1_placeAtBeat_9 : decode cX1_placeAtBeat 9 = .ok (.iload_n 1, 1) := by decide +kernel
theorem dX1_placeAtBeat_10 : decode cX1_placeAtBeat 10 = .ok (.aload_n 0, 1) := by decide +kernel
theorem dX1_placeAtBeat_11 : decode cX1_placeAtBeat 11 = .ok (.getfield 31, 3) := by decide +kernel
theorem dX1_placeAtBeat_14 : decode cX1_placeAtBeat 14 = .ok (.if_icmp .lt 8, 3) := by decide +kernel
theorem dX1_placeAtBeat_17 : decode cX1_placeAtBeat 17 = .ok (.aload_n 0, 1) := by decide +kernel
theorem dX1_placeAtBeat_18 : decode cX1_placeAtBeat 18 = .ok (.getfield 25, 3) := by decide +kernel
theorem dX1_placeAtBeat_21 : decode cX1_placeAtBeat 21 = .ok (.ireturn, 1) := by decide +kernel
theorem dX1_placeAtBeat_22 : decode cX1_placeAtBeat 22 = .ok (.iload_n 1, 1) := by decide +kernel
theorem dX1_placeAtBeat_23 : decode cX1_placeAtBeat 23 = .ok (.aload_n 0, 1) := by decide +kernel
theorem dX1_placeAtBeat_24 : decode cX1_placeAtBeat 24 = .ok (.getfield 28, 3) := by decide +kernel
theorem dX1_placeAtBeat_27 : decode cX1_placeAtBeat 27 = .ok (.isub, 1) := by decide +kernel
theorem dX1_placeAtBeat_28 : decode cX1_placeAtBeat 28 = .ok (.istore_n 2, 1) := by decide +kernel
theorem dX1_placeAtBeat_29 : decode cX1_placeAtBeat 29 = .ok (.aload_n 0, 1) := by decide +kernel
theorem dX1_placeAtBeat_30 : decode cX1_placeAtBeat 30 = .ok (.getfield 22, 3) := by decide +kernel
theorem dX1_placeAtBeat_33 : decode cX1_placeAtBeat 33 = .ok (.aload_n 0, 1) := by decide +kernel
theorem dX1_placeAtBeat_34 : decode cX1_placeAtBeat 34 = .ok (.getfield 25, 3) := by decide +kernel
theorem dX1_placeAtBeat_37 : decode cX1_placeAtBeat 37 = .ok (.if_icmp .ge 12, 3) := by decide +kernel
theorem dX1_placeAtBeat_40 : decode cX1_placeAtBeat 40 = .ok (.aload_n 0, 1) := by decide +kernel
theorem dX1_placeAtBeat_41 : decode cX1_placeAtBeat 41 = .ok (.getfield 22, 3) := by decide +kernel
theorem dX1_placeAtBeat_44 : decode cX1_placeAtBeat 44 = .ok (.iload_n 2, 1) := by decide +kernel
theorem dX1_placeAtBeat_45 : decode cX1_placeAtBeat 45 = .ok (.iadd, 1) := by decide +kernel
theorem dX1_placeAtBeat_46 : decode cX1_placeAtBeat 46 = .ok (.goto 9, 3) := by decide +kernel
theorem dX1_placeAtBeat_49 : decode cX1_placeAtBeat 49 = .ok (.aload_n 0, 1) := by decide +kernel
theorem dX1_placeAtBeat_50 : decode cX1_placeAtBeat 50 = .ok (.getfield 22, 3) := by decide +kernel
theorem dX1_placeAtBeat_53 : decode cX1_placeAtBeat 53 = .ok (.iload_n 2, 1) := by decide +kernel
theorem dX1_placeAtBeat_54 : decode cX1_placeAtBeat 54 = .ok (.isub, 1) := by decide +kernel
theorem dX1_placeAtBeat_55 : decode cX1_placeAtBeat 55 = .ok (.ireturn, 1) := by decide +kernel
theorem dX1_trackNow_0 : decode cX1_trackNow 0 = .ok (.aload_n 0, 1) := by decide +kernel
theorem dX1_trackNow_1 : decode cX1_trackNow 1 = .ok (.getfield 9, 3) := by decide +kernel
theorem dX1_trackNow_4 : decode cX1_trackNow 4 = .ok (.ifCond .eq 10, 3) := by decide +kernel
theorem dX1_trackNow_7 : decode cX1_trackNow 7 = .ok (.aload_n 0, 1) := by decide +kernel
theorem dX1_trackNow_8 : decode cX1_trackNow 8 = .ok (.getfield 19, 3) := by decide +kernel
theorem dX1_trackNow_11 : decode cX1_trackNow 11 = .ok (.goto 4, 3) := by decide +kernel
theorem dX1_trackNow_14 : decode cX1_trackNow 14 = .ok (.iconst (-1), 1) := by decide +kernel
theorem dX1_trackNow_15 : decode cX1_trackNow 15 = .ok (.ireturn, 1) := by decide +kernel
theorem dX2_init_0 : decode cX2_init 0 = .ok (.aload_n 0, 1) := by decide +kernel
theorem dX2_init_1 : decode cX2_init 1 = .ok (.invokespecial 3, 3) := by decide +kernel
theorem dX2_init_4 : decode cX2_init 4 = .ok (.aload_n 0, 1) := by decide +kernel
theorem dX2_init_5 : decode cX2_init 5 = .ok (.sipush 1000, 3) := by decide +kernel
theorem dX2_init_8 : decode cX2_init 8 = .ok (.newarray .int, 2) := by decide +kernel
theorem dX2_init_10 : decode cX2_init 10 = .ok (.putfield 9, 3) := by decide +kernel
theorem dX2_init_13 : decode cX2_init 13 = .ok (.aload_n 0, 1) := by decide +kernel
theorem dX2_init_14 : decode cX2_init 14 = .ok (.iload_n 1, 1) := by decide +kernel
theorem dX2_init_15 : decode cX2_init 15 = .ok (.putfield 15, 3) := by decide +kernel
theorem dX2_init_18 : decode cX2_init 18 = .ok (.aload_n 0, 1) := by decide +kernel
theorem dX2_init_19 : decode cX2_init 19 = .ok (.iload_n 2, 1) := by decide +kernel
theorem dX2_init_20 : decode cX2_init 20 = .ok (.putfield 19, 3) := by decide +kernel
theorem dX2_init_23 : decode cX2_init 23 = .ok (.return_, 1) := by decide +kernel
theorem dX2_holds_0 : decode cX2_holds 0 = .ok (.aload_n 0, 1) := by decide +kernel
theorem dX2_holds_1 : decode cX2_holds 1 = .ok (.getfield 9, 3) := by decide +kernel
theorem dX2_holds_4 : decode cX2_holds 4 = .ok (.iload_n 2, 1) := by decide +kernel
theorem dX2_holds_5 : decode cX2_holds 5 = .ok (.iaload, 1) := by decide +kernel
theorem dX2_holds_6 : decode cX2_holds 6 = .ok (.aload_n 1, 1) := by decide +kernel
theorem dX2_holds_7 : decode cX2_holds 7 = .ok (.getfield 22, 3) := by decide +kernel
theorem dX2_holds_10 : decode cX2_holds 10 = .ok (.iand, 1) := by decide +kernel
theorem dX2_holds_11 : decode cX2_holds 11 = .ok (.ifCond .eq 7, 3) := by decide +kernel
theorem dX2_holds_14 : decode cX2_holds 14 = .ok (.iconst 1, 1) := by decide +kernel
theorem dX2_holds_15 : decode cX2_holds 15 = .ok (.goto 4, 3) := by decide +kernel
theorem dX2_holds_18 : decode cX2_holds 18 = .ok (.iconst 0, 1) := by decide +kernel
theorem dX2_holds_19 : decode cX2_holds 19 = .ok (.ireturn, 1) := by decide +kernel
theorem dX2_putDownAll_0 : decode cX2_putDownAll 0 = .ok (.aload_n 0, 1) := by decide +kernel
theorem dX2_putDownAll_1 : decode cX2_putDownAll 1 = .ok (.getfield 9, 3) := by decide +kernel
theorem dX2_putDownAll_4 : decode cX2_putDownAll 4 = .ok (.iconst 0, 1) := by decide +kernel
theorem dX2_putDownAll_5 : decode cX2_putDownAll 5 = .ok (.invokestatic 27, 3) := by decide +kernel
theorem dX2_putDownAll_8 : decode cX2_putDownAll 8 = .ok (.return_, 1) := by decide +kernel
theorem dX2_take_0 : decode cX2_take 0 = .ok (.aload_n 1, 1) := by decide +kernel
theorem dX2_take_1 : decode cX2_take 1 = .ok (.getfield 33, 3) := by decide +kernel
theorem dX2_take_4 : decode cX2_take 4 = .ok (.istore_n 2, 1) := by decide +kernel
theorem dX2_take_5 : decode cX2_take 5 = .ok (.iload_n 2, 1) := by decide +kernel
theorem dX2_take_6 : decode cX2_take 6 = .ok (.aload_n 1, 1) := by decide +kernel
theorem dX2_take_7 : decode cX2_take 7 = .ok (.getfield 38, 3) := by decide +kernel
theorem dX2_take_10 : decode cX2_take 10 = .ok (.if_icmp .ge 25, 3) := by decide +kernel
theorem dX2_take_13 : decode cX2_take 13 = .ok (.aload_n 0, 1) := by decide +kernel
theorem dX2_take_14 : decode cX2_take 14 = .ok (.getfield 9, 3) := by decide +kernel
theorem dX2_take_17 : decode cX2_take 17 = .ok (.iload_n 2, 1) := by decide +kernel
theorem dX2_take_18 : decode cX2_take 18 = .ok (.dup2, 1) := by decide +kernel
theorem dX2_take_19 : decode cX2_take 19 = .ok (.iaload, 1) := by decide +kernel
theorem dX2_take_20 : decode cX2_take 20 = .ok (.aload_n 1, 1) := by decide +kernel
theorem dX2_take_21 : decode cX2_take 21 = .ok (.getfield 41, 3) := by decide +kernel
theorem dX2_take_24 : decode cX2_take 24 = .ok (.getfield 22, 3) := by decide +kernel
theorem dX2_take_27 : decode cX2_take 27 = .ok (.ior, 1) := by decide +kernel
theorem dX2_take_28 : decode cX2_take 28 = .ok (.iastore, 1) := by decide +kernel
theorem dX2_take_29 : decode cX2_take 29 = .ok (.iinc 2 1, 3) := by decide +kernel
theorem dX2_take_32 : decode cX2_take 32 = .ok (.goto (-27), 3) := by decide +kernel
theorem dX2_take_35 : decode cX2_take 35 = .ok (.return_, 1) := by decide +kernel
theorem dX2_busyBeats_0 : decode cX2_busyBeats 0 = .ok (.iconst 0, 1) := by decide +kernel
theorem dX2_busyBeats_1 : decode cX2_busyBeats 1 = .ok (.istore_n 1, 1) := by decide +kernel
theorem dX2_busyBeats_2 : decode cX2_busyBeats 2 = .ok (.iconst 0, 1) := by decide +kernel
theorem dX2_busyBeats_3 : decode cX2_busyBeats 3 = .ok (.istore_n 2, 1) := by decide +kernel
theorem dX2_busyBeats_4 : decode cX2_busyBeats 4 = .ok (.iload_n 2, 1) := by decide +kernel
theorem dX2_busyBeats_5 : decode cX2_busyBeats 5 = .ok (.sipush 1000, 3) := by decide +kernel
theorem dX2_busyBeats_8 : decode cX2_busyBeats 8 = .ok (.if_icmp .ge 21, 3) := by decide +kernel
theorem dX2_busyBeats_11 : decode cX2_busyBeats 11 = .ok (.aload_n 0, 1) := by decide +kernel
theorem dX2_busyBeats_12 : decode cX2_busyBeats 12 = .ok (.getfield 9, 3) := by decide +kernel
theorem dX2_busyBeats_15 : decode cX2_busyBeats 15 = .ok (.iload_n 2, 1) := by decide +kernel
theorem dX2_busyBeats_16 : decode cX2_busyBeats 16 = .ok (.iaload, 1) := by decide +kernel
theorem dX2_busyBeats_17 : decode cX2_busyBeats 17 = .ok (.ifCond .eq 6, 3) := by decide +kernel
theorem dX2_busyBeats_20 : decode cX2_busyBeats 20 = .ok (.iinc 1 1, 3) := by decide +kernel
theorem dX2_busyBeats_23 : decode cX2_busyBeats 23 = .ok (.iinc 2 1, 3) := by decide +kernel
theorem dX2_busyBeats_26 : decode cX2_busyBeats 26 = .ok (.goto (-22), 3) := by decide +kernel
theorem dX2_busyBeats_29 : decode cX2_busyBeats 29 = .ok (.iload_n 1, 1) := by decide +kernel
theorem dX2_busyBeats_30 : decode cX2_busyBeats 30 = .ok (.ireturn, 1) := by decide +kernel
theorem dX3_init_0 : decode cX3_init 0 = .ok (.aload_n 0, 1) := by decide +kernel
theorem dX3_init_1 : decode cX3_init 1 = .ok (.invokespecial 3, 3) := by decide +kernel
theorem dX3_init_4 : decode cX3_init 4 = .ok (.aload_n 0, 1) := by decide +kernel
theorem dX3_init_5 : decode cX3_init 5 = .ok (.new 9, 3) := by decide +kernel
theorem dX3_init_8 : decode cX3_init 8 = .ok (.dup, 1) := by decide +kernel
theorem dX3_init_9 : decode cX3_init 9 = .ok (.invokespecial 11, 3) := by decide +kernel
theorem dX3_init_12 : decode cX3_init 12 = .ok (.putfield 12, 3) := by decide +kernel
theorem dX3_init_15 : decode cX3_init 15 = .ok (.aload_n 0, 1) := by decide +kernel
theorem dX3_init_16 : decode cX3_init 16 = .ok (.new 9, 3) := by decide +kernel
theorem dX3_init_19 : decode cX3_init 19 = .ok (.dup, 1) := by decide +kernel
theorem dX3_init_20 : decode cX3_init 20 = .ok (.invokespecial 11, 3) := by decide +kernel
theorem dX3_init_23 : decode cX3_init 23 = .ok (.putfield 18, 3) := by decide +kernel
theorem dX3_init_26 : decode cX3_init 26 = .ok (.aload_n 0, 1) := by decide +kernel
theorem dX3_init_27 : decode cX3_init 27 = .ok (.sipush 1000, 3) := by decide +kernel
theorem dX3_init_30 : decode cX3_init 30 = .ok (.newarray .int, 2) := by decide +kernel
theorem dX3_init_32 : decode cX3_init 32 = .ok (.putfield 21, 3) := by decide +kernel
theorem dX3_init_35 : decode cX3_init 35 = .ok (.aload_n 0, 1) := by decide +kernel
theorem dX3_init_36 : decode cX3_init 36 = .ok (.sipush 1000, 3) := by decide +kernel
theorem dX3_init_39 : decode cX3_init 39 = .ok (.newarray .int, 2) := by decide +kernel
theorem dX3_init_41 : decode cX3_init 41 = .ok (.putfield 25, 3) := by decide +kernel
theorem dX3_init_44 : decode cX3_init 44 = .ok (.aload_n 0, 1) := by decide +kernel
theorem dX3_init_45 : decode cX3_init 45 = .ok (.iload_n 1, 1) := by decide +kernel
theorem dX3_init_46 : decode cX3_init 46 = .ok (.putfield 28, 3) := by decide +kernel
theorem dX3_init_49 : decode cX3_init 49 = .ok (.aload_n 0, 1) := by decide +kernel
theorem dX3_init_50 : decode cX3_init 50 = .ok (.iconst 1, 1) := by decide +kernel
theorem dX3_init_51 : decode cX3_init 51 = .ok (.iload_n 1, 1) := by decide +kernel
theorem dX3_init_52 : decode cX3_init 52 = .ok (.ishl, 1) := by decide +kernel
theorem dX3_init_53 : decode cX3_init 53 = .ok (.putfield 32, 3) := by decide +kernel
theorem dX3_init_56 : decode cX3_init 56 = .ok (.aload_n 0, 1) := by decide +kernel
theorem dX3_init_57 : decode cX3_init 57 = .ok (.iload_n 2, 1) := by decide +kernel
theorem dX3_init_58 : decode cX3_init 58 = .ok (.putfield 35, 3) := by decide +kernel
theorem dX3_init_61 : decode cX3_init 61 = .ok (.aload_n 0, 1) := by decide +kernel
theorem dX3_init_62 : decode cX3_init 62 = .ok (.iload_n 3, 1) := by decide +kernel
theorem dX3_init_63 : decode cX3_init 63 = .ok (.putfield 38, 3) := by decide +kernel
theorem dX3_init_66 : decode cX3_init 66 = .ok (.aload_n 0, 1) := by decide +kernel
theorem dX3_init_67 : decode cX3_init 67 = .ok (.getfield 21, 3) := by decide +kernel
theorem dX3_init_70 : decode cX3_init 70 = .ok (.iconst (-1), 1) := by decide +kernel
theorem dX3_init_71 : decode cX3_init 71 = .ok (.invokestatic 41, 3) := by decide +kernel
theorem dX3_init_74 : decode cX3_init 74 = .ok (.aload_n 0, 1) := by decide +kernel
theorem dX3_init_75 : decode cX3_init 75 = .ok (.getfield 25, 3) := by decide +kernel
theorem dX3_init_78 : decode cX3_init 78 = .ok (.iconst (-1), 1) := by decide +kernel
theorem dX3_init_79 : decode cX3_init 79 = .ok (.invokestatic 41, 3) := by decide +kernel
theorem dX3_init_82 : decode cX3_init 82 = .ok (.return_, 1) := by decide +kernel
theorem dX3_takesIn_0 : decode cX3_takesIn 0 = .ok (.aload_n 0, 1) := by decide +kernel
theorem dX3_takesIn_1 : decode cX3_takesIn 1 = .ok (.getfield 12, 3) := by decide +kernel
theorem dX3_takesIn_4 : decode cX3_takesIn 4 = .ok (.invokevirtual 47, 3) := by decide +kernel
theorem dX3_takesIn_7 : decode cX3_takesIn 7 = .ok (.istore_n 2, 1) := by decide +kernel
theorem dX3_takesIn_8 : decode cX3_takesIn 8 = .ok (.iload_n 2, 1) := by decide +kernel
theorem dX3_takesIn_9 : decode cX3_takesIn 9 = .ok (.ifCond .le 32, 3) := by decide +kernel
theorem dX3_takesIn_12 : decode cX3_takesIn 12 = .ok (.aload_n 0, 1) := by decide +kernel
theorem dX3_takesIn_13 : decode cX3_takesIn 13 = .ok (.getfield 12, 3) := by decide +kernel
theorem dX3_takesIn_16 : decode cX3_takesIn 16 = .ok (.iload_n 2, 1) := by decide +kernel
theorem dX3_takesIn_17 : decode cX3_takesIn 17 = .ok (.iconst 1, 1) := by decide +kernel
theorem dX3_takesIn_18 : decode cX3_takesIn 18 = .ok (.isub, 1) := by decide +kernel
theorem dX3_takesIn_19 : decode cX3_takesIn 19 = .ok (.invokevirtual 51, 3) := by decide +kernel
theorem dX3_takesIn_22 : decode cX3_takesIn 22 = .ok (.checkcast 55, 3) := by decide +kernel
theorem dX3_takesIn_25 : decode cX3_takesIn 25 = .ok (.getfield 57, 3) := by decide +kernel
theorem dX3_takesIn_28 : decode cX3_takesIn 28 = .ok (.aload_n 1, 1) := by decide +kernel
theorem dX3_takesIn_29 : decode cX3_takesIn 29 = .ok (.getfield 57, 3) := by decide +kernel
theorem dX3_takesIn_32 : decode cX3_takesIn 32 = .ok (.if_icmp .le 9, 3) := by decide +kernel
theorem dX3_takesIn_35 : decode cX3_takesIn 35 = .ok (.iinc 2 (-1), 3) := by decide +kernel
theorem dX3_takesIn_38 : decode cX3_takesIn 38 = .ok (.goto (-30), 3) := by decide +kernel
theorem dX3_takesIn_41 : decode cX3_takesIn 41 = .ok (.aload_n 0, 1) := by decide +kernel
theorem dX3_takesIn_42 : decode cX3_takesIn 42 = .ok (.getfield 12, 3) := by decide +kernel
theorem dX3_takesIn_45 : decode cX3_takesIn 45 = .ok (.iload_n 2, 1) := by decide +kernel
theorem dX3_takesIn_46 : decode cX3_takesIn 46 = .ok (.aload_n 1, 1) := by decide +kernel
theorem dX3_takesIn_47 : decode cX3_takesIn 47 = .ok (.invokevirtual 60, 3) := by decide +kernel
theorem dX3_takesIn_50 : decode cX3_takesIn 50 = .ok (.aload_n 0, 1) := by decide +kernel
theorem dX3_takesIn_51 : decode cX3_takesIn 51 = .ok (.invokevirtual 64, 3) := by decide +kernel
theorem dX3_takesIn_54 : decode cX3_takesIn 54 = .ok (.ifCond .ne 14, 3) := by decide +kernel
theorem dX3_takesIn_57 : decode cX3_takesIn 57 = .ok (.aload_n 0, 1) := by decide +kernel
theorem dX3_takesIn_58 : decode cX3_takesIn 58 = .ok (.getfield 12, 3) := by decide +kernel
theorem dX3_takesIn_61 : decode cX3_takesIn 61 = .ok (.iload_n 2, 1) := by decide +kernel
theorem dX3_takesIn_62 : decode cX3_takesIn 62 = .ok (.invokevirtual 68, 3) := by decide +kernel
theorem dX3_takesIn_65 : decode cX3_takesIn 65 = .ok (.pop, 1) := by decide +kernel
theorem dX3_takesIn_66 : decode cX3_takesIn 66 = .ok (.iconst 0, 1) := by decide +kernel
theorem dX3_takesIn_67 : decode cX3_takesIn 67 = .ok (.ireturn, 1) := by decide +kernel
theorem dX3_takesIn_68 : decode cX3_takesIn 68 = .ok (.aload_n 0, 1) := by decide +kernel
theorem dX3_takesIn_69 : decode cX3_takesIn 69 = .ok (.invokevirtual 71, 3) := by decide +kernel
theorem dX3_takesIn_72 : decode cX3_takesIn 72 = .ok (.iconst 1, 1) := by decide +kernel
theorem dX3_takesIn_73 : decode cX3_takesIn 73 = .ok (.ireturn, 1) := by decide +kernel
theorem dX3_takesOut_0 : decode cX3_takesOut 0 = .ok (.aload_n 0, 1) := by decide +kernel
theorem dX3_takesOut_1 : decode cX3_takesOut 1 = .ok (.getfield 12, 3) := by decide +kernel
theorem dX3_takesOut_4 : decode cX3_takesOut 4 = .ok (.invokevirtual 47, 3) := by decide +kernel
theorem dX3_takesOut_7 : decode cX3_takesOut 7 = .ok (.iconst 1, 1) := by decide +kernel
theorem dX3_takesOut_8 : decode cX3_takesOut 8 = .ok (.isub, 1) := by decide +kernel
theorem dX3_takesOut_9 : decode cX3_takesOut 9 = .ok (.istore_n 2, 1) := by decide +kernel
theorem dX3_takesOut_10 : decode cX3_takesOut 10 = .ok (.iload_n 2, 1) := by decide +kernel
theorem dX3_takesOut_11 : decode cX3_takesOut 11 = .ok (.ifCond .lt 21, 3) := by decide +kernel
theorem dX3_takesOut_14 : decode cX3_takesOut 14 = .ok (.aload_n 0, 1) := by decide +kernel
theorem dX3_takesOut_15 : decode cX3_takesOut 15 = .ok (.getfield 12, 3) := by decide +kernel
theorem dX3_takesOut_18 : decode cX3_takesOut 18 = .ok (.iload_n 2, 1) := by decide +kernel
theorem dX3_takesOut_19 : decode cX3_takesOut 19 = .ok (.invokevirtual 51, 3) := by decide +kernel
theorem dX3_takesOut_22 : decode cX3_takesOut 22 = .ok (.aload_n 1, 1) := by decide +kernel
theorem dX3_takesOut_23 : decode cX3_takesOut 23 = .ok (.if_acmp .eq 9, 3) := by decide +kernel
theorem dX3_takesOut_26 : decode cX3_takesOut 26 = .ok (.iinc 2 (-1), 3) := by decide +kernel
theorem dX3_takesOut_29 : decode cX3_takesOut 29 = .ok (.goto (-19), 3) := by decide +kernel
theorem dX3_takesOut_32 : decode cX3_takesOut 32 = .ok (.iload_n 2, 1) := by decide +kernel
theorem dX3_takesOut_33 : decode cX3_takesOut 33 = .ok (.ifCond .ge 5, 3) := by decide +kernel
theorem dX3_takesOut_36 : decode cX3_takesOut 36 = .ok (.iconst 0, 1) := by decide +kernel
theorem dX3_takesOut_37 : decode cX3_takesOut 37 = .ok (.ireturn, 1) := by decide +kernel
theorem dX3_takesOut_38 : decode cX3_takesOut 38 = .ok (.aload_n 0, 1) := by decide +kernel
theorem dX3_takesOut_39 : decode cX3_takesOut 39 = .ok (.getfield 12, 3) := by decide +kernel
theorem dX3_takesOut_42 : decode cX3_takesOut 42 = .ok (.iload_n 2, 1) := by decide +kernel
theorem dX3_takesOut_43 : decode cX3_takesOut 43 = .ok (.invokevirtual 68, 3) := by decide +kernel
theorem dX3_takesOut_46 : decode cX3_takesOut 46 = .ok (.pop, 1) := by decide +kernel
theorem dX3_takesOut_47 : decode cX3_takesOut 47 = .ok (.aload_n 0, 1) := by decide +kernel
theorem dX3_takesOut_48 : decode cX3_takesOut 48 = .ok (.invokevirtual 64, 3) := by decide +kernel
theorem dX3_takesOut_51 : decode cX3_takesOut 51 = .ok (.ifCond .ne 14, 3) := by decide +kernel
theorem dX3_takesOut_54 : decode cX3_takesOut 54 = .ok (.aload_n 0, 1) := by decide +kernel
theorem dX3_takesOut_55 : decode cX3_takesOut 55 = .ok (.getfield 12, 3) := by decide +kernel
theorem dX3_takesOut_58 : decode cX3_takesOut 58 = .ok (.iload_n 2, 1) := by decide +kernel
theorem dX3_takesOut_59 : decode cX3_takesOut 59 = .ok (.aload_n 1, 1) := by decide +kernel
theorem dX3_takesOut_60 : decode cX3_takesOut 60 = .ok (.invokevirtual 60, 3) := by decide +kernel
theorem dX3_takesOut_63 : decode cX3_takesOut 63 = .ok (.iconst 0, 1) := by decide +kernel
theorem dX3_takesOut_64 : decode cX3_takesOut 64 = .ok (.ireturn, 1) := by decide +kernel
theorem dX3_takesOut_65 : decode cX3_takesOut 65 = .ok (.aload_n 0, 1) := by decide +kernel
theorem dX3_takesOut_66 : decode cX3_takesOut 66 = .ok (.invokevirtual 71, 3) := by decide +kernel
theorem dX3_takesOut_69 : decode cX3_takesOut 69 = .ok (.iconst 1, 1) := by decide +kernel
theorem dX3_takesOut_70 : decode cX3_takesOut 70 = .ok (.ireturn, 1) := by decide +kernel
theorem dX3_isScriptRight_0 : decode cX3_isScriptRight 0 = .ok (.new 74, 3) := by decide +kernel
theorem dX3_isScriptRight_3 : decode cX3_isScriptRight 3 = .ok (.dup, 1) := by decide +kernel
theorem dX3_isScriptRight_4 : decode cX3_isScriptRight 4 = .ok (.invokespecial 76, 3) := by decide +kernel
theorem dX3_isScriptRight_7 : decode cX3_isScriptRight 7 = .ok (.astore_n 1, 1) := by decide +kernel
theorem dX3_isScriptRight_8 : decode cX3_isScriptRight 8 = .ok (.iconst 0, 1) := by decide +kernel
theorem dX3_isScriptRight_9 : decode cX3_isScriptRight 9 = .ok (.istore_n 2, 1) := by decide +kernel
theorem dX3_isScriptRight_10 : decode cX3_isScriptRight 10 = .ok (.iload_n 2, 1) := by decide +kernel
theorem dX3_isScriptRight_11 : decode cX3_isScriptRight 11 = .ok (.aload_n 0, 1) := by decide +kernel
theorem dX3_isScriptRight_12 : decode cX3_isScriptRight 12 = .ok (.getfield 12, 3) := by decide +kernel
theorem dX3_isScriptRight_15 : decode cX3_isScriptRight 15 = .ok (.invokevirtual 47, 3) := by decide +kernel
theorem dX3_isScriptRight_18 : decode cX3_isScriptRight 18 = .ok (.if_icmp .ge 36, 3) := by decide +kernel
theorem dX3_isScriptRight_21 : decode cX3_isScriptRight 21 = .ok (.aload_n 0, 1) := by decide +kernel
theorem dX3_isScriptRight_22 : decode cX3_isScriptRight 22 = .ok (.getfield 12, 3) := by decide +kernel
theorem dX3_isScriptRight_25 : decode cX3_isScriptRight 25 = .ok (.iload_n 2, 1) := by decide +kernel
theorem dX3_isScriptRight_26 : decode cX3_isScriptRight 26 = .ok (.invokevirtual 51, 3) := by decide +kernel
theorem dX3_isScriptRight_29 : decode cX3_isScriptRight 29 = .ok (.checkcast 55, 3) := by decide +kernel
theorem dX3_isScriptRight_32 : decode cX3_isScriptRight 32 = .ok (.astore_n 3, 1) := by decide +kernel
theorem dX3_isScriptRight_33 : decode cX3_isScriptRight 33 = .ok (.aload_n 1, 1) := by decide +kernel
theorem dX3_isScriptRight_34 : decode cX3_isScriptRight 34 = .ok (.aload_n 3, 1) := by decide +kernel
theorem dX3_isScriptRight_35 : decode cX3_isScriptRight 35 = .ok (.invokevirtual 77, 3) := by decide +kernel
theorem dX3_isScriptRight_38 : decode cX3_isScriptRight 38 = .ok (.ifCond .ne 5, 3) := by decide +kernel
theorem dX3_isScriptRight_41 : decode cX3_isScriptRight 41 = .ok (.iconst 0, 1) := by decide +kernel
theorem dX3_isScriptRight_42 : decode cX3_isScriptRight 42 = .ok (.ireturn, 1) := by decide +kernel
theorem dX3_isScriptRight_43 : decode cX3_isScriptRight 43 = .ok (.aload_n 1, 1) := by decide +kernel
theorem dX3_isScriptRight_44 : decode cX3_isScriptRight 44 = .ok (.aload_n 3, 1) := by decide +kernel
theorem dX3_isScriptRight_45 : decode cX3_isScriptRight 45 = .ok (.invokevirtual 81, 3) := by decide +kernel
theorem dX3_isScriptRight_48 : decode cX3_isScriptRight 48 = .ok (.iinc 2 1, 3) := by decide +kernel
theorem dX3_isScriptRight_51 : decode cX3_isScriptRight 51 = .ok (.goto (-41), 3) := by decide +kernel
theorem dX3_isScriptRight_54 : decode cX3_isScriptRight 54 = .ok (.iconst 1, 1) := by decide +kernel
theorem dX3_isScriptRight_55 : decode cX3_isScriptRight 55 = .ok (.ireturn, 1) := by decide +kernel
theorem dX3_playScript_0 : decode cX3_playScript 0 = .ok (.aload_n 0, 1) := by decide +kernel
theorem dX3_playScript_1 : decode cX3_playScript 1 = .ok (.getfield 18, 3) := by decide +kernel
theorem dX3_playScript_4 : decode cX3_playScript 4 = .ok (.invokevirtual 85, 3) := by decide +kernel
theorem dX3_playScript_7 : decode cX3_playScript 7 = .ok (.new 74, 3) := by decide +kernel
theorem dX3_playScript_10 : decode cX3_playScript 10 = .ok (.dup, 1) := by decide +kernel
theorem dX3_playScript_11 : decode cX3_playScript 11 = .ok (.invokespecial 76, 3) := by decide +kernel
theorem dX3_playScript_14 : decode cX3_playScript 14 = .ok (.astore_n 1, 1) := by decide +kernel
theorem dX3_playScript_15 : decode cX3_playScript 15 = .ok (.iconst 0, 1) := by decide +kernel
theorem dX3_playScript_16 : decode cX3_playScript 16 = .ok (.istore_n 2, 1) := by decide +kernel
theorem dX3_playScript_17 : decode cX3_playScript 17 = .ok (.iconst 0, 1) := by decide +kernel
theorem dX3_playScript_18 : decode cX3_playScript 18 = .ok (.istore_n 3, 1) := by decide +kernel
theorem dX3_playScript_19 : decode cX3_playScript 19 = .ok (.iload_n 3, 1) := by decide +kernel
theorem dX3_playScript_20 : decode cX3_playScript 20 = .ok (.aload_n 0, 1) := by decide +kernel
theorem dX3_playScript_21 : decode cX3_playScript 21 = .ok (.getfield 12, 3) := by decide +kernel
theorem dX3_playScript_24 : decode cX3_playScript 24 = .ok (.invokevirtual 47, 3) := by decide +kernel
theorem dX3_playScript_27 : decode cX3_playScript 27 = .ok (.if_icmp .ge 51, 3) := by decide +kernel
theorem dX3_playScript_30 : decode cX3_playScript 30 = .ok (.aload_n 0, 1) := by decide +kernel
theorem dX3_playScript_31 : decode cX3_playScript 31 = .ok (.getfield 12, 3) := by decide +kernel
theorem dX3_playScript_34 : decode cX3_playScript 34 = .ok (.iload_n 3, 1) := by decide +kernel
theorem dX3_playScript_35 : decode cX3_playScript 35 = .ok (.invokevirtual 51, 3) := by decide +kernel
theorem dX3_playScript_38 : decode cX3_playScript 38 = .ok (.checkcast 55, 3) := by decide +kernel
theorem dX3_playScript_41 : decode cX3_playScript 41 = .ok (.astore 4, 2) := by decide +kernel
theorem dX3_playScript_43 : decode cX3_playScript 43 = .ok (.aload_n 0, 1) := by decide +kernel
theorem dX3_playScript_44 : decode cX3_playScript 44 = .ok (.aload_n 1, 1) := by decide +kernel
theorem dX3_playScript_45 : decode cX3_playScript 45 = .ok (.iload_n 2, 1) := by decide +kernel
theorem dX3_playScript_46 : decode cX3_playScript 46 = .ok (.aload 4, 2) := by decide +kernel
theorem dX3_playScript_48 : decode cX3_playScript 48 = .ok (.getfield 57, 3) := by decide +kernel
theorem dX3_playScript_51 : decode cX3_playScript 51 = .ok (.invokevirtual 88, 3) := by decide +kernel
theorem dX3_playScript_54 : decode cX3_playScript 54 = .ok (.aload 4, 2) := by decide +kernel
theorem dX3_playScript_56 : decode cX3_playScript 56 = .ok (.getfield 57, 3) := by decide +kernel
theorem dX3_playScript_59 : decode cX3_playScript 59 = .ok (.istore_n 2, 1) := by decide +kernel
theorem dX3_playScript_60 : decode cX3_playScript 60 = .ok (.aload_n 1, 1) := by decide +kernel
theorem dX3_playScript_61 : decode cX3_playScript 61 = .ok (.aload 4, 2) := by decide +kernel
theorem dX3_playScript_63 : decode cX3_playScript 63 = .ok (.invokevirtual 81, 3) := by decide +kernel
theorem dX3_playScript_66 : decode cX3_playScript 66 = .ok (.aload_n 0, 1) := by decide +kernel
theorem dX3_playScript_67 : decode cX3_playScript 67 = .ok (.aload 4, 2) := by decide +kernel
theorem dX3_playScript_69 : decode cX3_playScript 69 = .ok (.invokevirtual 92, 3) := by decide +kernel
theorem dX3_playScript_72 : decode cX3_playScript 72 = .ok (.iinc 3 1, 3) := by decide +kernel
theorem dX3_playScript_75 : decode cX3_playScript 75 = .ok (.goto (-56), 3) := by decide +kernel
theorem dX3_playScript_78 : decode cX3_playScript 78 = .ok (.aload_n 0, 1) := by decide +kernel
theorem dX3_playScript_79 : decode cX3_playScript 79 = .ok (.aload_n 1, 1) := by decide +kernel
theorem dX3_playScript_80 : decode cX3_playScript 80 = .ok (.iload_n 2, 1) := by decide +kernel
theorem dX3_playScript_81 : decode cX3_playScript 81 = .ok (.sipush 1000, 3) := by decide +kernel
theorem dX3_playScript_84 : decode cX3_playScript 84 = .ok (.invokevirtual 88, 3) := by decide +kernel
theorem dX3_playScript_87 : decode cX3_playScript 87 = .ok (.return_, 1) := by decide +kernel
theorem dX3_playBeats_0 : decode cX3_playBeats 0 = .ok (.iload_n 2, 1) := by decide +kernel
theorem dX3_playBeats_1 : decode cX3_playBeats 1 = .ok (.istore 4, 2) := by decide +kernel
theorem dX3_playBeats_3 : decode cX3_playBeats 3 = .ok (.iload 4, 2) := by decide +kernel
theorem dX3_playBeats_5 : decode cX3_playBeats 5 = .ok (.iload_n 3, 1) := by decide +kernel
theorem dX3_playBeats_6 : decode cX3_playBeats 6 = .ok (.if_icmp .ge 33, 3) := by decide +kernel
theorem dX3_playBeats_9 : decode cX3_playBeats 9 = .ok (.aload_n 0, 1) := by decide +kernel
theorem dX3_playBeats_10 : decode cX3_playBeats 10 = .ok (.getfield 21, 3) := by decide +kernel
theorem dX3_playBeats_13 : decode cX3_playBeats 13 = .ok (.iload 4, 2) := by decide +kernel
theorem dX3_playBeats_15 : decode cX3_playBeats 15 = .ok (.aload_n 1, 1) := by decide +kernel
theorem dX3_playBeats_16 : decode cX3_playBeats 16 = .ok (.iload 4, 2) := by decide +kernel
theorem dX3_playBeats_18 : decode cX3_playBeats 18 = .ok (.invokevirtual 95, 3) := by decide +kernel
theorem dX3_playBeats_21 : decode cX3_playBeats 21 = .ok (.iastore, 1) := by decide +kernel
theorem dX3_playBeats_22 : decode cX3_playBeats 22 = .ok (.aload_n 0, 1) := by decide +kernel
theorem dX3_playBeats_23 : decode cX3_playBeats 23 = .ok (.getfield 25, 3) := by decide +kernel
theorem dX3_playBeats_26 : decode cX3_playBeats 26 = .ok (.iload 4, 2) := by decide +kernel
theorem dX3_playBeats_28 : decode cX3_playBeats 28 = .ok (.aload_n 1, 1) := by decide +kernel
theorem dX3_playBeats_29 : decode cX3_playBeats 29 = .ok (.invokevirtual 99, 3) := by decide +kernel
theorem dX3_playBeats_32 : decode cX3_playBeats 32 = .ok (.iastore, 1) := by decide +kernel
theorem dX3_playBeats_33 : decode cX3_playBeats 33 = .ok (.iinc 4 1, 3) := by decide +kernel
theorem dX3_playBeats_36 : decode cX3_playBeats 36 = .ok (.goto (-33), 3) := by decide +kernel
theorem dX3_playBeats_39 : decode cX3_playBeats 39 = .ok (.return_, 1) := by decide +kernel
theorem dX3_recordStay_0 : decode cX3_recordStay 0 = .ok (.aload_n 1, 1) := by decide +kernel
theorem dX3_recordStay_1 : decode cX3_recordStay 1 = .ok (.getfield 102, 3) := by decide +kernel
theorem dX3_recordStay_4 : decode cX3_recordStay 4 = .ok (.ifCond .ne 26, 3) := by decide +kernel
theorem dX3_recordStay_7 : decode cX3_recordStay 7 = .ok (.aload_n 0, 1) := by decide +kernel
theorem dX3_recordStay_8 : decode cX3_recordStay 8 = .ok (.getfield 18, 3) := by decide +kernel
theorem dX3_recordStay_11 : decode cX3_recordStay 11 = .ok (.new 105, 3) := by decide +kernel
theorem dX3_recordStay_14 : decode cX3_recordStay 14 = .ok (.dup, 1) := by decide +kernel
theorem dX3_recordStay_15 : decode cX3_recordStay 15 = .ok (.aload_n 0, 1) := by decide +kernel
theorem dX3_recordStay_16 : decode cX3_recordStay 16 = .ok (.aload_n 1, 1) := by decide +kernel
theorem dX3_recordStay_17 : decode cX3_recordStay 17 = .ok (.getfield 57, 3) := by decide +kernel
theorem dX3_recordStay_20 : decode cX3_recordStay 20 = .ok (.invokespecial 107, 3) := by decide +kernel
theorem dX3_recordStay_23 : decode cX3_recordStay 23 = .ok (.invokevirtual 110, 3) := by decide +kernel
theorem dX3_recordStay_26 : decode cX3_recordStay 26 = .ok (.pop, 1) := by decide +kernel
theorem dX3_recordStay_27 : decode cX3_recordStay 27 = .ok (.goto 47, 3) := by decide +kernel
theorem dX3_recordStay_30 : decode cX3_recordStay 30 = .ok (.aload_n 1, 1) := by decide +kernel
theorem dX3_recordStay_31 : decode cX3_recordStay 31 = .ok (.getfield 102, 3) := by decide +kernel
theorem dX3_recordStay_34 : decode cX3_recordStay 34 = .ok (.iconst 3, 1) := by decide +kernel
theorem dX3_recordStay_35 : decode cX3_recordStay 35 = .ok (.if_icmp .ne 39, 3) := by decide +kernel
theorem dX3_recordStay_38 : decode cX3_recordStay 38 = .ok (.aload_n 0, 1) := by decide +kernel
theorem dX3_recordStay_39 : decode cX3_recordStay 39 = .ok (.getfield 18, 3) := by decide +kernel
theorem dX3_recordStay_42 : decode cX3_recordStay 42 = .ok (.invokevirtual 113, 3) := by decide +kernel
theorem dX3_recordStay_45 : decode cX3_recordStay 45 = .ok (.ifCond .ne 29, 3) := by decide +kernel
theorem dX3_recordStay_48 : decode cX3_recordStay 48 = .ok (.aload_n 0, 1) := by decide +kernel
theorem dX3_recordStay_49 : decode cX3_recordStay 49 = .ok (.getfield 18, 3) := by decide +kernel
theorem dX3_recordStay_52 : decode cX3_recordStay 52 = .ok (.aload_n 0, 1) := by decide +kernel
theorem dX3_recordStay_53 : decode cX3_recordStay 53 = .ok (.getfield 18, 3) := by decide +kernel
theorem dX3_recordStay_56 : decode cX3_recordStay 56 = .ok (.invokevirtual 47, 3) := by decide +kernel
theorem dX3_recordStay_59 : decode cX3_recordStay 59 = .ok (.iconst 1, 1) := by decide +kernel
theorem dX3_recordStay_60 : decode cX3_recordStay 60 = .ok (.isub, 1) := by decide +kernel
theorem dX3_recordStay_61 : decode cX3_recordStay 61 = .ok (.invokevirtual 51, 3) := by decide +kernel
theorem dX3_recordStay_64 : decode cX3_recordStay 64 = .ok (.checkcast 105, 3) := by decide +kernel
theorem dX3_recordStay_67 : decode cX3_recordStay 67 = .ok (.aload_n 1, 1) := by decide +kernel
theorem dX3_recordStay_68 : decode cX3_recordStay 68 = .ok (.getfield 57, 3) := by decide +kernel
theorem dX3_recordStay_71 : decode cX3_recordStay 71 = .ok (.putfield 116, 3) := by decide +kernel
theorem dX3_recordStay_74 : decode cX3_recordStay 74 = .ok (.return_, 1) := by decide +kernel
theorem dX4_init_0 : decode cX4_init 0 = .ok (.aload_n 0, 1) := by decide +kernel
theorem dX4_init_1 : decode cX4_init 1 = .ok (.invokespecial 3, 3) := by decide +kernel
theorem dX4_init_4 : decode cX4_init 4 = .ok (.aload_n 0, 1) := by decide +kernel
theorem dX4_init_5 : decode cX4_init 5 = .ok (.sipush 1000, 3) := by decide +kernel
theorem dX4_init_8 : decode cX4_init 8 = .ok (.putfield 9, 3) := by decide +kernel
theorem dX4_init_11 : decode cX4_init 11 = .ok (.aload_n 0, 1) := by decide +kernel
theorem dX4_init_12 : decode cX4_init 12 = .ok (.iconst (-1), 1) := by decide +kernel
theorem dX4_init_13 : decode cX4_init 13 = .ok (.putfield 15, 3) := by decide +kernel
theorem dX4_init_16 : decode cX4_init 16 = .ok (.aload_n 0, 1) := by decide +kernel
theorem dX4_init_17 : decode cX4_init 17 = .ok (.aload_n 1, 1) := by decide +kernel
theorem dX4_init_18 : decode cX4_init 18 = .ok (.putfield 18, 3) := by decide +kernel
theorem dX4_init_21 : decode cX4_init 21 = .ok (.aload_n 0, 1) := by decide +kernel
theorem dX4_init_22 : decode cX4_init 22 = .ok (.iload_n 2, 1) := by decide +kernel
theorem dX4_init_23 : decode cX4_init 23 = .ok (.putfield 22, 3) := by decide +kernel
theorem dX4_init_26 : decode cX4_init 26 = .ok (.return_, 1) := by decide +kernel
theorem dX5_init_0 : decode cX5_init 0 = .ok (.aload_n 0, 1) := by decide +kernel
theorem dX5_init_1 : decode cX5_init 1 = .ok (.invokespecial 1, 3) := by decide +kernel
theorem dX5_init_4 : decode cX5_init 4 = .ok (.aload_n 0, 1) := by decide +kernel
theorem dX5_init_5 : decode cX5_init 5 = .ok (.new 7, 3) := by decide +kernel
theorem dX5_init_8 : decode cX5_init 8 = .ok (.dup, 1) := by decide +kernel
theorem dX5_init_9 : decode cX5_init 9 = .ok (.invokespecial 9, 3) := by decide +kernel
theorem dX5_init_12 : decode cX5_init 12 = .ok (.putfield 10, 3) := by decide +kernel
theorem dX5_init_15 : decode cX5_init 15 = .ok (.aload_n 0, 1) := by decide +kernel
theorem dX5_init_16 : decode cX5_init 16 = .ok (.new 7, 3) := by decide +kernel
theorem dX5_init_19 : decode cX5_init 19 = .ok (.dup, 1) := by decide +kernel
theorem dX5_init_20 : decode cX5_init 20 = .ok (.invokespecial 9, 3) := by decide +kernel
theorem dX5_init_23 : decode cX5_init 23 = .ok (.putfield 16, 3) := by decide +kernel
theorem dX5_init_26 : decode cX5_init 26 = .ok (.aload_n 0, 1) := by decide +kernel
theorem dX5_init_27 : decode cX5_init 27 = .ok (.new 7, 3) := by decide +kernel
theorem dX5_init_30 : decode cX5_init 30 = .ok (.dup, 1) := by decide +kernel
theorem dX5_init_31 : decode cX5_init 31 = .ok (.invokespecial 9, 3) := by decide +kernel
theorem dX5_init_34 : decode cX5_init 34 = .ok (.putfield 19, 3) := by decide +kernel
theorem dX5_init_37 : decode cX5_init 37 = .ok (.aload_n 0, 1) := by decide +kernel
theorem dX5_init_38 : decode cX5_init 38 = .ok (.new 7, 3) := by decide +kernel
theorem dX5_init_41 : decode cX5_init 41 = .ok (.dup, 1) := by decide +kernel
theorem dX5_init_42 : decode cX5_init 42 = .ok (.invokespecial 9, 3) := by decide +kernel
theorem dX5_init_45 : decode cX5_init 45 = .ok (.putfield 22, 3) := by decide +kernel
theorem dX5_init_48 : decode cX5_init 48 = .ok (.aload_n 0, 1) := by decide +kernel
theorem dX5_init_49 : decode cX5_init 49 = .ok (.iconst 0, 1) := by decide +kernel
theorem dX5_init_50 : decode cX5_init 50 = .ok (.putfield 25, 3) := by decide +kernel
theorem dX5_init_53 : decode cX5_init 53 = .ok (.aload_n 0, 1) := by decide +kernel
theorem dX5_init_54 : decode cX5_init 54 = .ok (.iconst 0, 1) := by decide +kernel
theorem dX5_init_55 : decode cX5_init 55 = .ok (.putfield 29, 3) := by decide +kernel
theorem dX5_init_58 : decode cX5_init 58 = .ok (.aload_n 0, 1) := by decide +kernel
theorem dX5_init_59 : decode cX5_init 59 = .ok (.iconst 0, 1) := by decide +kernel
theorem dX5_init_60 : decode cX5_init 60 = .ok (.putfield 33, 3) := by decide +kernel
theorem dX5_init_63 : decode cX5_init 63 = .ok (.aload_n 0, 1) := by decide +kernel
theorem dX5_init_64 : decode cX5_init 64 = .ok (.iconst 0, 1) := by decide +kernel
theorem dX5_init_65 : decode cX5_init 65 = .ok (.putfield 36, 3) := by decide +kernel
theorem dX5_init_68 : decode cX5_init 68 = .ok (.return_, 1) := by decide +kernel
theorem dX5_addPuppet_0 : decode cX5_addPuppet 0 = .ok (.iload_n 1, 1) := by decide +kernel
theorem dX5_addPuppet_1 : decode cX5_addPuppet 1 = .ok (.iconst 1, 1) := by decide +kernel
theorem dX5_addPuppet_2 : decode cX5_addPuppet 2 = .ok (.if_icmp .lt 9, 3) := by decide +kernel
theorem dX5_addPuppet_5 : decode cX5_addPuppet 5 = .ok (.iload_n 1, 1) := by decide +kernel
theorem dX5_addPuppet_6 : decode cX5_addPuppet 6 = .ok (.bipush 9, 2) := by decide +kernel
theorem dX5_addPuppet_8 : decode cX5_addPuppet 8 = .ok (.if_icmp .le 13, 3) := by decide +kernel
theorem dX5_addPuppet_11 : decode cX5_addPuppet 11 = .ok (.new 39, 3) := by decide +kernel
theorem dX5_addPuppet_14 : decode cX5_addPuppet 14 = .ok (.dup, 1) := by decide +kernel
theorem dX5_addPuppet_15 : decode cX5_addPuppet 15 = .ok (.ldc 41, 2) := by decide +kernel
theorem dX5_addPuppet_17 : decode cX5_addPuppet 17 = .ok (.invokespecial 43, 3) := by decide +kernel
theorem dX5_addPuppet_20 : decode cX5_addPuppet 20 = .ok (.athrow, 1) := by decide +kernel
theorem dX5_addPuppet_21 : decode cX5_addPuppet 21 = .ok (.iload_n 2, 1) := by decide +kernel
theorem dX5_addPuppet_22 : decode cX5_addPuppet 22 = .ok (.iconst 1, 1) := by decide +kernel
theorem dX5_addPuppet_23 : decode cX5_addPuppet 23 = .ok (.if_icmp .lt 8, 3) := by decide +kernel
theorem dX5_addPuppet_26 : decode cX5_addPuppet 26 = .ok (.iload_n 2, 1) := by decide +kernel
theorem dX5_addPuppet_27 : decode cX5_addPuppet 27 = .ok (.iconst 2, 1) := by decide +kernel
theorem dX5_addPuppet_28 : decode cX5_addPuppet 28 = .ok (.if_icmp .le 13, 3) := by decide +kernel
theorem dX5_addPuppet_31 : decode cX5_addPuppet 31 = .ok (.new 39, 3) := by decide +kernel
theorem dX5_addPuppet_34 : decode cX5_addPuppet 34 = .ok (.dup, 1) := by decide +kernel
theorem dX5_addPuppet_35 : decode cX5_addPuppet 35 = .ok (.ldc 46, 2) := by decide +kernel
theorem dX5_addPuppet_37 : decode cX5_addPuppet 37 = .ok (.invokespecial 43, 3) := by decide +kernel
theorem dX5_addPuppet_40 : decode cX5_addPuppet 40 = .ok (.athrow, 1) := by decide +kernel
theorem dX5_addPuppet_41 : decode cX5_addPuppet 41 = .ok (.aload_n 0, 1) := by decide +kernel
theorem dX5_addPuppet_42 : decode cX5_addPuppet 42 = .ok (.getfield 10, 3) := by decide +kernel
theorem dX5_addPuppet_45 : decode cX5_addPuppet 45 = .ok (.invokevirtual 48, 3) := by decide +kernel
theorem dX5_addPuppet_48 : decode cX5_addPuppet 48 = .ok (.bipush 8, 2) := by decide +kernel
theorem dX5_addPuppet_50 : decode cX5_addPuppet 50 = .ok (.if_icmp .lt 13, 3) := by decide +kernel
theorem dX5_addPuppet_53 : decode cX5_addPuppet 53 = .ok (.new 52, 3) := by decide +kernel
theorem dX5_addPuppet_56 : decode cX5_addPuppet 56 = .ok (.dup, 1) := by decide +kernel
theorem dX5_addPuppet_57 : decode cX5_addPuppet 57 = .ok (.ldc 54, 2) := by decide +kernel
theorem dX5_addPuppet_59 : decode cX5_addPuppet 59 = .ok (.invokespecial 56, 3) := by decide +kernel
theorem dX5_addPuppet_62 : decode cX5_addPuppet 62 = .ok (.athrow, 1) := by decide +kernel
theorem dX5_addPuppet_63 : decode cX5_addPuppet 63 = .ok (.aload_n 0, 1) := by decide +kernel
theorem dX5_addPuppet_64 : decode cX5_addPuppet 64 = .ok (.getfield 10, 3) := by decide +kernel
theorem dX5_addPuppet_67 : decode cX5_addPuppet 67 = .ok (.invokevirtual 48, 3) := by decide +kernel
theorem dX5_addPuppet_70 : decode cX5_addPuppet 70 = .ok (.istore_n 3, 1) := by decide +kernel
theorem dX5_addPuppet_71 : decode cX5_addPuppet 71 = .ok (.aload_n 0, 1) := by decide +kernel
theorem dX5_addPuppet_72 : decode cX5_addPuppet 72 = .ok (.getfield 10, 3) := by decide +kernel
theorem dX5_addPuppet_75 : decode cX5_addPuppet 75 = .ok (.new 57, 3) := by decide +kernel
theorem dX5_addPuppet_78 : decode cX5_addPuppet 78 = .ok (.dup, 1) := by decide +kernel
theorem dX5_addPuppet_79 : decode cX5_addPuppet 79 = .ok (.iload_n 3, 1) := by decide +kernel
theorem dX5_addPuppet_80 : decode cX5_addPuppet 80 = .ok (.iload_n 1, 1) := by decide +kernel
theorem dX5_addPuppet_81 : decode cX5_addPuppet 81 = .ok (.iload_n 2, 1) := by decide +kernel
theorem dX5_addPuppet_82 : decode cX5_addPuppet 82 = .ok (.invokespecial 59, 3) := by decide +kernel
theorem dX5_addPuppet_85 : decode cX5_addPuppet 85 = .ok (.invokevirtual 62, 3) := by decide +kernel
theorem dX5_addPuppet_88 : decode cX5_addPuppet 88 = .ok (.pop, 1) := by decide +kernel
theorem dX5_addPuppet_89 : decode cX5_addPuppet 89 = .ok (.iload_n 3, 1) := by decide +kernel
theorem dX5_addPuppet_90 : decode cX5_addPuppet 90 = .ok (.ireturn, 1) := by decide +kernel
theorem dX5_addPlayer_0 : decode cX5_addPlayer 0 = .ok (.iload_n 1, 1) := by decide +kernel
theorem dX5_addPlayer_1 : decode cX5_addPlayer 1 = .ok (.iconst 1, 1) := by decide +kernel
theorem dX5_addPlayer_2 : decode cX5_addPlayer 2 = .ok (.if_icmp .lt 9, 3) := by decide +kernel
theorem dX5_addPlayer_5 : decode cX5_addPlayer 5 = .ok (.iload_n 1, 1) := by decide +kernel
theorem dX5_addPlayer_6 : decode cX5_addPlayer 6 = .ok (.bipush 20, 2) := by decide +kernel
theorem dX5_addPlayer_8 : decode cX5_addPlayer 8 = .ok (.if_icmp .le 13, 3) := by decide +kernel
theorem dX5_addPlayer_11 : decode cX5_addPlayer 11 = .ok (.new 39, 3) := by decide +kernel
theorem dX5_addPlayer_14 : decode cX5_addPlayer 14 = .ok (.dup, 1) := by decide +kernel
theorem dX5_addPlayer_15 : decode cX5_addPlayer 15 = .ok (.ldc 66, 2) := by decide +kernel
theorem dX5_addPlayer_17 : decode cX5_addPlayer 17 = .ok (.invokespecial 43, 3) := by decide +kernel
theorem dX5_addPlayer_20 : decode cX5_addPlayer 20 = .ok (.athrow, 1) := by decide +kernel
theorem dX5_addPlayer_21 : decode cX5_addPlayer 21 = .ok (.iload_n 2, 1) := by decide +kernel
theorem dX5_addPlayer_22 : decode cX5_addPlayer 22 = .ok (.invokestatic 68, 3) := by decide +kernel
theorem dX5_addPlayer_25 : decode cX5_addPlayer 25 = .ok (.aload_n 0, 1) := by decide +kernel
theorem dX5_addPlayer_26 : decode cX5_addPlayer 26 = .ok (.getfield 16, 3) := by decide +kernel
theorem dX5_addPlayer_29 : decode cX5_addPlayer 29 = .ok (.invokevirtual 48, 3) := by decide +kernel
theorem dX5_addPlayer_32 : decode cX5_addPlayer 32 = .ok (.iconst 5, 1) := by decide +kernel
theorem dX5_addPlayer_33 : decode cX5_addPlayer 33 = .ok (.if_icmp .lt 13, 3) := by decide +kernel
theorem dX5_addPlayer_36 : decode cX5_addPlayer 36 = .ok (.new 52, 3) := by decide +kernel
theorem dX5_addPlayer_39 : decode cX5_addPlayer 39 = .ok (.dup, 1) := by decide +kernel
theorem dX5_addPlayer_40 : decode cX5_addPlayer 40 = .ok (.ldc 72, 2) := by decide +kernel
theorem dX5_addPlayer_42 : decode cX5_addPlayer 42 = .ok (.invokespecial 56, 3) := by decide +kernel
theorem dX5_addPlayer_45 : decode cX5_addPlayer 45 = .ok (.athrow, 1) := by decide +kernel
theorem dX5_addPlayer_46 : decode cX5_addPlayer 46 = .ok (.aload_n 0, 1) := by decide +kernel
theorem dX5_addPlayer_47 : decode cX5_addPlayer 47 = .ok (.getfield 16, 3) := by decide +kernel
theorem dX5_addPlayer_50 : decode cX5_addPlayer 50 = .ok (.invokevirtual 48, 3) := by decide +kernel
theorem dX5_addPlayer_53 : decode cX5_addPlayer 53 = .ok (.istore_n 3, 1) := by decide +kernel
theorem dX5_addPlayer_54 : decode cX5_addPlayer 54 = .ok (.aload_n 0, 1) := by decide +kernel
theorem dX5_addPlayer_55 : decode cX5_addPlayer 55 = .ok (.getfield 16, 3) := by decide +kernel
theorem dX5_addPlayer_58 : decode cX5_addPlayer 58 = .ok (.new 74, 3) := by decide +kernel
theorem dX5_addPlayer_61 : decode cX5_addPlayer 61 = .ok (.dup, 1) := by decide +kernel
theorem dX5_addPlayer_62 : decode cX5_addPlayer 62 = .ok (.iload_n 1, 1) := by decide +kernel
theorem dX5_addPlayer_63 : decode cX5_addPlayer 63 = .ok (.iload_n 2, 1) := by decide +kernel
theorem dX5_addPlayer_64 : decode cX5_addPlayer 64 = .ok (.invokespecial 76, 3) := by decide +kernel
theorem dX5_addPlayer_67 : decode cX5_addPlayer 67 = .ok (.invokevirtual 62, 3) := by decide +kernel
theorem dX5_addPlayer_70 : decode cX5_addPlayer 70 = .ok (.pop, 1) := by decide +kernel
theorem dX5_addPlayer_71 : decode cX5_addPlayer 71 = .ok (.aload_n 0, 1) := by decide +kernel
theorem dX5_addPlayer_72 : decode cX5_addPlayer 72 = .ok (.iconst 0, 1) := by decide +kernel
theorem dX5_addPlayer_73 : decode cX5_addPlayer 73 = .ok (.putfield 29, 3) := by decide +kernel
theorem dX5_addPlayer_76 : decode cX5_addPlayer 76 = .ok (.iload_n 3, 1) := by decide +kernel
theorem dX5_addPlayer_77 : decode cX5_addPlayer 77 = .ok (.ireturn, 1) := by decide +kernel
theorem dX5_enter_0 : decode cX5_enter 0 = .ok (.aload_n 0, 1) := by decide +kernel
theorem dX5_enter_1 : decode cX5_enter 1 = .ok (.iload_n 1, 1) := by decide +kernel
theorem dX5_enter_2 : decode cX5_enter 2 = .ok (.invokevirtual 79, 3) := by decide +kernel
theorem dX5_enter_5 : decode cX5_enter 5 = .ok (.astore 5, 2) := by decide +kernel
theorem dX5_enter_7 : decode cX5_enter 7 = .ok (.iload_n 2, 1) := by decide +kernel
theorem dX5_enter_8 : decode cX5_enter 8 = .ok (.invokestatic 83, 3) := by decide +kernel
theorem dX5_enter_11 : decode cX5_enter 11 = .ok (.iload_n 3, 1) := by decide +kernel
theorem dX5_enter_12 : decode cX5_enter 12 = .ok (.invokestatic 68, 3) := by decide +kernel
theorem dX5_enter_15 : decode cX5_enter 15 = .ok (.iload 4, 2) := by decide +kernel
theorem dX5_enter_17 : decode cX5_enter 17 = .ok (.invokestatic 86, 3) := by decide +kernel
theorem dX5_enter_20 : decode cX5_enter 20 = .ok (.aload_n 0, 1) := by decide +kernel
theorem dX5_enter_21 : decode cX5_enter 21 = .ok (.new 89, 3) := by decide +kernel
theorem dX5_enter_24 : decode cX5_enter 24 = .ok (.dup, 1) := by decide +kernel
theorem dX5_enter_25 : decode cX5_enter 25 = .ok (.iconst 0, 1) := by decide +kernel
theorem dX5_enter_26 : decode cX5_enter 26 = .ok (.aload 5, 2) := by decide +kernel
theorem dX5_enter_28 : decode cX5_enter 28 = .ok (.iload_n 2, 1) := by decide +kernel
theorem dX5_enter_29 : decode cX5_enter 29 = .ok (.iload_n 3, 1) := by decide +kernel
theorem dX5_enter_30 : decode cX5_enter 30 = .ok (.iload 4, 2) := by decide +kernel
theorem dX5_enter_32 : decode cX5_enter 32 = .ok (.invokespecial 91, 3) := by decide +kernel
theorem dX5_enter_35 : decode cX5_enter 35 = .ok (.invokevirtual 94, 3) := by decide +kernel
theorem dX5_enter_38 : decode cX5_enter 38 = .ok (.ireturn, 1) := by decide +kernel
theorem dX5_move_0 : decode cX5_move 0 = .ok (.aload_n 0, 1) := by decide +kernel
theorem dX5_move_1 : decode cX5_move 1 = .ok (.iload_n 1, 1) := by decide +kernel
theorem dX5_move_2 : decode cX5_move 2 = .ok (.invokevirtual 79, 3) := by decide +kernel
theorem dX5_move_5 : decode cX5_move 5 = .ok (.astore 4, 2) := by decide +kernel
theorem dX5_move_7 : decode cX5_move 7 = .ok (.iload_n 2, 1) := by decide +kernel
theorem dX5_move_8 : decode cX5_move 8 = .ok (.invokestatic 83, 3) := by decide +kernel
theorem dX5_move_11 : decode cX5_move 11 = .ok (.iload_n 3, 1) := by decide +kernel
theorem dX5_move_12 : decode cX5_move 12 = .ok (.invokestatic 68, 3) := by decide +kernel
theorem dX5_move_15 : decode cX5_move 15 = .ok (.aload_n 0, 1) := by decide +kernel
theorem dX5_move_16 : decode cX5_move 16 = .ok (.new 89, 3) := by decide +kernel
theorem dX5_move_19 : decode cX5_move 19 = .ok (.dup, 1) := by decide +kernel
theorem dX5_move_20 : decode cX5_move 20 = .ok (.iconst 1, 1) := by decide +kernel
theorem dX5_move_21 : decode cX5_move 21 = .ok (.aload 4, 2) := by decide +kernel
theorem dX5_move_23 : decode cX5_move 23 = .ok (.iload_n 2, 1) := by decide +kernel
theorem dX5_move_24 : decode cX5_move 24 = .ok (.iload_n 3, 1) := by decide +kernel
theorem dX5_move_25 : decode cX5_move 25 = .ok (.iconst (-1), 1) := by decide +kernel
theorem dX5_move_26 : decode cX5_move 26 = .ok (.invokespecial 91, 3) := by decide +kernel
theorem dX5_move_29 : decode cX5_move 29 = .ok (.invokevirtual 94, 3) := by decide +kernel
theorem dX5_move_32 : decode cX5_move 32 = .ok (.ireturn, 1) := by decide +kernel
theorem dX5_shift_0 : decode cX5_shift 0 = .ok (.aload_n 0, 1) := by decide +kernel
theorem dX5_shift_1 : decode cX5_shift 1 = .ok (.iload_n 1, 1) := by decide +kernel
theorem dX5_shift_2 : decode cX5_shift 2 = .ok (.invokevirtual 79, 3) := by decide +kernel
theorem dX5_shift_5 : decode cX5_shift 5 = .ok (.astore 4, 2) := by decide +kernel
theorem dX5_shift_7 : decode cX5_shift 7 = .ok (.iload_n 2, 1) := by decide +kernel
theorem dX5_shift_8 : decode cX5_shift 8 = .ok (.invokestatic 83, 3) := by decide +kernel
theorem dX5_shift_11 : decode cX5_shift 11 = .ok (.iload_n 3, 1) := by decide +kernel
theorem dX5_shift_12 : decode cX5_shift 12 = .ok (.invokestatic 86, 3) := by decide +kernel
theorem dX5_shift_15 : decode cX5_shift 15 = .ok (.aload_n 0, 1) := by decide +kernel
theorem dX5_shift_16 : decode cX5_shift 16 = .ok (.new 89, 3) := by decide +kernel
theorem dX5_shift_19 : decode cX5_shift 19 = .ok (.dup, 1) := by decide +kernel
theorem dX5_shift_20 : decode cX5_shift 20 = .ok (.iconst 2, 1) := by decide +kernel
theorem dX5_shift_21 : decode cX5_shift 21 = .ok (.aload 4, 2) := by decide +kernel
theorem dX5_shift_23 : decode cX5_shift 23 = .ok (.iload_n 2, 1) := by decide +kernel
theorem dX5_shift_24 : decode cX5_shift 24 = .ok (.iconst (-1), 1) := by decide +kernel
theorem dX5_shift_25 : decode cX5_shift 25 = .ok (.iload_n 3, 1) := by decide +kernel
theorem dX5_shift_26 : decode cX5_shift 26 = .ok (.invokespecial 91, 3) := by decide +kernel
theorem dX5_shift_29 : decode cX5_shift 29 = .ok (.invokevirtual 94, 3) := by decide +kernel
theorem dX5_shift_32 : decode cX5_shift 32 = .ok (.ireturn, 1) := by decide +kernel
theorem dX5_leave_0 : decode cX5_leave 0 = .ok (.aload_n 0, 1) := by decide +kernel
theorem dX5_leave_1 : decode cX5_leave 1 = .ok (.iload_n 1, 1) := by decide +kernel
theorem dX5_leave_2 : decode cX5_leave 2 = .ok (.invokevirtual 79, 3) := by decide +kernel
theorem dX5_leave_5 : decode cX5_leave 5 = .ok (.astore_n 3, 1) := by decide +kernel
theorem dX5_leave_6 : decode cX5_leave 6 = .ok (.iload_n 2, 1) := by decide +kernel
theorem dX5_leave_7 : decode cX5_leave 7 = .ok (.invokestatic 83, 3) := by decide +kernel
theorem dX5_leave_10 : decode cX5_leave 10 = .ok (.aload_n 0, 1) := by decide +kernel
theorem dX5_leave_11 : decode cX5_leave 11 = .ok (.new 89, 3) := by decide +kernel
theorem dX5_leave_14 : decode cX5_leave 14 = .ok (.dup, 1) := by decide +kernel
theorem dX5_leave_15 : decode cX5_leave 15 = .ok (.iconst 3, 1) := by decide +kernel
theorem dX5_leave_16 : decode cX5_leave 16 = .ok (.aload_n 3, 1) := by decide +kernel
theorem dX5_leave_17 : decode cX5_leave 17 = .ok (.iload_n 2, 1) := by decide +kernel
theorem dX5_leave_18 : decode cX5_leave 18 = .ok (.iconst (-1), 1) := by decide +kernel
theorem dX5_leave_19 : decode cX5_leave 19 = .ok (.iconst (-1), 1) := by decide +kernel
theorem dX5_leave_20 : decode cX5_leave 20 = .ok (.invokespecial 91, 3) := by decide +kernel
theorem dX5_leave_23 : decode cX5_leave 23 = .ok (.invokevirtual 94, 3) := by decide +kernel
theorem dX5_leave_26 : decode cX5_leave 26 = .ok (.ireturn, 1) := by decide +kernel
theorem dX5_strike_0 : decode cX5_strike 0 = .ok (.aload_n 0, 1) := by decide +kernel
theorem dX5_strike_1 : decode cX5_strike 1 = .ok (.iload_n 1, 1) := by decide +kernel
theorem dX5_strike_2 : decode cX5_strike 2 = .ok (.invokevirtual 98, 3) := by decide +kernel
theorem dX5_strike_5 : decode cX5_strike 5 = .ok (.astore_n 2, 1) := by decide +kernel
theorem dX5_strike_6 : decode cX5_strike 6 = .ok (.aload_n 2, 1) := by decide +kernel
theorem dX5_strike_7 : decode cX5_strike 7 = .ok (.getfield 102, 3) := by decide +kernel
theorem dX5_strike_10 : decode cX5_strike 10 = .ok (.aload_n 2, 1) := by decide +kernel
theorem dX5_strike_11 : decode cX5_strike 11 = .ok (.invokevirtual 106, 3) := by decide +kernel
theorem dX5_strike_14 : decode cX5_strike 14 = .ok (.ifCond .ne 13, 3) := by decide +kernel
theorem dX5_strike_17 : decode cX5_strike 17 = .ok (.new 52, 3) := by decide +kernel
theorem dX5_strike_20 : decode cX5_strike 20 = .ok (.dup, 1) := by decide +kernel
theorem dX5_strike_21 : decode cX5_strike 21 = .ok (.ldc 110, 2) := by decide +kernel
theorem dX5_strike_23 : decode cX5_strike 23 = .ok (.invokespecial 56, 3) := by decide +kernel
theorem dX5_strike_26 : decode cX5_strike 26 = .ok (.athrow, 1) := by decide +kernel
theorem dX5_strike_27 : decode cX5_strike 27 = .ok (.aload_n 2, 1) := by decide +kernel
theorem dX5_strike_28 : decode cX5_strike 28 = .ok (.iconst 1, 1) := by decide +kernel
theorem dX5_strike_29 : decode cX5_strike 29 = .ok (.putfield 112, 3) := by decide +kernel
theorem dX5_strike_32 : decode cX5_strike 32 = .ok (.aload_n 0, 1) := by decide +kernel
theorem dX5_strike_33 : decode cX5_strike 33 = .ok (.dup, 1) := by decide +kernel
theorem dX5_strike_34 : decode cX5_strike 34 = .ok (.getfield 25, 3) := by decide +kernel
theorem dX5_strike_37 : decode cX5_strike 37 = .ok (.iconst 1, 1) := by decide +kernel
theorem dX5_strike_38 : decode cX5_strike 38 = .ok (.iadd, 1) := by decide +kernel
theorem dX5_strike_39 : decode cX5_strike 39 = .ok (.putfield 25, 3) := by decide +kernel
theorem dX5_strike_42 : decode cX5_strike 42 = .ok (.aload_n 0, 1) := by decide +kernel
theorem dX5_strike_43 : decode cX5_strike 43 = .ok (.invokevirtual 115, 3) := by decide +kernel
theorem dX5_strike_46 : decode cX5_strike 46 = .ok (.aload_n 2, 1) := by decide +kernel
theorem dX5_strike_47 : decode cX5_strike 47 = .ok (.getfield 102, 3) := by decide +kernel
theorem dX5_strike_50 : decode cX5_strike 50 = .ok (.getfield 118, 3) := by decide +kernel
theorem dX5_strike_53 : decode cX5_strike 53 = .ok (.invokevirtual 48, 3) := by decide +kernel
theorem dX5_strike_56 : decode cX5_strike 56 = .ok (.ireturn, 1) := by decide +kernel
theorem dX5_count_0 : decode cX5_count 0 = .ok (.iload_n 1, 1) := by decide +kernel
theorem dX5_count_1 : decode cX5_count 1 = .ok (.tableswitch 60 0 3 #[31, 39, 47, 55], 31) := by decide +kernel
theorem dX5_count_32 : decode cX5_count 32 = .ok (.aload_n 0, 1) := by decide +kernel
theorem dX5_count_33 : decode cX5_count 33 = .ok (.getfield 10, 3) := by decide +kernel
theorem dX5_count_36 : decode cX5_count 36 = .ok (.invokevirtual 48, 3) := by decide +kernel
theorem dX5_count_39 : decode cX5_count 39 = .ok (.ireturn, 1) := by decide +kernel
theorem dX5_count_40 : decode cX5_count 40 = .ok (.aload_n 0, 1) := by decide +kernel
theorem dX5_count_41 : decode cX5_count 41 = .ok (.getfield 16, 3) := by decide +kernel
theorem dX5_count_44 : decode cX5_count 44 = .ok (.invokevirtual 48, 3) := by decide +kernel
theorem dX5_count_47 : decode cX5_count 47 = .ok (.ireturn, 1) := by decide +kernel
theorem dX5_count_48 : decode cX5_count 48 = .ok (.aload_n 0, 1) := by decide +kernel
theorem dX5_count_49 : decode cX5_count 49 = .ok (.getfield 19, 3) := by decide +kernel
theorem dX5_count_52 : decode cX5_count 52 = .ok (.invokevirtual 48, 3) := by decide +kernel
theorem dX5_count_55 : decode cX5_count 55 = .ok (.ireturn, 1) := by decide +kernel
theorem dX5_count_56 : decode cX5_count 56 = .ok (.aload_n 0, 1) := by decide +kernel
theorem dX5_count_57 : decode cX5_count 57 = .ok (.getfield 25, 3) := by decide +kernel
theorem dX5_count_60 : decode cX5_count 60 = .ok (.ireturn, 1) := by decide +kernel
theorem dX5_count_61 : decode cX5_count 61 = .ok (.new 121, 3) := by decide +kernel
theorem dX5_count_64 : decode cX5_count 64 = .ok (.dup, 1) := by decide +kernel
theorem dX5_count_65 : decode cX5_count 65 = .ok (.ldc 123, 2) := by decide +kernel
theorem dX5_count_67 : decode cX5_count 67 = .ok (.invokespecial 125, 3) := by decide +kernel
theorem dX5_count_70 : decode cX5_count 70 = .ok (.athrow, 1) := by decide +kernel
theorem dX5_cue_0 : decode cX5_cue 0 = .ok (.aload_n 0, 1) := by decide +kernel
theorem dX5_cue_1 : decode cX5_cue 1 = .ok (.iload_n 1, 1) := by decide +kernel
theorem dX5_cue_2 : decode cX5_cue 2 = .ok (.invokevirtual 98, 3) := by decide +kernel
theorem dX5_cue_5 : decode cX5_cue 5 = .ok (.iload_n 2, 1) := by decide +kernel
theorem dX5_cue_6 : decode cX5_cue 6 = .ok (.invokestatic 126, 3) := by decide +kernel
theorem dX5_cue_9 : decode cX5_cue 9 = .ok (.ireturn, 1) := by decide +kernel
theorem dX5_place_0 : decode cX5_place 0 = .ok (.aload_n 0, 1) := by decide +kernel
theorem dX5_place_1 : decode cX5_place 1 = .ok (.iload_n 1, 1) := by decide +kernel
theorem dX5_place_2 : decode cX5_place 2 = .ok (.invokevirtual 79, 3) := by decide +kernel
theorem dX5_place_5 : decode cX5_place 5 = .ok (.astore_n 3, 1) := by decide +kernel
theorem dX5_place_6 : decode cX5_place 6 = .ok (.iload_n 2, 1) := by decide +kernel
theorem dX5_place_7 : decode cX5_place 7 = .ok (.invokestatic 83, 3) := by decide +kernel
theorem dX5_place_10 : decode cX5_place 10 = .ok (.aload_n 3, 1) := by decide +kernel
theorem dX5_place_11 : decode cX5_place 11 = .ok (.getfield 130, 3) := by decide +kernel
theorem dX5_place_14 : decode cX5_place 14 = .ok (.iload_n 2, 1) := by decide +kernel
theorem dX5_place_15 : decode cX5_place 15 = .ok (.iaload, 1) := by decide +kernel
theorem dX5_place_16 : decode cX5_place 16 = .ok (.ireturn, 1) := by decide +kernel
theorem dX5_track_0 : decode cX5_track 0 = .ok (.aload_n 0, 1) := by decide +kernel
theorem dX5_track_1 : decode cX5_track 1 = .ok (.iload_n 1, 1) := by decide +kernel
theorem dX5_track_2 : decode cX5_track 2 = .ok (.invokevirtual 79, 3) := by decide +kernel
theorem dX5_track_5 : decode cX5_track 5 = .ok (.astore_n 3, 1) := by decide +kernel
theorem dX5_track_6 : decode cX5_track 6 = .ok (.iload_n 2, 1) := by decide +kernel
theorem dX5_track_7 : decode cX5_track 7 = .ok (.invokestatic 83, 3) := by decide +kernel
theorem dX5_track_10 : decode cX5_track 10 = .ok (.aload_n 3, 1) := by decide +kernel
theorem dX5_track_11 : decode cX5_track 11 = .ok (.getfield 134, 3) := by decide +kernel
theorem dX5_track_14 : decode cX5_track 14 = .ok (.iload_n 2, 1) := by decide +kernel
theorem dX5_track_15 : decode cX5_track 15 = .ok (.iaload, 1) := by decide +kernel
theorem dX5_track_16 : decode cX5_track 16 = .ok (.ireturn, 1) := by decide +kernel
theorem dX5_onStage_0 : decode cX5_onStage 0 = .ok (.iload_n 1, 1) := by decide +kernel
theorem dX5_onStage_1 : decode cX5_onStage 1 = .ok (.invokestatic 83, 3) := by decide +kernel
theorem dX5_onStage_4 : decode cX5_onStage 4 = .ok (.iconst 0, 1) := by decide +kernel
theorem dX5_onStage_5 : decode cX5_onStage 5 = .ok (.istore_n 2, 1) := by decide +kernel
theorem dX5_onStage_6 : decode cX5_onStage 6 = .ok (.iconst 0, 1) := by decide +kernel
theorem dX5_onStage_7 : decode cX5_onStage 7 = .ok (.istore_n 3, 1) := by decide +kernel
theorem dX5_onStage_8 : decode cX5_onStage 8 = .ok (.iload_n 3, 1) := by decide +kernel
theorem dX5_onStage_9 : decode cX5_onStage 9 = .ok (.aload_n 0, 1) := by decide +kernel
theorem dX5_onStage_10 : decode cX5_onStage 10 = .ok (.getfield 10, 3) := by decide +kernel
theorem dX5_onStage_13 : decode cX5_onStage 13 = .ok (.invokevirtual 48, 3) := by decide +kernel
theorem dX5_onStage_16 : decode cX5_onStage 16 = .ok (.if_icmp .ge 41, 3) := by decide +kernel
theorem dX5_onStage_19 : decode cX5_onStage 19 = .ok (.aload_n 0, 1) := by decide +kernel
theorem dX5_onStage_20 : decode cX5_onStage 20 = .ok (.getfield 10, 3) := by decide +kernel
theorem dX5_onStage_23 : decode cX5_onStage 23 = .ok (.iload_n 3, 1) := by decide +kernel
theorem dX5_onStage_24 : decode cX5_onStage 24 = .ok (.invokevirtual 137, 3) := by decide +kernel
theorem dX5_onStage_27 : decode cX5_onStage 27 = .ok (.checkcast 57, 3) := by decide +kernel
theorem dX5_onStage_30 : decode cX5_onStage 30 = .ok (.astore 4, 2) := by decide +kernel
theorem dX5_onStage_32 : decode cX5_onStage 32 = .ok (.aload 4, 2) := by decide +kernel
theorem dX5_onStage_34 : decode cX5_onStage 34 = .ok (.getfield 130, 3) := by decide +kernel
theorem dX5_onStage_37 : decode cX5_onStage 37 = .ok (.iload_n 1, 1) := by decide +kernel
theorem dX5_onStage_38 : decode cX5_onStage 38 = .ok (.iaload, 1) := by decide +kernel
theorem dX5_onStage_39 : decode cX5_onStage 39 = .ok (.iconst (-1), 1) := by decide +kernel
theorem dX5_onStage_40 : decode cX5_onStage 40 = .ok (.if_icmp .eq 11, 3) := by decide +kernel
theorem dX5_onStage_43 : decode cX5_onStage 43 = .ok (.iload_n 2, 1) := by decide +kernel
theorem dX5_onStage_44 : decode cX5_onStage 44 = .ok (.aload 4, 2) := by decide +kernel
theorem dX5_onStage_46 : decode cX5_onStage 46 = .ok (.getfield 141, 3) := by decide +kernel
theorem dX5_onStage_49 : decode cX5_onStage 49 = .ok (.ior, 1) := by decide +kernel
theorem dX5_onStage_50 : decode cX5_onStage 50 = .ok (.istore_n 2, 1) := by decide +kernel
theorem dX5_onStage_51 : decode cX5_onStage 51 = .ok (.iinc 3 1, 3) := by decide +kernel
theorem dX5_onStage_54 : decode cX5_onStage 54 = .ok (.goto (-46), 3) := by decide +kernel
theorem dX5_onStage_57 : decode cX5_onStage 57 = .ok (.iload_n 2, 1) := by decide +kernel
theorem dX5_onStage_58 : decode cX5_onStage 58 = .ok (.ireturn, 1) := by decide +kernel
theorem dX5_clash_0 : decode cX5_clash 0 = .ok (.aload_n 0, 1) := by decide +kernel
theorem dX5_clash_1 : decode cX5_clash 1 = .ok (.iload_n 1, 1) := by decide +kernel
theorem dX5_clash_2 : decode cX5_clash 2 = .ok (.invokevirtual 79, 3) := by decide +kernel
theorem dX5_clash_5 : decode cX5_clash 5 = .ok (.astore_n 3, 1) := by decide +kernel
theorem dX5_clash_6 : decode cX5_clash 6 = .ok (.aload_n 0, 1) := by decide +kernel
theorem dX5_clash_7 : decode cX5_clash 7 = .ok (.iload_n 2, 1) := by decide +kernel
theorem dX5_clash_8 : decode cX5_clash 8 = .ok (.invokevirtual 79, 3) := by decide +kernel
theorem dX5_clash_11 : decode cX5_clash 11 = .ok (.astore 4, 2) := by decide +kernel
theorem dX5_clash_13 : decode cX5_clash 13 = .ok (.iload_n 1, 1) := by decide +kernel
theorem dX5_clash_14 : decode cX5_clash 14 = .ok (.iload_n 2, 1) := by decide +kernel
theorem dX5_clash_15 : decode cX5_clash 15 = .ok (.if_icmp .ne 13, 3) := by decide +kernel
theorem dX5_clash_18 : decode cX5_clash 18 = .ok (.new 39, 3) := by decide +kernel
theorem dX5_clash_21 : decode cX5_clash 21 = .ok (.dup, 1) := by decide +kernel
theorem dX5_clash_22 : decode cX5_clash 22 = .ok (.ldc 144, 2) := by decide +kernel
theorem dX5_clash_24 : decode cX5_clash 24 = .ok (.invokespecial 43, 3) := by decide +kernel
theorem dX5_clash_27 : decode cX5_clash 27 = .ok (.athrow, 1) := by decide +kernel
theorem dX5_clash_28 : decode cX5_clash 28 = .ok (.aload_n 3, 1) := by decide +kernel
theorem dX5_clash_29 : decode cX5_clash 29 = .ok (.aload 4, 2) := by decide +kernel
theorem dX5_clash_31 : decode cX5_clash 31 = .ok (.invokestatic 146, 3) := by decide +kernel
theorem dX5_clash_34 : decode cX5_clash 34 = .ok (.ireturn, 1) := by decide +kernel
theorem dX5_clashes_0 : decode cX5_clashes 0 = .ok (.aload_n 0, 1) := by decide +kernel
theorem dX5_clashes_1 : decode cX5_clashes 1 = .ok (.getfield 33, 3) := by decide +kernel
theorem dX5_clashes_4 : decode cX5_clashes 4 = .ok (.ifCond .ne 16, 3) := by decide +kernel
theorem dX5_clashes_7 : decode cX5_clashes 7 = .ok (.aload_n 0, 1) := by decide +kernel
theorem dX5_clashes_8 : decode cX5_clashes 8 = .ok (.aload_n 0, 1) := by decide +kernel
theorem dX5_clashes_9 : decode cX5_clashes 9 = .ok (.invokevirtual 150, 3) := by decide +kernel
theorem dX5_clashes_12 : decode cX5_clashes 12 = .ok (.putfield 36, 3) := by decide +kernel
theorem dX5_clashes_15 : decode cX5_clashes 15 = .ok (.aload_n 0, 1) := by decide +kernel
theorem dX5_clashes_16 : decode cX5_clashes 16 = .ok (.iconst 1, 1) := by decide +kernel
theorem dX5_clashes_17 : decode cX5_clashes 17 = .ok (.putfield 33, 3) := by decide +kernel
theorem dX5_clashes_20 : decode cX5_clashes 20 = .ok (.aload_n 0, 1) := by decide +kernel
theorem dX5_clashes_21 : decode cX5_clashes 21 = .ok (.getfield 36, 3) := by decide +kernel
theorem dX5_clashes_24 : decode cX5_clashes 24 = .ok (.ireturn, 1) := by decide +kernel
theorem dX5_beats_0 : decode cX5_beats 0 = .ok (.aload_n 0, 1) := by decide +kernel
theorem dX5_beats_1 : decode cX5_beats 1 = .ok (.iload_n 1, 1) := by decide +kernel
theorem dX5_beats_2 : decode cX5_beats 2 = .ok (.invokevirtual 79, 3) := by decide +kernel
theorem dX5_beats_5 : decode cX5_beats 5 = .ok (.getfield 153, 3) := by decide +kernel
theorem dX5_beats_8 : decode cX5_beats 8 = .ok (.astore_n 2, 1) := by decide +kernel
theorem dX5_beats_9 : decode cX5_beats 9 = .ok (.iconst 0, 1) := by decide +kernel
theorem dX5_beats_10 : decode cX5_beats 10 = .ok (.istore_n 3, 1) := by decide +kernel
theorem dX5_beats_11 : decode cX5_beats 11 = .ok (.iconst 0, 1) := by decide +kernel
theorem dX5_beats_12 : decode cX5_beats 12 = .ok (.istore 4, 2) := by decide +kernel
theorem dX5_beats_14 : decode cX5_beats 14 = .ok (.iload 4, 2) := by decide +kernel
theorem dX5_beats_16 : decode cX5_beats 16 = .ok (.aload_n 2, 1) := by decide +kernel
theorem dX5_beats_17 : decode cX5_beats 17 = .ok (.invokevirtual 48, 3) := by decide +kernel
theorem dX5_beats_20 : decode cX5_beats 20 = .ok (.if_icmp .ge 34, 3) := by decide +kernel
theorem dX5_beats_23 : decode cX5_beats 23 = .ok (.aload_n 2, 1) := by decide +kernel
theorem dX5_beats_24 : decode cX5_beats 24 = .ok (.iload 4, 2) := by decide +kernel
theorem dX5_beats_26 : decode cX5_beats 26 = .ok (.invokevirtual 137, 3) := by decide +kernel
theorem dX5_beats_29 : decode cX5_beats 29 = .ok (.checkcast 156, 3) := by decide +kernel
theorem dX5_beats_32 : decode cX5_beats 32 = .ok (.astore 5, 2) := by decide +kernel
theorem dX5_beats_34 : decode cX5_beats 34 = .ok (.iload_n 3, 1) := by decide +kernel
theorem dX5_beats_35 : decode cX5_beats 35 = .ok (.aload 5, 2) := by decide +kernel
theorem dX5_beats_37 : decode cX5_beats 37 = .ok (.getfield 158, 3) := by decide +kernel
theorem dX5_beats_40 : decode cX5_beats 40 = .ok (.aload 5, 2) := by decide +kernel
theorem dX5_beats_42 : decode cX5_beats 42 = .ok (.getfield 161, 3) := by decide +kernel
theorem dX5_beats_45 : decode cX5_beats 45 = .ok (.isub, 1) := by decide +kernel
theorem dX5_beats_46 : decode cX5_beats 46 = .ok (.iadd, 1) := by decide +kernel
theorem dX5_beats_47 : decode cX5_beats 47 = .ok (.istore_n 3, 1) := by decide +kernel
theorem dX5_beats_48 : decode cX5_beats 48 = .ok (.iinc 4 1, 3) := by decide +kernel
theorem dX5_beats_51 : decode cX5_beats 51 = .ok (.goto (-37), 3) := by decide +kernel
theorem dX5_beats_54 : decode cX5_beats 54 = .ok (.iload_n 3, 1) := by decide +kernel
theorem dX5_beats_55 : decode cX5_beats 55 = .ok (.ireturn, 1) := by decide +kernel
theorem dX5_stays_0 : decode cX5_stays 0 = .ok (.aload_n 0, 1) := by decide +kernel
theorem dX5_stays_1 : decode cX5_stays 1 = .ok (.iload_n 1, 1) := by decide +kernel
theorem dX5_stays_2 : decode cX5_stays 2 = .ok (.invokevirtual 79, 3) := by decide +kernel
theorem dX5_stays_5 : decode cX5_stays 5 = .ok (.getfield 153, 3) := by decide +kernel
theorem dX5_stays_8 : decode cX5_stays 8 = .ok (.invokevirtual 48, 3) := by decide +kernel
theorem dX5_stays_11 : decode cX5_stays 11 = .ok (.ireturn, 1) := by decide +kernel
theorem dX5_stay_0 : decode cX5_stay 0 = .ok (.aload_n 0, 1) := by decide +kernel
theorem dX5_stay_1 : decode cX5_stay 1 = .ok (.iload_n 1, 1) := by decide +kernel
theorem dX5_stay_2 : decode cX5_stay 2 = .ok (.invokevirtual 79, 3) := by decide +kernel
theorem dX5_stay_5 : decode cX5_stay 5 = .ok (.getfield 153, 3) := by decide +kernel
theorem dX5_stay_8 : decode cX5_stay 8 = .ok (.astore 4, 2) := by decide +kernel
theorem dX5_stay_10 : decode cX5_stay 10 = .ok (.iload_n 2, 1) := by decide +kernel
theorem dX5_stay_11 : decode cX5_stay 11 = .ok (.ifCond .lt 12, 3) := by decide +kernel
theorem dX5_stay_14 : decode cX5_stay 14 = .ok (.iload_n 2, 1) := by decide +kernel
theorem dX5_stay_15 : decode cX5_stay 15 = .ok (.aload 4, 2) := by decide +kernel
theorem dX5_stay_17 : decode cX5_stay 17 = .ok (.invokevirtual 48, 3) := by decide +kernel
theorem dX5_stay_20 : decode cX5_stay 20 = .ok (.if_icmp .lt 13, 3) := by decide +kernel
theorem dX5_stay_23 : decode cX5_stay 23 = .ok (.new 121, 3) := by decide +kernel
theorem dX5_stay_26 : decode cX5_stay 26 = .ok (.dup, 1) := by decide +kernel
theorem dX5_stay_27 : decode cX5_stay 27 = .ok (.ldc 164, 2) := by decide +kernel
theorem dX5_stay_29 : decode cX5_stay 29 = .ok (.invokespecial 125, 3) := by decide +kernel
theorem dX5_stay_32 : decode cX5_stay 32 = .ok (.athrow, 1) := by decide +kernel
theorem dX5_stay_33 : decode cX5_stay 33 = .ok (.aload_n 0, 1) := by decide +kernel
theorem dX5_stay_34 : decode cX5_stay 34 = .ok (.invokevirtual 166, 3) := by decide +kernel
theorem dX5_stay_37 : decode cX5_stay 37 = .ok (.aload 4, 2) := by decide +kernel
theorem dX5_stay_39 : decode cX5_stay 39 = .ok (.iload_n 2, 1) := by decide +kernel
theorem dX5_stay_40 : decode cX5_stay 40 = .ok (.invokevirtual 137, 3) := by decide +kernel
theorem dX5_stay_43 : decode cX5_stay 43 = .ok (.checkcast 156, 3) := by decide +kernel
theorem dX5_stay_46 : decode cX5_stay 46 = .ok (.iload_n 3, 1) := by decide +kernel
theorem dX5_stay_47 : decode cX5_stay 47 = .ok (.invokestatic 169, 3) := by decide +kernel
theorem dX5_stay_50 : decode cX5_stay 50 = .ok (.ireturn, 1) := by decide +kernel
theorem dX5_uncast_0 : decode cX5_uncast 0 = .ok (.aload_n 0, 1) := by decide +kernel
theorem dX5_uncast_1 : decode cX5_uncast 1 = .ok (.invokevirtual 166, 3) := by decide +kernel
theorem dX5_uncast_4 : decode cX5_uncast 4 = .ok (.iconst 0, 1) := by decide +kernel
theorem dX5_uncast_5 : decode cX5_uncast 5 = .ok (.istore_n 1, 1) := by decide +kernel
theorem dX5_uncast_6 : decode cX5_uncast 6 = .ok (.iconst 0, 1) := by decide +kernel
theorem dX5_uncast_7 : decode cX5_uncast 7 = .ok (.istore_n 2, 1) := by decide +kernel
theorem dX5_uncast_8 : decode cX5_uncast 8 = .ok (.iload_n 2, 1) := by decide +kernel
theorem dX5_uncast_9 : decode cX5_uncast 9 = .ok (.aload_n 0, 1) := by decide +kernel
theorem dX5_uncast_10 : decode cX5_uncast 10 = .ok (.getfield 22, 3) := by decide +kernel
theorem dX5_uncast_13 : decode cX5_uncast 13 = .ok (.invokevirtual 48, 3) := by decide +kernel
theorem dX5_uncast_16 : decode cX5_uncast 16 = .ok (.if_icmp .ge 30, 3) := by decide +kernel
theorem dX5_uncast_19 : decode cX5_uncast 19 = .ok (.aload_n 0, 1) := by decide +kernel
theorem dX5_uncast_20 : decode cX5_uncast 20 = .ok (.getfield 22, 3) := by decide +kernel
theorem dX5_uncast_23 : decode cX5_uncast 23 = .ok (.iload_n 2, 1) := by decide +kernel
theorem dX5_uncast_24 : decode cX5_uncast 24 = .ok (.invokevirtual 137, 3) := by decide +kernel
theorem dX5_uncast_27 : decode cX5_uncast 27 = .ok (.checkcast 156, 3) := by decide +kernel
theorem dX5_uncast_30 : decode cX5_uncast 30 = .ok (.getfield 173, 3) := by decide +kernel
theorem dX5_uncast_33 : decode cX5_uncast 33 = .ok (.iconst (-1), 1) := by decide +kernel
theorem dX5_uncast_34 : decode cX5_uncast 34 = .ok (.if_icmp .ne 6, 3) := by decide +kernel
theorem dX5_uncast_37 : decode cX5_uncast 37 = .ok (.iinc 1 1, 3) := by decide +kernel
theorem dX5_uncast_40 : decode cX5_uncast 40 = .ok (.iinc 2 1, 3) := by decide +kernel
theorem dX5_uncast_43 : decode cX5_uncast 43 = .ok (.goto (-35), 3) := by decide +kernel
theorem dX5_uncast_46 : decode cX5_uncast 46 = .ok (.iload_n 1, 1) := by decide +kernel
theorem dX5_uncast_47 : decode cX5_uncast 47 = .ok (.ireturn, 1) := by decide +kernel
theorem dX5_hands_0 : decode cX5_hands 0 = .ok (.aload_n 0, 1) := by decide +kernel
theorem dX5_hands_1 : decode cX5_hands 1 = .ok (.iload_n 1, 1) := by decide +kernel
theorem dX5_hands_2 : decode cX5_hands 2 = .ok (.invokevirtual 176, 3) := by decide +kernel
theorem dX5_hands_5 : decode cX5_hands 5 = .ok (.astore_n 3, 1) := by decide +kernel
theorem dX5_hands_6 : decode cX5_hands 6 = .ok (.iload_n 2, 1) := by decide +kernel
theorem dX5_hands_7 : decode cX5_hands 7 = .ok (.invokestatic 83, 3) := by decide +kernel
theorem dX5_hands_10 : decode cX5_hands 10 = .ok (.aload_n 0, 1) := by decide +kernel
theorem dX5_hands_11 : decode cX5_hands 11 = .ok (.invokevirtual 166, 3) := by decide +kernel
theorem dX5_hands_14 : decode cX5_hands 14 = .ok (.aload_n 3, 1) := by decide +kernel
theorem dX5_hands_15 : decode cX5_hands 15 = .ok (.getfield 180, 3) := by decide +kernel
theorem dX5_hands_18 : decode cX5_hands 18 = .ok (.iload_n 2, 1) := by decide +kernel
theorem dX5_hands_19 : decode cX5_hands 19 = .ok (.iaload, 1) := by decide +kernel
theorem dX5_hands_20 : decode cX5_hands 20 = .ok (.ireturn, 1) := by decide +kernel
theorem dX5_load_0 : decode cX5_load 0 = .ok (.aload_n 0, 1) := by decide +kernel
theorem dX5_load_1 : decode cX5_load 1 = .ok (.iload_n 1, 1) := by decide +kernel
theorem dX5_load_2 : decode cX5_load 2 = .ok (.invokevirtual 176, 3) := by decide +kernel
theorem dX5_load_5 : decode cX5_load 5 = .ok (.astore_n 2, 1) := by decide +kernel
theorem dX5_load_6 : decode cX5_load 6 = .ok (.aload_n 0, 1) := by decide +kernel
theorem dX5_load_7 : decode cX5_load 7 = .ok (.invokevirtual 166, 3) := by decide +kernel
theorem dX5_load_10 : decode cX5_load 10 = .ok (.aload_n 2, 1) := by decide +kernel
theorem dX5_load_11 : decode cX5_load 11 = .ok (.invokevirtual 183, 3) := by decide +kernel
theorem dX5_load_14 : decode cX5_load 14 = .ok (.ireturn, 1) := by decide +kernel
theorem dX5_note_0 : decode cX5_note 0 = .ok (.aload_n 0, 1) := by decide +kernel
theorem dX5_note_1 : decode cX5_note 1 = .ok (.iload_n 1, 1) := by decide +kernel
theorem dX5_note_2 : decode cX5_note 2 = .ok (.invokevirtual 98, 3) := by decide +kernel
theorem dX5_note_5 : decode cX5_note 5 = .ok (.astore_n 3, 1) := by decide +kernel
theorem dX5_note_6 : decode cX5_note 6 = .ok (.iload_n 2, 1) := by decide +kernel
theorem dX5_note_7 : decode cX5_note 7 = .ok (.bipush (-50), 2) := by decide +kernel
theorem dX5_note_9 : decode cX5_note 9 = .ok (.if_icmp .lt 9, 3) := by decide +kernel
theorem dX5_note_12 : decode cX5_note 12 = .ok (.iload_n 2, 1) := by decide +kernel
theorem dX5_note_13 : decode cX5_note 13 = .ok (.bipush 50, 2) := by decide +kernel
theorem dX5_note_15 : decode cX5_note 15 = .ok (.if_icmp .le 13, 3) := by decide +kernel
theorem dX5_note_18 : decode cX5_note 18 = .ok (.new 39, 3) := by decide +kernel
theorem dX5_note_21 : decode cX5_note 21 = .ok (.dup, 1) := by decide +kernel
theorem dX5_note_22 : decode cX5_note 22 = .ok (.ldc 186, 2) := by decide +kernel
theorem dX5_note_24 : decode cX5_note 24 = .ok (.invokespecial 43, 3) := by decide +kernel
theorem dX5_note_27 : decode cX5_note 27 = .ok (.athrow, 1) := by decide +kernel
theorem dX5_note_28 : decode cX5_note 28 = .ok (.aload_n 3, 1) := by decide +kernel
theorem dX5_note_29 : decode cX5_note 29 = .ok (.getfield 188, 3) := by decide +kernel
theorem dX5_note_32 : decode cX5_note 32 = .ok (.bipush 20, 2) := by decide +kernel
theorem dX5_note_34 : decode cX5_note 34 = .ok (.if_icmp .lt 13, 3) := by decide +kernel
theorem dX5_note_37 : decode cX5_note 37 = .ok (.new 52, 3) := by decide +kernel
theorem dX5_note_40 : decode cX5_note 40 = .ok (.dup, 1) := by decide +kernel
theorem dX5_note_41 : decode cX5_note 41 = .ok (.ldc 191, 2) := by decide +kernel
theorem dX5_note_43 : decode cX5_note 43 = .ok (.invokespecial 56, 3) := by decide +kernel
theorem dX5_note_46 : decode cX5_note 46 = .ok (.athrow, 1) := by decide +kernel
theorem dX5_note_47 : decode cX5_note 47 = .ok (.aload_n 3, 1) := by decide +kernel
theorem dX5_note_48 : decode cX5_note 48 = .ok (.dup, 1) := by decide +kernel
theorem dX5_note_49 : decode cX5_note 49 = .ok (.getfield 188, 3) := by decide +kernel
theorem dX5_note_52 : decode cX5_note 52 = .ok (.iconst 1, 1) := by decide +kernel
theorem dX5_note_53 : decode cX5_note 53 = .ok (.iadd, 1) := by decide +kernel
theorem dX5_note_54 : decode cX5_note 54 = .ok (.putfield 188, 3) := by decide +kernel
theorem dX5_note_57 : decode cX5_note 57 = .ok (.aload_n 3, 1) := by decide +kernel
theorem dX5_note_58 : decode cX5_note 58 = .ok (.dup, 1) := by decide +kernel
theorem dX5_note_59 : decode cX5_note 59 = .ok (.getfield 193, 3) := by decide +kernel
theorem dX5_note_62 : decode cX5_note 62 = .ok (.iload_n 2, 1) := by decide +kernel
theorem dX5_note_63 : decode cX5_note 63 = .ok (.iadd, 1) := by decide +kernel
theorem dX5_note_64 : decode cX5_note 64 = .ok (.putfield 193, 3) := by decide +kernel
theorem dX5_note_67 : decode cX5_note 67 = .ok (.aload_n 3, 1) := by decide +kernel
theorem dX5_note_68 : decode cX5_note 68 = .ok (.dup, 1) := by decide +kernel
theorem dX5_note_69 : decode cX5_note 69 = .ok (.getfield 196, 3) := by decide +kernel
theorem dX5_note_72 : decode cX5_note 72 = .ok (.iload_n 2, 1) := by decide +kernel
theorem dX5_note_73 : decode cX5_note 73 = .ok (.invokestatic 199, 3) := by decide +kernel
theorem dX5_note_76 : decode cX5_note 76 = .ok (.iadd, 1) := by decide +kernel
theorem dX5_note_77 : decode cX5_note 77 = .ok (.putfield 196, 3) := by decide +kernel
theorem dX5_note_80 : decode cX5_note 80 = .ok (.aload_n 3, 1) := by decide +kernel
theorem dX5_note_81 : decode cX5_note 81 = .ok (.getfield 188, 3) := by decide +kernel
theorem dX5_note_84 : decode cX5_note 84 = .ok (.ireturn, 1) := by decide +kernel
theorem dX5_mean_0 : decode cX5_mean 0 = .ok (.aload_n 0, 1) := by decide +kernel
theorem dX5_mean_1 : decode cX5_mean 1 = .ok (.iload_n 1, 1) := by decide +kernel
theorem dX5_mean_2 : decode cX5_mean 2 = .ok (.invokevirtual 98, 3) := by decide +kernel
theorem dX5_mean_5 : decode cX5_mean 5 = .ok (.astore_n 2, 1) := by decide +kernel
theorem dX5_mean_6 : decode cX5_mean 6 = .ok (.aload_n 2, 1) := by decide +kernel
theorem dX5_mean_7 : decode cX5_mean 7 = .ok (.getfield 188, 3) := by decide +kernel
theorem dX5_mean_10 : decode cX5_mean 10 = .ok (.ifCond .ne 5, 3) := by decide +kernel
theorem dX5_mean_13 : decode cX5_mean 13 = .ok (.dconst 0, 1) := by decide +kernel
theorem dX5_mean_14 : decode cX5_mean 14 = .ok (.dreturn, 1) := by decide +kernel
theorem dX5_mean_15 : decode cX5_mean 15 = .ok (.aload_n 2, 1) := by decide +kernel
theorem dX5_mean_16 : decode cX5_mean 16 = .ok (.getfield 193, 3) := by decide +kernel
theorem dX5_mean_19 : decode cX5_mean 19 = .ok (.i2d, 1) := by decide +kernel
theorem dX5_mean_20 : decode cX5_mean 20 = .ok (.aload_n 2, 1) := by decide +kernel
theorem dX5_mean_21 : decode cX5_mean 21 = .ok (.getfield 188, 3) := by decide +kernel
theorem dX5_mean_24 : decode cX5_mean 24 = .ok (.i2d, 1) := by decide +kernel
theorem dX5_mean_25 : decode cX5_mean 25 = .ok (.ddiv, 1) := by decide +kernel
theorem dX5_mean_26 : decode cX5_mean 26 = .ok (.dreturn, 1) := by decide +kernel
theorem dX5_worst_0 : decode cX5_worst 0 = .ok (.iconst (-1), 1) := by decide +kernel
theorem dX5_worst_1 : decode cX5_worst 1 = .ok (.istore_n 1, 1) := by decide +kernel
theorem dX5_worst_2 : decode cX5_worst 2 = .ok (.iconst (-1), 1) := by decide +kernel
theorem dX5_worst_3 : decode cX5_worst 3 = .ok (.istore_n 2, 1) := by decide +kernel
theorem dX5_worst_4 : decode cX5_worst 4 = .ok (.iconst 0, 1) := by decide +kernel
theorem dX5_worst_5 : decode cX5_worst 5 = .ok (.istore_n 3, 1) := by decide +kernel
theorem dX5_worst_6 : decode cX5_worst 6 = .ok (.iload_n 3, 1) := by decide +kernel
theorem dX5_worst_7 : decode cX5_worst 7 = .ok (.aload_n 0, 1) := by decide +kernel
theorem dX5_worst_8 : decode cX5_worst 8 = .ok (.getfield 19, 3) := by decide +kernel
theorem dX5_worst_11 : decode cX5_worst 11 = .ok (.invokevirtual 48, 3) := by decide +kernel
theorem dX5_worst_14 : decode cX5_worst 14 = .ok (.if_icmp .ge 55, 3) := by decide +kernel
theorem dX5_worst_17 : decode cX5_worst 17 = .ok (.aload_n 0, 1) := by decide +kernel
theorem dX5_worst_18 : decode cX5_worst 18 = .ok (.getfield 19, 3) := by decide +kernel
theorem dX5_worst_21 : decode cX5_worst 21 = .ok (.iload_n 3, 1) := by decide +kernel
theorem dX5_worst_22 : decode cX5_worst 22 = .ok (.invokevirtual 137, 3) := by decide +kernel
theorem dX5_worst_25 : decode cX5_worst 25 = .ok (.checkcast 89, 3) := by decide +kernel
theorem dX5_worst_28 : decode cX5_worst 28 = .ok (.astore 4, 2) := by decide +kernel
theorem dX5_worst_30 : decode cX5_worst 30 = .ok (.aload 4, 2) := by decide +kernel
theorem dX5_worst_32 : decode cX5_worst 32 = .ok (.getfield 112, 3) := by decide +kernel
theorem dX5_worst_35 : decode cX5_worst 35 = .ok (.ifCond .ne 28, 3) := by decide +kernel
theorem dX5_worst_38 : decode cX5_worst 38 = .ok (.aload 4, 2) := by decide +kernel
theorem dX5_worst_40 : decode cX5_worst 40 = .ok (.getfield 188, 3) := by decide +kernel
theorem dX5_worst_43 : decode cX5_worst 43 = .ok (.ifCond .le 20, 3) := by decide +kernel
theorem dX5_worst_46 : decode cX5_worst 46 = .ok (.aload 4, 2) := by decide +kernel
theorem dX5_worst_48 : decode cX5_worst 48 = .ok (.getfield 196, 3) := by decide +kernel
theorem dX5_worst_51 : decode cX5_worst 51 = .ok (.iload_n 2, 1) := by decide +kernel
theorem dX5_worst_52 : decode cX5_worst 52 = .ok (.if_icmp .le 11, 3) := by decide +kernel
theorem dX5_worst_55 : decode cX5_worst 55 = .ok (.iload_n 3, 1) := by decide +kernel
theorem dX5_worst_56 : decode cX5_worst 56 = .ok (.istore_n 1, 1) := by decide +kernel
theorem dX5_worst_57 : decode cX5_worst 57 = .ok (.aload 4, 2) := by decide +kernel
theorem dX5_worst_59 : decode cX5_worst 59 = .ok (.getfield 196, 3) := by decide +kernel
theorem dX5_worst_62 : decode cX5_worst 62 = .ok (.istore_n 2, 1) := by decide +kernel
theorem dX5_worst_63 : decode cX5_worst 63 = .ok (.iinc 3 1, 3) := by decide +kernel
theorem dX5_worst_66 : decode cX5_worst 66 = .ok (.goto (-60), 3) := by decide +kernel
theorem dX5_worst_69 : decode cX5_worst 69 = .ok (.iload_n 1, 1) := by decide +kernel
theorem dX5_worst_70 : decode cX5_worst 70 = .ok (.ireturn, 1) := by decide +kernel
theorem dX5_digest_0 : decode cX5_digest 0 = .ok (.aload_n 0, 1) := by decide +kernel
theorem dX5_digest_1 : decode cX5_digest 1 = .ok (.invokevirtual 166, 3) := by decide +kernel
theorem dX5_digest_4 : decode cX5_digest 4 = .ok (.ldc2_w 205, 3) := by decide +kernel
theorem dX5_digest_7 : decode cX5_digest 7 = .ok (.lstore_n 1, 1) := by decide +kernel
theorem dX5_digest_8 : decode cX5_digest 8 = .ok (.lload_n 1, 1) := by decide +kernel
theorem dX5_digest_9 : decode cX5_digest 9 = .ok (.aload_n 0, 1) := by decide +kernel
theorem dX5_digest_10 : decode cX5_digest 10 = .ok (.getfield 10, 3) := by decide +kernel
theorem dX5_digest_13 : decode cX5_digest 13 = .ok (.invokevirtual 48, 3) := by decide +kernel
theorem dX5_digest_16 : decode cX5_digest 16 = .ok (.invokestatic 207, 3) := by decide +kernel
theorem dX5_digest_19 : decode cX5_digest 19 = .ok (.lstore_n 1, 1) := by decide +kernel
theorem dX5_digest_20 : decode cX5_digest 20 = .ok (.iconst 0, 1) := by decide +kernel
theorem dX5_digest_21 : decode cX5_digest 21 = .ok (.istore_n 3, 1) := by decide +kernel
theorem dX5_digest_22 : decode cX5_digest 22 = .ok (.iload_n 3, 1) := by decide +kernel
theorem dX5_digest_23 : decode cX5_digest 23 = .ok (.aload_n 0, 1) := by decide +kernel
theorem dX5_digest_24 : decode cX5_digest 24 = .ok (.getfield 10, 3) := by decide +kernel
theorem dX5_digest_27 : decode cX5_digest 27 = .ok (.invokevirtual 48, 3) := by decide +kernel
theorem dX5_digest_30 : decode cX5_digest 30 = .ok (.if_icmp .ge 28, 3) := by decide +kernel
theorem dX5_digest_33 : decode cX5_digest 33 = .ok (.lload_n 1, 1) := by decide +kernel
theorem dX5_digest_34 : decode cX5_digest 34 = .ok (.aload_n 0, 1) := by decide +kernel
theorem dX5_digest_35 : decode cX5_digest 35 = .ok (.getfield 10, 3) := by decide +kernel
theorem dX5_digest_38 : decode cX5_digest 38 = .ok (.iload_n 3, 1) := by decide +kernel
theorem dX5_digest_39 : decode cX5_digest 39 = .ok (.invokevirtual 137, 3) := by decide +kernel
theorem dX5_digest_42 : decode cX5_digest 42 = .ok (.checkcast 57, 3) := by decide +kernel
theorem dX5_digest_45 : decode cX5_digest 45 = .ok (.getfield 153, 3) := by decide +kernel
theorem dX5_digest_48 : decode cX5_digest 48 = .ok (.invokestatic 211, 3) := by decide +kernel
theorem dX5_digest_51 : decode cX5_digest 51 = .ok (.lstore_n 1, 1) := by decide +kernel
theorem dX5_digest_52 : decode cX5_digest 52 = .ok (.iinc 3 1, 3) := by decide +kernel
theorem dX5_digest_55 : decode cX5_digest 55 = .ok (.goto (-33), 3) := by decide +kernel
theorem dX5_digest_58 : decode cX5_digest 58 = .ok (.lload_n 1, 1) := by decide +kernel
theorem dX5_digest_59 : decode cX5_digest 59 = .ok (.aload_n 0, 1) := by decide +kernel
theorem dX5_digest_60 : decode cX5_digest 60 = .ok (.getfield 16, 3) := by decide +kernel
theorem dX5_digest_63 : decode cX5_digest 63 = .ok (.invokevirtual 48, 3) := by decide +kernel
theorem dX5_digest_66 : decode cX5_digest 66 = .ok (.invokestatic 207, 3) := by decide +kernel
theorem dX5_digest_69 : decode cX5_digest 69 = .ok (.lstore_n 1, 1) := by decide +kernel
theorem dX5_digest_70 : decode cX5_digest 70 = .ok (.iconst 0, 1) := by decide +kernel
theorem dX5_digest_71 : decode cX5_digest 71 = .ok (.istore_n 3, 1) := by decide +kernel
theorem dX5_digest_72 : decode cX5_digest 72 = .ok (.iload_n 3, 1) := by decide +kernel
theorem dX5_digest_73 : decode cX5_digest 73 = .ok (.aload_n 0, 1) := by decide +kernel
theorem dX5_digest_74 : decode cX5_digest 74 = .ok (.getfield 16, 3) := by decide +kernel
theorem dX5_digest_77 : decode cX5_digest 77 = .ok (.invokevirtual 48, 3) := by decide +kernel
theorem dX5_digest_80 : decode cX5_digest 80 = .ok (.if_icmp .ge 28, 3) := by decide +kernel
theorem dX5_digest_83 : decode cX5_digest 83 = .ok (.lload_n 1, 1) := by decide +kernel
theorem dX5_digest_84 : decode cX5_digest 84 = .ok (.aload_n 0, 1) := by decide +kernel
theorem dX5_digest_85 : decode cX5_digest 85 = .ok (.getfield 16, 3) := by decide +kernel
theorem dX5_digest_88 : decode cX5_digest 88 = .ok (.iload_n 3, 1) := by decide +kernel
theorem dX5_digest_89 : decode cX5_digest 89 = .ok (.invokevirtual 137, 3) := by decide +kernel
theorem dX5_digest_92 : decode cX5_digest 92 = .ok (.checkcast 74, 3) := by decide +kernel
theorem dX5_digest_95 : decode cX5_digest 95 = .ok (.invokevirtual 183, 3) := by decide +kernel
theorem dX5_digest_98 : decode cX5_digest 98 = .ok (.invokestatic 207, 3) := by decide +kernel
theorem dX5_digest_101 : decode cX5_digest 101 = .ok (.lstore_n 1, 1) := by decide +kernel
theorem dX5_digest_102 : decode cX5_digest 102 = .ok (.iinc 3 1, 3) := by decide +kernel
theorem dX5_digest_105 : decode cX5_digest 105 = .ok (.goto (-33), 3) := by decide +kernel
theorem dX5_digest_108 : decode cX5_digest 108 = .ok (.lload_n 1, 1) := by decide +kernel
theorem dX5_digest_109 : decode cX5_digest 109 = .ok (.aload_n 0, 1) := by decide +kernel
theorem dX5_digest_110 : decode cX5_digest 110 = .ok (.getfield 19, 3) := by decide +kernel
theorem dX5_digest_113 : decode cX5_digest 113 = .ok (.invokevirtual 48, 3) := by decide +kernel
theorem dX5_digest_116 : decode cX5_digest 116 = .ok (.invokestatic 207, 3) := by decide +kernel
theorem dX5_digest_119 : decode cX5_digest 119 = .ok (.lstore_n 1, 1) := by decide +kernel
theorem dX5_digest_120 : decode cX5_digest 120 = .ok (.iconst 0, 1) := by decide +kernel
theorem dX5_digest_121 : decode cX5_digest 121 = .ok (.istore_n 3, 1) := by decide +kernel
theorem dX5_digest_122 : decode cX5_digest 122 = .ok (.iload_n 3, 1) := by decide +kernel
theorem dX5_digest_123 : decode cX5_digest 123 = .ok (.aload_n 0, 1) := by decide +kernel
theorem dX5_digest_124 : decode cX5_digest 124 = .ok (.getfield 19, 3) := by decide +kernel
theorem dX5_digest_127 : decode cX5_digest 127 = .ok (.invokevirtual 48, 3) := by decide +kernel
theorem dX5_digest_130 : decode cX5_digest 130 = .ok (.if_icmp .ge 25, 3) := by decide +kernel
theorem dX5_digest_133 : decode cX5_digest 133 = .ok (.lload_n 1, 1) := by decide +kernel
theorem dX5_digest_134 : decode cX5_digest 134 = .ok (.aload_n 0, 1) := by decide +kernel
theorem dX5_digest_135 : decode cX5_digest 135 = .ok (.getfield 19, 3) := by decide +kernel
theorem dX5_digest_138 : decode cX5_digest 138 = .ok (.iload_n 3, 1) := by decide +kernel
theorem dX5_digest_139 : decode cX5_digest 139 = .ok (.invokevirtual 137, 3) := by decide +kernel
theorem dX5_digest_142 : decode cX5_digest 142 = .ok (.checkcast 89, 3) := by decide +kernel
theorem dX5_digest_145 : decode cX5_digest 145 = .ok (.invokestatic 215, 3) := by decide +kernel
theorem dX5_digest_148 : decode cX5_digest 148 = .ok (.lstore_n 1, 1) := by decide +kernel
theorem dX5_digest_149 : decode cX5_digest 149 = .ok (.iinc 3 1, 3) := by decide +kernel
theorem dX5_digest_152 : decode cX5_digest 152 = .ok (.goto (-30), 3) := by decide +kernel
theorem dX5_digest_155 : decode cX5_digest 155 = .ok (.lload_n 1, 1) := by decide +kernel
theorem dX5_digest_156 : decode cX5_digest 156 = .ok (.aload_n 0, 1) := by decide +kernel
theorem dX5_digest_157 : decode cX5_digest 157 = .ok (.invokevirtual 219, 3) := by decide +kernel
theorem dX5_digest_160 : decode cX5_digest 160 = .ok (.invokestatic 207, 3) := by decide +kernel
theorem dX5_digest_163 : decode cX5_digest 163 = .ok (.lreturn, 1) := by decide +kernel
theorem dX5_puppetNumbered_0 : decode cX5_puppetNumbered 0 = .ok (.iload_n 1, 1) := by decide +kernel
theorem dX5_puppetNumbered_1 : decode cX5_puppetNumbered 1 = .ok (.ifCond .lt 14, 3) := by decide +kernel
theorem dX5_puppetNumbered_4 : decode cX5_puppetNumbered 4 = .ok (.iload_n 1, 1) := by decide +kernel
theorem dX5_puppetNumbered_5 : decode cX5_puppetNumbered 5 = .ok (.aload_n 0, 1) := by decide +kernel
theorem dX5_puppetNumbered_6 : decode cX5_puppetNumbered 6 = .ok (.getfield 10, 3) := by decide +kernel
theorem dX5_puppetNumbered_9 : decode cX5_puppetNumbered 9 = .ok (.invokevirtual 48, 3) := by decide +kernel
theorem dX5_puppetNumbered_12 : decode cX5_puppetNumbered 12 = .ok (.if_icmp .lt 13, 3) := by decide +kernel
theorem dX5_puppetNumbered_15 : decode cX5_puppetNumbered 15 = .ok (.new 121, 3) := by decide +kernel
theorem dX5_puppetNumbered_18 : decode cX5_puppetNumbered 18 = .ok (.dup, 1) := by decide +kernel
theorem dX5_puppetNumbered_19 : decode cX5_puppetNumbered 19 = .ok (.ldc 222, 2) := by decide +kernel
theorem dX5_puppetNumbered_21 : decode cX5_puppetNumbered 21 = .ok (.invokespecial 125, 3) := by decide +kernel
theorem dX5_puppetNumbered_24 : decode cX5_puppetNumbered 24 = .ok (.athrow, 1) := by decide +kernel
theorem dX5_puppetNumbered_25 : decode cX5_puppetNumbered 25 = .ok (.aload_n 0, 1) := by decide +kernel
theorem dX5_puppetNumbered_26 : decode cX5_puppetNumbered 26 = .ok (.getfield 10, 3) := by decide +kernel
theorem dX5_puppetNumbered_29 : decode cX5_puppetNumbered 29 = .ok (.iload_n 1, 1) := by decide +kernel
theorem dX5_puppetNumbered_30 : decode cX5_puppetNumbered 30 = .ok (.invokevirtual 137, 3) := by decide +kernel
theorem dX5_puppetNumbered_33 : decode cX5_puppetNumbered 33 = .ok (.checkcast 57, 3) := by decide +kernel
theorem dX5_puppetNumbered_36 : decode cX5_puppetNumbered 36 = .ok (.areturn, 1) := by decide +kernel
theorem dX5_playerNumbered_0 : decode cX5_playerNumbered 0 = .ok (.iload_n 1, 1) := by decide +kernel
theorem dX5_playerNumbered_1 : decode cX5_playerNumbered 1 = .ok (.ifCond .lt 14, 3) := by decide +kernel
theorem dX5_playerNumbered_4 : decode cX5_playerNumbered 4 = .ok (.iload_n 1, 1) := by decide +kernel
theorem dX5_playerNumbered_5 : decode cX5_playerNumbered 5 = .ok (.aload_n 0, 1) := by decide +kernel
theorem dX5_playerNumbered_6 : decode cX5_playerNumbered 6 = .ok (.getfield 16, 3) := by decide +kernel
theorem dX5_playerNumbered_9 : decode cX5_playerNumbered 9 = .ok (.invokevirtual 48, 3) := by decide +kernel
theorem dX5_playerNumbered_12 : decode cX5_playerNumbered 12 = .ok (.if_icmp .lt 13, 3) := by decide +kernel
theorem dX5_playerNumbered_15 : decode cX5_playerNumbered 15 = .ok (.new 121, 3) := by decide +kernel
theorem dX5_playerNumbered_18 : decode cX5_playerNumbered 18 = .ok (.dup, 1) := by decide +kernel
theorem dX5_playerNumbered_19 : decode cX5_playerNumbered 19 = .ok (.ldc 224, 2) := by decide +kernel
theorem dX5_playerNumbered_21 : decode cX5_playerNumbered 21 = .ok (.invokespecial 125, 3) := by decide +kernel
theorem dX5_playerNumbered_24 : decode cX5_playerNumbered 24 = .ok (.athrow, 1) := by decide +kernel
theorem dX5_playerNumbered_25 : decode cX5_playerNumbered 25 = .ok (.aload_n 0, 1) := by decide +kernel
theorem dX5_playerNumbered_26 : decode cX5_playerNumbered 26 = .ok (.getfield 16, 3) := by decide +kernel
theorem dX5_playerNumbered_29 : decode cX5_playerNumbered 29 = .ok (.iload_n 1, 1) := by decide +kernel
theorem dX5_playerNumbered_30 : decode cX5_playerNumbered 30 = .ok (.invokevirtual 137, 3) := by decide +kernel
theorem dX5_playerNumbered_33 : decode cX5_playerNumbered 33 = .ok (.checkcast 74, 3) := by decide +kernel
theorem dX5_playerNumbered_36 : decode cX5_playerNumbered 36 = .ok (.areturn, 1) := by decide +kernel
theorem dX5_cueNumbered_0 : decode cX5_cueNumbered 0 = .ok (.iload_n 1, 1) := by decide +kernel
theorem dX5_cueNumbered_1 : decode cX5_cueNumbered 1 = .ok (.ifCond .lt 14, 3) := by decide +kernel
theorem dX5_cueNumbered_4 : decode cX5_cueNumbered 4 = .ok (.iload_n 1, 1) := by decide +kernel
theorem dX5_cueNumbered_5 : decode cX5_cueNumbered 5 = .ok (.aload_n 0, 1) := by decide +kernel
theorem dX5_cueNumbered_6 : decode cX5_cueNumbered 6 = .ok (.getfield 19, 3) := by decide +kernel
theorem dX5_cueNumbered_9 : decode cX5_cueNumbered 9 = .ok (.invokevirtual 48, 3) := by decide +kernel
theorem dX5_cueNumbered_12 : decode cX5_cueNumbered 12 = .ok (.if_icmp .lt 13, 3) := by decide +kernel
theorem dX5_cueNumbered_15 : decode cX5_cueNumbered 15 = .ok (.new 121, 3) := by decide +kernel
theorem dX5_cueNumbered_18 : decode cX5_cueNumbered 18 = .ok (.dup, 1) := by decide +kernel
theorem dX5_cueNumbered_19 : decode cX5_cueNumbered 19 = .ok (.ldc 226, 2) := by decide +kernel
theorem dX5_cueNumbered_21 : decode cX5_cueNumbered 21 = .ok (.invokespecial 125, 3) := by decide +kernel
theorem dX5_cueNumbered_24 : decode cX5_cueNumbered 24 = .ok (.athrow, 1) := by decide +kernel
theorem dX5_cueNumbered_25 : decode cX5_cueNumbered 25 = .ok (.aload_n 0, 1) := by decide +kernel
theorem dX5_cueNumbered_26 : decode cX5_cueNumbered 26 = .ok (.getfield 19, 3) := by decide +kernel
theorem dX5_cueNumbered_29 : decode cX5_cueNumbered 29 = .ok (.iload_n 1, 1) := by decide +kernel
theorem dX5_cueNumbered_30 : decode cX5_cueNumbered 30 = .ok (.invokevirtual 137, 3) := by decide +kernel
theorem dX5_cueNumbered_33 : decode cX5_cueNumbered 33 = .ok (.checkcast 89, 3) := by decide +kernel
theorem dX5_cueNumbered_36 : decode cX5_cueNumbered 36 = .ok (.astore_n 2, 1) := by decide +kernel
theorem dX5_cueNumbered_37 : decode cX5_cueNumbered 37 = .ok (.aload_n 2, 1) := by decide +kernel
theorem dX5_cueNumbered_38 : decode cX5_cueNumbered 38 = .ok (.getfield 112, 3) := by decide +kernel
theorem dX5_cueNumbered_41 : decode cX5_cueNumbered 41 = .ok (.ifCond .eq 13, 3) := by decide +kernel
theorem dX5_cueNumbered_44 : decode cX5_cueNumbered 44 = .ok (.new 121, 3) := by decide +kernel
theorem dX5_cueNumbered_47 : decode cX5_cueNumbered 47 = .ok (.dup, 1) := by decide +kernel
theorem dX5_cueNumbered_48 : decode cX5_cueNumbered 48 = .ok (.ldc 228, 2) := by decide +kernel
theorem dX5_cueNumbered_50 : decode cX5_cueNumbered 50 = .ok (.invokespecial 125, 3) := by decide +kernel
theorem dX5_cueNumbered_53 : decode cX5_cueNumbered 53 = .ok (.athrow, 1) := by decide +kernel
theorem dX5_cueNumbered_54 : decode cX5_cueNumbered 54 = .ok (.aload_n 2, 1) := by decide +kernel
theorem dX5_cueNumbered_55 : decode cX5_cueNumbered 55 = .ok (.areturn, 1) := by decide +kernel
theorem dX5_requireBeat_0 : decode cX5_requireBeat 0 = .ok (.iload_n 0, 1) := by decide +kernel
theorem dX5_requireBeat_1 : decode cX5_requireBeat 1 = .ok (.ifCond .lt 10, 3) := by decide +kernel
theorem dX5_requireBeat_4 : decode cX5_requireBeat 4 = .ok (.iload_n 0, 1) := by decide +kernel
theorem dX5_requireBeat_5 : decode cX5_requireBeat 5 = .ok (.sipush 1000, 3) := by decide +kernel
theorem dX5_requireBeat_8 : decode cX5_requireBeat 8 = .ok (.if_icmp .lt 13, 3) := by decide +kernel
theorem dX5_requireBeat_11 : decode cX5_requireBeat 11 = .ok (.new 39, 3) := by decide +kernel
theorem dX5_requireBeat_14 : decode cX5_requireBeat 14 = .ok (.dup, 1) := by decide +kernel
theorem dX5_requireBeat_15 : decode cX5_requireBeat 15 = .ok (.ldc 230, 2) := by decide +kernel
theorem dX5_requireBeat_17 : decode cX5_requireBeat 17 = .ok (.invokespecial 43, 3) := by decide +kernel
theorem dX5_requireBeat_20 : decode cX5_requireBeat 20 = .ok (.athrow, 1) := by decide +kernel
theorem dX5_requireBeat_21 : decode cX5_requireBeat 21 = .ok (.return_, 1) := by decide +kernel
theorem dX5_requirePlace_0 : decode cX5_requirePlace 0 = .ok (.iload_n 0, 1) := by decide +kernel
theorem dX5_requirePlace_1 : decode cX5_requirePlace 1 = .ok (.ifCond .lt 9, 3) := by decide +kernel
theorem dX5_requirePlace_4 : decode cX5_requirePlace 4 = .ok (.iload_n 0, 1) := by decide +kernel
theorem dX5_requirePlace_5 : decode cX5_requirePlace 5 = .ok (.bipush 20, 2) := by decide +kernel
theorem dX5_requirePlace_7 : decode cX5_requirePlace 7 = .ok (.if_icmp .lt 13, 3) := by decide +kernel
theorem dX5_requirePlace_10 : decode cX5_requirePlace 10 = .ok (.new 39, 3) := by decide +kernel
theorem dX5_requirePlace_13 : decode cX5_requirePlace 13 = .ok (.dup, 1) := by decide +kernel
theorem dX5_requirePlace_14 : decode cX5_requirePlace 14 = .ok (.ldc 232, 2) := by decide +kernel
theorem dX5_requirePlace_16 : decode cX5_requirePlace 16 = .ok (.invokespecial 43, 3) := by decide +kernel
theorem dX5_requirePlace_19 : decode cX5_requirePlace 19 = .ok (.athrow, 1) := by decide +kernel
theorem dX5_requirePlace_20 : decode cX5_requirePlace 20 = .ok (.return_, 1) := by decide +kernel
theorem dX5_requireTrack_0 : decode cX5_requireTrack 0 = .ok (.iload_n 0, 1) := by decide +kernel
theorem dX5_requireTrack_1 : decode cX5_requireTrack 1 = .ok (.ifCond .lt 8, 3) := by decide +kernel
theorem dX5_requireTrack_4 : decode cX5_requireTrack 4 = .ok (.iload_n 0, 1) := by decide +kernel
theorem dX5_requireTrack_5 : decode cX5_requireTrack 5 = .ok (.iconst 4, 1) := by decide +kernel
theorem dX5_requireTrack_6 : decode cX5_requireTrack 6 = .ok (.if_icmp .lt 13, 3) := by decide +kernel
theorem dX5_requireTrack_9 : decode cX5_requireTrack 9 = .ok (.new 39, 3) := by decide +kernel
theorem dX5_requireTrack_12 : decode cX5_requireTrack 12 = .ok (.dup, 1) := by decide +kernel
theorem dX5_requireTrack_13 : decode cX5_requireTrack 13 = .ok (.ldc 234, 2) := by decide +kernel
theorem dX5_requireTrack_15 : decode cX5_requireTrack 15 = .ok (.invokespecial 43, 3) := by decide +kernel
theorem dX5_requireTrack_18 : decode cX5_requireTrack 18 = .ok (.athrow, 1) := by decide +kernel
theorem dX5_requireTrack_19 : decode cX5_requireTrack 19 = .ok (.return_, 1) := by decide +kernel
theorem dX5_write_0 : decode cX5_write 0 = .ok (.aload_n 0, 1) := by decide +kernel
theorem dX5_write_1 : decode cX5_write 1 = .ok (.getfield 19, 3) := by decide +kernel
theorem dX5_write_4 : decode cX5_write 4 = .ok (.invokevirtual 48, 3) := by decide +kernel
theorem dX5_write_7 : decode cX5_write 7 = .ok (.bipush 40, 2) := by decide +kernel
theorem dX5_write_9 : decode cX5_write 9 = .ok (.if_icmp .lt 13, 3) := by decide +kernel
theorem dX5_write_12 : decode cX5_write 12 = .ok (.new 52, 3) := by decide +kernel
theorem dX5_write_15 : decode cX5_write 15 = .ok (.dup, 1) := by decide +kernel
theorem dX5_write_16 : decode cX5_write 16 = .ok (.ldc 236, 2) := by decide +kernel
theorem dX5_write_18 : decode cX5_write 18 = .ok (.invokespecial 56, 3) := by decide +kernel
theorem dX5_write_21 : decode cX5_write 21 = .ok (.athrow, 1) := by decide +kernel
theorem dX5_write_22 : decode cX5_write 22 = .ok (.aload_n 1, 1) := by decide +kernel
theorem dX5_write_23 : decode cX5_write 23 = .ok (.getfield 102, 3) := by decide +kernel
theorem dX5_write_26 : decode cX5_write 26 = .ok (.aload_n 1, 1) := by decide +kernel
theorem dX5_write_27 : decode cX5_write 27 = .ok (.invokevirtual 238, 3) := by decide +kernel
theorem dX5_write_30 : decode cX5_write 30 = .ok (.ifCond .ne 13, 3) := by decide +kernel
theorem dX5_write_33 : decode cX5_write 33 = .ok (.new 52, 3) := by decide +kernel
theorem dX5_write_36 : decode cX5_write 36 = .ok (.dup, 1) := by decide +kernel
theorem dX5_write_37 : decode cX5_write 37 = .ok (.ldc 241, 2) := by decide +kernel
theorem dX5_write_39 : decode cX5_write 39 = .ok (.invokespecial 56, 3) := by decide +kernel
theorem dX5_write_42 : decode cX5_write 42 = .ok (.athrow, 1) := by decide +kernel
theorem dX5_write_43 : decode cX5_write 43 = .ok (.aload_n 0, 1) := by decide +kernel
theorem dX5_write_44 : decode cX5_write 44 = .ok (.getfield 19, 3) := by decide +kernel
theorem dX5_write_47 : decode cX5_write 47 = .ok (.invokevirtual 48, 3) := by decide +kernel
theorem dX5_write_50 : decode cX5_write 50 = .ok (.istore_n 2, 1) := by decide +kernel
theorem dX5_write_51 : decode cX5_write 51 = .ok (.aload_n 0, 1) := by decide +kernel
theorem dX5_write_52 : decode cX5_write 52 = .ok (.getfield 19, 3) := by decide +kernel
theorem dX5_write_55 : decode cX5_write 55 = .ok (.aload_n 1, 1) := by decide +kernel
theorem dX5_write_56 : decode cX5_write 56 = .ok (.invokevirtual 62, 3) := by decide +kernel
theorem dX5_write_59 : decode cX5_write 59 = .ok (.pop, 1) := by decide +kernel
theorem dX5_write_60 : decode cX5_write 60 = .ok (.aload_n 0, 1) := by decide +kernel
theorem dX5_write_61 : decode cX5_write 61 = .ok (.invokevirtual 115, 3) := by decide +kernel
theorem dX5_write_64 : decode cX5_write 64 = .ok (.iload_n 2, 1) := by decide +kernel
theorem dX5_write_65 : decode cX5_write 65 = .ok (.ireturn, 1) := by decide +kernel
theorem dX5_forgetWhatWasFound_0 : decode cX5_forgetWhatWasFound 0 = .ok (.aload_n 0, 1) := by decide +kernel
theorem dX5_forgetWhatWasFound_1 : decode cX5_forgetWhatWasFound 1 = .ok (.iconst 0, 1) := by decide +kernel
theorem dX5_forgetWhatWasFound_2 : decode cX5_forgetWhatWasFound 2 = .ok (.putfield 29, 3) := by decide +kernel
theorem dX5_forgetWhatWasFound_5 : decode cX5_forgetWhatWasFound 5 = .ok (.aload_n 0, 1) := by decide +kernel
theorem dX5_forgetWhatWasFound_6 : decode cX5_forgetWhatWasFound 6 = .ok (.iconst 0, 1) := by decide +kernel
theorem dX5_forgetWhatWasFound_7 : decode cX5_forgetWhatWasFound 7 = .ok (.putfield 33, 3) := by decide +kernel
theorem dX5_forgetWhatWasFound_10 : decode cX5_forgetWhatWasFound 10 = .ok (.return_, 1) := by decide +kernel
theorem dX5_tellOfCue_0 : decode cX5_tellOfCue 0 = .ok (.iload_n 1, 1) := by decide +kernel
theorem dX5_tellOfCue_1 : decode cX5_tellOfCue 1 = .ok (.tableswitch 63 0 4 #[35, 40, 48, 53, 58], 35) := by decide +kernel
theorem dX5_tellOfCue_36 : decode cX5_tellOfCue 36 = .ok (.aload_n 0, 1) := by decide +kernel
theorem dX5_tellOfCue_37 : decode cX5_tellOfCue 37 = .ok (.getfield 243, 3) := by decide +kernel
theorem dX5_tellOfCue_40 : decode cX5_tellOfCue 40 = .ok (.ireturn, 1) := by decide +kernel
theorem dX5_tellOfCue_41 : decode cX5_tellOfCue 41 = .ok (.aload_n 0, 1) := by decide +kernel
theorem dX5_tellOfCue_42 : decode cX5_tellOfCue 42 = .ok (.getfield 102, 3) := by decide +kernel
theorem dX5_tellOfCue_45 : decode cX5_tellOfCue 45 = .ok (.getfield 246, 3) := by decide +kernel
theorem dX5_tellOfCue_48 : decode cX5_tellOfCue 48 = .ok (.ireturn, 1) := by decide +kernel
theorem dX5_tellOfCue_49 : decode cX5_tellOfCue 49 = .ok (.aload_n 0, 1) := by decide +kernel
theorem dX5_tellOfCue_50 : decode cX5_tellOfCue 50 = .ok (.getfield 249, 3) := by decide +kernel
theorem dX5_tellOfCue_53 : decode cX5_tellOfCue 53 = .ok (.ireturn, 1) := by decide +kernel
theorem dX5_tellOfCue_54 : decode cX5_tellOfCue 54 = .ok (.aload_n 0, 1) := by decide +kernel
theorem dX5_tellOfCue_55 : decode cX5_tellOfCue 55 = .ok (.getfield 252, 3) := by decide +kernel
theorem dX5_tellOfCue_58 : decode cX5_tellOfCue 58 = .ok (.ireturn, 1) := by decide +kernel
theorem dX5_tellOfCue_59 : decode cX5_tellOfCue 59 = .ok (.aload_n 0, 1) := by decide +kernel
theorem dX5_tellOfCue_60 : decode cX5_tellOfCue 60 = .ok (.getfield 255, 3) := by decide +kernel
theorem dX5_tellOfCue_63 : decode cX5_tellOfCue 63 = .ok (.ireturn, 1) := by decide +kernel
theorem dX5_tellOfCue_64 : decode cX5_tellOfCue 64 = .ok (.new 121, 3) := by decide +kernel
theorem dX5_tellOfCue_67 : decode cX5_tellOfCue 67 = .ok (.dup, 1) := by decide +kernel
theorem dX5_tellOfCue_68 : decode cX5_tellOfCue 68 = .ok (.ldc_w 258, 3) := by decide +kernel
theorem dX5_tellOfCue_71 : decode cX5_tellOfCue 71 = .ok (.invokespecial 125, 3) := by decide +kernel
theorem dX5_tellOfCue_74 : decode cX5_tellOfCue 74 = .ok (.athrow, 1) := by decide +kernel
theorem dX5_tellOfStay_0 : decode cX5_tellOfStay 0 = .ok (.iload_n 1, 1) := by decide +kernel
theorem dX5_tellOfStay_1 : decode cX5_tellOfStay 1 = .ok (.tableswitch 42 0 2 #[27, 32, 37], 27) := by decide +kernel
theorem dX5_tellOfStay_28 : decode cX5_tellOfStay 28 = .ok (.aload_n 0, 1) := by decide +kernel
theorem dX5_tellOfStay_29 : decode cX5_tellOfStay 29 = .ok (.getfield 161, 3) := by decide +kernel
theorem dX5_tellOfStay_32 : decode cX5_tellOfStay 32 = .ok (.ireturn, 1) := by decide +kernel
theorem dX5_tellOfStay_33 : decode cX5_tellOfStay 33 = .ok (.aload_n 0, 1) := by decide +kernel
theorem dX5_tellOfStay_34 : decode cX5_tellOfStay 34 = .ok (.getfield 158, 3) := by decide +kernel
theorem dX5_tellOfStay_37 : decode cX5_tellOfStay 37 = .ok (.ireturn, 1) := by decide +kernel
theorem dX5_tellOfStay_38 : decode cX5_tellOfStay 38 = .ok (.aload_n 0, 1) := by decide +kernel
theorem dX5_tellOfStay_39 : decode cX5_tellOfStay 39 = .ok (.getfield 173, 3) := by decide +kernel
theorem dX5_tellOfStay_42 : decode cX5_tellOfStay 42 = .ok (.ireturn, 1) := by decide +kernel
theorem dX5_tellOfStay_43 : decode cX5_tellOfStay 43 = .ok (.new 121, 3) := by decide +kernel
theorem dX5_tellOfStay_46 : decode cX5_tellOfStay 46 = .ok (.dup, 1) := by decide +kernel
theorem dX5_tellOfStay_47 : decode cX5_tellOfStay 47 = .ok (.ldc_w 260, 3) := by decide +kernel
theorem dX5_tellOfStay_50 : decode cX5_tellOfStay 50 = .ok (.invokespecial 125, 3) := by decide +kernel
theorem dX5_tellOfStay_53 : decode cX5_tellOfStay 53 = .ok (.athrow, 1) := by decide +kernel
theorem dX5_distance_0 : decode cX5_distance 0 = .ok (.iload_n 0, 1) := by decide +kernel
theorem dX5_distance_1 : decode cX5_distance 1 = .ok (.iload_n 1, 1) := by decide +kernel
theorem dX5_distance_2 : decode cX5_distance 2 = .ok (.isub, 1) := by decide +kernel
theorem dX5_distance_3 : decode cX5_distance 3 = .ok (.invokestatic 199, 3) := by decide +kernel
theorem dX5_distance_6 : decode cX5_distance 6 = .ok (.ireturn, 1) := by decide +kernel
theorem dX5_countClashingPairs_0 : decode cX5_countClashingPairs 0 = .ok (.iconst 0, 1) := by decide +kernel
theorem dX5_countClashingPairs_1 : decode cX5_countClashingPairs 1 = .ok (.istore_n 1, 1) := by decide +kernel
theorem dX5_countClashingPairs_2 : decode cX5_countClashingPairs 2 = .ok (.iconst 0, 1) := by decide +kernel
theorem dX5_countClashingPairs_3 : decode cX5_countClashingPairs 3 = .ok (.istore_n 2, 1) := by decide +kernel
theorem dX5_countClashingPairs_4 : decode cX5_countClashingPairs 4 = .ok (.iload_n 2, 1) := by decide +kernel
theorem dX5_countClashingPairs_5 : decode cX5_countClashingPairs 5 = .ok (.aload_n 0, 1) := by decide +kernel
theorem dX5_countClashingPairs_6 : decode cX5_countClashingPairs 6 = .ok (.getfield 10, 3) := by decide +kernel
theorem dX5_countClashingPairs_9 : decode cX5_countClashingPairs 9 = .ok (.invokevirtual 48, 3) := by decide +kernel
theorem dX5_countClashingPairs_12 : decode cX5_countClashingPairs 12 = .ok (.if_icmp .ge 62, 3) := by decide +kernel
theorem dX5_countClashingPairs_15 : decode cX5_countClashingPairs 15 = .ok (.iload_n 2, 1) := by decide +kernel
theorem dX5_countClashingPairs_16 : decode cX5_countClashingPairs 16 = .ok (.iconst 1, 1) := by decide +kernel
theorem dX5_countClashingPairs_17 : decode cX5_countClashingPairs 17 = .ok (.iadd, 1) := by decide +kernel
theorem dX5_countClashingPairs_18 : decode cX5_countClashingPairs 18 = .ok (.istore_n 3, 1) := by decide +kernel
theorem dX5_countClashingPairs_19 : decode cX5_countClashingPairs 19 = .ok (.iload_n 3, 1) := by decide +kernel
theorem dX5_countClashingPairs_20 : decode cX5_countClashingPairs 20 = .ok (.aload_n 0, 1) := by decide +kernel
theorem dX5_countClashingPairs_21 : decode cX5_countClashingPairs 21 = .ok (.getfield 10, 3) := by decide +kernel
theorem dX5_countClashingPairs_24 : decode cX5_countClashingPairs 24 = .ok (.invokevirtual 48, 3) := by decide +kernel
theorem dX5_countClashingPairs_27 : decode cX5_countClashingPairs 27 = .ok (.if_icmp .ge 41, 3) := by decide +kernel
theorem dX5_countClashingPairs_30 : decode cX5_countClashingPairs 30 = .ok (.aload_n 0, 1) := by decide +kernel
theorem dX5_countClashingPairs_31 : decode cX5_countClashingPairs 31 = .ok (.getfield 10, 3) := by decide +kernel
theorem dX5_countClashingPairs_34 : decode cX5_countClashingPairs 34 = .ok (.iload_n 2, 1) := by decide +kernel
theorem dX5_countClashingPairs_35 : decode cX5_countClashingPairs 35 = .ok (.invokevirtual 137, 3) := by decide +kernel
theorem dX5_countClashingPairs_38 : decode cX5_countClashingPairs 38 = .ok (.checkcast 57, 3) := by decide +kernel
theorem dX5_countClashingPairs_41 : decode cX5_countClashingPairs 41 = .ok (.aload_n 0, 1) := by decide +kernel
theorem dX5_countClashingPairs_42 : decode cX5_countClashingPairs 42 = .ok (.getfield 10, 3) := by decide +kernel
theorem dX5_countClashingPairs_45 : decode cX5_countClashingPairs 45 = .ok (.iload_n 3, 1) := by decide +kernel
theorem dX5_countClashingPairs_46 : decode cX5_countClashingPairs 46 = .ok (.invokevirtual 137, 3) := by decide +kernel
theorem dX5_countClashingPairs_49 : decode cX5_countClashingPairs 49 = .ok (.checkcast 57, 3) := by decide +kernel
theorem dX5_countClashingPairs_52 : decode cX5_countClashingPairs 52 = .ok (.invokestatic 146, 3) := by decide +kernel
theorem dX5_countClashingPairs_55 : decode cX5_countClashingPairs 55 = .ok (.iconst (-1), 1) := by decide +kernel
theorem dX5_countClashingPairs_56 : decode cX5_countClashingPairs 56 = .ok (.if_icmp .eq 6, 3) := by decide +kernel
theorem dX5_countClashingPairs_59 : decode cX5_countClashingPairs 59 = .ok (.iinc 1 1, 3) := by decide +kernel
theorem dX5_countClashingPairs_62 : decode cX5_countClashingPairs 62 = .ok (.iinc 3 1, 3) := by decide +kernel
theorem dX5_countClashingPairs_65 : decode cX5_countClashingPairs 65 = .ok (.goto (-46), 3) := by decide +kernel
theorem dX5_countClashingPairs_68 : decode cX5_countClashingPairs 68 = .ok (.iinc 2 1, 3) := by decide +kernel
theorem dX5_countClashingPairs_71 : decode cX5_countClashingPairs 71 = .ok (.goto (-67), 3) := by decide +kernel
theorem dX5_countClashingPairs_74 : decode cX5_countClashingPairs 74 = .ok (.iload_n 1, 1) := by decide +kernel
theorem dX5_countClashingPairs_75 : decode cX5_countClashingPairs 75 = .ok (.ireturn, 1) := by decide +kernel
theorem dX5_firstClash_0 : decode cX5_firstClash 0 = .ok (.iconst 0, 1) := by decide +kernel
theorem dX5_firstClash_1 : decode cX5_firstClash 1 = .ok (.istore_n 2, 1) := by decide +kernel
theorem dX5_firstClash_2 : decode cX5_firstClash 2 = .ok (.iload_n 2, 1) := by decide +kernel
theorem dX5_firstClash_3 : decode cX5_firstClash 3 = .ok (.sipush 1000, 3) := by decide +kernel
theorem dX5_firstClash_6 : decode cX5_firstClash 6 = .ok (.if_icmp .ge 44, 3) := by decide +kernel
theorem dX5_firstClash_9 : decode cX5_firstClash 9 = .ok (.aload_n 0, 1) := by decide +kernel
theorem dX5_firstClash_10 : decode cX5_firstClash 10 = .ok (.aload_n 1, 1) := by decide +kernel
theorem dX5_firstClash_11 : decode cX5_firstClash 11 = .ok (.iload_n 2, 1) := by decide +kernel
theorem dX5_firstClash_12 : decode cX5_firstClash 12 = .ok (.invokestatic 262, 3) := by decide +kernel
theorem dX5_firstClash_15 : decode cX5_firstClash 15 = .ok (.ifCond .eq 29, 3) := by decide +kernel
theorem dX5_firstClash_18 : decode cX5_firstClash 18 = .ok (.aload_n 0, 1) := by decide +kernel
theorem dX5_firstClash_19 : decode cX5_firstClash 19 = .ok (.getfield 130, 3) := by decide +kernel
theorem dX5_firstClash_22 : decode cX5_firstClash 22 = .ok (.iload_n 2, 1) := by decide +kernel
theorem dX5_firstClash_23 : decode cX5_firstClash 23 = .ok (.iaload, 1) := by decide +kernel
theorem dX5_firstClash_24 : decode cX5_firstClash 24 = .ok (.aload_n 1, 1) := by decide +kernel
theorem dX5_firstClash_25 : decode cX5_firstClash 25 = .ok (.getfield 130, 3) := by decide +kernel
theorem dX5_firstClash_28 : decode cX5_firstClash 28 = .ok (.iload_n 2, 1) := by decide +kernel
theorem dX5_firstClash_29 : decode cX5_firstClash 29 = .ok (.iaload, 1) := by decide +kernel
theorem dX5_firstClash_30 : decode cX5_firstClash 30 = .ok (.if_icmp .eq 12, 3) := by decide +kernel
theorem dX5_firstClash_33 : decode cX5_firstClash 33 = .ok (.aload_n 0, 1) := by decide +kernel
theorem dX5_firstClash_34 : decode cX5_firstClash 34 = .ok (.aload_n 1, 1) := by decide +kernel
theorem dX5_firstClash_35 : decode cX5_firstClash 35 = .ok (.iload_n 2, 1) := by decide +kernel
theorem dX5_firstClash_36 : decode cX5_firstClash 36 = .ok (.invokestatic 266, 3) := by decide +kernel
theorem dX5_firstClash_39 : decode cX5_firstClash 39 = .ok (.ifCond .eq 5, 3) := by decide +kernel
theorem dX5_firstClash_42 : decode cX5_firstClash 42 = .ok (.iload_n 2, 1) := by decide +kernel
theorem dX5_firstClash_43 : decode cX5_firstClash 43 = .ok (.ireturn, 1) := by decide +kernel
theorem dX5_firstClash_44 : decode cX5_firstClash 44 = .ok (.iinc 2 1, 3) := by decide +kernel
theorem dX5_firstClash_47 : decode cX5_firstClash 47 = .ok (.goto (-45), 3) := by decide +kernel
theorem dX5_firstClash_50 : decode cX5_firstClash 50 = .ok (.iconst (-1), 1) := by decide +kernel
theorem dX5_firstClash_51 : decode cX5_firstClash 51 = .ok (.ireturn, 1) := by decide +kernel
theorem dX5_areOnOneTrack_0 : decode cX5_areOnOneTrack 0 = .ok (.aload_n 0, 1) := by decide +kernel
theorem dX5_areOnOneTrack_1 : decode cX5_areOnOneTrack 1 = .ok (.getfield 134, 3) := by decide +kernel
theorem dX5_areOnOneTrack_4 : decode cX5_areOnOneTrack 4 = .ok (.iload_n 2, 1) := by decide +kernel
theorem dX5_areOnOneTrack_5 : decode cX5_areOnOneTrack 5 = .ok (.iaload, 1) := by decide +kernel
theorem dX5_areOnOneTrack_6 : decode cX5_areOnOneTrack 6 = .ok (.iconst (-1), 1) := by decide +kernel
theorem dX5_areOnOneTrack_7 : decode cX5_areOnOneTrack 7 = .ok (.if_icmp .eq 22, 3) := by decide +kernel
theorem dX5_areOnOneTrack_10 : decode cX5_areOnOneTrack 10 = .ok (.aload_n 0, 1) := by decide +kernel
theorem dX5_areOnOneTrack_11 : decode cX5_areOnOneTrack 11 = .ok (.getfield 134, 3) := by decide +kernel
theorem dX5_areOnOneTrack_14 : decode cX5_areOnOneTrack 14 = .ok (.iload_n 2, 1) := by decide +kernel
theorem dX5_areOnOneTrack_15 : decode cX5_areOnOneTrack 15 = .ok (.iaload, 1) := by decide +kernel
theorem dX5_areOnOneTrack_16 : decode cX5_areOnOneTrack 16 = .ok (.aload_n 1, 1) := by decide +kernel
theorem dX5_areOnOneTrack_17 : decode cX5_areOnOneTrack 17 = .ok (.getfield 134, 3) := by decide +kernel
theorem dX5_areOnOneTrack_20 : decode cX5_areOnOneTrack 20 = .ok (.iload_n 2, 1) := by decide +kernel
theorem dX5_areOnOneTrack_21 : decode cX5_areOnOneTrack 21 = .ok (.iaload, 1) := by decide +kernel
theorem dX5_areOnOneTrack_22 : decode cX5_areOnOneTrack 22 = .ok (.if_icmp .ne 7, 3) := by decide +kernel
theorem dX5_areOnOneTrack_25 : decode cX5_areOnOneTrack 25 = .ok (.iconst 1, 1) := by decide +kernel
theorem dX5_areOnOneTrack_26 : decode cX5_areOnOneTrack 26 = .ok (.goto 4, 3) := by decide +kernel
theorem dX5_areOnOneTrack_29 : decode cX5_areOnOneTrack 29 = .ok (.iconst 0, 1) := by decide +kernel
theorem dX5_areOnOneTrack_30 : decode cX5_areOnOneTrack 30 = .ok (.ireturn, 1) := by decide +kernel
theorem dX5_exchangePlaces_0 : decode cX5_exchangePlaces 0 = .ok (.iload_n 2, 1) := by decide +kernel
theorem dX5_exchangePlaces_1 : decode cX5_exchangePlaces 1 = .ok (.iconst 1, 1) := by decide +kernel
theorem dX5_exchangePlaces_2 : decode cX5_exchangePlaces 2 = .ok (.iadd, 1) := by decide +kernel
theorem dX5_exchangePlaces_3 : decode cX5_exchangePlaces 3 = .ok (.istore_n 3, 1) := by decide +kernel
theorem dX5_exchangePlaces_4 : decode cX5_exchangePlaces 4 = .ok (.iload_n 3, 1) := by decide +kernel
theorem dX5_exchangePlaces_5 : decode cX5_exchangePlaces 5 = .ok (.sipush 1000, 3) := by decide +kernel
theorem dX5_exchangePlaces_8 : decode cX5_exchangePlaces 8 = .ok (.if_icmp .ge 46, 3) := by decide +kernel
theorem dX5_exchangePlaces_11 : decode cX5_exchangePlaces 11 = .ok (.aload_n 0, 1) := by decide +kernel
theorem dX5_exchangePlaces_12 : decode cX5_exchangePlaces 12 = .ok (.aload_n 1, 1) := by decide +kernel
theorem dX5_exchangePlaces_13 : decode cX5_exchangePlaces 13 = .ok (.iload_n 3, 1) := by decide +kernel
theorem dX5_exchangePlaces_14 : decode cX5_exchangePlaces 14 = .ok (.invokestatic 262, 3) := by decide +kernel
theorem dX5_exchangePlaces_17 : decode cX5_exchangePlaces 17 = .ok (.ifCond .eq 37, 3) := by decide +kernel
theorem dX5_exchangePlaces_20 : decode cX5_exchangePlaces 20 = .ok (.aload_n 0, 1) := by decide +kernel
theorem dX5_exchangePlaces_21 : decode cX5_exchangePlaces 21 = .ok (.getfield 130, 3) := by decide +kernel
theorem dX5_exchangePlaces_24 : decode cX5_exchangePlaces 24 = .ok (.iload_n 2, 1) := by decide +kernel
theorem dX5_exchangePlaces_25 : decode cX5_exchangePlaces 25 = .ok (.iaload, 1) := by decide +kernel
theorem dX5_exchangePlaces_26 : decode cX5_exchangePlaces 26 = .ok (.aload_n 1, 1) := by decide +kernel
theorem dX5_exchangePlaces_27 : decode cX5_exchangePlaces 27 = .ok (.getfield 130, 3) := by decide +kernel
theorem dX5_exchangePlaces_30 : decode cX5_exchangePlaces 30 = .ok (.iload_n 3, 1) := by decide +kernel
theorem dX5_exchangePlaces_31 : decode cX5_exchangePlaces 31 = .ok (.iaload, 1) := by decide +kernel
theorem dX5_exchangePlaces_32 : decode cX5_exchangePlaces 32 = .ok (.if_icmp .ne 22, 3) := by decide +kernel
theorem dX5_exchangePlaces_35 : decode cX5_exchangePlaces 35 = .ok (.aload_n 1, 1) := by decide +kernel
theorem dX5_exchangePlaces_36 : decode cX5_exchangePlaces 36 = .ok (.getfield 130, 3) := by decide +kernel
theorem dX5_exchangePlaces_39 : decode cX5_exchangePlaces 39 = .ok (.iload_n 2, 1) := by decide +kernel
theorem dX5_exchangePlaces_40 : decode cX5_exchangePlaces 40 = .ok (.iaload, 1) := by decide +kernel
theorem dX5_exchangePlaces_41 : decode cX5_exchangePlaces 41 = .ok (.aload_n 0, 1) := by decide +kernel
theorem dX5_exchangePlaces_42 : decode cX5_exchangePlaces 42 = .ok (.getfield 130, 3) := by decide +kernel
theorem dX5_exchangePlaces_45 : decode cX5_exchangePlaces 45 = .ok (.iload_n 3, 1) := by decide +kernel
theorem dX5_exchangePlaces_46 : decode cX5_exchangePlaces 46 = .ok (.iaload, 1) := by decide +kernel
theorem dX5_exchangePlaces_47 : decode cX5_exchangePlaces 47 = .ok (.if_icmp .ne 7, 3) := by decide +kernel
theorem dX5_exchangePlaces_50 : decode cX5_exchangePlaces 50 = .ok (.iconst 1, 1) := by decide +kernel
theorem dX5_exchangePlaces_51 : decode cX5_exchangePlaces 51 = .ok (.goto 4, 3) := by decide +kernel
theorem dX5_exchangePlaces_54 : decode cX5_exchangePlaces 54 = .ok (.iconst 0, 1) := by decide +kernel
theorem dX5_exchangePlaces_55 : decode cX5_exchangePlaces 55 = .ok (.ireturn, 1) := by decide +kernel
theorem dX5_findCasting_0 : decode cX5_findCasting 0 = .ok (.aload_n 0, 1) := by decide +kernel
theorem dX5_findCasting_1 : decode cX5_findCasting 1 = .ok (.getfield 29, 3) := by decide +kernel
theorem dX5_findCasting_4 : decode cX5_findCasting 4 = .ok (.ifCond .eq 4, 3) := by decide +kernel
theorem dX5_findCasting_7 : decode cX5_findCasting 7 = .ok (.return_, 1) := by decide +kernel
theorem dX5_findCasting_8 : decode cX5_findCasting 8 = .ok (.iconst 0, 1) := by decide +kernel
theorem dX5_findCasting_9 : decode cX5_findCasting 9 = .ok (.istore_n 1, 1) := by decide +kernel
theorem dX5_findCasting_10 : decode cX5_findCasting 10 = .ok (.iload_n 1, 1) := by decide +kernel
theorem dX5_findCasting_11 : decode cX5_findCasting 11 = .ok (.aload_n 0, 1) := by decide +kernel
theorem dX5_findCasting_12 : decode cX5_findCasting 12 = .ok (.getfield 16, 3) := by decide +kernel
theorem dX5_findCasting_15 : decode cX5_findCasting 15 = .ok (.invokevirtual 48, 3) := by decide +kernel
theorem dX5_findCasting_18 : decode cX5_findCasting 18 = .ok (.if_icmp .ge 23, 3) := by decide +kernel
theorem dX5_findCasting_21 : decode cX5_findCasting 21 = .ok (.aload_n 0, 1) := by decide +kernel
theorem dX5_findCasting_22 : decode cX5_findCasting 22 = .ok (.getfield 16, 3) := by decide +kernel
theorem dX5_findCasting_25 : decode cX5_findCasting 25 = .ok (.iload_n 1, 1) := by decide +kernel
theorem dX5_findCasting_26 : decode cX5_findCasting 26 = .ok (.invokevirtual 137, 3) := by decide +kernel
theorem dX5_findCasting_29 : decode cX5_findCasting 29 = .ok (.checkcast 74, 3) := by decide +kernel
theorem dX5_findCasting_32 : decode cX5_findCasting 32 = .ok (.invokevirtual 269, 3) := by decide +kernel
theorem dX5_findCasting_35 : decode cX5_findCasting 35 = .ok (.iinc 1 1, 3) := by decide +kernel
theorem dX5_findCasting_38 : decode cX5_findCasting 38 = .ok (.goto (-28), 3) := by decide +kernel
theorem dX5_findCasting_41 : decode cX5_findCasting 41 = .ok (.aload_n 0, 1) := by decide +kernel
theorem dX5_findCasting_42 : decode cX5_findCasting 42 = .ok (.invokevirtual 272, 3) := by decide +kernel
theorem dX5_findCasting_45 : decode cX5_findCasting 45 = .ok (.iconst 0, 1) := by decide +kernel
theorem dX5_findCasting_46 : decode cX5_findCasting 46 = .ok (.istore_n 1, 1) := by decide +kernel
theorem dX5_findCasting_47 : decode cX5_findCasting 47 = .ok (.iload_n 1, 1) := by decide +kernel
theorem dX5_findCasting_48 : decode cX5_findCasting 48 = .ok (.aload_n 0, 1) := by decide +kernel
theorem dX5_findCasting_49 : decode cX5_findCasting 49 = .ok (.getfield 22, 3) := by decide +kernel
theorem dX5_findCasting_52 : decode cX5_findCasting 52 = .ok (.invokevirtual 48, 3) := by decide +kernel
theorem dX5_findCasting_55 : decode cX5_findCasting 55 = .ok (.if_icmp .ge 24, 3) := by decide +kernel
theorem dX5_findCasting_58 : decode cX5_findCasting 58 = .ok (.aload_n 0, 1) := by decide +kernel
theorem dX5_findCasting_59 : decode cX5_findCasting 59 = .ok (.aload_n 0, 1) := by decide +kernel
theorem dX5_findCasting_60 : decode cX5_findCasting 60 = .ok (.getfield 22, 3) := by decide +kernel
theorem dX5_findCasting_63 : decode cX5_findCasting 63 = .ok (.iload_n 1, 1) := by decide +kernel
theorem dX5_findCasting_64 : decode cX5_findCasting 64 = .ok (.invokevirtual 137, 3) := by decide +kernel
theorem dX5_findCasting_67 : decode cX5_findCasting 67 = .ok (.checkcast 156, 3) := by decide +kernel
theorem dX5_findCasting_70 : decode cX5_findCasting 70 = .ok (.invokevirtual 275, 3) := by decide +kernel
theorem dX5_findCasting_73 : decode cX5_findCasting 73 = .ok (.iinc 1 1, 3) := by decide +kernel
theorem dX5_findCasting_76 : decode cX5_findCasting 76 = .ok (.goto (-29), 3) := by decide +kernel
theorem dX5_findCasting_79 : decode cX5_findCasting 79 = .ok (.aload_n 0, 1) := by decide +kernel
theorem dX5_findCasting_80 : decode cX5_findCasting 80 = .ok (.iconst 1, 1) := by decide +kernel
theorem dX5_findCasting_81 : decode cX5_findCasting 81 = .ok (.putfield 29, 3) := by decide +kernel
theorem dX5_findCasting_84 : decode cX5_findCasting 84 = .ok (.return_, 1) := by decide +kernel
theorem dX5_orderStays_0 : decode cX5_orderStays 0 = .ok (.aload_n 0, 1) := by decide +kernel
theorem dX5_orderStays_1 : decode cX5_orderStays 1 = .ok (.getfield 22, 3) := by decide +kernel
theorem dX5_orderStays_4 : decode cX5_orderStays 4 = .ok (.invokevirtual 279, 3) := by decide +kernel
theorem dX5_orderStays_7 : decode cX5_orderStays 7 = .ok (.iconst 0, 1) := by decide +kernel
theorem dX5_orderStays_8 : decode cX5_orderStays 8 = .ok (.istore_n 1, 1) := by decide +kernel
theorem dX5_orderStays_9 : decode cX5_orderStays 9 = .ok (.iload_n 1, 1) := by decide +kernel
theorem dX5_orderStays_10 : decode cX5_orderStays 10 = .ok (.aload_n 0, 1) := by decide +kernel
theorem dX5_orderStays_11 : decode cX5_orderStays 11 = .ok (.getfield 10, 3) := by decide +kernel
theorem dX5_orderStays_14 : decode cX5_orderStays 14 = .ok (.invokevirtual 48, 3) := by decide +kernel
theorem dX5_orderStays_17 : decode cX5_orderStays 17 = .ok (.if_icmp .ge 52, 3) := by decide +kernel
theorem dX5_orderStays_20 : decode cX5_orderStays 20 = .ok (.aload_n 0, 1) := by decide +kernel
theorem dX5_orderStays_21 : decode cX5_orderStays 21 = .ok (.getfield 10, 3) := by decide +kernel
theorem dX5_orderStays_24 : decode cX5_orderStays 24 = .ok (.iload_n 1, 1) := by decide +kernel
theorem dX5_orderStays_25 : decode cX5_orderStays 25 = .ok (.invokevirtual 137, 3) := by decide +kernel
theorem dX5_orderStays_28 : decode cX5_orderStays 28 = .ok (.checkcast 57, 3) := by decide +kernel
theorem dX5_orderStays_31 : decode cX5_orderStays 31 = .ok (.getfield 153, 3) := by decide +kernel
theorem dX5_orderStays_34 : decode cX5_orderStays 34 = .ok (.astore_n 2, 1) := by decide +kernel
theorem dX5_orderStays_35 : decode cX5_orderStays 35 = .ok (.iconst 0, 1) := by decide +kernel
theorem dX5_orderStays_36 : decode cX5_orderStays 36 = .ok (.istore_n 3, 1) := by decide +kernel
theorem dX5_orderStays_37 : decode cX5_orderStays 37 = .ok (.iload_n 3, 1) := by decide +kernel
theorem dX5_orderStays_38 : decode cX5_orderStays 38 = .ok (.aload_n 2, 1) := by decide +kernel
theorem dX5_orderStays_39 : decode cX5_orderStays 39 = .ok (.invokevirtual 48, 3) := by decide +kernel
theorem dX5_orderStays_42 : decode cX5_orderStays 42 = .ok (.if_icmp .ge 21, 3) := by decide +kernel
theorem dX5_orderStays_45 : decode cX5_orderStays 45 = .ok (.aload_n 0, 1) := by decide +kernel
theorem dX5_orderStays_46 : decode cX5_orderStays 46 = .ok (.aload_n 2, 1) := by decide +kernel
theorem dX5_orderStays_47 : decode cX5_orderStays 47 = .ok (.iload_n 3, 1) := by decide +kernel
theorem dX5_orderStays_48 : decode cX5_orderStays 48 = .ok (.invokevirtual 137, 3) := by decide +kernel
theorem dX5_orderStays_51 : decode cX5_orderStays 51 = .ok (.checkcast 156, 3) := by decide +kernel
theorem dX5_orderStays_54 : decode cX5_orderStays 54 = .ok (.invokevirtual 282, 3) := by decide +kernel
theorem dX5_orderStays_57 : decode cX5_orderStays 57 = .ok (.iinc 3 1, 3) := by decide +kernel
theorem dX5_orderStays_60 : decode cX5_orderStays 60 = .ok (.goto (-23), 3) := by decide +kernel
theorem dX5_orderStays_63 : decode cX5_orderStays 63 = .ok (.iinc 1 1, 3) := by decide +kernel
theorem dX5_orderStays_66 : decode cX5_orderStays 66 = .ok (.goto (-57), 3) := by decide +kernel
theorem dX5_orderStays_69 : decode cX5_orderStays 69 = .ok (.return_, 1) := by decide +kernel
theorem dX5_putInOrder_0 : decode cX5_putInOrder 0 = .ok (.aload_n 0, 1) := by decide +kernel
theorem dX5_putInOrder_1 : decode cX5_putInOrder 1 = .ok (.getfield 22, 3) := by decide +kernel
theorem dX5_putInOrder_4 : decode cX5_putInOrder 4 = .ok (.invokevirtual 48, 3) := by decide +kernel
theorem dX5_putInOrder_7 : decode cX5_putInOrder 7 = .ok (.istore_n 2, 1) := by decide +kernel
theorem dX5_putInOrder_8 : decode cX5_putInOrder 8 = .ok (.iload_n 2, 1) := by decide +kernel
theorem dX5_putInOrder_9 : decode cX5_putInOrder 9 = .ok (.ifCond .le 32, 3) := by decide +kernel
theorem dX5_putInOrder_12 : decode cX5_putInOrder 12 = .ok (.aload_n 0, 1) := by decide +kernel
theorem dX5_putInOrder_13 : decode cX5_putInOrder 13 = .ok (.getfield 22, 3) := by decide +kernel
theorem dX5_putInOrder_16 : decode cX5_putInOrder 16 = .ok (.iload_n 2, 1) := by decide +kernel
theorem dX5_putInOrder_17 : decode cX5_putInOrder 17 = .ok (.iconst 1, 1) := by decide +kernel
theorem dX5_putInOrder_18 : decode cX5_putInOrder 18 = .ok (.isub, 1) := by decide +kernel
theorem dX5_putInOrder_19 : decode cX5_putInOrder 19 = .ok (.invokevirtual 137, 3) := by decide +kernel
theorem dX5_putInOrder_22 : decode cX5_putInOrder 22 = .ok (.checkcast 156, 3) := by decide +kernel
theorem dX5_putInOrder_25 : decode cX5_putInOrder 25 = .ok (.getfield 161, 3) := by decide +kernel
theorem dX5_putInOrder_28 : decode cX5_putInOrder 28 = .ok (.aload_n 1, 1) := by decide +kernel
theorem dX5_putInOrder_29 : decode cX5_putInOrder 29 = .ok (.getfield 161, 3) := by decide +kernel
theorem dX5_putInOrder_32 : decode cX5_putInOrder 32 = .ok (.if_icmp .le 9, 3) := by decide +kernel
theorem dX5_putInOrder_35 : decode cX5_putInOrder 35 = .ok (.iinc 2 (-1), 3) := by decide +kernel
theorem dX5_putInOrder_38 : decode cX5_putInOrder 38 = .ok (.goto (-30), 3) := by decide +kernel
theorem dX5_putInOrder_41 : decode cX5_putInOrder 41 = .ok (.aload_n 0, 1) := by decide +kernel
theorem dX5_putInOrder_42 : decode cX5_putInOrder 42 = .ok (.getfield 22, 3) := by decide +kernel
theorem dX5_putInOrder_45 : decode cX5_putInOrder 45 = .ok (.iload_n 2, 1) := by decide +kernel
theorem dX5_putInOrder_46 : decode cX5_putInOrder 46 = .ok (.aload_n 1, 1) := by decide +kernel
theorem dX5_putInOrder_47 : decode cX5_putInOrder 47 = .ok (.invokevirtual 285, 3) := by decide +kernel
theorem dX5_putInOrder_50 : decode cX5_putInOrder 50 = .ok (.return_, 1) := by decide +kernel
theorem dX5_namePlayer_0 : decode cX5_namePlayer 0 = .ok (.aload_n 1, 1) := by decide +kernel
theorem dX5_namePlayer_1 : decode cX5_namePlayer 1 = .ok (.iconst (-1), 1) := by decide +kernel
theorem dX5_namePlayer_2 : decode cX5_namePlayer 2 = .ok (.putfield 173, 3) := by decide +kernel
theorem dX5_namePlayer_5 : decode cX5_namePlayer 5 = .ok (.iconst 0, 1) := by decide +kernel
theorem dX5_namePlayer_6 : decode cX5_namePlayer 6 = .ok (.istore_n 2, 1) := by decide +kernel
theorem dX5_namePlayer_7 : decode cX5_namePlayer 7 = .ok (.iload_n 2, 1) := by decide +kernel
theorem dX5_namePlayer_8 : decode cX5_namePlayer 8 = .ok (.aload_n 0, 1) := by decide +kernel
theorem dX5_namePlayer_9 : decode cX5_namePlayer 9 = .ok (.getfield 16, 3) := by decide +kernel
theorem dX5_namePlayer_12 : decode cX5_namePlayer 12 = .ok (.invokevirtual 48, 3) := by decide +kernel
theorem dX5_namePlayer_15 : decode cX5_namePlayer 15 = .ok (.if_icmp .ge 41, 3) := by decide +kernel
theorem dX5_namePlayer_18 : decode cX5_namePlayer 18 = .ok (.aload_n 0, 1) := by decide +kernel
theorem dX5_namePlayer_19 : decode cX5_namePlayer 19 = .ok (.getfield 16, 3) := by decide +kernel
theorem dX5_namePlayer_22 : decode cX5_namePlayer 22 = .ok (.iload_n 2, 1) := by decide +kernel
theorem dX5_namePlayer_23 : decode cX5_namePlayer 23 = .ok (.invokevirtual 137, 3) := by decide +kernel
theorem dX5_namePlayer_26 : decode cX5_namePlayer 26 = .ok (.checkcast 74, 3) := by decide +kernel
theorem dX5_namePlayer_29 : decode cX5_namePlayer 29 = .ok (.astore_n 3, 1) := by decide +kernel
theorem dX5_namePlayer_30 : decode cX5_namePlayer 30 = .ok (.aload_n 0, 1) := by decide +kernel
theorem dX5_namePlayer_31 : decode cX5_namePlayer 31 = .ok (.aload_n 3, 1) := by decide +kernel
theorem dX5_namePlayer_32 : decode cX5_namePlayer 32 = .ok (.aload_n 1, 1) := by decide +kernel
theorem dX5_namePlayer_33 : decode cX5_namePlayer 33 = .ok (.invokevirtual 288, 3) := by decide +kernel
theorem dX5_namePlayer_36 : decode cX5_namePlayer 36 = .ok (.ifCond .eq 14, 3) := by decide +kernel
theorem dX5_namePlayer_39 : decode cX5_namePlayer 39 = .ok (.aload_n 3, 1) := by decide +kernel
theorem dX5_namePlayer_40 : decode cX5_namePlayer 40 = .ok (.aload_n 1, 1) := by decide +kernel
theorem dX5_namePlayer_41 : decode cX5_namePlayer 41 = .ok (.invokevirtual 292, 3) := by decide +kernel
theorem dX5_namePlayer_44 : decode cX5_namePlayer 44 = .ok (.aload_n 1, 1) := by decide +kernel
theorem dX5_namePlayer_45 : decode cX5_namePlayer 45 = .ok (.iload_n 2, 1) := by decide +kernel
theorem dX5_namePlayer_46 : decode cX5_namePlayer 46 = .ok (.putfield 173, 3) := by decide +kernel
theorem dX5_namePlayer_49 : decode cX5_namePlayer 49 = .ok (.return_, 1) := by decide +kernel
theorem dX5_namePlayer_50 : decode cX5_namePlayer 50 = .ok (.iinc 2 1, 3) := by decide +kernel
theorem dX5_namePlayer_53 : decode cX5_namePlayer 53 = .ok (.goto (-46), 3) := by decide +kernel
theorem dX5_namePlayer_56 : decode cX5_namePlayer 56 = .ok (.return_, 1) := by decide +kernel
theorem dX5_canDo_0 : decode cX5_canDo 0 = .ok (.aload_n 0, 1) := by decide +kernel
theorem dX5_canDo_1 : decode cX5_canDo 1 = .ok (.aload_n 1, 1) := by decide +kernel
theorem dX5_canDo_2 : decode cX5_canDo 2 = .ok (.aload_n 2, 1) := by decide +kernel
theorem dX5_canDo_3 : decode cX5_canDo 3 = .ok (.invokevirtual 295, 3) := by decide +kernel
theorem dX5_canDo_6 : decode cX5_canDo 6 = .ok (.ifCond .ne 5, 3) := by decide +kernel
theorem dX5_canDo_9 : decode cX5_canDo 9 = .ok (.iconst 0, 1) := by decide +kernel
theorem dX5_canDo_10 : decode cX5_canDo 10 = .ok (.ireturn, 1) := by decide +kernel
theorem dX5_canDo_11 : decode cX5_canDo 11 = .ok (.aload_n 2, 1) := by decide +kernel
theorem dX5_canDo_12 : decode cX5_canDo 12 = .ok (.getfield 161, 3) := by decide +kernel
theorem dX5_canDo_15 : decode cX5_canDo 15 = .ok (.istore_n 3, 1) := by decide +kernel
theorem dX5_canDo_16 : decode cX5_canDo 16 = .ok (.iload_n 3, 1) := by decide +kernel
theorem dX5_canDo_17 : decode cX5_canDo 17 = .ok (.aload_n 2, 1) := by decide +kernel
theorem dX5_canDo_18 : decode cX5_canDo 18 = .ok (.getfield 158, 3) := by decide +kernel
theorem dX5_canDo_21 : decode cX5_canDo 21 = .ok (.if_icmp .ge 24, 3) := by decide +kernel
theorem dX5_canDo_24 : decode cX5_canDo 24 = .ok (.aload_n 0, 1) := by decide +kernel
theorem dX5_canDo_25 : decode cX5_canDo 25 = .ok (.aload_n 1, 1) := by decide +kernel
theorem dX5_canDo_26 : decode cX5_canDo 26 = .ok (.aload_n 2, 1) := by decide +kernel
theorem dX5_canDo_27 : decode cX5_canDo 27 = .ok (.getfield 298, 3) := by decide +kernel
theorem dX5_canDo_30 : decode cX5_canDo 30 = .ok (.iload_n 3, 1) := by decide +kernel
theorem dX5_canDo_31 : decode cX5_canDo 31 = .ok (.invokevirtual 299, 3) := by decide +kernel
theorem dX5_canDo_34 : decode cX5_canDo 34 = .ok (.ifCond .ne 5, 3) := by decide +kernel
theorem dX5_canDo_37 : decode cX5_canDo 37 = .ok (.iconst 0, 1) := by decide +kernel
theorem dX5_canDo_38 : decode cX5_canDo 38 = .ok (.ireturn, 1) := by decide +kernel
theorem dX5_canDo_39 : decode cX5_canDo 39 = .ok (.iinc 3 1, 3) := by decide +kernel
theorem dX5_canDo_42 : decode cX5_canDo 42 = .ok (.goto (-26), 3) := by decide +kernel
theorem dX5_canDo_45 : decode cX5_canDo 45 = .ok (.iconst 1, 1) := by decide +kernel
theorem dX5_canDo_46 : decode cX5_canDo 46 = .ok (.ireturn, 1) := by decide +kernel
theorem dX5_canComeToBeginning_0 : decode cX5_canComeToBeginning 0 = .ok (.aload_n 2, 1) := by decide +kernel
theorem dX5_canComeToBeginning_1 : decode cX5_canComeToBeginning 1 = .ok (.getfield 298, 3) := by decide +kernel
theorem dX5_canComeToBeginning_4 : decode cX5_canComeToBeginning 4 = .ok (.getfield 130, 3) := by decide +kernel
theorem dX5_canComeToBeginning_7 : decode cX5_canComeToBeginning 7 = .ok (.aload_n 2, 1) := by decide +kernel
theorem dX5_canComeToBeginning_8 : decode cX5_canComeToBeginning 8 = .ok (.getfield 161, 3) := by decide +kernel
theorem dX5_canComeToBeginning_11 : decode cX5_canComeToBeginning 11 = .ok (.iaload, 1) := by decide +kernel
theorem dX5_canComeToBeginning_12 : decode cX5_canComeToBeginning 12 = .ok (.istore_n 3, 1) := by decide +kernel
theorem dX5_canComeToBeginning_13 : decode cX5_canComeToBeginning 13 = .ok (.aload_n 2, 1) := by decide +kernel
theorem dX5_canComeToBeginning_14 : decode cX5_canComeToBeginning 14 = .ok (.getfield 161, 3) := by decide +kernel
theorem dX5_canComeToBeginning_17 : decode cX5_canComeToBeginning 17 = .ok (.iconst 1, 1) := by decide +kernel
theorem dX5_canComeToBeginning_18 : decode cX5_canComeToBeginning 18 = .ok (.isub, 1) := by decide +kernel
theorem dX5_canComeToBeginning_19 : decode cX5_canComeToBeginning 19 = .ok (.istore 4, 2) := by decide +kernel
theorem dX5_canComeToBeginning_21 : decode cX5_canComeToBeginning 21 = .ok (.iload 4, 2) := by decide +kernel
theorem dX5_canComeToBeginning_23 : decode cX5_canComeToBeginning 23 = .ok (.ifCond .lt 46, 3) := by decide +kernel
theorem dX5_canComeToBeginning_26 : decode cX5_canComeToBeginning 26 = .ok (.aload_n 1, 1) := by decide +kernel
theorem dX5_canComeToBeginning_27 : decode cX5_canComeToBeginning 27 = .ok (.getfield 180, 3) := by decide +kernel
theorem dX5_canComeToBeginning_30 : decode cX5_canComeToBeginning 30 = .ok (.iload 4, 2) := by decide +kernel
theorem dX5_canComeToBeginning_32 : decode cX5_canComeToBeginning 32 = .ok (.iaload, 1) := by decide +kernel
theorem dX5_canComeToBeginning_33 : decode cX5_canComeToBeginning 33 = .ok (.ifCond .eq 30, 3) := by decide +kernel
theorem dX5_canComeToBeginning_36 : decode cX5_canComeToBeginning 36 = .ok (.aload_n 0, 1) := by decide +kernel
theorem dX5_canComeToBeginning_37 : decode cX5_canComeToBeginning 37 = .ok (.aload_n 1, 1) := by decide +kernel
theorem dX5_canComeToBeginning_38 : decode cX5_canComeToBeginning 38 = .ok (.iload 4, 2) := by decide +kernel
theorem dX5_canComeToBeginning_40 : decode cX5_canComeToBeginning 40 = .ok (.invokevirtual 303, 3) := by decide +kernel
theorem dX5_canComeToBeginning_43 : decode cX5_canComeToBeginning 43 = .ok (.iload_n 3, 1) := by decide +kernel
theorem dX5_canComeToBeginning_44 : decode cX5_canComeToBeginning 44 = .ok (.invokestatic 307, 3) := by decide +kernel
theorem dX5_canComeToBeginning_47 : decode cX5_canComeToBeginning 47 = .ok (.aload_n 2, 1) := by decide +kernel
theorem dX5_canComeToBeginning_48 : decode cX5_canComeToBeginning 48 = .ok (.getfield 161, 3) := by decide +kernel
theorem dX5_canComeToBeginning_51 : decode cX5_canComeToBeginning 51 = .ok (.iload 4, 2) := by decide +kernel
theorem dX5_canComeToBeginning_53 : decode cX5_canComeToBeginning 53 = .ok (.isub, 1) := by decide +kernel
theorem dX5_canComeToBeginning_54 : decode cX5_canComeToBeginning 54 = .ok (.if_icmp .gt 7, 3) := by decide +kernel
theorem dX5_canComeToBeginning_57 : decode cX5_canComeToBeginning 57 = .ok (.iconst 1, 1) := by decide +kernel
theorem dX5_canComeToBeginning_58 : decode cX5_canComeToBeginning 58 = .ok (.goto 4, 3) := by decide +kernel
theorem dX5_canComeToBeginning_61 : decode cX5_canComeToBeginning 61 = .ok (.iconst 0, 1) := by decide +kernel
theorem dX5_canComeToBeginning_62 : decode cX5_canComeToBeginning 62 = .ok (.ireturn, 1) := by decide +kernel
theorem dX5_canComeToBeginning_63 : decode cX5_canComeToBeginning 63 = .ok (.iinc 4 (-1), 3) := by decide +kernel
theorem dX5_canComeToBeginning_66 : decode cX5_canComeToBeginning 66 = .ok (.goto (-45), 3) := by decide +kernel
theorem dX5_canComeToBeginning_69 : decode cX5_canComeToBeginning 69 = .ok (.aload_n 1, 1) := by decide +kernel
theorem dX5_canComeToBeginning_70 : decode cX5_canComeToBeginning 70 = .ok (.getfield 311, 3) := by decide +kernel
theorem dX5_canComeToBeginning_73 : decode cX5_canComeToBeginning 73 = .ok (.iload_n 3, 1) := by decide +kernel
theorem dX5_canComeToBeginning_74 : decode cX5_canComeToBeginning 74 = .ok (.invokestatic 307, 3) := by decide +kernel
theorem dX5_canComeToBeginning_77 : decode cX5_canComeToBeginning 77 = .ok (.aload_n 2, 1) := by decide +kernel
theorem dX5_canComeToBeginning_78 : decode cX5_canComeToBeginning 78 = .ok (.getfield 161, 3) := by decide +kernel
theorem dX5_canComeToBeginning_81 : decode cX5_canComeToBeginning 81 = .ok (.if_icmp .gt 7, 3) := by decide +kernel
theorem dX5_canComeToBeginning_84 : decode cX5_canComeToBeginning 84 = .ok (.iconst 1, 1) := by decide +kernel
theorem dX5_canComeToBeginning_85 : decode cX5_canComeToBeginning 85 = .ok (.goto 4, 3) := by decide +kernel
theorem dX5_canComeToBeginning_88 : decode cX5_canComeToBeginning 88 = .ok (.iconst 0, 1) := by decide +kernel
theorem dX5_canComeToBeginning_89 : decode cX5_canComeToBeginning 89 = .ok (.ireturn, 1) := by decide +kernel
theorem dX5_placeOfHeld_0 : decode cX5_placeOfHeld 0 = .ok (.iconst 0, 1) := by decide +kernel
theorem dX5_placeOfHeld_1 : decode cX5_placeOfHeld 1 = .ok (.istore_n 3, 1) := by decide +kernel
theorem dX5_placeOfHeld_2 : decode cX5_placeOfHeld 2 = .ok (.iload_n 3, 1) := by decide +kernel
theorem dX5_placeOfHeld_3 : decode cX5_placeOfHeld 3 = .ok (.aload_n 0, 1) := by decide +kernel
theorem dX5_placeOfHeld_4 : decode cX5_placeOfHeld 4 = .ok (.getfield 10, 3) := by decide +kernel
theorem dX5_placeOfHeld_7 : decode cX5_placeOfHeld 7 = .ok (.invokevirtual 48, 3) := by decide +kernel
theorem dX5_placeOfHeld_10 : decode cX5_placeOfHeld 10 = .ok (.if_icmp .ge 45, 3) := by decide +kernel
theorem dX5_placeOfHeld_13 : decode cX5_placeOfHeld 13 = .ok (.aload_n 1, 1) := by decide +kernel
theorem dX5_placeOfHeld_14 : decode cX5_placeOfHeld 14 = .ok (.aload_n 0, 1) := by decide +kernel
theorem dX5_placeOfHeld_15 : decode cX5_placeOfHeld 15 = .ok (.getfield 10, 3) := by decide +kernel
theorem dX5_placeOfHeld_18 : decode cX5_placeOfHeld 18 = .ok (.iload_n 3, 1) := by decide +kernel
theorem dX5_placeOfHeld_19 : decode cX5_placeOfHeld 19 = .ok (.invokevirtual 137, 3) := by decide +kernel
theorem dX5_placeOfHeld_22 : decode cX5_placeOfHeld 22 = .ok (.checkcast 57, 3) := by decide +kernel
theorem dX5_placeOfHeld_25 : decode cX5_placeOfHeld 25 = .ok (.iload_n 2, 1) := by decide +kernel
theorem dX5_placeOfHeld_26 : decode cX5_placeOfHeld 26 = .ok (.invokevirtual 314, 3) := by decide +kernel
theorem dX5_placeOfHeld_29 : decode cX5_placeOfHeld 29 = .ok (.ifCond .eq 20, 3) := by decide +kernel
theorem dX5_placeOfHeld_32 : decode cX5_placeOfHeld 32 = .ok (.aload_n 0, 1) := by decide +kernel
theorem dX5_placeOfHeld_33 : decode cX5_placeOfHeld 33 = .ok (.getfield 10, 3) := by decide +kernel
theorem dX5_placeOfHeld_36 : decode cX5_placeOfHeld 36 = .ok (.iload_n 3, 1) := by decide +kernel
theorem dX5_placeOfHeld_37 : decode cX5_placeOfHeld 37 = .ok (.invokevirtual 137, 3) := by decide +kernel
theorem dX5_placeOfHeld_40 : decode cX5_placeOfHeld 40 = .ok (.checkcast 57, 3) := by decide +kernel
theorem dX5_placeOfHeld_43 : decode cX5_placeOfHeld 43 = .ok (.getfield 130, 3) := by decide +kernel
theorem dX5_placeOfHeld_46 : decode cX5_placeOfHeld 46 = .ok (.iload_n 2, 1) := by decide +kernel
theorem dX5_placeOfHeld_47 : decode cX5_placeOfHeld 47 = .ok (.iaload, 1) := by decide +kernel
theorem dX5_placeOfHeld_48 : decode cX5_placeOfHeld 48 = .ok (.ireturn, 1) := by decide +kernel
theorem dX5_placeOfHeld_49 : decode cX5_placeOfHeld 49 = .ok (.iinc 3 1, 3) := by decide +kernel
theorem dX5_placeOfHeld_52 : decode cX5_placeOfHeld 52 = .ok (.goto (-50), 3) := by decide +kernel
theorem dX5_placeOfHeld_55 : decode cX5_placeOfHeld 55 = .ok (.aload_n 1, 1) := by decide +kernel
theorem dX5_placeOfHeld_56 : decode cX5_placeOfHeld 56 = .ok (.getfield 311, 3) := by decide +kernel
theorem dX5_placeOfHeld_59 : decode cX5_placeOfHeld 59 = .ok (.ireturn, 1) := by decide +kernel
theorem dX5_canHold_0 : decode cX5_canHold 0 = .ok (.aload_n 1, 1) := by decide +kernel
theorem dX5_canHold_1 : decode cX5_canHold 1 = .ok (.getfield 180, 3) := by decide +kernel
theorem dX5_canHold_4 : decode cX5_canHold 4 = .ok (.iload_n 3, 1) := by decide +kernel
theorem dX5_canHold_5 : decode cX5_canHold 5 = .ok (.iaload, 1) := by decide +kernel
theorem dX5_canHold_6 : decode cX5_canHold 6 = .ok (.ifCond .ne 20, 3) := by decide +kernel
theorem dX5_canHold_9 : decode cX5_canHold 9 = .ok (.aload_n 2, 1) := by decide +kernel
theorem dX5_canHold_10 : decode cX5_canHold 10 = .ok (.getfield 318, 3) := by decide +kernel
theorem dX5_canHold_13 : decode cX5_canHold 13 = .ok (.aload_n 1, 1) := by decide +kernel
theorem dX5_canHold_14 : decode cX5_canHold 14 = .ok (.getfield 321, 3) := by decide +kernel
theorem dX5_canHold_17 : decode cX5_canHold 17 = .ok (.if_icmp .gt 7, 3) := by decide +kernel
theorem dX5_canHold_20 : decode cX5_canHold 20 = .ok (.iconst 1, 1) := by decide +kernel
theorem dX5_canHold_21 : decode cX5_canHold 21 = .ok (.goto 4, 3) := by decide +kernel
theorem dX5_canHold_24 : decode cX5_canHold 24 = .ok (.iconst 0, 1) := by decide +kernel
theorem dX5_canHold_25 : decode cX5_canHold 25 = .ok (.ireturn, 1) := by decide +kernel
theorem dX5_canHold_26 : decode cX5_canHold 26 = .ok (.aload_n 2, 1) := by decide +kernel
theorem dX5_canHold_27 : decode cX5_canHold 27 = .ok (.getfield 324, 3) := by decide +kernel
theorem dX5_canHold_30 : decode cX5_canHold 30 = .ok (.istore 4, 2) := by decide +kernel
theorem dX5_canHold_32 : decode cX5_canHold 32 = .ok (.aload_n 2, 1) := by decide +kernel
theorem dX5_canHold_33 : decode cX5_canHold 33 = .ok (.getfield 318, 3) := by decide +kernel
theorem dX5_canHold_36 : decode cX5_canHold 36 = .ok (.istore 5, 2) := by decide +kernel
theorem dX5_canHold_38 : decode cX5_canHold 38 = .ok (.iconst 0, 1) := by decide +kernel
theorem dX5_canHold_39 : decode cX5_canHold 39 = .ok (.istore 6, 2) := by decide +kernel
theorem dX5_canHold_41 : decode cX5_canHold 41 = .ok (.iload 6, 2) := by decide +kernel
theorem dX5_canHold_43 : decode cX5_canHold 43 = .ok (.aload_n 0, 1) := by decide +kernel
theorem dX5_canHold_44 : decode cX5_canHold 44 = .ok (.getfield 10, 3) := by decide +kernel
theorem dX5_canHold_47 : decode cX5_canHold 47 = .ok (.invokevirtual 48, 3) := by decide +kernel
theorem dX5_canHold_50 : decode cX5_canHold 50 = .ok (.if_icmp .ge 71, 3) := by decide +kernel
theorem dX5_canHold_53 : decode cX5_canHold 53 = .ok (.aload_n 0, 1) := by decide +kernel
theorem dX5_canHold_54 : decode cX5_canHold 54 = .ok (.getfield 10, 3) := by decide +kernel
theorem dX5_canHold_57 : decode cX5_canHold 57 = .ok (.iload 6, 2) := by decide +kernel
theorem dX5_canHold_59 : decode cX5_canHold 59 = .ok (.invokevirtual 137, 3) := by decide +kernel
theorem dX5_canHold_62 : decode cX5_canHold 62 = .ok (.checkcast 57, 3) := by decide +kernel
theorem dX5_canHold_65 : decode cX5_canHold 65 = .ok (.astore 7, 2) := by decide +kernel
theorem dX5_canHold_67 : decode cX5_canHold 67 = .ok (.aload_n 1, 1) := by decide +kernel
theorem dX5_canHold_68 : decode cX5_canHold 68 = .ok (.aload 7, 2) := by decide +kernel
theorem dX5_canHold_70 : decode cX5_canHold 70 = .ok (.iload_n 3, 1) := by decide +kernel
theorem dX5_canHold_71 : decode cX5_canHold 71 = .ok (.invokevirtual 314, 3) := by decide +kernel
theorem dX5_canHold_74 : decode cX5_canHold 74 = .ok (.ifCond .eq 41, 3) := by decide +kernel
theorem dX5_canHold_77 : decode cX5_canHold 77 = .ok (.iload 4, 2) := by decide +kernel
theorem dX5_canHold_79 : decode cX5_canHold 79 = .ok (.aload 7, 2) := by decide +kernel
theorem dX5_canHold_81 : decode cX5_canHold 81 = .ok (.getfield 324, 3) := by decide +kernel
theorem dX5_canHold_84 : decode cX5_canHold 84 = .ok (.iadd, 1) := by decide +kernel
theorem dX5_canHold_85 : decode cX5_canHold 85 = .ok (.istore 4, 2) := by decide +kernel
theorem dX5_canHold_87 : decode cX5_canHold 87 = .ok (.iload 5, 2) := by decide +kernel
theorem dX5_canHold_89 : decode cX5_canHold 89 = .ok (.aload 7, 2) := by decide +kernel
theorem dX5_canHold_91 : decode cX5_canHold 91 = .ok (.getfield 318, 3) := by decide +kernel
theorem dX5_canHold_94 : decode cX5_canHold 94 = .ok (.iadd, 1) := by decide +kernel
theorem dX5_canHold_95 : decode cX5_canHold 95 = .ok (.istore 5, 2) := by decide +kernel
theorem dX5_canHold_97 : decode cX5_canHold 97 = .ok (.aload 7, 2) := by decide +kernel
theorem dX5_canHold_99 : decode cX5_canHold 99 = .ok (.getfield 130, 3) := by decide +kernel
theorem dX5_canHold_102 : decode cX5_canHold 102 = .ok (.iload_n 3, 1) := by decide +kernel
theorem dX5_canHold_103 : decode cX5_canHold 103 = .ok (.iaload, 1) := by decide +kernel
theorem dX5_canHold_104 : decode cX5_canHold 104 = .ok (.aload_n 2, 1) := by decide +kernel
theorem dX5_canHold_105 : decode cX5_canHold 105 = .ok (.getfield 130, 3) := by decide +kernel
theorem dX5_canHold_108 : decode cX5_canHold 108 = .ok (.iload_n 3, 1) := by decide +kernel
theorem dX5_canHold_109 : decode cX5_canHold 109 = .ok (.iaload, 1) := by decide +kernel
theorem dX5_canHold_110 : decode cX5_canHold 110 = .ok (.if_icmp .eq 5, 3) := by decide +kernel
theorem dX5_canHold_113 : decode cX5_canHold 113 = .ok (.iconst 0, 1) := by decide +kernel
theorem dX5_canHold_114 : decode cX5_canHold 114 = .ok (.ireturn, 1) := by decide +kernel
theorem dX5_canHold_115 : decode cX5_canHold 115 = .ok (.iinc 6 1, 3) := by decide +kernel
theorem dX5_canHold_118 : decode cX5_canHold 118 = .ok (.goto (-77), 3) := by decide +kernel
theorem dX5_canHold_121 : decode cX5_canHold 121 = .ok (.iload 4, 2) := by decide +kernel
theorem dX5_canHold_123 : decode cX5_canHold 123 = .ok (.iconst 2, 1) := by decide +kernel
theorem dX5_canHold_124 : decode cX5_canHold 124 = .ok (.if_icmp .gt 16, 3) := by decide +kernel
theorem dX5_canHold_127 : decode cX5_canHold 127 = .ok (.iload 5, 2) := by decide +kernel
theorem dX5_canHold_129 : decode cX5_canHold 129 = .ok (.aload_n 1, 1) := by decide +kernel
theorem dX5_canHold_130 : decode cX5_canHold 130 = .ok (.getfield 321, 3) := by decide +kernel
theorem dX5_canHold_133 : decode cX5_canHold 133 = .ok (.if_icmp .gt 7, 3) := by decide +kernel
theorem dX5_canHold_136 : decode cX5_canHold 136 = .ok (.iconst 1, 1) := by decide +kernel
theorem dX5_canHold_137 : decode cX5_canHold 137 = .ok (.goto 4, 3) := by decide +kernel
theorem dX5_canHold_140 : decode cX5_canHold 140 = .ok (.iconst 0, 1) := by decide +kernel
theorem dX5_canHold_141 : decode cX5_canHold 141 = .ok (.ireturn, 1) := by decide +kernel
theorem dX5_digestWith_0 : decode cX5_digestWith 0 = .ok (.lload_n 0, 1) := by decide +kernel
theorem dX5_digestWith_1 : decode cX5_digestWith 1 = .ok (.ldc2_w 327, 3) := by decide +kernel
theorem dX5_digestWith_4 : decode cX5_digestWith 4 = .ok (.lmul, 1) := by decide +kernel
theorem dX5_digestWith_5 : decode cX5_digestWith 5 = .ok (.iload_n 2, 1) := by decide +kernel
theorem dX5_digestWith_6 : decode cX5_digestWith 6 = .ok (.i2l, 1) := by decide +kernel
theorem dX5_digestWith_7 : decode cX5_digestWith 7 = .ok (.ladd, 1) := by decide +kernel
theorem dX5_digestWith_8 : decode cX5_digestWith 8 = .ok (.lreturn, 1) := by decide +kernel
theorem dX5_digestWithStays_0 : decode cX5_digestWithStays 0 = .ok (.lload_n 0, 1) := by decide +kernel
theorem dX5_digestWithStays_1 : decode cX5_digestWithStays 1 = .ok (.aload_n 2, 1) := by decide +kernel
theorem dX5_digestWithStays_2 : decode cX5_digestWithStays 2 = .ok (.invokevirtual 48, 3) := by decide +kernel
theorem dX5_digestWithStays_5 : decode cX5_digestWithStays 5 = .ok (.invokestatic 207, 3) := by decide +kernel
theorem dX5_digestWithStays_8 : decode cX5_digestWithStays 8 = .ok (.lstore_n 3, 1) := by decide +kernel
theorem dX5_digestWithStays_9 : decode cX5_digestWithStays 9 = .ok (.iconst 0, 1) := by decide +kernel
theorem dX5_digestWithStays_10 : decode cX5_digestWithStays 10 = .ok (.istore 5, 2) := by decide +kernel
theorem dX5_digestWithStays_12 : decode cX5_digestWithStays 12 = .ok (.iload 5, 2) := by decide +kernel
theorem dX5_digestWithStays_14 : decode cX5_digestWithStays 14 = .ok (.aload_n 2, 1) := by decide +kernel
theorem dX5_digestWithStays_15 : decode cX5_digestWithStays 15 = .ok (.invokevirtual 48, 3) := by decide +kernel
theorem dX5_digestWithStays_18 : decode cX5_digestWithStays 18 = .ok (.if_icmp .ge 43, 3) := by decide +kernel
theorem dX5_digestWithStays_21 : decode cX5_digestWithStays 21 = .ok (.iconst 0, 1) := by decide +kernel
theorem dX5_digestWithStays_22 : decode cX5_digestWithStays 22 = .ok (.istore 6, 2) := by decide +kernel
theorem dX5_digestWithStays_24 : decode cX5_digestWithStays 24 = .ok (.iload 6, 2) := by decide +kernel
theorem dX5_digestWithStays_26 : decode cX5_digestWithStays 26 = .ok (.iconst 3, 1) := by decide +kernel
theorem dX5_digestWithStays_27 : decode cX5_digestWithStays 27 = .ok (.if_icmp .ge 28, 3) := by decide +kernel
theorem dX5_digestWithStays_30 : decode cX5_digestWithStays 30 = .ok (.lload_n 3, 1) := by decide +kernel
theorem dX5_digestWithStays_31 : decode cX5_digestWithStays 31 = .ok (.aload_n 2, 1) := by decide +kernel
theorem dX5_digestWithStays_32 : decode cX5_digestWithStays 32 = .ok (.iload 5, 2) := by decide +kernel
theorem dX5_digestWithStays_34 : decode cX5_digestWithStays 34 = .ok (.invokevirtual 137, 3) := by decide +kernel
theorem dX5_digestWithStays_37 : decode cX5_digestWithStays 37 = .ok (.checkcast 156, 3) := by decide +kernel
theorem dX5_digestWithStays_40 : decode cX5_digestWithStays 40 = .ok (.iload 6, 2) := by decide +kernel
theorem dX5_digestWithStays_42 : decode cX5_digestWithStays 42 = .ok (.invokestatic 169, 3) := by decide +kernel
theorem dX5_digestWithStays_45 : decode cX5_digestWithStays 45 = .ok (.invokestatic 207, 3) := by decide +kernel
theorem dX5_digestWithStays_48 : decode cX5_digestWithStays 48 = .ok (.lstore_n 3, 1) := by decide +kernel
theorem dX5_digestWithStays_49 : decode cX5_digestWithStays 49 = .ok (.iinc 6 1, 3) := by decide +kernel
theorem dX5_digestWithStays_52 : decode cX5_digestWithStays 52 = .ok (.goto (-28), 3) := by decide +kernel
theorem dX5_digestWithStays_55 : decode cX5_digestWithStays 55 = .ok (.iinc 5 1, 3) := by decide +kernel
theorem dX5_digestWithStays_58 : decode cX5_digestWithStays 58 = .ok (.goto (-46), 3) := by decide +kernel
theorem dX5_digestWithStays_61 : decode cX5_digestWithStays 61 = .ok (.lload_n 3, 1) := by decide +kernel
theorem dX5_digestWithStays_62 : decode cX5_digestWithStays 62 = .ok (.lreturn, 1) := by decide +kernel
theorem dX5_digestWithCue_0 : decode cX5_digestWithCue 0 = .ok (.aload_n 2, 1) := by decide +kernel
theorem dX5_digestWithCue_1 : decode cX5_digestWithCue 1 = .ok (.getfield 112, 3) := by decide +kernel
theorem dX5_digestWithCue_4 : decode cX5_digestWithCue 4 = .ok (.ifCond .eq 5, 3) := by decide +kernel
theorem dX5_digestWithCue_7 : decode cX5_digestWithCue 7 = .ok (.lload_n 0, 1) := by decide +kernel
theorem dX5_digestWithCue_8 : decode cX5_digestWithCue 8 = .ok (.lreturn, 1) := by decide +kernel
theorem dX5_digestWithCue_9 : decode cX5_digestWithCue 9 = .ok (.lload_n 0, 1) := by decide +kernel
theorem dX5_digestWithCue_10 : decode cX5_digestWithCue 10 = .ok (.lstore_n 3, 1) := by decide +kernel
theorem dX5_digestWithCue_11 : decode cX5_digestWithCue 11 = .ok (.iconst 0, 1) := by decide +kernel
theorem dX5_digestWithCue_12 : decode cX5_digestWithCue 12 = .ok (.istore 5, 2) := by decide +kernel
theorem dX5_digestWithCue_14 : decode cX5_digestWithCue 14 = .ok (.iload 5, 2) := by decide +kernel
theorem dX5_digestWithCue_16 : decode cX5_digestWithCue 16 = .ok (.iconst 5, 1) := by decide +kernel
theorem dX5_digestWithCue_17 : decode cX5_digestWithCue 17 = .ok (.if_icmp .ge 20, 3) := by decide +kernel
theorem dX5_digestWithCue_20 : decode cX5_digestWithCue 20 = .ok (.lload_n 3, 1) := by decide +kernel
theorem dX5_digestWithCue_21 : decode cX5_digestWithCue 21 = .ok (.aload_n 2, 1) := by decide +kernel
theorem dX5_digestWithCue_22 : decode cX5_digestWithCue 22 = .ok (.iload 5, 2) := by decide +kernel
theorem dX5_digestWithCue_24 : decode cX5_digestWithCue 24 = .ok (.invokestatic 126, 3) := by decide +kernel
theorem dX5_digestWithCue_27 : decode cX5_digestWithCue 27 = .ok (.invokestatic 207, 3) := by decide +kernel
theorem dX5_digestWithCue_30 : decode cX5_digestWithCue 30 = .ok (.lstore_n 3, 1) := by decide +kernel
theorem dX5_digestWithCue_31 : decode cX5_digestWithCue 31 = .ok (.iinc 5 1, 3) := by decide +kernel
theorem dX5_digestWithCue_34 : decode cX5_digestWithCue 34 = .ok (.goto (-20), 3) := by decide +kernel
theorem dX5_digestWithCue_37 : decode cX5_digestWithCue 37 = .ok (.lload_n 3, 1) := by decide +kernel
theorem dX5_digestWithCue_38 : decode cX5_digestWithCue 38 = .ok (.aload_n 2, 1) := by decide +kernel
theorem dX5_digestWithCue_39 : decode cX5_digestWithCue 39 = .ok (.getfield 188, 3) := by decide +kernel
theorem dX5_digestWithCue_42 : decode cX5_digestWithCue 42 = .ok (.invokestatic 207, 3) := by decide +kernel
theorem dX5_digestWithCue_45 : decode cX5_digestWithCue 45 = .ok (.lreturn, 1) := by decide +kernel
theorem dJ6_signum_0f7a4_0 : decode cJ6_signum_0f7a4 0 = .ok (.iload_n 0, 1) := by decide +kernel
theorem dJ6_signum_0f7a4_1 : decode cJ6_signum_0f7a4 1 = .ok (.bipush 31, 2) := by decide +kernel
theorem dJ6_signum_0f7a4_3 : decode cJ6_signum_0f7a4 3 = .ok (.ishr, 1) := by decide +kernel
theorem dJ6_signum_0f7a4_4 : decode cJ6_signum_0f7a4 4 = .ok (.iload_n 0, 1) := by decide +kernel
theorem dJ6_signum_0f7a4_5 : decode cJ6_signum_0f7a4 5 = .ok (.ineg, 1) := by decide +kernel
theorem dJ6_signum_0f7a4_6 : decode cJ6_signum_0f7a4 6 = .ok (.bipush 31, 2) := by decide +kernel
theorem dJ6_signum_0f7a4_8 : decode cJ6_signum_0f7a4 8 = .ok (.iushr, 1) := by decide +kernel
theorem dJ6_signum_0f7a4_9 : decode cJ6_signum_0f7a4 9 = .ok (.ior, 1) := by decide +kernel
theorem dJ6_signum_0f7a4_10 : decode cJ6_signum_0f7a4 10 = .ok (.ireturn, 1) := by decide +kernel
theorem dJxa1e45_init_da8c8_0 : decode cJxa1e45_init_da8c8 0 = .ok (.aload_n 0, 1) := by decide +kernel
theorem dJxa1e45_init_da8c8_1 : decode cJxa1e45_init_da8c8 1 = .ok (.invokespecial 1, 3) := by decide +kernel
theorem dJxa1e45_init_da8c8_4 : decode cJxa1e45_init_da8c8 4 = .ok (.return_, 1) := by decide +kernel
theorem dJxc12de_init_da8c8_0 : decode cJxc12de_init_da8c8 0 = .ok (.aload_n 0, 1) := by decide +kernel
theorem dJxc12de_init_da8c8_1 : decode cJxc12de_init_da8c8 1 = .ok (.invokespecial 1, 3) := by decide +kernel
theorem dJxc12de_init_da8c8_4 : decode cJxc12de_init_da8c8 4 = .ok (.aload_n 0, 1) := by decide +kernel
theorem dJxc12de_init_da8c8_5 : decode cJxc12de_init_da8c8 5 = .ok (.iconst 0, 1) := by decide +kernel
theorem dJxc12de_init_da8c8_6 : decode cJxc12de_init_da8c8 6 = .ok (.putfield 7, 3) := by decide +kernel
theorem dJxc12de_init_da8c8_9 : decode cJxc12de_init_da8c8 9 = .ok (.return_, 1) := by decide +kernel
theorem dJx4a65c_init_da8c8_0 : decode cJx4a65c_init_da8c8 0 = .ok (.aload_n 0, 1) := by decide +kernel
theorem dJx4a65c_init_da8c8_1 : decode cJx4a65c_init_da8c8 1 = .ok (.invokespecial 1, 3) := by decide +kernel
theorem dJx4a65c_init_da8c8_4 : decode cJx4a65c_init_da8c8 4 = .ok (.aload_n 0, 1) := by decide +kernel
theorem dJx4a65c_init_da8c8_5 : decode cJx4a65c_init_da8c8 5 = .ok (.getstatic 39, 3) := by decide +kernel
theorem dJx4a65c_init_da8c8_8 : decode cJx4a65c_init_da8c8 8 = .ok (.putfield 9, 3) := by decide +kernel
theorem dJx4a65c_init_da8c8_11 : decode cJx4a65c_init_da8c8 11 = .ok (.return_, 1) := by decide +kernel
theorem dJx4a65c_grow_92f84_0 : decode cJx4a65c_grow_92f84 0 = .ok (.aload_n 0, 1) := by decide +kernel
theorem dJx4a65c_grow_92f84_1 : decode cJx4a65c_grow_92f84 1 = .ok (.getfield 9, 3) := by decide +kernel
theorem dJx4a65c_grow_92f84_4 : decode cJx4a65c_grow_92f84 4 = .ok (.arraylength, 1) := by decide +kernel
theorem dJx4a65c_grow_92f84_5 : decode cJx4a65c_grow_92f84 5 = .ok (.istore_n 2, 1) := by decide +kernel
theorem dJx4a65c_grow_92f84_6 : decode cJx4a65c_grow_92f84 6 = .ok (.iload_n 2, 1) := by decide +kernel
theorem dJx4a65c_grow_92f84_7 : decode cJx4a65c_grow_92f84 7 = .ok (.ifCond .gt 13, 3) := by decide +kernel
theorem dJx4a65c_grow_92f84_10 : decode cJx4a65c_grow_92f84 10 = .ok (.aload_n 0, 1) := by decide +kernel
theorem dJx4a65c_grow_92f84_11 : decode cJx4a65c_grow_92f84 11 = .ok (.getfield 9, 3) := by decide +kernel
theorem dJx4a65c_grow_92f84_14 : decode cJx4a65c_grow_92f84 14 = .ok (.getstatic 39, 3) := by decide +kernel
theorem dJx4a65c_grow_92f84_17 : decode cJx4a65c_grow_92f84 17 = .ok (.if_acmp .eq 28, 3) := by decide +kernel
theorem dJx4a65c_grow_92f84_20 : decode cJx4a65c_grow_92f84 20 = .ok (.iload_n 2, 1) := by decide +kernel
theorem dJx4a65c_grow_92f84_21 : decode cJx4a65c_grow_92f84 21 = .ok (.iload_n 1, 1) := by decide +kernel
theorem dJx4a65c_grow_92f84_22 : decode cJx4a65c_grow_92f84 22 = .ok (.iload_n 2, 1) := by decide +kernel
theorem dJx4a65c_grow_92f84_23 : decode cJx4a65c_grow_92f84 23 = .ok (.isub, 1) := by decide +kernel
theorem dJx4a65c_grow_92f84_24 : decode cJx4a65c_grow_92f84 24 = .ok (.iload_n 2, 1) := by decide +kernel
theorem dJx4a65c_grow_92f84_25 : decode cJx4a65c_grow_92f84 25 = .ok (.iconst 1, 1) := by decide +kernel
theorem dJx4a65c_grow_92f84_26 : decode cJx4a65c_grow_92f84 26 = .ok (.ishr, 1) := by decide +kernel
theorem dJx4a65c_grow_92f84_27 : decode cJx4a65c_grow_92f84 27 = .ok (.invokestatic 73, 3) := by decide +kernel
theorem dJx4a65c_grow_92f84_30 : decode cJx4a65c_grow_92f84 30 = .ok (.istore_n 3, 1) := by decide +kernel
theorem dJx4a65c_grow_92f84_31 : decode cJx4a65c_grow_92f84 31 = .ok (.aload_n 0, 1) := by decide +kernel
theorem dJx4a65c_grow_92f84_32 : decode cJx4a65c_grow_92f84 32 = .ok (.aload_n 0, 1) := by decide +kernel
theorem dJx4a65c_grow_92f84_33 : decode cJx4a65c_grow_92f84 33 = .ok (.getfield 9, 3) := by decide +kernel
theorem dJx4a65c_grow_92f84_36 : decode cJx4a65c_grow_92f84 36 = .ok (.iload_n 3, 1) := by decide +kernel
theorem dJx4a65c_grow_92f84_37 : decode cJx4a65c_grow_92f84 37 = .ok (.invokestatic 66, 3) := by decide +kernel
theorem dJx4a65c_grow_92f84_40 : decode cJx4a65c_grow_92f84 40 = .ok (.dup_x1, 1) := by decide +kernel
theorem dJx4a65c_grow_92f84_41 : decode cJx4a65c_grow_92f84 41 = .ok (.putfield 9, 3) := by decide +kernel
theorem dJx4a65c_grow_92f84_44 : decode cJx4a65c_grow_92f84 44 = .ok (.areturn, 1) := by decide +kernel
theorem dJx4a65c_grow_92f84_45 : decode cJx4a65c_grow_92f84 45 = .ok (.aload_n 0, 1) := by decide +kernel
theorem dJx4a65c_grow_92f84_46 : decode cJx4a65c_grow_92f84 46 = .ok (.bipush 10, 2) := by decide +kernel
theorem dJx4a65c_grow_92f84_48 : decode cJx4a65c_grow_92f84 48 = .ok (.iload_n 1, 1) := by decide +kernel
theorem dJx4a65c_grow_92f84_49 : decode cJx4a65c_grow_92f84 49 = .ok (.invokestatic 79, 3) := by decide +kernel
theorem dJx4a65c_grow_92f84_52 : decode cJx4a65c_grow_92f84 52 = .ok (.anewarray 7, 3) := by decide +kernel
theorem dJx4a65c_grow_92f84_55 : decode cJx4a65c_grow_92f84 55 = .ok (.dup_x1, 1) := by decide +kernel
theorem dJx4a65c_grow_92f84_56 : decode cJx4a65c_grow_92f84 56 = .ok (.putfield 9, 3) := by decide +kernel
theorem dJx4a65c_grow_92f84_59 : decode cJx4a65c_grow_92f84 59 = .ok (.areturn, 1) := by decide +kernel
theorem dJx4a65c_grow_d5877_0 : decode cJx4a65c_grow_d5877 0 = .ok (.aload_n 0, 1) := by decide +kernel
theorem dJx4a65c_grow_d5877_1 : decode cJx4a65c_grow_d5877 1 = .ok (.aload_n 0, 1) := by decide +kernel
theorem dJx4a65c_grow_d5877_2 : decode cJx4a65c_grow_d5877 2 = .ok (.getfield 48, 3) := by decide +kernel
theorem dJx4a65c_grow_d5877_5 : decode cJx4a65c_grow_d5877 5 = .ok (.iconst 1, 1) := by decide +kernel
theorem dJx4a65c_grow_d5877_6 : decode cJx4a65c_grow_d5877 6 = .ok (.iadd, 1) := by decide +kernel
theorem dJx4a65c_grow_d5877_7 : decode cJx4a65c_grow_d5877 7 = .ok (.invokevirtual 69, 3) := by decide +kernel
theorem dJx4a65c_grow_d5877_10 : decode cJx4a65c_grow_d5877 10 = .ok (.areturn, 1) := by decide +kernel
theorem dJx4a65c_size_8abf5_0 : decode cJx4a65c_size_8abf5 0 = .ok (.aload_n 0, 1) := by decide +kernel
theorem dJx4a65c_size_8abf5_1 : decode cJx4a65c_size_8abf5 1 = .ok (.getfield 48, 3) := by decide +kernel
theorem dJx4a65c_size_8abf5_4 : decode cJx4a65c_size_8abf5 4 = .ok (.ireturn, 1) := by decide +kernel
theorem dJx4a65c_isEmpty_aae02_0 : decode cJx4a65c_isEmpty_aae02 0 = .ok (.aload_n 0, 1) := by decide +kernel
theorem dJx4a65c_isEmpty_aae02_1 : decode cJx4a65c_isEmpty_aae02 1 = .ok (.getfield 48, 3) := by decide +kernel
theorem dJx4a65c_isEmpty_aae02_4 : decode cJx4a65c_isEmpty_aae02 4 = .ok (.ifCond .ne 7, 3) := by decide +kernel
theorem dJx4a65c_isEmpty_aae02_7 : decode cJx4a65c_isEmpty_aae02 7 = .ok (.iconst 1, 1) := by decide +kernel
theorem dJx4a65c_isEmpty_aae02_8 : decode cJx4a65c_isEmpty_aae02 8 = .ok (.goto 4, 3) := by decide +kernel
theorem dJx4a65c_isEmpty_aae02_11 : decode cJx4a65c_isEmpty_aae02 11 = .ok (.iconst 0, 1) := by decide +kernel
theorem dJx4a65c_isEmpty_aae02_12 : decode cJx4a65c_isEmpty_aae02 12 = .ok (.ireturn, 1) := by decide +kernel
theorem dJx4a65c_elementData_915e3_0 : decode cJx4a65c_elementData_915e3 0 = .ok (.aload_n 0, 1) := by decide +kernel
theorem dJx4a65c_elementData_915e3_1 : decode cJx4a65c_elementData_915e3 1 = .ok (.getfield 9, 3) := by decide +kernel
theorem dJx4a65c_elementData_915e3_4 : decode cJx4a65c_elementData_915e3 4 = .ok (.iload_n 1, 1) := by decide +kernel
theorem dJx4a65c_elementData_915e3_5 : decode cJx4a65c_elementData_915e3 5 = .ok (.aaload, 1) := by decide +kernel
theorem dJx4a65c_elementData_915e3_6 : decode cJx4a65c_elementData_915e3 6 = .ok (.areturn, 1) := by decide +kernel
theorem dJx4a65c_get_915e3_0 : decode cJx4a65c_get_915e3 0 = .ok (.iload_n 1, 1) := by decide +kernel
theorem dJx4a65c_get_915e3_1 : decode cJx4a65c_get_915e3 1 = .ok (.aload_n 0, 1) := by decide +kernel
theorem dJx4a65c_get_915e3_2 : decode cJx4a65c_get_915e3 2 = .ok (.getfield 48, 3) := by decide +kernel
theorem dJx4a65c_get_915e3_5 : decode cJx4a65c_get_915e3 5 = .ok (.invokestatic 118, 3) := by decide +kernel
theorem dJx4a65c_get_915e3_8 : decode cJx4a65c_get_915e3 8 = .ok (.pop, 1) := by decide +kernel
theorem dJx4a65c_get_915e3_9 : decode cJx4a65c_get_915e3 9 = .ok (.aload_n 0, 1) := by decide +kernel
theorem dJx4a65c_get_915e3_10 : decode cJx4a65c_get_915e3 10 = .ok (.iload_n 1, 1) := by decide +kernel
theorem dJx4a65c_get_915e3_11 : decode cJx4a65c_get_915e3 11 = .ok (.invokevirtual 123, 3) := by decide +kernel
theorem dJx4a65c_get_915e3_14 : decode cJx4a65c_get_915e3 14 = .ok (.areturn, 1) := by decide +kernel
theorem dJx4a65c_add_72be8_0 : decode cJx4a65c_add_72be8 0 = .ok (.iload_n 3, 1) := by decide +kernel
theorem dJx4a65c_add_72be8_1 : decode cJx4a65c_add_72be8 1 = .ok (.aload_n 2, 1) := by decide +kernel
theorem dJx4a65c_add_72be8_2 : decode cJx4a65c_add_72be8 2 = .ok (.arraylength, 1) := by decide +kernel
theorem dJx4a65c_add_72be8_3 : decode cJx4a65c_add_72be8 3 = .ok (.if_icmp .ne 8, 3) := by decide +kernel
theorem dJx4a65c_add_72be8_6 : decode cJx4a65c_add_72be8 6 = .ok (.aload_n 0, 1) := by decide +kernel
theorem dJx4a65c_add_72be8_7 : decode cJx4a65c_add_72be8 7 = .ok (.invokevirtual 129, 3) := by decide +kernel
theorem dJx4a65c_add_72be8_10 : decode cJx4a65c_add_72be8 10 = .ok (.astore_n 2, 1) := by decide +kernel
theorem dJx4a65c_add_72be8_11 : decode cJx4a65c_add_72be8 11 = .ok (.aload_n 2, 1) := by decide +kernel
theorem dJx4a65c_add_72be8_12 : decode cJx4a65c_add_72be8 12 = .ok (.iload_n 3, 1) := by decide +kernel
theorem dJx4a65c_add_72be8_13 : decode cJx4a65c_add_72be8 13 = .ok (.aload_n 1, 1) := by decide +kernel
theorem dJx4a65c_add_72be8_14 : decode cJx4a65c_add_72be8 14 = .ok (.aastore, 1) := by decide +kernel
theorem dJx4a65c_add_72be8_15 : decode cJx4a65c_add_72be8 15 = .ok (.aload_n 0, 1) := by decide +kernel
theorem dJx4a65c_add_72be8_16 : decode cJx4a65c_add_72be8 16 = .ok (.iload_n 3, 1) := by decide +kernel
theorem dJx4a65c_add_72be8_17 : decode cJx4a65c_add_72be8 17 = .ok (.iconst 1, 1) := by decide +kernel
theorem dJx4a65c_add_72be8_18 : decode cJx4a65c_add_72be8 18 = .ok (.iadd, 1) := by decide +kernel
theorem dJx4a65c_add_72be8_19 : decode cJx4a65c_add_72be8 19 = .ok (.putfield 48, 3) := by decide +kernel
theorem dJx4a65c_add_72be8_22 : decode cJx4a65c_add_72be8 22 = .ok (.return_, 1) := by decide +kernel
theorem dJx4a65c_add_9ea2d_0 : decode cJx4a65c_add_9ea2d 0 = .ok (.aload_n 0, 1) := by decide +kernel
theorem dJx4a65c_add_9ea2d_1 : decode cJx4a65c_add_9ea2d 1 = .ok (.dup, 1) := by decide +kernel
theorem dJx4a65c_add_9ea2d_2 : decode cJx4a65c_add_9ea2d 2 = .ok (.getfield 63, 3) := by decide +kernel
theorem dJx4a65c_add_9ea2d_5 : decode cJx4a65c_add_9ea2d 5 = .ok (.iconst 1, 1) := by decide +kernel
theorem dJx4a65c_add_9ea2d_6 : decode cJx4a65c_add_9ea2d 6 = .ok (.iadd, 1) := by decide +kernel
theorem dJx4a65c_add_9ea2d_7 : decode cJx4a65c_add_9ea2d 7 = .ok (.putfield 63, 3) := by decide +kernel
theorem dJx4a65c_add_9ea2d_10 : decode cJx4a65c_add_9ea2d 10 = .ok (.aload_n 0, 1) := by decide +kernel
theorem dJx4a65c_add_9ea2d_11 : decode cJx4a65c_add_9ea2d 11 = .ok (.aload_n 1, 1) := by decide +kernel
theorem dJx4a65c_add_9ea2d_12 : decode cJx4a65c_add_9ea2d 12 = .ok (.aload_n 0, 1) := by decide +kernel
theorem dJx4a65c_add_9ea2d_13 : decode cJx4a65c_add_9ea2d 13 = .ok (.getfield 9, 3) := by decide +kernel
theorem dJx4a65c_add_9ea2d_16 : decode cJx4a65c_add_9ea2d 16 = .ok (.aload_n 0, 1) := by decide +kernel
theorem dJx4a65c_add_9ea2d_17 : decode cJx4a65c_add_9ea2d 17 = .ok (.getfield 48, 3) := by decide +kernel
theorem dJx4a65c_add_9ea2d_20 : decode cJx4a65c_add_9ea2d 20 = .ok (.invokevirtual 131, 3) := by decide +kernel
theorem dJx4a65c_add_9ea2d_23 : decode cJx4a65c_add_9ea2d 23 = .ok (.iconst 1, 1) := by decide +kernel
theorem dJx4a65c_add_9ea2d_24 : decode cJx4a65c_add_9ea2d 24 = .ok (.ireturn, 1) := by decide +kernel
theorem dJx4a65c_add_7a177_0 : decode cJx4a65c_add_7a177 0 = .ok (.aload_n 0, 1) := by decide +kernel
theorem dJx4a65c_add_7a177_1 : decode cJx4a65c_add_7a177 1 = .ok (.iload_n 1, 1) := by decide +kernel
theorem dJx4a65c_add_7a177_2 : decode cJx4a65c_add_7a177 2 = .ok (.invokevirtual 135, 3) := by decide +kernel
theorem dJx4a65c_add_7a177_5 : decode cJx4a65c_add_7a177 5 = .ok (.aload_n 0, 1) := by decide +kernel
theorem dJx4a65c_add_7a177_6 : decode cJx4a65c_add_7a177 6 = .ok (.dup, 1) := by decide +kernel
theorem dJx4a65c_add_7a177_7 : decode cJx4a65c_add_7a177 7 = .ok (.getfield 63, 3) := by decide +kernel
theorem dJx4a65c_add_7a177_10 : decode cJx4a65c_add_7a177 10 = .ok (.iconst 1, 1) := by decide +kernel
theorem dJx4a65c_add_7a177_11 : decode cJx4a65c_add_7a177 11 = .ok (.iadd, 1) := by decide +kernel
theorem dJx4a65c_add_7a177_12 : decode cJx4a65c_add_7a177 12 = .ok (.putfield 63, 3) := by decide +kernel
theorem dJx4a65c_add_7a177_15 : decode cJx4a65c_add_7a177 15 = .ok (.aload_n 0, 1) := by decide +kernel
theorem dJx4a65c_add_7a177_16 : decode cJx4a65c_add_7a177 16 = .ok (.getfield 48, 3) := by decide +kernel
theorem dJx4a65c_add_7a177_19 : decode cJx4a65c_add_7a177 19 = .ok (.dup, 1) := by decide +kernel
theorem dJx4a65c_add_7a177_20 : decode cJx4a65c_add_7a177 20 = .ok (.istore_n 3, 1) := by decide +kernel
theorem dJx4a65c_add_7a177_21 : decode cJx4a65c_add_7a177 21 = .ok (.aload_n 0, 1) := by decide +kernel
theorem dJx4a65c_add_7a177_22 : decode cJx4a65c_add_7a177 22 = .ok (.getfield 9, 3) := by decide +kernel
theorem dJx4a65c_add_7a177_25 : decode cJx4a65c_add_7a177 25 = .ok (.dup, 1) := by decide +kernel
theorem dJx4a65c_add_7a177_26 : decode cJx4a65c_add_7a177 26 = .ok (.astore 4, 2) := by decide +kernel
theorem dJx4a65c_add_7a177_28 : decode cJx4a65c_add_7a177 28 = .ok (.arraylength, 1) := by decide +kernel
theorem dJx4a65c_add_7a177_29 : decode cJx4a65c_add_7a177 29 = .ok (.if_icmp .ne 9, 3) := by decide +kernel
theorem dJx4a65c_add_7a177_32 : decode cJx4a65c_add_7a177 32 = .ok (.aload_n 0, 1) := by decide +kernel
theorem dJx4a65c_add_7a177_33 : decode cJx4a65c_add_7a177 33 = .ok (.invokevirtual 129, 3) := by decide +kernel
theorem dJx4a65c_add_7a177_36 : decode cJx4a65c_add_7a177 36 = .ok (.astore 4, 2) := by decide +kernel
theorem dJx4a65c_add_7a177_38 : decode cJx4a65c_add_7a177 38 = .ok (.aload 4, 2) := by decide +kernel
theorem dJx4a65c_add_7a177_40 : decode cJx4a65c_add_7a177 40 = .ok (.iload_n 1, 1) := by decide +kernel
theorem dJx4a65c_add_7a177_41 : decode cJx4a65c_add_7a177 41 = .ok (.aload 4, 2) := by decide +kernel
theorem dJx4a65c_add_7a177_43 : decode cJx4a65c_add_7a177 43 = .ok (.iload_n 1, 1) := by decide +kernel
theorem dJx4a65c_add_7a177_44 : decode cJx4a65c_add_7a177 44 = .ok (.iconst 1, 1) := by decide +kernel
theorem dJx4a65c_add_7a177_45 : decode cJx4a65c_add_7a177 45 = .ok (.iadd, 1) := by decide +kernel
theorem dJx4a65c_add_7a177_46 : decode cJx4a65c_add_7a177 46 = .ok (.iload_n 3, 1) := by decide +kernel
theorem dJx4a65c_add_7a177_47 : decode cJx4a65c_add_7a177 47 = .ok (.iload_n 1, 1) := by decide +kernel
theorem dJx4a65c_add_7a177_48 : decode cJx4a65c_add_7a177 48 = .ok (.isub, 1) := by decide +kernel
theorem dJx4a65c_add_7a177_49 : decode cJx4a65c_add_7a177 49 = .ok (.invokestatic 112, 3) := by decide +kernel
theorem dJx4a65c_add_7a177_52 : decode cJx4a65c_add_7a177 52 = .ok (.aload 4, 2) := by decide +kernel
theorem dJx4a65c_add_7a177_54 : decode cJx4a65c_add_7a177 54 = .ok (.iload_n 1, 1) := by decide +kernel
theorem dJx4a65c_add_7a177_55 : decode cJx4a65c_add_7a177 55 = .ok (.aload_n 2, 1) := by decide +kernel
theorem dJx4a65c_add_7a177_56 : decode cJx4a65c_add_7a177 56 = .ok (.aastore, 1) := by decide +kernel
theorem dJx4a65c_add_7a177_57 : decode cJx4a65c_add_7a177 57 = .ok (.aload_n 0, 1) := by decide +kernel
theorem dJx4a65c_add_7a177_58 : decode cJx4a65c_add_7a177 58 = .ok (.iload_n 3, 1) := by decide +kernel
theorem dJx4a65c_add_7a177_59 : decode cJx4a65c_add_7a177 59 = .ok (.iconst 1, 1) := by decide +kernel
theorem dJx4a65c_add_7a177_60 : decode cJx4a65c_add_7a177 60 = .ok (.iadd, 1) := by decide +kernel
theorem dJx4a65c_add_7a177_61 : decode cJx4a65c_add_7a177 61 = .ok (.putfield 48, 3) := by decide +kernel
theorem dJx4a65c_add_7a177_64 : decode cJx4a65c_add_7a177 64 = .ok (.return_, 1) := by decide +kernel
theorem dJx4a65c_remove_915e3_0 : decode cJx4a65c_remove_915e3 0 = .ok (.iload_n 1, 1) := by decide +kernel
theorem dJx4a65c_remove_915e3_1 : decode cJx4a65c_remove_915e3 1 = .ok (.aload_n 0, 1) := by decide +kernel
theorem dJx4a65c_remove_915e3_2 : decode cJx4a65c_remove_915e3 2 = .ok (.getfield 48, 3) := by decide +kernel
theorem dJx4a65c_remove_915e3_5 : decode cJx4a65c_remove_915e3 5 = .ok (.invokestatic 118, 3) := by decide +kernel
theorem dJx4a65c_remove_915e3_8 : decode cJx4a65c_remove_915e3 8 = .ok (.pop, 1) := by decide +kernel
theorem dJx4a65c_remove_915e3_9 : decode cJx4a65c_remove_915e3 9 = .ok (.aload_n 0, 1) := by decide +kernel
theorem dJx4a65c_remove_915e3_10 : decode cJx4a65c_remove_915e3 10 = .ok (.getfield 9, 3) := by decide +kernel
theorem dJx4a65c_remove_915e3_13 : decode cJx4a65c_remove_915e3 13 = .ok (.astore_n 2, 1) := by decide +kernel
theorem dJx4a65c_remove_915e3_14 : decode cJx4a65c_remove_915e3 14 = .ok (.aload_n 2, 1) := by decide +kernel
theorem dJx4a65c_remove_915e3_15 : decode cJx4a65c_remove_915e3 15 = .ok (.iload_n 1, 1) := by decide +kernel
theorem dJx4a65c_remove_915e3_16 : decode cJx4a65c_remove_915e3 16 = .ok (.aaload, 1) := by decide +kernel
theorem dJx4a65c_remove_915e3_17 : decode cJx4a65c_remove_915e3 17 = .ok (.astore_n 3, 1) := by decide +kernel
theorem dJx4a65c_remove_915e3_18 : decode cJx4a65c_remove_915e3 18 = .ok (.aload_n 0, 1) := by decide +kernel
theorem dJx4a65c_remove_915e3_19 : decode cJx4a65c_remove_915e3 19 = .ok (.aload_n 2, 1) := by decide +kernel
theorem dJx4a65c_remove_915e3_20 : decode cJx4a65c_remove_915e3 20 = .ok (.iload_n 1, 1) := by decide +kernel
theorem dJx4a65c_remove_915e3_21 : decode cJx4a65c_remove_915e3 21 = .ok (.invokevirtual 144, 3) := by decide +kernel
theorem dJx4a65c_remove_915e3_24 : decode cJx4a65c_remove_915e3 24 = .ok (.aload_n 3, 1) := by decide +kernel
theorem dJx4a65c_remove_915e3_25 : decode cJx4a65c_remove_915e3 25 = .ok (.areturn, 1) := by decide +kernel
theorem dJx4a65c_fastRemove_b59b0_0 : decode cJx4a65c_fastRemove_b59b0 0 = .ok (.aload_n 0, 1) := by decide +kernel
theorem dJx4a65c_fastRemove_b59b0_1 : decode cJx4a65c_fastRemove_b59b0 1 = .ok (.dup, 1) := by decide +kernel
theorem dJx4a65c_fastRemove_b59b0_2 : decode cJx4a65c_fastRemove_b59b0 2 = .ok (.getfield 63, 3) := by decide +kernel
theorem dJx4a65c_fastRemove_b59b0_5 : decode cJx4a65c_fastRemove_b59b0 5 = .ok (.iconst 1, 1) := by decide +kernel
theorem dJx4a65c_fastRemove_b59b0_6 : decode cJx4a65c_fastRemove_b59b0 6 = .ok (.iadd, 1) := by decide +kernel
theorem dJx4a65c_fastRemove_b59b0_7 : decode cJx4a65c_fastRemove_b59b0 7 = .ok (.putfield 63, 3) := by decide +kernel
theorem dJx4a65c_fastRemove_b59b0_10 : decode cJx4a65c_fastRemove_b59b0 10 = .ok (.aload_n 0, 1) := by decide +kernel
theorem dJx4a65c_fastRemove_b59b0_11 : decode cJx4a65c_fastRemove_b59b0 11 = .ok (.getfield 48, 3) := by decide +kernel
theorem dJx4a65c_fastRemove_b59b0_14 : decode cJx4a65c_fastRemove_b59b0 14 = .ok (.iconst 1, 1) := by decide +kernel
theorem dJx4a65c_fastRemove_b59b0_15 : decode cJx4a65c_fastRemove_b59b0 15 = .ok (.isub, 1) := by decide +kernel
theorem dJx4a65c_fastRemove_b59b0_16 : decode cJx4a65c_fastRemove_b59b0 16 = .ok (.dup, 1) := by decide +kernel
theorem dJx4a65c_fastRemove_b59b0_17 : decode cJx4a65c_fastRemove_b59b0 17 = .ok (.istore_n 3, 1) := by decide +kernel
theorem dJx4a65c_fastRemove_b59b0_18 : decode cJx4a65c_fastRemove_b59b0 18 = .ok (.iload_n 2, 1) := by decide +kernel
theorem dJx4a65c_fastRemove_b59b0_19 : decode cJx4a65c_fastRemove_b59b0 19 = .ok (.if_icmp .le 15, 3) := by decide +kernel
theorem dJx4a65c_fastRemove_b59b0_22 : decode cJx4a65c_fastRemove_b59b0 22 = .ok (.aload_n 1, 1) := by decide +kernel
theorem dJx4a65c_fastRemove_b59b0_23 : decode cJx4a65c_fastRemove_b59b0 23 = .ok (.iload_n 2, 1) := by decide +kernel
theorem dJx4a65c_fastRemove_b59b0_24 : decode cJx4a65c_fastRemove_b59b0 24 = .ok (.iconst 1, 1) := by decide +kernel
theorem dJx4a65c_fastRemove_b59b0_25 : decode cJx4a65c_fastRemove_b59b0 25 = .ok (.iadd, 1) := by decide +kernel
theorem dJx4a65c_fastRemove_b59b0_26 : decode cJx4a65c_fastRemove_b59b0 26 = .ok (.aload_n 1, 1) := by decide +kernel
theorem dJx4a65c_fastRemove_b59b0_27 : decode cJx4a65c_fastRemove_b59b0 27 = .ok (.iload_n 2, 1) := by decide +kernel
theorem dJx4a65c_fastRemove_b59b0_28 : decode cJx4a65c_fastRemove_b59b0 28 = .ok (.iload_n 3, 1) := by decide +kernel
theorem dJx4a65c_fastRemove_b59b0_29 : decode cJx4a65c_fastRemove_b59b0 29 = .ok (.iload_n 2, 1) := by decide +kernel
theorem dJx4a65c_fastRemove_b59b0_30 : decode cJx4a65c_fastRemove_b59b0 30 = .ok (.isub, 1) := by decide +kernel
theorem dJx4a65c_fastRemove_b59b0_31 : decode cJx4a65c_fastRemove_b59b0 31 = .ok (.invokestatic 112, 3) := by decide +kernel
theorem dJx4a65c_fastRemove_b59b0_34 : decode cJx4a65c_fastRemove_b59b0 34 = .ok (.aload_n 1, 1) := by decide +kernel
theorem dJx4a65c_fastRemove_b59b0_35 : decode cJx4a65c_fastRemove_b59b0 35 = .ok (.aload_n 0, 1) := by decide +kernel
theorem dJx4a65c_fastRemove_b59b0_36 : decode cJx4a65c_fastRemove_b59b0 36 = .ok (.iload_n 3, 1) := by decide +kernel
theorem dJx4a65c_fastRemove_b59b0_37 : decode cJx4a65c_fastRemove_b59b0 37 = .ok (.dup_x1, 1) := by decide +kernel
theorem dJx4a65c_fastRemove_b59b0_38 : decode cJx4a65c_fastRemove_b59b0 38 = .ok (.putfield 48, 3) := by decide +kernel
theorem dJx4a65c_fastRemove_b59b0_41 : decode cJx4a65c_fastRemove_b59b0 41 = .ok (.aconst_null, 1) := by decide +kernel
theorem dJx4a65c_fastRemove_b59b0_42 : decode cJx4a65c_fastRemove_b59b0 42 = .ok (.aastore, 1) := by decide +kernel
theorem dJx4a65c_fastRemove_b59b0_43 : decode cJx4a65c_fastRemove_b59b0 43 = .ok (.return_, 1) := by decide +kernel
theorem dJx4a65c_clear_da8c8_0 : decode cJx4a65c_clear_da8c8 0 = .ok (.aload_n 0, 1) := by decide +kernel
theorem dJx4a65c_clear_da8c8_1 : decode cJx4a65c_clear_da8c8 1 = .ok (.dup, 1) := by decide +kernel
theorem dJx4a65c_clear_da8c8_2 : decode cJx4a65c_clear_da8c8 2 = .ok (.getfield 63, 3) := by decide +kernel
theorem dJx4a65c_clear_da8c8_5 : decode cJx4a65c_clear_da8c8 5 = .ok (.iconst 1, 1) := by decide +kernel
theorem dJx4a65c_clear_da8c8_6 : decode cJx4a65c_clear_da8c8 6 = .ok (.iadd, 1) := by decide +kernel
theorem dJx4a65c_clear_da8c8_7 : decode cJx4a65c_clear_da8c8 7 = .ok (.putfield 63, 3) := by decide +kernel
theorem dJx4a65c_clear_da8c8_10 : decode cJx4a65c_clear_da8c8 10 = .ok (.aload_n 0, 1) := by decide +kernel
theorem dJx4a65c_clear_da8c8_11 : decode cJx4a65c_clear_da8c8 11 = .ok (.getfield 9, 3) := by decide +kernel
theorem dJx4a65c_clear_da8c8_14 : decode cJx4a65c_clear_da8c8 14 = .ok (.astore_n 1, 1) := by decide +kernel
theorem dJx4a65c_clear_da8c8_15 : decode cJx4a65c_clear_da8c8 15 = .ok (.aload_n 0, 1) := by decide +kernel
theorem dJx4a65c_clear_da8c8_16 : decode cJx4a65c_clear_da8c8 16 = .ok (.getfield 48, 3) := by decide +kernel
theorem dJx4a65c_clear_da8c8_19 : decode cJx4a65c_clear_da8c8 19 = .ok (.istore_n 2, 1) := by decide +kernel
theorem dJx4a65c_clear_da8c8_20 : decode cJx4a65c_clear_da8c8 20 = .ok (.aload_n 0, 1) := by decide +kernel
theorem dJx4a65c_clear_da8c8_21 : decode cJx4a65c_clear_da8c8 21 = .ok (.iconst 0, 1) := by decide +kernel
theorem dJx4a65c_clear_da8c8_22 : decode cJx4a65c_clear_da8c8 22 = .ok (.dup_x1, 1) := by decide +kernel
theorem dJx4a65c_clear_da8c8_23 : decode cJx4a65c_clear_da8c8 23 = .ok (.putfield 48, 3) := by decide +kernel
theorem dJx4a65c_clear_da8c8_26 : decode cJx4a65c_clear_da8c8 26 = .ok (.istore_n 3, 1) := by decide +kernel
theorem dJx4a65c_clear_da8c8_27 : decode cJx4a65c_clear_da8c8 27 = .ok (.iload_n 3, 1) := by decide +kernel
theorem dJx4a65c_clear_da8c8_28 : decode cJx4a65c_clear_da8c8 28 = .ok (.iload_n 2, 1) := by decide +kernel
theorem dJx4a65c_clear_da8c8_29 : decode cJx4a65c_clear_da8c8 29 = .ok (.if_icmp .ge 13, 3) := by decide +kernel
theorem dJx4a65c_clear_da8c8_32 : decode cJx4a65c_clear_da8c8 32 = .ok (.aload_n 1, 1) := by decide +kernel
theorem dJx4a65c_clear_da8c8_33 : decode cJx4a65c_clear_da8c8 33 = .ok (.iload_n 3, 1) := by decide +kernel
theorem dJx4a65c_clear_da8c8_34 : decode cJx4a65c_clear_da8c8 34 = .ok (.aconst_null, 1) := by decide +kernel
theorem dJx4a65c_clear_da8c8_35 : decode cJx4a65c_clear_da8c8 35 = .ok (.aastore, 1) := by decide +kernel
theorem dJx4a65c_clear_da8c8_36 : decode cJx4a65c_clear_da8c8 36 = .ok (.iinc 3 1, 3) := by decide +kernel
theorem dJx4a65c_clear_da8c8_39 : decode cJx4a65c_clear_da8c8 39 = .ok (.goto (-12), 3) := by decide +kernel
theorem dJx4a65c_clear_da8c8_42 : decode cJx4a65c_clear_da8c8 42 = .ok (.return_, 1) := by decide +kernel
theorem dJx4a65c_rangeCheckForAdd_d00df_0 : decode cJx4a65c_rangeCheckForAdd_d00df 0 = .ok (.iload_n 1, 1) := by decide +kernel
theorem dJx4a65c_rangeCheckForAdd_d00df_1 : decode cJx4a65c_rangeCheckForAdd_d00df 1 = .ok (.aload_n 0, 1) := by decide +kernel
theorem dJx4a65c_rangeCheckForAdd_d00df_2 : decode cJx4a65c_rangeCheckForAdd_d00df 2 = .ok (.getfield 48, 3) := by decide +kernel
theorem dJx4a65c_rangeCheckForAdd_d00df_5 : decode cJx4a65c_rangeCheckForAdd_d00df 5 = .ok (.if_icmp .gt 7, 3) := by decide +kernel
theorem dJx4a65c_rangeCheckForAdd_d00df_8 : decode cJx4a65c_rangeCheckForAdd_d00df 8 = .ok (.iload_n 1, 1) := by decide +kernel
theorem dJx4a65c_rangeCheckForAdd_d00df_9 : decode cJx4a65c_rangeCheckForAdd_d00df 9 = .ok (.ifCond .ge 16, 3) := by decide +kernel
theorem dJx4a65c_rangeCheckForAdd_d00df_12 : decode cJx4a65c_rangeCheckForAdd_d00df 12 = .ok (.new 187, 3) := by decide +kernel
theorem dJx4a65c_rangeCheckForAdd_d00df_15 : decode cJx4a65c_rangeCheckForAdd_d00df 15 = .ok (.dup, 1) := by decide +kernel
theorem dJx4a65c_rangeCheckForAdd_d00df_16 : decode cJx4a65c_rangeCheckForAdd_d00df 16 = .ok (.aload_n 0, 1) := by decide +kernel
theorem dJx4a65c_rangeCheckForAdd_d00df_17 : decode cJx4a65c_rangeCheckForAdd_d00df 17 = .ok (.iload_n 1, 1) := by decide +kernel
theorem dJx4a65c_rangeCheckForAdd_d00df_18 : decode cJx4a65c_rangeCheckForAdd_d00df 18 = .ok (.invokevirtual 198, 3) := by decide +kernel
theorem dJx4a65c_rangeCheckForAdd_d00df_21 : decode cJx4a65c_rangeCheckForAdd_d00df 21 = .ok (.invokespecial 193, 3) := by decide +kernel
theorem dJx4a65c_rangeCheckForAdd_d00df_24 : decode cJx4a65c_rangeCheckForAdd_d00df 24 = .ok (.athrow, 1) := by decide +kernel
theorem dJx4a65c_rangeCheckForAdd_d00df_25 : decode cJx4a65c_rangeCheckForAdd_d00df 25 = .ok (.return_, 1) := by decide +kernel
theorem dJ7_fill_53178_0 : decode cJ7_fill_53178 0 = .ok (.iconst 0, 1) := by decide +kernel
theorem dJ7_fill_53178_1 : decode cJ7_fill_53178 1 = .ok (.istore_n 2, 1) := by decide +kernel
theorem dJ7_fill_53178_2 : decode cJ7_fill_53178 2 = .ok (.aload_n 0, 1) := by decide +kernel
theorem dJ7_fill_53178_3 : decode cJ7_fill_53178 3 = .ok (.arraylength, 1) := by decide +kernel
theorem dJ7_fill_53178_4 : decode cJ7_fill_53178 4 = .ok (.istore_n 3, 1) := by decide +kernel
theorem dJ7_fill_53178_5 : decode cJ7_fill_53178 5 = .ok (.iload_n 2, 1) := by decide +kernel
theorem dJ7_fill_53178_6 : decode cJ7_fill_53178 6 = .ok (.iload_n 3, 1) := by decide +kernel
theorem dJ7_fill_53178_7 : decode cJ7_fill_53178 7 = .ok (.if_icmp .ge 13, 3) := by decide +kernel
theorem dJ7_fill_53178_10 : decode cJ7_fill_53178 10 = .ok (.aload_n 0, 1) := by decide +kernel
theorem dJ7_fill_53178_11 : decode cJ7_fill_53178 11 = .ok (.iload_n 2, 1) := by decide +kernel
theorem dJ7_fill_53178_12 : decode cJ7_fill_53178 12 = .ok (.iload_n 1, 1) := by decide +kernel
theorem dJ7_fill_53178_13 : decode cJ7_fill_53178 13 = .ok (.iastore, 1) := by decide +kernel
theorem dJ7_fill_53178_14 : decode cJ7_fill_53178 14 = .ok (.iinc 2 1, 3) := by decide +kernel
theorem dJ7_fill_53178_17 : decode cJ7_fill_53178 17 = .ok (.goto (-12), 3) := by decide +kernel
theorem dJ7_fill_53178_20 : decode cJ7_fill_53178 20 = .ok (.return_, 1) := by decide +kernel
theorem dJ7_copyOf_1904c_0 : decode cJ7_copyOf_1904c 0 = .ok (.aload_n 0, 1) := by decide +kernel
theorem dJ7_copyOf_1904c_1 : decode cJ7_copyOf_1904c 1 = .ok (.iload_n 1, 1) := by decide +kernel
theorem dJ7_copyOf_1904c_2 : decode cJ7_copyOf_1904c 2 = .ok (.aload_n 0, 1) := by decide +kernel
theorem dJ7_copyOf_1904c_3 : decode cJ7_copyOf_1904c 3 = .ok (.invokevirtual 86, 3) := by decide +kernel
theorem dJ7_copyOf_1904c_6 : decode cJ7_copyOf_1904c 6 = .ok (.invokestatic 300, 3) := by decide +kernel
theorem dJ7_copyOf_1904c_9 : decode cJ7_copyOf_1904c 9 = .ok (.areturn, 1) := by decide +kernel
theorem dJ7_copyOf_6403c_0 : decode cJ7_copyOf_6403c 0 = .ok (.aload_n 2, 1) := by decide +kernel
theorem dJ7_copyOf_6403c_1 : decode cJ7_copyOf_6403c 1 = .ok (.ldc 110, 2) := by decide +kernel
theorem dJ7_copyOf_6403c_3 : decode cJ7_copyOf_6403c 3 = .ok (.if_acmp .ne 10, 3) := by decide +kernel
theorem dJ7_copyOf_6403c_6 : decode cJ7_copyOf_6403c 6 = .ok (.iload_n 1, 1) := by decide +kernel
theorem dJ7_copyOf_6403c_7 : decode cJ7_copyOf_6403c 7 = .ok (.anewarray 2, 3) := by decide +kernel
theorem dJ7_copyOf_6403c_10 : decode cJ7_copyOf_6403c 10 = .ok (.goto 14, 3) := by decide +kernel
theorem dJ7_copyOf_6403c_13 : decode cJ7_copyOf_6403c 13 = .ok (.aload_n 2, 1) := by decide +kernel
theorem dJ7_copyOf_6403c_14 : decode cJ7_copyOf_6403c 14 = .ok (.invokevirtual 90, 3) := by decide +kernel
theorem dJ7_copyOf_6403c_17 : decode cJ7_copyOf_6403c 17 = .ok (.iload_n 1, 1) := by decide +kernel
theorem dJ7_copyOf_6403c_18 : decode cJ7_copyOf_6403c 18 = .ok (.invokestatic 95, 3) := by decide +kernel
theorem dJ7_copyOf_6403c_21 : decode cJ7_copyOf_6403c 21 = .ok (.checkcast 110, 3) := by decide +kernel
theorem dJ7_copyOf_6403c_24 : decode cJ7_copyOf_6403c 24 = .ok (.astore_n 3, 1) := by decide +kernel
theorem dJ7_copyOf_6403c_25 : decode cJ7_copyOf_6403c 25 = .ok (.aload_n 0, 1) := by decide +kernel
theorem dJ7_copyOf_6403c_26 : decode cJ7_copyOf_6403c 26 = .ok (.iconst 0, 1) := by decide +kernel
theorem dJ7_copyOf_6403c_27 : decode cJ7_copyOf_6403c 27 = .ok (.aload_n 3, 1) := by decide +kernel
theorem dJ7_copyOf_6403c_28 : decode cJ7_copyOf_6403c 28 = .ok (.iconst 0, 1) := by decide +kernel
theorem dJ7_copyOf_6403c_29 : decode cJ7_copyOf_6403c 29 = .ok (.aload_n 0, 1) := by decide +kernel
theorem dJ7_copyOf_6403c_30 : decode cJ7_copyOf_6403c 30 = .ok (.arraylength, 1) := by decide +kernel
theorem dJ7_copyOf_6403c_31 : decode cJ7_copyOf_6403c 31 = .ok (.iload_n 1, 1) := by decide +kernel
theorem dJ7_copyOf_6403c_32 : decode cJ7_copyOf_6403c 32 = .ok (.invokestatic 304, 3) := by decide +kernel
theorem dJ7_copyOf_6403c_35 : decode cJ7_copyOf_6403c 35 = .ok (.invokestatic 150, 3) := by decide +kernel
theorem dJ7_copyOf_6403c_38 : decode cJ7_copyOf_6403c 38 = .ok (.aload_n 3, 1) := by decide +kernel
theorem dJ7_copyOf_6403c_39 : decode cJ7_copyOf_6403c 39 = .ok (.areturn, 1) := by decide +kernel
theorem dJ15_checkIndex_7cf53_0 : decode cJ15_checkIndex_7cf53 0 = .ok (.iload_n 0, 1) := by decide +kernel
theorem dJ15_checkIndex_7cf53_1 : decode cJ15_checkIndex_7cf53 1 = .ok (.iload_n 1, 1) := by decide +kernel
theorem dJ15_checkIndex_7cf53_2 : decode cJ15_checkIndex_7cf53 2 = .ok (.aconst_null, 1) := by decide +kernel
theorem dJ15_checkIndex_7cf53_3 : decode cJ15_checkIndex_7cf53 3 = .ok (.invokestatic 105, 3) := by decide +kernel
theorem dJ15_checkIndex_7cf53_6 : decode cJ15_checkIndex_7cf53 6 = .ok (.ireturn, 1) := by decide +kernel
theorem dJ8_newLength_cabcc_0 : decode cJ8_newLength_cabcc 0 = .ok (.iload_n 0, 1) := by decide +kernel
theorem dJ8_newLength_cabcc_1 : decode cJ8_newLength_cabcc 1 = .ok (.iload_n 1, 1) := by decide +kernel
theorem dJ8_newLength_cabcc_2 : decode cJ8_newLength_cabcc 2 = .ok (.iload_n 2, 1) := by decide +kernel
theorem dJ8_newLength_cabcc_3 : decode cJ8_newLength_cabcc 3 = .ok (.invokestatic 194, 3) := by decide +kernel
theorem dJ8_newLength_cabcc_6 : decode cJ8_newLength_cabcc 6 = .ok (.iadd, 1) := by decide +kernel
theorem dJ8_newLength_cabcc_7 : decode cJ8_newLength_cabcc 7 = .ok (.istore_n 3, 1) := by decide +kernel
theorem dJ8_newLength_cabcc_8 : decode cJ8_newLength_cabcc 8 = .ok (.iconst 0, 1) := by decide +kernel
theorem dJ8_newLength_cabcc_9 : decode cJ8_newLength_cabcc 9 = .ok (.iload_n 3, 1) := by decide +kernel
theorem dJ8_newLength_cabcc_10 : decode cJ8_newLength_cabcc 10 = .ok (.if_icmp .ge 11, 3) := by decide +kernel
theorem dJ8_newLength_cabcc_13 : decode cJ8_newLength_cabcc 13 = .ok (.iload_n 3, 1) := by decide +kernel
theorem dJ8_newLength_cabcc_14 : decode cJ8_newLength_cabcc 14 = .ok (.ldc 200, 2) := by decide +kernel
theorem dJ8_newLength_cabcc_16 : decode cJ8_newLength_cabcc 16 = .ok (.if_icmp .gt 5, 3) := by decide +kernel
theorem dJ8_newLength_cabcc_19 : decode cJ8_newLength_cabcc 19 = .ok (.iload_n 3, 1) := by decide +kernel
theorem dJ8_newLength_cabcc_20 : decode cJ8_newLength_cabcc 20 = .ok (.ireturn, 1) := by decide +kernel
theorem dJ8_newLength_cabcc_21 : decode cJ8_newLength_cabcc 21 = .ok (.iload_n 0, 1) := by decide +kernel
theorem dJ8_newLength_cabcc_22 : decode cJ8_newLength_cabcc 22 = .ok (.iload_n 1, 1) := by decide +kernel
theorem dJ8_newLength_cabcc_23 : decode cJ8_newLength_cabcc 23 = .ok (.invokestatic 201, 3) := by decide +kernel
theorem dJ8_newLength_cabcc_26 : decode cJ8_newLength_cabcc 26 = .ok (.ireturn, 1) := by decide +kernel
theorem dJ3_checkIndex_8e157_0 : decode cJ3_checkIndex_8e157 0 = .ok (.iload_n 0, 1) := by decide +kernel
theorem dJ3_checkIndex_8e157_1 : decode cJ3_checkIndex_8e157 1 = .ok (.ifCond .lt 8, 3) := by decide +kernel
theorem dJ3_checkIndex_8e157_4 : decode cJ3_checkIndex_8e157 4 = .ok (.iload_n 0, 1) := by decide +kernel
theorem dJ3_checkIndex_8e157_5 : decode cJ3_checkIndex_8e157 5 = .ok (.iload_n 1, 1) := by decide +kernel
theorem dJ3_checkIndex_8e157_6 : decode cJ3_checkIndex_8e157 6 = .ok (.if_icmp .lt 10, 3) := by decide +kernel
theorem dJ3_checkIndex_8e157_9 : decode cJ3_checkIndex_8e157 9 = .ok (.aload_n 2, 1) := by decide +kernel
theorem dJ3_checkIndex_8e157_10 : decode cJ3_checkIndex_8e157 10 = .ok (.iload_n 0, 1) := by decide +kernel
theorem dJ3_checkIndex_8e157_11 : decode cJ3_checkIndex_8e157 11 = .ok (.iload_n 1, 1) := by decide +kernel
theorem dJ3_checkIndex_8e157_12 : decode cJ3_checkIndex_8e157 12 = .ok (.invokestatic 95, 3) := by decide +kernel
theorem dJ3_checkIndex_8e157_15 : decode cJ3_checkIndex_8e157 15 = .ok (.athrow, 1) := by decide +kernel
theorem dJ3_checkIndex_8e157_16 : decode cJ3_checkIndex_8e157 16 = .ok (.iload_n 0, 1) := by decide +kernel
theorem dJ3_checkIndex_8e157_17 : decode cJ3_checkIndex_8e157 17 = .ok (.ireturn, 1) := by decide +kernel
end
section
theorem dX6_init_0 : decode cX6_init 0 = .ok (.aload_n 0, 1) := by decide +kernel
theorem dX6_init_1 : decode cX6_init 1 = .ok (.invokespecial 1, 3) := by decide +kernel
theorem dX6_init_4 : decode cX6_init 4 = .ok (.aload_n 0, 1) := by decide +kernel
theorem dX6_init_5 : decode cX6_init 5 = .ok (.bipush 8, 2) := by decide +kernel
theorem dX6_init_7 : decode cX6_init 7 = .ok (.newarray .int, 2) := by decide +kernel
theorem dX6_init_9 : decode cX6_init 9 = .ok (.putfield 9, 3) := by decide +kernel
theorem dX6_init_12 : decode cX6_init 12 = .ok (.aload_n 0, 1) := by decide +kernel
theorem dX6_init_13 : decode cX6_init 13 = .ok (.bipush 8, 2) := by decide +kernel
theorem dX6_init_15 : decode cX6_init 15 = .ok (.newarray .int, 2) := by decide +kernel
theorem dX6_init_17 : decode cX6_init 17 = .ok (.putfield 13, 3) := by decide +kernel
theorem dX6_init_20 : decode cX6_init 20 = .ok (.aload_n 0, 1) := by decide +kernel
theorem dX6_init_21 : decode cX6_init 21 = .ok (.iconst 5, 1) := by decide +kernel
theorem dX6_init_22 : decode cX6_init 22 = .ok (.newarray .int, 2) := by decide +kernel
theorem dX6_init_24 : decode cX6_init 24 = .ok (.putfield 16, 3) := by decide +kernel
theorem dX6_init_27 : decode cX6_init 27 = .ok (.aload_n 0, 1) := by decide +kernel
theorem dX6_init_28 : decode cX6_init 28 = .ok (.iconst 5, 1) := by decide +kernel
theorem dX6_init_29 : decode cX6_init 29 = .ok (.newarray .int, 2) := by decide +kernel
theorem dX6_init_31 : decode cX6_init 31 = .ok (.putfield 19, 3) := by decide +kernel
theorem dX6_init_34 : decode cX6_init 34 = .ok (.aload_n 0, 1) := by decide +kernel
theorem dX6_init_35 : decode cX6_init 35 = .ok (.sipush 200, 3) := by decide +kernel
theorem dX6_init_38 : decode cX6_init 38 = .ok (.newarray .int, 2) := by decide +kernel
theorem dX6_init_40 : decode cX6_init 40 = .ok (.putfield 22, 3) := by decide +kernel
theorem dX6_init_43 : decode cX6_init 43 = .ok (.aload_n 0, 1) := by decide +kernel
theorem dX6_init_44 : decode cX6_init 44 = .ok (.bipush 40, 2) := by decide +kernel
theorem dX6_init_46 : decode cX6_init 46 = .ok (.newarray .boolean, 2) := by decide +kernel
theorem dX6_init_48 : decode cX6_init 48 = .ok (.putfield 25, 3) := by decide +kernel
theorem dX6_init_51 : decode cX6_init 51 = .ok (.aload_n 0, 1) := by decide +kernel
theorem dX6_init_52 : decode cX6_init 52 = .ok (.bipush 40, 2) := by decide +kernel
theorem dX6_init_54 : decode cX6_init 54 = .ok (.newarray .int, 2) := by decide +kernel
theorem dX6_init_56 : decode cX6_init 56 = .ok (.putfield 29, 3) := by decide +kernel
theorem dX6_init_59 : decode cX6_init 59 = .ok (.aload_n 0, 1) := by decide +kernel
theorem dX6_init_60 : decode cX6_init 60 = .ok (.bipush 40, 2) := by decide +kernel
theorem dX6_init_62 : decode cX6_init 62 = .ok (.newarray .int, 2) := by decide +kernel
theorem dX6_init_64 : decode cX6_init 64 = .ok (.putfield 32, 3) := by decide +kernel
theorem dX6_init_67 : decode cX6_init 67 = .ok (.aload_n 0, 1) := by decide +kernel
theorem dX6_init_68 : decode cX6_init 68 = .ok (.bipush 40, 2) := by decide +kernel
theorem dX6_init_70 : decode cX6_init 70 = .ok (.newarray .int, 2) := by decide +kernel
theorem dX6_init_72 : decode cX6_init 72 = .ok (.putfield 35, 3) := by decide +kernel
theorem dX6_init_75 : decode cX6_init 75 = .ok (.aload_n 0, 1) := by decide +kernel
theorem dX6_init_76 : decode cX6_init 76 = .ok (.sipush 8000, 3) := by decide +kernel
theorem dX6_init_79 : decode cX6_init 79 = .ok (.newarray .int, 2) := by decide +kernel
theorem dX6_init_81 : decode cX6_init 81 = .ok (.putfield 38, 3) := by decide +kernel
theorem dX6_init_84 : decode cX6_init 84 = .ok (.aload_n 0, 1) := by decide +kernel
theorem dX6_init_85 : decode cX6_init 85 = .ok (.sipush 8000, 3) := by decide +kernel
theorem dX6_init_88 : decode cX6_init 88 = .ok (.newarray .int, 2) := by decide +kernel
theorem dX6_init_90 : decode cX6_init 90 = .ok (.putfield 41, 3) := by decide +kernel
theorem dX6_init_93 : decode cX6_init 93 = .ok (.aload_n 0, 1) := by decide +kernel
theorem dX6_init_94 : decode cX6_init 94 = .ok (.sipush 8000, 3) := by decide +kernel
theorem dX6_init_97 : decode cX6_init 97 = .ok (.newarray .int, 2) := by decide +kernel
theorem dX6_init_99 : decode cX6_init 99 = .ok (.putfield 44, 3) := by decide +kernel
theorem dX6_init_102 : decode cX6_init 102 = .ok (.aload_n 0, 1) := by decide +kernel
theorem dX6_init_103 : decode cX6_init 103 = .ok (.bipush 8, 2) := by decide +kernel
theorem dX6_init_105 : decode cX6_init 105 = .ok (.newarray .int, 2) := by decide +kernel
theorem dX6_init_107 : decode cX6_init 107 = .ok (.putfield 47, 3) := by decide +kernel
theorem dX6_init_110 : decode cX6_init 110 = .ok (.aload_n 0, 1) := by decide +kernel
theorem dX6_init_111 : decode cX6_init 111 = .ok (.sipush 320, 3) := by decide +kernel
theorem dX6_init_114 : decode cX6_init 114 = .ok (.newarray .int, 2) := by decide +kernel
theorem dX6_init_116 : decode cX6_init 116 = .ok (.putfield 50, 3) := by decide +kernel
theorem dX6_init_119 : decode cX6_init 119 = .ok (.aload_n 0, 1) := by decide +kernel
theorem dX6_init_120 : decode cX6_init 120 = .ok (.sipush 320, 3) := by decide +kernel
theorem dX6_init_123 : decode cX6_init 123 = .ok (.newarray .int, 2) := by decide +kernel
theorem dX6_init_125 : decode cX6_init 125 = .ok (.putfield 53, 3) := by decide +kernel
theorem dX6_init_128 : decode cX6_init 128 = .ok (.aload_n 0, 1) := by decide +kernel
theorem dX6_init_129 : decode cX6_init 129 = .ok (.sipush 320, 3) := by decide +kernel
theorem dX6_init_132 : decode cX6_init 132 = .ok (.newarray .int, 2) := by decide +kernel
theorem dX6_init_134 : decode cX6_init 134 = .ok (.putfield 56, 3) := by decide +kernel
theorem dX6_init_137 : decode cX6_init 137 = .ok (.return_, 1) := by decide +kernel
theorem dX6_thrown_0 : decode cX6_thrown 0 = .ok (.aload_n 0, 1) := by decide +kernel
theorem dX6_thrown_1 : decode cX6_thrown 1 = .ok (.getfield 59, 3) := by decide +kernel
theorem dX6_thrown_4 : decode cX6_thrown 4 = .ok (.ireturn, 1) := by decide +kernel
theorem dX6_fail_0 : decode cX6_fail 0 = .ok (.aload_n 0, 1) := by decide +kernel
theorem dX6_fail_1 : decode cX6_fail 1 = .ok (.iload_n 1, 1) := by decide +kernel
theorem dX6_fail_2 : decode cX6_fail 2 = .ok (.putfield 59, 3) := by decide +kernel
theorem dX6_fail_5 : decode cX6_fail 5 = .ok (.iconst 0, 1) := by decide +kernel
theorem dX6_fail_6 : decode cX6_fail 6 = .ok (.ireturn, 1) := by decide +kernel
theorem dX6_isIn_0 : decode cX6_isIn 0 = .ok (.iload_n 0, 1) := by decide +kernel
theorem dX6_isIn_1 : decode cX6_isIn 1 = .ok (.iload_n 1, 1) := by decide +kernel
theorem dX6_isIn_2 : decode cX6_isIn 2 = .ok (.if_icmp .lt 12, 3) := by decide +kernel
theorem dX6_isIn_5 : decode cX6_isIn 5 = .ok (.iload_n 0, 1) := by decide +kernel
theorem dX6_isIn_6 : decode cX6_isIn 6 = .ok (.iload_n 2, 1) := by decide +kernel
theorem dX6_isIn_7 : decode cX6_isIn 7 = .ok (.if_icmp .gt 7, 3) := by decide +kernel
theorem dX6_isIn_10 : decode cX6_isIn 10 = .ok (.iconst 1, 1) := by decide +kernel
theorem dX6_isIn_11 : decode cX6_isIn 11 = .ok (.goto 4, 3) := by decide +kernel
theorem dX6_isIn_14 : decode cX6_isIn 14 = .ok (.iconst 0, 1) := by decide +kernel
theorem dX6_isIn_15 : decode cX6_isIn 15 = .ok (.ireturn, 1) := by decide +kernel
theorem dX6_isPuppet_0 : decode cX6_isPuppet 0 = .ok (.iload_n 1, 1) := by decide +kernel
theorem dX6_isPuppet_1 : decode cX6_isPuppet 1 = .ok (.iconst 0, 1) := by decide +kernel
theorem dX6_isPuppet_2 : decode cX6_isPuppet 2 = .ok (.aload_n 0, 1) := by decide +kernel
theorem dX6_isPuppet_3 : decode cX6_isPuppet 3 = .ok (.getfield 63, 3) := by decide +kernel
theorem dX6_isPuppet_6 : decode cX6_isPuppet 6 = .ok (.iconst 1, 1) := by decide +kernel
theorem dX6_isPuppet_7 : decode cX6_isPuppet 7 = .ok (.isub, 1) := by decide +kernel
theorem dX6_isPuppet_8 : decode cX6_isPuppet 8 = .ok (.invokestatic 66, 3) := by decide +kernel
theorem dX6_isPuppet_11 : decode cX6_isPuppet 11 = .ok (.ireturn, 1) := by decide +kernel
theorem dX6_isPlayer_0 : decode cX6_isPlayer 0 = .ok (.iload_n 1, 1) := by decide +kernel
theorem dX6_isPlayer_1 : decode cX6_isPlayer 1 = .ok (.iconst 0, 1) := by decide +kernel
theorem dX6_isPlayer_2 : decode cX6_isPlayer 2 = .ok (.aload_n 0, 1) := by decide +kernel
theorem dX6_isPlayer_3 : decode cX6_isPlayer 3 = .ok (.getfield 70, 3) := by decide +kernel
theorem dX6_isPlayer_6 : decode cX6_isPlayer 6 = .ok (.iconst 1, 1) := by decide +kernel
theorem dX6_isPlayer_7 : decode cX6_isPlayer 7 = .ok (.isub, 1) := by decide +kernel
theorem dX6_isPlayer_8 : decode cX6_isPlayer 8 = .ok (.invokestatic 66, 3) := by decide +kernel
theorem dX6_isPlayer_11 : decode cX6_isPlayer 11 = .ok (.ireturn, 1) := by decide +kernel
theorem dX6_isBeat_0 : decode cX6_isBeat 0 = .ok (.iload_n 0, 1) := by decide +kernel
theorem dX6_isBeat_1 : decode cX6_isBeat 1 = .ok (.iconst 0, 1) := by decide +kernel
theorem dX6_isBeat_2 : decode cX6_isBeat 2 = .ok (.sipush 999, 3) := by decide +kernel
theorem dX6_isBeat_5 : decode cX6_isBeat 5 = .ok (.invokestatic 66, 3) := by decide +kernel
theorem dX6_isBeat_8 : decode cX6_isBeat 8 = .ok (.ireturn, 1) := by decide +kernel
theorem dX6_addPuppet_0 : decode cX6_addPuppet 0 = .ok (.aload_n 0, 1) := by decide +kernel
theorem dX6_addPuppet_1 : decode cX6_addPuppet 1 = .ok (.iconst 0, 1) := by decide +kernel
theorem dX6_addPuppet_2 : decode cX6_addPuppet 2 = .ok (.putfield 59, 3) := by decide +kernel
theorem dX6_addPuppet_5 : decode cX6_addPuppet 5 = .ok (.iload_n 1, 1) := by decide +kernel
theorem dX6_addPuppet_6 : decode cX6_addPuppet 6 = .ok (.iconst 1, 1) := by decide +kernel
theorem dX6_addPuppet_7 : decode cX6_addPuppet 7 = .ok (.bipush 9, 2) := by decide +kernel
theorem dX6_addPuppet_9 : decode cX6_addPuppet 9 = .ok (.invokestatic 66, 3) := by decide +kernel
theorem dX6_addPuppet_12 : decode cX6_addPuppet 12 = .ok (.ifCond .eq 12, 3) := by decide +kernel
theorem dX6_addPuppet_15 : decode cX6_addPuppet 15 = .ok (.iload_n 2, 1) := by decide +kernel
theorem dX6_addPuppet_16 : decode cX6_addPuppet 16 = .ok (.iconst 1, 1) := by decide +kernel
theorem dX6_addPuppet_17 : decode cX6_addPuppet 17 = .ok (.iconst 2, 1) := by decide +kernel
theorem dX6_addPuppet_18 : decode cX6_addPuppet 18 = .ok (.invokestatic 66, 3) := by decide +kernel
theorem dX6_addPuppet_21 : decode cX6_addPuppet 21 = .ok (.ifCond .ne 9, 3) := by decide +kernel
theorem dX6_addPuppet_24 : decode cX6_addPuppet 24 = .ok (.aload_n 0, 1) := by decide +kernel
theorem dX6_addPuppet_25 : decode cX6_addPuppet 25 = .ok (.iconst 1, 1) := by decide +kernel
theorem dX6_addPuppet_26 : decode cX6_addPuppet 26 = .ok (.invokevirtual 73, 3) := by decide +kernel
theorem dX6_addPuppet_29 : decode cX6_addPuppet 29 = .ok (.ireturn, 1) := by decide +kernel
theorem dX6_addPuppet_30 : decode cX6_addPuppet 30 = .ok (.aload_n 0, 1) := by decide +kernel
theorem dX6_addPuppet_31 : decode cX6_addPuppet 31 = .ok (.getfield 63, 3) := by decide +kernel
theorem dX6_addPuppet_34 : decode cX6_addPuppet 34 = .ok (.bipush 8, 2) := by decide +kernel
theorem dX6_addPuppet_36 : decode cX6_addPuppet 36 = .ok (.if_icmp .ne 9, 3) := by decide +kernel
theorem dX6_addPuppet_39 : decode cX6_addPuppet 39 = .ok (.aload_n 0, 1) := by decide +kernel
theorem dX6_addPuppet_40 : decode cX6_addPuppet 40 = .ok (.iconst 2, 1) := by decide +kernel
theorem dX6_addPuppet_41 : decode cX6_addPuppet 41 = .ok (.invokevirtual 73, 3) := by decide +kernel
theorem dX6_addPuppet_44 : decode cX6_addPuppet 44 = .ok (.ireturn, 1) := by decide +kernel
theorem dX6_addPuppet_45 : decode cX6_addPuppet 45 = .ok (.aload_n 0, 1) := by decide +kernel
theorem dX6_addPuppet_46 : decode cX6_addPuppet 46 = .ok (.getfield 9, 3) := by decide +kernel
theorem dX6_addPuppet_49 : decode cX6_addPuppet 49 = .ok (.aload_n 0, 1) := by decide +kernel
theorem dX6_addPuppet_50 : decode cX6_addPuppet 50 = .ok (.getfield 63, 3) := by decide +kernel
theorem dX6_addPuppet_53 : decode cX6_addPuppet 53 = .ok (.iload_n 1, 1) := by decide +kernel
theorem dX6_addPuppet_54 : decode cX6_addPuppet 54 = .ok (.iastore, 1) := by decide +kernel
theorem dX6_addPuppet_55 : decode cX6_addPuppet 55 = .ok (.aload_n 0, 1) := by decide +kernel
theorem dX6_addPuppet_56 : decode cX6_addPuppet 56 = .ok (.getfield 13, 3) := by decide +kernel
theorem dX6_addPuppet_59 : decode cX6_addPuppet 59 = .ok (.aload_n 0, 1) := by decide +kernel
theorem dX6_addPuppet_60 : decode cX6_addPuppet 60 = .ok (.getfield 63, 3) := by decide +kernel
theorem dX6_addPuppet_63 : decode cX6_addPuppet 63 = .ok (.iload_n 2, 1) := by decide +kernel
theorem dX6_addPuppet_64 : decode cX6_addPuppet 64 = .ok (.iastore, 1) := by decide +kernel
theorem dX6_addPuppet_65 : decode cX6_addPuppet 65 = .ok (.aload_n 0, 1) := by decide +kernel
theorem dX6_addPuppet_66 : decode cX6_addPuppet 66 = .ok (.dup, 1) := by decide +kernel
theorem dX6_addPuppet_67 : decode cX6_addPuppet 67 = .ok (.getfield 63, 3) := by decide +kernel
theorem dX6_addPuppet_70 : decode cX6_addPuppet 70 = .ok (.iconst 1, 1) := by decide +kernel
theorem dX6_addPuppet_71 : decode cX6_addPuppet 71 = .ok (.iadd, 1) := by decide +kernel
theorem dX6_addPuppet_72 : decode cX6_addPuppet 72 = .ok (.putfield 63, 3) := by decide +kernel
theorem dX6_addPuppet_75 : decode cX6_addPuppet 75 = .ok (.aload_n 0, 1) := by decide +kernel
theorem dX6_addPuppet_76 : decode cX6_addPuppet 76 = .ok (.iconst 0, 1) := by decide +kernel
theorem dX6_addPuppet_77 : decode cX6_addPuppet 77 = .ok (.putfield 77, 3) := by decide +kernel
theorem dX6_addPuppet_80 : decode cX6_addPuppet 80 = .ok (.aload_n 0, 1) := by decide +kernel
theorem dX6_addPuppet_81 : decode cX6_addPuppet 81 = .ok (.getfield 63, 3) := by decide +kernel
theorem dX6_addPuppet_84 : decode cX6_addPuppet 84 = .ok (.iconst 1, 1) := by decide +kernel
theorem dX6_addPuppet_85 : decode cX6_addPuppet 85 = .ok (.isub, 1) := by decide +kernel
theorem dX6_addPuppet_86 : decode cX6_addPuppet 86 = .ok (.ireturn, 1) := by decide +kernel
theorem dX6_addPlayer_0 : decode cX6_addPlayer 0 = .ok (.aload_n 0, 1) := by decide +kernel
theorem dX6_addPlayer_1 : decode cX6_addPlayer 1 = .ok (.iconst 0, 1) := by decide +kernel
theorem dX6_addPlayer_2 : decode cX6_addPlayer 2 = .ok (.putfield 59, 3) := by decide +kernel
theorem dX6_addPlayer_5 : decode cX6_addPlayer 5 = .ok (.iload_n 1, 1) := by decide +kernel
theorem dX6_addPlayer_6 : decode cX6_addPlayer 6 = .ok (.iconst 1, 1) := by decide +kernel
theorem dX6_addPlayer_7 : decode cX6_addPlayer 7 = .ok (.bipush 20, 2) := by decide +kernel
theorem dX6_addPlayer_9 : decode cX6_addPlayer 9 = .ok (.invokestatic 66, 3) := by decide +kernel
theorem dX6_addPlayer_12 : decode cX6_addPlayer 12 = .ok (.ifCond .eq 13, 3) := by decide +kernel
theorem dX6_addPlayer_15 : decode cX6_addPlayer 15 = .ok (.iload_n 2, 1) := by decide +kernel
theorem dX6_addPlayer_16 : decode cX6_addPlayer 16 = .ok (.iconst 0, 1) := by decide +kernel
theorem dX6_addPlayer_17 : decode cX6_addPlayer 17 = .ok (.bipush 19, 2) := by decide +kernel
theorem dX6_addPlayer_19 : decode cX6_addPlayer 19 = .ok (.invokestatic 66, 3) := by decide +kernel
theorem dX6_addPlayer_22 : decode cX6_addPlayer 22 = .ok (.ifCond .ne 9, 3) := by decide +kernel
theorem dX6_addPlayer_25 : decode cX6_addPlayer 25 = .ok (.aload_n 0, 1) := by decide +kernel
theorem dX6_addPlayer_26 : decode cX6_addPlayer 26 = .ok (.iconst 1, 1) := by decide +kernel
theorem dX6_addPlayer_27 : decode cX6_addPlayer 27 = .ok (.invokevirtual 73, 3) := by decide +kernel
theorem dX6_addPlayer_30 : decode cX6_addPlayer 30 = .ok (.ireturn, 1) := by decide +kernel
theorem dX6_addPlayer_31 : decode cX6_addPlayer 31 = .ok (.aload_n 0, 1) := by decide +kernel
theorem dX6_addPlayer_32 : decode cX6_addPlayer 32 = .ok (.getfield 70, 3) := by decide +kernel
theorem dX6_addPlayer_35 : decode cX6_addPlayer 35 = .ok (.iconst 5, 1) := by decide +kernel
theorem dX6_addPlayer_36 : decode cX6_addPlayer 36 = .ok (.if_icmp .ne 9, 3) := by decide +kernel
theorem dX6_addPlayer_39 : decode cX6_addPlayer 39 = .ok (.aload_n 0, 1) := by decide +kernel
theorem dX6_addPlayer_40 : decode cX6_addPlayer 40 = .ok (.iconst 2, 1) := by decide +kernel
theorem dX6_addPlayer_41 : decode cX6_addPlayer 41 = .ok (.invokevirtual 73, 3) := by decide +kernel
theorem dX6_addPlayer_44 : decode cX6_addPlayer 44 = .ok (.ireturn, 1) := by decide +kernel
theorem dX6_addPlayer_45 : decode cX6_addPlayer 45 = .ok (.aload_n 0, 1) := by decide +kernel
theorem dX6_addPlayer_46 : decode cX6_addPlayer 46 = .ok (.getfield 16, 3) := by decide +kernel
theorem dX6_addPlayer_49 : decode cX6_addPlayer 49 = .ok (.aload_n 0, 1) := by decide +kernel
theorem dX6_addPlayer_50 : decode cX6_addPlayer 50 = .ok (.getfield 70, 3) := by decide +kernel
theorem dX6_addPlayer_53 : decode cX6_addPlayer 53 = .ok (.iload_n 1, 1) := by decide +kernel
theorem dX6_addPlayer_54 : decode cX6_addPlayer 54 = .ok (.iastore, 1) := by decide +kernel
theorem dX6_addPlayer_55 : decode cX6_addPlayer 55 = .ok (.aload_n 0, 1) := by decide +kernel
theorem dX6_addPlayer_56 : decode cX6_addPlayer 56 = .ok (.getfield 19, 3) := by decide +kernel
theorem dX6_addPlayer_59 : decode cX6_addPlayer 59 = .ok (.aload_n 0, 1) := by decide +kernel
theorem dX6_addPlayer_60 : decode cX6_addPlayer 60 = .ok (.getfield 70, 3) := by decide +kernel
theorem dX6_addPlayer_63 : decode cX6_addPlayer 63 = .ok (.iload_n 2, 1) := by decide +kernel
theorem dX6_addPlayer_64 : decode cX6_addPlayer 64 = .ok (.iastore, 1) := by decide +kernel
theorem dX6_addPlayer_65 : decode cX6_addPlayer 65 = .ok (.aload_n 0, 1) := by decide +kernel
theorem dX6_addPlayer_66 : decode cX6_addPlayer 66 = .ok (.dup, 1) := by decide +kernel
theorem dX6_addPlayer_67 : decode cX6_addPlayer 67 = .ok (.getfield 70, 3) := by decide +kernel
theorem dX6_addPlayer_70 : decode cX6_addPlayer 70 = .ok (.iconst 1, 1) := by decide +kernel
theorem dX6_addPlayer_71 : decode cX6_addPlayer 71 = .ok (.iadd, 1) := by decide +kernel
theorem dX6_addPlayer_72 : decode cX6_addPlayer 72 = .ok (.putfield 70, 3) := by decide +kernel
theorem dX6_addPlayer_75 : decode cX6_addPlayer 75 = .ok (.aload_n 0, 1) := by decide +kernel
theorem dX6_addPlayer_76 : decode cX6_addPlayer 76 = .ok (.iconst 0, 1) := by decide +kernel
theorem dX6_addPlayer_77 : decode cX6_addPlayer 77 = .ok (.putfield 77, 3) := by decide +kernel
theorem dX6_addPlayer_80 : decode cX6_addPlayer 80 = .ok (.aload_n 0, 1) := by decide +kernel
theorem dX6_addPlayer_81 : decode cX6_addPlayer 81 = .ok (.getfield 70, 3) := by decide +kernel
theorem dX6_addPlayer_84 : decode cX6_addPlayer 84 = .ok (.iconst 1, 1) := by decide +kernel
theorem dX6_addPlayer_85 : decode cX6_addPlayer 85 = .ok (.isub, 1) := by decide +kernel
theorem dX6_addPlayer_86 : decode cX6_addPlayer 86 = .ok (.ireturn, 1) := by decide +kernel
theorem dX6_kind_0 : decode cX6_kind 0 = .ok (.aload_n 0, 1) := by decide +kernel
theorem dX6_kind_1 : decode cX6_kind 1 = .ok (.getfield 22, 3) := by decide +kernel
theorem dX6_kind_4 : decode cX6_kind 4 = .ok (.iconst 5, 1) := by decide +kernel
theorem dX6_kind_5 : decode cX6_kind 5 = .ok (.iload_n 1, 1) := by decide +kernel
theorem dX6_kind_6 : decode cX6_kind 6 = .ok (.imul, 1) := by decide +kernel
theorem dX6_kind_7 : decode cX6_kind 7 = .ok (.iaload, 1) := by decide +kernel
theorem dX6_kind_8 : decode cX6_kind 8 = .ok (.ireturn, 1) := by decide +kernel
theorem dX6_beat_0 : decode cX6_beat 0 = .ok (.aload_n 0, 1) := by decide +kernel
theorem dX6_beat_1 : decode cX6_beat 1 = .ok (.getfield 22, 3) := by decide +kernel
theorem dX6_beat_4 : decode cX6_beat 4 = .ok (.iconst 5, 1) := by decide +kernel
theorem dX6_beat_5 : decode cX6_beat 5 = .ok (.iload_n 1, 1) := by decide +kernel
theorem dX6_beat_6 : decode cX6_beat 6 = .ok (.imul, 1) := by decide +kernel
theorem dX6_beat_7 : decode cX6_beat 7 = .ok (.iconst 2, 1) := by decide +kernel
theorem dX6_beat_8 : decode cX6_beat 8 = .ok (.iadd, 1) := by decide +kernel
theorem dX6_beat_9 : decode cX6_beat 9 = .ok (.iaload, 1) := by decide +kernel
theorem dX6_beat_10 : decode cX6_beat 10 = .ok (.ireturn, 1) := by decide +kernel
theorem dX6_behind_0 : decode cX6_behind 0 = .ok (.iconst (-1), 1) := by decide +kernel
theorem dX6_behind_1 : decode cX6_behind 1 = .ok (.istore_n 3, 1) := by decide +kernel
theorem dX6_behind_2 : decode cX6_behind 2 = .ok (.iconst 0, 1) := by decide +kernel
theorem dX6_behind_3 : decode cX6_behind 3 = .ok (.istore 4, 2) := by decide +kernel
theorem dX6_behind_5 : decode cX6_behind 5 = .ok (.iload 4, 2) := by decide +kernel
theorem dX6_behind_7 : decode cX6_behind 7 = .ok (.aload_n 0, 1) := by decide +kernel
theorem dX6_behind_8 : decode cX6_behind 8 = .ok (.getfield 81, 3) := by decide +kernel
theorem dX6_behind_11 : decode cX6_behind 11 = .ok (.if_icmp .ge 70, 3) := by decide +kernel
theorem dX6_behind_14 : decode cX6_behind 14 = .ok (.aload_n 0, 1) := by decide +kernel
theorem dX6_behind_15 : decode cX6_behind 15 = .ok (.getfield 25, 3) := by decide +kernel
theorem dX6_behind_18 : decode cX6_behind 18 = .ok (.iload 4, 2) := by decide +kernel
theorem dX6_behind_20 : decode cX6_behind 20 = .ok (.baload, 1) := by decide +kernel
theorem dX6_behind_21 : decode cX6_behind 21 = .ok (.ifCond .ne 54, 3) := by decide +kernel
theorem dX6_behind_24 : decode cX6_behind 24 = .ok (.aload_n 0, 1) := by decide +kernel
theorem dX6_behind_25 : decode cX6_behind 25 = .ok (.getfield 22, 3) := by decide +kernel
theorem dX6_behind_28 : decode cX6_behind 28 = .ok (.iconst 5, 1) := by decide +kernel
theorem dX6_behind_29 : decode cX6_behind 29 = .ok (.iload 4, 2) := by decide +kernel
theorem dX6_behind_31 : decode cX6_behind 31 = .ok (.imul, 1) := by decide +kernel
theorem dX6_behind_32 : decode cX6_behind 32 = .ok (.iconst 1, 1) := by decide +kernel
theorem dX6_behind_33 : decode cX6_behind 33 = .ok (.iadd, 1) := by decide +kernel
theorem dX6_behind_34 : decode cX6_behind 34 = .ok (.iaload, 1) := by decide +kernel
theorem dX6_behind_35 : decode cX6_behind 35 = .ok (.iload_n 1, 1) := by decide +kernel
theorem dX6_behind_36 : decode cX6_behind 36 = .ok (.if_icmp .ne 39, 3) := by decide +kernel
theorem dX6_behind_39 : decode cX6_behind 39 = .ok (.iload_n 2, 1) := by decide +kernel
theorem dX6_behind_40 : decode cX6_behind 40 = .ok (.iconst (-1), 1) := by decide +kernel
theorem dX6_behind_41 : decode cX6_behind 41 = .ok (.if_icmp .eq 16, 3) := by decide +kernel
theorem dX6_behind_44 : decode cX6_behind 44 = .ok (.aload_n 0, 1) := by decide +kernel
theorem dX6_behind_45 : decode cX6_behind 45 = .ok (.iload 4, 2) := by decide +kernel
theorem dX6_behind_47 : decode cX6_behind 47 = .ok (.iload_n 2, 1) := by decide +kernel
theorem dX6_behind_48 : decode cX6_behind 48 = .ok (.invokevirtual 84, 3) := by decide +kernel
theorem dX6_behind_51 : decode cX6_behind 51 = .ok (.ifCond .ne 6, 3) := by decide +kernel
theorem dX6_behind_54 : decode cX6_behind 54 = .ok (.goto 21, 3) := by decide +kernel
theorem dX6_behind_57 : decode cX6_behind 57 = .ok (.iload_n 3, 1) := by decide +kernel
theorem dX6_behind_58 : decode cX6_behind 58 = .ok (.iconst (-1), 1) := by decide +kernel
theorem dX6_behind_59 : decode cX6_behind 59 = .ok (.if_icmp .eq 13, 3) := by decide +kernel
theorem dX6_behind_62 : decode cX6_behind 62 = .ok (.aload_n 0, 1) := by decide +kernel
theorem dX6_behind_63 : decode cX6_behind 63 = .ok (.iload_n 3, 1) := by decide +kernel
theorem dX6_behind_64 : decode cX6_behind 64 = .ok (.iload 4, 2) := by decide +kernel
theorem dX6_behind_66 : decode cX6_behind 66 = .ok (.invokevirtual 84, 3) := by decide +kernel
theorem dX6_behind_69 : decode cX6_behind 69 = .ok (.ifCond .eq 6, 3) := by decide +kernel
theorem dX6_behind_72 : decode cX6_behind 72 = .ok (.iload 4, 2) := by decide +kernel
theorem dX6_behind_74 : decode cX6_behind 74 = .ok (.istore_n 3, 1) := by decide +kernel
theorem dX6_behind_75 : decode cX6_behind 75 = .ok (.iinc 4 1, 3) := by decide +kernel
theorem dX6_behind_78 : decode cX6_behind 78 = .ok (.goto (-73), 3) := by decide +kernel
theorem dX6_behind_81 : decode cX6_behind 81 = .ok (.iload_n 3, 1) := by decide +kernel
theorem dX6_behind_82 : decode cX6_behind 82 = .ok (.ireturn, 1) := by decide +kernel
theorem dX6_isBehind_0 : decode cX6_isBehind 0 = .ok (.aload_n 0, 1) := by decide +kernel
theorem dX6_isBehind_1 : decode cX6_isBehind 1 = .ok (.iload_n 1, 1) := by decide +kernel
theorem dX6_isBehind_2 : decode cX6_isBehind 2 = .ok (.invokevirtual 88, 3) := by decide +kernel
theorem dX6_isBehind_5 : decode cX6_isBehind 5 = .ok (.aload_n 0, 1) := by decide +kernel
theorem dX6_isBehind_6 : decode cX6_isBehind 6 = .ok (.iload_n 2, 1) := by decide +kernel
theorem dX6_isBehind_7 : decode cX6_isBehind 7 = .ok (.invokevirtual 88, 3) := by decide +kernel
theorem dX6_isBehind_10 : decode cX6_isBehind 10 = .ok (.if_icmp .gt 21, 3) := by decide +kernel
theorem dX6_isBehind_13 : decode cX6_isBehind 13 = .ok (.aload_n 0, 1) := by decide +kernel
theorem dX6_isBehind_14 : decode cX6_isBehind 14 = .ok (.iload_n 1, 1) := by decide +kernel
theorem dX6_isBehind_15 : decode cX6_isBehind 15 = .ok (.invokevirtual 88, 3) := by decide +kernel
theorem dX6_isBehind_18 : decode cX6_isBehind 18 = .ok (.aload_n 0, 1) := by decide +kernel
theorem dX6_isBehind_19 : decode cX6_isBehind 19 = .ok (.iload_n 2, 1) := by decide +kernel
theorem dX6_isBehind_20 : decode cX6_isBehind 20 = .ok (.invokevirtual 88, 3) := by decide +kernel
theorem dX6_isBehind_23 : decode cX6_isBehind 23 = .ok (.if_icmp .ne 12, 3) := by decide +kernel
theorem dX6_isBehind_26 : decode cX6_isBehind 26 = .ok (.iload_n 1, 1) := by decide +kernel
theorem dX6_isBehind_27 : decode cX6_isBehind 27 = .ok (.iload_n 2, 1) := by decide +kernel
theorem dX6_isBehind_28 : decode cX6_isBehind 28 = .ok (.if_icmp .le 7, 3) := by decide +kernel
theorem dX6_isBehind_31 : decode cX6_isBehind 31 = .ok (.iconst 1, 1) := by decide +kernel
theorem dX6_isBehind_32 : decode cX6_isBehind 32 = .ok (.goto 4, 3) := by decide +kernel
theorem dX6_isBehind_35 : decode cX6_isBehind 35 = .ok (.iconst 0, 1) := by decide +kernel
theorem dX6_isBehind_36 : decode cX6_isBehind 36 = .ok (.ireturn, 1) := by decide +kernel
theorem dX6_areRight_0 : decode cX6_areRight 0 = .ok (.iconst 0, 1) := by decide +kernel
theorem dX6_areRight_1 : decode cX6_areRight 1 = .ok (.istore_n 2, 1) := by decide +kernel
theorem dX6_areRight_2 : decode cX6_areRight 2 = .ok (.iconst 0, 1) := by decide +kernel
theorem dX6_areRight_3 : decode cX6_areRight 3 = .ok (.istore_n 3, 1) := by decide +kernel
theorem dX6_areRight_4 : decode cX6_areRight 4 = .ok (.iconst 0, 1) := by decide +kernel
theorem dX6_areRight_5 : decode cX6_areRight 5 = .ok (.istore 4, 2) := by decide +kernel
theorem dX6_areRight_7 : decode cX6_areRight 7 = .ok (.iconst 0, 1) := by decide +kernel
theorem dX6_areRight_8 : decode cX6_areRight 8 = .ok (.istore 5, 2) := by decide +kernel
theorem dX6_areRight_10 : decode cX6_areRight 10 = .ok (.aload_n 0, 1) := by decide +kernel
theorem dX6_areRight_11 : decode cX6_areRight 11 = .ok (.iload_n 1, 1) := by decide +kernel
theorem dX6_areRight_12 : decode cX6_areRight 12 = .ok (.iconst (-1), 1) := by decide +kernel
theorem dX6_areRight_13 : decode cX6_areRight 13 = .ok (.invokevirtual 91, 3) := by decide +kernel
theorem dX6_areRight_16 : decode cX6_areRight 16 = .ok (.istore 6, 2) := by decide +kernel
theorem dX6_areRight_18 : decode cX6_areRight 18 = .ok (.iload 6, 2) := by decide +kernel
theorem dX6_areRight_20 : decode cX6_areRight 20 = .ok (.iconst (-1), 1) := by decide +kernel
theorem dX6_areRight_21 : decode cX6_areRight 21 = .ok (.if_icmp .eq 175, 3) := by decide +kernel
theorem dX6_areRight_24 : decode cX6_areRight 24 = .ok (.iload_n 2, 1) := by decide +kernel
theorem dX6_areRight_25 : decode cX6_areRight 25 = .ok (.aload_n 0, 1) := by decide +kernel
theorem dX6_areRight_26 : decode cX6_areRight 26 = .ok (.iload 6, 2) := by decide +kernel
theorem dX6_areRight_28 : decode cX6_areRight 28 = .ok (.invokevirtual 95, 3) := by decide +kernel
theorem dX6_areRight_31 : decode cX6_areRight 31 = .ok (.ifCond .ne 7, 3) := by decide +kernel
theorem dX6_areRight_34 : decode cX6_areRight 34 = .ok (.iconst 1, 1) := by decide +kernel
theorem dX6_areRight_35 : decode cX6_areRight 35 = .ok (.goto 4, 3) := by decide +kernel
theorem dX6_areRight_38 : decode cX6_areRight 38 = .ok (.iconst 0, 1) := by decide +kernel
theorem dX6_areRight_39 : decode cX6_areRight 39 = .ok (.if_icmp .eq 18, 3) := by decide +kernel
theorem dX6_areRight_42 : decode cX6_areRight 42 = .ok (.iload_n 2, 1) := by decide +kernel
theorem dX6_areRight_43 : decode cX6_areRight 43 = .ok (.ifCond .eq 16, 3) := by decide +kernel
theorem dX6_areRight_46 : decode cX6_areRight 46 = .ok (.aload_n 0, 1) := by decide +kernel
theorem dX6_areRight_47 : decode cX6_areRight 47 = .ok (.iload 6, 2) := by decide +kernel
theorem dX6_areRight_49 : decode cX6_areRight 49 = .ok (.invokevirtual 88, 3) := by decide +kernel
theorem dX6_areRight_52 : decode cX6_areRight 52 = .ok (.iload 4, 2) := by decide +kernel
theorem dX6_areRight_54 : decode cX6_areRight 54 = .ok (.if_icmp .ge 5, 3) := by decide +kernel
theorem dX6_areRight_57 : decode cX6_areRight 57 = .ok (.iconst 0, 1) := by decide +kernel
theorem dX6_areRight_58 : decode cX6_areRight 58 = .ok (.ireturn, 1) := by decide +kernel
theorem dX6_areRight_59 : decode cX6_areRight 59 = .ok (.aload_n 0, 1) := by decide +kernel
theorem dX6_areRight_60 : decode cX6_areRight 60 = .ok (.iload 6, 2) := by decide +kernel
theorem dX6_areRight_62 : decode cX6_areRight 62 = .ok (.invokevirtual 95, 3) := by decide +kernel
theorem dX6_areRight_65 : decode cX6_areRight 65 = .ok (.ifCond .ne 36, 3) := by decide +kernel
theorem dX6_areRight_68 : decode cX6_areRight 68 = .ok (.iconst 1, 1) := by decide +kernel
theorem dX6_areRight_69 : decode cX6_areRight 69 = .ok (.istore_n 2, 1) := by decide +kernel
theorem dX6_areRight_70 : decode cX6_areRight 70 = .ok (.aload_n 0, 1) := by decide +kernel
theorem dX6_areRight_71 : decode cX6_areRight 71 = .ok (.iload 6, 2) := by decide +kernel
theorem dX6_areRight_73 : decode cX6_areRight 73 = .ok (.invokevirtual 88, 3) := by decide +kernel
theorem dX6_areRight_76 : decode cX6_areRight 76 = .ok (.istore_n 3, 1) := by decide +kernel
theorem dX6_areRight_77 : decode cX6_areRight 77 = .ok (.aload_n 0, 1) := by decide +kernel
theorem dX6_areRight_78 : decode cX6_areRight 78 = .ok (.iload 6, 2) := by decide +kernel
theorem dX6_areRight_80 : decode cX6_areRight 80 = .ok (.invokevirtual 88, 3) := by decide +kernel
theorem dX6_areRight_83 : decode cX6_areRight 83 = .ok (.istore 4, 2) := by decide +kernel
theorem dX6_areRight_85 : decode cX6_areRight 85 = .ok (.aload_n 0, 1) := by decide +kernel
theorem dX6_areRight_86 : decode cX6_areRight 86 = .ok (.getfield 22, 3) := by decide +kernel
theorem dX6_areRight_89 : decode cX6_areRight 89 = .ok (.iconst 5, 1) := by decide +kernel
theorem dX6_areRight_90 : decode cX6_areRight 90 = .ok (.iload 6, 2) := by decide +kernel
theorem dX6_areRight_92 : decode cX6_areRight 92 = .ok (.imul, 1) := by decide +kernel
theorem dX6_areRight_93 : decode cX6_areRight 93 = .ok (.iconst 3, 1) := by decide +kernel
theorem dX6_areRight_94 : decode cX6_areRight 94 = .ok (.iadd, 1) := by decide +kernel
theorem dX6_areRight_95 : decode cX6_areRight 95 = .ok (.iaload, 1) := by decide +kernel
theorem dX6_areRight_96 : decode cX6_areRight 96 = .ok (.istore 5, 2) := by decide +kernel
theorem dX6_areRight_98 : decode cX6_areRight 98 = .ok (.goto 86, 3) := by decide +kernel
theorem dX6_areRight_101 : decode cX6_areRight 101 = .ok (.aload_n 0, 1) := by decide +kernel
theorem dX6_areRight_102 : decode cX6_areRight 102 = .ok (.iload 6, 2) := by decide +kernel
theorem dX6_areRight_104 : decode cX6_areRight 104 = .ok (.invokevirtual 95, 3) := by decide +kernel
theorem dX6_areRight_107 : decode cX6_areRight 107 = .ok (.iconst 1, 1) := by decide +kernel
theorem dX6_areRight_108 : decode cX6_areRight 108 = .ok (.if_icmp .ne 52, 3) := by decide +kernel
theorem dX6_areRight_111 : decode cX6_areRight 111 = .ok (.aload_n 0, 1) := by decide +kernel
theorem dX6_areRight_112 : decode cX6_areRight 112 = .ok (.iload 6, 2) := by decide +kernel
theorem dX6_areRight_114 : decode cX6_areRight 114 = .ok (.invokevirtual 88, 3) := by decide +kernel
theorem dX6_areRight_117 : decode cX6_areRight 117 = .ok (.aload_n 0, 1) := by decide +kernel
theorem dX6_areRight_118 : decode cX6_areRight 118 = .ok (.getfield 22, 3) := by decide +kernel
theorem dX6_areRight_121 : decode cX6_areRight 121 = .ok (.iconst 5, 1) := by decide +kernel
theorem dX6_areRight_122 : decode cX6_areRight 122 = .ok (.iload 6, 2) := by decide +kernel
theorem dX6_areRight_124 : decode cX6_areRight 124 = .ok (.imul, 1) := by decide +kernel
theorem dX6_areRight_125 : decode cX6_areRight 125 = .ok (.iconst 3, 1) := by decide +kernel
theorem dX6_areRight_126 : decode cX6_areRight 126 = .ok (.iadd, 1) := by decide +kernel
theorem dX6_areRight_127 : decode cX6_areRight 127 = .ok (.iaload, 1) := by decide +kernel
theorem dX6_areRight_128 : decode cX6_areRight 128 = .ok (.iload 5, 2) := by decide +kernel
theorem dX6_areRight_130 : decode cX6_areRight 130 = .ok (.isub, 1) := by decide +kernel
theorem dX6_areRight_131 : decode cX6_areRight 131 = .ok (.invokestatic 98, 3) := by decide +kernel
theorem dX6_areRight_134 : decode cX6_areRight 134 = .ok (.iadd, 1) := by decide +kernel
theorem dX6_areRight_135 : decode cX6_areRight 135 = .ok (.istore 4, 2) := by decide +kernel
theorem dX6_areRight_137 : decode cX6_areRight 137 = .ok (.aload_n 0, 1) := by decide +kernel
theorem dX6_areRight_138 : decode cX6_areRight 138 = .ok (.getfield 22, 3) := by decide +kernel
theorem dX6_areRight_141 : decode cX6_areRight 141 = .ok (.iconst 5, 1) := by decide +kernel
theorem dX6_areRight_142 : decode cX6_areRight 142 = .ok (.iload 6, 2) := by decide +kernel
theorem dX6_areRight_144 : decode cX6_areRight 144 = .ok (.imul, 1) := by decide +kernel
theorem dX6_areRight_145 : decode cX6_areRight 145 = .ok (.iconst 3, 1) := by decide +kernel
theorem dX6_areRight_146 : decode cX6_areRight 146 = .ok (.iadd, 1) := by decide +kernel
theorem dX6_areRight_147 : decode cX6_areRight 147 = .ok (.iaload, 1) := by decide +kernel
theorem dX6_areRight_148 : decode cX6_areRight 148 = .ok (.istore 5, 2) := by decide +kernel
theorem dX6_areRight_150 : decode cX6_areRight 150 = .ok (.iload 4, 2) := by decide +kernel
theorem dX6_areRight_152 : decode cX6_areRight 152 = .ok (.sipush 1000, 3) := by decide +kernel
theorem dX6_areRight_155 : decode cX6_areRight 155 = .ok (.if_icmp .lt 29, 3) := by decide +kernel
theorem dX6_areRight_158 : decode cX6_areRight 158 = .ok (.iconst 0, 1) := by decide +kernel
theorem dX6_areRight_159 : decode cX6_areRight 159 = .ok (.ireturn, 1) := by decide +kernel
theorem dX6_areRight_160 : decode cX6_areRight 160 = .ok (.aload_n 0, 1) := by decide +kernel
theorem dX6_areRight_161 : decode cX6_areRight 161 = .ok (.iload 6, 2) := by decide +kernel
theorem dX6_areRight_163 : decode cX6_areRight 163 = .ok (.invokevirtual 95, 3) := by decide +kernel
theorem dX6_areRight_166 : decode cX6_areRight 166 = .ok (.iconst 3, 1) := by decide +kernel
theorem dX6_areRight_167 : decode cX6_areRight 167 = .ok (.if_icmp .ne 17, 3) := by decide +kernel
theorem dX6_areRight_170 : decode cX6_areRight 170 = .ok (.aload_n 0, 1) := by decide +kernel
theorem dX6_areRight_171 : decode cX6_areRight 171 = .ok (.iload 6, 2) := by decide +kernel
theorem dX6_areRight_173 : decode cX6_areRight 173 = .ok (.invokevirtual 88, 3) := by decide +kernel
theorem dX6_areRight_176 : decode cX6_areRight 176 = .ok (.iload_n 3, 1) := by decide +kernel
theorem dX6_areRight_177 : decode cX6_areRight 177 = .ok (.if_icmp .ne 5, 3) := by decide +kernel
theorem dX6_areRight_180 : decode cX6_areRight 180 = .ok (.iconst 0, 1) := by decide +kernel
theorem dX6_areRight_181 : decode cX6_areRight 181 = .ok (.ireturn, 1) := by decide +kernel
theorem dX6_areRight_182 : decode cX6_areRight 182 = .ok (.iconst 0, 1) := by decide +kernel
theorem dX6_areRight_183 : decode cX6_areRight 183 = .ok (.istore_n 2, 1) := by decide +kernel
theorem dX6_areRight_184 : decode cX6_areRight 184 = .ok (.aload_n 0, 1) := by decide +kernel
theorem dX6_areRight_185 : decode cX6_areRight 185 = .ok (.iload_n 1, 1) := by decide +kernel
theorem dX6_areRight_186 : decode cX6_areRight 186 = .ok (.iload 6, 2) := by decide +kernel
theorem dX6_areRight_188 : decode cX6_areRight 188 = .ok (.invokevirtual 91, 3) := by decide +kernel
theorem dX6_areRight_191 : decode cX6_areRight 191 = .ok (.istore 6, 2) := by decide +kernel
theorem dX6_areRight_193 : decode cX6_areRight 193 = .ok (.goto (-175), 3) := by decide +kernel
theorem dX6_areRight_196 : decode cX6_areRight 196 = .ok (.iconst 1, 1) := by decide +kernel
theorem dX6_areRight_197 : decode cX6_areRight 197 = .ok (.ireturn, 1) := by decide +kernel
theorem dX6_write_0 : decode cX6_write 0 = .ok (.aload_n 0, 1) := by decide +kernel
theorem dX6_write_1 : decode cX6_write 1 = .ok (.getfield 81, 3) := by decide +kernel
theorem dX6_write_4 : decode cX6_write 4 = .ok (.bipush 40, 2) := by decide +kernel
theorem dX6_write_6 : decode cX6_write 6 = .ok (.if_icmp .ne 5, 3) := by decide +kernel
theorem dX6_write_9 : decode cX6_write 9 = .ok (.iconst (-1), 1) := by decide +kernel
theorem dX6_write_10 : decode cX6_write 10 = .ok (.ireturn, 1) := by decide +kernel
theorem dX6_write_11 : decode cX6_write 11 = .ok (.iconst 5, 1) := by decide +kernel
theorem dX6_write_12 : decode cX6_write 12 = .ok (.aload_n 0, 1) := by decide +kernel
theorem dX6_write_13 : decode cX6_write 13 = .ok (.getfield 81, 3) := by decide +kernel
theorem dX6_write_16 : decode cX6_write 16 = .ok (.imul, 1) := by decide +kernel
theorem dX6_write_17 : decode cX6_write 17 = .ok (.istore 6, 2) := by decide +kernel
theorem dX6_write_19 : decode cX6_write 19 = .ok (.aload_n 0, 1) := by decide +kernel
theorem dX6_write_20 : decode cX6_write 20 = .ok (.getfield 22, 3) := by decide +kernel
theorem dX6_write_23 : decode cX6_write 23 = .ok (.iload 6, 2) := by decide +kernel
theorem dX6_write_25 : decode cX6_write 25 = .ok (.iload_n 1, 1) := by decide +kernel
theorem dX6_write_26 : decode cX6_write 26 = .ok (.iastore, 1) := by decide +kernel
theorem dX6_write_27 : decode cX6_write 27 = .ok (.aload_n 0, 1) := by decide +kernel
theorem dX6_write_28 : decode cX6_write 28 = .ok (.getfield 22, 3) := by decide +kernel
theorem dX6_write_31 : decode cX6_write 31 = .ok (.iload 6, 2) := by decide +kernel
theorem dX6_write_33 : decode cX6_write 33 = .ok (.iconst 1, 1) := by decide +kernel
theorem dX6_write_34 : decode cX6_write 34 = .ok (.iadd, 1) := by decide +kernel
theorem dX6_write_35 : decode cX6_write 35 = .ok (.iload_n 2, 1) := by decide +kernel
theorem dX6_write_36 : decode cX6_write 36 = .ok (.iastore, 1) := by decide +kernel
theorem dX6_write_37 : decode cX6_write 37 = .ok (.aload_n 0, 1) := by decide +kernel
theorem dX6_write_38 : decode cX6_write 38 = .ok (.getfield 22, 3) := by decide +kernel
theorem dX6_write_41 : decode cX6_write 41 = .ok (.iload 6, 2) := by decide +kernel
theorem dX6_write_43 : decode cX6_write 43 = .ok (.iconst 2, 1) := by decide +kernel
theorem dX6_write_44 : decode cX6_write 44 = .ok (.iadd, 1) := by decide +kernel
theorem dX6_write_45 : decode cX6_write 45 = .ok (.iload_n 3, 1) := by decide +kernel
theorem dX6_write_46 : decode cX6_write 46 = .ok (.iastore, 1) := by decide +kernel
theorem dX6_write_47 : decode cX6_write 47 = .ok (.aload_n 0, 1) := by decide +kernel
theorem dX6_write_48 : decode cX6_write 48 = .ok (.getfield 22, 3) := by decide +kernel
theorem dX6_write_51 : decode cX6_write 51 = .ok (.iload 6, 2) := by decide +kernel
theorem dX6_write_53 : decode cX6_write 53 = .ok (.iconst 3, 1) := by decide +kernel
theorem dX6_write_54 : decode cX6_write 54 = .ok (.iadd, 1) := by decide +kernel
theorem dX6_write_55 : decode cX6_write 55 = .ok (.iload 4, 2) := by decide +kernel
theorem dX6_write_57 : decode cX6_write 57 = .ok (.iastore, 1) := by decide +kernel
theorem dX6_write_58 : decode cX6_write 58 = .ok (.aload_n 0, 1) := by decide +kernel
theorem dX6_write_59 : decode cX6_write 59 = .ok (.getfield 22, 3) := by decide +kernel
theorem dX6_write_62 : decode cX6_write 62 = .ok (.iload 6, 2) := by decide +kernel
theorem dX6_write_64 : decode cX6_write 64 = .ok (.iconst 4, 1) := by decide +kernel
theorem dX6_write_65 : decode cX6_write 65 = .ok (.iadd, 1) := by decide +kernel
theorem dX6_write_66 : decode cX6_write 66 = .ok (.iload 5, 2) := by decide +kernel
theorem dX6_write_68 : decode cX6_write 68 = .ok (.iastore, 1) := by decide +kernel
theorem dX6_write_69 : decode cX6_write 69 = .ok (.aload_n 0, 1) := by decide +kernel
theorem dX6_write_70 : decode cX6_write 70 = .ok (.dup, 1) := by decide +kernel
theorem dX6_write_71 : decode cX6_write 71 = .ok (.getfield 81, 3) := by decide +kernel
theorem dX6_write_74 : decode cX6_write 74 = .ok (.iconst 1, 1) := by decide +kernel
theorem dX6_write_75 : decode cX6_write 75 = .ok (.iadd, 1) := by decide +kernel
theorem dX6_write_76 : decode cX6_write 76 = .ok (.putfield 81, 3) := by decide +kernel
theorem dX6_write_79 : decode cX6_write 79 = .ok (.aload_n 0, 1) := by decide +kernel
theorem dX6_write_80 : decode cX6_write 80 = .ok (.iload_n 2, 1) := by decide +kernel
theorem dX6_write_81 : decode cX6_write 81 = .ok (.invokevirtual 103, 3) := by decide +kernel
theorem dX6_write_84 : decode cX6_write 84 = .ok (.ifCond .ne 15, 3) := by decide +kernel
theorem dX6_write_87 : decode cX6_write 87 = .ok (.aload_n 0, 1) := by decide +kernel
theorem dX6_write_88 : decode cX6_write 88 = .ok (.dup, 1) := by decide +kernel
theorem dX6_write_89 : decode cX6_write 89 = .ok (.getfield 81, 3) := by decide +kernel
theorem dX6_write_92 : decode cX6_write 92 = .ok (.iconst 1, 1) := by decide +kernel
theorem dX6_write_93 : decode cX6_write 93 = .ok (.isub, 1) := by decide +kernel
theorem dX6_write_94 : decode cX6_write 94 = .ok (.putfield 81, 3) := by decide +kernel
theorem dX6_write_97 : decode cX6_write 97 = .ok (.iconst (-1), 1) := by decide +kernel
theorem dX6_write_98 : decode cX6_write 98 = .ok (.ireturn, 1) := by decide +kernel
theorem dX6_write_99 : decode cX6_write 99 = .ok (.aload_n 0, 1) := by decide +kernel
theorem dX6_write_100 : decode cX6_write 100 = .ok (.iconst 0, 1) := by decide +kernel
theorem dX6_write_101 : decode cX6_write 101 = .ok (.putfield 77, 3) := by decide +kernel
theorem dX6_write_104 : decode cX6_write 104 = .ok (.aload_n 0, 1) := by decide +kernel
theorem dX6_write_105 : decode cX6_write 105 = .ok (.getfield 81, 3) := by decide +kernel
theorem dX6_write_108 : decode cX6_write 108 = .ok (.iconst 1, 1) := by decide +kernel
theorem dX6_write_109 : decode cX6_write 109 = .ok (.isub, 1) := by decide +kernel
theorem dX6_write_110 : decode cX6_write 110 = .ok (.ireturn, 1) := by decide +kernel
theorem dX6_written_0 : decode cX6_written 0 = .ok (.aload_n 0, 1) := by decide +kernel
theorem dX6_written_1 : decode cX6_written 1 = .ok (.iconst 0, 1) := by decide +kernel
theorem dX6_written_2 : decode cX6_written 2 = .ok (.putfield 59, 3) := by decide +kernel
theorem dX6_written_5 : decode cX6_written 5 = .ok (.aload_n 0, 1) := by decide +kernel
theorem dX6_written_6 : decode cX6_written 6 = .ok (.iload_n 2, 1) := by decide +kernel
theorem dX6_written_7 : decode cX6_written 7 = .ok (.invokevirtual 107, 3) := by decide +kernel
theorem dX6_written_10 : decode cX6_written 10 = .ok (.ifCond .ne 9, 3) := by decide +kernel
theorem dX6_written_13 : decode cX6_written 13 = .ok (.aload_n 0, 1) := by decide +kernel
theorem dX6_written_14 : decode cX6_written 14 = .ok (.iconst 1, 1) := by decide +kernel
theorem dX6_written_15 : decode cX6_written 15 = .ok (.invokevirtual 73, 3) := by decide +kernel
theorem dX6_written_18 : decode cX6_written 18 = .ok (.ireturn, 1) := by decide +kernel
theorem dX6_written_19 : decode cX6_written 19 = .ok (.iload_n 3, 1) := by decide +kernel
theorem dX6_written_20 : decode cX6_written 20 = .ok (.invokestatic 110, 3) := by decide +kernel
theorem dX6_written_23 : decode cX6_written 23 = .ok (.ifCond .eq 43, 3) := by decide +kernel
theorem dX6_written_26 : decode cX6_written 26 = .ok (.iload_n 1, 1) := by decide +kernel
theorem dX6_written_27 : decode cX6_written 27 = .ok (.iconst 1, 1) := by decide +kernel
theorem dX6_written_28 : decode cX6_written 28 = .ok (.if_icmp .gt 14, 3) := by decide +kernel
theorem dX6_written_31 : decode cX6_written 31 = .ok (.iload 4, 2) := by decide +kernel
theorem dX6_written_33 : decode cX6_written 33 = .ok (.iconst 0, 1) := by decide +kernel
theorem dX6_written_34 : decode cX6_written 34 = .ok (.bipush 19, 2) := by decide +kernel
theorem dX6_written_36 : decode cX6_written 36 = .ok (.invokestatic 66, 3) := by decide +kernel
theorem dX6_written_39 : decode cX6_written 39 = .ok (.ifCond .eq 27, 3) := by decide +kernel
theorem dX6_written_42 : decode cX6_written 42 = .ok (.iload_n 1, 1) := by decide +kernel
theorem dX6_written_43 : decode cX6_written 43 = .ok (.iconst 1, 1) := by decide +kernel
theorem dX6_written_44 : decode cX6_written 44 = .ok (.if_icmp .eq 18, 3) := by decide +kernel
theorem dX6_written_47 : decode cX6_written 47 = .ok (.iload_n 1, 1) := by decide +kernel
theorem dX6_written_48 : decode cX6_written 48 = .ok (.iconst 3, 1) := by decide +kernel
theorem dX6_written_49 : decode cX6_written 49 = .ok (.if_icmp .eq 13, 3) := by decide +kernel
theorem dX6_written_52 : decode cX6_written 52 = .ok (.iload 5, 2) := by decide +kernel
theorem dX6_written_54 : decode cX6_written 54 = .ok (.iconst 0, 1) := by decide +kernel
theorem dX6_written_55 : decode cX6_written 55 = .ok (.iconst 3, 1) := by decide +kernel
theorem dX6_written_56 : decode cX6_written 56 = .ok (.invokestatic 66, 3) := by decide +kernel
theorem dX6_written_59 : decode cX6_written 59 = .ok (.ifCond .eq 7, 3) := by decide +kernel
theorem dX6_written_62 : decode cX6_written 62 = .ok (.iconst 1, 1) := by decide +kernel
theorem dX6_written_63 : decode cX6_written 63 = .ok (.goto 4, 3) := by decide +kernel
theorem dX6_written_66 : decode cX6_written 66 = .ok (.iconst 0, 1) := by decide +kernel
theorem dX6_written_67 : decode cX6_written 67 = .ok (.istore 6, 2) := by decide +kernel
theorem dX6_written_69 : decode cX6_written 69 = .ok (.iload 6, 2) := by decide +kernel
theorem dX6_written_71 : decode cX6_written 71 = .ok (.ifCond .ne 9, 3) := by decide +kernel
theorem dX6_written_74 : decode cX6_written 74 = .ok (.aload_n 0, 1) := by decide +kernel
theorem dX6_written_75 : decode cX6_written 75 = .ok (.iconst 2, 1) := by decide +kernel
theorem dX6_written_76 : decode cX6_written 76 = .ok (.invokevirtual 73, 3) := by decide +kernel
theorem dX6_written_79 : decode cX6_written 79 = .ok (.ireturn, 1) := by decide +kernel
theorem dX6_written_80 : decode cX6_written 80 = .ok (.aload_n 0, 1) := by decide +kernel
theorem dX6_written_81 : decode cX6_written 81 = .ok (.iload_n 1, 1) := by decide +kernel
theorem dX6_written_82 : decode cX6_written 82 = .ok (.iload_n 2, 1) := by decide +kernel
theorem dX6_written_83 : decode cX6_written 83 = .ok (.iload_n 3, 1) := by decide +kernel
theorem dX6_written_84 : decode cX6_written 84 = .ok (.iload 4, 2) := by decide +kernel
theorem dX6_written_86 : decode cX6_written 86 = .ok (.iload 5, 2) := by decide +kernel
theorem dX6_written_88 : decode cX6_written 88 = .ok (.invokevirtual 113, 3) := by decide +kernel
theorem dX6_written_91 : decode cX6_written 91 = .ok (.istore 7, 2) := by decide +kernel
theorem dX6_written_93 : decode cX6_written 93 = .ok (.iload 7, 2) := by decide +kernel
theorem dX6_written_95 : decode cX6_written 95 = .ok (.iconst (-1), 1) := by decide +kernel
theorem dX6_written_96 : decode cX6_written 96 = .ok (.if_icmp .ne 11, 3) := by decide +kernel
theorem dX6_written_99 : decode cX6_written 99 = .ok (.aload_n 0, 1) := by decide +kernel
theorem dX6_written_100 : decode cX6_written 100 = .ok (.iconst 3, 1) := by decide +kernel
theorem dX6_written_101 : decode cX6_written 101 = .ok (.invokevirtual 73, 3) := by decide +kernel
theorem dX6_written_104 : decode cX6_written 104 = .ok (.goto 5, 3) := by decide +kernel
theorem dX6_written_107 : decode cX6_written 107 = .ok (.iload 7, 2) := by decide +kernel
theorem dX6_written_109 : decode cX6_written 109 = .ok (.ireturn, 1) := by decide +kernel
theorem dX6_enter_0 : decode cX6_enter 0 = .ok (.aload_n 0, 1) := by decide +kernel
theorem dX6_enter_1 : decode cX6_enter 1 = .ok (.iconst 0, 1) := by decide +kernel
theorem dX6_enter_2 : decode cX6_enter 2 = .ok (.iload_n 1, 1) := by decide +kernel
theorem dX6_enter_3 : decode cX6_enter 3 = .ok (.iload_n 2, 1) := by decide +kernel
theorem dX6_enter_4 : decode cX6_enter 4 = .ok (.iload_n 3, 1) := by decide +kernel
theorem dX6_enter_5 : decode cX6_enter 5 = .ok (.iload 4, 2) := by decide +kernel
theorem dX6_enter_7 : decode cX6_enter 7 = .ok (.invokevirtual 117, 3) := by decide +kernel
theorem dX6_enter_10 : decode cX6_enter 10 = .ok (.ireturn, 1) := by decide +kernel
theorem dX6_move_0 : decode cX6_move 0 = .ok (.aload_n 0, 1) := by decide +kernel
theorem dX6_move_1 : decode cX6_move 1 = .ok (.iconst 1, 1) := by decide +kernel
theorem dX6_move_2 : decode cX6_move 2 = .ok (.iload_n 1, 1) := by decide +kernel
theorem dX6_move_3 : decode cX6_move 3 = .ok (.iload_n 2, 1) := by decide +kernel
theorem dX6_move_4 : decode cX6_move 4 = .ok (.iload_n 3, 1) := by decide +kernel
theorem dX6_move_5 : decode cX6_move 5 = .ok (.iconst (-1), 1) := by decide +kernel
theorem dX6_move_6 : decode cX6_move 6 = .ok (.invokevirtual 117, 3) := by decide +kernel
theorem dX6_move_9 : decode cX6_move 9 = .ok (.ireturn, 1) := by decide +kernel
theorem dX6_shift_0 : decode cX6_shift 0 = .ok (.aload_n 0, 1) := by decide +kernel
theorem dX6_shift_1 : decode cX6_shift 1 = .ok (.iconst 2, 1) := by decide +kernel
theorem dX6_shift_2 : decode cX6_shift 2 = .ok (.iload_n 1, 1) := by decide +kernel
theorem dX6_shift_3 : decode cX6_shift 3 = .ok (.iload_n 2, 1) := by decide +kernel
theorem dX6_shift_4 : decode cX6_shift 4 = .ok (.iconst (-1), 1) := by decide +kernel
theorem dX6_shift_5 : decode cX6_shift 5 = .ok (.iload_n 3, 1) := by decide +kernel
theorem dX6_shift_6 : decode cX6_shift 6 = .ok (.invokevirtual 117, 3) := by decide +kernel
theorem dX6_shift_9 : decode cX6_shift 9 = .ok (.ireturn, 1) := by decide +kernel
theorem dX6_leave_0 : decode cX6_leave 0 = .ok (.aload_n 0, 1) := by decide +kernel
theorem dX6_leave_1 : decode cX6_leave 1 = .ok (.iconst 3, 1) := by decide +kernel
theorem dX6_leave_2 : decode cX6_leave 2 = .ok (.iload_n 1, 1) := by decide +kernel
theorem dX6_leave_3 : decode cX6_leave 3 = .ok (.iload_n 2, 1) := by decide +kernel
theorem dX6_leave_4 : decode cX6_leave 4 = .ok (.iconst (-1), 1) := by decide +kernel
theorem dX6_leave_5 : decode cX6_leave 5 = .ok (.iconst (-1), 1) := by decide +kernel
theorem dX6_leave_6 : decode cX6_leave 6 = .ok (.invokevirtual 117, 3) := by decide +kernel
theorem dX6_leave_9 : decode cX6_leave 9 = .ok (.ireturn, 1) := by decide +kernel
theorem dX6_isCue_0 : decode cX6_isCue 0 = .ok (.iload_n 1, 1) := by decide +kernel
theorem dX6_isCue_1 : decode cX6_isCue 1 = .ok (.iconst 0, 1) := by decide +kernel
theorem dX6_isCue_2 : decode cX6_isCue 2 = .ok (.aload_n 0, 1) := by decide +kernel
theorem dX6_isCue_3 : decode cX6_isCue 3 = .ok (.getfield 81, 3) := by decide +kernel
theorem dX6_isCue_6 : decode cX6_isCue 6 = .ok (.iconst 1, 1) := by decide +kernel
theorem dX6_isCue_7 : decode cX6_isCue 7 = .ok (.isub, 1) := by decide +kernel
theorem dX6_isCue_8 : decode cX6_isCue 8 = .ok (.invokestatic 66, 3) := by decide +kernel
theorem dX6_isCue_11 : decode cX6_isCue 11 = .ok (.ifCond .eq 16, 3) := by decide +kernel
theorem dX6_isCue_14 : decode cX6_isCue 14 = .ok (.aload_n 0, 1) := by decide +kernel
theorem dX6_isCue_15 : decode cX6_isCue 15 = .ok (.getfield 25, 3) := by decide +kernel
theorem dX6_isCue_18 : decode cX6_isCue 18 = .ok (.iload_n 1, 1) := by decide +kernel
theorem dX6_isCue_19 : decode cX6_isCue 19 = .ok (.baload, 1) := by decide +kernel
theorem dX6_isCue_20 : decode cX6_isCue 20 = .ok (.ifCond .ne 7, 3) := by decide +kernel
theorem dX6_isCue_23 : decode cX6_isCue 23 = .ok (.iconst 1, 1) := by decide +kernel
theorem dX6_isCue_24 : decode cX6_isCue 24 = .ok (.goto 4, 3) := by decide +kernel
theorem dX6_isCue_27 : decode cX6_isCue 27 = .ok (.iconst 0, 1) := by decide +kernel
theorem dX6_isCue_28 : decode cX6_isCue 28 = .ok (.ireturn, 1) := by decide +kernel
theorem dX6_strike_0 : decode cX6_strike 0 = .ok (.aload_n 0, 1) := by decide +kernel
theorem dX6_strike_1 : decode cX6_strike 1 = .ok (.iconst 0, 1) := by decide +kernel
theorem dX6_strike_2 : decode cX6_strike 2 = .ok (.putfield 59, 3) := by decide +kernel
theorem dX6_strike_5 : decode cX6_strike 5 = .ok (.aload_n 0, 1) := by decide +kernel
theorem dX6_strike_6 : decode cX6_strike 6 = .ok (.iload_n 1, 1) := by decide +kernel
theorem dX6_strike_7 : decode cX6_strike 7 = .ok (.invokevirtual 120, 3) := by decide +kernel
theorem dX6_strike_10 : decode cX6_strike 10 = .ok (.ifCond .ne 9, 3) := by decide +kernel
theorem dX6_strike_13 : decode cX6_strike 13 = .ok (.aload_n 0, 1) := by decide +kernel
theorem dX6_strike_14 : decode cX6_strike 14 = .ok (.iconst 1, 1) := by decide +kernel
theorem dX6_strike_15 : decode cX6_strike 15 = .ok (.invokevirtual 73, 3) := by decide +kernel
theorem dX6_strike_18 : decode cX6_strike 18 = .ok (.ireturn, 1) := by decide +kernel
theorem dX6_strike_19 : decode cX6_strike 19 = .ok (.aload_n 0, 1) := by decide +kernel
theorem dX6_strike_20 : decode cX6_strike 20 = .ok (.getfield 22, 3) := by decide +kernel
theorem dX6_strike_23 : decode cX6_strike 23 = .ok (.iconst 5, 1) := by decide +kernel
theorem dX6_strike_24 : decode cX6_strike 24 = .ok (.iload_n 1, 1) := by decide +kernel
theorem dX6_strike_25 : decode cX6_strike 25 = .ok (.imul, 1) := by decide +kernel
theorem dX6_strike_26 : decode cX6_strike 26 = .ok (.iconst 1, 1) := by decide +kernel
theorem dX6_strike_27 : decode cX6_strike 27 = .ok (.iadd, 1) := by decide +kernel
theorem dX6_strike_28 : decode cX6_strike 28 = .ok (.iaload, 1) := by decide +kernel
theorem dX6_strike_29 : decode cX6_strike 29 = .ok (.istore_n 2, 1) := by decide +kernel
theorem dX6_strike_30 : decode cX6_strike 30 = .ok (.aload_n 0, 1) := by decide +kernel
theorem dX6_strike_31 : decode cX6_strike 31 = .ok (.getfield 25, 3) := by decide +kernel
theorem dX6_strike_34 : decode cX6_strike 34 = .ok (.iload_n 1, 1) := by decide +kernel
theorem dX6_strike_35 : decode cX6_strike 35 = .ok (.iconst 1, 1) := by decide +kernel
theorem dX6_strike_36 : decode cX6_strike 36 = .ok (.bastore, 1) := by decide +kernel
theorem dX6_strike_37 : decode cX6_strike 37 = .ok (.aload_n 0, 1) := by decide +kernel
theorem dX6_strike_38 : decode cX6_strike 38 = .ok (.iload_n 2, 1) := by decide +kernel
theorem dX6_strike_39 : decode cX6_strike 39 = .ok (.invokevirtual 103, 3) := by decide +kernel
theorem dX6_strike_42 : decode cX6_strike 42 = .ok (.ifCond .ne 16, 3) := by decide +kernel
theorem dX6_strike_45 : decode cX6_strike 45 = .ok (.aload_n 0, 1) := by decide +kernel
theorem dX6_strike_46 : decode cX6_strike 46 = .ok (.getfield 25, 3) := by decide +kernel
theorem dX6_strike_49 : decode cX6_strike 49 = .ok (.iload_n 1, 1) := by decide +kernel
theorem dX6_strike_50 : decode cX6_strike 50 = .ok (.iconst 0, 1) := by decide +kernel
theorem dX6_strike_51 : decode cX6_strike 51 = .ok (.bastore, 1) := by decide +kernel
theorem dX6_strike_52 : decode cX6_strike 52 = .ok (.aload_n 0, 1) := by decide +kernel
theorem dX6_strike_53 : decode cX6_strike 53 = .ok (.iconst 2, 1) := by decide +kernel
theorem dX6_strike_54 : decode cX6_strike 54 = .ok (.invokevirtual 73, 3) := by decide +kernel
theorem dX6_strike_57 : decode cX6_strike 57 = .ok (.ireturn, 1) := by decide +kernel
theorem dX6_strike_58 : decode cX6_strike 58 = .ok (.aload_n 0, 1) := by decide +kernel
theorem dX6_strike_59 : decode cX6_strike 59 = .ok (.dup, 1) := by decide +kernel
theorem dX6_strike_60 : decode cX6_strike 60 = .ok (.getfield 123, 3) := by decide +kernel
theorem dX6_strike_63 : decode cX6_strike 63 = .ok (.iconst 1, 1) := by decide +kernel
theorem dX6_strike_64 : decode cX6_strike 64 = .ok (.iadd, 1) := by decide +kernel
theorem dX6_strike_65 : decode cX6_strike 65 = .ok (.putfield 123, 3) := by decide +kernel
theorem dX6_strike_68 : decode cX6_strike 68 = .ok (.aload_n 0, 1) := by decide +kernel
theorem dX6_strike_69 : decode cX6_strike 69 = .ok (.iconst 0, 1) := by decide +kernel
theorem dX6_strike_70 : decode cX6_strike 70 = .ok (.putfield 77, 3) := by decide +kernel
theorem dX6_strike_73 : decode cX6_strike 73 = .ok (.iconst 0, 1) := by decide +kernel
theorem dX6_strike_74 : decode cX6_strike 74 = .ok (.istore_n 3, 1) := by decide +kernel
theorem dX6_strike_75 : decode cX6_strike 75 = .ok (.iconst 0, 1) := by decide +kernel
theorem dX6_strike_76 : decode cX6_strike 76 = .ok (.istore 4, 2) := by decide +kernel
theorem dX6_strike_78 : decode cX6_strike 78 = .ok (.iload 4, 2) := by decide +kernel
theorem dX6_strike_80 : decode cX6_strike 80 = .ok (.aload_n 0, 1) := by decide +kernel
theorem dX6_strike_81 : decode cX6_strike 81 = .ok (.getfield 81, 3) := by decide +kernel
theorem dX6_strike_84 : decode cX6_strike 84 = .ok (.if_icmp .ge 42, 3) := by decide +kernel
theorem dX6_strike_87 : decode cX6_strike 87 = .ok (.iload_n 3, 1) := by decide +kernel
theorem dX6_strike_88 : decode cX6_strike 88 = .ok (.aload_n 0, 1) := by decide +kernel
theorem dX6_strike_89 : decode cX6_strike 89 = .ok (.getfield 25, 3) := by decide +kernel
theorem dX6_strike_92 : decode cX6_strike 92 = .ok (.iload 4, 2) := by decide +kernel
theorem dX6_strike_94 : decode cX6_strike 94 = .ok (.baload, 1) := by decide +kernel
theorem dX6_strike_95 : decode cX6_strike 95 = .ok (.ifCond .ne 22, 3) := by decide +kernel
theorem dX6_strike_98 : decode cX6_strike 98 = .ok (.aload_n 0, 1) := by decide +kernel
theorem dX6_strike_99 : decode cX6_strike 99 = .ok (.getfield 22, 3) := by decide +kernel
theorem dX6_strike_102 : decode cX6_strike 102 = .ok (.iconst 5, 1) := by decide +kernel
theorem dX6_strike_103 : decode cX6_strike 103 = .ok (.iload 4, 2) := by decide +kernel
theorem dX6_strike_105 : decode cX6_strike 105 = .ok (.imul, 1) := by decide +kernel
theorem dX6_strike_106 : decode cX6_strike 106 = .ok (.iconst 1, 1) := by decide +kernel
theorem dX6_strike_107 : decode cX6_strike 107 = .ok (.iadd, 1) := by decide +kernel
theorem dX6_strike_108 : decode cX6_strike 108 = .ok (.iaload, 1) := by decide +kernel
theorem dX6_strike_109 : decode cX6_strike 109 = .ok (.iload_n 2, 1) := by decide +kernel
theorem dX6_strike_110 : decode cX6_strike 110 = .ok (.if_icmp .ne 7, 3) := by decide +kernel
theorem dX6_strike_113 : decode cX6_strike 113 = .ok (.iconst 1, 1) := by decide +kernel
theorem dX6_strike_114 : decode cX6_strike 114 = .ok (.goto 4, 3) := by decide +kernel
theorem dX6_strike_117 : decode cX6_strike 117 = .ok (.iconst 0, 1) := by decide +kernel
theorem dX6_strike_118 : decode cX6_strike 118 = .ok (.iadd, 1) := by decide +kernel
theorem dX6_strike_119 : decode cX6_strike 119 = .ok (.istore_n 3, 1) := by decide +kernel
theorem dX6_strike_120 : decode cX6_strike 120 = .ok (.iinc 4 1, 3) := by decide +kernel
theorem dX6_strike_123 : decode cX6_strike 123 = .ok (.goto (-45), 3) := by decide +kernel
theorem dX6_strike_126 : decode cX6_strike 126 = .ok (.iload_n 3, 1) := by decide +kernel
theorem dX6_strike_127 : decode cX6_strike 127 = .ok (.ireturn, 1) := by decide +kernel
theorem dX6_count_0 : decode cX6_count 0 = .ok (.aload_n 0, 1) := by decide +kernel
theorem dX6_count_1 : decode cX6_count 1 = .ok (.iconst 0, 1) := by decide +kernel
theorem dX6_count_2 : decode cX6_count 2 = .ok (.putfield 59, 3) := by decide +kernel
theorem dX6_count_5 : decode cX6_count 5 = .ok (.iload_n 1, 1) := by decide +kernel
theorem dX6_count_6 : decode cX6_count 6 = .ok (.iconst 0, 1) := by decide +kernel
theorem dX6_count_7 : decode cX6_count 7 = .ok (.iconst 3, 1) := by decide +kernel
theorem dX6_count_8 : decode cX6_count 8 = .ok (.invokestatic 66, 3) := by decide +kernel
theorem dX6_count_11 : decode cX6_count 11 = .ok (.ifCond .ne 9, 3) := by decide +kernel
theorem dX6_count_14 : decode cX6_count 14 = .ok (.aload_n 0, 1) := by decide +kernel
theorem dX6_count_15 : decode cX6_count 15 = .ok (.iconst 1, 1) := by decide +kernel
theorem dX6_count_16 : decode cX6_count 16 = .ok (.invokevirtual 73, 3) := by decide +kernel
theorem dX6_count_19 : decode cX6_count 19 = .ok (.ireturn, 1) := by decide +kernel
theorem dX6_count_20 : decode cX6_count 20 = .ok (.iload_n 1, 1) := by decide +kernel
theorem dX6_count_21 : decode cX6_count 21 = .ok (.ifCond .ne 10, 3) := by decide +kernel
theorem dX6_count_24 : decode cX6_count 24 = .ok (.aload_n 0, 1) := by decide +kernel
theorem dX6_count_25 : decode cX6_count 25 = .ok (.getfield 63, 3) := by decide +kernel
theorem dX6_count_28 : decode cX6_count 28 = .ok (.goto 31, 3) := by decide +kernel
theorem dX6_count_31 : decode cX6_count 31 = .ok (.iload_n 1, 1) := by decide +kernel
theorem dX6_count_32 : decode cX6_count 32 = .ok (.iconst 1, 1) := by decide +kernel
theorem dX6_count_33 : decode cX6_count 33 = .ok (.if_icmp .ne 10, 3) := by decide +kernel
theorem dX6_count_36 : decode cX6_count 36 = .ok (.aload_n 0, 1) := by decide +kernel
theorem dX6_count_37 : decode cX6_count 37 = .ok (.getfield 70, 3) := by decide +kernel
theorem dX6_count_40 : decode cX6_count 40 = .ok (.goto 19, 3) := by decide +kernel
theorem dX6_count_43 : decode cX6_count 43 = .ok (.iload_n 1, 1) := by decide +kernel
theorem dX6_count_44 : decode cX6_count 44 = .ok (.iconst 2, 1) := by decide +kernel
theorem dX6_count_45 : decode cX6_count 45 = .ok (.if_icmp .ne 10, 3) := by decide +kernel
theorem dX6_count_48 : decode cX6_count 48 = .ok (.aload_n 0, 1) := by decide +kernel
theorem dX6_count_49 : decode cX6_count 49 = .ok (.getfield 81, 3) := by decide +kernel
theorem dX6_count_52 : decode cX6_count 52 = .ok (.goto 7, 3) := by decide +kernel
theorem dX6_count_55 : decode cX6_count 55 = .ok (.aload_n 0, 1) := by decide +kernel
theorem dX6_count_56 : decode cX6_count 56 = .ok (.getfield 123, 3) := by decide +kernel
theorem dX6_count_59 : decode cX6_count 59 = .ok (.ireturn, 1) := by decide +kernel
theorem dX6_cue_0 : decode cX6_cue 0 = .ok (.aload_n 0, 1) := by decide +kernel
theorem dX6_cue_1 : decode cX6_cue 1 = .ok (.iconst 0, 1) := by decide +kernel
theorem dX6_cue_2 : decode cX6_cue 2 = .ok (.putfield 59, 3) := by decide +kernel
theorem dX6_cue_5 : decode cX6_cue 5 = .ok (.aload_n 0, 1) := by decide +kernel
theorem dX6_cue_6 : decode cX6_cue 6 = .ok (.iload_n 1, 1) := by decide +kernel
theorem dX6_cue_7 : decode cX6_cue 7 = .ok (.invokevirtual 120, 3) := by decide +kernel
theorem dX6_cue_10 : decode cX6_cue 10 = .ok (.ifCond .eq 25, 3) := by decide +kernel
theorem dX6_cue_13 : decode cX6_cue 13 = .ok (.iload_n 2, 1) := by decide +kernel
theorem dX6_cue_14 : decode cX6_cue 14 = .ok (.iconst 0, 1) := by decide +kernel
theorem dX6_cue_15 : decode cX6_cue 15 = .ok (.iconst 4, 1) := by decide +kernel
theorem dX6_cue_16 : decode cX6_cue 16 = .ok (.invokestatic 66, 3) := by decide +kernel
theorem dX6_cue_19 : decode cX6_cue 19 = .ok (.ifCond .eq 16, 3) := by decide +kernel
theorem dX6_cue_22 : decode cX6_cue 22 = .ok (.aload_n 0, 1) := by decide +kernel
theorem dX6_cue_23 : decode cX6_cue 23 = .ok (.getfield 22, 3) := by decide +kernel
theorem dX6_cue_26 : decode cX6_cue 26 = .ok (.iconst 5, 1) := by decide +kernel
theorem dX6_cue_27 : decode cX6_cue 27 = .ok (.iload_n 1, 1) := by decide +kernel
theorem dX6_cue_28 : decode cX6_cue 28 = .ok (.imul, 1) := by decide +kernel
theorem dX6_cue_29 : decode cX6_cue 29 = .ok (.iload_n 2, 1) := by decide +kernel
theorem dX6_cue_30 : decode cX6_cue 30 = .ok (.iadd, 1) := by decide +kernel
theorem dX6_cue_31 : decode cX6_cue 31 = .ok (.iaload, 1) := by decide +kernel
theorem dX6_cue_32 : decode cX6_cue 32 = .ok (.goto 8, 3) := by decide +kernel
theorem dX6_cue_35 : decode cX6_cue 35 = .ok (.aload_n 0, 1) := by decide +kernel
theorem dX6_cue_36 : decode cX6_cue 36 = .ok (.iconst 1, 1) := by decide +kernel
theorem dX6_cue_37 : decode cX6_cue 37 = .ok (.invokevirtual 73, 3) := by decide +kernel
theorem dX6_cue_40 : decode cX6_cue 40 = .ok (.ireturn, 1) := by decide +kernel
theorem dX6_workOut_0 : decode cX6_workOut 0 = .ok (.aload_n 0, 1) := by decide +kernel
theorem dX6_workOut_1 : decode cX6_workOut 1 = .ok (.getfield 77, 3) := by decide +kernel
theorem dX6_workOut_4 : decode cX6_workOut 4 = .ok (.ifCond .eq 4, 3) := by decide +kernel
theorem dX6_workOut_7 : decode cX6_workOut 7 = .ok (.return_, 1) := by decide +kernel
theorem dX6_workOut_8 : decode cX6_workOut 8 = .ok (.aload_n 0, 1) := by decide +kernel
theorem dX6_workOut_9 : decode cX6_workOut 9 = .ok (.iconst 1, 1) := by decide +kernel
theorem dX6_workOut_10 : decode cX6_workOut 10 = .ok (.putfield 77, 3) := by decide +kernel
theorem dX6_workOut_13 : decode cX6_workOut 13 = .ok (.iconst 0, 1) := by decide +kernel
theorem dX6_workOut_14 : decode cX6_workOut 14 = .ok (.istore_n 1, 1) := by decide +kernel
theorem dX6_workOut_15 : decode cX6_workOut 15 = .ok (.iload_n 1, 1) := by decide +kernel
theorem dX6_workOut_16 : decode cX6_workOut 16 = .ok (.aload_n 0, 1) := by decide +kernel
theorem dX6_workOut_17 : decode cX6_workOut 17 = .ok (.getfield 63, 3) := by decide +kernel
theorem dX6_workOut_20 : decode cX6_workOut 20 = .ok (.if_icmp .ge 14, 3) := by decide +kernel
theorem dX6_workOut_23 : decode cX6_workOut 23 = .ok (.aload_n 0, 1) := by decide +kernel
theorem dX6_workOut_24 : decode cX6_workOut 24 = .ok (.iload_n 1, 1) := by decide +kernel
theorem dX6_workOut_25 : decode cX6_workOut 25 = .ok (.invokevirtual 126, 3) := by decide +kernel
theorem dX6_workOut_28 : decode cX6_workOut 28 = .ok (.iinc 1 1, 3) := by decide +kernel
theorem dX6_workOut_31 : decode cX6_workOut 31 = .ok (.goto (-16), 3) := by decide +kernel
theorem dX6_workOut_34 : decode cX6_workOut 34 = .ok (.aload_n 0, 1) := by decide +kernel
theorem dX6_workOut_35 : decode cX6_workOut 35 = .ok (.invokevirtual 130, 3) := by decide +kernel
theorem dX6_workOut_38 : decode cX6_workOut 38 = .ok (.return_, 1) := by decide +kernel
theorem dX6_workOut__0 : decode cX6_workOut_ 0 = .ok (.aload_n 0, 1) := by decide +kernel
theorem dX6_workOut__1 : decode cX6_workOut_ 1 = .ok (.getfield 47, 3) := by decide +kernel
theorem dX6_workOut__4 : decode cX6_workOut_ 4 = .ok (.iload_n 1, 1) := by decide +kernel
theorem dX6_workOut__5 : decode cX6_workOut_ 5 = .ok (.iconst 0, 1) := by decide +kernel
theorem dX6_workOut__6 : decode cX6_workOut_ 6 = .ok (.iastore, 1) := by decide +kernel
theorem dX6_workOut__7 : decode cX6_workOut_ 7 = .ok (.iconst (-1), 1) := by decide +kernel
theorem dX6_workOut__8 : decode cX6_workOut_ 8 = .ok (.istore_n 2, 1) := by decide +kernel
theorem dX6_workOut__9 : decode cX6_workOut_ 9 = .ok (.iconst (-1), 1) := by decide +kernel
theorem dX6_workOut__10 : decode cX6_workOut_ 10 = .ok (.istore_n 3, 1) := by decide +kernel
theorem dX6_workOut__11 : decode cX6_workOut_ 11 = .ok (.iconst (-1), 1) := by decide +kernel
theorem dX6_workOut__12 : decode cX6_workOut_ 12 = .ok (.istore 4, 2) := by decide +kernel
theorem dX6_workOut__14 : decode cX6_workOut_ 14 = .ok (.aload_n 0, 1) := by decide +kernel
theorem dX6_workOut__15 : decode cX6_workOut_ 15 = .ok (.iload_n 1, 1) := by decide +kernel
theorem dX6_workOut__16 : decode cX6_workOut_ 16 = .ok (.iconst (-1), 1) := by decide +kernel
theorem dX6_workOut__17 : decode cX6_workOut_ 17 = .ok (.invokevirtual 91, 3) := by decide +kernel
theorem dX6_workOut__20 : decode cX6_workOut_ 20 = .ok (.istore 5, 2) := by decide +kernel
theorem dX6_workOut__22 : decode cX6_workOut_ 22 = .ok (.iconst 0, 1) := by decide +kernel
theorem dX6_workOut__23 : decode cX6_workOut_ 23 = .ok (.istore 6, 2) := by decide +kernel
theorem dX6_workOut__25 : decode cX6_workOut_ 25 = .ok (.iload 6, 2) := by decide +kernel
theorem dX6_workOut__27 : decode cX6_workOut_ 27 = .ok (.sipush 1000, 3) := by decide +kernel
theorem dX6_workOut__30 : decode cX6_workOut_ 30 = .ok (.if_icmp .ge 255, 3) := by decide +kernel
theorem dX6_workOut__33 : decode cX6_workOut_ 33 = .ok (.iload_n 2, 1) := by decide +kernel
theorem dX6_workOut__34 : decode cX6_workOut_ 34 = .ok (.iconst (-1), 1) := by decide +kernel
theorem dX6_workOut__35 : decode cX6_workOut_ 35 = .ok (.if_icmp .eq 17, 3) := by decide +kernel
theorem dX6_workOut__38 : decode cX6_workOut_ 38 = .ok (.iload_n 2, 1) := by decide +kernel
theorem dX6_workOut__39 : decode cX6_workOut_ 39 = .ok (.iload_n 3, 1) := by decide +kernel
theorem dX6_workOut__40 : decode cX6_workOut_ 40 = .ok (.if_icmp .eq 12, 3) := by decide +kernel
theorem dX6_workOut__43 : decode cX6_workOut_ 43 = .ok (.iload_n 2, 1) := by decide +kernel
theorem dX6_workOut__44 : decode cX6_workOut_ 44 = .ok (.iload_n 3, 1) := by decide +kernel
theorem dX6_workOut__45 : decode cX6_workOut_ 45 = .ok (.iload_n 2, 1) := by decide +kernel
theorem dX6_workOut__46 : decode cX6_workOut_ 46 = .ok (.isub, 1) := by decide +kernel
theorem dX6_workOut__47 : decode cX6_workOut_ 47 = .ok (.invokestatic 133, 3) := by decide +kernel
theorem dX6_workOut__50 : decode cX6_workOut_ 50 = .ok (.iadd, 1) := by decide +kernel
theorem dX6_workOut__51 : decode cX6_workOut_ 51 = .ok (.istore_n 2, 1) := by decide +kernel
theorem dX6_workOut__52 : decode cX6_workOut_ 52 = .ok (.iload 5, 2) := by decide +kernel
theorem dX6_workOut__54 : decode cX6_workOut_ 54 = .ok (.iconst (-1), 1) := by decide +kernel
theorem dX6_workOut__55 : decode cX6_workOut_ 55 = .ok (.if_icmp .eq 174, 3) := by decide +kernel
theorem dX6_workOut__58 : decode cX6_workOut_ 58 = .ok (.aload_n 0, 1) := by decide +kernel
theorem dX6_workOut__59 : decode cX6_workOut_ 59 = .ok (.iload 5, 2) := by decide +kernel
theorem dX6_workOut__61 : decode cX6_workOut_ 61 = .ok (.invokevirtual 88, 3) := by decide +kernel
theorem dX6_workOut__64 : decode cX6_workOut_ 64 = .ok (.iload 6, 2) := by decide +kernel
theorem dX6_workOut__66 : decode cX6_workOut_ 66 = .ok (.if_icmp .ne 163, 3) := by decide +kernel
theorem dX6_workOut__69 : decode cX6_workOut_ 69 = .ok (.bipush 40, 2) := by decide +kernel
theorem dX6_workOut__71 : decode cX6_workOut_ 71 = .ok (.iload_n 1, 1) := by decide +kernel
theorem dX6_workOut__72 : decode cX6_workOut_ 72 = .ok (.imul, 1) := by decide +kernel
theorem dX6_workOut__73 : decode cX6_workOut_ 73 = .ok (.aload_n 0, 1) := by decide +kernel
theorem dX6_workOut__74 : decode cX6_workOut_ 74 = .ok (.getfield 47, 3) := by decide +kernel
theorem dX6_workOut__77 : decode cX6_workOut_ 77 = .ok (.iload_n 1, 1) := by decide +kernel
theorem dX6_workOut__78 : decode cX6_workOut_ 78 = .ok (.iaload, 1) := by decide +kernel
theorem dX6_workOut__79 : decode cX6_workOut_ 79 = .ok (.iadd, 1) := by decide +kernel
theorem dX6_workOut__80 : decode cX6_workOut_ 80 = .ok (.istore 7, 2) := by decide +kernel
theorem dX6_workOut__82 : decode cX6_workOut_ 82 = .ok (.aload_n 0, 1) := by decide +kernel
theorem dX6_workOut__83 : decode cX6_workOut_ 83 = .ok (.iload 5, 2) := by decide +kernel
theorem dX6_workOut__85 : decode cX6_workOut_ 85 = .ok (.invokevirtual 95, 3) := by decide +kernel
theorem dX6_workOut__88 : decode cX6_workOut_ 88 = .ok (.ifCond .ne 62, 3) := by decide +kernel
theorem dX6_workOut__91 : decode cX6_workOut_ 91 = .ok (.aload_n 0, 1) := by decide +kernel
theorem dX6_workOut__92 : decode cX6_workOut_ 92 = .ok (.getfield 22, 3) := by decide +kernel
theorem dX6_workOut__95 : decode cX6_workOut_ 95 = .ok (.iconst 5, 1) := by decide +kernel
theorem dX6_workOut__96 : decode cX6_workOut_ 96 = .ok (.iload 5, 2) := by decide +kernel
theorem dX6_workOut__98 : decode cX6_workOut_ 98 = .ok (.imul, 1) := by decide +kernel
theorem dX6_workOut__99 : decode cX6_workOut_ 99 = .ok (.iconst 3, 1) := by decide +kernel
theorem dX6_workOut__100 : decode cX6_workOut_ 100 = .ok (.iadd, 1) := by decide +kernel
theorem dX6_workOut__101 : decode cX6_workOut_ 101 = .ok (.iaload, 1) := by decide +kernel
theorem dX6_workOut__102 : decode cX6_workOut_ 102 = .ok (.istore_n 2, 1) := by decide +kernel
theorem dX6_workOut__103 : decode cX6_workOut_ 103 = .ok (.iload_n 2, 1) := by decide +kernel
theorem dX6_workOut__104 : decode cX6_workOut_ 104 = .ok (.istore_n 3, 1) := by decide +kernel
theorem dX6_workOut__105 : decode cX6_workOut_ 105 = .ok (.aload_n 0, 1) := by decide +kernel
theorem dX6_workOut__106 : decode cX6_workOut_ 106 = .ok (.getfield 22, 3) := by decide +kernel
theorem dX6_workOut__109 : decode cX6_workOut_ 109 = .ok (.iconst 5, 1) := by decide +kernel
theorem dX6_workOut__110 : decode cX6_workOut_ 110 = .ok (.iload 5, 2) := by decide +kernel
theorem dX6_workOut__112 : decode cX6_workOut_ 112 = .ok (.imul, 1) := by decide +kernel
theorem dX6_workOut__113 : decode cX6_workOut_ 113 = .ok (.iconst 4, 1) := by decide +kernel
theorem dX6_workOut__114 : decode cX6_workOut_ 114 = .ok (.iadd, 1) := by decide +kernel
theorem dX6_workOut__115 : decode cX6_workOut_ 115 = .ok (.iaload, 1) := by decide +kernel
theorem dX6_workOut__116 : decode cX6_workOut_ 116 = .ok (.istore 4, 2) := by decide +kernel
theorem dX6_workOut__118 : decode cX6_workOut_ 118 = .ok (.aload_n 0, 1) := by decide +kernel
theorem dX6_workOut__119 : decode cX6_workOut_ 119 = .ok (.getfield 50, 3) := by decide +kernel
theorem dX6_workOut__122 : decode cX6_workOut_ 122 = .ok (.iload 7, 2) := by decide +kernel
theorem dX6_workOut__124 : decode cX6_workOut_ 124 = .ok (.iload 6, 2) := by decide +kernel
theorem dX6_workOut__126 : decode cX6_workOut_ 126 = .ok (.iastore, 1) := by decide +kernel
theorem dX6_workOut__127 : decode cX6_workOut_ 127 = .ok (.aload_n 0, 1) := by decide +kernel
theorem dX6_workOut__128 : decode cX6_workOut_ 128 = .ok (.getfield 53, 3) := by decide +kernel
theorem dX6_workOut__131 : decode cX6_workOut_ 131 = .ok (.iload 7, 2) := by decide +kernel
theorem dX6_workOut__133 : decode cX6_workOut_ 133 = .ok (.sipush 1000, 3) := by decide +kernel
theorem dX6_workOut__136 : decode cX6_workOut_ 136 = .ok (.iastore, 1) := by decide +kernel
theorem dX6_workOut__137 : decode cX6_workOut_ 137 = .ok (.aload_n 0, 1) := by decide +kernel
theorem dX6_workOut__138 : decode cX6_workOut_ 138 = .ok (.getfield 47, 3) := by decide +kernel
theorem dX6_workOut__141 : decode cX6_workOut_ 141 = .ok (.iload_n 1, 1) := by decide +kernel
theorem dX6_workOut__142 : decode cX6_workOut_ 142 = .ok (.dup2, 1) := by decide +kernel
theorem dX6_workOut__143 : decode cX6_workOut_ 143 = .ok (.iaload, 1) := by decide +kernel
theorem dX6_workOut__144 : decode cX6_workOut_ 144 = .ok (.iconst 1, 1) := by decide +kernel
theorem dX6_workOut__145 : decode cX6_workOut_ 145 = .ok (.iadd, 1) := by decide +kernel
theorem dX6_workOut__146 : decode cX6_workOut_ 146 = .ok (.iastore, 1) := by decide +kernel
theorem dX6_workOut__147 : decode cX6_workOut_ 147 = .ok (.goto 70, 3) := by decide +kernel
theorem dX6_workOut__150 : decode cX6_workOut_ 150 = .ok (.aload_n 0, 1) := by decide +kernel
theorem dX6_workOut__151 : decode cX6_workOut_ 151 = .ok (.iload 5, 2) := by decide +kernel
theorem dX6_workOut__153 : decode cX6_workOut_ 153 = .ok (.invokevirtual 95, 3) := by decide +kernel
theorem dX6_workOut__156 : decode cX6_workOut_ 156 = .ok (.iconst 1, 1) := by decide +kernel
theorem dX6_workOut__157 : decode cX6_workOut_ 157 = .ok (.if_icmp .ne 18, 3) := by decide +kernel
theorem dX6_workOut__160 : decode cX6_workOut_ 160 = .ok (.aload_n 0, 1) := by decide +kernel
theorem dX6_workOut__161 : decode cX6_workOut_ 161 = .ok (.getfield 22, 3) := by decide +kernel
theorem dX6_workOut__164 : decode cX6_workOut_ 164 = .ok (.iconst 5, 1) := by decide +kernel
theorem dX6_workOut__165 : decode cX6_workOut_ 165 = .ok (.iload 5, 2) := by decide +kernel
theorem dX6_workOut__167 : decode cX6_workOut_ 167 = .ok (.imul, 1) := by decide +kernel
theorem dX6_workOut__168 : decode cX6_workOut_ 168 = .ok (.iconst 3, 1) := by decide +kernel
theorem dX6_workOut__169 : decode cX6_workOut_ 169 = .ok (.iadd, 1) := by decide +kernel
theorem dX6_workOut__170 : decode cX6_workOut_ 170 = .ok (.iaload, 1) := by decide +kernel
theorem dX6_workOut__171 : decode cX6_workOut_ 171 = .ok (.istore_n 3, 1) := by decide +kernel
theorem dX6_workOut__172 : decode cX6_workOut_ 172 = .ok (.goto 45, 3) := by decide +kernel
theorem dX6_workOut__175 : decode cX6_workOut_ 175 = .ok (.aload_n 0, 1) := by decide +kernel
theorem dX6_workOut__176 : decode cX6_workOut_ 176 = .ok (.iload 5, 2) := by decide +kernel
theorem dX6_workOut__178 : decode cX6_workOut_ 178 = .ok (.invokevirtual 95, 3) := by decide +kernel
theorem dX6_workOut__181 : decode cX6_workOut_ 181 = .ok (.iconst 2, 1) := by decide +kernel
theorem dX6_workOut__182 : decode cX6_workOut_ 182 = .ok (.if_icmp .ne 19, 3) := by decide +kernel
theorem dX6_workOut__185 : decode cX6_workOut_ 185 = .ok (.aload_n 0, 1) := by decide +kernel
theorem dX6_workOut__186 : decode cX6_workOut_ 186 = .ok (.getfield 22, 3) := by decide +kernel
theorem dX6_workOut__189 : decode cX6_workOut_ 189 = .ok (.iconst 5, 1) := by decide +kernel
theorem dX6_workOut__190 : decode cX6_workOut_ 190 = .ok (.iload 5, 2) := by decide +kernel
theorem dX6_workOut__192 : decode cX6_workOut_ 192 = .ok (.imul, 1) := by decide +kernel
theorem dX6_workOut__193 : decode cX6_workOut_ 193 = .ok (.iconst 4, 1) := by decide +kernel
theorem dX6_workOut__194 : decode cX6_workOut_ 194 = .ok (.iadd, 1) := by decide +kernel
theorem dX6_workOut__195 : decode cX6_workOut_ 195 = .ok (.iaload, 1) := by decide +kernel
theorem dX6_workOut__196 : decode cX6_workOut_ 196 = .ok (.istore 4, 2) := by decide +kernel
theorem dX6_workOut__198 : decode cX6_workOut_ 198 = .ok (.goto 19, 3) := by decide +kernel
theorem dX6_workOut__201 : decode cX6_workOut_ 201 = .ok (.iconst (-1), 1) := by decide +kernel
theorem dX6_workOut__202 : decode cX6_workOut_ 202 = .ok (.istore_n 2, 1) := by decide +kernel
theorem dX6_workOut__203 : decode cX6_workOut_ 203 = .ok (.iconst (-1), 1) := by decide +kernel
theorem dX6_workOut__204 : decode cX6_workOut_ 204 = .ok (.istore 4, 2) := by decide +kernel
theorem dX6_workOut__206 : decode cX6_workOut_ 206 = .ok (.aload_n 0, 1) := by decide +kernel
theorem dX6_workOut__207 : decode cX6_workOut_ 207 = .ok (.getfield 53, 3) := by decide +kernel
theorem dX6_workOut__210 : decode cX6_workOut_ 210 = .ok (.iload 7, 2) := by decide +kernel
theorem dX6_workOut__212 : decode cX6_workOut_ 212 = .ok (.iconst 1, 1) := by decide +kernel
theorem dX6_workOut__213 : decode cX6_workOut_ 213 = .ok (.isub, 1) := by decide +kernel
theorem dX6_workOut__214 : decode cX6_workOut_ 214 = .ok (.iload 6, 2) := by decide +kernel
theorem dX6_workOut__216 : decode cX6_workOut_ 216 = .ok (.iastore, 1) := by decide +kernel
theorem dX6_workOut__217 : decode cX6_workOut_ 217 = .ok (.aload_n 0, 1) := by decide +kernel
theorem dX6_workOut__218 : decode cX6_workOut_ 218 = .ok (.iload_n 1, 1) := by decide +kernel
theorem dX6_workOut__219 : decode cX6_workOut_ 219 = .ok (.iload 5, 2) := by decide +kernel
theorem dX6_workOut__221 : decode cX6_workOut_ 221 = .ok (.invokevirtual 91, 3) := by decide +kernel
theorem dX6_workOut__224 : decode cX6_workOut_ 224 = .ok (.istore 5, 2) := by decide +kernel
theorem dX6_workOut__226 : decode cX6_workOut_ 226 = .ok (.goto (-174), 3) := by decide +kernel
theorem dX6_workOut__229 : decode cX6_workOut_ 229 = .ok (.aload_n 0, 1) := by decide +kernel
theorem dX6_workOut__230 : decode cX6_workOut_ 230 = .ok (.getfield 38, 3) := by decide +kernel
theorem dX6_workOut__233 : decode cX6_workOut_ 233 = .ok (.sipush 1000, 3) := by decide +kernel
theorem dX6_workOut__236 : decode cX6_workOut_ 236 = .ok (.iload_n 1, 1) := by decide +kernel
theorem dX6_workOut__237 : decode cX6_workOut_ 237 = .ok (.imul, 1) := by decide +kernel
theorem dX6_workOut__238 : decode cX6_workOut_ 238 = .ok (.iload 6, 2) := by decide +kernel
theorem dX6_workOut__240 : decode cX6_workOut_ 240 = .ok (.iadd, 1) := by decide +kernel
theorem dX6_workOut__241 : decode cX6_workOut_ 241 = .ok (.iload_n 2, 1) := by decide +kernel
theorem dX6_workOut__242 : decode cX6_workOut_ 242 = .ok (.iastore, 1) := by decide +kernel
theorem dX6_workOut__243 : decode cX6_workOut_ 243 = .ok (.aload_n 0, 1) := by decide +kernel
theorem dX6_workOut__244 : decode cX6_workOut_ 244 = .ok (.getfield 41, 3) := by decide +kernel
theorem dX6_workOut__247 : decode cX6_workOut_ 247 = .ok (.sipush 1000, 3) := by decide +kernel
theorem dX6_workOut__250 : decode cX6_workOut_ 250 = .ok (.iload_n 1, 1) := by decide +kernel
theorem dX6_workOut__251 : decode cX6_workOut_ 251 = .ok (.imul, 1) := by decide +kernel
theorem dX6_workOut__252 : decode cX6_workOut_ 252 = .ok (.iload 6, 2) := by decide +kernel
theorem dX6_workOut__254 : decode cX6_workOut_ 254 = .ok (.iadd, 1) := by decide +kernel
theorem dX6_workOut__255 : decode cX6_workOut_ 255 = .ok (.iload 4, 2) := by decide +kernel
theorem dX6_workOut__257 : decode cX6_workOut_ 257 = .ok (.iastore, 1) := by decide +kernel
theorem dX6_workOut__258 : decode cX6_workOut_ 258 = .ok (.aload_n 0, 1) := by decide +kernel
theorem dX6_workOut__259 : decode cX6_workOut_ 259 = .ok (.getfield 44, 3) := by decide +kernel
theorem dX6_workOut__262 : decode cX6_workOut_ 262 = .ok (.sipush 1000, 3) := by decide +kernel
theorem dX6_workOut__265 : decode cX6_workOut_ 265 = .ok (.iload_n 1, 1) := by decide +kernel
theorem dX6_workOut__266 : decode cX6_workOut_ 266 = .ok (.imul, 1) := by decide +kernel
theorem dX6_workOut__267 : decode cX6_workOut_ 267 = .ok (.iload 6, 2) := by decide +kernel
theorem dX6_workOut__269 : decode cX6_workOut_ 269 = .ok (.iadd, 1) := by decide +kernel
theorem dX6_workOut__270 : decode cX6_workOut_ 270 = .ok (.aload_n 0, 1) := by decide +kernel
theorem dX6_workOut__271 : decode cX6_workOut_ 271 = .ok (.getfield 47, 3) := by decide +kernel
theorem dX6_workOut__274 : decode cX6_workOut_ 274 = .ok (.iload_n 1, 1) := by decide +kernel
theorem dX6_workOut__275 : decode cX6_workOut_ 275 = .ok (.iaload, 1) := by decide +kernel
theorem dX6_workOut__276 : decode cX6_workOut_ 276 = .ok (.iconst 1, 1) := by decide +kernel
theorem dX6_workOut__277 : decode cX6_workOut_ 277 = .ok (.isub, 1) := by decide +kernel
theorem dX6_workOut__278 : decode cX6_workOut_ 278 = .ok (.iastore, 1) := by decide +kernel
theorem dX6_workOut__279 : decode cX6_workOut_ 279 = .ok (.iinc 6 1, 3) := by decide +kernel
theorem dX6_workOut__282 : decode cX6_workOut_ 282 = .ok (.goto (-257), 3) := by decide +kernel
theorem dX6_workOut__285 : decode cX6_workOut_ 285 = .ok (.return_, 1) := by decide +kernel
theorem dX6_playerAt_0 : decode cX6_playerAt 0 = .ok (.aload_n 0, 1) := by decide +kernel
theorem dX6_playerAt_1 : decode cX6_playerAt 1 = .ok (.getfield 38, 3) := by decide +kernel
theorem dX6_playerAt_4 : decode cX6_playerAt 4 = .ok (.sipush 1000, 3) := by decide +kernel
theorem dX6_playerAt_7 : decode cX6_playerAt 7 = .ok (.iload_n 1, 1) := by decide +kernel
theorem dX6_playerAt_8 : decode cX6_playerAt 8 = .ok (.imul, 1) := by decide +kernel
theorem dX6_playerAt_9 : decode cX6_playerAt 9 = .ok (.iload_n 2, 1) := by decide +kernel
theorem dX6_playerAt_10 : decode cX6_playerAt 10 = .ok (.iadd, 1) := by decide +kernel
theorem dX6_playerAt_11 : decode cX6_playerAt 11 = .ok (.iaload, 1) := by decide +kernel
theorem dX6_playerAt_12 : decode cX6_playerAt 12 = .ok (.iconst (-1), 1) := by decide +kernel
theorem dX6_playerAt_13 : decode cX6_playerAt 13 = .ok (.if_icmp .ne 7, 3) := by decide +kernel
theorem dX6_playerAt_16 : decode cX6_playerAt 16 = .ok (.iconst (-1), 1) := by decide +kernel
theorem dX6_playerAt_17 : decode cX6_playerAt 17 = .ok (.goto 25, 3) := by decide +kernel
theorem dX6_playerAt_20 : decode cX6_playerAt 20 = .ok (.aload_n 0, 1) := by decide +kernel
theorem dX6_playerAt_21 : decode cX6_playerAt 21 = .ok (.getfield 56, 3) := by decide +kernel
theorem dX6_playerAt_24 : decode cX6_playerAt 24 = .ok (.bipush 40, 2) := by decide +kernel
theorem dX6_playerAt_26 : decode cX6_playerAt 26 = .ok (.iload_n 1, 1) := by decide +kernel
theorem dX6_playerAt_27 : decode cX6_playerAt 27 = .ok (.imul, 1) := by decide +kernel
theorem dX6_playerAt_28 : decode cX6_playerAt 28 = .ok (.aload_n 0, 1) := by decide +kernel
theorem dX6_playerAt_29 : decode cX6_playerAt 29 = .ok (.getfield 44, 3) := by decide +kernel
theorem dX6_playerAt_32 : decode cX6_playerAt 32 = .ok (.sipush 1000, 3) := by decide +kernel
theorem dX6_playerAt_35 : decode cX6_playerAt 35 = .ok (.iload_n 1, 1) := by decide +kernel
theorem dX6_playerAt_36 : decode cX6_playerAt 36 = .ok (.imul, 1) := by decide +kernel
theorem dX6_playerAt_37 : decode cX6_playerAt 37 = .ok (.iload_n 2, 1) := by decide +kernel
theorem dX6_playerAt_38 : decode cX6_playerAt 38 = .ok (.iadd, 1) := by decide +kernel
theorem dX6_playerAt_39 : decode cX6_playerAt 39 = .ok (.iaload, 1) := by decide +kernel
theorem dX6_playerAt_40 : decode cX6_playerAt 40 = .ok (.iadd, 1) := by decide +kernel
theorem dX6_playerAt_41 : decode cX6_playerAt 41 = .ok (.iaload, 1) := by decide +kernel
theorem dX6_playerAt_42 : decode cX6_playerAt 42 = .ok (.ireturn, 1) := by decide +kernel
theorem dX6_canDo_0 : decode cX6_canDo 0 = .ok (.aload_n 0, 1) := by decide +kernel
theorem dX6_canDo_1 : decode cX6_canDo 1 = .ok (.getfield 19, 3) := by decide +kernel
theorem dX6_canDo_4 : decode cX6_canDo 4 = .ok (.iload_n 1, 1) := by decide +kernel
theorem dX6_canDo_5 : decode cX6_canDo 5 = .ok (.iaload, 1) := by decide +kernel
theorem dX6_canDo_6 : decode cX6_canDo 6 = .ok (.istore_n 2, 1) := by decide +kernel
theorem dX6_canDo_7 : decode cX6_canDo 7 = .ok (.iconst 0, 1) := by decide +kernel
theorem dX6_canDo_8 : decode cX6_canDo 8 = .ok (.istore_n 3, 1) := by decide +kernel
theorem dX6_canDo_9 : decode cX6_canDo 9 = .ok (.iconst 0, 1) := by decide +kernel
theorem dX6_canDo_10 : decode cX6_canDo 10 = .ok (.istore 4, 2) := by decide +kernel
theorem dX6_canDo_12 : decode cX6_canDo 12 = .ok (.iload 4, 2) := by decide +kernel
theorem dX6_canDo_14 : decode cX6_canDo 14 = .ok (.sipush 1000, 3) := by decide +kernel
theorem dX6_canDo_17 : decode cX6_canDo 17 = .ok (.if_icmp .ge 166, 3) := by decide +kernel
theorem dX6_canDo_20 : decode cX6_canDo 20 = .ok (.iconst 0, 1) := by decide +kernel
theorem dX6_canDo_21 : decode cX6_canDo 21 = .ok (.istore 5, 2) := by decide +kernel
theorem dX6_canDo_23 : decode cX6_canDo 23 = .ok (.iconst 0, 1) := by decide +kernel
theorem dX6_canDo_24 : decode cX6_canDo 24 = .ok (.istore 6, 2) := by decide +kernel
theorem dX6_canDo_26 : decode cX6_canDo 26 = .ok (.iconst (-1), 1) := by decide +kernel
theorem dX6_canDo_27 : decode cX6_canDo 27 = .ok (.istore 7, 2) := by decide +kernel
theorem dX6_canDo_29 : decode cX6_canDo 29 = .ok (.iconst 0, 1) := by decide +kernel
theorem dX6_canDo_30 : decode cX6_canDo 30 = .ok (.istore 8, 2) := by decide +kernel
theorem dX6_canDo_32 : decode cX6_canDo 32 = .ok (.iload 8, 2) := by decide +kernel
theorem dX6_canDo_34 : decode cX6_canDo 34 = .ok (.aload_n 0, 1) := by decide +kernel
theorem dX6_canDo_35 : decode cX6_canDo 35 = .ok (.getfield 63, 3) := by decide +kernel
theorem dX6_canDo_38 : decode cX6_canDo 38 = .ok (.if_icmp .ge 91, 3) := by decide +kernel
theorem dX6_canDo_41 : decode cX6_canDo 41 = .ok (.aload_n 0, 1) := by decide +kernel
theorem dX6_canDo_42 : decode cX6_canDo 42 = .ok (.iload 8, 2) := by decide +kernel
theorem dX6_canDo_44 : decode cX6_canDo 44 = .ok (.iload 4, 2) := by decide +kernel
theorem dX6_canDo_46 : decode cX6_canDo 46 = .ok (.invokevirtual 138, 3) := by decide +kernel
theorem dX6_canDo_49 : decode cX6_canDo 49 = .ok (.iload_n 1, 1) := by decide +kernel
theorem dX6_canDo_50 : decode cX6_canDo 50 = .ok (.if_icmp .eq 6, 3) := by decide +kernel
theorem dX6_canDo_53 : decode cX6_canDo 53 = .ok (.goto 70, 3) := by decide +kernel
theorem dX6_canDo_56 : decode cX6_canDo 56 = .ok (.iload 5, 2) := by decide +kernel
theorem dX6_canDo_58 : decode cX6_canDo 58 = .ok (.aload_n 0, 1) := by decide +kernel
theorem dX6_canDo_59 : decode cX6_canDo 59 = .ok (.getfield 13, 3) := by decide +kernel
theorem dX6_canDo_62 : decode cX6_canDo 62 = .ok (.iload 8, 2) := by decide +kernel
theorem dX6_canDo_64 : decode cX6_canDo 64 = .ok (.iaload, 1) := by decide +kernel
theorem dX6_canDo_65 : decode cX6_canDo 65 = .ok (.iadd, 1) := by decide +kernel
theorem dX6_canDo_66 : decode cX6_canDo 66 = .ok (.istore 5, 2) := by decide +kernel
theorem dX6_canDo_68 : decode cX6_canDo 68 = .ok (.iload 6, 2) := by decide +kernel
theorem dX6_canDo_70 : decode cX6_canDo 70 = .ok (.aload_n 0, 1) := by decide +kernel
theorem dX6_canDo_71 : decode cX6_canDo 71 = .ok (.getfield 9, 3) := by decide +kernel
theorem dX6_canDo_74 : decode cX6_canDo 74 = .ok (.iload 8, 2) := by decide +kernel
theorem dX6_canDo_76 : decode cX6_canDo 76 = .ok (.iaload, 1) := by decide +kernel
theorem dX6_canDo_77 : decode cX6_canDo 77 = .ok (.iadd, 1) := by decide +kernel
theorem dX6_canDo_78 : decode cX6_canDo 78 = .ok (.istore 6, 2) := by decide +kernel
theorem dX6_canDo_80 : decode cX6_canDo 80 = .ok (.iload 7, 2) := by decide +kernel
theorem dX6_canDo_82 : decode cX6_canDo 82 = .ok (.iconst (-1), 1) := by decide +kernel
theorem dX6_canDo_83 : decode cX6_canDo 83 = .ok (.if_icmp .eq 24, 3) := by decide +kernel
theorem dX6_canDo_86 : decode cX6_canDo 86 = .ok (.aload_n 0, 1) := by decide +kernel
theorem dX6_canDo_87 : decode cX6_canDo 87 = .ok (.getfield 38, 3) := by decide +kernel
theorem dX6_canDo_90 : decode cX6_canDo 90 = .ok (.sipush 1000, 3) := by decide +kernel
theorem dX6_canDo_93 : decode cX6_canDo 93 = .ok (.iload 8, 2) := by decide +kernel
theorem dX6_canDo_95 : decode cX6_canDo 95 = .ok (.imul, 1) := by decide +kernel
theorem dX6_canDo_96 : decode cX6_canDo 96 = .ok (.iload 4, 2) := by decide +kernel
theorem dX6_canDo_98 : decode cX6_canDo 98 = .ok (.iadd, 1) := by decide +kernel
theorem dX6_canDo_99 : decode cX6_canDo 99 = .ok (.iaload, 1) := by decide +kernel
theorem dX6_canDo_100 : decode cX6_canDo 100 = .ok (.iload 7, 2) := by decide +kernel
theorem dX6_canDo_102 : decode cX6_canDo 102 = .ok (.if_icmp .eq 5, 3) := by decide +kernel
theorem dX6_canDo_105 : decode cX6_canDo 105 = .ok (.iconst 0, 1) := by decide +kernel
theorem dX6_canDo_106 : decode cX6_canDo 106 = .ok (.ireturn, 1) := by decide +kernel
theorem dX6_canDo_107 : decode cX6_canDo 107 = .ok (.aload_n 0, 1) := by decide +kernel
theorem dX6_canDo_108 : decode cX6_canDo 108 = .ok (.getfield 38, 3) := by decide +kernel
theorem dX6_canDo_111 : decode cX6_canDo 111 = .ok (.sipush 1000, 3) := by decide +kernel
theorem dX6_canDo_114 : decode cX6_canDo 114 = .ok (.iload 8, 2) := by decide +kernel
theorem dX6_canDo_116 : decode cX6_canDo 116 = .ok (.imul, 1) := by decide +kernel
theorem dX6_canDo_117 : decode cX6_canDo 117 = .ok (.iload 4, 2) := by decide +kernel
theorem dX6_canDo_119 : decode cX6_canDo 119 = .ok (.iadd, 1) := by decide +kernel
theorem dX6_canDo_120 : decode cX6_canDo 120 = .ok (.iaload, 1) := by decide +kernel
theorem dX6_canDo_121 : decode cX6_canDo 121 = .ok (.istore 7, 2) := by decide +kernel
theorem dX6_canDo_123 : decode cX6_canDo 123 = .ok (.iinc 8 1, 3) := by decide +kernel
theorem dX6_canDo_126 : decode cX6_canDo 126 = .ok (.goto (-94), 3) := by decide +kernel
theorem dX6_canDo_129 : decode cX6_canDo 129 = .ok (.iload 7, 2) := by decide +kernel
theorem dX6_canDo_131 : decode cX6_canDo 131 = .ok (.iconst (-1), 1) := by decide +kernel
theorem dX6_canDo_132 : decode cX6_canDo 132 = .ok (.if_icmp .ne 6, 3) := by decide +kernel
theorem dX6_canDo_135 : decode cX6_canDo 135 = .ok (.goto 42, 3) := by decide +kernel
theorem dX6_canDo_138 : decode cX6_canDo 138 = .ok (.iload 5, 2) := by decide +kernel
theorem dX6_canDo_140 : decode cX6_canDo 140 = .ok (.iconst 2, 1) := by decide +kernel
theorem dX6_canDo_141 : decode cX6_canDo 141 = .ok (.if_icmp .gt 28, 3) := by decide +kernel
theorem dX6_canDo_144 : decode cX6_canDo 144 = .ok (.iload 6, 2) := by decide +kernel
theorem dX6_canDo_146 : decode cX6_canDo 146 = .ok (.aload_n 0, 1) := by decide +kernel
theorem dX6_canDo_147 : decode cX6_canDo 147 = .ok (.getfield 16, 3) := by decide +kernel
theorem dX6_canDo_150 : decode cX6_canDo 150 = .ok (.iload_n 1, 1) := by decide +kernel
theorem dX6_canDo_151 : decode cX6_canDo 151 = .ok (.iaload, 1) := by decide +kernel
theorem dX6_canDo_152 : decode cX6_canDo 152 = .ok (.if_icmp .gt 17, 3) := by decide +kernel
theorem dX6_canDo_155 : decode cX6_canDo 155 = .ok (.iload 7, 2) := by decide +kernel
theorem dX6_canDo_157 : decode cX6_canDo 157 = .ok (.iload_n 2, 1) := by decide +kernel
theorem dX6_canDo_158 : decode cX6_canDo 158 = .ok (.isub, 1) := by decide +kernel
theorem dX6_canDo_159 : decode cX6_canDo 159 = .ok (.invokestatic 98, 3) := by decide +kernel
theorem dX6_canDo_162 : decode cX6_canDo 162 = .ok (.iload 4, 2) := by decide +kernel
theorem dX6_canDo_164 : decode cX6_canDo 164 = .ok (.iload_n 3, 1) := by decide +kernel
theorem dX6_canDo_165 : decode cX6_canDo 165 = .ok (.isub, 1) := by decide +kernel
theorem dX6_canDo_166 : decode cX6_canDo 166 = .ok (.if_icmp .le 5, 3) := by decide +kernel
theorem dX6_canDo_169 : decode cX6_canDo 169 = .ok (.iconst 0, 1) := by decide +kernel
theorem dX6_canDo_170 : decode cX6_canDo 170 = .ok (.ireturn, 1) := by decide +kernel
theorem dX6_canDo_171 : decode cX6_canDo 171 = .ok (.iload 7, 2) := by decide +kernel
theorem dX6_canDo_173 : decode cX6_canDo 173 = .ok (.istore_n 2, 1) := by decide +kernel
theorem dX6_canDo_174 : decode cX6_canDo 174 = .ok (.iload 4, 2) := by decide +kernel
theorem dX6_canDo_176 : decode cX6_canDo 176 = .ok (.istore_n 3, 1) := by decide +kernel
theorem dX6_canDo_177 : decode cX6_canDo 177 = .ok (.iinc 4 1, 3) := by decide +kernel
theorem dX6_canDo_180 : decode cX6_canDo 180 = .ok (.goto (-168), 3) := by decide +kernel
theorem dX6_canDo_183 : decode cX6_canDo 183 = .ok (.iconst 1, 1) := by decide +kernel
theorem dX6_canDo_184 : decode cX6_canDo 184 = .ok (.ireturn, 1) := by decide +kernel
theorem dX6_castAll_0 : decode cX6_castAll 0 = .ok (.iconst 0, 1) := by decide +kernel
theorem dX6_castAll_1 : decode cX6_castAll 1 = .ok (.istore_n 1, 1) := by decide +kernel
theorem dX6_castAll_2 : decode cX6_castAll 2 = .ok (.iconst 0, 1) := by decide +kernel
theorem dX6_castAll_3 : decode cX6_castAll 3 = .ok (.istore_n 2, 1) := by decide +kernel
theorem dX6_castAll_4 : decode cX6_castAll 4 = .ok (.iload_n 2, 1) := by decide +kernel
theorem dX6_castAll_5 : decode cX6_castAll 5 = .ok (.aload_n 0, 1) := by decide +kernel
theorem dX6_castAll_6 : decode cX6_castAll 6 = .ok (.getfield 63, 3) := by decide +kernel
theorem dX6_castAll_9 : decode cX6_castAll 9 = .ok (.if_icmp .ge 48, 3) := by decide +kernel
theorem dX6_castAll_12 : decode cX6_castAll 12 = .ok (.iload_n 1, 1) := by decide +kernel
theorem dX6_castAll_13 : decode cX6_castAll 13 = .ok (.aload_n 0, 1) := by decide +kernel
theorem dX6_castAll_14 : decode cX6_castAll 14 = .ok (.getfield 47, 3) := by decide +kernel
theorem dX6_castAll_17 : decode cX6_castAll 17 = .ok (.iload_n 2, 1) := by decide +kernel
theorem dX6_castAll_18 : decode cX6_castAll 18 = .ok (.iaload, 1) := by decide +kernel
theorem dX6_castAll_19 : decode cX6_castAll 19 = .ok (.iadd, 1) := by decide +kernel
theorem dX6_castAll_20 : decode cX6_castAll 20 = .ok (.istore_n 1, 1) := by decide +kernel
theorem dX6_castAll_21 : decode cX6_castAll 21 = .ok (.iconst 0, 1) := by decide +kernel
theorem dX6_castAll_22 : decode cX6_castAll 22 = .ok (.istore_n 3, 1) := by decide +kernel
theorem dX6_castAll_23 : decode cX6_castAll 23 = .ok (.iload_n 3, 1) := by decide +kernel
theorem dX6_castAll_24 : decode cX6_castAll 24 = .ok (.aload_n 0, 1) := by decide +kernel
theorem dX6_castAll_25 : decode cX6_castAll 25 = .ok (.getfield 47, 3) := by decide +kernel
theorem dX6_castAll_28 : decode cX6_castAll 28 = .ok (.iload_n 2, 1) := by decide +kernel
theorem dX6_castAll_29 : decode cX6_castAll 29 = .ok (.iaload, 1) := by decide +kernel
theorem dX6_castAll_30 : decode cX6_castAll 30 = .ok (.if_icmp .ge 21, 3) := by decide +kernel
theorem dX6_castAll_33 : decode cX6_castAll 33 = .ok (.aload_n 0, 1) := by decide +kernel
theorem dX6_castAll_34 : decode cX6_castAll 34 = .ok (.getfield 56, 3) := by decide +kernel
theorem dX6_castAll_37 : decode cX6_castAll 37 = .ok (.bipush 40, 2) := by decide +kernel
theorem dX6_castAll_39 : decode cX6_castAll 39 = .ok (.iload_n 2, 1) := by decide +kernel
theorem dX6_castAll_40 : decode cX6_castAll 40 = .ok (.imul, 1) := by decide +kernel
theorem dX6_castAll_41 : decode cX6_castAll 41 = .ok (.iload_n 3, 1) := by decide +kernel
theorem dX6_castAll_42 : decode cX6_castAll 42 = .ok (.iadd, 1) := by decide +kernel
theorem dX6_castAll_43 : decode cX6_castAll 43 = .ok (.iconst (-1), 1) := by decide +kernel
theorem dX6_castAll_44 : decode cX6_castAll 44 = .ok (.iastore, 1) := by decide +kernel
theorem dX6_castAll_45 : decode cX6_castAll 45 = .ok (.iinc 3 1, 3) := by decide +kernel
theorem dX6_castAll_48 : decode cX6_castAll 48 = .ok (.goto (-25), 3) := by decide +kernel
theorem dX6_castAll_51 : decode cX6_castAll 51 = .ok (.iinc 2 1, 3) := by decide +kernel
theorem dX6_castAll_54 : decode cX6_castAll 54 = .ok (.goto (-50), 3) := by decide +kernel
theorem dX6_castAll_57 : decode cX6_castAll 57 = .ok (.bipush 8, 2) := by decide +kernel
theorem dX6_castAll_59 : decode cX6_castAll 59 = .ok (.newarray .int, 2) := by decide +kernel
theorem dX6_castAll_61 : decode cX6_castAll 61 = .ok (.astore_n 2, 1) := by decide +kernel
theorem dX6_castAll_62 : decode cX6_castAll 62 = .ok (.iload_n 1, 1) := by decide +kernel
theorem dX6_castAll_63 : decode cX6_castAll 63 = .ok (.ifCond .le 160, 3) := by decide +kernel
theorem dX6_castAll_66 : decode cX6_castAll 66 = .ok (.iconst (-1), 1) := by decide +kernel
theorem dX6_castAll_67 : decode cX6_castAll 67 = .ok (.istore_n 3, 1) := by decide +kernel
theorem dX6_castAll_68 : decode cX6_castAll 68 = .ok (.iconst 0, 1) := by decide +kernel
theorem dX6_castAll_69 : decode cX6_castAll 69 = .ok (.istore 4, 2) := by decide +kernel
theorem dX6_castAll_71 : decode cX6_castAll 71 = .ok (.iload 4, 2) := by decide +kernel
theorem dX6_castAll_73 : decode cX6_castAll 73 = .ok (.aload_n 0, 1) := by decide +kernel
theorem dX6_castAll_74 : decode cX6_castAll 74 = .ok (.getfield 63, 3) := by decide +kernel
theorem dX6_castAll_77 : decode cX6_castAll 77 = .ok (.if_icmp .ge 62, 3) := by decide +kernel
theorem dX6_castAll_80 : decode cX6_castAll 80 = .ok (.aload_n 2, 1) := by decide +kernel
theorem dX6_castAll_81 : decode cX6_castAll 81 = .ok (.iload 4, 2) := by decide +kernel
theorem dX6_castAll_83 : decode cX6_castAll 83 = .ok (.iaload, 1) := by decide +kernel
theorem dX6_castAll_84 : decode cX6_castAll 84 = .ok (.aload_n 0, 1) := by decide +kernel
theorem dX6_castAll_85 : decode cX6_castAll 85 = .ok (.getfield 47, 3) := by decide +kernel
theorem dX6_castAll_88 : decode cX6_castAll 88 = .ok (.iload 4, 2) := by decide +kernel
theorem dX6_castAll_90 : decode cX6_castAll 90 = .ok (.iaload, 1) := by decide +kernel
theorem dX6_castAll_91 : decode cX6_castAll 91 = .ok (.if_icmp .ge 42, 3) := by decide +kernel
theorem dX6_castAll_94 : decode cX6_castAll 94 = .ok (.iload_n 3, 1) := by decide +kernel
theorem dX6_castAll_95 : decode cX6_castAll 95 = .ok (.iconst (-1), 1) := by decide +kernel
theorem dX6_castAll_96 : decode cX6_castAll 96 = .ok (.if_icmp .eq 34, 3) := by decide +kernel
theorem dX6_castAll_99 : decode cX6_castAll 99 = .ok (.aload_n 0, 1) := by decide +kernel
theorem dX6_castAll_100 : decode cX6_castAll 100 = .ok (.getfield 50, 3) := by decide +kernel
theorem dX6_castAll_103 : decode cX6_castAll 103 = .ok (.bipush 40, 2) := by decide +kernel
theorem dX6_castAll_105 : decode cX6_castAll 105 = .ok (.iload 4, 2) := by decide +kernel
theorem dX6_castAll_107 : decode cX6_castAll 107 = .ok (.imul, 1) := by decide +kernel
theorem dX6_castAll_108 : decode cX6_castAll 108 = .ok (.aload_n 2, 1) := by decide +kernel
theorem dX6_castAll_109 : decode cX6_castAll 109 = .ok (.iload 4, 2) := by decide +kernel
theorem dX6_castAll_111 : decode cX6_castAll 111 = .ok (.iaload, 1) := by decide +kernel
theorem dX6_castAll_112 : decode cX6_castAll 112 = .ok (.iadd, 1) := by decide +kernel
theorem dX6_castAll_113 : decode cX6_castAll 113 = .ok (.iaload, 1) := by decide +kernel
theorem dX6_castAll_114 : decode cX6_castAll 114 = .ok (.aload_n 0, 1) := by decide +kernel
theorem dX6_castAll_115 : decode cX6_castAll 115 = .ok (.getfield 50, 3) := by decide +kernel
theorem dX6_castAll_118 : decode cX6_castAll 118 = .ok (.bipush 40, 2) := by decide +kernel
theorem dX6_castAll_120 : decode cX6_castAll 120 = .ok (.iload_n 3, 1) := by decide +kernel
theorem dX6_castAll_121 : decode cX6_castAll 121 = .ok (.imul, 1) := by decide +kernel
theorem dX6_castAll_122 : decode cX6_castAll 122 = .ok (.aload_n 2, 1) := by decide +kernel
theorem dX6_castAll_123 : decode cX6_castAll 123 = .ok (.iload_n 3, 1) := by decide +kernel
theorem dX6_castAll_124 : decode cX6_castAll 124 = .ok (.iaload, 1) := by decide +kernel
theorem dX6_castAll_125 : decode cX6_castAll 125 = .ok (.iadd, 1) := by decide +kernel
theorem dX6_castAll_126 : decode cX6_castAll 126 = .ok (.iaload, 1) := by decide +kernel
theorem dX6_castAll_127 : decode cX6_castAll 127 = .ok (.if_icmp .ge 6, 3) := by decide +kernel
theorem dX6_castAll_130 : decode cX6_castAll 130 = .ok (.iload 4, 2) := by decide +kernel
theorem dX6_castAll_132 : decode cX6_castAll 132 = .ok (.istore_n 3, 1) := by decide +kernel
theorem dX6_castAll_133 : decode cX6_castAll 133 = .ok (.iinc 4 1, 3) := by decide +kernel
theorem dX6_castAll_136 : decode cX6_castAll 136 = .ok (.goto (-65), 3) := by decide +kernel
theorem dX6_castAll_139 : decode cX6_castAll 139 = .ok (.bipush 40, 2) := by decide +kernel
theorem dX6_castAll_141 : decode cX6_castAll 141 = .ok (.iload_n 3, 1) := by decide +kernel
theorem dX6_castAll_142 : decode cX6_castAll 142 = .ok (.imul, 1) := by decide +kernel
theorem dX6_castAll_143 : decode cX6_castAll 143 = .ok (.aload_n 2, 1) := by decide +kernel
theorem dX6_castAll_144 : decode cX6_castAll 144 = .ok (.iload_n 3, 1) := by decide +kernel
theorem dX6_castAll_145 : decode cX6_castAll 145 = .ok (.iaload, 1) := by decide +kernel
theorem dX6_castAll_146 : decode cX6_castAll 146 = .ok (.iadd, 1) := by decide +kernel
theorem dX6_castAll_147 : decode cX6_castAll 147 = .ok (.istore 4, 2) := by decide +kernel
theorem dX6_castAll_149 : decode cX6_castAll 149 = .ok (.iconst 0, 1) := by decide +kernel
theorem dX6_castAll_150 : decode cX6_castAll 150 = .ok (.istore 5, 2) := by decide +kernel
theorem dX6_castAll_152 : decode cX6_castAll 152 = .ok (.aload_n 0, 1) := by decide +kernel
theorem dX6_castAll_153 : decode cX6_castAll 153 = .ok (.getfield 56, 3) := by decide +kernel
theorem dX6_castAll_156 : decode cX6_castAll 156 = .ok (.iload 4, 2) := by decide +kernel
theorem dX6_castAll_158 : decode cX6_castAll 158 = .ok (.iconst 0, 1) := by decide +kernel
theorem dX6_castAll_159 : decode cX6_castAll 159 = .ok (.iastore, 1) := by decide +kernel
theorem dX6_castAll_160 : decode cX6_castAll 160 = .ok (.iload 5, 2) := by decide +kernel
theorem dX6_castAll_162 : decode cX6_castAll 162 = .ok (.aload_n 0, 1) := by decide +kernel
theorem dX6_castAll_163 : decode cX6_castAll 163 = .ok (.getfield 70, 3) := by decide +kernel
theorem dX6_castAll_166 : decode cX6_castAll 166 = .ok (.if_icmp .ge 27, 3) := by decide +kernel
theorem dX6_castAll_169 : decode cX6_castAll 169 = .ok (.aload_n 0, 1) := by decide +kernel
theorem dX6_castAll_170 : decode cX6_castAll 170 = .ok (.iload 5, 2) := by decide +kernel
theorem dX6_castAll_172 : decode cX6_castAll 172 = .ok (.invokevirtual 141, 3) := by decide +kernel
theorem dX6_castAll_175 : decode cX6_castAll 175 = .ok (.ifCond .ne 18, 3) := by decide +kernel
theorem dX6_castAll_178 : decode cX6_castAll 178 = .ok (.iinc 5 1, 3) := by decide +kernel
theorem dX6_castAll_181 : decode cX6_castAll 181 = .ok (.aload_n 0, 1) := by decide +kernel
theorem dX6_castAll_182 : decode cX6_castAll 182 = .ok (.getfield 56, 3) := by decide +kernel
theorem dX6_castAll_185 : decode cX6_castAll 185 = .ok (.iload 4, 2) := by decide +kernel
theorem dX6_castAll_187 : decode cX6_castAll 187 = .ok (.iload 5, 2) := by decide +kernel
theorem dX6_castAll_189 : decode cX6_castAll 189 = .ok (.iastore, 1) := by decide +kernel
theorem dX6_castAll_190 : decode cX6_castAll 190 = .ok (.goto (-30), 3) := by decide +kernel
theorem dX6_castAll_193 : decode cX6_castAll 193 = .ok (.iload 5, 2) := by decide +kernel
theorem dX6_castAll_195 : decode cX6_castAll 195 = .ok (.aload_n 0, 1) := by decide +kernel
theorem dX6_castAll_196 : decode cX6_castAll 196 = .ok (.getfield 70, 3) := by decide +kernel
theorem dX6_castAll_199 : decode cX6_castAll 199 = .ok (.if_icmp .ne 11, 3) := by decide +kernel
theorem dX6_castAll_202 : decode cX6_castAll 202 = .ok (.aload_n 0, 1) := by decide +kernel
theorem dX6_castAll_203 : decode cX6_castAll 203 = .ok (.getfield 56, 3) := by decide +kernel
theorem dX6_castAll_206 : decode cX6_castAll 206 = .ok (.iload 4, 2) := by decide +kernel
theorem dX6_castAll_208 : decode cX6_castAll 208 = .ok (.iconst (-1), 1) := by decide +kernel
theorem dX6_castAll_209 : decode cX6_castAll 209 = .ok (.iastore, 1) := by decide +kernel
theorem dX6_castAll_210 : decode cX6_castAll 210 = .ok (.aload_n 2, 1) := by decide +kernel
theorem dX6_castAll_211 : decode cX6_castAll 211 = .ok (.iload_n 3, 1) := by decide +kernel
theorem dX6_castAll_212 : decode cX6_castAll 212 = .ok (.dup2, 1) := by decide +kernel
theorem dX6_castAll_213 : decode cX6_castAll 213 = .ok (.iaload, 1) := by decide +kernel
theorem dX6_castAll_214 : decode cX6_castAll 214 = .ok (.iconst 1, 1) := by decide +kernel
theorem dX6_castAll_215 : decode cX6_castAll 215 = .ok (.iadd, 1) := by decide +kernel
theorem dX6_castAll_216 : decode cX6_castAll 216 = .ok (.iastore, 1) := by decide +kernel
theorem dX6_castAll_217 : decode cX6_castAll 217 = .ok (.iinc 1 (-1), 3) := by decide +kernel
theorem dX6_castAll_220 : decode cX6_castAll 220 = .ok (.goto (-158), 3) := by decide +kernel
theorem dX6_castAll_223 : decode cX6_castAll 223 = .ok (.return_, 1) := by decide +kernel
theorem dX6_placeAt_0 : decode cX6_placeAt 0 = .ok (.aload_n 0, 1) := by decide +kernel
theorem dX6_placeAt_1 : decode cX6_placeAt 1 = .ok (.getfield 38, 3) := by decide +kernel
theorem dX6_placeAt_4 : decode cX6_placeAt 4 = .ok (.sipush 1000, 3) := by decide +kernel
theorem dX6_placeAt_7 : decode cX6_placeAt 7 = .ok (.iload_n 1, 1) := by decide +kernel
theorem dX6_placeAt_8 : decode cX6_placeAt 8 = .ok (.imul, 1) := by decide +kernel
theorem dX6_placeAt_9 : decode cX6_placeAt 9 = .ok (.iload_n 2, 1) := by decide +kernel
theorem dX6_placeAt_10 : decode cX6_placeAt 10 = .ok (.iadd, 1) := by decide +kernel
theorem dX6_placeAt_11 : decode cX6_placeAt 11 = .ok (.iaload, 1) := by decide +kernel
theorem dX6_placeAt_12 : decode cX6_placeAt 12 = .ok (.ireturn, 1) := by decide +kernel
theorem dX6_trackAt_0 : decode cX6_trackAt 0 = .ok (.aload_n 0, 1) := by decide +kernel
theorem dX6_trackAt_1 : decode cX6_trackAt 1 = .ok (.getfield 41, 3) := by decide +kernel
theorem dX6_trackAt_4 : decode cX6_trackAt 4 = .ok (.sipush 1000, 3) := by decide +kernel
theorem dX6_trackAt_7 : decode cX6_trackAt 7 = .ok (.iload_n 1, 1) := by decide +kernel
theorem dX6_trackAt_8 : decode cX6_trackAt 8 = .ok (.imul, 1) := by decide +kernel
theorem dX6_trackAt_9 : decode cX6_trackAt 9 = .ok (.iload_n 2, 1) := by decide +kernel
theorem dX6_trackAt_10 : decode cX6_trackAt 10 = .ok (.iadd, 1) := by decide +kernel
theorem dX6_trackAt_11 : decode cX6_trackAt 11 = .ok (.iaload, 1) := by decide +kernel
theorem dX6_trackAt_12 : decode cX6_trackAt 12 = .ok (.ireturn, 1) := by decide +kernel
theorem dX6_whyBeat_0 : decode cX6_whyBeat 0 = .ok (.iload_n 1, 1) := by decide +kernel
theorem dX6_whyBeat_1 : decode cX6_whyBeat 1 = .ok (.invokestatic 110, 3) := by decide +kernel
theorem dX6_whyBeat_4 : decode cX6_whyBeat 4 = .ok (.ifCond .eq 7, 3) := by decide +kernel
theorem dX6_whyBeat_7 : decode cX6_whyBeat 7 = .ok (.iconst 0, 1) := by decide +kernel
theorem dX6_whyBeat_8 : decode cX6_whyBeat 8 = .ok (.goto 4, 3) := by decide +kernel
theorem dX6_whyBeat_11 : decode cX6_whyBeat 11 = .ok (.iconst 2, 1) := by decide +kernel
theorem dX6_whyBeat_12 : decode cX6_whyBeat 12 = .ok (.ireturn, 1) := by decide +kernel
theorem dX6_place_0 : decode cX6_place 0 = .ok (.aload_n 0, 1) := by decide +kernel
theorem dX6_place_1 : decode cX6_place 1 = .ok (.aload_n 0, 1) := by decide +kernel
theorem dX6_place_2 : decode cX6_place 2 = .ok (.iload_n 1, 1) := by decide +kernel
theorem dX6_place_3 : decode cX6_place 3 = .ok (.invokevirtual 107, 3) := by decide +kernel
theorem dX6_place_6 : decode cX6_place 6 = .ok (.ifCond .eq 11, 3) := by decide +kernel
theorem dX6_place_9 : decode cX6_place 9 = .ok (.aload_n 0, 1) := by decide +kernel
theorem dX6_place_10 : decode cX6_place 10 = .ok (.iload_n 2, 1) := by decide +kernel
theorem dX6_place_11 : decode cX6_place 11 = .ok (.invokevirtual 144, 3) := by decide +kernel
theorem dX6_place_14 : decode cX6_place 14 = .ok (.goto 4, 3) := by decide +kernel
theorem dX6_place_17 : decode cX6_place 17 = .ok (.iconst 1, 1) := by decide +kernel
theorem dX6_place_18 : decode cX6_place 18 = .ok (.putfield 59, 3) := by decide +kernel
theorem dX6_place_21 : decode cX6_place 21 = .ok (.aload_n 0, 1) := by decide +kernel
theorem dX6_place_22 : decode cX6_place 22 = .ok (.getfield 59, 3) := by decide +kernel
theorem dX6_place_25 : decode cX6_place 25 = .ok (.ifCond .eq 5, 3) := by decide +kernel
theorem dX6_place_28 : decode cX6_place 28 = .ok (.iconst 0, 1) := by decide +kernel
theorem dX6_place_29 : decode cX6_place 29 = .ok (.ireturn, 1) := by decide +kernel
theorem dX6_place_30 : decode cX6_place 30 = .ok (.aload_n 0, 1) := by decide +kernel
theorem dX6_place_31 : decode cX6_place 31 = .ok (.invokevirtual 147, 3) := by decide +kernel
theorem dX6_place_34 : decode cX6_place 34 = .ok (.aload_n 0, 1) := by decide +kernel
theorem dX6_place_35 : decode cX6_place 35 = .ok (.iload_n 1, 1) := by decide +kernel
theorem dX6_place_36 : decode cX6_place 36 = .ok (.iload_n 2, 1) := by decide +kernel
theorem dX6_place_37 : decode cX6_place 37 = .ok (.invokevirtual 149, 3) := by decide +kernel
theorem dX6_place_40 : decode cX6_place 40 = .ok (.ireturn, 1) := by decide +kernel
theorem dX6_track_0 : decode cX6_track 0 = .ok (.aload_n 0, 1) := by decide +kernel
theorem dX6_track_1 : decode cX6_track 1 = .ok (.aload_n 0, 1) := by decide +kernel
theorem dX6_track_2 : decode cX6_track 2 = .ok (.iload_n 1, 1) := by decide +kernel
theorem dX6_track_3 : decode cX6_track 3 = .ok (.invokevirtual 107, 3) := by decide +kernel
theorem dX6_track_6 : decode cX6_track 6 = .ok (.ifCond .eq 11, 3) := by decide +kernel
theorem dX6_track_9 : decode cX6_track 9 = .ok (.aload_n 0, 1) := by decide +kernel
theorem dX6_track_10 : decode cX6_track 10 = .ok (.iload_n 2, 1) := by decide +kernel
theorem dX6_track_11 : decode cX6_track 11 = .ok (.invokevirtual 144, 3) := by decide +kernel
theorem dX6_track_14 : decode cX6_track 14 = .ok (.goto 4, 3) := by decide +kernel
theorem dX6_track_17 : decode cX6_track 17 = .ok (.iconst 1, 1) := by decide +kernel
theorem dX6_track_18 : decode cX6_track 18 = .ok (.putfield 59, 3) := by decide +kernel
theorem dX6_track_21 : decode cX6_track 21 = .ok (.aload_n 0, 1) := by decide +kernel
theorem dX6_track_22 : decode cX6_track 22 = .ok (.getfield 59, 3) := by decide +kernel
theorem dX6_track_25 : decode cX6_track 25 = .ok (.ifCond .eq 5, 3) := by decide +kernel
theorem dX6_track_28 : decode cX6_track 28 = .ok (.iconst 0, 1) := by decide +kernel
theorem dX6_track_29 : decode cX6_track 29 = .ok (.ireturn, 1) := by decide +kernel
theorem dX6_track_30 : decode cX6_track 30 = .ok (.aload_n 0, 1) := by decide +kernel
theorem dX6_track_31 : decode cX6_track 31 = .ok (.invokevirtual 147, 3) := by decide +kernel
theorem dX6_track_34 : decode cX6_track 34 = .ok (.aload_n 0, 1) := by decide +kernel
theorem dX6_track_35 : decode cX6_track 35 = .ok (.iload_n 1, 1) := by decide +kernel
theorem dX6_track_36 : decode cX6_track 36 = .ok (.iload_n 2, 1) := by decide +kernel
theorem dX6_track_37 : decode cX6_track 37 = .ok (.invokevirtual 152, 3) := by decide +kernel
theorem dX6_track_40 : decode cX6_track 40 = .ok (.ireturn, 1) := by decide +kernel
theorem dX6_onStage_0 : decode cX6_onStage 0 = .ok (.aload_n 0, 1) := by decide +kernel
theorem dX6_onStage_1 : decode cX6_onStage 1 = .ok (.iconst 0, 1) := by decide +kernel
theorem dX6_onStage_2 : decode cX6_onStage 2 = .ok (.putfield 59, 3) := by decide +kernel
theorem dX6_onStage_5 : decode cX6_onStage 5 = .ok (.iload_n 1, 1) := by decide +kernel
theorem dX6_onStage_6 : decode cX6_onStage 6 = .ok (.invokestatic 110, 3) := by decide +kernel
theorem dX6_onStage_9 : decode cX6_onStage 9 = .ok (.ifCond .ne 9, 3) := by decide +kernel
theorem dX6_onStage_12 : decode cX6_onStage 12 = .ok (.aload_n 0, 1) := by decide +kernel
theorem dX6_onStage_13 : decode cX6_onStage 13 = .ok (.iconst 1, 1) := by decide +kernel
theorem dX6_onStage_14 : decode cX6_onStage 14 = .ok (.invokevirtual 73, 3) := by decide +kernel
theorem dX6_onStage_17 : decode cX6_onStage 17 = .ok (.ireturn, 1) := by decide +kernel
theorem dX6_onStage_18 : decode cX6_onStage 18 = .ok (.aload_n 0, 1) := by decide +kernel
theorem dX6_onStage_19 : decode cX6_onStage 19 = .ok (.invokevirtual 147, 3) := by decide +kernel
theorem dX6_onStage_22 : decode cX6_onStage 22 = .ok (.iconst 0, 1) := by decide +kernel
theorem dX6_onStage_23 : decode cX6_onStage 23 = .ok (.istore_n 2, 1) := by decide +kernel
theorem dX6_onStage_24 : decode cX6_onStage 24 = .ok (.iconst 0, 1) := by decide +kernel
theorem dX6_onStage_25 : decode cX6_onStage 25 = .ok (.istore_n 3, 1) := by decide +kernel
theorem dX6_onStage_26 : decode cX6_onStage 26 = .ok (.iload_n 3, 1) := by decide +kernel
theorem dX6_onStage_27 : decode cX6_onStage 27 = .ok (.aload_n 0, 1) := by decide +kernel
theorem dX6_onStage_28 : decode cX6_onStage 28 = .ok (.getfield 63, 3) := by decide +kernel
theorem dX6_onStage_31 : decode cX6_onStage 31 = .ok (.if_icmp .ge 25, 3) := by decide +kernel
theorem dX6_onStage_34 : decode cX6_onStage 34 = .ok (.aload_n 0, 1) := by decide +kernel
theorem dX6_onStage_35 : decode cX6_onStage 35 = .ok (.iload_n 3, 1) := by decide +kernel
theorem dX6_onStage_36 : decode cX6_onStage 36 = .ok (.iload_n 1, 1) := by decide +kernel
theorem dX6_onStage_37 : decode cX6_onStage 37 = .ok (.invokevirtual 149, 3) := by decide +kernel
theorem dX6_onStage_40 : decode cX6_onStage 40 = .ok (.iconst (-1), 1) := by decide +kernel
theorem dX6_onStage_41 : decode cX6_onStage 41 = .ok (.if_icmp .eq 9, 3) := by decide +kernel
theorem dX6_onStage_44 : decode cX6_onStage 44 = .ok (.iload_n 2, 1) := by decide +kernel
theorem dX6_onStage_45 : decode cX6_onStage 45 = .ok (.iconst 1, 1) := by decide +kernel
theorem dX6_onStage_46 : decode cX6_onStage 46 = .ok (.iload_n 3, 1) := by decide +kernel
theorem dX6_onStage_47 : decode cX6_onStage 47 = .ok (.ishl, 1) := by decide +kernel
theorem dX6_onStage_48 : decode cX6_onStage 48 = .ok (.ior, 1) := by decide +kernel
theorem dX6_onStage_49 : decode cX6_onStage 49 = .ok (.istore_n 2, 1) := by decide +kernel
theorem dX6_onStage_50 : decode cX6_onStage 50 = .ok (.iinc 3 1, 3) := by decide +kernel
theorem dX6_onStage_53 : decode cX6_onStage 53 = .ok (.goto (-27), 3) := by decide +kernel
theorem dX6_onStage_56 : decode cX6_onStage 56 = .ok (.iload_n 2, 1) := by decide +kernel
theorem dX6_onStage_57 : decode cX6_onStage 57 = .ok (.ireturn, 1) := by decide +kernel
theorem dX6_areOnOneTrack_0 : decode cX6_areOnOneTrack 0 = .ok (.aload_n 0, 1) := by decide +kernel
theorem dX6_areOnOneTrack_1 : decode cX6_areOnOneTrack 1 = .ok (.iload_n 1, 1) := by decide +kernel
theorem dX6_areOnOneTrack_2 : decode cX6_areOnOneTrack 2 = .ok (.iload_n 3, 1) := by decide +kernel
theorem dX6_areOnOneTrack_3 : decode cX6_areOnOneTrack 3 = .ok (.invokevirtual 149, 3) := by decide +kernel
theorem dX6_areOnOneTrack_6 : decode cX6_areOnOneTrack 6 = .ok (.iconst (-1), 1) := by decide +kernel
theorem dX6_areOnOneTrack_7 : decode cX6_areOnOneTrack 7 = .ok (.if_icmp .eq 32, 3) := by decide +kernel
theorem dX6_areOnOneTrack_10 : decode cX6_areOnOneTrack 10 = .ok (.aload_n 0, 1) := by decide +kernel
theorem dX6_areOnOneTrack_11 : decode cX6_areOnOneTrack 11 = .ok (.iload_n 2, 1) := by decide +kernel
theorem dX6_areOnOneTrack_12 : decode cX6_areOnOneTrack 12 = .ok (.iload_n 3, 1) := by decide +kernel
theorem dX6_areOnOneTrack_13 : decode cX6_areOnOneTrack 13 = .ok (.invokevirtual 149, 3) := by decide +kernel
theorem dX6_areOnOneTrack_16 : decode cX6_areOnOneTrack 16 = .ok (.iconst (-1), 1) := by decide +kernel
theorem dX6_areOnOneTrack_17 : decode cX6_areOnOneTrack 17 = .ok (.if_icmp .eq 22, 3) := by decide +kernel
theorem dX6_areOnOneTrack_20 : decode cX6_areOnOneTrack 20 = .ok (.aload_n 0, 1) := by decide +kernel
theorem dX6_areOnOneTrack_21 : decode cX6_areOnOneTrack 21 = .ok (.iload_n 1, 1) := by decide +kernel
theorem dX6_areOnOneTrack_22 : decode cX6_areOnOneTrack 22 = .ok (.iload_n 3, 1) := by decide +kernel
theorem dX6_areOnOneTrack_23 : decode cX6_areOnOneTrack 23 = .ok (.invokevirtual 152, 3) := by decide +kernel
theorem dX6_areOnOneTrack_26 : decode cX6_areOnOneTrack 26 = .ok (.aload_n 0, 1) := by decide +kernel
theorem dX6_areOnOneTrack_27 : decode cX6_areOnOneTrack 27 = .ok (.iload_n 2, 1) := by decide +kernel
theorem dX6_areOnOneTrack_28 : decode cX6_areOnOneTrack 28 = .ok (.iload_n 3, 1) := by decide +kernel
theorem dX6_areOnOneTrack_29 : decode cX6_areOnOneTrack 29 = .ok (.invokevirtual 152, 3) := by decide +kernel
theorem dX6_areOnOneTrack_32 : decode cX6_areOnOneTrack 32 = .ok (.if_icmp .ne 7, 3) := by decide +kernel
theorem dX6_areOnOneTrack_35 : decode cX6_areOnOneTrack 35 = .ok (.iconst 1, 1) := by decide +kernel
theorem dX6_areOnOneTrack_36 : decode cX6_areOnOneTrack 36 = .ok (.goto 4, 3) := by decide +kernel
theorem dX6_areOnOneTrack_39 : decode cX6_areOnOneTrack 39 = .ok (.iconst 0, 1) := by decide +kernel
theorem dX6_areOnOneTrack_40 : decode cX6_areOnOneTrack 40 = .ok (.ireturn, 1) := by decide +kernel
theorem dX6_firstClash_0 : decode cX6_firstClash 0 = .ok (.iconst 0, 1) := by decide +kernel
theorem dX6_firstClash_1 : decode cX6_firstClash 1 = .ok (.istore_n 3, 1) := by decide +kernel
theorem dX6_firstClash_2 : decode cX6_firstClash 2 = .ok (.iload_n 3, 1) := by decide +kernel
theorem dX6_firstClash_3 : decode cX6_firstClash 3 = .ok (.sipush 1000, 3) := by decide +kernel
theorem dX6_firstClash_6 : decode cX6_firstClash 6 = .ok (.if_icmp .ge 96, 3) := by decide +kernel
theorem dX6_firstClash_9 : decode cX6_firstClash 9 = .ok (.aload_n 0, 1) := by decide +kernel
theorem dX6_firstClash_10 : decode cX6_firstClash 10 = .ok (.iload_n 1, 1) := by decide +kernel
theorem dX6_firstClash_11 : decode cX6_firstClash 11 = .ok (.iload_n 2, 1) := by decide +kernel
theorem dX6_firstClash_12 : decode cX6_firstClash 12 = .ok (.iload_n 3, 1) := by decide +kernel
theorem dX6_firstClash_13 : decode cX6_firstClash 13 = .ok (.invokevirtual 155, 3) := by decide +kernel
theorem dX6_firstClash_16 : decode cX6_firstClash 16 = .ok (.ifCond .ne 6, 3) := by decide +kernel
theorem dX6_firstClash_19 : decode cX6_firstClash 19 = .ok (.goto 77, 3) := by decide +kernel
theorem dX6_firstClash_22 : decode cX6_firstClash 22 = .ok (.aload_n 0, 1) := by decide +kernel
theorem dX6_firstClash_23 : decode cX6_firstClash 23 = .ok (.iload_n 1, 1) := by decide +kernel
theorem dX6_firstClash_24 : decode cX6_firstClash 24 = .ok (.iload_n 3, 1) := by decide +kernel
theorem dX6_firstClash_25 : decode cX6_firstClash 25 = .ok (.invokevirtual 149, 3) := by decide +kernel
theorem dX6_firstClash_28 : decode cX6_firstClash 28 = .ok (.aload_n 0, 1) := by decide +kernel
theorem dX6_firstClash_29 : decode cX6_firstClash 29 = .ok (.iload_n 2, 1) := by decide +kernel
theorem dX6_firstClash_30 : decode cX6_firstClash 30 = .ok (.iload_n 3, 1) := by decide +kernel
theorem dX6_firstClash_31 : decode cX6_firstClash 31 = .ok (.invokevirtual 149, 3) := by decide +kernel
theorem dX6_firstClash_34 : decode cX6_firstClash 34 = .ok (.if_icmp .ne 5, 3) := by decide +kernel
theorem dX6_firstClash_37 : decode cX6_firstClash 37 = .ok (.iload_n 3, 1) := by decide +kernel
theorem dX6_firstClash_38 : decode cX6_firstClash 38 = .ok (.ireturn, 1) := by decide +kernel
theorem dX6_firstClash_39 : decode cX6_firstClash 39 = .ok (.iload_n 3, 1) := by decide +kernel
theorem dX6_firstClash_40 : decode cX6_firstClash 40 = .ok (.iconst 1, 1) := by decide +kernel
theorem dX6_firstClash_41 : decode cX6_firstClash 41 = .ok (.iadd, 1) := by decide +kernel
theorem dX6_firstClash_42 : decode cX6_firstClash 42 = .ok (.sipush 1000, 3) := by decide +kernel
theorem dX6_firstClash_45 : decode cX6_firstClash 45 = .ok (.if_icmp .ge 51, 3) := by decide +kernel
theorem dX6_firstClash_48 : decode cX6_firstClash 48 = .ok (.aload_n 0, 1) := by decide +kernel
theorem dX6_firstClash_49 : decode cX6_firstClash 49 = .ok (.iload_n 1, 1) := by decide +kernel
theorem dX6_firstClash_50 : decode cX6_firstClash 50 = .ok (.iload_n 2, 1) := by decide +kernel
theorem dX6_firstClash_51 : decode cX6_firstClash 51 = .ok (.iload_n 3, 1) := by decide +kernel
theorem dX6_firstClash_52 : decode cX6_firstClash 52 = .ok (.iconst 1, 1) := by decide +kernel
theorem dX6_firstClash_53 : decode cX6_firstClash 53 = .ok (.iadd, 1) := by decide +kernel
theorem dX6_firstClash_54 : decode cX6_firstClash 54 = .ok (.invokevirtual 155, 3) := by decide +kernel
theorem dX6_firstClash_57 : decode cX6_firstClash 57 = .ok (.ifCond .eq 39, 3) := by decide +kernel
theorem dX6_firstClash_60 : decode cX6_firstClash 60 = .ok (.aload_n 0, 1) := by decide +kernel
theorem dX6_firstClash_61 : decode cX6_firstClash 61 = .ok (.iload_n 1, 1) := by decide +kernel
theorem dX6_firstClash_62 : decode cX6_firstClash 62 = .ok (.iload_n 3, 1) := by decide +kernel
theorem dX6_firstClash_63 : decode cX6_firstClash 63 = .ok (.invokevirtual 149, 3) := by decide +kernel
theorem dX6_firstClash_66 : decode cX6_firstClash 66 = .ok (.aload_n 0, 1) := by decide +kernel
theorem dX6_firstClash_67 : decode cX6_firstClash 67 = .ok (.iload_n 2, 1) := by decide +kernel
theorem dX6_firstClash_68 : decode cX6_firstClash 68 = .ok (.iload_n 3, 1) := by decide +kernel
theorem dX6_firstClash_69 : decode cX6_firstClash 69 = .ok (.iconst 1, 1) := by decide +kernel
theorem dX6_firstClash_70 : decode cX6_firstClash 70 = .ok (.iadd, 1) := by decide +kernel
theorem dX6_firstClash_71 : decode cX6_firstClash 71 = .ok (.invokevirtual 149, 3) := by decide +kernel
theorem dX6_firstClash_74 : decode cX6_firstClash 74 = .ok (.if_icmp .ne 22, 3) := by decide +kernel
theorem dX6_firstClash_77 : decode cX6_firstClash 77 = .ok (.aload_n 0, 1) := by decide +kernel
theorem dX6_firstClash_78 : decode cX6_firstClash 78 = .ok (.iload_n 2, 1) := by decide +kernel
theorem dX6_firstClash_79 : decode cX6_firstClash 79 = .ok (.iload_n 3, 1) := by decide +kernel
theorem dX6_firstClash_80 : decode cX6_firstClash 80 = .ok (.invokevirtual 149, 3) := by decide +kernel
theorem dX6_firstClash_83 : decode cX6_firstClash 83 = .ok (.aload_n 0, 1) := by decide +kernel
theorem dX6_firstClash_84 : decode cX6_firstClash 84 = .ok (.iload_n 1, 1) := by decide +kernel
theorem dX6_firstClash_85 : decode cX6_firstClash 85 = .ok (.iload_n 3, 1) := by decide +kernel
theorem dX6_firstClash_86 : decode cX6_firstClash 86 = .ok (.iconst 1, 1) := by decide +kernel
theorem dX6_firstClash_87 : decode cX6_firstClash 87 = .ok (.iadd, 1) := by decide +kernel
theorem dX6_firstClash_88 : decode cX6_firstClash 88 = .ok (.invokevirtual 149, 3) := by decide +kernel
theorem dX6_firstClash_91 : decode cX6_firstClash 91 = .ok (.if_icmp .ne 5, 3) := by decide +kernel
theorem dX6_firstClash_94 : decode cX6_firstClash 94 = .ok (.iload_n 3, 1) := by decide +kernel
theorem dX6_firstClash_95 : decode cX6_firstClash 95 = .ok (.ireturn, 1) := by decide +kernel
theorem dX6_firstClash_96 : decode cX6_firstClash 96 = .ok (.iinc 3 1, 3) := by decide +kernel
theorem dX6_firstClash_99 : decode cX6_firstClash 99 = .ok (.goto (-97), 3) := by decide +kernel
theorem dX6_firstClash_102 : decode cX6_firstClash 102 = .ok (.iconst (-1), 1) := by decide +kernel
theorem dX6_firstClash_103 : decode cX6_firstClash 103 = .ok (.ireturn, 1) := by decide +kernel
theorem dX6_clash_0 : decode cX6_clash 0 = .ok (.aload_n 0, 1) := by decide +kernel
theorem dX6_clash_1 : decode cX6_clash 1 = .ok (.aload_n 0, 1) := by decide +kernel
theorem dX6_clash_2 : decode cX6_clash 2 = .ok (.iload_n 1, 1) := by decide +kernel
theorem dX6_clash_3 : decode cX6_clash 3 = .ok (.invokevirtual 107, 3) := by decide +kernel
theorem dX6_clash_6 : decode cX6_clash 6 = .ok (.ifCond .eq 11, 3) := by decide +kernel
theorem dX6_clash_9 : decode cX6_clash 9 = .ok (.aload_n 0, 1) := by decide +kernel
theorem dX6_clash_10 : decode cX6_clash 10 = .ok (.iload_n 2, 1) := by decide +kernel
theorem dX6_clash_11 : decode cX6_clash 11 = .ok (.invokevirtual 107, 3) := by decide +kernel
theorem dX6_clash_14 : decode cX6_clash 14 = .ok (.ifCond .ne 7, 3) := by decide +kernel
theorem dX6_clash_17 : decode cX6_clash 17 = .ok (.iconst 1, 1) := by decide +kernel
theorem dX6_clash_18 : decode cX6_clash 18 = .ok (.goto 13, 3) := by decide +kernel
theorem dX6_clash_21 : decode cX6_clash 21 = .ok (.iload_n 1, 1) := by decide +kernel
theorem dX6_clash_22 : decode cX6_clash 22 = .ok (.iload_n 2, 1) := by decide +kernel
theorem dX6_clash_23 : decode cX6_clash 23 = .ok (.if_icmp .ne 7, 3) := by decide +kernel
theorem dX6_clash_26 : decode cX6_clash 26 = .ok (.iconst 2, 1) := by decide +kernel
theorem dX6_clash_27 : decode cX6_clash 27 = .ok (.goto 4, 3) := by decide +kernel
theorem dX6_clash_30 : decode cX6_clash 30 = .ok (.iconst 0, 1) := by decide +kernel
theorem dX6_clash_31 : decode cX6_clash 31 = .ok (.putfield 59, 3) := by decide +kernel
theorem dX6_clash_34 : decode cX6_clash 34 = .ok (.aload_n 0, 1) := by decide +kernel
theorem dX6_clash_35 : decode cX6_clash 35 = .ok (.getfield 59, 3) := by decide +kernel
theorem dX6_clash_38 : decode cX6_clash 38 = .ok (.ifCond .eq 5, 3) := by decide +kernel
theorem dX6_clash_41 : decode cX6_clash 41 = .ok (.iconst 0, 1) := by decide +kernel
theorem dX6_clash_42 : decode cX6_clash 42 = .ok (.ireturn, 1) := by decide +kernel
theorem dX6_clash_43 : decode cX6_clash 43 = .ok (.aload_n 0, 1) := by decide +kernel
theorem dX6_clash_44 : decode cX6_clash 44 = .ok (.invokevirtual 147, 3) := by decide +kernel
theorem dX6_clash_47 : decode cX6_clash 47 = .ok (.aload_n 0, 1) := by decide +kernel
theorem dX6_clash_48 : decode cX6_clash 48 = .ok (.iload_n 1, 1) := by decide +kernel
theorem dX6_clash_49 : decode cX6_clash 49 = .ok (.iload_n 2, 1) := by decide +kernel
theorem dX6_clash_50 : decode cX6_clash 50 = .ok (.invokevirtual 158, 3) := by decide +kernel
theorem dX6_clash_53 : decode cX6_clash 53 = .ok (.ireturn, 1) := by decide +kernel
theorem dX6_allClashes_0 : decode cX6_allClashes 0 = .ok (.iconst 0, 1) := by decide +kernel
theorem dX6_allClashes_1 : decode cX6_allClashes 1 = .ok (.istore_n 1, 1) := by decide +kernel
theorem dX6_allClashes_2 : decode cX6_allClashes 2 = .ok (.iconst 0, 1) := by decide +kernel
theorem dX6_allClashes_3 : decode cX6_allClashes 3 = .ok (.istore_n 2, 1) := by decide +kernel
theorem dX6_allClashes_4 : decode cX6_allClashes 4 = .ok (.iload_n 2, 1) := by decide +kernel
theorem dX6_allClashes_5 : decode cX6_allClashes 5 = .ok (.aload_n 0, 1) := by decide +kernel
theorem dX6_allClashes_6 : decode cX6_allClashes 6 = .ok (.getfield 63, 3) := by decide +kernel
theorem dX6_allClashes_9 : decode cX6_allClashes 9 = .ok (.if_icmp .ge 40, 3) := by decide +kernel
theorem dX6_allClashes_12 : decode cX6_allClashes 12 = .ok (.iconst 0, 1) := by decide +kernel
theorem dX6_allClashes_13 : decode cX6_allClashes 13 = .ok (.istore_n 3, 1) := by decide +kernel
theorem dX6_allClashes_14 : decode cX6_allClashes 14 = .ok (.iload_n 3, 1) := by decide +kernel
theorem dX6_allClashes_15 : decode cX6_allClashes 15 = .ok (.iload_n 2, 1) := by decide +kernel
theorem dX6_allClashes_16 : decode cX6_allClashes 16 = .ok (.if_icmp .ge 27, 3) := by decide +kernel
theorem dX6_allClashes_19 : decode cX6_allClashes 19 = .ok (.iload_n 1, 1) := by decide +kernel
theorem dX6_allClashes_20 : decode cX6_allClashes 20 = .ok (.aload_n 0, 1) := by decide +kernel
theorem dX6_allClashes_21 : decode cX6_allClashes 21 = .ok (.iload_n 2, 1) := by decide +kernel
theorem dX6_allClashes_22 : decode cX6_allClashes 22 = .ok (.iload_n 3, 1) := by decide +kernel
theorem dX6_allClashes_23 : decode cX6_allClashes 23 = .ok (.invokevirtual 158, 3) := by decide +kernel
theorem dX6_allClashes_26 : decode cX6_allClashes 26 = .ok (.iconst (-1), 1) := by decide +kernel
theorem dX6_allClashes_27 : decode cX6_allClashes 27 = .ok (.if_icmp .ne 7, 3) := by decide +kernel
theorem dX6_allClashes_30 : decode cX6_allClashes 30 = .ok (.iconst 0, 1) := by decide +kernel
theorem dX6_allClashes_31 : decode cX6_allClashes 31 = .ok (.goto 4, 3) := by decide +kernel
theorem dX6_allClashes_34 : decode cX6_allClashes 34 = .ok (.iconst 1, 1) := by decide +kernel
theorem dX6_allClashes_35 : decode cX6_allClashes 35 = .ok (.iadd, 1) := by decide +kernel
theorem dX6_allClashes_36 : decode cX6_allClashes 36 = .ok (.istore_n 1, 1) := by decide +kernel
theorem dX6_allClashes_37 : decode cX6_allClashes 37 = .ok (.iinc 3 1, 3) := by decide +kernel
theorem dX6_allClashes_40 : decode cX6_allClashes 40 = .ok (.goto (-26), 3) := by decide +kernel
theorem dX6_allClashes_43 : decode cX6_allClashes 43 = .ok (.iinc 2 1, 3) := by decide +kernel
theorem dX6_allClashes_46 : decode cX6_allClashes 46 = .ok (.goto (-42), 3) := by decide +kernel
theorem dX6_allClashes_49 : decode cX6_allClashes 49 = .ok (.iload_n 1, 1) := by decide +kernel
theorem dX6_allClashes_50 : decode cX6_allClashes 50 = .ok (.ireturn, 1) := by decide +kernel
theorem dX6_clashes_0 : decode cX6_clashes 0 = .ok (.aload_n 0, 1) := by decide +kernel
theorem dX6_clashes_1 : decode cX6_clashes 1 = .ok (.iconst 0, 1) := by decide +kernel
theorem dX6_clashes_2 : decode cX6_clashes 2 = .ok (.putfield 59, 3) := by decide +kernel
theorem dX6_clashes_5 : decode cX6_clashes 5 = .ok (.aload_n 0, 1) := by decide +kernel
theorem dX6_clashes_6 : decode cX6_clashes 6 = .ok (.invokevirtual 147, 3) := by decide +kernel
theorem dX6_clashes_9 : decode cX6_clashes 9 = .ok (.aload_n 0, 1) := by decide +kernel
theorem dX6_clashes_10 : decode cX6_clashes 10 = .ok (.invokevirtual 161, 3) := by decide +kernel
theorem dX6_clashes_13 : decode cX6_clashes 13 = .ok (.ireturn, 1) := by decide +kernel
theorem dX6_beats_0 : decode cX6_beats 0 = .ok (.aload_n 0, 1) := by decide +kernel
theorem dX6_beats_1 : decode cX6_beats 1 = .ok (.iconst 0, 1) := by decide +kernel
theorem dX6_beats_2 : decode cX6_beats 2 = .ok (.putfield 59, 3) := by decide +kernel
theorem dX6_beats_5 : decode cX6_beats 5 = .ok (.aload_n 0, 1) := by decide +kernel
theorem dX6_beats_6 : decode cX6_beats 6 = .ok (.iload_n 1, 1) := by decide +kernel
theorem dX6_beats_7 : decode cX6_beats 7 = .ok (.invokevirtual 107, 3) := by decide +kernel
theorem dX6_beats_10 : decode cX6_beats 10 = .ok (.ifCond .ne 9, 3) := by decide +kernel
theorem dX6_beats_13 : decode cX6_beats 13 = .ok (.aload_n 0, 1) := by decide +kernel
theorem dX6_beats_14 : decode cX6_beats 14 = .ok (.iconst 1, 1) := by decide +kernel
theorem dX6_beats_15 : decode cX6_beats 15 = .ok (.invokevirtual 73, 3) := by decide +kernel
theorem dX6_beats_18 : decode cX6_beats 18 = .ok (.ireturn, 1) := by decide +kernel
theorem dX6_beats_19 : decode cX6_beats 19 = .ok (.aload_n 0, 1) := by decide +kernel
theorem dX6_beats_20 : decode cX6_beats 20 = .ok (.invokevirtual 147, 3) := by decide +kernel
theorem dX6_beats_23 : decode cX6_beats 23 = .ok (.iconst 0, 1) := by decide +kernel
theorem dX6_beats_24 : decode cX6_beats 24 = .ok (.istore_n 2, 1) := by decide +kernel
theorem dX6_beats_25 : decode cX6_beats 25 = .ok (.iconst 0, 1) := by decide +kernel
theorem dX6_beats_26 : decode cX6_beats 26 = .ok (.istore_n 3, 1) := by decide +kernel
theorem dX6_beats_27 : decode cX6_beats 27 = .ok (.iload_n 3, 1) := by decide +kernel
theorem dX6_beats_28 : decode cX6_beats 28 = .ok (.sipush 1000, 3) := by decide +kernel
theorem dX6_beats_31 : decode cX6_beats 31 = .ok (.if_icmp .ge 27, 3) := by decide +kernel
theorem dX6_beats_34 : decode cX6_beats 34 = .ok (.iload_n 2, 1) := by decide +kernel
theorem dX6_beats_35 : decode cX6_beats 35 = .ok (.aload_n 0, 1) := by decide +kernel
theorem dX6_beats_36 : decode cX6_beats 36 = .ok (.iload_n 1, 1) := by decide +kernel
theorem dX6_beats_37 : decode cX6_beats 37 = .ok (.iload_n 3, 1) := by decide +kernel
theorem dX6_beats_38 : decode cX6_beats 38 = .ok (.invokevirtual 149, 3) := by decide +kernel
theorem dX6_beats_41 : decode cX6_beats 41 = .ok (.iconst (-1), 1) := by decide +kernel
theorem dX6_beats_42 : decode cX6_beats 42 = .ok (.if_icmp .ne 7, 3) := by decide +kernel
theorem dX6_beats_45 : decode cX6_beats 45 = .ok (.iconst 0, 1) := by decide +kernel
theorem dX6_beats_46 : decode cX6_beats 46 = .ok (.goto 4, 3) := by decide +kernel
theorem dX6_beats_49 : decode cX6_beats 49 = .ok (.iconst 1, 1) := by decide +kernel
theorem dX6_beats_50 : decode cX6_beats 50 = .ok (.iadd, 1) := by decide +kernel
theorem dX6_beats_51 : decode cX6_beats 51 = .ok (.istore_n 2, 1) := by decide +kernel
theorem dX6_beats_52 : decode cX6_beats 52 = .ok (.iinc 3 1, 3) := by decide +kernel
theorem dX6_beats_55 : decode cX6_beats 55 = .ok (.goto (-28), 3) := by decide +kernel
theorem dX6_beats_58 : decode cX6_beats 58 = .ok (.iload_n 2, 1) := by decide +kernel
theorem dX6_beats_59 : decode cX6_beats 59 = .ok (.ireturn, 1) := by decide +kernel
theorem dX6_stays_0 : decode cX6_stays 0 = .ok (.aload_n 0, 1) := by decide +kernel
theorem dX6_stays_1 : decode cX6_stays 1 = .ok (.iconst 0, 1) := by decide +kernel
theorem dX6_stays_2 : decode cX6_stays 2 = .ok (.putfield 59, 3) := by decide +kernel
theorem dX6_stays_5 : decode cX6_stays 5 = .ok (.aload_n 0, 1) := by decide +kernel
theorem dX6_stays_6 : decode cX6_stays 6 = .ok (.iload_n 1, 1) := by decide +kernel
theorem dX6_stays_7 : decode cX6_stays 7 = .ok (.invokevirtual 107, 3) := by decide +kernel
theorem dX6_stays_10 : decode cX6_stays 10 = .ok (.ifCond .ne 9, 3) := by decide +kernel
theorem dX6_stays_13 : decode cX6_stays 13 = .ok (.aload_n 0, 1) := by decide +kernel
theorem dX6_stays_14 : decode cX6_stays 14 = .ok (.iconst 1, 1) := by decide +kernel
theorem dX6_stays_15 : decode cX6_stays 15 = .ok (.invokevirtual 73, 3) := by decide +kernel
theorem dX6_stays_18 : decode cX6_stays 18 = .ok (.ireturn, 1) := by decide +kernel
theorem dX6_stays_19 : decode cX6_stays 19 = .ok (.aload_n 0, 1) := by decide +kernel
theorem dX6_stays_20 : decode cX6_stays 20 = .ok (.invokevirtual 147, 3) := by decide +kernel
theorem dX6_stays_23 : decode cX6_stays 23 = .ok (.aload_n 0, 1) := by decide +kernel
theorem dX6_stays_24 : decode cX6_stays 24 = .ok (.getfield 47, 3) := by decide +kernel
theorem dX6_stays_27 : decode cX6_stays 27 = .ok (.iload_n 1, 1) := by decide +kernel
theorem dX6_stays_28 : decode cX6_stays 28 = .ok (.iaload, 1) := by decide +kernel
theorem dX6_stays_29 : decode cX6_stays 29 = .ok (.ireturn, 1) := by decide +kernel
theorem dX6_stayTold_0 : decode cX6_stayTold 0 = .ok (.bipush 40, 2) := by decide +kernel
theorem dX6_stayTold_2 : decode cX6_stayTold 2 = .ok (.iload_n 1, 1) := by decide +kernel
theorem dX6_stayTold_3 : decode cX6_stayTold 3 = .ok (.imul, 1) := by decide +kernel
theorem dX6_stayTold_4 : decode cX6_stayTold 4 = .ok (.iload_n 2, 1) := by decide +kernel
theorem dX6_stayTold_5 : decode cX6_stayTold 5 = .ok (.iadd, 1) := by decide +kernel
theorem dX6_stayTold_6 : decode cX6_stayTold 6 = .ok (.istore 4, 2) := by decide +kernel
theorem dX6_stayTold_8 : decode cX6_stayTold 8 = .ok (.iload_n 3, 1) := by decide +kernel
theorem dX6_stayTold_9 : decode cX6_stayTold 9 = .ok (.ifCond .ne 13, 3) := by decide +kernel
theorem dX6_stayTold_12 : decode cX6_stayTold 12 = .ok (.aload_n 0, 1) := by decide +kernel
theorem dX6_stayTold_13 : decode cX6_stayTold 13 = .ok (.getfield 50, 3) := by decide +kernel
theorem dX6_stayTold_16 : decode cX6_stayTold 16 = .ok (.iload 4, 2) := by decide +kernel
theorem dX6_stayTold_18 : decode cX6_stayTold 18 = .ok (.iaload, 1) := by decide +kernel
theorem dX6_stayTold_19 : decode cX6_stayTold 19 = .ok (.goto 25, 3) := by decide +kernel
theorem dX6_stayTold_22 : decode cX6_stayTold 22 = .ok (.iload_n 3, 1) := by decide +kernel
theorem dX6_stayTold_23 : decode cX6_stayTold 23 = .ok (.iconst 1, 1) := by decide +kernel
theorem dX6_stayTold_24 : decode cX6_stayTold 24 = .ok (.if_icmp .ne 13, 3) := by decide +kernel
theorem dX6_stayTold_27 : decode cX6_stayTold 27 = .ok (.aload_n 0, 1) := by decide +kernel
theorem dX6_stayTold_28 : decode cX6_stayTold 28 = .ok (.getfield 53, 3) := by decide +kernel
theorem dX6_stayTold_31 : decode cX6_stayTold 31 = .ok (.iload 4, 2) := by decide +kernel
theorem dX6_stayTold_33 : decode cX6_stayTold 33 = .ok (.iaload, 1) := by decide +kernel
theorem dX6_stayTold_34 : decode cX6_stayTold 34 = .ok (.goto 10, 3) := by decide +kernel
theorem dX6_stayTold_37 : decode cX6_stayTold 37 = .ok (.aload_n 0, 1) := by decide +kernel
theorem dX6_stayTold_38 : decode cX6_stayTold 38 = .ok (.getfield 56, 3) := by decide +kernel
theorem dX6_stayTold_41 : decode cX6_stayTold 41 = .ok (.iload 4, 2) := by decide +kernel
theorem dX6_stayTold_43 : decode cX6_stayTold 43 = .ok (.iaload, 1) := by decide +kernel
theorem dX6_stayTold_44 : decode cX6_stayTold 44 = .ok (.ireturn, 1) := by decide +kernel
theorem dX6_stay_0 : decode cX6_stay 0 = .ok (.aload_n 0, 1) := by decide +kernel
theorem dX6_stay_1 : decode cX6_stay 1 = .ok (.iconst 0, 1) := by decide +kernel
theorem dX6_stay_2 : decode cX6_stay 2 = .ok (.putfield 59, 3) := by decide +kernel
theorem dX6_stay_5 : decode cX6_stay 5 = .ok (.aload_n 0, 1) := by decide +kernel
theorem dX6_stay_6 : decode cX6_stay 6 = .ok (.iload_n 1, 1) := by decide +kernel
theorem dX6_stay_7 : decode cX6_stay 7 = .ok (.invokevirtual 107, 3) := by decide +kernel
theorem dX6_stay_10 : decode cX6_stay 10 = .ok (.ifCond .ne 9, 3) := by decide +kernel
theorem dX6_stay_13 : decode cX6_stay 13 = .ok (.aload_n 0, 1) := by decide +kernel
theorem dX6_stay_14 : decode cX6_stay 14 = .ok (.iconst 1, 1) := by decide +kernel
theorem dX6_stay_15 : decode cX6_stay 15 = .ok (.invokevirtual 73, 3) := by decide +kernel
theorem dX6_stay_18 : decode cX6_stay 18 = .ok (.ireturn, 1) := by decide +kernel
theorem dX6_stay_19 : decode cX6_stay 19 = .ok (.aload_n 0, 1) := by decide +kernel
theorem dX6_stay_20 : decode cX6_stay 20 = .ok (.invokevirtual 147, 3) := by decide +kernel
theorem dX6_stay_23 : decode cX6_stay 23 = .ok (.iload_n 2, 1) := by decide +kernel
theorem dX6_stay_24 : decode cX6_stay 24 = .ok (.iconst 0, 1) := by decide +kernel
theorem dX6_stay_25 : decode cX6_stay 25 = .ok (.aload_n 0, 1) := by decide +kernel
theorem dX6_stay_26 : decode cX6_stay 26 = .ok (.getfield 47, 3) := by decide +kernel
theorem dX6_stay_29 : decode cX6_stay 29 = .ok (.iload_n 1, 1) := by decide +kernel
theorem dX6_stay_30 : decode cX6_stay 30 = .ok (.iaload, 1) := by decide +kernel
theorem dX6_stay_31 : decode cX6_stay 31 = .ok (.iconst 1, 1) := by decide +kernel
theorem dX6_stay_32 : decode cX6_stay 32 = .ok (.isub, 1) := by decide +kernel
theorem dX6_stay_33 : decode cX6_stay 33 = .ok (.invokestatic 66, 3) := by decide +kernel
theorem dX6_stay_36 : decode cX6_stay 36 = .ok (.ifCond .eq 22, 3) := by decide +kernel
theorem dX6_stay_39 : decode cX6_stay 39 = .ok (.iload_n 3, 1) := by decide +kernel
theorem dX6_stay_40 : decode cX6_stay 40 = .ok (.iconst 0, 1) := by decide +kernel
theorem dX6_stay_41 : decode cX6_stay 41 = .ok (.iconst 2, 1) := by decide +kernel
theorem dX6_stay_42 : decode cX6_stay 42 = .ok (.invokestatic 66, 3) := by decide +kernel
theorem dX6_stay_45 : decode cX6_stay 45 = .ok (.ifCond .eq 13, 3) := by decide +kernel
theorem dX6_stay_48 : decode cX6_stay 48 = .ok (.aload_n 0, 1) := by decide +kernel
theorem dX6_stay_49 : decode cX6_stay 49 = .ok (.iload_n 1, 1) := by decide +kernel
theorem dX6_stay_50 : decode cX6_stay 50 = .ok (.iload_n 2, 1) := by decide +kernel
theorem dX6_stay_51 : decode cX6_stay 51 = .ok (.iload_n 3, 1) := by decide +kernel
theorem dX6_stay_52 : decode cX6_stay 52 = .ok (.invokevirtual 165, 3) := by decide +kernel
theorem dX6_stay_55 : decode cX6_stay 55 = .ok (.goto 8, 3) := by decide +kernel
theorem dX6_stay_58 : decode cX6_stay 58 = .ok (.aload_n 0, 1) := by decide +kernel
theorem dX6_stay_59 : decode cX6_stay 59 = .ok (.iconst 1, 1) := by decide +kernel
theorem dX6_stay_60 : decode cX6_stay 60 = .ok (.invokevirtual 73, 3) := by decide +kernel
theorem dX6_stay_63 : decode cX6_stay 63 = .ok (.ireturn, 1) := by decide +kernel
theorem dX6_uncast_0 : decode cX6_uncast 0 = .ok (.aload_n 0, 1) := by decide +kernel
theorem dX6_uncast_1 : decode cX6_uncast 1 = .ok (.iconst 0, 1) := by decide +kernel
theorem dX6_uncast_2 : decode cX6_uncast 2 = .ok (.putfield 59, 3) := by decide +kernel
theorem dX6_uncast_5 : decode cX6_uncast 5 = .ok (.aload_n 0, 1) := by decide +kernel
theorem dX6_uncast_6 : decode cX6_uncast 6 = .ok (.invokevirtual 147, 3) := by decide +kernel
theorem dX6_uncast_9 : decode cX6_uncast 9 = .ok (.iconst 0, 1) := by decide +kernel
theorem dX6_uncast_10 : decode cX6_uncast 10 = .ok (.istore_n 1, 1) := by decide +kernel
theorem dX6_uncast_11 : decode cX6_uncast 11 = .ok (.iconst 0, 1) := by decide +kernel
theorem dX6_uncast_12 : decode cX6_uncast 12 = .ok (.istore_n 2, 1) := by decide +kernel
theorem dX6_uncast_13 : decode cX6_uncast 13 = .ok (.iload_n 2, 1) := by decide +kernel
theorem dX6_uncast_14 : decode cX6_uncast 14 = .ok (.aload_n 0, 1) := by decide +kernel
theorem dX6_uncast_15 : decode cX6_uncast 15 = .ok (.getfield 63, 3) := by decide +kernel
theorem dX6_uncast_18 : decode cX6_uncast 18 = .ok (.if_icmp .ge 50, 3) := by decide +kernel
theorem dX6_uncast_21 : decode cX6_uncast 21 = .ok (.iconst 0, 1) := by decide +kernel
theorem dX6_uncast_22 : decode cX6_uncast 22 = .ok (.istore_n 3, 1) := by decide +kernel
theorem dX6_uncast_23 : decode cX6_uncast 23 = .ok (.iload_n 3, 1) := by decide +kernel
theorem dX6_uncast_24 : decode cX6_uncast 24 = .ok (.aload_n 0, 1) := by decide +kernel
theorem dX6_uncast_25 : decode cX6_uncast 25 = .ok (.getfield 47, 3) := by decide +kernel
theorem dX6_uncast_28 : decode cX6_uncast 28 = .ok (.iload_n 2, 1) := by decide +kernel
theorem dX6_uncast_29 : decode cX6_uncast 29 = .ok (.iaload, 1) := by decide +kernel
theorem dX6_uncast_30 : decode cX6_uncast 30 = .ok (.if_icmp .ge 32, 3) := by decide +kernel
theorem dX6_uncast_33 : decode cX6_uncast 33 = .ok (.iload_n 1, 1) := by decide +kernel
theorem dX6_uncast_34 : decode cX6_uncast 34 = .ok (.aload_n 0, 1) := by decide +kernel
theorem dX6_uncast_35 : decode cX6_uncast 35 = .ok (.getfield 56, 3) := by decide +kernel
theorem dX6_uncast_38 : decode cX6_uncast 38 = .ok (.bipush 40, 2) := by decide +kernel
theorem dX6_uncast_40 : decode cX6_uncast 40 = .ok (.iload_n 2, 1) := by decide +kernel
theorem dX6_uncast_41 : decode cX6_uncast 41 = .ok (.imul, 1) := by decide +kernel
theorem dX6_uncast_42 : decode cX6_uncast 42 = .ok (.iload_n 3, 1) := by decide +kernel
theorem dX6_uncast_43 : decode cX6_uncast 43 = .ok (.iadd, 1) := by decide +kernel
theorem dX6_uncast_44 : decode cX6_uncast 44 = .ok (.iaload, 1) := by decide +kernel
theorem dX6_uncast_45 : decode cX6_uncast 45 = .ok (.iconst (-1), 1) := by decide +kernel
theorem dX6_uncast_46 : decode cX6_uncast 46 = .ok (.if_icmp .ne 7, 3) := by decide +kernel
theorem dX6_uncast_49 : decode cX6_uncast 49 = .ok (.iconst 1, 1) := by decide +kernel
theorem dX6_uncast_50 : decode cX6_uncast 50 = .ok (.goto 4, 3) := by decide +kernel
theorem dX6_uncast_53 : decode cX6_uncast 53 = .ok (.iconst 0, 1) := by decide +kernel
theorem dX6_uncast_54 : decode cX6_uncast 54 = .ok (.iadd, 1) := by decide +kernel
theorem dX6_uncast_55 : decode cX6_uncast 55 = .ok (.istore_n 1, 1) := by decide +kernel
theorem dX6_uncast_56 : decode cX6_uncast 56 = .ok (.iinc 3 1, 3) := by decide +kernel
theorem dX6_uncast_59 : decode cX6_uncast 59 = .ok (.goto (-36), 3) := by decide +kernel
theorem dX6_uncast_62 : decode cX6_uncast 62 = .ok (.iinc 2 1, 3) := by decide +kernel
theorem dX6_uncast_65 : decode cX6_uncast 65 = .ok (.goto (-52), 3) := by decide +kernel
theorem dX6_uncast_68 : decode cX6_uncast 68 = .ok (.iload_n 1, 1) := by decide +kernel
theorem dX6_uncast_69 : decode cX6_uncast 69 = .ok (.ireturn, 1) := by decide +kernel
theorem dX6_handsOf_0 : decode cX6_handsOf 0 = .ok (.iconst 0, 1) := by decide +kernel
theorem dX6_handsOf_1 : decode cX6_handsOf 1 = .ok (.istore_n 3, 1) := by decide +kernel
theorem dX6_handsOf_2 : decode cX6_handsOf 2 = .ok (.iconst 0, 1) := by decide +kernel
theorem dX6_handsOf_3 : decode cX6_handsOf 3 = .ok (.istore 4, 2) := by decide +kernel
theorem dX6_handsOf_5 : decode cX6_handsOf 5 = .ok (.iload 4, 2) := by decide +kernel
theorem dX6_handsOf_7 : decode cX6_handsOf 7 = .ok (.aload_n 0, 1) := by decide +kernel
theorem dX6_handsOf_8 : decode cX6_handsOf 8 = .ok (.getfield 63, 3) := by decide +kernel
theorem dX6_handsOf_11 : decode cX6_handsOf 11 = .ok (.if_icmp .ge 27, 3) := by decide +kernel
theorem dX6_handsOf_14 : decode cX6_handsOf 14 = .ok (.aload_n 0, 1) := by decide +kernel
theorem dX6_handsOf_15 : decode cX6_handsOf 15 = .ok (.iload 4, 2) := by decide +kernel
theorem dX6_handsOf_17 : decode cX6_handsOf 17 = .ok (.iload_n 2, 1) := by decide +kernel
theorem dX6_handsOf_18 : decode cX6_handsOf 18 = .ok (.invokevirtual 138, 3) := by decide +kernel
theorem dX6_handsOf_21 : decode cX6_handsOf 21 = .ok (.iload_n 1, 1) := by decide +kernel
theorem dX6_handsOf_22 : decode cX6_handsOf 22 = .ok (.if_icmp .ne 10, 3) := by decide +kernel
theorem dX6_handsOf_25 : decode cX6_handsOf 25 = .ok (.iload_n 3, 1) := by decide +kernel
theorem dX6_handsOf_26 : decode cX6_handsOf 26 = .ok (.iconst 1, 1) := by decide +kernel
theorem dX6_handsOf_27 : decode cX6_handsOf 27 = .ok (.iload 4, 2) := by decide +kernel
theorem dX6_handsOf_29 : decode cX6_handsOf 29 = .ok (.ishl, 1) := by decide +kernel
theorem dX6_handsOf_30 : decode cX6_handsOf 30 = .ok (.ior, 1) := by decide +kernel
theorem dX6_handsOf_31 : decode cX6_handsOf 31 = .ok (.istore_n 3, 1) := by decide +kernel
theorem dX6_handsOf_32 : decode cX6_handsOf 32 = .ok (.iinc 4 1, 3) := by decide +kernel
theorem dX6_handsOf_35 : decode cX6_handsOf 35 = .ok (.goto (-30), 3) := by decide +kernel
theorem dX6_handsOf_38 : decode cX6_handsOf 38 = .ok (.iload_n 3, 1) := by decide +kernel
theorem dX6_handsOf_39 : decode cX6_handsOf 39 = .ok (.ireturn, 1) := by decide +kernel
theorem dX6_hands_0 : decode cX6_hands 0 = .ok (.aload_n 0, 1) := by decide +kernel
theorem dX6_hands_1 : decode cX6_hands 1 = .ok (.aload_n 0, 1) := by decide +kernel
theorem dX6_hands_2 : decode cX6_hands 2 = .ok (.iload_n 1, 1) := by decide +kernel
theorem dX6_hands_3 : decode cX6_hands 3 = .ok (.invokevirtual 169, 3) := by decide +kernel
theorem dX6_hands_6 : decode cX6_hands 6 = .ok (.ifCond .eq 11, 3) := by decide +kernel
theorem dX6_hands_9 : decode cX6_hands 9 = .ok (.aload_n 0, 1) := by decide +kernel
theorem dX6_hands_10 : decode cX6_hands 10 = .ok (.iload_n 2, 1) := by decide +kernel
theorem dX6_hands_11 : decode cX6_hands 11 = .ok (.invokevirtual 144, 3) := by decide +kernel
theorem dX6_hands_14 : decode cX6_hands 14 = .ok (.goto 4, 3) := by decide +kernel
theorem dX6_hands_17 : decode cX6_hands 17 = .ok (.iconst 1, 1) := by decide +kernel
theorem dX6_hands_18 : decode cX6_hands 18 = .ok (.putfield 59, 3) := by decide +kernel
theorem dX6_hands_21 : decode cX6_hands 21 = .ok (.aload_n 0, 1) := by decide +kernel
theorem dX6_hands_22 : decode cX6_hands 22 = .ok (.getfield 59, 3) := by decide +kernel
theorem dX6_hands_25 : decode cX6_hands 25 = .ok (.ifCond .eq 5, 3) := by decide +kernel
theorem dX6_hands_28 : decode cX6_hands 28 = .ok (.iconst 0, 1) := by decide +kernel
theorem dX6_hands_29 : decode cX6_hands 29 = .ok (.ireturn, 1) := by decide +kernel
theorem dX6_hands_30 : decode cX6_hands 30 = .ok (.aload_n 0, 1) := by decide +kernel
theorem dX6_hands_31 : decode cX6_hands 31 = .ok (.invokevirtual 147, 3) := by decide +kernel
theorem dX6_hands_34 : decode cX6_hands 34 = .ok (.aload_n 0, 1) := by decide +kernel
theorem dX6_hands_35 : decode cX6_hands 35 = .ok (.iload_n 1, 1) := by decide +kernel
theorem dX6_hands_36 : decode cX6_hands 36 = .ok (.iload_n 2, 1) := by decide +kernel
theorem dX6_hands_37 : decode cX6_hands 37 = .ok (.invokevirtual 172, 3) := by decide +kernel
theorem dX6_hands_40 : decode cX6_hands 40 = .ok (.ireturn, 1) := by decide +kernel
theorem dX6_loadOf_0 : decode cX6_loadOf 0 = .ok (.iconst 0, 1) := by decide +kernel
theorem dX6_loadOf_1 : decode cX6_loadOf 1 = .ok (.istore_n 2, 1) := by decide +kernel
theorem dX6_loadOf_2 : decode cX6_loadOf 2 = .ok (.iconst 0, 1) := by decide +kernel
theorem dX6_loadOf_3 : decode cX6_loadOf 3 = .ok (.istore_n 3, 1) := by decide +kernel
theorem dX6_loadOf_4 : decode cX6_loadOf 4 = .ok (.iload_n 3, 1) := by decide +kernel
theorem dX6_loadOf_5 : decode cX6_loadOf 5 = .ok (.sipush 1000, 3) := by decide +kernel
theorem dX6_loadOf_8 : decode cX6_loadOf 8 = .ok (.if_icmp .ge 26, 3) := by decide +kernel
theorem dX6_loadOf_11 : decode cX6_loadOf 11 = .ok (.iload_n 2, 1) := by decide +kernel
theorem dX6_loadOf_12 : decode cX6_loadOf 12 = .ok (.aload_n 0, 1) := by decide +kernel
theorem dX6_loadOf_13 : decode cX6_loadOf 13 = .ok (.iload_n 1, 1) := by decide +kernel
theorem dX6_loadOf_14 : decode cX6_loadOf 14 = .ok (.iload_n 3, 1) := by decide +kernel
theorem dX6_loadOf_15 : decode cX6_loadOf 15 = .ok (.invokevirtual 172, 3) := by decide +kernel
theorem dX6_loadOf_18 : decode cX6_loadOf 18 = .ok (.ifCond .ne 7, 3) := by decide +kernel
theorem dX6_loadOf_21 : decode cX6_loadOf 21 = .ok (.iconst 0, 1) := by decide +kernel
theorem dX6_loadOf_22 : decode cX6_loadOf 22 = .ok (.goto 4, 3) := by decide +kernel
theorem dX6_loadOf_25 : decode cX6_loadOf 25 = .ok (.iconst 1, 1) := by decide +kernel
theorem dX6_loadOf_26 : decode cX6_loadOf 26 = .ok (.iadd, 1) := by decide +kernel
theorem dX6_loadOf_27 : decode cX6_loadOf 27 = .ok (.istore_n 2, 1) := by decide +kernel
theorem dX6_loadOf_28 : decode cX6_loadOf 28 = .ok (.iinc 3 1, 3) := by decide +kernel
theorem dX6_loadOf_31 : decode cX6_loadOf 31 = .ok (.goto (-27), 3) := by decide +kernel
theorem dX6_loadOf_34 : decode cX6_loadOf 34 = .ok (.iload_n 2, 1) := by decide +kernel
theorem dX6_loadOf_35 : decode cX6_loadOf 35 = .ok (.ireturn, 1) := by decide +kernel
theorem dX6_load_0 : decode cX6_load 0 = .ok (.aload_n 0, 1) := by decide +kernel
theorem dX6_load_1 : decode cX6_load 1 = .ok (.iconst 0, 1) := by decide +kernel
theorem dX6_load_2 : decode cX6_load 2 = .ok (.putfield 59, 3) := by decide +kernel
theorem dX6_load_5 : decode cX6_load 5 = .ok (.aload_n 0, 1) := by decide +kernel
theorem dX6_load_6 : decode cX6_load 6 = .ok (.iload_n 1, 1) := by decide +kernel
theorem dX6_load_7 : decode cX6_load 7 = .ok (.invokevirtual 169, 3) := by decide +kernel
theorem dX6_load_10 : decode cX6_load 10 = .ok (.ifCond .ne 9, 3) := by decide +kernel
theorem dX6_load_13 : decode cX6_load 13 = .ok (.aload_n 0, 1) := by decide +kernel
theorem dX6_load_14 : decode cX6_load 14 = .ok (.iconst 1, 1) := by decide +kernel
theorem dX6_load_15 : decode cX6_load 15 = .ok (.invokevirtual 73, 3) := by decide +kernel
theorem dX6_load_18 : decode cX6_load 18 = .ok (.ireturn, 1) := by decide +kernel
theorem dX6_load_19 : decode cX6_load 19 = .ok (.aload_n 0, 1) := by decide +kernel
theorem dX6_load_20 : decode cX6_load 20 = .ok (.invokevirtual 147, 3) := by decide +kernel
theorem dX6_load_23 : decode cX6_load 23 = .ok (.aload_n 0, 1) := by decide +kernel
theorem dX6_load_24 : decode cX6_load 24 = .ok (.iload_n 1, 1) := by decide +kernel
theorem dX6_load_25 : decode cX6_load 25 = .ok (.invokevirtual 175, 3) := by decide +kernel
theorem dX6_load_28 : decode cX6_load 28 = .ok (.ireturn, 1) := by decide +kernel
theorem dX6_note_0 : decode cX6_note 0 = .ok (.aload_n 0, 1) := by decide +kernel
theorem dX6_note_1 : decode cX6_note 1 = .ok (.iconst 0, 1) := by decide +kernel
theorem dX6_note_2 : decode cX6_note 2 = .ok (.putfield 59, 3) := by decide +kernel
theorem dX6_note_5 : decode cX6_note 5 = .ok (.aload_n 0, 1) := by decide +kernel
theorem dX6_note_6 : decode cX6_note 6 = .ok (.iload_n 1, 1) := by decide +kernel
theorem dX6_note_7 : decode cX6_note 7 = .ok (.invokevirtual 120, 3) := by decide +kernel
theorem dX6_note_10 : decode cX6_note 10 = .ok (.ifCond .ne 9, 3) := by decide +kernel
theorem dX6_note_13 : decode cX6_note 13 = .ok (.aload_n 0, 1) := by decide +kernel
theorem dX6_note_14 : decode cX6_note 14 = .ok (.iconst 1, 1) := by decide +kernel
theorem dX6_note_15 : decode cX6_note 15 = .ok (.invokevirtual 73, 3) := by decide +kernel
theorem dX6_note_18 : decode cX6_note 18 = .ok (.ireturn, 1) := by decide +kernel
theorem dX6_note_19 : decode cX6_note 19 = .ok (.iload_n 2, 1) := by decide +kernel
theorem dX6_note_20 : decode cX6_note 20 = .ok (.bipush (-50), 2) := by decide +kernel
theorem dX6_note_22 : decode cX6_note 22 = .ok (.bipush 50, 2) := by decide +kernel
theorem dX6_note_24 : decode cX6_note 24 = .ok (.invokestatic 66, 3) := by decide +kernel
theorem dX6_note_27 : decode cX6_note 27 = .ok (.ifCond .ne 9, 3) := by decide +kernel
theorem dX6_note_30 : decode cX6_note 30 = .ok (.aload_n 0, 1) := by decide +kernel
theorem dX6_note_31 : decode cX6_note 31 = .ok (.iconst 2, 1) := by decide +kernel
theorem dX6_note_32 : decode cX6_note 32 = .ok (.invokevirtual 73, 3) := by decide +kernel
theorem dX6_note_35 : decode cX6_note 35 = .ok (.ireturn, 1) := by decide +kernel
theorem dX6_note_36 : decode cX6_note 36 = .ok (.aload_n 0, 1) := by decide +kernel
theorem dX6_note_37 : decode cX6_note 37 = .ok (.getfield 29, 3) := by decide +kernel
theorem dX6_note_40 : decode cX6_note 40 = .ok (.iload_n 1, 1) := by decide +kernel
theorem dX6_note_41 : decode cX6_note 41 = .ok (.iaload, 1) := by decide +kernel
theorem dX6_note_42 : decode cX6_note 42 = .ok (.bipush 20, 2) := by decide +kernel
theorem dX6_note_44 : decode cX6_note 44 = .ok (.if_icmp .ne 9, 3) := by decide +kernel
theorem dX6_note_47 : decode cX6_note 47 = .ok (.aload_n 0, 1) := by decide +kernel
theorem dX6_note_48 : decode cX6_note 48 = .ok (.iconst 3, 1) := by decide +kernel
theorem dX6_note_49 : decode cX6_note 49 = .ok (.invokevirtual 73, 3) := by decide +kernel
theorem dX6_note_52 : decode cX6_note 52 = .ok (.ireturn, 1) := by decide +kernel
theorem dX6_note_53 : decode cX6_note 53 = .ok (.aload_n 0, 1) := by decide +kernel
theorem dX6_note_54 : decode cX6_note 54 = .ok (.getfield 29, 3) := by decide +kernel
theorem dX6_note_57 : decode cX6_note 57 = .ok (.iload_n 1, 1) := by decide +kernel
theorem dX6_note_58 : decode cX6_note 58 = .ok (.dup2, 1) := by decide +kernel
theorem dX6_note_59 : decode cX6_note 59 = .ok (.iaload, 1) := by decide +kernel
theorem dX6_note_60 : decode cX6_note 60 = .ok (.iconst 1, 1) := by decide +kernel
theorem dX6_note_61 : decode cX6_note 61 = .ok (.iadd, 1) := by decide +kernel
theorem dX6_note_62 : decode cX6_note 62 = .ok (.iastore, 1) := by decide +kernel
theorem dX6_note_63 : decode cX6_note 63 = .ok (.aload_n 0, 1) := by decide +kernel
theorem dX6_note_64 : decode cX6_note 64 = .ok (.getfield 32, 3) := by decide +kernel
theorem dX6_note_67 : decode cX6_note 67 = .ok (.iload_n 1, 1) := by decide +kernel
theorem dX6_note_68 : decode cX6_note 68 = .ok (.dup2, 1) := by decide +kernel
theorem dX6_note_69 : decode cX6_note 69 = .ok (.iaload, 1) := by decide +kernel
theorem dX6_note_70 : decode cX6_note 70 = .ok (.iload_n 2, 1) := by decide +kernel
theorem dX6_note_71 : decode cX6_note 71 = .ok (.iadd, 1) := by decide +kernel
theorem dX6_note_72 : decode cX6_note 72 = .ok (.iastore, 1) := by decide +kernel
theorem dX6_note_73 : decode cX6_note 73 = .ok (.aload_n 0, 1) := by decide +kernel
theorem dX6_note_74 : decode cX6_note 74 = .ok (.getfield 35, 3) := by decide +kernel
theorem dX6_note_77 : decode cX6_note 77 = .ok (.iload_n 1, 1) := by decide +kernel
theorem dX6_note_78 : decode cX6_note 78 = .ok (.dup2, 1) := by decide +kernel
theorem dX6_note_79 : decode cX6_note 79 = .ok (.iaload, 1) := by decide +kernel
theorem dX6_note_80 : decode cX6_note 80 = .ok (.iload_n 2, 1) := by decide +kernel
theorem dX6_note_81 : decode cX6_note 81 = .ok (.invokestatic 98, 3) := by decide +kernel
theorem dX6_note_84 : decode cX6_note 84 = .ok (.iadd, 1) := by decide +kernel
theorem dX6_note_85 : decode cX6_note 85 = .ok (.iastore, 1) := by decide +kernel
theorem dX6_note_86 : decode cX6_note 86 = .ok (.aload_n 0, 1) := by decide +kernel
theorem dX6_note_87 : decode cX6_note 87 = .ok (.getfield 29, 3) := by decide +kernel
theorem dX6_note_90 : decode cX6_note 90 = .ok (.iload_n 1, 1) := by decide +kernel
theorem dX6_note_91 : decode cX6_note 91 = .ok (.iaload, 1) := by decide +kernel
theorem dX6_note_92 : decode cX6_note 92 = .ok (.ireturn, 1) := by decide +kernel
theorem dX6_mean_0 : decode cX6_mean 0 = .ok (.aload_n 0, 1) := by decide +kernel
theorem dX6_mean_1 : decode cX6_mean 1 = .ok (.aload_n 0, 1) := by decide +kernel
theorem dX6_mean_2 : decode cX6_mean 2 = .ok (.iload_n 1, 1) := by decide +kernel
theorem dX6_mean_3 : decode cX6_mean 3 = .ok (.invokevirtual 120, 3) := by decide +kernel
theorem dX6_mean_6 : decode cX6_mean 6 = .ok (.ifCond .eq 7, 3) := by decide +kernel
theorem dX6_mean_9 : decode cX6_mean 9 = .ok (.iconst 0, 1) := by decide +kernel
theorem dX6_mean_10 : decode cX6_mean 10 = .ok (.goto 4, 3) := by decide +kernel
theorem dX6_mean_13 : decode cX6_mean 13 = .ok (.iconst 1, 1) := by decide +kernel
theorem dX6_mean_14 : decode cX6_mean 14 = .ok (.putfield 59, 3) := by decide +kernel
theorem dX6_mean_17 : decode cX6_mean 17 = .ok (.aload_n 0, 1) := by decide +kernel
theorem dX6_mean_18 : decode cX6_mean 18 = .ok (.getfield 59, 3) := by decide +kernel
theorem dX6_mean_21 : decode cX6_mean 21 = .ok (.ifCond .ne 12, 3) := by decide +kernel
theorem dX6_mean_24 : decode cX6_mean 24 = .ok (.aload_n 0, 1) := by decide +kernel
theorem dX6_mean_25 : decode cX6_mean 25 = .ok (.getfield 29, 3) := by decide +kernel
theorem dX6_mean_28 : decode cX6_mean 28 = .ok (.iload_n 1, 1) := by decide +kernel
theorem dX6_mean_29 : decode cX6_mean 29 = .ok (.iaload, 1) := by decide +kernel
theorem dX6_mean_30 : decode cX6_mean 30 = .ok (.ifCond .ne 7, 3) := by decide +kernel
theorem dX6_mean_33 : decode cX6_mean 33 = .ok (.dconst 0, 1) := by decide +kernel
theorem dX6_mean_34 : decode cX6_mean 34 = .ok (.goto 18, 3) := by decide +kernel
theorem dX6_mean_37 : decode cX6_mean 37 = .ok (.aload_n 0, 1) := by decide +kernel
theorem dX6_mean_38 : decode cX6_mean 38 = .ok (.getfield 32, 3) := by decide +kernel
theorem dX6_mean_41 : decode cX6_mean 41 = .ok (.iload_n 1, 1) := by decide +kernel
theorem dX6_mean_42 : decode cX6_mean 42 = .ok (.iaload, 1) := by decide +kernel
theorem dX6_mean_43 : decode cX6_mean 43 = .ok (.i2d, 1) := by decide +kernel
theorem dX6_mean_44 : decode cX6_mean 44 = .ok (.aload_n 0, 1) := by decide +kernel
theorem dX6_mean_45 : decode cX6_mean 45 = .ok (.getfield 29, 3) := by decide +kernel
theorem dX6_mean_48 : decode cX6_mean 48 = .ok (.iload_n 1, 1) := by decide +kernel
theorem dX6_mean_49 : decode cX6_mean 49 = .ok (.iaload, 1) := by decide +kernel
theorem dX6_mean_50 : decode cX6_mean 50 = .ok (.i2d, 1) := by decide +kernel
theorem dX6_mean_51 : decode cX6_mean 51 = .ok (.ddiv, 1) := by decide +kernel
theorem dX6_mean_52 : decode cX6_mean 52 = .ok (.dreturn, 1) := by decide +kernel
theorem dX6_worst_0 : decode cX6_worst 0 = .ok (.aload_n 0, 1) := by decide +kernel
theorem dX6_worst_1 : decode cX6_worst 1 = .ok (.iconst 0, 1) := by decide +kernel
theorem dX6_worst_2 : decode cX6_worst 2 = .ok (.putfield 59, 3) := by decide +kernel
theorem dX6_worst_5 : decode cX6_worst 5 = .ok (.iconst (-1), 1) := by decide +kernel
theorem dX6_worst_6 : decode cX6_worst 6 = .ok (.istore_n 1, 1) := by decide +kernel
theorem dX6_worst_7 : decode cX6_worst 7 = .ok (.iconst 0, 1) := by decide +kernel
theorem dX6_worst_8 : decode cX6_worst 8 = .ok (.istore_n 2, 1) := by decide +kernel
theorem dX6_worst_9 : decode cX6_worst 9 = .ok (.iload_n 2, 1) := by decide +kernel
theorem dX6_worst_10 : decode cX6_worst 10 = .ok (.aload_n 0, 1) := by decide +kernel
theorem dX6_worst_11 : decode cX6_worst 11 = .ok (.getfield 81, 3) := by decide +kernel
theorem dX6_worst_14 : decode cX6_worst 14 = .ok (.if_icmp .ge 49, 3) := by decide +kernel
theorem dX6_worst_17 : decode cX6_worst 17 = .ok (.aload_n 0, 1) := by decide +kernel
theorem dX6_worst_18 : decode cX6_worst 18 = .ok (.getfield 25, 3) := by decide +kernel
theorem dX6_worst_21 : decode cX6_worst 21 = .ok (.iload_n 2, 1) := by decide +kernel
theorem dX6_worst_22 : decode cX6_worst 22 = .ok (.baload, 1) := by decide +kernel
theorem dX6_worst_23 : decode cX6_worst 23 = .ok (.ifCond .ne 34, 3) := by decide +kernel
theorem dX6_worst_26 : decode cX6_worst 26 = .ok (.aload_n 0, 1) := by decide +kernel
theorem dX6_worst_27 : decode cX6_worst 27 = .ok (.getfield 29, 3) := by decide +kernel
theorem dX6_worst_30 : decode cX6_worst 30 = .ok (.iload_n 2, 1) := by decide +kernel
theorem dX6_worst_31 : decode cX6_worst 31 = .ok (.iaload, 1) := by decide +kernel
theorem dX6_worst_32 : decode cX6_worst 32 = .ok (.ifCond .le 25, 3) := by decide +kernel
theorem dX6_worst_35 : decode cX6_worst 35 = .ok (.iload_n 1, 1) := by decide +kernel
theorem dX6_worst_36 : decode cX6_worst 36 = .ok (.iconst (-1), 1) := by decide +kernel
theorem dX6_worst_37 : decode cX6_worst 37 = .ok (.if_icmp .eq 18, 3) := by decide +kernel
theorem dX6_worst_40 : decode cX6_worst 40 = .ok (.aload_n 0, 1) := by decide +kernel
theorem dX6_worst_41 : decode cX6_worst 41 = .ok (.getfield 35, 3) := by decide +kernel
theorem dX6_worst_44 : decode cX6_worst 44 = .ok (.iload_n 2, 1) := by decide +kernel
theorem dX6_worst_45 : decode cX6_worst 45 = .ok (.iaload, 1) := by decide +kernel
theorem dX6_worst_46 : decode cX6_worst 46 = .ok (.aload_n 0, 1) := by decide +kernel
theorem dX6_worst_47 : decode cX6_worst 47 = .ok (.getfield 35, 3) := by decide +kernel
theorem dX6_worst_50 : decode cX6_worst 50 = .ok (.iload_n 1, 1) := by decide +kernel
theorem dX6_worst_51 : decode cX6_worst 51 = .ok (.iaload, 1) := by decide +kernel
theorem dX6_worst_52 : decode cX6_worst 52 = .ok (.if_icmp .le 5, 3) := by decide +kernel
theorem dX6_worst_55 : decode cX6_worst 55 = .ok (.iload_n 2, 1) := by decide +kernel
theorem dX6_worst_56 : decode cX6_worst 56 = .ok (.istore_n 1, 1) := by decide +kernel
theorem dX6_worst_57 : decode cX6_worst 57 = .ok (.iinc 2 1, 3) := by decide +kernel
theorem dX6_worst_60 : decode cX6_worst 60 = .ok (.goto (-51), 3) := by decide +kernel
theorem dX6_worst_63 : decode cX6_worst 63 = .ok (.iload_n 1, 1) := by decide +kernel
theorem dX6_worst_64 : decode cX6_worst 64 = .ok (.ireturn, 1) := by decide +kernel
theorem dX6_digest_0 : decode cX6_digest 0 = .ok (.aload_n 0, 1) := by decide +kernel
theorem dX6_digest_1 : decode cX6_digest 1 = .ok (.iconst 0, 1) := by decide +kernel
theorem dX6_digest_2 : decode cX6_digest 2 = .ok (.putfield 59, 3) := by decide +kernel
theorem dX6_digest_5 : decode cX6_digest 5 = .ok (.aload_n 0, 1) := by decide +kernel
theorem dX6_digest_6 : decode cX6_digest 6 = .ok (.invokevirtual 147, 3) := by decide +kernel
theorem dX6_digest_9 : decode cX6_digest 9 = .ok (.ldc2_w 178, 3) := by decide +kernel
theorem dX6_digest_12 : decode cX6_digest 12 = .ok (.aload_n 0, 1) := by decide +kernel
theorem dX6_digest_13 : decode cX6_digest 13 = .ok (.getfield 63, 3) := by decide +kernel
theorem dX6_digest_16 : decode cX6_digest 16 = .ok (.i2l, 1) := by decide +kernel
theorem dX6_digest_17 : decode cX6_digest 17 = .ok (.ladd, 1) := by decide +kernel
theorem dX6_digest_18 : decode cX6_digest 18 = .ok (.lstore_n 1, 1) := by decide +kernel
theorem dX6_digest_19 : decode cX6_digest 19 = .ok (.iconst 0, 1) := by decide +kernel
theorem dX6_digest_20 : decode cX6_digest 20 = .ok (.istore_n 3, 1) := by decide +kernel
theorem dX6_digest_21 : decode cX6_digest 21 = .ok (.iload_n 3, 1) := by decide +kernel
theorem dX6_digest_22 : decode cX6_digest 22 = .ok (.aload_n 0, 1) := by decide +kernel
theorem dX6_digest_23 : decode cX6_digest 23 = .ok (.getfield 63, 3) := by decide +kernel
theorem dX6_digest_26 : decode cX6_digest 26 = .ok (.if_icmp .ge 75, 3) := by decide +kernel
theorem dX6_digest_29 : decode cX6_digest 29 = .ok (.lload_n 1, 1) := by decide +kernel
theorem dX6_digest_30 : decode cX6_digest 30 = .ok (.ldc2_w 180, 3) := by decide +kernel
theorem dX6_digest_33 : decode cX6_digest 33 = .ok (.lmul, 1) := by decide +kernel
theorem dX6_digest_34 : decode cX6_digest 34 = .ok (.aload_n 0, 1) := by decide +kernel
theorem dX6_digest_35 : decode cX6_digest 35 = .ok (.getfield 47, 3) := by decide +kernel
theorem dX6_digest_38 : decode cX6_digest 38 = .ok (.iload_n 3, 1) := by decide +kernel
theorem dX6_digest_39 : decode cX6_digest 39 = .ok (.iaload, 1) := by decide +kernel
theorem dX6_digest_40 : decode cX6_digest 40 = .ok (.i2l, 1) := by decide +kernel
theorem dX6_digest_41 : decode cX6_digest 41 = .ok (.ladd, 1) := by decide +kernel
theorem dX6_digest_42 : decode cX6_digest 42 = .ok (.lstore_n 1, 1) := by decide +kernel
theorem dX6_digest_43 : decode cX6_digest 43 = .ok (.iconst 0, 1) := by decide +kernel
theorem dX6_digest_44 : decode cX6_digest 44 = .ok (.istore 4, 2) := by decide +kernel
theorem dX6_digest_46 : decode cX6_digest 46 = .ok (.iload 4, 2) := by decide +kernel
theorem dX6_digest_48 : decode cX6_digest 48 = .ok (.aload_n 0, 1) := by decide +kernel
theorem dX6_digest_49 : decode cX6_digest 49 = .ok (.getfield 47, 3) := by decide +kernel
theorem dX6_digest_52 : decode cX6_digest 52 = .ok (.iload_n 3, 1) := by decide +kernel
theorem dX6_digest_53 : decode cX6_digest 53 = .ok (.iaload, 1) := by decide +kernel
theorem dX6_digest_54 : decode cX6_digest 54 = .ok (.if_icmp .ge 41, 3) := by decide +kernel
theorem dX6_digest_57 : decode cX6_digest 57 = .ok (.iconst 0, 1) := by decide +kernel
theorem dX6_digest_58 : decode cX6_digest 58 = .ok (.istore 5, 2) := by decide +kernel
theorem dX6_digest_60 : decode cX6_digest 60 = .ok (.iload 5, 2) := by decide +kernel
theorem dX6_digest_62 : decode cX6_digest 62 = .ok (.iconst 3, 1) := by decide +kernel
theorem dX6_digest_63 : decode cX6_digest 63 = .ok (.if_icmp .ge 26, 3) := by decide +kernel
theorem dX6_digest_66 : decode cX6_digest 66 = .ok (.lload_n 1, 1) := by decide +kernel
theorem dX6_digest_67 : decode cX6_digest 67 = .ok (.ldc2_w 180, 3) := by decide +kernel
theorem dX6_digest_70 : decode cX6_digest 70 = .ok (.lmul, 1) := by decide +kernel
theorem dX6_digest_71 : decode cX6_digest 71 = .ok (.aload_n 0, 1) := by decide +kernel
theorem dX6_digest_72 : decode cX6_digest 72 = .ok (.iload_n 3, 1) := by decide +kernel
theorem dX6_digest_73 : decode cX6_digest 73 = .ok (.iload 4, 2) := by decide +kernel
theorem dX6_digest_75 : decode cX6_digest 75 = .ok (.iload 5, 2) := by decide +kernel
theorem dX6_digest_77 : decode cX6_digest 77 = .ok (.invokevirtual 165, 3) := by decide +kernel
theorem dX6_digest_80 : decode cX6_digest 80 = .ok (.i2l, 1) := by decide +kernel
theorem dX6_digest_81 : decode cX6_digest 81 = .ok (.ladd, 1) := by decide +kernel
theorem dX6_digest_82 : decode cX6_digest 82 = .ok (.lstore_n 1, 1) := by decide +kernel
theorem dX6_digest_83 : decode cX6_digest 83 = .ok (.iinc 5 1, 3) := by decide +kernel
theorem dX6_digest_86 : decode cX6_digest 86 = .ok (.goto (-26), 3) := by decide +kernel
theorem dX6_digest_89 : decode cX6_digest 89 = .ok (.iinc 4 1, 3) := by decide +kernel
theorem dX6_digest_92 : decode cX6_digest 92 = .ok (.goto (-46), 3) := by decide +kernel
theorem dX6_digest_95 : decode cX6_digest 95 = .ok (.iinc 3 1, 3) := by decide +kernel
theorem dX6_digest_98 : decode cX6_digest 98 = .ok (.goto (-77), 3) := by decide +kernel
theorem dX6_digest_101 : decode cX6_digest 101 = .ok (.lload_n 1, 1) := by decide +kernel
theorem dX6_digest_102 : decode cX6_digest 102 = .ok (.ldc2_w 180, 3) := by decide +kernel
theorem dX6_digest_105 : decode cX6_digest 105 = .ok (.lmul, 1) := by decide +kernel
theorem dX6_digest_106 : decode cX6_digest 106 = .ok (.aload_n 0, 1) := by decide +kernel
theorem dX6_digest_107 : decode cX6_digest 107 = .ok (.getfield 70, 3) := by decide +kernel
theorem dX6_digest_110 : decode cX6_digest 110 = .ok (.i2l, 1) := by decide +kernel
theorem dX6_digest_111 : decode cX6_digest 111 = .ok (.ladd, 1) := by decide +kernel
theorem dX6_digest_112 : decode cX6_digest 112 = .ok (.lstore_n 1, 1) := by decide +kernel
theorem dX6_digest_113 : decode cX6_digest 113 = .ok (.iconst 0, 1) := by decide +kernel
theorem dX6_digest_114 : decode cX6_digest 114 = .ok (.istore_n 3, 1) := by decide +kernel
theorem dX6_digest_115 : decode cX6_digest 115 = .ok (.iload_n 3, 1) := by decide +kernel
theorem dX6_digest_116 : decode cX6_digest 116 = .ok (.aload_n 0, 1) := by decide +kernel
theorem dX6_digest_117 : decode cX6_digest 117 = .ok (.getfield 70, 3) := by decide +kernel
theorem dX6_digest_120 : decode cX6_digest 120 = .ok (.if_icmp .ge 22, 3) := by decide +kernel
theorem dX6_digest_123 : decode cX6_digest 123 = .ok (.lload_n 1, 1) := by decide +kernel
theorem dX6_digest_124 : decode cX6_digest 124 = .ok (.ldc2_w 180, 3) := by decide +kernel
theorem dX6_digest_127 : decode cX6_digest 127 = .ok (.lmul, 1) := by decide +kernel
theorem dX6_digest_128 : decode cX6_digest 128 = .ok (.aload_n 0, 1) := by decide +kernel
theorem dX6_digest_129 : decode cX6_digest 129 = .ok (.iload_n 3, 1) := by decide +kernel
theorem dX6_digest_130 : decode cX6_digest 130 = .ok (.invokevirtual 175, 3) := by decide +kernel
theorem dX6_digest_133 : decode cX6_digest 133 = .ok (.i2l, 1) := by decide +kernel
theorem dX6_digest_134 : decode cX6_digest 134 = .ok (.ladd, 1) := by decide +kernel
theorem dX6_digest_135 : decode cX6_digest 135 = .ok (.lstore_n 1, 1) := by decide +kernel
theorem dX6_digest_136 : decode cX6_digest 136 = .ok (.iinc 3 1, 3) := by decide +kernel
theorem dX6_digest_139 : decode cX6_digest 139 = .ok (.goto (-24), 3) := by decide +kernel
theorem dX6_digest_142 : decode cX6_digest 142 = .ok (.lload_n 1, 1) := by decide +kernel
theorem dX6_digest_143 : decode cX6_digest 143 = .ok (.ldc2_w 180, 3) := by decide +kernel
theorem dX6_digest_146 : decode cX6_digest 146 = .ok (.lmul, 1) := by decide +kernel
theorem dX6_digest_147 : decode cX6_digest 147 = .ok (.aload_n 0, 1) := by decide +kernel
theorem dX6_digest_148 : decode cX6_digest 148 = .ok (.getfield 81, 3) := by decide +kernel
theorem dX6_digest_151 : decode cX6_digest 151 = .ok (.i2l, 1) := by decide +kernel
theorem dX6_digest_152 : decode cX6_digest 152 = .ok (.ladd, 1) := by decide +kernel
theorem dX6_digest_153 : decode cX6_digest 153 = .ok (.lstore_n 1, 1) := by decide +kernel
theorem dX6_digest_154 : decode cX6_digest 154 = .ok (.iconst 0, 1) := by decide +kernel
theorem dX6_digest_155 : decode cX6_digest 155 = .ok (.istore_n 3, 1) := by decide +kernel
theorem dX6_digest_156 : decode cX6_digest 156 = .ok (.iload_n 3, 1) := by decide +kernel
theorem dX6_digest_157 : decode cX6_digest 157 = .ok (.aload_n 0, 1) := by decide +kernel
theorem dX6_digest_158 : decode cX6_digest 158 = .ok (.getfield 81, 3) := by decide +kernel
theorem dX6_digest_161 : decode cX6_digest 161 = .ok (.if_icmp .ge 69, 3) := by decide +kernel
theorem dX6_digest_164 : decode cX6_digest 164 = .ok (.aload_n 0, 1) := by decide +kernel
theorem dX6_digest_165 : decode cX6_digest 165 = .ok (.getfield 25, 3) := by decide +kernel
theorem dX6_digest_168 : decode cX6_digest 168 = .ok (.iload_n 3, 1) := by decide +kernel
theorem dX6_digest_169 : decode cX6_digest 169 = .ok (.baload, 1) := by decide +kernel
theorem dX6_digest_170 : decode cX6_digest 170 = .ok (.ifCond .eq 6, 3) := by decide +kernel
theorem dX6_digest_173 : decode cX6_digest 173 = .ok (.goto 51, 3) := by decide +kernel
theorem dX6_digest_176 : decode cX6_digest 176 = .ok (.iconst 0, 1) := by decide +kernel
theorem dX6_digest_177 : decode cX6_digest 177 = .ok (.istore 4, 2) := by decide +kernel
theorem dX6_digest_179 : decode cX6_digest 179 = .ok (.iload 4, 2) := by decide +kernel
theorem dX6_digest_181 : decode cX6_digest 181 = .ok (.iconst 5, 1) := by decide +kernel
theorem dX6_digest_182 : decode cX6_digest 182 = .ok (.if_icmp .ge 28, 3) := by decide +kernel
theorem dX6_digest_185 : decode cX6_digest 185 = .ok (.lload_n 1, 1) := by decide +kernel
theorem dX6_digest_186 : decode cX6_digest 186 = .ok (.ldc2_w 180, 3) := by decide +kernel
theorem dX6_digest_189 : decode cX6_digest 189 = .ok (.lmul, 1) := by decide +kernel
theorem dX6_digest_190 : decode cX6_digest 190 = .ok (.aload_n 0, 1) := by decide +kernel
theorem dX6_digest_191 : decode cX6_digest 191 = .ok (.getfield 22, 3) := by decide +kernel
theorem dX6_digest_194 : decode cX6_digest 194 = .ok (.iconst 5, 1) := by decide +kernel
theorem dX6_digest_195 : decode cX6_digest 195 = .ok (.iload_n 3, 1) := by decide +kernel
theorem dX6_digest_196 : decode cX6_digest 196 = .ok (.imul, 1) := by decide +kernel
theorem dX6_digest_197 : decode cX6_digest 197 = .ok (.iload 4, 2) := by decide +kernel
theorem dX6_digest_199 : decode cX6_digest 199 = .ok (.iadd, 1) := by decide +kernel
theorem dX6_digest_200 : decode cX6_digest 200 = .ok (.iaload, 1) := by decide +kernel
theorem dX6_digest_201 : decode cX6_digest 201 = .ok (.i2l, 1) := by decide +kernel
theorem dX6_digest_202 : decode cX6_digest 202 = .ok (.ladd, 1) := by decide +kernel
theorem dX6_digest_203 : decode cX6_digest 203 = .ok (.lstore_n 1, 1) := by decide +kernel
theorem dX6_digest_204 : decode cX6_digest 204 = .ok (.iinc 4 1, 3) := by decide +kernel
theorem dX6_digest_207 : decode cX6_digest 207 = .ok (.goto (-28), 3) := by decide +kernel
theorem dX6_digest_210 : decode cX6_digest 210 = .ok (.lload_n 1, 1) := by decide +kernel
theorem dX6_digest_211 : decode cX6_digest 211 = .ok (.ldc2_w 180, 3) := by decide +kernel
theorem dX6_digest_214 : decode cX6_digest 214 = .ok (.lmul, 1) := by decide +kernel
theorem dX6_digest_215 : decode cX6_digest 215 = .ok (.aload_n 0, 1) := by decide +kernel
theorem dX6_digest_216 : decode cX6_digest 216 = .ok (.getfield 29, 3) := by decide +kernel
theorem dX6_digest_219 : decode cX6_digest 219 = .ok (.iload_n 3, 1) := by decide +kernel
theorem dX6_digest_220 : decode cX6_digest 220 = .ok (.iaload, 1) := by decide +kernel
theorem dX6_digest_221 : decode cX6_digest 221 = .ok (.i2l, 1) := by decide +kernel
theorem dX6_digest_222 : decode cX6_digest 222 = .ok (.ladd, 1) := by decide +kernel
theorem dX6_digest_223 : decode cX6_digest 223 = .ok (.lstore_n 1, 1) := by decide +kernel
theorem dX6_digest_224 : decode cX6_digest 224 = .ok (.iinc 3 1, 3) := by decide +kernel
theorem dX6_digest_227 : decode cX6_digest 227 = .ok (.goto (-71), 3) := by decide +kernel
theorem dX6_digest_230 : decode cX6_digest 230 = .ok (.lload_n 1, 1) := by decide +kernel
theorem dX6_digest_231 : decode cX6_digest 231 = .ok (.ldc2_w 180, 3) := by decide +kernel
theorem dX6_digest_234 : decode cX6_digest 234 = .ok (.lmul, 1) := by decide +kernel
theorem dX6_digest_235 : decode cX6_digest 235 = .ok (.aload_n 0, 1) := by decide +kernel
theorem dX6_digest_236 : decode cX6_digest 236 = .ok (.invokevirtual 161, 3) := by decide +kernel
theorem dX6_digest_239 : decode cX6_digest 239 = .ok (.i2l, 1) := by decide +kernel
theorem dX6_digest_240 : decode cX6_digest 240 = .ok (.ladd, 1) := by decide +kernel
theorem dX6_digest_241 : decode cX6_digest 241 = .ok (.lreturn, 1) := by decide +kernel
end
section
theorem dL_addPuppet_0 : decode cL_addPuppet 0 = .ok (.aload_n 3, 1) := by decide +kernel
theorem dL_addPuppet_1 : decode cL_addPuppet 1 = .ok (.iconst 0, 1) := by decide +kernel
theorem dL_addPuppet_2 : decode cL_addPuppet 2 = .ok (.aload_n 0, 1) := by decide +kernel
theorem dL_addPuppet_3 : decode cL_addPuppet 3 = .ok (.iload_n 1, 1) := by decide +kernel
theorem dL_addPuppet_4 : decode cL_addPuppet 4 = .ok (.iload_n 2, 1) := by decide +kernel
theorem dL_addPuppet_5 : decode cL_addPuppet 5 = .ok (.invokevirtual 7, 3) := by decide +kernel
theorem dL_addPuppet_8 : decode cL_addPuppet 8 = .ok (.i2l, 1) := by decide +kernel
theorem dL_addPuppet_9 : decode cL_addPuppet 9 = .ok (.lastore, 1) := by decide +kernel
theorem dL_addPuppet_10 : decode cL_addPuppet 10 = .ok (.goto 11, 3) := by decide +kernel
theorem dL_addPuppet_13 : decode cL_addPuppet 13 = .ok (.astore 4, 2) := by decide +kernel
theorem dL_addPuppet_15 : decode cL_addPuppet 15 = .ok (.iconst 1, 1) := by decide +kernel
theorem dL_addPuppet_16 : decode cL_addPuppet 16 = .ok (.ireturn, 1) := by decide +kernel
theorem dL_addPuppet_17 : decode cL_addPuppet 17 = .ok (.astore 4, 2) := by decide +kernel
theorem dL_addPuppet_19 : decode cL_addPuppet 19 = .ok (.iconst 2, 1) := by decide +kernel
theorem dL_addPuppet_20 : decode cL_addPuppet 20 = .ok (.ireturn, 1) := by decide +kernel
theorem dL_addPuppet_21 : decode cL_addPuppet 21 = .ok (.iconst 0, 1) := by decide +kernel
theorem dL_addPuppet_22 : decode cL_addPuppet 22 = .ok (.ireturn, 1) := by decide +kernel
theorem dL_addPlayer_0 : decode cL_addPlayer 0 = .ok (.aload_n 3, 1) := by decide +kernel
theorem dL_addPlayer_1 : decode cL_addPlayer 1 = .ok (.iconst 0, 1) := by decide +kernel
theorem dL_addPlayer_2 : decode cL_addPlayer 2 = .ok (.aload_n 0, 1) := by decide +kernel
theorem dL_addPlayer_3 : decode cL_addPlayer 3 = .ok (.iload_n 1, 1) := by decide +kernel
theorem dL_addPlayer_4 : decode cL_addPlayer 4 = .ok (.iload_n 2, 1) := by decide +kernel
theorem dL_addPlayer_5 : decode cL_addPlayer 5 = .ok (.invokevirtual 17, 3) := by decide +kernel
theorem dL_addPlayer_8 : decode cL_addPlayer 8 = .ok (.i2l, 1) := by decide +kernel
theorem dL_addPlayer_9 : decode cL_addPlayer 9 = .ok (.lastore, 1) := by decide +kernel
theorem dL_addPlayer_10 : decode cL_addPlayer 10 = .ok (.goto 11, 3) := by decide +kernel
theorem dL_addPlayer_13 : decode cL_addPlayer 13 = .ok (.astore 4, 2) := by decide +kernel
theorem dL_addPlayer_15 : decode cL_addPlayer 15 = .ok (.iconst 1, 1) := by decide +kernel
theorem dL_addPlayer_16 : decode cL_addPlayer 16 = .ok (.ireturn, 1) := by decide +kernel
theorem dL_addPlayer_17 : decode cL_addPlayer 17 = .ok (.astore 4, 2) := by decide +kernel
theorem dL_addPlayer_19 : decode cL_addPlayer 19 = .ok (.iconst 2, 1) := by decide +kernel
theorem dL_addPlayer_20 : decode cL_addPlayer 20 = .ok (.ireturn, 1) := by decide +kernel
theorem dL_addPlayer_21 : decode cL_addPlayer 21 = .ok (.iconst 0, 1) := by decide +kernel
theorem dL_addPlayer_22 : decode cL_addPlayer 22 = .ok (.ireturn, 1) := by decide +kernel
theorem dL_enter_0 : decode cL_enter 0 = .ok (.aload 5, 2) := by decide +kernel
theorem dL_enter_2 : decode cL_enter 2 = .ok (.iconst 0, 1) := by decide +kernel
theorem dL_enter_3 : decode cL_enter 3 = .ok (.aload_n 0, 1) := by decide +kernel
theorem dL_enter_4 : decode cL_enter 4 = .ok (.iload_n 1, 1) := by decide +kernel
theorem dL_enter_5 : decode cL_enter 5 = .ok (.iload_n 2, 1) := by decide +kernel
theorem dL_enter_6 : decode cL_enter 6 = .ok (.iload_n 3, 1) := by decide +kernel
theorem dL_enter_7 : decode cL_enter 7 = .ok (.iload 4, 2) := by decide +kernel
theorem dL_enter_9 : decode cL_enter 9 = .ok (.invokevirtual 20, 3) := by decide +kernel
theorem dL_enter_12 : decode cL_enter 12 = .ok (.i2l, 1) := by decide +kernel
theorem dL_enter_13 : decode cL_enter 13 = .ok (.lastore, 1) := by decide +kernel
theorem dL_enter_14 : decode cL_enter 14 = .ok (.goto 15, 3) := by decide +kernel
theorem dL_enter_17 : decode cL_enter 17 = .ok (.astore 6, 2) := by decide +kernel
theorem dL_enter_19 : decode cL_enter 19 = .ok (.iconst 1, 1) := by decide +kernel
theorem dL_enter_20 : decode cL_enter 20 = .ok (.ireturn, 1) := by decide +kernel
theorem dL_enter_21 : decode cL_enter 21 = .ok (.astore 6, 2) := by decide +kernel
theorem dL_enter_23 : decode cL_enter 23 = .ok (.iconst 2, 1) := by decide +kernel
theorem dL_enter_24 : decode cL_enter 24 = .ok (.ireturn, 1) := by decide +kernel
theorem dL_enter_25 : decode cL_enter 25 = .ok (.astore 6, 2) := by decide +kernel
theorem dL_enter_27 : decode cL_enter 27 = .ok (.iconst 3, 1) := by decide +kernel
theorem dL_enter_28 : decode cL_enter 28 = .ok (.ireturn, 1) := by decide +kernel
theorem dL_enter_29 : decode cL_enter 29 = .ok (.iconst 0, 1) := by decide +kernel
theorem dL_enter_30 : decode cL_enter 30 = .ok (.ireturn, 1) := by decide +kernel
theorem dL_move_0 : decode cL_move 0 = .ok (.aload 4, 2) := by decide +kernel
theorem dL_move_2 : decode cL_move 2 = .ok (.iconst 0, 1) := by decide +kernel
theorem dL_move_3 : decode cL_move 3 = .ok (.aload_n 0, 1) := by decide +kernel
theorem dL_move_4 : decode cL_move 4 = .ok (.iload_n 1, 1) := by decide +kernel
theorem dL_move_5 : decode cL_move 5 = .ok (.iload_n 2, 1) := by decide +kernel
theorem dL_move_6 : decode cL_move 6 = .ok (.iload_n 3, 1) := by decide +kernel
theorem dL_move_7 : decode cL_move 7 = .ok (.invokevirtual 26, 3) := by decide +kernel
theorem dL_move_10 : decode cL_move 10 = .ok (.i2l, 1) := by decide +kernel
theorem dL_move_11 : decode cL_move 11 = .ok (.lastore, 1) := by decide +kernel
theorem dL_move_12 : decode cL_move 12 = .ok (.goto 15, 3) := by decide +kernel
theorem dL_move_15 : decode cL_move 15 = .ok (.astore 5, 2) := by decide +kernel
theorem dL_move_17 : decode cL_move 17 = .ok (.iconst 1, 1) := by decide +kernel
theorem dL_move_18 : decode cL_move 18 = .ok (.ireturn, 1) := by decide +kernel
theorem dL_move_19 : decode cL_move 19 = .ok (.astore 5, 2) := by decide +kernel
theorem dL_move_21 : decode cL_move 21 = .ok (.iconst 2, 1) := by decide +kernel
theorem dL_move_22 : decode cL_move 22 = .ok (.ireturn, 1) := by decide +kernel
theorem dL_move_23 : decode cL_move 23 = .ok (.astore 5, 2) := by decide +kernel
theorem dL_move_25 : decode cL_move 25 = .ok (.iconst 3, 1) := by decide +kernel
theorem dL_move_26 : decode cL_move 26 = .ok (.ireturn, 1) := by decide +kernel
theorem dL_move_27 : decode cL_move 27 = .ok (.iconst 0, 1) := by decide +kernel
theorem dL_move_28 : decode cL_move 28 = .ok (.ireturn, 1) := by decide +kernel
theorem dL_shift_0 : decode cL_shift 0 = .ok (.aload 4, 2) := by decide +kernel
theorem dL_shift_2 : decode cL_shift 2 = .ok (.iconst 0, 1) := by decide +kernel
theorem dL_shift_3 : decode cL_shift 3 = .ok (.aload_n 0, 1) := by decide +kernel
theorem dL_shift_4 : decode cL_shift 4 = .ok (.iload_n 1, 1) := by decide +kernel
theorem dL_shift_5 : decode cL_shift 5 = .ok (.iload_n 2, 1) := by decide +kernel
theorem dL_shift_6 : decode cL_shift 6 = .ok (.iload_n 3, 1) := by decide +kernel
theorem dL_shift_7 : decode cL_shift 7 = .ok (.invokevirtual 30, 3) := by decide +kernel
theorem dL_shift_10 : decode cL_shift 10 = .ok (.i2l, 1) := by decide +kernel
theorem dL_shift_11 : decode cL_shift 11 = .ok (.lastore, 1) := by decide +kernel
theorem dL_shift_12 : decode cL_shift 12 = .ok (.goto 15, 3) := by decide +kernel
theorem dL_shift_15 : decode cL_shift 15 = .ok (.astore 5, 2) := by decide +kernel
theorem dL_shift_17 : decode cL_shift 17 = .ok (.iconst 1, 1) := by decide +kernel
theorem dL_shift_18 : decode cL_shift 18 = .ok (.ireturn, 1) := by decide +kernel
theorem dL_shift_19 : decode cL_shift 19 = .ok (.astore 5, 2) := by decide +kernel
theorem dL_shift_21 : decode cL_shift 21 = .ok (.iconst 2, 1) := by decide +kernel
theorem dL_shift_22 : decode cL_shift 22 = .ok (.ireturn, 1) := by decide +kernel
theorem dL_shift_23 : decode cL_shift 23 = .ok (.astore 5, 2) := by decide +kernel
theorem dL_shift_25 : decode cL_shift 25 = .ok (.iconst 3, 1) := by decide +kernel
theorem dL_shift_26 : decode cL_shift 26 = .ok (.ireturn, 1) := by decide +kernel
theorem dL_shift_27 : decode cL_shift 27 = .ok (.iconst 0, 1) := by decide +kernel
theorem dL_shift_28 : decode cL_shift 28 = .ok (.ireturn, 1) := by decide +kernel
theorem dL_leave_0 : decode cL_leave 0 = .ok (.aload_n 3, 1) := by decide +kernel
theorem dL_leave_1 : decode cL_leave 1 = .ok (.iconst 0, 1) := by decide +kernel
theorem dL_leave_2 : decode cL_leave 2 = .ok (.aload_n 0, 1) := by decide +kernel
theorem dL_leave_3 : decode cL_leave 3 = .ok (.iload_n 1, 1) := by decide +kernel
theorem dL_leave_4 : decode cL_leave 4 = .ok (.iload_n 2, 1) := by decide +kernel
theorem dL_leave_5 : decode cL_leave 5 = .ok (.invokevirtual 33, 3) := by decide +kernel
theorem dL_leave_8 : decode cL_leave 8 = .ok (.i2l, 1) := by decide +kernel
theorem dL_leave_9 : decode cL_leave 9 = .ok (.lastore, 1) := by decide +kernel
theorem dL_leave_10 : decode cL_leave 10 = .ok (.goto 15, 3) := by decide +kernel
theorem dL_leave_13 : decode cL_leave 13 = .ok (.astore 4, 2) := by decide +kernel
theorem dL_leave_15 : decode cL_leave 15 = .ok (.iconst 1, 1) := by decide +kernel
theorem dL_leave_16 : decode cL_leave 16 = .ok (.ireturn, 1) := by decide +kernel
theorem dL_leave_17 : decode cL_leave 17 = .ok (.astore 4, 2) := by decide +kernel
theorem dL_leave_19 : decode cL_leave 19 = .ok (.iconst 2, 1) := by decide +kernel
theorem dL_leave_20 : decode cL_leave 20 = .ok (.ireturn, 1) := by decide +kernel
theorem dL_leave_21 : decode cL_leave 21 = .ok (.astore 4, 2) := by decide +kernel
theorem dL_leave_23 : decode cL_leave 23 = .ok (.iconst 3, 1) := by decide +kernel
theorem dL_leave_24 : decode cL_leave 24 = .ok (.ireturn, 1) := by decide +kernel
theorem dL_leave_25 : decode cL_leave 25 = .ok (.iconst 0, 1) := by decide +kernel
theorem dL_leave_26 : decode cL_leave 26 = .ok (.ireturn, 1) := by decide +kernel
theorem dL_strike_0 : decode cL_strike 0 = .ok (.aload_n 2, 1) := by decide +kernel
theorem dL_strike_1 : decode cL_strike 1 = .ok (.iconst 0, 1) := by decide +kernel
theorem dL_strike_2 : decode cL_strike 2 = .ok (.aload_n 0, 1) := by decide +kernel
theorem dL_strike_3 : decode cL_strike 3 = .ok (.iload_n 1, 1) := by decide +kernel
theorem dL_strike_4 : decode cL_strike 4 = .ok (.invokevirtual 36, 3) := by decide +kernel
theorem dL_strike_7 : decode cL_strike 7 = .ok (.i2l, 1) := by decide +kernel
theorem dL_strike_8 : decode cL_strike 8 = .ok (.lastore, 1) := by decide +kernel
theorem dL_strike_9 : decode cL_strike 9 = .ok (.goto 9, 3) := by decide +kernel
theorem dL_strike_12 : decode cL_strike 12 = .ok (.astore_n 3, 1) := by decide +kernel
theorem dL_strike_13 : decode cL_strike 13 = .ok (.iconst 1, 1) := by decide +kernel
theorem dL_strike_14 : decode cL_strike 14 = .ok (.ireturn, 1) := by decide +kernel
theorem dL_strike_15 : decode cL_strike 15 = .ok (.astore_n 3, 1) := by decide +kernel
theorem dL_strike_16 : decode cL_strike 16 = .ok (.iconst 2, 1) := by decide +kernel
theorem dL_strike_17 : decode cL_strike 17 = .ok (.ireturn, 1) := by decide +kernel
theorem dL_strike_18 : decode cL_strike 18 = .ok (.iconst 0, 1) := by decide +kernel
theorem dL_strike_19 : decode cL_strike 19 = .ok (.ireturn, 1) := by decide +kernel
theorem dL_count_0 : decode cL_count 0 = .ok (.aload_n 2, 1) := by decide +kernel
theorem dL_count_1 : decode cL_count 1 = .ok (.iconst 0, 1) := by decide +kernel
theorem dL_count_2 : decode cL_count 2 = .ok (.aload_n 0, 1) := by decide +kernel
theorem dL_count_3 : decode cL_count 3 = .ok (.iload_n 1, 1) := by decide +kernel
theorem dL_count_4 : decode cL_count 4 = .ok (.invokevirtual 40, 3) := by decide +kernel
theorem dL_count_7 : decode cL_count 7 = .ok (.i2l, 1) := by decide +kernel
theorem dL_count_8 : decode cL_count 8 = .ok (.lastore, 1) := by decide +kernel
theorem dL_count_9 : decode cL_count 9 = .ok (.goto 6, 3) := by decide +kernel
theorem dL_count_12 : decode cL_count 12 = .ok (.astore_n 3, 1) := by decide +kernel
theorem dL_count_13 : decode cL_count 13 = .ok (.iconst 1, 1) := by decide +kernel
theorem dL_count_14 : decode cL_count 14 = .ok (.ireturn, 1) := by decide +kernel
theorem dL_count_15 : decode cL_count 15 = .ok (.iconst 0, 1) := by decide +kernel
theorem dL_count_16 : decode cL_count 16 = .ok (.ireturn, 1) := by decide +kernel
theorem dL_cue_0 : decode cL_cue 0 = .ok (.aload_n 3, 1) := by decide +kernel
theorem dL_cue_1 : decode cL_cue 1 = .ok (.iconst 0, 1) := by decide +kernel
theorem dL_cue_2 : decode cL_cue 2 = .ok (.aload_n 0, 1) := by decide +kernel
theorem dL_cue_3 : decode cL_cue 3 = .ok (.iload_n 1, 1) := by decide +kernel
theorem dL_cue_4 : decode cL_cue 4 = .ok (.iload_n 2, 1) := by decide +kernel
theorem dL_cue_5 : decode cL_cue 5 = .ok (.invokevirtual 43, 3) := by decide +kernel
theorem dL_cue_8 : decode cL_cue 8 = .ok (.i2l, 1) := by decide +kernel
theorem dL_cue_9 : decode cL_cue 9 = .ok (.lastore, 1) := by decide +kernel
theorem dL_cue_10 : decode cL_cue 10 = .ok (.goto 7, 3) := by decide +kernel
theorem dL_cue_13 : decode cL_cue 13 = .ok (.astore 4, 2) := by decide +kernel
theorem dL_cue_15 : decode cL_cue 15 = .ok (.iconst 1, 1) := by decide +kernel
theorem dL_cue_16 : decode cL_cue 16 = .ok (.ireturn, 1) := by decide +kernel
theorem dL_cue_17 : decode cL_cue 17 = .ok (.iconst 0, 1) := by decide +kernel
theorem dL_cue_18 : decode cL_cue 18 = .ok (.ireturn, 1) := by decide +kernel
theorem dL_place_0 : decode cL_place 0 = .ok (.aload_n 3, 1) := by decide +kernel
theorem dL_place_1 : decode cL_place 1 = .ok (.iconst 0, 1) := by decide +kernel
theorem dL_place_2 : decode cL_place 2 = .ok (.aload_n 0, 1) := by decide +kernel
theorem dL_place_3 : decode cL_place 3 = .ok (.iload_n 1, 1) := by decide +kernel
theorem dL_place_4 : decode cL_place 4 = .ok (.iload_n 2, 1) := by decide +kernel
theorem dL_place_5 : decode cL_place 5 = .ok (.invokevirtual 46, 3) := by decide +kernel
theorem dL_place_8 : decode cL_place 8 = .ok (.i2l, 1) := by decide +kernel
theorem dL_place_9 : decode cL_place 9 = .ok (.lastore, 1) := by decide +kernel
theorem dL_place_10 : decode cL_place 10 = .ok (.goto 11, 3) := by decide +kernel
theorem dL_place_13 : decode cL_place 13 = .ok (.astore 4, 2) := by decide +kernel
theorem dL_place_15 : decode cL_place 15 = .ok (.iconst 1, 1) := by decide +kernel
theorem dL_place_16 : decode cL_place 16 = .ok (.ireturn, 1) := by decide +kernel
theorem dL_place_17 : decode cL_place 17 = .ok (.astore 4, 2) := by decide +kernel
theorem dL_place_19 : decode cL_place 19 = .ok (.iconst 2, 1) := by decide +kernel
theorem dL_place_20 : decode cL_place 20 = .ok (.ireturn, 1) := by decide +kernel
theorem dL_place_21 : decode cL_place 21 = .ok (.iconst 0, 1) := by decide +kernel
theorem dL_place_22 : decode cL_place 22 = .ok (.ireturn, 1) := by decide +kernel
theorem dL_track_0 : decode cL_track 0 = .ok (.aload_n 3, 1) := by decide +kernel
theorem dL_track_1 : decode cL_track 1 = .ok (.iconst 0, 1) := by decide +kernel
theorem dL_track_2 : decode cL_track 2 = .ok (.aload_n 0, 1) := by decide +kernel
theorem dL_track_3 : decode cL_track 3 = .ok (.iload_n 1, 1) := by decide +kernel
theorem dL_track_4 : decode cL_track 4 = .ok (.iload_n 2, 1) := by decide +kernel
theorem dL_track_5 : decode cL_track 5 = .ok (.invokevirtual 49, 3) := by decide +kernel
theorem dL_track_8 : decode cL_track 8 = .ok (.i2l, 1) := by decide +kernel
theorem dL_track_9 : decode cL_track 9 = .ok (.lastore, 1) := by decide +kernel
theorem dL_track_10 : decode cL_track 10 = .ok (.goto 11, 3) := by decide +kernel
theorem dL_track_13 : decode cL_track 13 = .ok (.astore 4, 2) := by decide +kernel
theorem dL_track_15 : decode cL_track 15 = .ok (.iconst 1, 1) := by decide +kernel
theorem dL_track_16 : decode cL_track 16 = .ok (.ireturn, 1) := by decide +kernel
theorem dL_track_17 : decode cL_track 17 = .ok (.astore 4, 2) := by decide +kernel
theorem dL_track_19 : decode cL_track 19 = .ok (.iconst 2, 1) := by decide +kernel
theorem dL_track_20 : decode cL_track 20 = .ok (.ireturn, 1) := by decide +kernel
theorem dL_track_21 : decode cL_track 21 = .ok (.iconst 0, 1) := by decide +kernel
theorem dL_track_22 : decode cL_track 22 = .ok (.ireturn, 1) := by decide +kernel
theorem dL_onStage_0 : decode cL_onStage 0 = .ok (.aload_n 2, 1) := by decide +kernel
theorem dL_onStage_1 : decode cL_onStage 1 = .ok (.iconst 0, 1) := by decide +kernel
theorem dL_onStage_2 : decode cL_onStage 2 = .ok (.aload_n 0, 1) := by decide +kernel
theorem dL_onStage_3 : decode cL_onStage 3 = .ok (.iload_n 1, 1) := by decide +kernel
theorem dL_onStage_4 : decode cL_onStage 4 = .ok (.invokevirtual 52, 3) := by decide +kernel
theorem dL_onStage_7 : decode cL_onStage 7 = .ok (.i2l, 1) := by decide +kernel
theorem dL_onStage_8 : decode cL_onStage 8 = .ok (.lastore, 1) := by decide +kernel
theorem dL_onStage_9 : decode cL_onStage 9 = .ok (.goto 6, 3) := by decide +kernel
theorem dL_onStage_12 : decode cL_onStage 12 = .ok (.astore_n 3, 1) := by decide +kernel
theorem dL_onStage_13 : decode cL_onStage 13 = .ok (.iconst 1, 1) := by decide +kernel
theorem dL_onStage_14 : decode cL_onStage 14 = .ok (.ireturn, 1) := by decide +kernel
theorem dL_onStage_15 : decode cL_onStage 15 = .ok (.iconst 0, 1) := by decide +kernel
theorem dL_onStage_16 : decode cL_onStage 16 = .ok (.ireturn, 1) := by decide +kernel
theorem dL_clash_0 : decode cL_clash 0 = .ok (.aload_n 3, 1) := by decide +kernel
theorem dL_clash_1 : decode cL_clash 1 = .ok (.iconst 0, 1) := by decide +kernel
theorem dL_clash_2 : decode cL_clash 2 = .ok (.aload_n 0, 1) := by decide +kernel
theorem dL_clash_3 : decode cL_clash 3 = .ok (.iload_n 1, 1) := by decide +kernel
theorem dL_clash_4 : decode cL_clash 4 = .ok (.iload_n 2, 1) := by decide +kernel
theorem dL_clash_5 : decode cL_clash 5 = .ok (.invokevirtual 55, 3) := by decide +kernel
theorem dL_clash_8 : decode cL_clash 8 = .ok (.i2l, 1) := by decide +kernel
theorem dL_clash_9 : decode cL_clash 9 = .ok (.lastore, 1) := by decide +kernel
theorem dL_clash_10 : decode cL_clash 10 = .ok (.goto 11, 3) := by decide +kernel
theorem dL_clash_13 : decode cL_clash 13 = .ok (.astore 4, 2) := by decide +kernel
theorem dL_clash_15 : decode cL_clash 15 = .ok (.iconst 1, 1) := by decide +kernel
theorem dL_clash_16 : decode cL_clash 16 = .ok (.ireturn, 1) := by decide +kernel
theorem dL_clash_17 : decode cL_clash 17 = .ok (.astore 4, 2) := by decide +kernel
theorem dL_clash_19 : decode cL_clash 19 = .ok (.iconst 2, 1) := by decide +kernel
theorem dL_clash_20 : decode cL_clash 20 = .ok (.ireturn, 1) := by decide +kernel
theorem dL_clash_21 : decode cL_clash 21 = .ok (.iconst 0, 1) := by decide +kernel
theorem dL_clash_22 : decode cL_clash 22 = .ok (.ireturn, 1) := by decide +kernel
theorem dL_beats_0 : decode cL_beats 0 = .ok (.aload_n 2, 1) := by decide +kernel
theorem dL_beats_1 : decode cL_beats 1 = .ok (.iconst 0, 1) := by decide +kernel
theorem dL_beats_2 : decode cL_beats 2 = .ok (.aload_n 0, 1) := by decide +kernel
theorem dL_beats_3 : decode cL_beats 3 = .ok (.iload_n 1, 1) := by decide +kernel
theorem dL_beats_4 : decode cL_beats 4 = .ok (.invokevirtual 58, 3) := by decide +kernel
theorem dL_beats_7 : decode cL_beats 7 = .ok (.i2l, 1) := by decide +kernel
theorem dL_beats_8 : decode cL_beats 8 = .ok (.lastore, 1) := by decide +kernel
theorem dL_beats_9 : decode cL_beats 9 = .ok (.goto 6, 3) := by decide +kernel
theorem dL_beats_12 : decode cL_beats 12 = .ok (.astore_n 3, 1) := by decide +kernel
theorem dL_beats_13 : decode cL_beats 13 = .ok (.iconst 1, 1) := by decide +kernel
theorem dL_beats_14 : decode cL_beats 14 = .ok (.ireturn, 1) := by decide +kernel
theorem dL_beats_15 : decode cL_beats 15 = .ok (.iconst 0, 1) := by decide +kernel
theorem dL_beats_16 : decode cL_beats 16 = .ok (.ireturn, 1) := by decide +kernel
theorem dL_stays_0 : decode cL_stays 0 = .ok (.aload_n 2, 1) := by decide +kernel
theorem dL_stays_1 : decode cL_stays 1 = .ok (.iconst 0, 1) := by decide +kernel
theorem dL_stays_2 : decode cL_stays 2 = .ok (.aload_n 0, 1) := by decide +kernel
theorem dL_stays_3 : decode cL_stays 3 = .ok (.iload_n 1, 1) := by decide +kernel
theorem dL_stays_4 : decode cL_stays 4 = .ok (.invokevirtual 61, 3) := by decide +kernel
theorem dL_stays_7 : decode cL_stays 7 = .ok (.i2l, 1) := by decide +kernel
theorem dL_stays_8 : decode cL_stays 8 = .ok (.lastore, 1) := by decide +kernel
theorem dL_stays_9 : decode cL_stays 9 = .ok (.goto 6, 3) := by decide +kernel
theorem dL_stays_12 : decode cL_stays 12 = .ok (.astore_n 3, 1) := by decide +kernel
theorem dL_stays_13 : decode cL_stays 13 = .ok (.iconst 1, 1) := by decide +kernel
theorem dL_stays_14 : decode cL_stays 14 = .ok (.ireturn, 1) := by decide +kernel
theorem dL_stays_15 : decode cL_stays 15 = .ok (.iconst 0, 1) := by decide +kernel
theorem dL_stays_16 : decode cL_stays 16 = .ok (.ireturn, 1) := by decide +kernel
theorem dL_stay_0 : decode cL_stay 0 = .ok (.aload 4, 2) := by decide +kernel
theorem dL_stay_2 : decode cL_stay 2 = .ok (.iconst 0, 1) := by decide +kernel
theorem dL_stay_3 : decode cL_stay 3 = .ok (.aload_n 0, 1) := by decide +kernel
theorem dL_stay_4 : decode cL_stay 4 = .ok (.iload_n 1, 1) := by decide +kernel
theorem dL_stay_5 : decode cL_stay 5 = .ok (.iload_n 2, 1) := by decide +kernel
theorem dL_stay_6 : decode cL_stay 6 = .ok (.iload_n 3, 1) := by decide +kernel
theorem dL_stay_7 : decode cL_stay 7 = .ok (.invokevirtual 64, 3) := by decide +kernel
theorem dL_stay_10 : decode cL_stay 10 = .ok (.i2l, 1) := by decide +kernel
theorem dL_stay_11 : decode cL_stay 11 = .ok (.lastore, 1) := by decide +kernel
theorem dL_stay_12 : decode cL_stay 12 = .ok (.goto 7, 3) := by decide +kernel
theorem dL_stay_15 : decode cL_stay 15 = .ok (.astore 5, 2) := by decide +kernel
theorem dL_stay_17 : decode cL_stay 17 = .ok (.iconst 1, 1) := by decide +kernel
theorem dL_stay_18 : decode cL_stay 18 = .ok (.ireturn, 1) := by decide +kernel
theorem dL_stay_19 : decode cL_stay 19 = .ok (.iconst 0, 1) := by decide +kernel
theorem dL_stay_20 : decode cL_stay 20 = .ok (.ireturn, 1) := by decide +kernel
theorem dL_hands_0 : decode cL_hands 0 = .ok (.aload_n 3, 1) := by decide +kernel
theorem dL_hands_1 : decode cL_hands 1 = .ok (.iconst 0, 1) := by decide +kernel
theorem dL_hands_2 : decode cL_hands 2 = .ok (.aload_n 0, 1) := by decide +kernel
theorem dL_hands_3 : decode cL_hands 3 = .ok (.iload_n 1, 1) := by decide +kernel
theorem dL_hands_4 : decode cL_hands 4 = .ok (.iload_n 2, 1) := by decide +kernel
theorem dL_hands_5 : decode cL_hands 5 = .ok (.invokevirtual 67, 3) := by decide +kernel
theorem dL_hands_8 : decode cL_hands 8 = .ok (.i2l, 1) := by decide +kernel
theorem dL_hands_9 : decode cL_hands 9 = .ok (.lastore, 1) := by decide +kernel
theorem dL_hands_10 : decode cL_hands 10 = .ok (.goto 11, 3) := by decide +kernel
theorem dL_hands_13 : decode cL_hands 13 = .ok (.astore 4, 2) := by decide +kernel
theorem dL_hands_15 : decode cL_hands 15 = .ok (.iconst 1, 1) := by decide +kernel
theorem dL_hands_16 : decode cL_hands 16 = .ok (.ireturn, 1) := by decide +kernel
theorem dL_hands_17 : decode cL_hands 17 = .ok (.astore 4, 2) := by decide +kernel
theorem dL_hands_19 : decode cL_hands 19 = .ok (.iconst 2, 1) := by decide +kernel
theorem dL_hands_20 : decode cL_hands 20 = .ok (.ireturn, 1) := by decide +kernel
theorem dL_hands_21 : decode cL_hands 21 = .ok (.iconst 0, 1) := by decide +kernel
theorem dL_hands_22 : decode cL_hands 22 = .ok (.ireturn, 1) := by decide +kernel
theorem dL_load_0 : decode cL_load 0 = .ok (.aload_n 2, 1) := by decide +kernel
theorem dL_load_1 : decode cL_load 1 = .ok (.iconst 0, 1) := by decide +kernel
theorem dL_load_2 : decode cL_load 2 = .ok (.aload_n 0, 1) := by decide +kernel
theorem dL_load_3 : decode cL_load 3 = .ok (.iload_n 1, 1) := by decide +kernel
theorem dL_load_4 : decode cL_load 4 = .ok (.invokevirtual 70, 3) := by decide +kernel
theorem dL_load_7 : decode cL_load 7 = .ok (.i2l, 1) := by decide +kernel
theorem dL_load_8 : decode cL_load 8 = .ok (.lastore, 1) := by decide +kernel
theorem dL_load_9 : decode cL_load 9 = .ok (.goto 6, 3) := by decide +kernel
theorem dL_load_12 : decode cL_load 12 = .ok (.astore_n 3, 1) := by decide +kernel
theorem dL_load_13 : decode cL_load 13 = .ok (.iconst 1, 1) := by decide +kernel
theorem dL_load_14 : decode cL_load 14 = .ok (.ireturn, 1) := by decide +kernel
theorem dL_load_15 : decode cL_load 15 = .ok (.iconst 0, 1) := by decide +kernel
theorem dL_load_16 : decode cL_load 16 = .ok (.ireturn, 1) := by decide +kernel
theorem dL_note_0 : decode cL_note 0 = .ok (.aload_n 3, 1) := by decide +kernel
theorem dL_note_1 : decode cL_note 1 = .ok (.iconst 0, 1) := by decide +kernel
theorem dL_note_2 : decode cL_note 2 = .ok (.aload_n 0, 1) := by decide +kernel
theorem dL_note_3 : decode cL_note 3 = .ok (.iload_n 1, 1) := by decide +kernel
theorem dL_note_4 : decode cL_note 4 = .ok (.iload_n 2, 1) := by decide +kernel
theorem dL_note_5 : decode cL_note 5 = .ok (.invokevirtual 73, 3) := by decide +kernel
theorem dL_note_8 : decode cL_note 8 = .ok (.i2l, 1) := by decide +kernel
theorem dL_note_9 : decode cL_note 9 = .ok (.lastore, 1) := by decide +kernel
theorem dL_note_10 : decode cL_note 10 = .ok (.goto 15, 3) := by decide +kernel
theorem dL_note_13 : decode cL_note 13 = .ok (.astore 4, 2) := by decide +kernel
theorem dL_note_15 : decode cL_note 15 = .ok (.iconst 1, 1) := by decide +kernel
theorem dL_note_16 : decode cL_note 16 = .ok (.ireturn, 1) := by decide +kernel
theorem dL_note_17 : decode cL_note 17 = .ok (.astore 4, 2) := by decide +kernel
theorem dL_note_19 : decode cL_note 19 = .ok (.iconst 2, 1) := by decide +kernel
theorem dL_note_20 : decode cL_note 20 = .ok (.ireturn, 1) := by decide +kernel
theorem dL_note_21 : decode cL_note 21 = .ok (.astore 4, 2) := by decide +kernel
theorem dL_note_23 : decode cL_note 23 = .ok (.iconst 3, 1) := by decide +kernel
theorem dL_note_24 : decode cL_note 24 = .ok (.ireturn, 1) := by decide +kernel
theorem dL_note_25 : decode cL_note 25 = .ok (.iconst 0, 1) := by decide +kernel
theorem dL_note_26 : decode cL_note 26 = .ok (.ireturn, 1) := by decide +kernel
theorem dL_mean_0 : decode cL_mean 0 = .ok (.aload_n 2, 1) := by decide +kernel
theorem dL_mean_1 : decode cL_mean 1 = .ok (.iconst 0, 1) := by decide +kernel
theorem dL_mean_2 : decode cL_mean 2 = .ok (.aload_n 0, 1) := by decide +kernel
theorem dL_mean_3 : decode cL_mean 3 = .ok (.iload_n 1, 1) := by decide +kernel
theorem dL_mean_4 : decode cL_mean 4 = .ok (.invokevirtual 76, 3) := by decide +kernel
theorem dL_mean_7 : decode cL_mean 7 = .ok (.dastore, 1) := by decide +kernel
theorem dL_mean_8 : decode cL_mean 8 = .ok (.goto 6, 3) := by decide +kernel
theorem dL_mean_11 : decode cL_mean 11 = .ok (.astore_n 3, 1) := by decide +kernel
theorem dL_mean_12 : decode cL_mean 12 = .ok (.iconst 1, 1) := by decide +kernel
theorem dL_mean_13 : decode cL_mean 13 = .ok (.ireturn, 1) := by decide +kernel
theorem dL_mean_14 : decode cL_mean 14 = .ok (.iconst 0, 1) := by decide +kernel
theorem dL_mean_15 : decode cL_mean 15 = .ok (.ireturn, 1) := by decide +kernel
theorem dL_law_0 : decode cL_law 0 = .ok (.new 8, 3) := by decide +kernel
theorem dL_law_3 : decode cL_law 3 = .ok (.dup, 1) := by decide +kernel
theorem dL_law_4 : decode cL_law 4 = .ok (.invokespecial 80, 3) := by decide +kernel
theorem dL_law_7 : decode cL_law 7 = .ok (.astore_n 1, 1) := by decide +kernel
theorem dL_law_8 : decode cL_law 8 = .ok (.new 81, 3) := by decide +kernel
theorem dL_law_11 : decode cL_law 11 = .ok (.dup, 1) := by decide +kernel
theorem dL_law_12 : decode cL_law 12 = .ok (.invokespecial 83, 3) := by decide +kernel
theorem dL_law_15 : decode cL_law 15 = .ok (.astore_n 2, 1) := by decide +kernel
theorem dL_law_16 : decode cL_law 16 = .ok (.iconst 1, 1) := by decide +kernel
theorem dL_law_17 : decode cL_law 17 = .ok (.newarray .long, 2) := by decide +kernel
theorem dL_law_19 : decode cL_law 19 = .ok (.astore_n 3, 1) := by decide +kernel
theorem dL_law_20 : decode cL_law 20 = .ok (.iconst 1, 1) := by decide +kernel
theorem dL_law_21 : decode cL_law 21 = .ok (.newarray .double, 2) := by decide +kernel
theorem dL_law_23 : decode cL_law 23 = .ok (.astore 4, 2) := by decide +kernel
theorem dL_law_25 : decode cL_law 25 = .ok (.iconst 0, 1) := by decide +kernel
theorem dL_law_26 : decode cL_law 26 = .ok (.istore 5, 2) := by decide +kernel
theorem dL_law_28 : decode cL_law 28 = .ok (.iload 5, 2) := by decide +kernel
theorem dL_law_30 : decode cL_law 30 = .ok (.aload_n 0, 1) := by decide +kernel
theorem dL_law_31 : decode cL_law 31 = .ok (.arraylength, 1) := by decide +kernel
theorem dL_law_32 : decode cL_law 32 = .ok (.iconst 5, 1) := by decide +kernel
theorem dL_law_33 : decode cL_law 33 = .ok (.isub, 1) := by decide +kernel
theorem dL_law_34 : decode cL_law 34 = .ok (.if_icmp .gt 1538, 3) := by decide +kernel
theorem dL_law_37 : decode cL_law 37 = .ok (.aload_n 0, 1) := by decide +kernel
theorem dL_law_38 : decode cL_law 38 = .ok (.iload 5, 2) := by decide +kernel
theorem dL_law_40 : decode cL_law 40 = .ok (.iaload, 1) := by decide +kernel
theorem dL_law_41 : decode cL_law 41 = .ok (.bipush 31, 2) := by decide +kernel
theorem dL_law_43 : decode cL_law 43 = .ok (.iand, 1) := by decide +kernel
theorem dL_law_44 : decode cL_law 44 = .ok (.tableswitch 1522 0 23 #[112, 180, 248, 340, 420, 500, 568, 624, 680, 748, 816, 884, 940, 1008, 1021, 1077, 1133, 1213, 1226, 1294, 1350, 1418, 1495, 1508], 112) := by decide +kernel
theorem dL_law_156 : decode cL_law 156 = .ok (.aload_n 1, 1) := by decide +kernel
theorem dL_law_157 : decode cL_law 157 = .ok (.aload_n 0, 1) := by decide +kernel
theorem dL_law_158 : decode cL_law 158 = .ok (.iload 5, 2) := by decide +kernel
theorem dL_law_160 : decode cL_law 160 = .ok (.iconst 1, 1) := by decide +kernel
theorem dL_law_161 : decode cL_law 161 = .ok (.iadd, 1) := by decide +kernel
theorem dL_law_162 : decode cL_law 162 = .ok (.iaload, 1) := by decide +kernel
theorem dL_law_163 : decode cL_law 163 = .ok (.aload_n 0, 1) := by decide +kernel
theorem dL_law_164 : decode cL_law 164 = .ok (.iload 5, 2) := by decide +kernel
theorem dL_law_166 : decode cL_law 166 = .ok (.iconst 2, 1) := by decide +kernel
theorem dL_law_167 : decode cL_law 167 = .ok (.iadd, 1) := by decide +kernel
theorem dL_law_168 : decode cL_law 168 = .ok (.iaload, 1) := by decide +kernel
theorem dL_law_169 : decode cL_law 169 = .ok (.aload_n 3, 1) := by decide +kernel
theorem dL_law_170 : decode cL_law 170 = .ok (.invokestatic 84, 3) := by decide +kernel
theorem dL_law_173 : decode cL_law 173 = .ok (.istore 6, 2) := by decide +kernel
theorem dL_law_175 : decode cL_law 175 = .ok (.aload_n 2, 1) := by decide +kernel
theorem dL_law_176 : decode cL_law 176 = .ok (.aload_n 0, 1) := by decide +kernel
theorem dL_law_177 : decode cL_law 177 = .ok (.iload 5, 2) := by decide +kernel
theorem dL_law_179 : decode cL_law 179 = .ok (.iconst 1, 1) := by decide +kernel
theorem dL_law_180 : decode cL_law 180 = .ok (.iadd, 1) := by decide +kernel
theorem dL_law_181 : decode cL_law 181 = .ok (.iaload, 1) := by decide +kernel
theorem dL_law_182 : decode cL_law 182 = .ok (.aload_n 0, 1) := by decide +kernel
theorem dL_law_183 : decode cL_law 183 = .ok (.iload 5, 2) := by decide +kernel
theorem dL_law_185 : decode cL_law 185 = .ok (.iconst 2, 1) := by decide +kernel
theorem dL_law_186 : decode cL_law 186 = .ok (.iadd, 1) := by decide +kernel
theorem dL_law_187 : decode cL_law 187 = .ok (.iaload, 1) := by decide +kernel
theorem dL_law_188 : decode cL_law 188 = .ok (.invokevirtual 89, 3) := by decide +kernel
theorem dL_law_191 : decode cL_law 191 = .ok (.istore 7, 2) := by decide +kernel
theorem dL_law_193 : decode cL_law 193 = .ok (.aload_n 2, 1) := by decide +kernel
theorem dL_law_194 : decode cL_law 194 = .ok (.invokevirtual 90, 3) := by decide +kernel
theorem dL_law_197 : decode cL_law 197 = .ok (.iload 6, 2) := by decide +kernel
theorem dL_law_199 : decode cL_law 199 = .ok (.if_icmp .eq 5, 3) := by decide +kernel
theorem dL_law_202 : decode cL_law 202 = .ok (.iconst 0, 1) := by decide +kernel
theorem dL_law_203 : decode cL_law 203 = .ok (.ireturn, 1) := by decide +kernel
theorem dL_law_204 : decode cL_law 204 = .ok (.iload 6, 2) := by decide +kernel
theorem dL_law_206 : decode cL_law 206 = .ok (.ifCond .ne 15, 3) := by decide +kernel
theorem dL_law_209 : decode cL_law 209 = .ok (.aload_n 3, 1) := by decide +kernel
theorem dL_law_210 : decode cL_law 210 = .ok (.iconst 0, 1) := by decide +kernel
theorem dL_law_211 : decode cL_law 211 = .ok (.laload, 1) := by decide +kernel
theorem dL_law_212 : decode cL_law 212 = .ok (.iload 7, 2) := by decide +kernel
theorem dL_law_214 : decode cL_law 214 = .ok (.i2l, 1) := by decide +kernel
theorem dL_law_215 : decode cL_law 215 = .ok (.lcmp, 1) := by decide +kernel
theorem dL_law_216 : decode cL_law 216 = .ok (.ifCond .eq 5, 3) := by decide +kernel
theorem dL_law_219 : decode cL_law 219 = .ok (.iconst 0, 1) := by decide +kernel
theorem dL_law_220 : decode cL_law 220 = .ok (.ireturn, 1) := by decide +kernel
theorem dL_law_221 : decode cL_law 221 = .ok (.goto 1345, 3) := by decide +kernel
theorem dL_law_224 : decode cL_law 224 = .ok (.aload_n 1, 1) := by decide +kernel
theorem dL_law_225 : decode cL_law 225 = .ok (.aload_n 0, 1) := by decide +kernel
theorem dL_law_226 : decode cL_law 226 = .ok (.iload 5, 2) := by decide +kernel
theorem dL_law_228 : decode cL_law 228 = .ok (.iconst 1, 1) := by decide +kernel
theorem dL_law_229 : decode cL_law 229 = .ok (.iadd, 1) := by decide +kernel
theorem dL_law_230 : decode cL_law 230 = .ok (.iaload, 1) := by decide +kernel
theorem dL_law_231 : decode cL_law 231 = .ok (.aload_n 0, 1) := by decide +kernel
theorem dL_law_232 : decode cL_law 232 = .ok (.iload 5, 2) := by decide +kernel
theorem dL_law_234 : decode cL_law 234 = .ok (.iconst 2, 1) := by decide +kernel
theorem dL_law_235 : decode cL_law 235 = .ok (.iadd, 1) := by decide +kernel
theorem dL_law_236 : decode cL_law 236 = .ok (.iaload, 1) := by decide +kernel
theorem dL_law_237 : decode cL_law 237 = .ok (.aload_n 3, 1) := by decide +kernel
theorem dL_law_238 : decode cL_law 238 = .ok (.invokestatic 94, 3) := by decide +kernel
theorem dL_law_241 : decode cL_law 241 = .ok (.istore 6, 2) := by decide +kernel
theorem dL_law_243 : decode cL_law 243 = .ok (.aload_n 2, 1) := by decide +kernel
theorem dL_law_244 : decode cL_law 244 = .ok (.aload_n 0, 1) := by decide +kernel
theorem dL_law_245 : decode cL_law 245 = .ok (.iload 5, 2) := by decide +kernel
theorem dL_law_247 : decode cL_law 247 = .ok (.iconst 1, 1) := by decide +kernel
theorem dL_law_248 : decode cL_law 248 = .ok (.iadd, 1) := by decide +kernel
theorem dL_law_249 : decode cL_law 249 = .ok (.iaload, 1) := by decide +kernel
theorem dL_law_250 : decode cL_law 250 = .ok (.aload_n 0, 1) := by decide +kernel
theorem dL_law_251 : decode cL_law 251 = .ok (.iload 5, 2) := by decide +kernel
theorem dL_law_253 : decode cL_law 253 = .ok (.iconst 2, 1) := by decide +kernel
theorem dL_law_254 : decode cL_law 254 = .ok (.iadd, 1) := by decide +kernel
theorem dL_law_255 : decode cL_law 255 = .ok (.iaload, 1) := by decide +kernel
theorem dL_law_256 : decode cL_law 256 = .ok (.invokevirtual 96, 3) := by decide +kernel
theorem dL_law_259 : decode cL_law 259 = .ok (.istore 7, 2) := by decide +kernel
theorem dL_law_261 : decode cL_law 261 = .ok (.aload_n 2, 1) := by decide +kernel
theorem dL_law_262 : decode cL_law 262 = .ok (.invokevirtual 90, 3) := by decide +kernel
theorem dL_law_265 : decode cL_law 265 = .ok (.iload 6, 2) := by decide +kernel
theorem dL_law_267 : decode cL_law 267 = .ok (.if_icmp .eq 5, 3) := by decide +kernel
theorem dL_law_270 : decode cL_law 270 = .ok (.iconst 0, 1) := by decide +kernel
theorem dL_law_271 : decode cL_law 271 = .ok (.ireturn, 1) := by decide +kernel
theorem dL_law_272 : decode cL_law 272 = .ok (.iload 6, 2) := by decide +kernel
theorem dL_law_274 : decode cL_law 274 = .ok (.ifCond .ne 15, 3) := by decide +kernel
theorem dL_law_277 : decode cL_law 277 = .ok (.aload_n 3, 1) := by decide +kernel
theorem dL_law_278 : decode cL_law 278 = .ok (.iconst 0, 1) := by decide +kernel
theorem dL_law_279 : decode cL_law 279 = .ok (.laload, 1) := by decide +kernel
theorem dL_law_280 : decode cL_law 280 = .ok (.iload 7, 2) := by decide +kernel
theorem dL_law_282 : decode cL_law 282 = .ok (.i2l, 1) := by decide +kernel
theorem dL_law_283 : decode cL_law 283 = .ok (.lcmp, 1) := by decide +kernel
theorem dL_law_284 : decode cL_law 284 = .ok (.ifCond .eq 5, 3) := by decide +kernel
theorem dL_law_287 : decode cL_law 287 = .ok (.iconst 0, 1) := by decide +kernel
theorem dL_law_288 : decode cL_law 288 = .ok (.ireturn, 1) := by decide +kernel
theorem dL_law_289 : decode cL_law 289 = .ok (.goto 1277, 3) := by decide +kernel
theorem dL_law_292 : decode cL_law 292 = .ok (.aload_n 1, 1) := by decide +kernel
theorem dL_law_293 : decode cL_law 293 = .ok (.aload_n 0, 1) := by decide +kernel
theorem dL_law_294 : decode cL_law 294 = .ok (.iload 5, 2) := by decide +kernel
theorem dL_law_296 : decode cL_law 296 = .ok (.iconst 1, 1) := by decide +kernel
theorem dL_law_297 : decode cL_law 297 = .ok (.iadd, 1) := by decide +kernel
theorem dL_law_298 : decode cL_law 298 = .ok (.iaload, 1) := by decide +kernel
theorem dL_law_299 : decode cL_law 299 = .ok (.aload_n 0, 1) := by decide +kernel
theorem dL_law_300 : decode cL_law 300 = .ok (.iload 5, 2) := by decide +kernel
theorem dL_law_302 : decode cL_law 302 = .ok (.iconst 2, 1) := by decide +kernel
theorem dL_law_303 : decode cL_law 303 = .ok (.iadd, 1) := by decide +kernel
theorem dL_law_304 : decode cL_law 304 = .ok (.iaload, 1) := by decide +kernel
theorem dL_law_305 : decode cL_law 305 = .ok (.aload_n 0, 1) := by decide +kernel
theorem dL_law_306 : decode cL_law 306 = .ok (.iload 5, 2) := by decide +kernel
theorem dL_law_308 : decode cL_law 308 = .ok (.iconst 3, 1) := by decide +kernel
theorem dL_law_309 : decode cL_law 309 = .ok (.iadd, 1) := by decide +kernel
theorem dL_law_310 : decode cL_law 310 = .ok (.iaload, 1) := by decide +kernel
theorem dL_law_311 : decode cL_law 311 = .ok (.aload_n 0, 1) := by decide +kernel
theorem dL_law_312 : decode cL_law 312 = .ok (.iload 5, 2) := by decide +kernel
theorem dL_law_314 : decode cL_law 314 = .ok (.iconst 4, 1) := by decide +kernel
theorem dL_law_315 : decode cL_law 315 = .ok (.iadd, 1) := by decide +kernel
theorem dL_law_316 : decode cL_law 316 = .ok (.iaload, 1) := by decide +kernel
theorem dL_law_317 : decode cL_law 317 = .ok (.aload_n 3, 1) := by decide +kernel
theorem dL_law_318 : decode cL_law 318 = .ok (.invokestatic 97, 3) := by decide +kernel
theorem dL_law_321 : decode cL_law 321 = .ok (.istore 6, 2) := by decide +kernel
theorem dL_law_323 : decode cL_law 323 = .ok (.aload_n 2, 1) := by decide +kernel
theorem dL_law_324 : decode cL_law 324 = .ok (.aload_n 0, 1) := by decide +kernel
theorem dL_law_325 : decode cL_law 325 = .ok (.iload 5, 2) := by decide +kernel
theorem dL_law_327 : decode cL_law 327 = .ok (.iconst 1, 1) := by decide +kernel
theorem dL_law_328 : decode cL_law 328 = .ok (.iadd, 1) := by decide +kernel
theorem dL_law_329 : decode cL_law 329 = .ok (.iaload, 1) := by decide +kernel
theorem dL_law_330 : decode cL_law 330 = .ok (.aload_n 0, 1) := by decide +kernel
theorem dL_law_331 : decode cL_law 331 = .ok (.iload 5, 2) := by decide +kernel
theorem dL_law_333 : decode cL_law 333 = .ok (.iconst 2, 1) := by decide +kernel
theorem dL_law_334 : decode cL_law 334 = .ok (.iadd, 1) := by decide +kernel
theorem dL_law_335 : decode cL_law 335 = .ok (.iaload, 1) := by decide +kernel
theorem dL_law_336 : decode cL_law 336 = .ok (.aload_n 0, 1) := by decide +kernel
theorem dL_law_337 : decode cL_law 337 = .ok (.iload 5, 2) := by decide +kernel
theorem dL_law_339 : decode cL_law 339 = .ok (.iconst 3, 1) := by decide +kernel
theorem dL_law_340 : decode cL_law 340 = .ok (.iadd, 1) := by decide +kernel
theorem dL_law_341 : decode cL_law 341 = .ok (.iaload, 1) := by decide +kernel
theorem dL_law_342 : decode cL_law 342 = .ok (.aload_n 0, 1) := by decide +kernel
theorem dL_law_343 : decode cL_law 343 = .ok (.iload 5, 2) := by decide +kernel
theorem dL_law_345 : decode cL_law 345 = .ok (.iconst 4, 1) := by decide +kernel
theorem dL_law_346 : decode cL_law 346 = .ok (.iadd, 1) := by decide +kernel
theorem dL_law_347 : decode cL_law 347 = .ok (.iaload, 1) := by decide +kernel
theorem dL_law_348 : decode cL_law 348 = .ok (.invokevirtual 100, 3) := by decide +kernel
theorem dL_law_351 : decode cL_law 351 = .ok (.istore 7, 2) := by decide +kernel
theorem dL_law_353 : decode cL_law 353 = .ok (.aload_n 2, 1) := by decide +kernel
theorem dL_law_354 : decode cL_law 354 = .ok (.invokevirtual 90, 3) := by decide +kernel
theorem dL_law_357 : decode cL_law 357 = .ok (.iload 6, 2) := by decide +kernel
theorem dL_law_359 : decode cL_law 359 = .ok (.if_icmp .eq 5, 3) := by decide +kernel
theorem dL_law_362 : decode cL_law 362 = .ok (.iconst 0, 1) := by decide +kernel
theorem dL_law_363 : decode cL_law 363 = .ok (.ireturn, 1) := by decide +kernel
theorem dL_law_364 : decode cL_law 364 = .ok (.iload 6, 2) := by decide +kernel
theorem dL_law_366 : decode cL_law 366 = .ok (.ifCond .ne 15, 3) := by decide +kernel
theorem dL_law_369 : decode cL_law 369 = .ok (.aload_n 3, 1) := by decide +kernel
theorem dL_law_370 : decode cL_law 370 = .ok (.iconst 0, 1) := by decide +kernel
theorem dL_law_371 : decode cL_law 371 = .ok (.laload, 1) := by decide +kernel
theorem dL_law_372 : decode cL_law 372 = .ok (.iload 7, 2) := by decide +kernel
theorem dL_law_374 : decode cL_law 374 = .ok (.i2l, 1) := by decide +kernel
theorem dL_law_375 : decode cL_law 375 = .ok (.lcmp, 1) := by decide +kernel
theorem dL_law_376 : decode cL_law 376 = .ok (.ifCond .eq 5, 3) := by decide +kernel
theorem dL_law_379 : decode cL_law 379 = .ok (.iconst 0, 1) := by decide +kernel
theorem dL_law_380 : decode cL_law 380 = .ok (.ireturn, 1) := by decide +kernel
theorem dL_law_381 : decode cL_law 381 = .ok (.goto 1185, 3) := by decide +kernel
theorem dL_law_384 : decode cL_law 384 = .ok (.aload_n 1, 1) := by decide +kernel
theorem dL_law_385 : decode cL_law 385 = .ok (.aload_n 0, 1) := by decide +kernel
theorem dL_law_386 : decode cL_law 386 = .ok (.iload 5, 2) := by decide +kernel
theorem dL_law_388 : decode cL_law 388 = .ok (.iconst 1, 1) := by decide +kernel
theorem dL_law_389 : decode cL_law 389 = .ok (.iadd, 1) := by decide +kernel
theorem dL_law_390 : decode cL_law 390 = .ok (.iaload, 1) := by decide +kernel
theorem dL_law_391 : decode cL_law 391 = .ok (.aload_n 0, 1) := by decide +kernel
theorem dL_law_392 : decode cL_law 392 = .ok (.iload 5, 2) := by decide +kernel
theorem dL_law_394 : decode cL_law 394 = .ok (.iconst 2, 1) := by decide +kernel
theorem dL_law_395 : decode cL_law 395 = .ok (.iadd, 1) := by decide +kernel
theorem dL_law_396 : decode cL_law 396 = .ok (.iaload, 1) := by decide +kernel
theorem dL_law_397 : decode cL_law 397 = .ok (.aload_n 0, 1) := by decide +kernel
theorem dL_law_398 : decode cL_law 398 = .ok (.iload 5, 2) := by decide +kernel
theorem dL_law_400 : decode cL_law 400 = .ok (.iconst 3, 1) := by decide +kernel
theorem dL_law_401 : decode cL_law 401 = .ok (.iadd, 1) := by decide +kernel
theorem dL_law_402 : decode cL_law 402 = .ok (.iaload, 1) := by decide +kernel
theorem dL_law_403 : decode cL_law 403 = .ok (.aload_n 3, 1) := by decide +kernel
theorem dL_law_404 : decode cL_law 404 = .ok (.invokestatic 101, 3) := by decide +kernel
theorem dL_law_407 : decode cL_law 407 = .ok (.istore 6, 2) := by decide +kernel
theorem dL_law_409 : decode cL_law 409 = .ok (.aload_n 2, 1) := by decide +kernel
theorem dL_law_410 : decode cL_law 410 = .ok (.aload_n 0, 1) := by decide +kernel
theorem dL_law_411 : decode cL_law 411 = .ok (.iload 5, 2) := by decide +kernel
theorem dL_law_413 : decode cL_law 413 = .ok (.iconst 1, 1) := by decide +kernel
theorem dL_law_414 : decode cL_law 414 = .ok (.iadd, 1) := by decide +kernel
theorem dL_law_415 : decode cL_law 415 = .ok (.iaload, 1) := by decide +kernel
theorem dL_law_416 : decode cL_law 416 = .ok (.aload_n 0, 1) := by decide +kernel
theorem dL_law_417 : decode cL_law 417 = .ok (.iload 5, 2) := by decide +kernel
theorem dL_law_419 : decode cL_law 419 = .ok (.iconst 2, 1) := by decide +kernel
theorem dL_law_420 : decode cL_law 420 = .ok (.iadd, 1) := by decide +kernel
theorem dL_law_421 : decode cL_law 421 = .ok (.iaload, 1) := by decide +kernel
theorem dL_law_422 : decode cL_law 422 = .ok (.aload_n 0, 1) := by decide +kernel
theorem dL_law_423 : decode cL_law 423 = .ok (.iload 5, 2) := by decide +kernel
theorem dL_law_425 : decode cL_law 425 = .ok (.iconst 3, 1) := by decide +kernel
theorem dL_law_426 : decode cL_law 426 = .ok (.iadd, 1) := by decide +kernel
theorem dL_law_427 : decode cL_law 427 = .ok (.iaload, 1) := by decide +kernel
theorem dL_law_428 : decode cL_law 428 = .ok (.invokevirtual 104, 3) := by decide +kernel
theorem dL_law_431 : decode cL_law 431 = .ok (.istore 7, 2) := by decide +kernel
theorem dL_law_433 : decode cL_law 433 = .ok (.aload_n 2, 1) := by decide +kernel
theorem dL_law_434 : decode cL_law 434 = .ok (.invokevirtual 90, 3) := by decide +kernel
theorem dL_law_437 : decode cL_law 437 = .ok (.iload 6, 2) := by decide +kernel
theorem dL_law_439 : decode cL_law 439 = .ok (.if_icmp .eq 5, 3) := by decide +kernel
theorem dL_law_442 : decode cL_law 442 = .ok (.iconst 0, 1) := by decide +kernel
theorem dL_law_443 : decode cL_law 443 = .ok (.ireturn, 1) := by decide +kernel
theorem dL_law_444 : decode cL_law 444 = .ok (.iload 6, 2) := by decide +kernel
theorem dL_law_446 : decode cL_law 446 = .ok (.ifCond .ne 15, 3) := by decide +kernel
theorem dL_law_449 : decode cL_law 449 = .ok (.aload_n 3, 1) := by decide +kernel
theorem dL_law_450 : decode cL_law 450 = .ok (.iconst 0, 1) := by decide +kernel
theorem dL_law_451 : decode cL_law 451 = .ok (.laload, 1) := by decide +kernel
theorem dL_law_452 : decode cL_law 452 = .ok (.iload 7, 2) := by decide +kernel
theorem dL_law_454 : decode cL_law 454 = .ok (.i2l, 1) := by decide +kernel
theorem dL_law_455 : decode cL_law 455 = .ok (.lcmp, 1) := by decide +kernel
theorem dL_law_456 : decode cL_law 456 = .ok (.ifCond .eq 5, 3) := by decide +kernel
theorem dL_law_459 : decode cL_law 459 = .ok (.iconst 0, 1) := by decide +kernel
theorem dL_law_460 : decode cL_law 460 = .ok (.ireturn, 1) := by decide +kernel
theorem dL_law_461 : decode cL_law 461 = .ok (.goto 1105, 3) := by decide +kernel
theorem dL_law_464 : decode cL_law 464 = .ok (.aload_n 1, 1) := by decide +kernel
theorem dL_law_465 : decode cL_law 465 = .ok (.aload_n 0, 1) := by decide +kernel
theorem dL_law_466 : decode cL_law 466 = .ok (.iload 5, 2) := by decide +kernel
theorem dL_law_468 : decode cL_law 468 = .ok (.iconst 1, 1) := by decide +kernel
theorem dL_law_469 : decode cL_law 469 = .ok (.iadd, 1) := by decide +kernel
theorem dL_law_470 : decode cL_law 470 = .ok (.iaload, 1) := by decide +kernel
theorem dL_law_471 : decode cL_law 471 = .ok (.aload_n 0, 1) := by decide +kernel
theorem dL_law_472 : decode cL_law 472 = .ok (.iload 5, 2) := by decide +kernel
theorem dL_law_474 : decode cL_law 474 = .ok (.iconst 2, 1) := by decide +kernel
theorem dL_law_475 : decode cL_law 475 = .ok (.iadd, 1) := by decide +kernel
theorem dL_law_476 : decode cL_law 476 = .ok (.iaload, 1) := by decide +kernel
theorem dL_law_477 : decode cL_law 477 = .ok (.aload_n 0, 1) := by decide +kernel
theorem dL_law_478 : decode cL_law 478 = .ok (.iload 5, 2) := by decide +kernel
theorem dL_law_480 : decode cL_law 480 = .ok (.iconst 3, 1) := by decide +kernel
theorem dL_law_481 : decode cL_law 481 = .ok (.iadd, 1) := by decide +kernel
theorem dL_law_482 : decode cL_law 482 = .ok (.iaload, 1) := by decide +kernel
theorem dL_law_483 : decode cL_law 483 = .ok (.aload_n 3, 1) := by decide +kernel
theorem dL_law_484 : decode cL_law 484 = .ok (.invokestatic 105, 3) := by decide +kernel
theorem dL_law_487 : decode cL_law 487 = .ok (.istore 6, 2) := by decide +kernel
theorem dL_law_489 : decode cL_law 489 = .ok (.aload_n 2, 1) := by decide +kernel
theorem dL_law_490 : decode cL_law 490 = .ok (.aload_n 0, 1) := by decide +kernel
theorem dL_law_491 : decode cL_law 491 = .ok (.iload 5, 2) := by decide +kernel
theorem dL_law_493 : decode cL_law 493 = .ok (.iconst 1, 1) := by decide +kernel
theorem dL_law_494 : decode cL_law 494 = .ok (.iadd, 1) := by decide +kernel
theorem dL_law_495 : decode cL_law 495 = .ok (.iaload, 1) := by decide +kernel
theorem dL_law_496 : decode cL_law 496 = .ok (.aload_n 0, 1) := by decide +kernel
theorem dL_law_497 : decode cL_law 497 = .ok (.iload 5, 2) := by decide +kernel
theorem dL_law_499 : decode cL_law 499 = .ok (.iconst 2, 1) := by decide +kernel
theorem dL_law_500 : decode cL_law 500 = .ok (.iadd, 1) := by decide +kernel
theorem dL_law_501 : decode cL_law 501 = .ok (.iaload, 1) := by decide +kernel
theorem dL_law_502 : decode cL_law 502 = .ok (.aload_n 0, 1) := by decide +kernel
theorem dL_law_503 : decode cL_law 503 = .ok (.iload 5, 2) := by decide +kernel
theorem dL_law_505 : decode cL_law 505 = .ok (.iconst 3, 1) := by decide +kernel
theorem dL_law_506 : decode cL_law 506 = .ok (.iadd, 1) := by decide +kernel
theorem dL_law_507 : decode cL_law 507 = .ok (.iaload, 1) := by decide +kernel
theorem dL_law_508 : decode cL_law 508 = .ok (.invokevirtual 107, 3) := by decide +kernel
theorem dL_law_511 : decode cL_law 511 = .ok (.istore 7, 2) := by decide +kernel
theorem dL_law_513 : decode cL_law 513 = .ok (.aload_n 2, 1) := by decide +kernel
theorem dL_law_514 : decode cL_law 514 = .ok (.invokevirtual 90, 3) := by decide +kernel
theorem dL_law_517 : decode cL_law 517 = .ok (.iload 6, 2) := by decide +kernel
theorem dL_law_519 : decode cL_law 519 = .ok (.if_icmp .eq 5, 3) := by decide +kernel
theorem dL_law_522 : decode cL_law 522 = .ok (.iconst 0, 1) := by decide +kernel
theorem dL_law_523 : decode cL_law 523 = .ok (.ireturn, 1) := by decide +kernel
theorem dL_law_524 : decode cL_law 524 = .ok (.iload 6, 2) := by decide +kernel
theorem dL_law_526 : decode cL_law 526 = .ok (.ifCond .ne 15, 3) := by decide +kernel
theorem dL_law_529 : decode cL_law 529 = .ok (.aload_n 3, 1) := by decide +kernel
theorem dL_law_530 : decode cL_law 530 = .ok (.iconst 0, 1) := by decide +kernel
theorem dL_law_531 : decode cL_law 531 = .ok (.laload, 1) := by decide +kernel
theorem dL_law_532 : decode cL_law 532 = .ok (.iload 7, 2) := by decide +kernel
theorem dL_law_534 : decode cL_law 534 = .ok (.i2l, 1) := by decide +kernel
theorem dL_law_535 : decode cL_law 535 = .ok (.lcmp, 1) := by decide +kernel
theorem dL_law_536 : decode cL_law 536 = .ok (.ifCond .eq 5, 3) := by decide +kernel
theorem dL_law_539 : decode cL_law 539 = .ok (.iconst 0, 1) := by decide +kernel
theorem dL_law_540 : decode cL_law 540 = .ok (.ireturn, 1) := by decide +kernel
theorem dL_law_541 : decode cL_law 541 = .ok (.goto 1025, 3) := by decide +kernel
theorem dL_law_544 : decode cL_law 544 = .ok (.aload_n 1, 1) := by decide +kernel
theorem dL_law_545 : decode cL_law 545 = .ok (.aload_n 0, 1) := by decide +kernel
theorem dL_law_546 : decode cL_law 546 = .ok (.iload 5, 2) := by decide +kernel
theorem dL_law_548 : decode cL_law 548 = .ok (.iconst 1, 1) := by decide +kernel
theorem dL_law_549 : decode cL_law 549 = .ok (.iadd, 1) := by decide +kernel
theorem dL_law_550 : decode cL_law 550 = .ok (.iaload, 1) := by decide +kernel
theorem dL_law_551 : decode cL_law 551 = .ok (.aload_n 0, 1) := by decide +kernel
theorem dL_law_552 : decode cL_law 552 = .ok (.iload 5, 2) := by decide +kernel
theorem dL_law_554 : decode cL_law 554 = .ok (.iconst 2, 1) := by decide +kernel
theorem dL_law_555 : decode cL_law 555 = .ok (.iadd, 1) := by decide +kernel
theorem dL_law_556 : decode cL_law 556 = .ok (.iaload, 1) := by decide +kernel
theorem dL_law_557 : decode cL_law 557 = .ok (.aload_n 3, 1) := by decide +kernel
theorem dL_law_558 : decode cL_law 558 = .ok (.invokestatic 108, 3) := by decide +kernel
theorem dL_law_561 : decode cL_law 561 = .ok (.istore 6, 2) := by decide +kernel
theorem dL_law_563 : decode cL_law 563 = .ok (.aload_n 2, 1) := by decide +kernel
theorem dL_law_564 : decode cL_law 564 = .ok (.aload_n 0, 1) := by decide +kernel
theorem dL_law_565 : decode cL_law 565 = .ok (.iload 5, 2) := by decide +kernel
theorem dL_law_567 : decode cL_law 567 = .ok (.iconst 1, 1) := by decide +kernel
theorem dL_law_568 : decode cL_law 568 = .ok (.iadd, 1) := by decide +kernel
theorem dL_law_569 : decode cL_law 569 = .ok (.iaload, 1) := by decide +kernel
theorem dL_law_570 : decode cL_law 570 = .ok (.aload_n 0, 1) := by decide +kernel
theorem dL_law_571 : decode cL_law 571 = .ok (.iload 5, 2) := by decide +kernel
theorem dL_law_573 : decode cL_law 573 = .ok (.iconst 2, 1) := by decide +kernel
theorem dL_law_574 : decode cL_law 574 = .ok (.iadd, 1) := by decide +kernel
theorem dL_law_575 : decode cL_law 575 = .ok (.iaload, 1) := by decide +kernel
theorem dL_law_576 : decode cL_law 576 = .ok (.invokevirtual 110, 3) := by decide +kernel
theorem dL_law_579 : decode cL_law 579 = .ok (.istore 7, 2) := by decide +kernel
theorem dL_law_581 : decode cL_law 581 = .ok (.aload_n 2, 1) := by decide +kernel
theorem dL_law_582 : decode cL_law 582 = .ok (.invokevirtual 90, 3) := by decide +kernel
theorem dL_law_585 : decode cL_law 585 = .ok (.iload 6, 2) := by decide +kernel
theorem dL_law_587 : decode cL_law 587 = .ok (.if_icmp .eq 5, 3) := by decide +kernel
theorem dL_law_590 : decode cL_law 590 = .ok (.iconst 0, 1) := by decide +kernel
theorem dL_law_591 : decode cL_law 591 = .ok (.ireturn, 1) := by decide +kernel
theorem dL_law_592 : decode cL_law 592 = .ok (.iload 6, 2) := by decide +kernel
theorem dL_law_594 : decode cL_law 594 = .ok (.ifCond .ne 15, 3) := by decide +kernel
theorem dL_law_597 : decode cL_law 597 = .ok (.aload_n 3, 1) := by decide +kernel
theorem dL_law_598 : decode cL_law 598 = .ok (.iconst 0, 1) := by decide +kernel
theorem dL_law_599 : decode cL_law 599 = .ok (.laload, 1) := by decide +kernel
theorem dL_law_600 : decode cL_law 600 = .ok (.iload 7, 2) := by decide +kernel
theorem dL_law_602 : decode cL_law 602 = .ok (.i2l, 1) := by decide +kernel
theorem dL_law_603 : decode cL_law 603 = .ok (.lcmp, 1) := by decide +kernel
theorem dL_law_604 : decode cL_law 604 = .ok (.ifCond .eq 5, 3) := by decide +kernel
theorem dL_law_607 : decode cL_law 607 = .ok (.iconst 0, 1) := by decide +kernel
theorem dL_law_608 : decode cL_law 608 = .ok (.ireturn, 1) := by decide +kernel
theorem dL_law_609 : decode cL_law 609 = .ok (.goto 957, 3) := by decide +kernel
theorem dL_law_612 : decode cL_law 612 = .ok (.aload_n 1, 1) := by decide +kernel
theorem dL_law_613 : decode cL_law 613 = .ok (.aload_n 0, 1) := by decide +kernel
theorem dL_law_614 : decode cL_law 614 = .ok (.iload 5, 2) := by decide +kernel
theorem dL_law_616 : decode cL_law 616 = .ok (.iconst 1, 1) := by decide +kernel
theorem dL_law_617 : decode cL_law 617 = .ok (.iadd, 1) := by decide +kernel
theorem dL_law_618 : decode cL_law 618 = .ok (.iaload, 1) := by decide +kernel
theorem dL_law_619 : decode cL_law 619 = .ok (.aload_n 3, 1) := by decide +kernel
theorem dL_law_620 : decode cL_law 620 = .ok (.invokestatic 111, 3) := by decide +kernel
theorem dL_law_623 : decode cL_law 623 = .ok (.istore 6, 2) := by decide +kernel
theorem dL_law_625 : decode cL_law 625 = .ok (.aload_n 2, 1) := by decide +kernel
theorem dL_law_626 : decode cL_law 626 = .ok (.aload_n 0, 1) := by decide +kernel
theorem dL_law_627 : decode cL_law 627 = .ok (.iload 5, 2) := by decide +kernel
theorem dL_law_629 : decode cL_law 629 = .ok (.iconst 1, 1) := by decide +kernel
theorem dL_law_630 : decode cL_law 630 = .ok (.iadd, 1) := by decide +kernel
theorem dL_law_631 : decode cL_law 631 = .ok (.iaload, 1) := by decide +kernel
theorem dL_law_632 : decode cL_law 632 = .ok (.invokevirtual 114, 3) := by decide +kernel
theorem dL_law_635 : decode cL_law 635 = .ok (.istore 7, 2) := by decide +kernel
theorem dL_law_637 : decode cL_law 637 = .ok (.aload_n 2, 1) := by decide +kernel
theorem dL_law_638 : decode cL_law 638 = .ok (.invokevirtual 90, 3) := by decide +kernel
theorem dL_law_641 : decode cL_law 641 = .ok (.iload 6, 2) := by decide +kernel
theorem dL_law_643 : decode cL_law 643 = .ok (.if_icmp .eq 5, 3) := by decide +kernel
theorem dL_law_646 : decode cL_law 646 = .ok (.iconst 0, 1) := by decide +kernel
theorem dL_law_647 : decode cL_law 647 = .ok (.ireturn, 1) := by decide +kernel
theorem dL_law_648 : decode cL_law 648 = .ok (.iload 6, 2) := by decide +kernel
theorem dL_law_650 : decode cL_law 650 = .ok (.ifCond .ne 15, 3) := by decide +kernel
theorem dL_law_653 : decode cL_law 653 = .ok (.aload_n 3, 1) := by decide +kernel
theorem dL_law_654 : decode cL_law 654 = .ok (.iconst 0, 1) := by decide +kernel
theorem dL_law_655 : decode cL_law 655 = .ok (.laload, 1) := by decide +kernel
theorem dL_law_656 : decode cL_law 656 = .ok (.iload 7, 2) := by decide +kernel
theorem dL_law_658 : decode cL_law 658 = .ok (.i2l, 1) := by decide +kernel
theorem dL_law_659 : decode cL_law 659 = .ok (.lcmp, 1) := by decide +kernel
theorem dL_law_660 : decode cL_law 660 = .ok (.ifCond .eq 5, 3) := by decide +kernel
theorem dL_law_663 : decode cL_law 663 = .ok (.iconst 0, 1) := by decide +kernel
theorem dL_law_664 : decode cL_law 664 = .ok (.ireturn, 1) := by decide +kernel
theorem dL_law_665 : decode cL_law 665 = .ok (.goto 901, 3) := by decide +kernel
theorem dL_law_668 : decode cL_law 668 = .ok (.aload_n 1, 1) := by decide +kernel
theorem dL_law_669 : decode cL_law 669 = .ok (.aload_n 0, 1) := by decide +kernel
theorem dL_law_670 : decode cL_law 670 = .ok (.iload 5, 2) := by decide +kernel
theorem dL_law_672 : decode cL_law 672 = .ok (.iconst 1, 1) := by decide +kernel
theorem dL_law_673 : decode cL_law 673 = .ok (.iadd, 1) := by decide +kernel
theorem dL_law_674 : decode cL_law 674 = .ok (.iaload, 1) := by decide +kernel
theorem dL_law_675 : decode cL_law 675 = .ok (.aload_n 3, 1) := by decide +kernel
theorem dL_law_676 : decode cL_law 676 = .ok (.invokestatic 115, 3) := by decide +kernel
theorem dL_law_679 : decode cL_law 679 = .ok (.istore 6, 2) := by decide +kernel
theorem dL_law_681 : decode cL_law 681 = .ok (.aload_n 2, 1) := by decide +kernel
theorem dL_law_682 : decode cL_law 682 = .ok (.aload_n 0, 1) := by decide +kernel
theorem dL_law_683 : decode cL_law 683 = .ok (.iload 5, 2) := by decide +kernel
theorem dL_law_685 : decode cL_law 685 = .ok (.iconst 1, 1) := by decide +kernel
theorem dL_law_686 : decode cL_law 686 = .ok (.iadd, 1) := by decide +kernel
theorem dL_law_687 : decode cL_law 687 = .ok (.iaload, 1) := by decide +kernel
theorem dL_law_688 : decode cL_law 688 = .ok (.invokevirtual 117, 3) := by decide +kernel
theorem dL_law_691 : decode cL_law 691 = .ok (.istore 7, 2) := by decide +kernel
theorem dL_law_693 : decode cL_law 693 = .ok (.aload_n 2, 1) := by decide +kernel
theorem dL_law_694 : decode cL_law 694 = .ok (.invokevirtual 90, 3) := by decide +kernel
theorem dL_law_697 : decode cL_law 697 = .ok (.iload 6, 2) := by decide +kernel
theorem dL_law_699 : decode cL_law 699 = .ok (.if_icmp .eq 5, 3) := by decide +kernel
theorem dL_law_702 : decode cL_law 702 = .ok (.iconst 0, 1) := by decide +kernel
theorem dL_law_703 : decode cL_law 703 = .ok (.ireturn, 1) := by decide +kernel
theorem dL_law_704 : decode cL_law 704 = .ok (.iload 6, 2) := by decide +kernel
theorem dL_law_706 : decode cL_law 706 = .ok (.ifCond .ne 15, 3) := by decide +kernel
theorem dL_law_709 : decode cL_law 709 = .ok (.aload_n 3, 1) := by decide +kernel
theorem dL_law_710 : decode cL_law 710 = .ok (.iconst 0, 1) := by decide +kernel
theorem dL_law_711 : decode cL_law 711 = .ok (.laload, 1) := by decide +kernel
theorem dL_law_712 : decode cL_law 712 = .ok (.iload 7, 2) := by decide +kernel
theorem dL_law_714 : decode cL_law 714 = .ok (.i2l, 1) := by decide +kernel
theorem dL_law_715 : decode cL_law 715 = .ok (.lcmp, 1) := by decide +kernel
theorem dL_law_716 : decode cL_law 716 = .ok (.ifCond .eq 5, 3) := by decide +kernel
theorem dL_law_719 : decode cL_law 719 = .ok (.iconst 0, 1) := by decide +kernel
theorem dL_law_720 : decode cL_law 720 = .ok (.ireturn, 1) := by decide +kernel
theorem dL_law_721 : decode cL_law 721 = .ok (.goto 845, 3) := by decide +kernel
theorem dL_law_724 : decode cL_law 724 = .ok (.aload_n 1, 1) := by decide +kernel
theorem dL_law_725 : decode cL_law 725 = .ok (.aload_n 0, 1) := by decide +kernel
theorem dL_law_726 : decode cL_law 726 = .ok (.iload 5, 2) := by decide +kernel
theorem dL_law_728 : decode cL_law 728 = .ok (.iconst 1, 1) := by decide +kernel
theorem dL_law_729 : decode cL_law 729 = .ok (.iadd, 1) := by decide +kernel
theorem dL_law_730 : decode cL_law 730 = .ok (.iaload, 1) := by decide +kernel
theorem dL_law_731 : decode cL_law 731 = .ok (.aload_n 0, 1) := by decide +kernel
theorem dL_law_732 : decode cL_law 732 = .ok (.iload 5, 2) := by decide +kernel
theorem dL_law_734 : decode cL_law 734 = .ok (.iconst 2, 1) := by decide +kernel
theorem dL_law_735 : decode cL_law 735 = .ok (.iadd, 1) := by decide +kernel
theorem dL_law_736 : decode cL_law 736 = .ok (.iaload, 1) := by decide +kernel
theorem dL_law_737 : decode cL_law 737 = .ok (.aload_n 3, 1) := by decide +kernel
theorem dL_law_738 : decode cL_law 738 = .ok (.invokestatic 118, 3) := by decide +kernel
theorem dL_law_741 : decode cL_law 741 = .ok (.istore 6, 2) := by decide +kernel
theorem dL_law_743 : decode cL_law 743 = .ok (.aload_n 2, 1) := by decide +kernel
theorem dL_law_744 : decode cL_law 744 = .ok (.aload_n 0, 1) := by decide +kernel
theorem dL_law_745 : decode cL_law 745 = .ok (.iload 5, 2) := by decide +kernel
theorem dL_law_747 : decode cL_law 747 = .ok (.iconst 1, 1) := by decide +kernel
theorem dL_law_748 : decode cL_law 748 = .ok (.iadd, 1) := by decide +kernel
theorem dL_law_749 : decode cL_law 749 = .ok (.iaload, 1) := by decide +kernel
theorem dL_law_750 : decode cL_law 750 = .ok (.aload_n 0, 1) := by decide +kernel
theorem dL_law_751 : decode cL_law 751 = .ok (.iload 5, 2) := by decide +kernel
theorem dL_law_753 : decode cL_law 753 = .ok (.iconst 2, 1) := by decide +kernel
theorem dL_law_754 : decode cL_law 754 = .ok (.iadd, 1) := by decide +kernel
theorem dL_law_755 : decode cL_law 755 = .ok (.iaload, 1) := by decide +kernel
theorem dL_law_756 : decode cL_law 756 = .ok (.invokevirtual 120, 3) := by decide +kernel
theorem dL_law_759 : decode cL_law 759 = .ok (.istore 7, 2) := by decide +kernel
theorem dL_law_761 : decode cL_law 761 = .ok (.aload_n 2, 1) := by decide +kernel
theorem dL_law_762 : decode cL_law 762 = .ok (.invokevirtual 90, 3) := by decide +kernel
theorem dL_law_765 : decode cL_law 765 = .ok (.iload 6, 2) := by decide +kernel
theorem dL_law_767 : decode cL_law 767 = .ok (.if_icmp .eq 5, 3) := by decide +kernel
theorem dL_law_770 : decode cL_law 770 = .ok (.iconst 0, 1) := by decide +kernel
theorem dL_law_771 : decode cL_law 771 = .ok (.ireturn, 1) := by decide +kernel
theorem dL_law_772 : decode cL_law 772 = .ok (.iload 6, 2) := by decide +kernel
theorem dL_law_774 : decode cL_law 774 = .ok (.ifCond .ne 15, 3) := by decide +kernel
theorem dL_law_777 : decode cL_law 777 = .ok (.aload_n 3, 1) := by decide +kernel
theorem dL_law_778 : decode cL_law 778 = .ok (.iconst 0, 1) := by decide +kernel
theorem dL_law_779 : decode cL_law 779 = .ok (.laload, 1) := by decide +kernel
theorem dL_law_780 : decode cL_law 780 = .ok (.iload 7, 2) := by decide +kernel
theorem dL_law_782 : decode cL_law 782 = .ok (.i2l, 1) := by decide +kernel
theorem dL_law_783 : decode cL_law 783 = .ok (.lcmp, 1) := by decide +kernel
theorem dL_law_784 : decode cL_law 784 = .ok (.ifCond .eq 5, 3) := by decide +kernel
theorem dL_law_787 : decode cL_law 787 = .ok (.iconst 0, 1) := by decide +kernel
theorem dL_law_788 : decode cL_law 788 = .ok (.ireturn, 1) := by decide +kernel
theorem dL_law_789 : decode cL_law 789 = .ok (.goto 777, 3) := by decide +kernel
theorem dL_law_792 : decode cL_law 792 = .ok (.aload_n 1, 1) := by decide +kernel
theorem dL_law_793 : decode cL_law 793 = .ok (.aload_n 0, 1) := by decide +kernel
theorem dL_law_794 : decode cL_law 794 = .ok (.iload 5, 2) := by decide +kernel
theorem dL_law_796 : decode cL_law 796 = .ok (.iconst 1, 1) := by decide +kernel
theorem dL_law_797 : decode cL_law 797 = .ok (.iadd, 1) := by decide +kernel
theorem dL_law_798 : decode cL_law 798 = .ok (.iaload, 1) := by decide +kernel
theorem dL_law_799 : decode cL_law 799 = .ok (.aload_n 0, 1) := by decide +kernel
theorem dL_law_800 : decode cL_law 800 = .ok (.iload 5, 2) := by decide +kernel
theorem dL_law_802 : decode cL_law 802 = .ok (.iconst 2, 1) := by decide +kernel
theorem dL_law_803 : decode cL_law 803 = .ok (.iadd, 1) := by decide +kernel
theorem dL_law_804 : decode cL_law 804 = .ok (.iaload, 1) := by decide +kernel
theorem dL_law_805 : decode cL_law 805 = .ok (.aload_n 3, 1) := by decide +kernel
theorem dL_law_806 : decode cL_law 806 = .ok (.invokestatic 121, 3) := by decide +kernel
theorem dL_law_809 : decode cL_law 809 = .ok (.istore 6, 2) := by decide +kernel
theorem dL_law_811 : decode cL_law 811 = .ok (.aload_n 2, 1) := by decide +kernel
theorem dL_law_812 : decode cL_law 812 = .ok (.aload_n 0, 1) := by decide +kernel
theorem dL_law_813 : decode cL_law 813 = .ok (.iload 5, 2) := by decide +kernel
theorem dL_law_815 : decode cL_law 815 = .ok (.iconst 1, 1) := by decide +kernel
theorem dL_law_816 : decode cL_law 816 = .ok (.iadd, 1) := by decide +kernel
theorem dL_law_817 : decode cL_law 817 = .ok (.iaload, 1) := by decide +kernel
theorem dL_law_818 : decode cL_law 818 = .ok (.aload_n 0, 1) := by decide +kernel
theorem dL_law_819 : decode cL_law 819 = .ok (.iload 5, 2) := by decide +kernel
theorem dL_law_821 : decode cL_law 821 = .ok (.iconst 2, 1) := by decide +kernel
theorem dL_law_822 : decode cL_law 822 = .ok (.iadd, 1) := by decide +kernel
theorem dL_law_823 : decode cL_law 823 = .ok (.iaload, 1) := by decide +kernel
theorem dL_law_824 : decode cL_law 824 = .ok (.invokevirtual 123, 3) := by decide +kernel
theorem dL_law_827 : decode cL_law 827 = .ok (.istore 7, 2) := by decide +kernel
theorem dL_law_829 : decode cL_law 829 = .ok (.aload_n 2, 1) := by decide +kernel
theorem dL_law_830 : decode cL_law 830 = .ok (.invokevirtual 90, 3) := by decide +kernel
theorem dL_law_833 : decode cL_law 833 = .ok (.iload 6, 2) := by decide +kernel
theorem dL_law_835 : decode cL_law 835 = .ok (.if_icmp .eq 5, 3) := by decide +kernel
theorem dL_law_838 : decode cL_law 838 = .ok (.iconst 0, 1) := by decide +kernel
theorem dL_law_839 : decode cL_law 839 = .ok (.ireturn, 1) := by decide +kernel
theorem dL_law_840 : decode cL_law 840 = .ok (.iload 6, 2) := by decide +kernel
theorem dL_law_842 : decode cL_law 842 = .ok (.ifCond .ne 15, 3) := by decide +kernel
theorem dL_law_845 : decode cL_law 845 = .ok (.aload_n 3, 1) := by decide +kernel
theorem dL_law_846 : decode cL_law 846 = .ok (.iconst 0, 1) := by decide +kernel
theorem dL_law_847 : decode cL_law 847 = .ok (.laload, 1) := by decide +kernel
theorem dL_law_848 : decode cL_law 848 = .ok (.iload 7, 2) := by decide +kernel
theorem dL_law_850 : decode cL_law 850 = .ok (.i2l, 1) := by decide +kernel
theorem dL_law_851 : decode cL_law 851 = .ok (.lcmp, 1) := by decide +kernel
theorem dL_law_852 : decode cL_law 852 = .ok (.ifCond .eq 5, 3) := by decide +kernel
theorem dL_law_855 : decode cL_law 855 = .ok (.iconst 0, 1) := by decide +kernel
theorem dL_law_856 : decode cL_law 856 = .ok (.ireturn, 1) := by decide +kernel
theorem dL_law_857 : decode cL_law 857 = .ok (.goto 709, 3) := by decide +kernel
theorem dL_law_860 : decode cL_law 860 = .ok (.aload_n 1, 1) := by decide +kernel
theorem dL_law_861 : decode cL_law 861 = .ok (.aload_n 0, 1) := by decide +kernel
theorem dL_law_862 : decode cL_law 862 = .ok (.iload 5, 2) := by decide +kernel
theorem dL_law_864 : decode cL_law 864 = .ok (.iconst 1, 1) := by decide +kernel
theorem dL_law_865 : decode cL_law 865 = .ok (.iadd, 1) := by decide +kernel
theorem dL_law_866 : decode cL_law 866 = .ok (.iaload, 1) := by decide +kernel
theorem dL_law_867 : decode cL_law 867 = .ok (.aload_n 0, 1) := by decide +kernel
theorem dL_law_868 : decode cL_law 868 = .ok (.iload 5, 2) := by decide +kernel
theorem dL_law_870 : decode cL_law 870 = .ok (.iconst 2, 1) := by decide +kernel
theorem dL_law_871 : decode cL_law 871 = .ok (.iadd, 1) := by decide +kernel
theorem dL_law_872 : decode cL_law 872 = .ok (.iaload, 1) := by decide +kernel
theorem dL_law_873 : decode cL_law 873 = .ok (.aload_n 3, 1) := by decide +kernel
theorem dL_law_874 : decode cL_law 874 = .ok (.invokestatic 124, 3) := by decide +kernel
theorem dL_law_877 : decode cL_law 877 = .ok (.istore 6, 2) := by decide +kernel
theorem dL_law_879 : decode cL_law 879 = .ok (.aload_n 2, 1) := by decide +kernel
theorem dL_law_880 : decode cL_law 880 = .ok (.aload_n 0, 1) := by decide +kernel
theorem dL_law_881 : decode cL_law 881 = .ok (.iload 5, 2) := by decide +kernel
theorem dL_law_883 : decode cL_law 883 = .ok (.iconst 1, 1) := by decide +kernel
theorem dL_law_884 : decode cL_law 884 = .ok (.iadd, 1) := by decide +kernel
theorem dL_law_885 : decode cL_law 885 = .ok (.iaload, 1) := by decide +kernel
theorem dL_law_886 : decode cL_law 886 = .ok (.aload_n 0, 1) := by decide +kernel
theorem dL_law_887 : decode cL_law 887 = .ok (.iload 5, 2) := by decide +kernel
theorem dL_law_889 : decode cL_law 889 = .ok (.iconst 2, 1) := by decide +kernel
theorem dL_law_890 : decode cL_law 890 = .ok (.iadd, 1) := by decide +kernel
theorem dL_law_891 : decode cL_law 891 = .ok (.iaload, 1) := by decide +kernel
theorem dL_law_892 : decode cL_law 892 = .ok (.invokevirtual 126, 3) := by decide +kernel
theorem dL_law_895 : decode cL_law 895 = .ok (.istore 7, 2) := by decide +kernel
theorem dL_law_897 : decode cL_law 897 = .ok (.aload_n 2, 1) := by decide +kernel
theorem dL_law_898 : decode cL_law 898 = .ok (.invokevirtual 90, 3) := by decide +kernel
theorem dL_law_901 : decode cL_law 901 = .ok (.iload 6, 2) := by decide +kernel
theorem dL_law_903 : decode cL_law 903 = .ok (.if_icmp .eq 5, 3) := by decide +kernel
theorem dL_law_906 : decode cL_law 906 = .ok (.iconst 0, 1) := by decide +kernel
theorem dL_law_907 : decode cL_law 907 = .ok (.ireturn, 1) := by decide +kernel
theorem dL_law_908 : decode cL_law 908 = .ok (.iload 6, 2) := by decide +kernel
theorem dL_law_910 : decode cL_law 910 = .ok (.ifCond .ne 15, 3) := by decide +kernel
theorem dL_law_913 : decode cL_law 913 = .ok (.aload_n 3, 1) := by decide +kernel
theorem dL_law_914 : decode cL_law 914 = .ok (.iconst 0, 1) := by decide +kernel
theorem dL_law_915 : decode cL_law 915 = .ok (.laload, 1) := by decide +kernel
theorem dL_law_916 : decode cL_law 916 = .ok (.iload 7, 2) := by decide +kernel
theorem dL_law_918 : decode cL_law 918 = .ok (.i2l, 1) := by decide +kernel
theorem dL_law_919 : decode cL_law 919 = .ok (.lcmp, 1) := by decide +kernel
theorem dL_law_920 : decode cL_law 920 = .ok (.ifCond .eq 5, 3) := by decide +kernel
theorem dL_law_923 : decode cL_law 923 = .ok (.iconst 0, 1) := by decide +kernel
theorem dL_law_924 : decode cL_law 924 = .ok (.ireturn, 1) := by decide +kernel
theorem dL_law_925 : decode cL_law 925 = .ok (.goto 641, 3) := by decide +kernel
theorem dL_law_928 : decode cL_law 928 = .ok (.aload_n 1, 1) := by decide +kernel
theorem dL_law_929 : decode cL_law 929 = .ok (.aload_n 0, 1) := by decide +kernel
theorem dL_law_930 : decode cL_law 930 = .ok (.iload 5, 2) := by decide +kernel
theorem dL_law_932 : decode cL_law 932 = .ok (.iconst 1, 1) := by decide +kernel
theorem dL_law_933 : decode cL_law 933 = .ok (.iadd, 1) := by decide +kernel
theorem dL_law_934 : decode cL_law 934 = .ok (.iaload, 1) := by decide +kernel
theorem dL_law_935 : decode cL_law 935 = .ok (.aload_n 3, 1) := by decide +kernel
theorem dL_law_936 : decode cL_law 936 = .ok (.invokestatic 127, 3) := by decide +kernel
theorem dL_law_939 : decode cL_law 939 = .ok (.istore 6, 2) := by decide +kernel
theorem dL_law_941 : decode cL_law 941 = .ok (.aload_n 2, 1) := by decide +kernel
theorem dL_law_942 : decode cL_law 942 = .ok (.aload_n 0, 1) := by decide +kernel
theorem dL_law_943 : decode cL_law 943 = .ok (.iload 5, 2) := by decide +kernel
theorem dL_law_945 : decode cL_law 945 = .ok (.iconst 1, 1) := by decide +kernel
theorem dL_law_946 : decode cL_law 946 = .ok (.iadd, 1) := by decide +kernel
theorem dL_law_947 : decode cL_law 947 = .ok (.iaload, 1) := by decide +kernel
theorem dL_law_948 : decode cL_law 948 = .ok (.invokevirtual 129, 3) := by decide +kernel
theorem dL_law_951 : decode cL_law 951 = .ok (.istore 7, 2) := by decide +kernel
theorem dL_law_953 : decode cL_law 953 = .ok (.aload_n 2, 1) := by decide +kernel
theorem dL_law_954 : decode cL_law 954 = .ok (.invokevirtual 90, 3) := by decide +kernel
theorem dL_law_957 : decode cL_law 957 = .ok (.iload 6, 2) := by decide +kernel
theorem dL_law_959 : decode cL_law 959 = .ok (.if_icmp .eq 5, 3) := by decide +kernel
theorem dL_law_962 : decode cL_law 962 = .ok (.iconst 0, 1) := by decide +kernel
theorem dL_law_963 : decode cL_law 963 = .ok (.ireturn, 1) := by decide +kernel
theorem dL_law_964 : decode cL_law 964 = .ok (.iload 6, 2) := by decide +kernel
theorem dL_law_966 : decode cL_law 966 = .ok (.ifCond .ne 15, 3) := by decide +kernel
theorem dL_law_969 : decode cL_law 969 = .ok (.aload_n 3, 1) := by decide +kernel
theorem dL_law_970 : decode cL_law 970 = .ok (.iconst 0, 1) := by decide +kernel
theorem dL_law_971 : decode cL_law 971 = .ok (.laload, 1) := by decide +kernel
theorem dL_law_972 : decode cL_law 972 = .ok (.iload 7, 2) := by decide +kernel
theorem dL_law_974 : decode cL_law 974 = .ok (.i2l, 1) := by decide +kernel
theorem dL_law_975 : decode cL_law 975 = .ok (.lcmp, 1) := by decide +kernel
theorem dL_law_976 : decode cL_law 976 = .ok (.ifCond .eq 5, 3) := by decide +kernel
theorem dL_law_979 : decode cL_law 979 = .ok (.iconst 0, 1) := by decide +kernel
theorem dL_law_980 : decode cL_law 980 = .ok (.ireturn, 1) := by decide +kernel
theorem dL_law_981 : decode cL_law 981 = .ok (.goto 585, 3) := by decide +kernel
theorem dL_law_984 : decode cL_law 984 = .ok (.aload_n 1, 1) := by decide +kernel
theorem dL_law_985 : decode cL_law 985 = .ok (.aload_n 0, 1) := by decide +kernel
theorem dL_law_986 : decode cL_law 986 = .ok (.iload 5, 2) := by decide +kernel
theorem dL_law_988 : decode cL_law 988 = .ok (.iconst 1, 1) := by decide +kernel
theorem dL_law_989 : decode cL_law 989 = .ok (.iadd, 1) := by decide +kernel
theorem dL_law_990 : decode cL_law 990 = .ok (.iaload, 1) := by decide +kernel
theorem dL_law_991 : decode cL_law 991 = .ok (.aload_n 0, 1) := by decide +kernel
theorem dL_law_992 : decode cL_law 992 = .ok (.iload 5, 2) := by decide +kernel
theorem dL_law_994 : decode cL_law 994 = .ok (.iconst 2, 1) := by decide +kernel
theorem dL_law_995 : decode cL_law 995 = .ok (.iadd, 1) := by decide +kernel
theorem dL_law_996 : decode cL_law 996 = .ok (.iaload, 1) := by decide +kernel
theorem dL_law_997 : decode cL_law 997 = .ok (.aload_n 3, 1) := by decide +kernel
theorem dL_law_998 : decode cL_law 998 = .ok (.invokestatic 130, 3) := by decide +kernel
theorem dL_law_1001 : decode cL_law 1001 = .ok (.istore 6, 2) := by decide +kernel
theorem dL_law_1003 : decode cL_law 1003 = .ok (.aload_n 2, 1) := by decide +kernel
theorem dL_law_1004 : decode cL_law 1004 = .ok (.aload_n 0, 1) := by decide +kernel
theorem dL_law_1005 : decode cL_law 1005 = .ok (.iload 5, 2) := by decide +kernel
theorem dL_law_1007 : decode cL_law 1007 = .ok (.iconst 1, 1) := by decide +kernel
theorem dL_law_1008 : decode cL_law 1008 = .ok (.iadd, 1) := by decide +kernel
theorem dL_law_1009 : decode cL_law 1009 = .ok (.iaload, 1) := by decide +kernel
theorem dL_law_1010 : decode cL_law 1010 = .ok (.aload_n 0, 1) := by decide +kernel
theorem dL_law_1011 : decode cL_law 1011 = .ok (.iload 5, 2) := by decide +kernel
theorem dL_law_1013 : decode cL_law 1013 = .ok (.iconst 2, 1) := by decide +kernel
theorem dL_law_1014 : decode cL_law 1014 = .ok (.iadd, 1) := by decide +kernel
theorem dL_law_1015 : decode cL_law 1015 = .ok (.iaload, 1) := by decide +kernel
theorem dL_law_1016 : decode cL_law 1016 = .ok (.invokevirtual 132, 3) := by decide +kernel
theorem dL_law_1019 : decode cL_law 1019 = .ok (.istore 7, 2) := by decide +kernel
theorem dL_law_1021 : decode cL_law 1021 = .ok (.aload_n 2, 1) := by decide +kernel
theorem dL_law_1022 : decode cL_law 1022 = .ok (.invokevirtual 90, 3) := by decide +kernel
theorem dL_law_1025 : decode cL_law 1025 = .ok (.iload 6, 2) := by decide +kernel
theorem dL_law_1027 : decode cL_law 1027 = .ok (.if_icmp .eq 5, 3) := by decide +kernel
theorem dL_law_1030 : decode cL_law 1030 = .ok (.iconst 0, 1) := by decide +kernel
theorem dL_law_1031 : decode cL_law 1031 = .ok (.ireturn, 1) := by decide +kernel
theorem dL_law_1032 : decode cL_law 1032 = .ok (.iload 6, 2) := by decide +kernel
theorem dL_law_1034 : decode cL_law 1034 = .ok (.ifCond .ne 15, 3) := by decide +kernel
theorem dL_law_1037 : decode cL_law 1037 = .ok (.aload_n 3, 1) := by decide +kernel
theorem dL_law_1038 : decode cL_law 1038 = .ok (.iconst 0, 1) := by decide +kernel
theorem dL_law_1039 : decode cL_law 1039 = .ok (.laload, 1) := by decide +kernel
theorem dL_law_1040 : decode cL_law 1040 = .ok (.iload 7, 2) := by decide +kernel
theorem dL_law_1042 : decode cL_law 1042 = .ok (.i2l, 1) := by decide +kernel
theorem dL_law_1043 : decode cL_law 1043 = .ok (.lcmp, 1) := by decide +kernel
theorem dL_law_1044 : decode cL_law 1044 = .ok (.ifCond .eq 5, 3) := by decide +kernel
theorem dL_law_1047 : decode cL_law 1047 = .ok (.iconst 0, 1) := by decide +kernel
theorem dL_law_1048 : decode cL_law 1048 = .ok (.ireturn, 1) := by decide +kernel
theorem dL_law_1049 : decode cL_law 1049 = .ok (.goto 517, 3) := by decide +kernel
theorem dL_law_1052 : decode cL_law 1052 = .ok (.aload_n 1, 1) := by decide +kernel
theorem dL_law_1053 : decode cL_law 1053 = .ok (.invokevirtual 133, 3) := by decide +kernel
theorem dL_law_1056 : decode cL_law 1056 = .ok (.aload_n 2, 1) := by decide +kernel
theorem dL_law_1057 : decode cL_law 1057 = .ok (.invokevirtual 136, 3) := by decide +kernel
theorem dL_law_1060 : decode cL_law 1060 = .ok (.if_icmp .eq 506, 3) := by decide +kernel
theorem dL_law_1063 : decode cL_law 1063 = .ok (.iconst 0, 1) := by decide +kernel
theorem dL_law_1064 : decode cL_law 1064 = .ok (.ireturn, 1) := by decide +kernel
theorem dL_law_1065 : decode cL_law 1065 = .ok (.aload_n 1, 1) := by decide +kernel
theorem dL_law_1066 : decode cL_law 1066 = .ok (.aload_n 0, 1) := by decide +kernel
theorem dL_law_1067 : decode cL_law 1067 = .ok (.iload 5, 2) := by decide +kernel
theorem dL_law_1069 : decode cL_law 1069 = .ok (.iconst 1, 1) := by decide +kernel
theorem dL_law_1070 : decode cL_law 1070 = .ok (.iadd, 1) := by decide +kernel
theorem dL_law_1071 : decode cL_law 1071 = .ok (.iaload, 1) := by decide +kernel
theorem dL_law_1072 : decode cL_law 1072 = .ok (.aload_n 3, 1) := by decide +kernel
theorem dL_law_1073 : decode cL_law 1073 = .ok (.invokestatic 137, 3) := by decide +kernel
theorem dL_law_1076 : decode cL_law 1076 = .ok (.istore 6, 2) := by decide +kernel
theorem dL_law_1078 : decode cL_law 1078 = .ok (.aload_n 2, 1) := by decide +kernel
theorem dL_law_1079 : decode cL_law 1079 = .ok (.aload_n 0, 1) := by decide +kernel
theorem dL_law_1080 : decode cL_law 1080 = .ok (.iload 5, 2) := by decide +kernel
theorem dL_law_1082 : decode cL_law 1082 = .ok (.iconst 1, 1) := by decide +kernel
theorem dL_law_1083 : decode cL_law 1083 = .ok (.iadd, 1) := by decide +kernel
theorem dL_law_1084 : decode cL_law 1084 = .ok (.iaload, 1) := by decide +kernel
theorem dL_law_1085 : decode cL_law 1085 = .ok (.invokevirtual 139, 3) := by decide +kernel
theorem dL_law_1088 : decode cL_law 1088 = .ok (.istore 7, 2) := by decide +kernel
theorem dL_law_1090 : decode cL_law 1090 = .ok (.aload_n 2, 1) := by decide +kernel
theorem dL_law_1091 : decode cL_law 1091 = .ok (.invokevirtual 90, 3) := by decide +kernel
theorem dL_law_1094 : decode cL_law 1094 = .ok (.iload 6, 2) := by decide +kernel
theorem dL_law_1096 : decode cL_law 1096 = .ok (.if_icmp .eq 5, 3) := by decide +kernel
theorem dL_law_1099 : decode cL_law 1099 = .ok (.iconst 0, 1) := by decide +kernel
theorem dL_law_1100 : decode cL_law 1100 = .ok (.ireturn, 1) := by decide +kernel
theorem dL_law_1101 : decode cL_law 1101 = .ok (.iload 6, 2) := by decide +kernel
theorem dL_law_1103 : decode cL_law 1103 = .ok (.ifCond .ne 15, 3) := by decide +kernel
theorem dL_law_1106 : decode cL_law 1106 = .ok (.aload_n 3, 1) := by decide +kernel
theorem dL_law_1107 : decode cL_law 1107 = .ok (.iconst 0, 1) := by decide +kernel
theorem dL_law_1108 : decode cL_law 1108 = .ok (.laload, 1) := by decide +kernel
theorem dL_law_1109 : decode cL_law 1109 = .ok (.iload 7, 2) := by decide +kernel
theorem dL_law_1111 : decode cL_law 1111 = .ok (.i2l, 1) := by decide +kernel
theorem dL_law_1112 : decode cL_law 1112 = .ok (.lcmp, 1) := by decide +kernel
theorem dL_law_1113 : decode cL_law 1113 = .ok (.ifCond .eq 5, 3) := by decide +kernel
theorem dL_law_1116 : decode cL_law 1116 = .ok (.iconst 0, 1) := by decide +kernel
theorem dL_law_1117 : decode cL_law 1117 = .ok (.ireturn, 1) := by decide +kernel
theorem dL_law_1118 : decode cL_law 1118 = .ok (.goto 448, 3) := by decide +kernel
theorem dL_law_1121 : decode cL_law 1121 = .ok (.aload_n 1, 1) := by decide +kernel
theorem dL_law_1122 : decode cL_law 1122 = .ok (.aload_n 0, 1) := by decide +kernel
theorem dL_law_1123 : decode cL_law 1123 = .ok (.iload 5, 2) := by decide +kernel
theorem dL_law_1125 : decode cL_law 1125 = .ok (.iconst 1, 1) := by decide +kernel
theorem dL_law_1126 : decode cL_law 1126 = .ok (.iadd, 1) := by decide +kernel
theorem dL_law_1127 : decode cL_law 1127 = .ok (.iaload, 1) := by decide +kernel
theorem dL_law_1128 : decode cL_law 1128 = .ok (.aload_n 3, 1) := by decide +kernel
theorem dL_law_1129 : decode cL_law 1129 = .ok (.invokestatic 140, 3) := by decide +kernel
theorem dL_law_1132 : decode cL_law 1132 = .ok (.istore 6, 2) := by decide +kernel
theorem dL_law_1134 : decode cL_law 1134 = .ok (.aload_n 2, 1) := by decide +kernel
theorem dL_law_1135 : decode cL_law 1135 = .ok (.aload_n 0, 1) := by decide +kernel
theorem dL_law_1136 : decode cL_law 1136 = .ok (.iload 5, 2) := by decide +kernel
theorem dL_law_1138 : decode cL_law 1138 = .ok (.iconst 1, 1) := by decide +kernel
theorem dL_law_1139 : decode cL_law 1139 = .ok (.iadd, 1) := by decide +kernel
theorem dL_law_1140 : decode cL_law 1140 = .ok (.iaload, 1) := by decide +kernel
theorem dL_law_1141 : decode cL_law 1141 = .ok (.invokevirtual 142, 3) := by decide +kernel
theorem dL_law_1144 : decode cL_law 1144 = .ok (.istore 7, 2) := by decide +kernel
theorem dL_law_1146 : decode cL_law 1146 = .ok (.aload_n 2, 1) := by decide +kernel
theorem dL_law_1147 : decode cL_law 1147 = .ok (.invokevirtual 90, 3) := by decide +kernel
theorem dL_law_1150 : decode cL_law 1150 = .ok (.iload 6, 2) := by decide +kernel
theorem dL_law_1152 : decode cL_law 1152 = .ok (.if_icmp .eq 5, 3) := by decide +kernel
theorem dL_law_1155 : decode cL_law 1155 = .ok (.iconst 0, 1) := by decide +kernel
theorem dL_law_1156 : decode cL_law 1156 = .ok (.ireturn, 1) := by decide +kernel
theorem dL_law_1157 : decode cL_law 1157 = .ok (.iload 6, 2) := by decide +kernel
theorem dL_law_1159 : decode cL_law 1159 = .ok (.ifCond .ne 15, 3) := by decide +kernel
theorem dL_law_1162 : decode cL_law 1162 = .ok (.aload_n 3, 1) := by decide +kernel
theorem dL_law_1163 : decode cL_law 1163 = .ok (.iconst 0, 1) := by decide +kernel
theorem dL_law_1164 : decode cL_law 1164 = .ok (.laload, 1) := by decide +kernel
theorem dL_law_1165 : decode cL_law 1165 = .ok (.iload 7, 2) := by decide +kernel
theorem dL_law_1167 : decode cL_law 1167 = .ok (.i2l, 1) := by decide +kernel
theorem dL_law_1168 : decode cL_law 1168 = .ok (.lcmp, 1) := by decide +kernel
theorem dL_law_1169 : decode cL_law 1169 = .ok (.ifCond .eq 5, 3) := by decide +kernel
theorem dL_law_1172 : decode cL_law 1172 = .ok (.iconst 0, 1) := by decide +kernel
theorem dL_law_1173 : decode cL_law 1173 = .ok (.ireturn, 1) := by decide +kernel
theorem dL_law_1174 : decode cL_law 1174 = .ok (.goto 392, 3) := by decide +kernel
theorem dL_law_1177 : decode cL_law 1177 = .ok (.aload_n 1, 1) := by decide +kernel
theorem dL_law_1178 : decode cL_law 1178 = .ok (.aload_n 0, 1) := by decide +kernel
theorem dL_law_1179 : decode cL_law 1179 = .ok (.iload 5, 2) := by decide +kernel
theorem dL_law_1181 : decode cL_law 1181 = .ok (.iconst 1, 1) := by decide +kernel
theorem dL_law_1182 : decode cL_law 1182 = .ok (.iadd, 1) := by decide +kernel
theorem dL_law_1183 : decode cL_law 1183 = .ok (.iaload, 1) := by decide +kernel
theorem dL_law_1184 : decode cL_law 1184 = .ok (.aload_n 0, 1) := by decide +kernel
theorem dL_law_1185 : decode cL_law 1185 = .ok (.iload 5, 2) := by decide +kernel
theorem dL_law_1187 : decode cL_law 1187 = .ok (.iconst 2, 1) := by decide +kernel
theorem dL_law_1188 : decode cL_law 1188 = .ok (.iadd, 1) := by decide +kernel
theorem dL_law_1189 : decode cL_law 1189 = .ok (.iaload, 1) := by decide +kernel
theorem dL_law_1190 : decode cL_law 1190 = .ok (.aload_n 0, 1) := by decide +kernel
theorem dL_law_1191 : decode cL_law 1191 = .ok (.iload 5, 2) := by decide +kernel
theorem dL_law_1193 : decode cL_law 1193 = .ok (.iconst 3, 1) := by decide +kernel
theorem dL_law_1194 : decode cL_law 1194 = .ok (.iadd, 1) := by decide +kernel
theorem dL_law_1195 : decode cL_law 1195 = .ok (.iaload, 1) := by decide +kernel
theorem dL_law_1196 : decode cL_law 1196 = .ok (.aload_n 3, 1) := by decide +kernel
theorem dL_law_1197 : decode cL_law 1197 = .ok (.invokestatic 143, 3) := by decide +kernel
theorem dL_law_1200 : decode cL_law 1200 = .ok (.istore 6, 2) := by decide +kernel
theorem dL_law_1202 : decode cL_law 1202 = .ok (.aload_n 2, 1) := by decide +kernel
theorem dL_law_1203 : decode cL_law 1203 = .ok (.aload_n 0, 1) := by decide +kernel
theorem dL_law_1204 : decode cL_law 1204 = .ok (.iload 5, 2) := by decide +kernel
theorem dL_law_1206 : decode cL_law 1206 = .ok (.iconst 1, 1) := by decide +kernel
theorem dL_law_1207 : decode cL_law 1207 = .ok (.iadd, 1) := by decide +kernel
theorem dL_law_1208 : decode cL_law 1208 = .ok (.iaload, 1) := by decide +kernel
theorem dL_law_1209 : decode cL_law 1209 = .ok (.aload_n 0, 1) := by decide +kernel
theorem dL_law_1210 : decode cL_law 1210 = .ok (.iload 5, 2) := by decide +kernel
theorem dL_law_1212 : decode cL_law 1212 = .ok (.iconst 2, 1) := by decide +kernel
theorem dL_law_1213 : decode cL_law 1213 = .ok (.iadd, 1) := by decide +kernel
theorem dL_law_1214 : decode cL_law 1214 = .ok (.iaload, 1) := by decide +kernel
theorem dL_law_1215 : decode cL_law 1215 = .ok (.aload_n 0, 1) := by decide +kernel
theorem dL_law_1216 : decode cL_law 1216 = .ok (.iload 5, 2) := by decide +kernel
theorem dL_law_1218 : decode cL_law 1218 = .ok (.iconst 3, 1) := by decide +kernel
theorem dL_law_1219 : decode cL_law 1219 = .ok (.iadd, 1) := by decide +kernel
theorem dL_law_1220 : decode cL_law 1220 = .ok (.iaload, 1) := by decide +kernel
theorem dL_law_1221 : decode cL_law 1221 = .ok (.invokevirtual 145, 3) := by decide +kernel
theorem dL_law_1224 : decode cL_law 1224 = .ok (.istore 7, 2) := by decide +kernel
theorem dL_law_1226 : decode cL_law 1226 = .ok (.aload_n 2, 1) := by decide +kernel
theorem dL_law_1227 : decode cL_law 1227 = .ok (.invokevirtual 90, 3) := by decide +kernel
theorem dL_law_1230 : decode cL_law 1230 = .ok (.iload 6, 2) := by decide +kernel
theorem dL_law_1232 : decode cL_law 1232 = .ok (.if_icmp .eq 5, 3) := by decide +kernel
theorem dL_law_1235 : decode cL_law 1235 = .ok (.iconst 0, 1) := by decide +kernel
theorem dL_law_1236 : decode cL_law 1236 = .ok (.ireturn, 1) := by decide +kernel
theorem dL_law_1237 : decode cL_law 1237 = .ok (.iload 6, 2) := by decide +kernel
theorem dL_law_1239 : decode cL_law 1239 = .ok (.ifCond .ne 15, 3) := by decide +kernel
theorem dL_law_1242 : decode cL_law 1242 = .ok (.aload_n 3, 1) := by decide +kernel
theorem dL_law_1243 : decode cL_law 1243 = .ok (.iconst 0, 1) := by decide +kernel
theorem dL_law_1244 : decode cL_law 1244 = .ok (.laload, 1) := by decide +kernel
theorem dL_law_1245 : decode cL_law 1245 = .ok (.iload 7, 2) := by decide +kernel
theorem dL_law_1247 : decode cL_law 1247 = .ok (.i2l, 1) := by decide +kernel
theorem dL_law_1248 : decode cL_law 1248 = .ok (.lcmp, 1) := by decide +kernel
theorem dL_law_1249 : decode cL_law 1249 = .ok (.ifCond .eq 5, 3) := by decide +kernel
theorem dL_law_1252 : decode cL_law 1252 = .ok (.iconst 0, 1) := by decide +kernel
theorem dL_law_1253 : decode cL_law 1253 = .ok (.ireturn, 1) := by decide +kernel
theorem dL_law_1254 : decode cL_law 1254 = .ok (.goto 312, 3) := by decide +kernel
theorem dL_law_1257 : decode cL_law 1257 = .ok (.aload_n 1, 1) := by decide +kernel
theorem dL_law_1258 : decode cL_law 1258 = .ok (.invokevirtual 146, 3) := by decide +kernel
theorem dL_law_1261 : decode cL_law 1261 = .ok (.aload_n 2, 1) := by decide +kernel
theorem dL_law_1262 : decode cL_law 1262 = .ok (.invokevirtual 149, 3) := by decide +kernel
theorem dL_law_1265 : decode cL_law 1265 = .ok (.if_icmp .eq 301, 3) := by decide +kernel
theorem dL_law_1268 : decode cL_law 1268 = .ok (.iconst 0, 1) := by decide +kernel
theorem dL_law_1269 : decode cL_law 1269 = .ok (.ireturn, 1) := by decide +kernel
theorem dL_law_1270 : decode cL_law 1270 = .ok (.aload_n 1, 1) := by decide +kernel
theorem dL_law_1271 : decode cL_law 1271 = .ok (.aload_n 0, 1) := by decide +kernel
theorem dL_law_1272 : decode cL_law 1272 = .ok (.iload 5, 2) := by decide +kernel
theorem dL_law_1274 : decode cL_law 1274 = .ok (.iconst 1, 1) := by decide +kernel
theorem dL_law_1275 : decode cL_law 1275 = .ok (.iadd, 1) := by decide +kernel
theorem dL_law_1276 : decode cL_law 1276 = .ok (.iaload, 1) := by decide +kernel
theorem dL_law_1277 : decode cL_law 1277 = .ok (.aload_n 0, 1) := by decide +kernel
theorem dL_law_1278 : decode cL_law 1278 = .ok (.iload 5, 2) := by decide +kernel
theorem dL_law_1280 : decode cL_law 1280 = .ok (.iconst 2, 1) := by decide +kernel
theorem dL_law_1281 : decode cL_law 1281 = .ok (.iadd, 1) := by decide +kernel
theorem dL_law_1282 : decode cL_law 1282 = .ok (.iaload, 1) := by decide +kernel
theorem dL_law_1283 : decode cL_law 1283 = .ok (.aload_n 3, 1) := by decide +kernel
theorem dL_law_1284 : decode cL_law 1284 = .ok (.invokestatic 150, 3) := by decide +kernel
theorem dL_law_1287 : decode cL_law 1287 = .ok (.istore 6, 2) := by decide +kernel
theorem dL_law_1289 : decode cL_law 1289 = .ok (.aload_n 2, 1) := by decide +kernel
theorem dL_law_1290 : decode cL_law 1290 = .ok (.aload_n 0, 1) := by decide +kernel
theorem dL_law_1291 : decode cL_law 1291 = .ok (.iload 5, 2) := by decide +kernel
theorem dL_law_1293 : decode cL_law 1293 = .ok (.iconst 1, 1) := by decide +kernel
theorem dL_law_1294 : decode cL_law 1294 = .ok (.iadd, 1) := by decide +kernel
theorem dL_law_1295 : decode cL_law 1295 = .ok (.iaload, 1) := by decide +kernel
theorem dL_law_1296 : decode cL_law 1296 = .ok (.aload_n 0, 1) := by decide +kernel
theorem dL_law_1297 : decode cL_law 1297 = .ok (.iload 5, 2) := by decide +kernel
theorem dL_law_1299 : decode cL_law 1299 = .ok (.iconst 2, 1) := by decide +kernel
theorem dL_law_1300 : decode cL_law 1300 = .ok (.iadd, 1) := by decide +kernel
theorem dL_law_1301 : decode cL_law 1301 = .ok (.iaload, 1) := by decide +kernel
theorem dL_law_1302 : decode cL_law 1302 = .ok (.invokevirtual 152, 3) := by decide +kernel
theorem dL_law_1305 : decode cL_law 1305 = .ok (.istore 7, 2) := by decide +kernel
theorem dL_law_1307 : decode cL_law 1307 = .ok (.aload_n 2, 1) := by decide +kernel
theorem dL_law_1308 : decode cL_law 1308 = .ok (.invokevirtual 90, 3) := by decide +kernel
theorem dL_law_1311 : decode cL_law 1311 = .ok (.iload 6, 2) := by decide +kernel
theorem dL_law_1313 : decode cL_law 1313 = .ok (.if_icmp .eq 5, 3) := by decide +kernel
theorem dL_law_1316 : decode cL_law 1316 = .ok (.iconst 0, 1) := by decide +kernel
theorem dL_law_1317 : decode cL_law 1317 = .ok (.ireturn, 1) := by decide +kernel
theorem dL_law_1318 : decode cL_law 1318 = .ok (.iload 6, 2) := by decide +kernel
theorem dL_law_1320 : decode cL_law 1320 = .ok (.ifCond .ne 15, 3) := by decide +kernel
theorem dL_law_1323 : decode cL_law 1323 = .ok (.aload_n 3, 1) := by decide +kernel
theorem dL_law_1324 : decode cL_law 1324 = .ok (.iconst 0, 1) := by decide +kernel
theorem dL_law_1325 : decode cL_law 1325 = .ok (.laload, 1) := by decide +kernel
theorem dL_law_1326 : decode cL_law 1326 = .ok (.iload 7, 2) := by decide +kernel
theorem dL_law_1328 : decode cL_law 1328 = .ok (.i2l, 1) := by decide +kernel
theorem dL_law_1329 : decode cL_law 1329 = .ok (.lcmp, 1) := by decide +kernel
theorem dL_law_1330 : decode cL_law 1330 = .ok (.ifCond .eq 5, 3) := by decide +kernel
theorem dL_law_1333 : decode cL_law 1333 = .ok (.iconst 0, 1) := by decide +kernel
theorem dL_law_1334 : decode cL_law 1334 = .ok (.ireturn, 1) := by decide +kernel
theorem dL_law_1335 : decode cL_law 1335 = .ok (.goto 231, 3) := by decide +kernel
theorem dL_law_1338 : decode cL_law 1338 = .ok (.aload_n 1, 1) := by decide +kernel
theorem dL_law_1339 : decode cL_law 1339 = .ok (.aload_n 0, 1) := by decide +kernel
theorem dL_law_1340 : decode cL_law 1340 = .ok (.iload 5, 2) := by decide +kernel
theorem dL_law_1342 : decode cL_law 1342 = .ok (.iconst 1, 1) := by decide +kernel
theorem dL_law_1343 : decode cL_law 1343 = .ok (.iadd, 1) := by decide +kernel
theorem dL_law_1344 : decode cL_law 1344 = .ok (.iaload, 1) := by decide +kernel
theorem dL_law_1345 : decode cL_law 1345 = .ok (.aload_n 3, 1) := by decide +kernel
theorem dL_law_1346 : decode cL_law 1346 = .ok (.invokestatic 153, 3) := by decide +kernel
theorem dL_law_1349 : decode cL_law 1349 = .ok (.istore 6, 2) := by decide +kernel
theorem dL_law_1351 : decode cL_law 1351 = .ok (.aload_n 2, 1) := by decide +kernel
theorem dL_law_1352 : decode cL_law 1352 = .ok (.aload_n 0, 1) := by decide +kernel
theorem dL_law_1353 : decode cL_law 1353 = .ok (.iload 5, 2) := by decide +kernel
theorem dL_law_1355 : decode cL_law 1355 = .ok (.iconst 1, 1) := by decide +kernel
theorem dL_law_1356 : decode cL_law 1356 = .ok (.iadd, 1) := by decide +kernel
theorem dL_law_1357 : decode cL_law 1357 = .ok (.iaload, 1) := by decide +kernel
theorem dL_law_1358 : decode cL_law 1358 = .ok (.invokevirtual 155, 3) := by decide +kernel
theorem dL_law_1361 : decode cL_law 1361 = .ok (.istore 7, 2) := by decide +kernel
theorem dL_law_1363 : decode cL_law 1363 = .ok (.aload_n 2, 1) := by decide +kernel
theorem dL_law_1364 : decode cL_law 1364 = .ok (.invokevirtual 90, 3) := by decide +kernel
theorem dL_law_1367 : decode cL_law 1367 = .ok (.iload 6, 2) := by decide +kernel
theorem dL_law_1369 : decode cL_law 1369 = .ok (.if_icmp .eq 5, 3) := by decide +kernel
theorem dL_law_1372 : decode cL_law 1372 = .ok (.iconst 0, 1) := by decide +kernel
theorem dL_law_1373 : decode cL_law 1373 = .ok (.ireturn, 1) := by decide +kernel
theorem dL_law_1374 : decode cL_law 1374 = .ok (.iload 6, 2) := by decide +kernel
theorem dL_law_1376 : decode cL_law 1376 = .ok (.ifCond .ne 15, 3) := by decide +kernel
theorem dL_law_1379 : decode cL_law 1379 = .ok (.aload_n 3, 1) := by decide +kernel
theorem dL_law_1380 : decode cL_law 1380 = .ok (.iconst 0, 1) := by decide +kernel
theorem dL_law_1381 : decode cL_law 1381 = .ok (.laload, 1) := by decide +kernel
theorem dL_law_1382 : decode cL_law 1382 = .ok (.iload 7, 2) := by decide +kernel
theorem dL_law_1384 : decode cL_law 1384 = .ok (.i2l, 1) := by decide +kernel
theorem dL_law_1385 : decode cL_law 1385 = .ok (.lcmp, 1) := by decide +kernel
theorem dL_law_1386 : decode cL_law 1386 = .ok (.ifCond .eq 5, 3) := by decide +kernel
theorem dL_law_1389 : decode cL_law 1389 = .ok (.iconst 0, 1) := by decide +kernel
theorem dL_law_1390 : decode cL_law 1390 = .ok (.ireturn, 1) := by decide +kernel
theorem dL_law_1391 : decode cL_law 1391 = .ok (.goto 175, 3) := by decide +kernel
theorem dL_law_1394 : decode cL_law 1394 = .ok (.aload_n 1, 1) := by decide +kernel
theorem dL_law_1395 : decode cL_law 1395 = .ok (.aload_n 0, 1) := by decide +kernel
theorem dL_law_1396 : decode cL_law 1396 = .ok (.iload 5, 2) := by decide +kernel
theorem dL_law_1398 : decode cL_law 1398 = .ok (.iconst 1, 1) := by decide +kernel
theorem dL_law_1399 : decode cL_law 1399 = .ok (.iadd, 1) := by decide +kernel
theorem dL_law_1400 : decode cL_law 1400 = .ok (.iaload, 1) := by decide +kernel
theorem dL_law_1401 : decode cL_law 1401 = .ok (.aload_n 0, 1) := by decide +kernel
theorem dL_law_1402 : decode cL_law 1402 = .ok (.iload 5, 2) := by decide +kernel
theorem dL_law_1404 : decode cL_law 1404 = .ok (.iconst 2, 1) := by decide +kernel
theorem dL_law_1405 : decode cL_law 1405 = .ok (.iadd, 1) := by decide +kernel
theorem dL_law_1406 : decode cL_law 1406 = .ok (.iaload, 1) := by decide +kernel
theorem dL_law_1407 : decode cL_law 1407 = .ok (.aload_n 3, 1) := by decide +kernel
theorem dL_law_1408 : decode cL_law 1408 = .ok (.invokestatic 156, 3) := by decide +kernel
theorem dL_law_1411 : decode cL_law 1411 = .ok (.istore 6, 2) := by decide +kernel
theorem dL_law_1413 : decode cL_law 1413 = .ok (.aload_n 2, 1) := by decide +kernel
theorem dL_law_1414 : decode cL_law 1414 = .ok (.aload_n 0, 1) := by decide +kernel
theorem dL_law_1415 : decode cL_law 1415 = .ok (.iload 5, 2) := by decide +kernel
theorem dL_law_1417 : decode cL_law 1417 = .ok (.iconst 1, 1) := by decide +kernel
theorem dL_law_1418 : decode cL_law 1418 = .ok (.iadd, 1) := by decide +kernel
theorem dL_law_1419 : decode cL_law 1419 = .ok (.iaload, 1) := by decide +kernel
theorem dL_law_1420 : decode cL_law 1420 = .ok (.aload_n 0, 1) := by decide +kernel
theorem dL_law_1421 : decode cL_law 1421 = .ok (.iload 5, 2) := by decide +kernel
theorem dL_law_1423 : decode cL_law 1423 = .ok (.iconst 2, 1) := by decide +kernel
theorem dL_law_1424 : decode cL_law 1424 = .ok (.iadd, 1) := by decide +kernel
theorem dL_law_1425 : decode cL_law 1425 = .ok (.iaload, 1) := by decide +kernel
theorem dL_law_1426 : decode cL_law 1426 = .ok (.invokevirtual 158, 3) := by decide +kernel
theorem dL_law_1429 : decode cL_law 1429 = .ok (.istore 7, 2) := by decide +kernel
theorem dL_law_1431 : decode cL_law 1431 = .ok (.aload_n 2, 1) := by decide +kernel
theorem dL_law_1432 : decode cL_law 1432 = .ok (.invokevirtual 90, 3) := by decide +kernel
theorem dL_law_1435 : decode cL_law 1435 = .ok (.iload 6, 2) := by decide +kernel
theorem dL_law_1437 : decode cL_law 1437 = .ok (.if_icmp .eq 5, 3) := by decide +kernel
theorem dL_law_1440 : decode cL_law 1440 = .ok (.iconst 0, 1) := by decide +kernel
theorem dL_law_1441 : decode cL_law 1441 = .ok (.ireturn, 1) := by decide +kernel
theorem dL_law_1442 : decode cL_law 1442 = .ok (.iload 6, 2) := by decide +kernel
theorem dL_law_1444 : decode cL_law 1444 = .ok (.ifCond .ne 15, 3) := by decide +kernel
theorem dL_law_1447 : decode cL_law 1447 = .ok (.aload_n 3, 1) := by decide +kernel
theorem dL_law_1448 : decode cL_law 1448 = .ok (.iconst 0, 1) := by decide +kernel
theorem dL_law_1449 : decode cL_law 1449 = .ok (.laload, 1) := by decide +kernel
theorem dL_law_1450 : decode cL_law 1450 = .ok (.iload 7, 2) := by decide +kernel
theorem dL_law_1452 : decode cL_law 1452 = .ok (.i2l, 1) := by decide +kernel
theorem dL_law_1453 : decode cL_law 1453 = .ok (.lcmp, 1) := by decide +kernel
theorem dL_law_1454 : decode cL_law 1454 = .ok (.ifCond .eq 5, 3) := by decide +kernel
theorem dL_law_1457 : decode cL_law 1457 = .ok (.iconst 0, 1) := by decide +kernel
theorem dL_law_1458 : decode cL_law 1458 = .ok (.ireturn, 1) := by decide +kernel
theorem dL_law_1459 : decode cL_law 1459 = .ok (.goto 107, 3) := by decide +kernel
theorem dL_law_1462 : decode cL_law 1462 = .ok (.aload_n 1, 1) := by decide +kernel
theorem dL_law_1463 : decode cL_law 1463 = .ok (.aload_n 0, 1) := by decide +kernel
theorem dL_law_1464 : decode cL_law 1464 = .ok (.iload 5, 2) := by decide +kernel
theorem dL_law_1466 : decode cL_law 1466 = .ok (.iconst 1, 1) := by decide +kernel
theorem dL_law_1467 : decode cL_law 1467 = .ok (.iadd, 1) := by decide +kernel
theorem dL_law_1468 : decode cL_law 1468 = .ok (.iaload, 1) := by decide +kernel
theorem dL_law_1469 : decode cL_law 1469 = .ok (.aload 4, 2) := by decide +kernel
theorem dL_law_1471 : decode cL_law 1471 = .ok (.invokestatic 159, 3) := by decide +kernel
theorem dL_law_1474 : decode cL_law 1474 = .ok (.istore 6, 2) := by decide +kernel
theorem dL_law_1476 : decode cL_law 1476 = .ok (.aload_n 2, 1) := by decide +kernel
theorem dL_law_1477 : decode cL_law 1477 = .ok (.aload_n 0, 1) := by decide +kernel
theorem dL_law_1478 : decode cL_law 1478 = .ok (.iload 5, 2) := by decide +kernel
theorem dL_law_1480 : decode cL_law 1480 = .ok (.iconst 1, 1) := by decide +kernel
theorem dL_law_1481 : decode cL_law 1481 = .ok (.iadd, 1) := by decide +kernel
theorem dL_law_1482 : decode cL_law 1482 = .ok (.iaload, 1) := by decide +kernel
theorem dL_law_1483 : decode cL_law 1483 = .ok (.invokevirtual 162, 3) := by decide +kernel
theorem dL_law_1486 : decode cL_law 1486 = .ok (.dstore 7, 2) := by decide +kernel
theorem dL_law_1488 : decode cL_law 1488 = .ok (.aload_n 2, 1) := by decide +kernel
theorem dL_law_1489 : decode cL_law 1489 = .ok (.invokevirtual 90, 3) := by decide +kernel
theorem dL_law_1492 : decode cL_law 1492 = .ok (.iload 6, 2) := by decide +kernel
theorem dL_law_1494 : decode cL_law 1494 = .ok (.if_icmp .eq 5, 3) := by decide +kernel
theorem dL_law_1497 : decode cL_law 1497 = .ok (.iconst 0, 1) := by decide +kernel
theorem dL_law_1498 : decode cL_law 1498 = .ok (.ireturn, 1) := by decide +kernel
theorem dL_law_1499 : decode cL_law 1499 = .ok (.iload 6, 2) := by decide +kernel
theorem dL_law_1501 : decode cL_law 1501 = .ok (.ifCond .ne 35, 3) := by decide +kernel
theorem dL_law_1504 : decode cL_law 1504 = .ok (.aload 4, 2) := by decide +kernel
theorem dL_law_1506 : decode cL_law 1506 = .ok (.iconst 0, 1) := by decide +kernel
theorem dL_law_1507 : decode cL_law 1507 = .ok (.daload, 1) := by decide +kernel
theorem dL_law_1508 : decode cL_law 1508 = .ok (.dload 7, 2) := by decide +kernel
theorem dL_law_1510 : decode cL_law 1510 = .ok (.dcmp .l, 1) := by decide +kernel
theorem dL_law_1511 : decode cL_law 1511 = .ok (.ifCond .eq 25, 3) := by decide +kernel
theorem dL_law_1514 : decode cL_law 1514 = .ok (.aload 4, 2) := by decide +kernel
theorem dL_law_1516 : decode cL_law 1516 = .ok (.iconst 0, 1) := by decide +kernel
theorem dL_law_1517 : decode cL_law 1517 = .ok (.daload, 1) := by decide +kernel
theorem dL_law_1518 : decode cL_law 1518 = .ok (.aload 4, 2) := by decide +kernel
theorem dL_law_1520 : decode cL_law 1520 = .ok (.iconst 0, 1) := by decide +kernel
theorem dL_law_1521 : decode cL_law 1521 = .ok (.daload, 1) := by decide +kernel
theorem dL_law_1522 : decode cL_law 1522 = .ok (.dcmp .l, 1) := by decide +kernel
theorem dL_law_1523 : decode cL_law 1523 = .ok (.ifCond .eq 11, 3) := by decide +kernel
theorem dL_law_1526 : decode cL_law 1526 = .ok (.dload 7, 2) := by decide +kernel
theorem dL_law_1528 : decode cL_law 1528 = .ok (.dload 7, 2) := by decide +kernel
theorem dL_law_1530 : decode cL_law 1530 = .ok (.dcmp .l, 1) := by decide +kernel
theorem dL_law_1531 : decode cL_law 1531 = .ok (.ifCond .ne 5, 3) := by decide +kernel
theorem dL_law_1534 : decode cL_law 1534 = .ok (.iconst 0, 1) := by decide +kernel
theorem dL_law_1535 : decode cL_law 1535 = .ok (.ireturn, 1) := by decide +kernel
theorem dL_law_1536 : decode cL_law 1536 = .ok (.goto 30, 3) := by decide +kernel
theorem dL_law_1539 : decode cL_law 1539 = .ok (.aload_n 1, 1) := by decide +kernel
theorem dL_law_1540 : decode cL_law 1540 = .ok (.invokevirtual 163, 3) := by decide +kernel
theorem dL_law_1543 : decode cL_law 1543 = .ok (.aload_n 2, 1) := by decide +kernel
theorem dL_law_1544 : decode cL_law 1544 = .ok (.invokevirtual 166, 3) := by decide +kernel
theorem dL_law_1547 : decode cL_law 1547 = .ok (.if_icmp .eq 19, 3) := by decide +kernel
theorem dL_law_1550 : decode cL_law 1550 = .ok (.iconst 0, 1) := by decide +kernel
theorem dL_law_1551 : decode cL_law 1551 = .ok (.ireturn, 1) := by decide +kernel
theorem dL_law_1552 : decode cL_law 1552 = .ok (.aload_n 1, 1) := by decide +kernel
theorem dL_law_1553 : decode cL_law 1553 = .ok (.invokevirtual 167, 3) := by decide +kernel
theorem dL_law_1556 : decode cL_law 1556 = .ok (.aload_n 2, 1) := by decide +kernel
theorem dL_law_1557 : decode cL_law 1557 = .ok (.invokevirtual 171, 3) := by decide +kernel
theorem dL_law_1560 : decode cL_law 1560 = .ok (.lcmp, 1) := by decide +kernel
theorem dL_law_1561 : decode cL_law 1561 = .ok (.ifCond .eq 5, 3) := by decide +kernel
theorem dL_law_1564 : decode cL_law 1564 = .ok (.iconst 0, 1) := by decide +kernel
theorem dL_law_1565 : decode cL_law 1565 = .ok (.ireturn, 1) := by decide +kernel
theorem dL_law_1566 : decode cL_law 1566 = .ok (.iinc 5 5, 3) := by decide +kernel
theorem dL_law_1569 : decode cL_law 1569 = .ok (.goto (-1541), 3) := by decide +kernel
theorem dL_law_1572 : decode cL_law 1572 = .ok (.iconst 1, 1) := by decide +kernel
theorem dL_law_1573 : decode cL_law 1573 = .ok (.ireturn, 1) := by decide +kernel
end
section
theorem in_t1 : ∀ w ∈ tables_1_1, w ∈ lw_tbl := fun w h => List.mem_append_right _ (List.mem_append_left _ h)
theorem in_t2 : ∀ w ∈ tables_1_2, w ∈ lw_tbl := fun w h => List.mem_append_right _ (List.mem_append_right _ (List.mem_append_left _ h))
theorem in_t3 : ∀ w ∈ tables_1_3, w ∈ lw_tbl := fun w h => List.mem_append_right _ (List.mem_append_right _ (List.mem_append_right _ (List.mem_append_left _ h)))
theorem in_t4 : ∀ w ∈ tables_1_4, w ∈ lw_tbl := fun w h => List.mem_append_right _ (List.mem_append_right _ (List.mem_append_right _ (List.mem_append_right _ (List.mem_append_left _ h))))
theorem in_t5 : ∀ w ∈ tables_1_5, w ∈ lw_tbl := fun w h => List.mem_append_right _ (List.mem_append_right _ (List.mem_append_right _ (List.mem_append_right _ (List.mem_append_right _ (List.mem_append_left _ h)))))
theorem in_t6 : ∀ w ∈ tables_1_6, w ∈ lw_tbl := fun w h => List.mem_append_right _ (List.mem_append_right _ (List.mem_append_right _ (List.mem_append_right _ (List.mem_append_right _ (List.mem_append_right _ (h))))))
theorem tw_1_0 : (Jvm.Cond.initialized "CueBookLaw") ∈ lw_tbl := in_t1 _ (List.mem_of_getElem? (i := 0) (by decide +kernel))
theorem tw_1_1 : (Jvm.Cond.initialized "CueBook") ∈ lw_tbl := in_t1 _ (List.mem_of_getElem? (i := 1) (by decide +kernel))
theorem tw_1_2 : (Jvm.Cond.initialized "java/util/AbstractCollection") ∈ lw_tbl := in_t1 _ (List.mem_of_getElem? (i := 2) (by decide +kernel))
theorem tw_1_3 : (Jvm.Cond.initialized "java/util/AbstractList") ∈ lw_tbl := in_t1 _ (List.mem_of_getElem? (i := 3) (by decide +kernel))
theorem tw_1_4 : (Jvm.Cond.initialized "java/util/ArrayList") ∈ lw_tbl := in_t1 _ (List.mem_of_getElem? (i := 4) (by decide +kernel))
theorem tw_1_5 : (Jvm.Cond.initialized "CueBookModel") ∈ lw_tbl := in_t1 _ (List.mem_of_getElem? (i := 5) (by decide +kernel))
theorem tw_1_6 : (Jvm.Cond.initialized "java/lang/Throwable") ∈ lw_tbl := in_t1 _ (List.mem_of_getElem? (i := 6) (by decide +kernel))
theorem tw_1_7 : (Jvm.Cond.initialized "java/lang/Exception") ∈ lw_tbl := in_t1 _ (List.mem_of_getElem? (i := 7) (by decide +kernel))
theorem tw_1_8 : (Jvm.Cond.initialized "java/lang/RuntimeException") ∈ lw_tbl := in_t1 _ (List.mem_of_getElem? (i := 8) (by decide +kernel))
theorem tw_1_9 : (Jvm.Cond.initialized "java/lang/IllegalArgumentException") ∈ lw_tbl := in_t1 _ (List.mem_of_getElem? (i := 9) (by decide +kernel))
theorem tw_1_10 : (Jvm.Cond.initialized "java/lang/IllegalStateException") ∈ lw_tbl := in_t1 _ (List.mem_of_getElem? (i := 10) (by decide +kernel))
theorem tw_1_11 : (Jvm.Cond.initialized "CueBook$Puppet") ∈ lw_tbl := in_t1 _ (List.mem_of_getElem? (i := 11) (by decide +kernel))
theorem tw_1_12 : (Jvm.Cond.initialized "java/util/Arrays") ∈ lw_tbl := in_t1 _ (List.mem_of_getElem? (i := 12) (by decide +kernel))
theorem tw_1_13 : (Jvm.Cond.initialized "jdk/internal/util/ArraysSupport") ∈ lw_tbl := in_t1 _ (List.mem_of_getElem? (i := 13) (by decide +kernel))
theorem tw_1_14 : (Jvm.Cond.initialized "java/lang/Math") ∈ lw_tbl := in_t1 _ (List.mem_of_getElem? (i := 14) (by decide +kernel))
theorem tw_1_15 : (Jvm.Cond.initialized "java/lang/System") ∈ lw_tbl := in_t1 _ (List.mem_of_getElem? (i := 15) (by decide +kernel))
theorem tw_1_16 : (Jvm.Cond.initialized "CueBook$Player") ∈ lw_tbl := in_t1 _ (List.mem_of_getElem? (i := 16) (by decide +kernel))
theorem tw_1_17 : (Jvm.Cond.initialized "java/lang/IndexOutOfBoundsException") ∈ lw_tbl := in_t1 _ (List.mem_of_getElem? (i := 17) (by decide +kernel))
theorem tw_1_18 : (Jvm.Cond.initialized "java/util/Objects") ∈ lw_tbl := in_t1 _ (List.mem_of_getElem? (i := 18) (by decide +kernel))
theorem tw_1_19 : (Jvm.Cond.initialized "jdk/internal/util/Preconditions") ∈ lw_tbl := in_t1 _ (List.mem_of_getElem? (i := 19) (by decide +kernel))
theorem tw_1_20 : (Jvm.Cond.initialized "CueBook$Cue") ∈ lw_tbl := in_t1 _ (List.mem_of_getElem? (i := 20) (by decide +kernel))
theorem tw_1_21 : (Jvm.Cond.initialized "java/lang/AbstractStringBuilder") ∈ lw_tbl := in_t1 _ (List.mem_of_getElem? (i := 21) (by decide +kernel))
theorem tw_1_22 : (Jvm.Cond.initialized "java/lang/StringBuilder") ∈ lw_tbl := in_t1 _ (List.mem_of_getElem? (i := 22) (by decide +kernel))
theorem tw_1_23 : (Jvm.Cond.initialized "java/lang/String") ∈ lw_tbl := in_t1 _ (List.mem_of_getElem? (i := 23) (by decide +kernel))
theorem tw_1_24 : (Jvm.Cond.initialized "java/lang/StringUTF16") ∈ lw_tbl := in_t1 _ (List.mem_of_getElem? (i := 24) (by decide +kernel))
theorem tw_1_25 : (Jvm.Cond.initialized "java/lang/StringLatin1") ∈ lw_tbl := in_t1 _ (List.mem_of_getElem? (i := 25) (by decide +kernel))
theorem tw_1_26 : (Jvm.Cond.initialized "java/lang/Number") ∈ lw_tbl := in_t1 _ (List.mem_of_getElem? (i := 26) (by decide +kernel))
theorem tw_1_27 : (Jvm.Cond.initialized "java/lang/Integer") ∈ lw_tbl := in_t1 _ (List.mem_of_getElem? (i := 27) (by decide +kernel))
theorem tw_1_28 : (Jvm.Cond.initialized "CueBook$Path") ∈ lw_tbl := in_t1 _ (List.mem_of_getElem? (i := 28) (by decide +kernel))
theorem tw_1_29 : (Jvm.Cond.initialized "CueBook$Stay") ∈ lw_tbl := in_t1 _ (List.mem_of_getElem? (i := 29) (by decide +kernel))
theorem tw_1_30 : (Jvm.Cond.classLink "CueBookLaw" (8 : Nat) "CueBook") ∈ lw_tbl := in_t1 _ (List.mem_of_getElem? (i := 30) (by decide +kernel))
theorem tw_1_31 : (Jvm.Cond.instantiable "CueBook" (8 : Nat)) ∈ lw_tbl := in_t1 _ (List.mem_of_getElem? (i := 31) (by decide +kernel))
theorem tw_1_32 : (Jvm.Cond.methodLink "CueBookLaw" (80 : Nat) ({ cls := "CueBook", name := "<init>", desc := "()V" } : Jvm.MethodName)) ∈ lw_tbl := in_t1 _ (List.mem_of_getElem? (i := 32) (by decide +kernel))
theorem tw_1_33 : (Jvm.Cond.instanceMethod ({ cls := "CueBook", name := "<init>", desc := "()V" } : Jvm.MethodName)) ∈ lw_tbl := in_t1 _ (List.mem_of_getElem? (i := 33) (by decide +kernel))
theorem tw_1_34 : (Jvm.Cond.code ({ cls := "CueBook", name := "<init>", desc := "()V" } : Jvm.MethodName) prog_1_method_1_code (1 : Nat) (Option.none : Option Jvm.ClassFile.FieldType)) ∈ lw_tbl := in_t1 _ (List.mem_of_getElem? (i := 34) (by decide +kernel))
theorem tw_1_35 : (Jvm.Cond.methodLink "CueBook" (1 : Nat) ({ cls := "java/lang/Object", name := "<init>", desc := "()V" } : Jvm.MethodName)) ∈ lw_tbl := in_t1 _ (List.mem_of_getElem? (i := 35) (by decide +kernel))
theorem tw_1_36 : (Jvm.Cond.instanceMethod ({ cls := "java/lang/Object", name := "<init>", desc := "()V" } : Jvm.MethodName)) ∈ lw_tbl := in_t1 _ (List.mem_of_getElem? (i := 36) (by decide +kernel))
theorem tw_1_37 : (Jvm.Cond.code ({ cls := "java/lang/Object", name := "<init>", desc := "()V" } : Jvm.MethodName) object_method_1_code (1 : Nat) (Option.none : Option Jvm.ClassFile.FieldType)) ∈ lw_tbl := in_t1 _ (List.mem_of_getElem? (i := 37) (by decide +kernel))
theorem tw_1_38 : (Jvm.Cond.classLink "CueBook" (7 : Nat) "java/util/ArrayList") ∈ lw_tbl := in_t1 _ (List.mem_of_getElem? (i := 38) (by decide +kernel))
theorem tw_1_39 : (Jvm.Cond.instantiable "java/util/ArrayList" (3 : Nat)) ∈ lw_tbl := in_t1 _ (List.mem_of_getElem? (i := 39) (by decide +kernel))
theorem tw_1_40 : (Jvm.Cond.methodLink "CueBook" (9 : Nat) ({ cls := "java/util/ArrayList", name := "<init>", desc := "()V" } : Jvm.MethodName)) ∈ lw_tbl := in_t1 _ (List.mem_of_getElem? (i := 40) (by decide +kernel))
theorem tw_1_41 : (Jvm.Cond.instanceMethod ({ cls := "java/util/ArrayList", name := "<init>", desc := "()V" } : Jvm.MethodName)) ∈ lw_tbl := in_t1 _ (List.mem_of_getElem? (i := 41) (by decide +kernel))
theorem tw_1_42 : (Jvm.Cond.code ({ cls := "java/util/ArrayList", name := "<init>", desc := "()V" } : Jvm.MethodName) prog_34_method_2_code (1 : Nat) (Option.none : Option Jvm.ClassFile.FieldType)) ∈ lw_tbl := in_t1 _ (List.mem_of_getElem? (i := 42) (by decide +kernel))
theorem tw_1_43 : (Jvm.Cond.methodLink "java/util/ArrayList" (1 : Nat) ({ cls := "java/util/AbstractList", name := "<init>", desc := "()V" } : Jvm.MethodName)) ∈ lw_tbl := in_t1 _ (List.mem_of_getElem? (i := 43) (by decide +kernel))
theorem tw_1_44 : (Jvm.Cond.instanceMethod ({ cls := "java/util/AbstractList", name := "<init>", desc := "()V" } : Jvm.MethodName)) ∈ lw_tbl := in_t1 _ (List.mem_of_getElem? (i := 44) (by decide +kernel))
theorem tw_1_45 : (Jvm.Cond.code ({ cls := "java/util/AbstractList", name := "<init>", desc := "()V" } : Jvm.MethodName) prog_33_method_1_code (1 : Nat) (Option.none : Option Jvm.ClassFile.FieldType)) ∈ lw_tbl := in_t1 _ (List.mem_of_getElem? (i := 45) (by decide +kernel))
theorem tw_1_46 : (Jvm.Cond.methodLink "java/util/AbstractList" (1 : Nat) ({ cls := "java/util/AbstractCollection", name := "<init>", desc := "()V" } : Jvm.MethodName)) ∈ lw_tbl := in_t1 _ (List.mem_of_getElem? (i := 46) (by decide +kernel))
theorem tw_1_47 : (Jvm.Cond.instanceMethod ({ cls := "java/util/AbstractCollection", name := "<init>", desc := "()V" } : Jvm.MethodName)) ∈ lw_tbl := in_t1 _ (List.mem_of_getElem? (i := 47) (by decide +kernel))
theorem tw_1_48 : (Jvm.Cond.code ({ cls := "java/util/AbstractCollection", name := "<init>", desc := "()V" } : Jvm.MethodName) prog_32_method_1_code (1 : Nat) (Option.none : Option Jvm.ClassFile.FieldType)) ∈ lw_tbl := in_t1 _ (List.mem_of_getElem? (i := 48) (by decide +kernel))
theorem tw_1_49 : (Jvm.Cond.methodLink "java/util/AbstractCollection" (1 : Nat) ({ cls := "java/lang/Object", name := "<init>", desc := "()V" } : Jvm.MethodName)) ∈ lw_tbl := in_t1 _ (List.mem_of_getElem? (i := 49) (by decide +kernel))
theorem tw_1_50 : (Jvm.Cond.fieldLink "java/util/ArrayList" (39 : Nat) "java/util/ArrayList" "DEFAULTCAPACITY_EMPTY_ELEMENTDATA" "[Ljava/lang/Object;") ∈ lw_tbl := in_t1 _ (List.mem_of_getElem? (i := 50) (by decide +kernel))
theorem tw_1_51 : (Jvm.Cond.laysStatic "java/util/ArrayList" "DEFAULTCAPACITY_EMPTY_ELEMENTDATA" "[Ljava/lang/Object;") ∈ lw_tbl := in_t1 _ (List.mem_of_getElem? (i := 51) (by decide +kernel))
theorem tw_1_52 : (Jvm.Cond.fieldLink "java/util/ArrayList" (9 : Nat) "java/util/ArrayList" "elementData" "[Ljava/lang/Object;") ∈ lw_tbl := in_t1 _ (List.mem_of_getElem? (i := 52) (by decide +kernel))
theorem tw_1_53 : (Jvm.Cond.fieldLink "java/util/ArrayList" (48 : Nat) "java/util/ArrayList" "size" "I") ∈ lw_tbl := in_t1 _ (List.mem_of_getElem? (i := 53) (by decide +kernel))
theorem tw_1_54 : (Jvm.Cond.fieldLink "java/util/AbstractList" (7 : Nat) "java/util/AbstractList" "modCount" "I") ∈ lw_tbl := in_t1 _ (List.mem_of_getElem? (i := 54) (by decide +kernel))
theorem tw_1_55 : (Jvm.Cond.fieldLink "java/util/ArrayList" (63 : Nat) "java/util/ArrayList" "modCount" "I") ∈ lw_tbl := in_t1 _ (List.mem_of_getElem? (i := 55) (by decide +kernel))
theorem tw_1_56 : (Jvm.Cond.sameField "java/util/ArrayList" "java/util/AbstractList" "modCount" "I") ∈ lw_tbl := in_t1 _ (List.mem_of_getElem? (i := 56) (by decide +kernel))
theorem tw_1_57 : (Jvm.Cond.lays "java/util/ArrayList" "java/util/ArrayList" "elementData" "[Ljava/lang/Object;") ∈ lw_tbl := in_t1 _ (List.mem_of_getElem? (i := 57) (by decide +kernel))
theorem tw_1_58 : (Jvm.Cond.soleField "java/util/ArrayList" "elementData") ∈ lw_tbl := in_t1 _ (List.mem_of_getElem? (i := 58) (by decide +kernel))
theorem tw_1_59 : (Jvm.Cond.lays "java/util/ArrayList" "java/util/ArrayList" "size" "I") ∈ lw_tbl := in_t1 _ (List.mem_of_getElem? (i := 59) (by decide +kernel))
theorem tw_1_60 : (Jvm.Cond.soleField "java/util/ArrayList" "size") ∈ lw_tbl := in_t1 _ (List.mem_of_getElem? (i := 60) (by decide +kernel))
theorem tw_1_61 : (Jvm.Cond.lays "java/util/ArrayList" "java/util/AbstractList" "modCount" "I") ∈ lw_tbl := in_t1 _ (List.mem_of_getElem? (i := 61) (by decide +kernel))
theorem tw_1_62 : (Jvm.Cond.soleField "java/util/AbstractList" "modCount") ∈ lw_tbl := in_t1 _ (List.mem_of_getElem? (i := 62) (by decide +kernel))
theorem tw_1_63 : (Jvm.Cond.superclass "java/util/ArrayList" "java/util/AbstractList") ∈ lw_tbl := in_t1 _ (List.mem_of_getElem? (i := 63) (by decide +kernel))
theorem tw_1_64 : (Jvm.Cond.fieldLink "CueBook" (10 : Nat) "CueBook" "puppets" "Ljava/util/ArrayList;") ∈ lw_tbl := in_t1 _ (List.mem_of_getElem? (i := 64) (by decide +kernel))
theorem tw_1_65 : (Jvm.Cond.fieldLink "CueBook" (16 : Nat) "CueBook" "players" "Ljava/util/ArrayList;") ∈ lw_tbl := in_t1 _ (List.mem_of_getElem? (i := 65) (by decide +kernel))
theorem tw_1_66 : (Jvm.Cond.fieldLink "CueBook" (19 : Nat) "CueBook" "cues" "Ljava/util/ArrayList;") ∈ lw_tbl := in_t1 _ (List.mem_of_getElem? (i := 66) (by decide +kernel))
theorem tw_1_67 : (Jvm.Cond.fieldLink "CueBook" (22 : Nat) "CueBook" "castingOrder" "Ljava/util/ArrayList;") ∈ lw_tbl := in_t1 _ (List.mem_of_getElem? (i := 67) (by decide +kernel))
theorem tw_1_68 : (Jvm.Cond.fieldLink "CueBook" (25 : Nat) "CueBook" "struckCues" "I") ∈ lw_tbl := in_t1 _ (List.mem_of_getElem? (i := 68) (by decide +kernel))
theorem tw_1_69 : (Jvm.Cond.fieldLink "CueBook" (29 : Nat) "CueBook" "castingStands" "Z") ∈ lw_tbl := in_t1 _ (List.mem_of_getElem? (i := 69) (by decide +kernel))
theorem tw_1_70 : (Jvm.Cond.fieldLink "CueBook" (33 : Nat) "CueBook" "clashesStand" "Z") ∈ lw_tbl := in_t1 _ (List.mem_of_getElem? (i := 70) (by decide +kernel))
theorem tw_1_71 : (Jvm.Cond.fieldLink "CueBook" (36 : Nat) "CueBook" "clashingPairs" "I") ∈ lw_tbl := in_t1 _ (List.mem_of_getElem? (i := 71) (by decide +kernel))
theorem tw_1_72 : (Jvm.Cond.laysFinal "CueBook" "CueBook" "puppets" "Ljava/util/ArrayList;") ∈ lw_tbl := in_t1 _ (List.mem_of_getElem? (i := 72) (by decide +kernel))
theorem tw_1_73 : (Jvm.Cond.soleField "CueBook" "puppets") ∈ lw_tbl := in_t1 _ (List.mem_of_getElem? (i := 73) (by decide +kernel))
theorem tw_1_74 : (Jvm.Cond.laysFinal "CueBook" "CueBook" "players" "Ljava/util/ArrayList;") ∈ lw_tbl := in_t1 _ (List.mem_of_getElem? (i := 74) (by decide +kernel))
theorem tw_1_75 : (Jvm.Cond.soleField "CueBook" "players") ∈ lw_tbl := in_t1 _ (List.mem_of_getElem? (i := 75) (by decide +kernel))
theorem tw_1_76 : (Jvm.Cond.laysFinal "CueBook" "CueBook" "cues" "Ljava/util/ArrayList;") ∈ lw_tbl := in_t1 _ (List.mem_of_getElem? (i := 76) (by decide +kernel))
theorem tw_1_77 : (Jvm.Cond.soleField "CueBook" "cues") ∈ lw_tbl := in_t1 _ (List.mem_of_getElem? (i := 77) (by decide +kernel))
theorem tw_1_78 : (Jvm.Cond.laysFinal "CueBook" "CueBook" "castingOrder" "Ljava/util/ArrayList;") ∈ lw_tbl := in_t1 _ (List.mem_of_getElem? (i := 78) (by decide +kernel))
theorem tw_1_79 : (Jvm.Cond.soleField "CueBook" "castingOrder") ∈ lw_tbl := in_t1 _ (List.mem_of_getElem? (i := 79) (by decide +kernel))
theorem tw_1_80 : (Jvm.Cond.lays "CueBook" "CueBook" "struckCues" "I") ∈ lw_tbl := in_t1 _ (List.mem_of_getElem? (i := 80) (by decide +kernel))
theorem tw_1_81 : (Jvm.Cond.soleField "CueBook" "struckCues") ∈ lw_tbl := in_t1 _ (List.mem_of_getElem? (i := 81) (by decide +kernel))
theorem tw_1_82 : (Jvm.Cond.lays "CueBook" "CueBook" "castingStands" "Z") ∈ lw_tbl := in_t1 _ (List.mem_of_getElem? (i := 82) (by decide +kernel))
theorem tw_1_83 : (Jvm.Cond.soleField "CueBook" "castingStands") ∈ lw_tbl := in_t1 _ (List.mem_of_getElem? (i := 83) (by decide +kernel))
theorem tw_1_84 : (Jvm.Cond.lays "CueBook" "CueBook" "clashesStand" "Z") ∈ lw_tbl := in_t1 _ (List.mem_of_getElem? (i := 84) (by decide +kernel))
theorem tw_1_85 : (Jvm.Cond.soleField "CueBook" "clashesStand") ∈ lw_tbl := in_t1 _ (List.mem_of_getElem? (i := 85) (by decide +kernel))
theorem tw_1_86 : (Jvm.Cond.lays "CueBook" "CueBook" "clashingPairs" "I") ∈ lw_tbl := in_t1 _ (List.mem_of_getElem? (i := 86) (by decide +kernel))
theorem tw_1_87 : (Jvm.Cond.soleField "CueBook" "clashingPairs") ∈ lw_tbl := in_t1 _ (List.mem_of_getElem? (i := 87) (by decide +kernel))
theorem tw_1_88 : (Jvm.Cond.superclass "CueBook" "java/lang/Object") ∈ lw_tbl := in_t1 _ (List.mem_of_getElem? (i := 88) (by decide +kernel))
theorem tw_1_89 : (Jvm.Cond.methodLink "CueBookLaw" (133 : Nat) ({ cls := "CueBook", name := "clashes", desc := "()I" } : Jvm.MethodName)) ∈ lw_tbl := in_t1 _ (List.mem_of_getElem? (i := 89) (by decide +kernel))
theorem tw_1_90 : (Jvm.Cond.instanceMethod ({ cls := "CueBook", name := "clashes", desc := "()I" } : Jvm.MethodName)) ∈ lw_tbl := in_t1 _ (List.mem_of_getElem? (i := 90) (by decide +kernel))
theorem tw_1_91 : (Jvm.Cond.selects "CueBook" ({ cls := "CueBook", name := "clashes", desc := "()I" } : Jvm.MethodName) ({ cls := "CueBook", name := "clashes", desc := "()I" } : Jvm.MethodName)) ∈ lw_tbl := in_t1 _ (List.mem_of_getElem? (i := 91) (by decide +kernel))
theorem tw_1_92 : (Jvm.Cond.code ({ cls := "CueBook", name := "clashes", desc := "()I" } : Jvm.MethodName) prog_1_method_15_code (1 : Nat) (Option.some Jvm.ClassFile.FieldType.int)) ∈ lw_tbl := in_t1 _ (List.mem_of_getElem? (i := 92) (by decide +kernel))
theorem tw_1_93 : (Jvm.Cond.methodLink "CueBook" (150 : Nat) ({ cls := "CueBook", name := "countClashingPairs", desc := "()I" } : Jvm.MethodName)) ∈ lw_tbl := in_t1 _ (List.mem_of_getElem? (i := 93) (by decide +kernel))
theorem tw_1_94 : (Jvm.Cond.privateMethod ({ cls := "CueBook", name := "countClashingPairs", desc := "()I" } : Jvm.MethodName)) ∈ lw_tbl := in_t1 _ (List.mem_of_getElem? (i := 94) (by decide +kernel))
theorem tw_1_95 : (Jvm.Cond.instanceMethod ({ cls := "CueBook", name := "countClashingPairs", desc := "()I" } : Jvm.MethodName)) ∈ lw_tbl := in_t1 _ (List.mem_of_getElem? (i := 95) (by decide +kernel))
theorem tw_1_96 : (Jvm.Cond.code ({ cls := "CueBook", name := "countClashingPairs", desc := "()I" } : Jvm.MethodName) prog_1_method_37_code (4 : Nat) (Option.some Jvm.ClassFile.FieldType.int)) ∈ lw_tbl := in_t1 _ (List.mem_of_getElem? (i := 96) (by decide +kernel))
theorem tw_1_97 : (Jvm.Cond.methodLink "CueBook" (48 : Nat) ({ cls := "java/util/ArrayList", name := "size", desc := "()I" } : Jvm.MethodName)) ∈ lw_tbl := in_t1 _ (List.mem_of_getElem? (i := 97) (by decide +kernel))
theorem tw_1_98 : (Jvm.Cond.instanceMethod ({ cls := "java/util/ArrayList", name := "size", desc := "()I" } : Jvm.MethodName)) ∈ lw_tbl := in_t1 _ (List.mem_of_getElem? (i := 98) (by decide +kernel))
theorem tw_1_99 : (Jvm.Cond.selects "java/util/ArrayList" ({ cls := "java/util/ArrayList", name := "size", desc := "()I" } : Jvm.MethodName) ({ cls := "java/util/ArrayList", name := "size", desc := "()I" } : Jvm.MethodName)) ∈ lw_tbl := in_t1 _ (List.mem_of_getElem? (i := 99) (by decide +kernel))
theorem tw_1_100 : (Jvm.Cond.code ({ cls := "java/util/ArrayList", name := "size", desc := "()I" } : Jvm.MethodName) prog_34_method_8_code (1 : Nat) (Option.some Jvm.ClassFile.FieldType.int)) ∈ lw_tbl := in_t1 _ (List.mem_of_getElem? (i := 100) (by decide +kernel))
theorem tw_1_101 : (Jvm.Cond.methodLink "CueBook" (137 : Nat) ({ cls := "java/util/ArrayList", name := "get", desc := "(I)Ljava/lang/Object;" } : Jvm.MethodName)) ∈ lw_tbl := in_t1 _ (List.mem_of_getElem? (i := 101) (by decide +kernel))
theorem tw_1_102 : (Jvm.Cond.instanceMethod ({ cls := "java/util/ArrayList", name := "get", desc := "(I)Ljava/lang/Object;" } : Jvm.MethodName)) ∈ lw_tbl := in_t1 _ (List.mem_of_getElem? (i := 102) (by decide +kernel))
theorem tw_1_103 : (Jvm.Cond.selects "java/util/ArrayList" ({ cls := "java/util/ArrayList", name := "get", desc := "(I)Ljava/lang/Object;" } : Jvm.MethodName) ({ cls := "java/util/ArrayList", name := "get", desc := "(I)Ljava/lang/Object;" } : Jvm.MethodName)) ∈ lw_tbl := in_t1 _ (List.mem_of_getElem? (i := 103) (by decide +kernel))
theorem tw_1_104 : (Jvm.Cond.code ({ cls := "java/util/ArrayList", name := "get", desc := "(I)Ljava/lang/Object;" } : Jvm.MethodName) prog_34_method_20_code (2 : Nat) (Option.some (Jvm.ClassFile.FieldType.object "java/lang/Object"))) ∈ lw_tbl := in_t1 _ (List.mem_of_getElem? (i := 104) (by decide +kernel))
theorem tw_1_105 : (Jvm.Cond.methodLink "java/util/ArrayList" (118 : Nat) ({ cls := "java/util/Objects", name := "checkIndex", desc := "(II)I" } : Jvm.MethodName)) ∈ lw_tbl := in_t1 _ (List.mem_of_getElem? (i := 105) (by decide +kernel))
theorem tw_1_106 : (Jvm.Cond.static ({ cls := "java/util/Objects", name := "checkIndex", desc := "(II)I" } : Jvm.MethodName)) ∈ lw_tbl := in_t1 _ (List.mem_of_getElem? (i := 106) (by decide +kernel))
theorem tw_1_107 : (Jvm.Cond.code ({ cls := "java/util/Objects", name := "checkIndex", desc := "(II)I" } : Jvm.MethodName) prog_38_method_17_code (2 : Nat) (Option.some Jvm.ClassFile.FieldType.int)) ∈ lw_tbl := in_t1 _ (List.mem_of_getElem? (i := 107) (by decide +kernel))
theorem tw_1_108 : (Jvm.Cond.methodLink "java/util/Objects" (105 : Nat) ({ cls := "jdk/internal/util/Preconditions", name := "checkIndex", desc := "(IILjava/util/function/BiFunction;)I" } : Jvm.MethodName)) ∈ lw_tbl := in_t1 _ (List.mem_of_getElem? (i := 108) (by decide +kernel))
theorem tw_1_109 : (Jvm.Cond.static ({ cls := "jdk/internal/util/Preconditions", name := "checkIndex", desc := "(IILjava/util/function/BiFunction;)I" } : Jvm.MethodName)) ∈ lw_tbl := in_t1 _ (List.mem_of_getElem? (i := 109) (by decide +kernel))
theorem tw_1_110 : (Jvm.Cond.code ({ cls := "jdk/internal/util/Preconditions", name := "checkIndex", desc := "(IILjava/util/function/BiFunction;)I" } : Jvm.MethodName) prog_42_method_11_code (3 : Nat) (Option.some Jvm.ClassFile.FieldType.int)) ∈ lw_tbl := in_t1 _ (List.mem_of_getElem? (i := 110) (by decide +kernel))
theorem tw_1_111 : (Jvm.Cond.methodLink "java/util/ArrayList" (123 : Nat) ({ cls := "java/util/ArrayList", name := "elementData", desc := "(I)Ljava/lang/Object;" } : Jvm.MethodName)) ∈ lw_tbl := in_t1 _ (List.mem_of_getElem? (i := 111) (by decide +kernel))
theorem tw_1_112 : (Jvm.Cond.instanceMethod ({ cls := "java/util/ArrayList", name := "elementData", desc := "(I)Ljava/lang/Object;" } : Jvm.MethodName)) ∈ lw_tbl := in_t1 _ (List.mem_of_getElem? (i := 112) (by decide +kernel))
theorem tw_1_113 : (Jvm.Cond.selects "java/util/ArrayList" ({ cls := "java/util/ArrayList", name := "elementData", desc := "(I)Ljava/lang/Object;" } : Jvm.MethodName) ({ cls := "java/util/ArrayList", name := "elementData", desc := "(I)Ljava/lang/Object;" } : Jvm.MethodName)) ∈ lw_tbl := in_t1 _ (List.mem_of_getElem? (i := 113) (by decide +kernel))
theorem tw_1_114 : (Jvm.Cond.code ({ cls := "java/util/ArrayList", name := "elementData", desc := "(I)Ljava/lang/Object;" } : Jvm.MethodName) prog_34_method_18_code (2 : Nat) (Option.some (Jvm.ClassFile.FieldType.object "java/lang/Object"))) ∈ lw_tbl := in_t1 _ (List.mem_of_getElem? (i := 114) (by decide +kernel))
theorem tw_1_115 : (Jvm.Cond.classLink "CueBook" (57 : Nat) "CueBook$Puppet") ∈ lw_tbl := in_t1 _ (List.mem_of_getElem? (i := 115) (by decide +kernel))
theorem tw_1_116 : (Jvm.Cond.methodLink "CueBook" (146 : Nat) ({ cls := "CueBook", name := "firstClash", desc := "(LCueBook$Puppet;LCueBook$Puppet;)I" } : Jvm.MethodName)) ∈ lw_tbl := in_t1 _ (List.mem_of_getElem? (i := 116) (by decide +kernel))
theorem tw_1_117 : (Jvm.Cond.static ({ cls := "CueBook", name := "firstClash", desc := "(LCueBook$Puppet;LCueBook$Puppet;)I" } : Jvm.MethodName)) ∈ lw_tbl := in_t1 _ (List.mem_of_getElem? (i := 117) (by decide +kernel))
theorem tw_1_118 : (Jvm.Cond.code ({ cls := "CueBook", name := "firstClash", desc := "(LCueBook$Puppet;LCueBook$Puppet;)I" } : Jvm.MethodName) prog_1_method_38_code (3 : Nat) (Option.some Jvm.ClassFile.FieldType.int)) ∈ lw_tbl := in_t1 _ (List.mem_of_getElem? (i := 118) (by decide +kernel))
theorem tw_1_119 : (Jvm.Cond.methodLink "CueBook" (262 : Nat) ({ cls := "CueBook", name := "areOnOneTrack", desc := "(LCueBook$Puppet;LCueBook$Puppet;I)Z" } : Jvm.MethodName)) ∈ lw_tbl := in_t1 _ (List.mem_of_getElem? (i := 119) (by decide +kernel))
theorem tw_1_120 : (Jvm.Cond.static ({ cls := "CueBook", name := "areOnOneTrack", desc := "(LCueBook$Puppet;LCueBook$Puppet;I)Z" } : Jvm.MethodName)) ∈ lw_tbl := in_t1 _ (List.mem_of_getElem? (i := 120) (by decide +kernel))
theorem tw_1_121 : (Jvm.Cond.code ({ cls := "CueBook", name := "areOnOneTrack", desc := "(LCueBook$Puppet;LCueBook$Puppet;I)Z" } : Jvm.MethodName) prog_1_method_39_code (3 : Nat) (Option.some Jvm.ClassFile.FieldType.boolean)) ∈ lw_tbl := in_t1 _ (List.mem_of_getElem? (i := 121) (by decide +kernel))
theorem tw_1_122 : (Jvm.Cond.methodLink "CueBook" (266 : Nat) ({ cls := "CueBook", name := "exchangePlaces", desc := "(LCueBook$Puppet;LCueBook$Puppet;I)Z" } : Jvm.MethodName)) ∈ lw_tbl := in_t1 _ (List.mem_of_getElem? (i := 122) (by decide +kernel))
theorem tw_1_123 : (Jvm.Cond.static ({ cls := "CueBook", name := "exchangePlaces", desc := "(LCueBook$Puppet;LCueBook$Puppet;I)Z" } : Jvm.MethodName)) ∈ lw_tbl := in_t1 _ (List.mem_of_getElem? (i := 123) (by decide +kernel))
theorem tw_1_124 : (Jvm.Cond.code ({ cls := "CueBook", name := "exchangePlaces", desc := "(LCueBook$Puppet;LCueBook$Puppet;I)Z" } : Jvm.MethodName) prog_1_method_40_code (4 : Nat) (Option.some Jvm.ClassFile.FieldType.boolean)) ∈ lw_tbl := in_t1 _ (List.mem_of_getElem? (i := 124) (by decide +kernel))
theorem tw_1_125 : (Jvm.Cond.methodLink "CueBookLaw" (146 : Nat) ({ cls := "CueBook", name := "uncast", desc := "()I" } : Jvm.MethodName)) ∈ lw_tbl := in_t1 _ (List.mem_of_getElem? (i := 125) (by decide +kernel))
theorem tw_1_126 : (Jvm.Cond.instanceMethod ({ cls := "CueBook", name := "uncast", desc := "()I" } : Jvm.MethodName)) ∈ lw_tbl := in_t1 _ (List.mem_of_getElem? (i := 126) (by decide +kernel))
theorem tw_1_127 : (Jvm.Cond.selects "CueBook" ({ cls := "CueBook", name := "uncast", desc := "()I" } : Jvm.MethodName) ({ cls := "CueBook", name := "uncast", desc := "()I" } : Jvm.MethodName)) ∈ lw_tbl := in_t1 _ (List.mem_of_getElem? (i := 127) (by decide +kernel))
theorem tw_1_128 : (Jvm.Cond.code ({ cls := "CueBook", name := "uncast", desc := "()I" } : Jvm.MethodName) prog_1_method_19_code (3 : Nat) (Option.some Jvm.ClassFile.FieldType.int)) ∈ lw_tbl := in_t1 _ (List.mem_of_getElem? (i := 128) (by decide +kernel))
theorem tw_1_129 : (Jvm.Cond.methodLink "CueBook" (166 : Nat) ({ cls := "CueBook", name := "findCasting", desc := "()V" } : Jvm.MethodName)) ∈ lw_tbl := in_t1 _ (List.mem_of_getElem? (i := 129) (by decide +kernel))
theorem tw_1_130 : (Jvm.Cond.privateMethod ({ cls := "CueBook", name := "findCasting", desc := "()V" } : Jvm.MethodName)) ∈ lw_tbl := in_t1 _ (List.mem_of_getElem? (i := 130) (by decide +kernel))
theorem tw_1_131 : (Jvm.Cond.instanceMethod ({ cls := "CueBook", name := "findCasting", desc := "()V" } : Jvm.MethodName)) ∈ lw_tbl := in_t1 _ (List.mem_of_getElem? (i := 131) (by decide +kernel))
theorem tw_1_132 : (Jvm.Cond.code ({ cls := "CueBook", name := "findCasting", desc := "()V" } : Jvm.MethodName) prog_1_method_41_code (2 : Nat) (Option.none : Option Jvm.ClassFile.FieldType)) ∈ lw_tbl := in_t1 _ (List.mem_of_getElem? (i := 132) (by decide +kernel))
theorem tw_1_133 : (Jvm.Cond.classLink "CueBook" (74 : Nat) "CueBook$Player") ∈ lw_tbl := in_t1 _ (List.mem_of_getElem? (i := 133) (by decide +kernel))
theorem tw_1_134 : (Jvm.Cond.methodLink "CueBook" (269 : Nat) ({ cls := "CueBook$Player", name := "putDownAll", desc := "()V" } : Jvm.MethodName)) ∈ lw_tbl := in_t1 _ (List.mem_of_getElem? (i := 134) (by decide +kernel))
theorem tw_1_135 : (Jvm.Cond.instanceMethod ({ cls := "CueBook$Player", name := "putDownAll", desc := "()V" } : Jvm.MethodName)) ∈ lw_tbl := in_t1 _ (List.mem_of_getElem? (i := 135) (by decide +kernel))
theorem tw_1_136 : (Jvm.Cond.selects "CueBook$Player" ({ cls := "CueBook$Player", name := "putDownAll", desc := "()V" } : Jvm.MethodName) ({ cls := "CueBook$Player", name := "putDownAll", desc := "()V" } : Jvm.MethodName)) ∈ lw_tbl := in_t1 _ (List.mem_of_getElem? (i := 136) (by decide +kernel))
theorem tw_1_137 : (Jvm.Cond.code ({ cls := "CueBook$Player", name := "putDownAll", desc := "()V" } : Jvm.MethodName) prog_4_method_3_code (1 : Nat) (Option.none : Option Jvm.ClassFile.FieldType)) ∈ lw_tbl := in_t1 _ (List.mem_of_getElem? (i := 137) (by decide +kernel))
theorem tw_1_138 : (Jvm.Cond.methodLink "CueBook$Player" (27 : Nat) ({ cls := "java/util/Arrays", name := "fill", desc := "([II)V" } : Jvm.MethodName)) ∈ lw_tbl := in_t1 _ (List.mem_of_getElem? (i := 138) (by decide +kernel))
theorem tw_1_139 : (Jvm.Cond.static ({ cls := "java/util/Arrays", name := "fill", desc := "([II)V" } : Jvm.MethodName)) ∈ lw_tbl := in_t1 _ (List.mem_of_getElem? (i := 139) (by decide +kernel))
theorem tw_1_140 : (Jvm.Cond.code ({ cls := "java/util/Arrays", name := "fill", desc := "([II)V" } : Jvm.MethodName) prog_35_method_103_code (4 : Nat) (Option.none : Option Jvm.ClassFile.FieldType)) ∈ lw_tbl := in_t1 _ (List.mem_of_getElem? (i := 140) (by decide +kernel))
theorem tw_1_141 : (Jvm.Cond.methodLink "CueBook" (272 : Nat) ({ cls := "CueBook", name := "orderStays", desc := "()V" } : Jvm.MethodName)) ∈ lw_tbl := in_t1 _ (List.mem_of_getElem? (i := 141) (by decide +kernel))
theorem tw_1_142 : (Jvm.Cond.privateMethod ({ cls := "CueBook", name := "orderStays", desc := "()V" } : Jvm.MethodName)) ∈ lw_tbl := in_t1 _ (List.mem_of_getElem? (i := 142) (by decide +kernel))
theorem tw_1_143 : (Jvm.Cond.instanceMethod ({ cls := "CueBook", name := "orderStays", desc := "()V" } : Jvm.MethodName)) ∈ lw_tbl := in_t1 _ (List.mem_of_getElem? (i := 143) (by decide +kernel))
theorem tw_1_144 : (Jvm.Cond.code ({ cls := "CueBook", name := "orderStays", desc := "()V" } : Jvm.MethodName) prog_1_method_42_code (4 : Nat) (Option.none : Option Jvm.ClassFile.FieldType)) ∈ lw_tbl := in_t1 _ (List.mem_of_getElem? (i := 144) (by decide +kernel))
theorem tw_1_145 : (Jvm.Cond.methodLink "CueBook" (279 : Nat) ({ cls := "java/util/ArrayList", name := "clear", desc := "()V" } : Jvm.MethodName)) ∈ lw_tbl := in_t1 _ (List.mem_of_getElem? (i := 145) (by decide +kernel))
theorem tw_1_146 : (Jvm.Cond.instanceMethod ({ cls := "java/util/ArrayList", name := "clear", desc := "()V" } : Jvm.MethodName)) ∈ lw_tbl := in_t1 _ (List.mem_of_getElem? (i := 146) (by decide +kernel))
theorem tw_1_147 : (Jvm.Cond.selects "java/util/ArrayList" ({ cls := "java/util/ArrayList", name := "clear", desc := "()V" } : Jvm.MethodName) ({ cls := "java/util/ArrayList", name := "clear", desc := "()V" } : Jvm.MethodName)) ∈ lw_tbl := in_t1 _ (List.mem_of_getElem? (i := 147) (by decide +kernel))
theorem tw_1_148 : (Jvm.Cond.code ({ cls := "java/util/ArrayList", name := "clear", desc := "()V" } : Jvm.MethodName) prog_34_method_40_code (4 : Nat) (Option.none : Option Jvm.ClassFile.FieldType)) ∈ lw_tbl := in_t1 _ (List.mem_of_getElem? (i := 148) (by decide +kernel))
theorem tw_1_149 : (Jvm.Cond.classLink "CueBook" (156 : Nat) "CueBook$Stay") ∈ lw_tbl := in_t1 _ (List.mem_of_getElem? (i := 149) (by decide +kernel))
theorem tw_1_150 : (Jvm.Cond.methodLink "CueBook" (282 : Nat) ({ cls := "CueBook", name := "putInOrder", desc := "(LCueBook$Stay;)V" } : Jvm.MethodName)) ∈ lw_tbl := in_t1 _ (List.mem_of_getElem? (i := 150) (by decide +kernel))
theorem tw_1_151 : (Jvm.Cond.privateMethod ({ cls := "CueBook", name := "putInOrder", desc := "(LCueBook$Stay;)V" } : Jvm.MethodName)) ∈ lw_tbl := in_t1 _ (List.mem_of_getElem? (i := 151) (by decide +kernel))
theorem tw_1_152 : (Jvm.Cond.instanceMethod ({ cls := "CueBook", name := "putInOrder", desc := "(LCueBook$Stay;)V" } : Jvm.MethodName)) ∈ lw_tbl := in_t1 _ (List.mem_of_getElem? (i := 152) (by decide +kernel))
theorem tw_1_153 : (Jvm.Cond.code ({ cls := "CueBook", name := "putInOrder", desc := "(LCueBook$Stay;)V" } : Jvm.MethodName) prog_1_method_43_code (3 : Nat) (Option.none : Option Jvm.ClassFile.FieldType)) ∈ lw_tbl := in_t1 _ (List.mem_of_getElem? (i := 153) (by decide +kernel))
theorem tw_1_154 : (Jvm.Cond.methodLink "CueBook" (285 : Nat) ({ cls := "java/util/ArrayList", name := "add", desc := "(ILjava/lang/Object;)V" } : Jvm.MethodName)) ∈ lw_tbl := in_t1 _ (List.mem_of_getElem? (i := 154) (by decide +kernel))
theorem tw_1_155 : (Jvm.Cond.instanceMethod ({ cls := "java/util/ArrayList", name := "add", desc := "(ILjava/lang/Object;)V" } : Jvm.MethodName)) ∈ lw_tbl := in_t1 _ (List.mem_of_getElem? (i := 155) (by decide +kernel))
theorem tw_1_156 : (Jvm.Cond.selects "java/util/ArrayList" ({ cls := "java/util/ArrayList", name := "add", desc := "(ILjava/lang/Object;)V" } : Jvm.MethodName) ({ cls := "java/util/ArrayList", name := "add", desc := "(ILjava/lang/Object;)V" } : Jvm.MethodName)) ∈ lw_tbl := in_t1 _ (List.mem_of_getElem? (i := 156) (by decide +kernel))
theorem tw_1_157 : (Jvm.Cond.code ({ cls := "java/util/ArrayList", name := "add", desc := "(ILjava/lang/Object;)V" } : Jvm.MethodName) prog_34_method_26_code (5 : Nat) (Option.none : Option Jvm.ClassFile.FieldType)) ∈ lw_tbl := in_t1 _ (List.mem_of_getElem? (i := 157) (by decide +kernel))
theorem tw_1_158 : (Jvm.Cond.methodLink "java/util/ArrayList" (135 : Nat) ({ cls := "java/util/ArrayList", name := "rangeCheckForAdd", desc := "(I)V" } : Jvm.MethodName)) ∈ lw_tbl := in_t1 _ (List.mem_of_getElem? (i := 158) (by decide +kernel))
theorem tw_1_159 : (Jvm.Cond.privateMethod ({ cls := "java/util/ArrayList", name := "rangeCheckForAdd", desc := "(I)V" } : Jvm.MethodName)) ∈ lw_tbl := in_t1 _ (List.mem_of_getElem? (i := 159) (by decide +kernel))
theorem tw_1_160 : (Jvm.Cond.instanceMethod ({ cls := "java/util/ArrayList", name := "rangeCheckForAdd", desc := "(I)V" } : Jvm.MethodName)) ∈ lw_tbl := in_t1 _ (List.mem_of_getElem? (i := 160) (by decide +kernel))
theorem tw_1_161 : (Jvm.Cond.code ({ cls := "java/util/ArrayList", name := "rangeCheckForAdd", desc := "(I)V" } : Jvm.MethodName) prog_34_method_45_code (2 : Nat) (Option.none : Option Jvm.ClassFile.FieldType)) ∈ lw_tbl := in_t1 _ (List.mem_of_getElem? (i := 161) (by decide +kernel))
theorem tw_1_162 : (Jvm.Cond.classLink "java/util/ArrayList" (187 : Nat) "java/lang/IndexOutOfBoundsException") ∈ lw_tbl := in_t1 _ (List.mem_of_getElem? (i := 162) (by decide +kernel))
theorem tw_1_163 : (Jvm.Cond.instantiable "java/lang/IndexOutOfBoundsException" (6 : Nat)) ∈ lw_tbl := in_t1 _ (List.mem_of_getElem? (i := 163) (by decide +kernel))
theorem tw_1_164 : (Jvm.Cond.castable "java/lang/IndexOutOfBoundsException" "java/lang/IndexOutOfBoundsException") ∈ lw_tbl := in_t1 _ (List.mem_of_getElem? (i := 164) (by decide +kernel))
theorem tw_1_165 : (Jvm.Cond.declares ({ cls := "java/lang/RuntimeException", name := "<init>", desc := "()V" } : Jvm.MethodName)) ∈ lw_tbl := in_t1 _ (List.mem_of_getElem? (i := 165) (by decide +kernel))
theorem tw_1_166 : (Jvm.Cond.declares ({ cls := "java/lang/RuntimeException", name := "<init>", desc := "(Ljava/lang/String;)V" } : Jvm.MethodName)) ∈ lw_tbl := in_t1 _ (List.mem_of_getElem? (i := 166) (by decide +kernel))
theorem tw_1_167 : (Jvm.Cond.declares ({ cls := "java/lang/Exception", name := "<init>", desc := "()V" } : Jvm.MethodName)) ∈ lw_tbl := in_t1 _ (List.mem_of_getElem? (i := 167) (by decide +kernel))
theorem tw_1_168 : (Jvm.Cond.declares ({ cls := "java/lang/Exception", name := "<init>", desc := "(Ljava/lang/String;)V" } : Jvm.MethodName)) ∈ lw_tbl := in_t1 _ (List.mem_of_getElem? (i := 168) (by decide +kernel))
theorem tw_1_169 : (Jvm.Cond.declares ({ cls := "java/lang/Throwable", name := "<init>", desc := "()V" } : Jvm.MethodName)) ∈ lw_tbl := in_t1 _ (List.mem_of_getElem? (i := 169) (by decide +kernel))
theorem tw_1_170 : (Jvm.Cond.declares ({ cls := "java/lang/Throwable", name := "<init>", desc := "(Ljava/lang/String;)V" } : Jvm.MethodName)) ∈ lw_tbl := in_t1 _ (List.mem_of_getElem? (i := 170) (by decide +kernel))
theorem tw_1_171 : (Jvm.Cond.selects "java/lang/IndexOutOfBoundsException" ({ cls := "java/lang/Throwable", name := "fillInStackTrace", desc := "(I)Ljava/lang/Throwable;" } : Jvm.MethodName) ({ cls := "java/lang/Throwable", name := "fillInStackTrace", desc := "(I)Ljava/lang/Throwable;" } : Jvm.MethodName)) ∈ lw_tbl := in_t1 _ (List.mem_of_getElem? (i := 171) (by decide +kernel))
theorem tw_1_172 : (Jvm.Cond.selects "java/lang/IndexOutOfBoundsException" ({ cls := "java/lang/Throwable", name := "fillInStackTrace", desc := "()Ljava/lang/Throwable;" } : Jvm.MethodName) ({ cls := "java/lang/Throwable", name := "fillInStackTrace", desc := "()Ljava/lang/Throwable;" } : Jvm.MethodName)) ∈ lw_tbl := in_t1 _ (List.mem_of_getElem? (i := 172) (by decide +kernel))
theorem tw_1_173 : (Jvm.Cond.lays "java/lang/IndexOutOfBoundsException" "java/lang/Throwable" "cause" "Ljava/lang/Throwable;") ∈ lw_tbl := in_t1 _ (List.mem_of_getElem? (i := 173) (by decide +kernel))
theorem tw_1_174 : (Jvm.Cond.lays "java/lang/Throwable" "java/lang/Throwable" "cause" "Ljava/lang/Throwable;") ∈ lw_tbl := in_t1 _ (List.mem_of_getElem? (i := 174) (by decide +kernel))
theorem tw_1_175 : (Jvm.Cond.lays "java/lang/IndexOutOfBoundsException" "java/lang/Throwable" "stackTrace" "[Ljava/lang/StackTraceElement;") ∈ lw_tbl := in_t1 _ (List.mem_of_getElem? (i := 175) (by decide +kernel))
theorem tw_1_176 : (Jvm.Cond.lays "java/lang/Throwable" "java/lang/Throwable" "stackTrace" "[Ljava/lang/StackTraceElement;") ∈ lw_tbl := in_t1 _ (List.mem_of_getElem? (i := 176) (by decide +kernel))
theorem tw_1_177 : (Jvm.Cond.lays "java/lang/IndexOutOfBoundsException" "java/lang/Throwable" "suppressedExceptions" "Ljava/util/List;") ∈ lw_tbl := in_t1 _ (List.mem_of_getElem? (i := 177) (by decide +kernel))
theorem tw_1_178 : (Jvm.Cond.lays "java/lang/Throwable" "java/lang/Throwable" "suppressedExceptions" "Ljava/util/List;") ∈ lw_tbl := in_t1 _ (List.mem_of_getElem? (i := 178) (by decide +kernel))
theorem tw_1_179 : (Jvm.Cond.lays "java/lang/IndexOutOfBoundsException" "java/lang/Throwable" "detailMessage" "Ljava/lang/String;") ∈ lw_tbl := in_t1 _ (List.mem_of_getElem? (i := 179) (by decide +kernel))
theorem tw_1_180 : (Jvm.Cond.lays "java/lang/Throwable" "java/lang/Throwable" "detailMessage" "Ljava/lang/String;") ∈ lw_tbl := in_t1 _ (List.mem_of_getElem? (i := 180) (by decide +kernel))
theorem tw_1_181 : (Jvm.Cond.lays "java/lang/IndexOutOfBoundsException" "java/lang/Throwable" "backtrace" "Ljava/lang/Object;") ∈ lw_tbl := in_t1 _ (List.mem_of_getElem? (i := 181) (by decide +kernel))
theorem tw_1_182 : (Jvm.Cond.lays "java/lang/Throwable" "java/lang/Throwable" "backtrace" "Ljava/lang/Object;") ∈ lw_tbl := in_t1 _ (List.mem_of_getElem? (i := 182) (by decide +kernel))
theorem tw_1_183 : (Jvm.Cond.fieldLink "java/lang/Throwable" (198 : Nat) "java/lang/Throwable" "backtrace" "Ljava/lang/Object;") ∈ lw_tbl := in_t1 _ (List.mem_of_getElem? (i := 183) (by decide +kernel))
theorem tw_1_184 : (Jvm.Cond.superclass "java/lang/Throwable" "java/lang/Object") ∈ lw_tbl := in_t1 _ (List.mem_of_getElem? (i := 184) (by decide +kernel))
theorem tw_1_185 : (Jvm.Cond.instanceMethod ({ cls := "java/lang/Throwable", name := "<init>", desc := "()V" } : Jvm.MethodName)) ∈ lw_tbl := in_t1 _ (List.mem_of_getElem? (i := 185) (by decide +kernel))
theorem tw_1_186 : (Jvm.Cond.code ({ cls := "java/lang/Throwable", name := "<init>", desc := "()V" } : Jvm.MethodName) prog_29_method_1_code (1 : Nat) (Option.none : Option Jvm.ClassFile.FieldType)) ∈ lw_tbl := in_t1 _ (List.mem_of_getElem? (i := 186) (by decide +kernel))
theorem tw_1_187 : (Jvm.Cond.methodLink "java/lang/Throwable" (1 : Nat) ({ cls := "java/lang/Object", name := "<init>", desc := "()V" } : Jvm.MethodName)) ∈ lw_tbl := in_t1 _ (List.mem_of_getElem? (i := 187) (by decide +kernel))
theorem tw_1_188 : (Jvm.Cond.fieldLink "java/lang/Throwable" (13 : Nat) "java/lang/Throwable" "UNASSIGNED_STACK" "[Ljava/lang/StackTraceElement;") ∈ lw_tbl := in_t1 _ (List.mem_of_getElem? (i := 188) (by decide +kernel))
theorem tw_1_189 : (Jvm.Cond.laysStatic "java/lang/Throwable" "UNASSIGNED_STACK" "[Ljava/lang/StackTraceElement;") ∈ lw_tbl := in_t1 _ (List.mem_of_getElem? (i := 189) (by decide +kernel))
theorem tw_1_190 : (Jvm.Cond.fieldLink "java/lang/Throwable" (20 : Nat) "java/lang/Throwable" "SUPPRESSED_SENTINEL" "Ljava/util/List;") ∈ lw_tbl := in_t1 _ (List.mem_of_getElem? (i := 190) (by decide +kernel))
theorem tw_1_191 : (Jvm.Cond.laysStatic "java/lang/Throwable" "SUPPRESSED_SENTINEL" "Ljava/util/List;") ∈ lw_tbl := in_t1 _ (List.mem_of_getElem? (i := 191) (by decide +kernel))
theorem tw_1_192 : (Jvm.Cond.methodLink "java/lang/Throwable" (27 : Nat) ({ cls := "java/lang/Throwable", name := "fillInStackTrace", desc := "()Ljava/lang/Throwable;" } : Jvm.MethodName)) ∈ lw_tbl := in_t1 _ (List.mem_of_getElem? (i := 192) (by decide +kernel))
theorem tw_1_193 : (Jvm.Cond.instanceMethod ({ cls := "java/lang/Throwable", name := "fillInStackTrace", desc := "()Ljava/lang/Throwable;" } : Jvm.MethodName)) ∈ lw_tbl := in_t1 _ (List.mem_of_getElem? (i := 193) (by decide +kernel))
theorem tw_1_194 : (Jvm.Cond.sameMethod "java/lang/Throwable" "java/lang/Throwable" "fillInStackTrace" "()Ljava/lang/Throwable;") ∈ lw_tbl := in_t1 _ (List.mem_of_getElem? (i := 194) (by decide +kernel))
theorem tw_1_195 : (Jvm.Cond.selects "java/lang/IllegalArgumentException" ({ cls := "java/lang/Throwable", name := "fillInStackTrace", desc := "()Ljava/lang/Throwable;" } : Jvm.MethodName) ({ cls := "java/lang/Throwable", name := "fillInStackTrace", desc := "()Ljava/lang/Throwable;" } : Jvm.MethodName)) ∈ lw_tbl := in_t1 _ (List.mem_of_getElem? (i := 195) (by decide +kernel))
theorem tw_1_196 : (Jvm.Cond.selects "java/lang/IllegalStateException" ({ cls := "java/lang/Throwable", name := "fillInStackTrace", desc := "()Ljava/lang/Throwable;" } : Jvm.MethodName) ({ cls := "java/lang/Throwable", name := "fillInStackTrace", desc := "()Ljava/lang/Throwable;" } : Jvm.MethodName)) ∈ lw_tbl := in_t1 _ (List.mem_of_getElem? (i := 196) (by decide +kernel))
theorem tw_1_197 : (Jvm.Cond.codeSync ({ cls := "java/lang/Throwable", name := "fillInStackTrace", desc := "()Ljava/lang/Throwable;" } : Jvm.MethodName) prog_29_method_18_code (1 : Nat) (Option.some (Jvm.ClassFile.FieldType.object "java/lang/Throwable"))) ∈ lw_tbl := in_t1 _ (List.mem_of_getElem? (i := 197) (by decide +kernel))
theorem tw_1_198 : (Jvm.Cond.methodLink "java/lang/Throwable" (202 : Nat) ({ cls := "java/lang/Throwable", name := "fillInStackTrace", desc := "(I)Ljava/lang/Throwable;" } : Jvm.MethodName)) ∈ lw_tbl := in_t1 _ (List.mem_of_getElem? (i := 198) (by decide +kernel))
theorem tw_1_199 : (Jvm.Cond.privateMethod ({ cls := "java/lang/Throwable", name := "fillInStackTrace", desc := "(I)Ljava/lang/Throwable;" } : Jvm.MethodName)) ∈ lw_tbl := in_t1 _ (List.mem_of_getElem? (i := 199) (by decide +kernel))
theorem tw_1_200 : (Jvm.Cond.instanceMethod ({ cls := "java/lang/Throwable", name := "fillInStackTrace", desc := "(I)Ljava/lang/Throwable;" } : Jvm.MethodName)) ∈ lw_tbl := in_t1 _ (List.mem_of_getElem? (i := 200) (by decide +kernel))
theorem tw_1_201 : (Jvm.Cond.instantiable "java/lang/Throwable" (6 : Nat)) ∈ lw_tbl := in_t1 _ (List.mem_of_getElem? (i := 201) (by decide +kernel))
theorem tw_1_202 : (Jvm.Cond.native ({ cls := "java/lang/Throwable", name := "fillInStackTrace", desc := "(I)Ljava/lang/Throwable;" } : Jvm.MethodName)) ∈ lw_tbl := in_t1 _ (List.mem_of_getElem? (i := 202) (by decide +kernel))
theorem tw_1_203 : (Jvm.Cond.methodLink "java/util/ArrayList" (198 : Nat) ({ cls := "java/util/ArrayList", name := "outOfBoundsMsg", desc := "(I)Ljava/lang/String;" } : Jvm.MethodName)) ∈ lw_tbl := in_t1 _ (List.mem_of_getElem? (i := 203) (by decide +kernel))
theorem tw_1_204 : (Jvm.Cond.privateMethod ({ cls := "java/util/ArrayList", name := "outOfBoundsMsg", desc := "(I)Ljava/lang/String;" } : Jvm.MethodName)) ∈ lw_tbl := in_t1 _ (List.mem_of_getElem? (i := 204) (by decide +kernel))
theorem tw_1_205 : (Jvm.Cond.instanceMethod ({ cls := "java/util/ArrayList", name := "outOfBoundsMsg", desc := "(I)Ljava/lang/String;" } : Jvm.MethodName)) ∈ lw_tbl := in_t1 _ (List.mem_of_getElem? (i := 205) (by decide +kernel))
theorem tw_1_206 : (Jvm.Cond.code ({ cls := "java/util/ArrayList", name := "outOfBoundsMsg", desc := "(I)Ljava/lang/String;" } : Jvm.MethodName) prog_34_method_46_code (2 : Nat) (Option.some (Jvm.ClassFile.FieldType.object "java/lang/String"))) ∈ lw_tbl := in_t1 _ (List.mem_of_getElem? (i := 206) (by decide +kernel))
theorem tw_1_207 : (Jvm.Cond.classLink "java/util/ArrayList" (20 : Nat) "java/lang/StringBuilder") ∈ lw_tbl := in_t1 _ (List.mem_of_getElem? (i := 207) (by decide +kernel))
theorem tw_1_208 : (Jvm.Cond.instantiable "java/lang/StringBuilder" (4 : Nat)) ∈ lw_tbl := in_t1 _ (List.mem_of_getElem? (i := 208) (by decide +kernel))
theorem tw_1_209 : (Jvm.Cond.methodLink "java/util/ArrayList" (22 : Nat) ({ cls := "java/lang/StringBuilder", name := "<init>", desc := "()V" } : Jvm.MethodName)) ∈ lw_tbl := in_t1 _ (List.mem_of_getElem? (i := 209) (by decide +kernel))
theorem tw_1_210 : (Jvm.Cond.instanceMethod ({ cls := "java/lang/StringBuilder", name := "<init>", desc := "()V" } : Jvm.MethodName)) ∈ lw_tbl := in_t1 _ (List.mem_of_getElem? (i := 210) (by decide +kernel))
theorem tw_1_211 : (Jvm.Cond.code ({ cls := "java/lang/StringBuilder", name := "<init>", desc := "()V" } : Jvm.MethodName) prog_25_method_1_code (1 : Nat) (Option.none : Option Jvm.ClassFile.FieldType)) ∈ lw_tbl := in_t1 _ (List.mem_of_getElem? (i := 211) (by decide +kernel))
theorem tw_1_212 : (Jvm.Cond.methodLink "java/lang/StringBuilder" (1 : Nat) ({ cls := "java/lang/AbstractStringBuilder", name := "<init>", desc := "(I)V" } : Jvm.MethodName)) ∈ lw_tbl := in_t1 _ (List.mem_of_getElem? (i := 212) (by decide +kernel))
theorem tw_1_213 : (Jvm.Cond.instanceMethod ({ cls := "java/lang/AbstractStringBuilder", name := "<init>", desc := "(I)V" } : Jvm.MethodName)) ∈ lw_tbl := in_t1 _ (List.mem_of_getElem? (i := 213) (by decide +kernel))
theorem tw_1_214 : (Jvm.Cond.code ({ cls := "java/lang/AbstractStringBuilder", name := "<init>", desc := "(I)V" } : Jvm.MethodName) prog_10_method_2_code (2 : Nat) (Option.none : Option Jvm.ClassFile.FieldType)) ∈ lw_tbl := in_t1 _ (List.mem_of_getElem? (i := 214) (by decide +kernel))
theorem tw_1_215 : (Jvm.Cond.methodLink "java/lang/AbstractStringBuilder" (3 : Nat) ({ cls := "java/lang/Object", name := "<init>", desc := "()V" } : Jvm.MethodName)) ∈ lw_tbl := in_t1 _ (List.mem_of_getElem? (i := 215) (by decide +kernel))
theorem tw_1_216 : (Jvm.Cond.fieldLink "java/lang/AbstractStringBuilder" (18 : Nat) "java/lang/String" "COMPACT_STRINGS" "Z") ∈ lw_tbl := in_t1 _ (List.mem_of_getElem? (i := 216) (by decide +kernel))
theorem tw_1_217 : (Jvm.Cond.laysStatic "java/lang/String" "COMPACT_STRINGS" "Z") ∈ lw_tbl := in_t1 _ (List.mem_of_getElem? (i := 217) (by decide +kernel))
theorem tw_1_218 : (Jvm.Cond.methodLink "java/lang/AbstractStringBuilder" (26 : Nat) ({ cls := "java/lang/StringUTF16", name := "newBytesFor", desc := "(I)[B" } : Jvm.MethodName)) ∈ lw_tbl := in_t1 _ (List.mem_of_getElem? (i := 218) (by decide +kernel))
theorem tw_1_219 : (Jvm.Cond.static ({ cls := "java/lang/StringUTF16", name := "newBytesFor", desc := "(I)[B" } : Jvm.MethodName)) ∈ lw_tbl := in_t1 _ (List.mem_of_getElem? (i := 219) (by decide +kernel))
theorem tw_1_220 : (Jvm.Cond.code ({ cls := "java/lang/StringUTF16", name := "newBytesFor", desc := "(I)[B" } : Jvm.MethodName) prog_27_method_2_code (1 : Nat) (Option.some (Jvm.ClassFile.FieldType.array Jvm.ClassFile.FieldType.byte))) ∈ lw_tbl := in_t1 _ (List.mem_of_getElem? (i := 220) (by decide +kernel))
theorem tw_1_221 : (Jvm.Cond.methodLink "java/lang/StringUTF16" (11 : Nat) ({ cls := "java/lang/StringUTF16", name := "newBytesLength", desc := "(I)I" } : Jvm.MethodName)) ∈ lw_tbl := in_t1 _ (List.mem_of_getElem? (i := 221) (by decide +kernel))
theorem tw_1_222 : (Jvm.Cond.static ({ cls := "java/lang/StringUTF16", name := "newBytesLength", desc := "(I)I" } : Jvm.MethodName)) ∈ lw_tbl := in_t1 _ (List.mem_of_getElem? (i := 222) (by decide +kernel))
theorem tw_1_223 : (Jvm.Cond.code ({ cls := "java/lang/StringUTF16", name := "newBytesLength", desc := "(I)I" } : Jvm.MethodName) prog_27_method_3_code (1 : Nat) (Option.some Jvm.ClassFile.FieldType.int)) ∈ lw_tbl := in_t1 _ (List.mem_of_getElem? (i := 223) (by decide +kernel))
theorem tw_1_224 : (Jvm.Cond.constant "java/lang/StringUTF16" (20 : Nat) (1073741823 : Int32)) ∈ lw_tbl := in_t1 _ (List.mem_of_getElem? (i := 224) (by decide +kernel))
theorem tw_1_225 : (Jvm.Cond.fieldLink "java/lang/AbstractStringBuilder" (15 : Nat) "java/lang/AbstractStringBuilder" "value" "[B") ∈ lw_tbl := in_t1 _ (List.mem_of_getElem? (i := 225) (by decide +kernel))
theorem tw_1_226 : (Jvm.Cond.fieldLink "java/lang/AbstractStringBuilder" (22 : Nat) "java/lang/AbstractStringBuilder" "coder" "B") ∈ lw_tbl := in_t1 _ (List.mem_of_getElem? (i := 226) (by decide +kernel))
theorem tw_1_227 : (Jvm.Cond.fieldLink "java/lang/String" (1048 : Nat) "java/lang/AbstractStringBuilder" "maybeLatin1" "Z") ∈ lw_tbl := in_t1 _ (List.mem_of_getElem? (i := 227) (by decide +kernel))
theorem tw_1_228 : (Jvm.Cond.fieldLink "java/lang/AbstractStringBuilder" (79 : Nat) "java/lang/AbstractStringBuilder" "count" "I") ∈ lw_tbl := in_t1 _ (List.mem_of_getElem? (i := 228) (by decide +kernel))
theorem tw_1_229 : (Jvm.Cond.lays "java/lang/StringBuilder" "java/lang/AbstractStringBuilder" "value" "[B") ∈ lw_tbl := in_t1 _ (List.mem_of_getElem? (i := 229) (by decide +kernel))
theorem tw_1_230 : (Jvm.Cond.soleField "java/lang/AbstractStringBuilder" "value") ∈ lw_tbl := in_t1 _ (List.mem_of_getElem? (i := 230) (by decide +kernel))
theorem tw_1_231 : (Jvm.Cond.lays "java/lang/StringBuilder" "java/lang/AbstractStringBuilder" "coder" "B") ∈ lw_tbl := in_t1 _ (List.mem_of_getElem? (i := 231) (by decide +kernel))
theorem tw_1_232 : (Jvm.Cond.soleField "java/lang/AbstractStringBuilder" "coder") ∈ lw_tbl := in_t1 _ (List.mem_of_getElem? (i := 232) (by decide +kernel))
theorem tw_1_233 : (Jvm.Cond.lays "java/lang/StringBuilder" "java/lang/AbstractStringBuilder" "maybeLatin1" "Z") ∈ lw_tbl := in_t1 _ (List.mem_of_getElem? (i := 233) (by decide +kernel))
theorem tw_1_234 : (Jvm.Cond.soleField "java/lang/AbstractStringBuilder" "maybeLatin1") ∈ lw_tbl := in_t1 _ (List.mem_of_getElem? (i := 234) (by decide +kernel))
theorem tw_1_235 : (Jvm.Cond.lays "java/lang/StringBuilder" "java/lang/AbstractStringBuilder" "count" "I") ∈ lw_tbl := in_t1 _ (List.mem_of_getElem? (i := 235) (by decide +kernel))
theorem tw_1_236 : (Jvm.Cond.soleField "java/lang/AbstractStringBuilder" "count") ∈ lw_tbl := in_t1 _ (List.mem_of_getElem? (i := 236) (by decide +kernel))
theorem tw_1_237 : (Jvm.Cond.superclass "java/lang/StringBuilder" "java/lang/AbstractStringBuilder") ∈ lw_tbl := in_t1 _ (List.mem_of_getElem? (i := 237) (by decide +kernel))
theorem tw_1_238 : (Jvm.Cond.arrayClass Jvm.ClassFile.FieldType.byte) ∈ lw_tbl := in_t1 _ (List.mem_of_getElem? (i := 238) (by decide +kernel))
theorem tw_1_239 : (Jvm.Cond.stringRef "java/util/ArrayList" (201 : Nat) "Index: ") ∈ lw_tbl := in_t1 _ (List.mem_of_getElem? (i := 239) (by decide +kernel))
theorem tw_2_0 : (Jvm.Cond.methodLink "java/util/ArrayList" (25 : Nat) ({ cls := "java/lang/StringBuilder", name := "append", desc := "(Ljava/lang/String;)Ljava/lang/StringBuilder;" } : Jvm.MethodName)) ∈ lw_tbl := in_t2 _ (List.mem_of_getElem? (i := 0) (by decide +kernel))
theorem tw_2_1 : (Jvm.Cond.instanceMethod ({ cls := "java/lang/StringBuilder", name := "append", desc := "(Ljava/lang/String;)Ljava/lang/StringBuilder;" } : Jvm.MethodName)) ∈ lw_tbl := in_t2 _ (List.mem_of_getElem? (i := 1) (by decide +kernel))
theorem tw_2_2 : (Jvm.Cond.selects "java/lang/StringBuilder" ({ cls := "java/lang/StringBuilder", name := "append", desc := "(Ljava/lang/String;)Ljava/lang/StringBuilder;" } : Jvm.MethodName) ({ cls := "java/lang/StringBuilder", name := "append", desc := "(Ljava/lang/String;)Ljava/lang/StringBuilder;" } : Jvm.MethodName)) ∈ lw_tbl := in_t2 _ (List.mem_of_getElem? (i := 2) (by decide +kernel))
theorem tw_2_3 : (Jvm.Cond.code ({ cls := "java/lang/StringBuilder", name := "append", desc := "(Ljava/lang/String;)Ljava/lang/StringBuilder;" } : Jvm.MethodName) prog_25_method_7_code (2 : Nat) (Option.some (Jvm.ClassFile.FieldType.object "java/lang/StringBuilder"))) ∈ lw_tbl := in_t2 _ (List.mem_of_getElem? (i := 3) (by decide +kernel))
theorem tw_2_4 : (Jvm.Cond.methodLink "java/lang/StringBuilder" (29 : Nat) ({ cls := "java/lang/AbstractStringBuilder", name := "append", desc := "(Ljava/lang/String;)Ljava/lang/AbstractStringBuilder;" } : Jvm.MethodName)) ∈ lw_tbl := in_t2 _ (List.mem_of_getElem? (i := 4) (by decide +kernel))
theorem tw_2_5 : (Jvm.Cond.instanceMethod ({ cls := "java/lang/AbstractStringBuilder", name := "append", desc := "(Ljava/lang/String;)Ljava/lang/AbstractStringBuilder;" } : Jvm.MethodName)) ∈ lw_tbl := in_t2 _ (List.mem_of_getElem? (i := 5) (by decide +kernel))
theorem tw_2_6 : (Jvm.Cond.code ({ cls := "java/lang/AbstractStringBuilder", name := "append", desc := "(Ljava/lang/String;)Ljava/lang/AbstractStringBuilder;" } : Jvm.MethodName) prog_10_method_22_code (3 : Nat) (Option.some (Jvm.ClassFile.FieldType.object "java/lang/AbstractStringBuilder"))) ∈ lw_tbl := in_t2 _ (List.mem_of_getElem? (i := 6) (by decide +kernel))
theorem tw_2_7 : (Jvm.Cond.methodLink "java/lang/AbstractStringBuilder" (204 : Nat) ({ cls := "java/lang/AbstractStringBuilder", name := "appendNull", desc := "()Ljava/lang/AbstractStringBuilder;" } : Jvm.MethodName)) ∈ lw_tbl := in_t2 _ (List.mem_of_getElem? (i := 7) (by decide +kernel))
theorem tw_2_8 : (Jvm.Cond.privateMethod ({ cls := "java/lang/AbstractStringBuilder", name := "appendNull", desc := "()Ljava/lang/AbstractStringBuilder;" } : Jvm.MethodName)) ∈ lw_tbl := in_t2 _ (List.mem_of_getElem? (i := 8) (by decide +kernel))
theorem tw_2_9 : (Jvm.Cond.instanceMethod ({ cls := "java/lang/AbstractStringBuilder", name := "appendNull", desc := "()Ljava/lang/AbstractStringBuilder;" } : Jvm.MethodName)) ∈ lw_tbl := in_t2 _ (List.mem_of_getElem? (i := 9) (by decide +kernel))
theorem tw_2_10 : (Jvm.Cond.code ({ cls := "java/lang/AbstractStringBuilder", name := "appendNull", desc := "()Ljava/lang/AbstractStringBuilder;" } : Jvm.MethodName) prog_10_method_26_code (3 : Nat) (Option.some (Jvm.ClassFile.FieldType.object "java/lang/AbstractStringBuilder"))) ∈ lw_tbl := in_t2 _ (List.mem_of_getElem? (i := 10) (by decide +kernel))
theorem tw_2_11 : (Jvm.Cond.methodLink "java/lang/AbstractStringBuilder" (100 : Nat) ({ cls := "java/lang/AbstractStringBuilder", name := "ensureCapacityInternal", desc := "(I)V" } : Jvm.MethodName)) ∈ lw_tbl := in_t2 _ (List.mem_of_getElem? (i := 11) (by decide +kernel))
theorem tw_2_12 : (Jvm.Cond.privateMethod ({ cls := "java/lang/AbstractStringBuilder", name := "ensureCapacityInternal", desc := "(I)V" } : Jvm.MethodName)) ∈ lw_tbl := in_t2 _ (List.mem_of_getElem? (i := 12) (by decide +kernel))
theorem tw_2_13 : (Jvm.Cond.instanceMethod ({ cls := "java/lang/AbstractStringBuilder", name := "ensureCapacityInternal", desc := "(I)V" } : Jvm.MethodName)) ∈ lw_tbl := in_t2 _ (List.mem_of_getElem? (i := 13) (by decide +kernel))
theorem tw_2_14 : (Jvm.Cond.code ({ cls := "java/lang/AbstractStringBuilder", name := "ensureCapacityInternal", desc := "(I)V" } : Jvm.MethodName) prog_10_method_9_code (3 : Nat) (Option.none : Option Jvm.ClassFile.FieldType)) ∈ lw_tbl := in_t2 _ (List.mem_of_getElem? (i := 14) (by decide +kernel))
theorem tw_2_15 : (Jvm.Cond.methodLink "java/lang/AbstractStringBuilder" (104 : Nat) ({ cls := "java/lang/AbstractStringBuilder", name := "newCapacity", desc := "(I)I" } : Jvm.MethodName)) ∈ lw_tbl := in_t2 _ (List.mem_of_getElem? (i := 15) (by decide +kernel))
theorem tw_2_16 : (Jvm.Cond.privateMethod ({ cls := "java/lang/AbstractStringBuilder", name := "newCapacity", desc := "(I)I" } : Jvm.MethodName)) ∈ lw_tbl := in_t2 _ (List.mem_of_getElem? (i := 16) (by decide +kernel))
theorem tw_2_17 : (Jvm.Cond.instanceMethod ({ cls := "java/lang/AbstractStringBuilder", name := "newCapacity", desc := "(I)I" } : Jvm.MethodName)) ∈ lw_tbl := in_t2 _ (List.mem_of_getElem? (i := 17) (by decide +kernel))
theorem tw_2_18 : (Jvm.Cond.code ({ cls := "java/lang/AbstractStringBuilder", name := "newCapacity", desc := "(I)I" } : Jvm.MethodName) prog_10_method_10_code (6 : Nat) (Option.some Jvm.ClassFile.FieldType.int)) ∈ lw_tbl := in_t2 _ (List.mem_of_getElem? (i := 18) (by decide +kernel))
theorem tw_2_19 : (Jvm.Cond.methodLink "java/lang/AbstractStringBuilder" (114 : Nat) ({ cls := "jdk/internal/util/ArraysSupport", name := "newLength", desc := "(III)I" } : Jvm.MethodName)) ∈ lw_tbl := in_t2 _ (List.mem_of_getElem? (i := 19) (by decide +kernel))
theorem tw_2_20 : (Jvm.Cond.static ({ cls := "jdk/internal/util/ArraysSupport", name := "newLength", desc := "(III)I" } : Jvm.MethodName)) ∈ lw_tbl := in_t2 _ (List.mem_of_getElem? (i := 20) (by decide +kernel))
theorem tw_2_21 : (Jvm.Cond.code ({ cls := "jdk/internal/util/ArraysSupport", name := "newLength", desc := "(III)I" } : Jvm.MethodName) prog_41_method_27_code (4 : Nat) (Option.some Jvm.ClassFile.FieldType.int)) ∈ lw_tbl := in_t2 _ (List.mem_of_getElem? (i := 21) (by decide +kernel))
theorem tw_2_22 : (Jvm.Cond.methodLink "jdk/internal/util/ArraysSupport" (194 : Nat) ({ cls := "java/lang/Math", name := "max", desc := "(II)I" } : Jvm.MethodName)) ∈ lw_tbl := in_t2 _ (List.mem_of_getElem? (i := 22) (by decide +kernel))
theorem tw_2_23 : (Jvm.Cond.static ({ cls := "java/lang/Math", name := "max", desc := "(II)I" } : Jvm.MethodName)) ∈ lw_tbl := in_t2 _ (List.mem_of_getElem? (i := 23) (by decide +kernel))
theorem tw_2_24 : (Jvm.Cond.code ({ cls := "java/lang/Math", name := "max", desc := "(II)I" } : Jvm.MethodName) prog_21_method_65_code (2 : Nat) (Option.some Jvm.ClassFile.FieldType.int)) ∈ lw_tbl := in_t2 _ (List.mem_of_getElem? (i := 24) (by decide +kernel))
theorem tw_2_25 : (Jvm.Cond.constant "jdk/internal/util/ArraysSupport" (200 : Nat) (2147483639 : Int32)) ∈ lw_tbl := in_t2 _ (List.mem_of_getElem? (i := 25) (by decide +kernel))
theorem tw_2_26 : (Jvm.Cond.methodLink "jdk/internal/util/ArraysSupport" (201 : Nat) ({ cls := "jdk/internal/util/ArraysSupport", name := "hugeLength", desc := "(II)I" } : Jvm.MethodName)) ∈ lw_tbl := in_t2 _ (List.mem_of_getElem? (i := 26) (by decide +kernel))
theorem tw_2_27 : (Jvm.Cond.static ({ cls := "jdk/internal/util/ArraysSupport", name := "hugeLength", desc := "(II)I" } : Jvm.MethodName)) ∈ lw_tbl := in_t2 _ (List.mem_of_getElem? (i := 27) (by decide +kernel))
theorem tw_2_28 : (Jvm.Cond.code ({ cls := "jdk/internal/util/ArraysSupport", name := "hugeLength", desc := "(II)I" } : Jvm.MethodName) prog_41_method_28_code (3 : Nat) (Option.some Jvm.ClassFile.FieldType.int)) ∈ lw_tbl := in_t2 _ (List.mem_of_getElem? (i := 28) (by decide +kernel))
theorem tw_2_29 : (Jvm.Cond.constant "java/lang/AbstractStringBuilder" (39 : Nat) (2147483647 : Int32)) ∈ lw_tbl := in_t2 _ (List.mem_of_getElem? (i := 29) (by decide +kernel))
theorem tw_2_30 : (Jvm.Cond.methodLink "java/lang/AbstractStringBuilder" (108 : Nat) ({ cls := "java/util/Arrays", name := "copyOf", desc := "([BI)[B" } : Jvm.MethodName)) ∈ lw_tbl := in_t2 _ (List.mem_of_getElem? (i := 30) (by decide +kernel))
theorem tw_2_31 : (Jvm.Cond.static ({ cls := "java/util/Arrays", name := "copyOf", desc := "([BI)[B" } : Jvm.MethodName)) ∈ lw_tbl := in_t2 _ (List.mem_of_getElem? (i := 31) (by decide +kernel))
theorem tw_2_32 : (Jvm.Cond.code ({ cls := "java/util/Arrays", name := "copyOf", desc := "([BI)[B" } : Jvm.MethodName) prog_35_method_121_code (3 : Nat) (Option.some (Jvm.ClassFile.FieldType.array Jvm.ClassFile.FieldType.byte))) ∈ lw_tbl := in_t2 _ (List.mem_of_getElem? (i := 32) (by decide +kernel))
theorem tw_2_33 : (Jvm.Cond.methodLink "java/util/Arrays" (310 : Nat) ({ cls := "[B", name := "clone", desc := "()Ljava/lang/Object;" } : Jvm.MethodName)) ∈ lw_tbl := in_t2 _ (List.mem_of_getElem? (i := 33) (by decide +kernel))
theorem tw_2_34 : (Jvm.Cond.sameMethod "[B" "java/lang/Object" "clone" "()Ljava/lang/Object;") ∈ lw_tbl := in_t2 _ (List.mem_of_getElem? (i := 34) (by decide +kernel))
theorem tw_2_35 : (Jvm.Cond.native ({ cls := "java/lang/Object", name := "clone", desc := "()Ljava/lang/Object;" } : Jvm.MethodName)) ∈ lw_tbl := in_t2 _ (List.mem_of_getElem? (i := 35) (by decide +kernel))
theorem tw_2_36 : (Jvm.Cond.instanceMethod ({ cls := "java/lang/Object", name := "clone", desc := "()Ljava/lang/Object;" } : Jvm.MethodName)) ∈ lw_tbl := in_t2 _ (List.mem_of_getElem? (i := 36) (by decide +kernel))
theorem tw_2_37 : (Jvm.Cond.selects "[B" ({ cls := "[B", name := "clone", desc := "()Ljava/lang/Object;" } : Jvm.MethodName) ({ cls := "java/lang/Object", name := "clone", desc := "()Ljava/lang/Object;" } : Jvm.MethodName)) ∈ lw_tbl := in_t2 _ (List.mem_of_getElem? (i := 37) (by decide +kernel))
theorem tw_2_38 : (Jvm.Cond.castable "[B" "java/lang/Cloneable") ∈ lw_tbl := in_t2 _ (List.mem_of_getElem? (i := 38) (by decide +kernel))
theorem tw_2_39 : (Jvm.Cond.classLink "java/util/Arrays" (311 : Nat) "[B") ∈ lw_tbl := in_t2 _ (List.mem_of_getElem? (i := 39) (by decide +kernel))
theorem tw_2_40 : (Jvm.Cond.methodLink "java/util/Arrays" (304 : Nat) ({ cls := "java/lang/Math", name := "min", desc := "(II)I" } : Jvm.MethodName)) ∈ lw_tbl := in_t2 _ (List.mem_of_getElem? (i := 40) (by decide +kernel))
theorem tw_2_41 : (Jvm.Cond.static ({ cls := "java/lang/Math", name := "min", desc := "(II)I" } : Jvm.MethodName)) ∈ lw_tbl := in_t2 _ (List.mem_of_getElem? (i := 41) (by decide +kernel))
theorem tw_2_42 : (Jvm.Cond.code ({ cls := "java/lang/Math", name := "min", desc := "(II)I" } : Jvm.MethodName) prog_21_method_69_code (2 : Nat) (Option.some Jvm.ClassFile.FieldType.int)) ∈ lw_tbl := in_t2 _ (List.mem_of_getElem? (i := 42) (by decide +kernel))
theorem tw_2_43 : (Jvm.Cond.methodLink "java/util/Arrays" (150 : Nat) ({ cls := "java/lang/System", name := "arraycopy", desc := "(Ljava/lang/Object;ILjava/lang/Object;II)V" } : Jvm.MethodName)) ∈ lw_tbl := in_t2 _ (List.mem_of_getElem? (i := 43) (by decide +kernel))
theorem tw_2_44 : (Jvm.Cond.static ({ cls := "java/lang/System", name := "arraycopy", desc := "(Ljava/lang/Object;ILjava/lang/Object;II)V" } : Jvm.MethodName)) ∈ lw_tbl := in_t2 _ (List.mem_of_getElem? (i := 44) (by decide +kernel))
theorem tw_2_45 : (Jvm.Cond.native ({ cls := "java/lang/System", name := "arraycopy", desc := "(Ljava/lang/Object;ILjava/lang/Object;II)V" } : Jvm.MethodName)) ∈ lw_tbl := in_t2 _ (List.mem_of_getElem? (i := 45) (by decide +kernel))
theorem tw_2_46 : (Jvm.Cond.methodLink "java/lang/AbstractStringBuilder" (83 : Nat) ({ cls := "java/lang/AbstractStringBuilder", name := "isLatin1", desc := "()Z" } : Jvm.MethodName)) ∈ lw_tbl := in_t2 _ (List.mem_of_getElem? (i := 46) (by decide +kernel))
theorem tw_2_47 : (Jvm.Cond.instanceMethod ({ cls := "java/lang/AbstractStringBuilder", name := "isLatin1", desc := "()Z" } : Jvm.MethodName)) ∈ lw_tbl := in_t2 _ (List.mem_of_getElem? (i := 47) (by decide +kernel))
theorem tw_2_48 : (Jvm.Cond.sameMethod "java/lang/AbstractStringBuilder" "java/lang/AbstractStringBuilder" "isLatin1" "()Z") ∈ lw_tbl := in_t2 _ (List.mem_of_getElem? (i := 48) (by decide +kernel))
theorem tw_2_49 : (Jvm.Cond.selects "java/lang/StringBuilder" ({ cls := "java/lang/AbstractStringBuilder", name := "isLatin1", desc := "()Z" } : Jvm.MethodName) ({ cls := "java/lang/AbstractStringBuilder", name := "isLatin1", desc := "()Z" } : Jvm.MethodName)) ∈ lw_tbl := in_t2 _ (List.mem_of_getElem? (i := 49) (by decide +kernel))
theorem tw_2_50 : (Jvm.Cond.code ({ cls := "java/lang/AbstractStringBuilder", name := "isLatin1", desc := "()Z" } : Jvm.MethodName) prog_10_method_68_code (1 : Nat) (Option.some Jvm.ClassFile.FieldType.boolean)) ∈ lw_tbl := in_t2 _ (List.mem_of_getElem? (i := 50) (by decide +kernel))
theorem tw_2_51 : (Jvm.Cond.methodLink "java/lang/AbstractStringBuilder" (226 : Nat) ({ cls := "java/lang/StringUTF16", name := "putCharsAt", desc := "([BICCCC)I" } : Jvm.MethodName)) ∈ lw_tbl := in_t2 _ (List.mem_of_getElem? (i := 51) (by decide +kernel))
theorem tw_2_52 : (Jvm.Cond.static ({ cls := "java/lang/StringUTF16", name := "putCharsAt", desc := "([BICCCC)I" } : Jvm.MethodName)) ∈ lw_tbl := in_t2 _ (List.mem_of_getElem? (i := 52) (by decide +kernel))
theorem tw_2_53 : (Jvm.Cond.code ({ cls := "java/lang/StringUTF16", name := "putCharsAt", desc := "([BICCCC)I" } : Jvm.MethodName) prog_27_method_81_code (7 : Nat) (Option.some Jvm.ClassFile.FieldType.int)) ∈ lw_tbl := in_t2 _ (List.mem_of_getElem? (i := 53) (by decide +kernel))
theorem tw_2_54 : (Jvm.Cond.methodLink "java/lang/StringUTF16" (96 : Nat) ({ cls := "java/lang/StringUTF16", name := "checkBoundsBeginEnd", desc := "(II[B)V" } : Jvm.MethodName)) ∈ lw_tbl := in_t2 _ (List.mem_of_getElem? (i := 54) (by decide +kernel))
theorem tw_2_55 : (Jvm.Cond.static ({ cls := "java/lang/StringUTF16", name := "checkBoundsBeginEnd", desc := "(II[B)V" } : Jvm.MethodName)) ∈ lw_tbl := in_t2 _ (List.mem_of_getElem? (i := 55) (by decide +kernel))
theorem tw_2_56 : (Jvm.Cond.code ({ cls := "java/lang/StringUTF16", name := "checkBoundsBeginEnd", desc := "(II[B)V" } : Jvm.MethodName) prog_27_method_93_code (3 : Nat) (Option.none : Option Jvm.ClassFile.FieldType)) ∈ lw_tbl := in_t2 _ (List.mem_of_getElem? (i := 56) (by decide +kernel))
theorem tw_2_57 : (Jvm.Cond.methodLink "java/lang/StringUTF16" (48 : Nat) ({ cls := "java/lang/StringUTF16", name := "length", desc := "([B)I" } : Jvm.MethodName)) ∈ lw_tbl := in_t2 _ (List.mem_of_getElem? (i := 57) (by decide +kernel))
theorem tw_2_58 : (Jvm.Cond.static ({ cls := "java/lang/StringUTF16", name := "length", desc := "([B)I" } : Jvm.MethodName)) ∈ lw_tbl := in_t2 _ (List.mem_of_getElem? (i := 58) (by decide +kernel))
theorem tw_2_59 : (Jvm.Cond.code ({ cls := "java/lang/StringUTF16", name := "length", desc := "([B)I" } : Jvm.MethodName) prog_27_method_6_code (1 : Nat) (Option.some Jvm.ClassFile.FieldType.int)) ∈ lw_tbl := in_t2 _ (List.mem_of_getElem? (i := 59) (by decide +kernel))
theorem tw_2_60 : (Jvm.Cond.methodLink "java/lang/StringUTF16" (241 : Nat) ({ cls := "java/lang/String", name := "checkBoundsBeginEnd", desc := "(III)V" } : Jvm.MethodName)) ∈ lw_tbl := in_t2 _ (List.mem_of_getElem? (i := 60) (by decide +kernel))
theorem tw_2_61 : (Jvm.Cond.static ({ cls := "java/lang/String", name := "checkBoundsBeginEnd", desc := "(III)V" } : Jvm.MethodName)) ∈ lw_tbl := in_t2 _ (List.mem_of_getElem? (i := 61) (by decide +kernel))
theorem tw_2_62 : (Jvm.Cond.code ({ cls := "java/lang/String", name := "checkBoundsBeginEnd", desc := "(III)V" } : Jvm.MethodName) prog_24_method_158_code (3 : Nat) (Option.none : Option Jvm.ClassFile.FieldType)) ∈ lw_tbl := in_t2 _ (List.mem_of_getElem? (i := 62) (by decide +kernel))
theorem tw_2_63 : (Jvm.Cond.fieldLink "java/lang/String" (1053 : Nat) "jdk/internal/util/Preconditions" "SIOOBE_FORMATTER" "Ljava/util/function/BiFunction;") ∈ lw_tbl := in_t2 _ (List.mem_of_getElem? (i := 63) (by decide +kernel))
theorem tw_2_64 : (Jvm.Cond.laysStatic "jdk/internal/util/Preconditions" "SIOOBE_FORMATTER" "Ljava/util/function/BiFunction;") ∈ lw_tbl := in_t2 _ (List.mem_of_getElem? (i := 64) (by decide +kernel))
theorem tw_2_65 : (Jvm.Cond.methodLink "java/lang/String" (1062 : Nat) ({ cls := "jdk/internal/util/Preconditions", name := "checkFromToIndex", desc := "(IIILjava/util/function/BiFunction;)I" } : Jvm.MethodName)) ∈ lw_tbl := in_t2 _ (List.mem_of_getElem? (i := 65) (by decide +kernel))
theorem tw_2_66 : (Jvm.Cond.static ({ cls := "jdk/internal/util/Preconditions", name := "checkFromToIndex", desc := "(IIILjava/util/function/BiFunction;)I" } : Jvm.MethodName)) ∈ lw_tbl := in_t2 _ (List.mem_of_getElem? (i := 66) (by decide +kernel))
theorem tw_2_67 : (Jvm.Cond.code ({ cls := "jdk/internal/util/Preconditions", name := "checkFromToIndex", desc := "(IIILjava/util/function/BiFunction;)I" } : Jvm.MethodName) prog_42_method_12_code (4 : Nat) (Option.some Jvm.ClassFile.FieldType.int)) ∈ lw_tbl := in_t2 _ (List.mem_of_getElem? (i := 67) (by decide +kernel))
theorem tw_2_68 : (Jvm.Cond.methodLink "java/lang/StringUTF16" (111 : Nat) ({ cls := "java/lang/StringUTF16", name := "putChar", desc := "([BII)V" } : Jvm.MethodName)) ∈ lw_tbl := in_t2 _ (List.mem_of_getElem? (i := 68) (by decide +kernel))
theorem tw_2_69 : (Jvm.Cond.static ({ cls := "java/lang/StringUTF16", name := "putChar", desc := "([BII)V" } : Jvm.MethodName)) ∈ lw_tbl := in_t2 _ (List.mem_of_getElem? (i := 69) (by decide +kernel))
theorem tw_2_70 : (Jvm.Cond.code ({ cls := "java/lang/StringUTF16", name := "putChar", desc := "([BII)V" } : Jvm.MethodName) prog_27_method_4_code (3 : Nat) (Option.none : Option Jvm.ClassFile.FieldType)) ∈ lw_tbl := in_t2 _ (List.mem_of_getElem? (i := 70) (by decide +kernel))
theorem tw_2_71 : (Jvm.Cond.fieldLink "java/lang/StringUTF16" (44 : Nat) "java/lang/StringUTF16" "$assertionsDisabled" "Z") ∈ lw_tbl := in_t2 _ (List.mem_of_getElem? (i := 71) (by decide +kernel))
theorem tw_2_72 : (Jvm.Cond.laysStatic "java/lang/StringUTF16" "$assertionsDisabled" "Z") ∈ lw_tbl := in_t2 _ (List.mem_of_getElem? (i := 72) (by decide +kernel))
theorem tw_2_73 : (Jvm.Cond.fieldLink "java/lang/StringUTF16" (59 : Nat) "java/lang/StringUTF16" "HI_BYTE_SHIFT" "I") ∈ lw_tbl := in_t2 _ (List.mem_of_getElem? (i := 73) (by decide +kernel))
theorem tw_2_74 : (Jvm.Cond.laysStatic "java/lang/StringUTF16" "HI_BYTE_SHIFT" "I") ∈ lw_tbl := in_t2 _ (List.mem_of_getElem? (i := 74) (by decide +kernel))
theorem tw_2_75 : (Jvm.Cond.fieldLink "java/lang/StringUTF16" (63 : Nat) "java/lang/StringUTF16" "LO_BYTE_SHIFT" "I") ∈ lw_tbl := in_t2 _ (List.mem_of_getElem? (i := 75) (by decide +kernel))
theorem tw_2_76 : (Jvm.Cond.laysStatic "java/lang/StringUTF16" "LO_BYTE_SHIFT" "I") ∈ lw_tbl := in_t2 _ (List.mem_of_getElem? (i := 76) (by decide +kernel))
theorem tw_2_77 : (Jvm.Cond.methodLink "java/lang/AbstractStringBuilder" (32 : Nat) ({ cls := "java/lang/String", name := "length", desc := "()I" } : Jvm.MethodName)) ∈ lw_tbl := in_t2 _ (List.mem_of_getElem? (i := 77) (by decide +kernel))
theorem tw_2_78 : (Jvm.Cond.instanceMethod ({ cls := "java/lang/String", name := "length", desc := "()I" } : Jvm.MethodName)) ∈ lw_tbl := in_t2 _ (List.mem_of_getElem? (i := 78) (by decide +kernel))
theorem tw_2_79 : (Jvm.Cond.selects "java/lang/String" ({ cls := "java/lang/String", name := "length", desc := "()I" } : Jvm.MethodName) ({ cls := "java/lang/String", name := "length", desc := "()I" } : Jvm.MethodName)) ∈ lw_tbl := in_t2 _ (List.mem_of_getElem? (i := 79) (by decide +kernel))
theorem tw_2_80 : (Jvm.Cond.code ({ cls := "java/lang/String", name := "length", desc := "()I" } : Jvm.MethodName) prog_24_method_54_code (1 : Nat) (Option.some Jvm.ClassFile.FieldType.int)) ∈ lw_tbl := in_t2 _ (List.mem_of_getElem? (i := 80) (by decide +kernel))
theorem tw_2_81 : (Jvm.Cond.methodLink "java/lang/String" (335 : Nat) ({ cls := "java/lang/String", name := "coder", desc := "()B" } : Jvm.MethodName)) ∈ lw_tbl := in_t2 _ (List.mem_of_getElem? (i := 81) (by decide +kernel))
theorem tw_2_82 : (Jvm.Cond.instanceMethod ({ cls := "java/lang/String", name := "coder", desc := "()B" } : Jvm.MethodName)) ∈ lw_tbl := in_t2 _ (List.mem_of_getElem? (i := 82) (by decide +kernel))
theorem tw_2_83 : (Jvm.Cond.selects "java/lang/String" ({ cls := "java/lang/String", name := "coder", desc := "()B" } : Jvm.MethodName) ({ cls := "java/lang/String", name := "coder", desc := "()B" } : Jvm.MethodName)) ∈ lw_tbl := in_t2 _ (List.mem_of_getElem? (i := 83) (by decide +kernel))
theorem tw_2_84 : (Jvm.Cond.code ({ cls := "java/lang/String", name := "coder", desc := "()B" } : Jvm.MethodName) prog_24_method_152_code (1 : Nat) (Option.some Jvm.ClassFile.FieldType.byte)) ∈ lw_tbl := in_t2 _ (List.mem_of_getElem? (i := 84) (by decide +kernel))
theorem tw_2_85 : (Jvm.Cond.fieldLink "java/lang/String" (38 : Nat) "java/lang/String" "COMPACT_STRINGS" "Z") ∈ lw_tbl := in_t2 _ (List.mem_of_getElem? (i := 85) (by decide +kernel))
theorem tw_2_86 : (Jvm.Cond.methodLink "java/lang/AbstractStringBuilder" (208 : Nat) ({ cls := "java/lang/AbstractStringBuilder", name := "putStringAt", desc := "(ILjava/lang/String;)V" } : Jvm.MethodName)) ∈ lw_tbl := in_t2 _ (List.mem_of_getElem? (i := 86) (by decide +kernel))
theorem tw_2_87 : (Jvm.Cond.privateMethod ({ cls := "java/lang/AbstractStringBuilder", name := "putStringAt", desc := "(ILjava/lang/String;)V" } : Jvm.MethodName)) ∈ lw_tbl := in_t2 _ (List.mem_of_getElem? (i := 87) (by decide +kernel))
theorem tw_2_88 : (Jvm.Cond.instanceMethod ({ cls := "java/lang/AbstractStringBuilder", name := "putStringAt", desc := "(ILjava/lang/String;)V" } : Jvm.MethodName)) ∈ lw_tbl := in_t2 _ (List.mem_of_getElem? (i := 88) (by decide +kernel))
theorem tw_2_89 : (Jvm.Cond.code ({ cls := "java/lang/AbstractStringBuilder", name := "putStringAt", desc := "(ILjava/lang/String;)V" } : Jvm.MethodName) prog_10_method_73_code (3 : Nat) (Option.none : Option Jvm.ClassFile.FieldType)) ∈ lw_tbl := in_t2 _ (List.mem_of_getElem? (i := 89) (by decide +kernel))
theorem tw_2_90 : (Jvm.Cond.methodLink "java/lang/AbstractStringBuilder" (397 : Nat) ({ cls := "java/lang/AbstractStringBuilder", name := "inflateIfNeededFor", desc := "(Ljava/lang/String;)V" } : Jvm.MethodName)) ∈ lw_tbl := in_t2 _ (List.mem_of_getElem? (i := 90) (by decide +kernel))
theorem tw_2_91 : (Jvm.Cond.privateMethod ({ cls := "java/lang/AbstractStringBuilder", name := "inflateIfNeededFor", desc := "(Ljava/lang/String;)V" } : Jvm.MethodName)) ∈ lw_tbl := in_t2 _ (List.mem_of_getElem? (i := 91) (by decide +kernel))
theorem tw_2_92 : (Jvm.Cond.instanceMethod ({ cls := "java/lang/AbstractStringBuilder", name := "inflateIfNeededFor", desc := "(Ljava/lang/String;)V" } : Jvm.MethodName)) ∈ lw_tbl := in_t2 _ (List.mem_of_getElem? (i := 92) (by decide +kernel))
theorem tw_2_93 : (Jvm.Cond.code ({ cls := "java/lang/AbstractStringBuilder", name := "inflateIfNeededFor", desc := "(Ljava/lang/String;)V" } : Jvm.MethodName) prog_10_method_71_code (2 : Nat) (Option.none : Option Jvm.ClassFile.FieldType)) ∈ lw_tbl := in_t2 _ (List.mem_of_getElem? (i := 93) (by decide +kernel))
theorem tw_2_94 : (Jvm.Cond.methodLink "java/lang/AbstractStringBuilder" (40 : Nat) ({ cls := "java/lang/String", name := "coder", desc := "()B" } : Jvm.MethodName)) ∈ lw_tbl := in_t2 _ (List.mem_of_getElem? (i := 94) (by decide +kernel))
theorem tw_2_95 : (Jvm.Cond.methodLink "java/lang/AbstractStringBuilder" (195 : Nat) ({ cls := "java/lang/AbstractStringBuilder", name := "inflate", desc := "()V" } : Jvm.MethodName)) ∈ lw_tbl := in_t2 _ (List.mem_of_getElem? (i := 95) (by decide +kernel))
theorem tw_2_96 : (Jvm.Cond.privateMethod ({ cls := "java/lang/AbstractStringBuilder", name := "inflate", desc := "()V" } : Jvm.MethodName)) ∈ lw_tbl := in_t2 _ (List.mem_of_getElem? (i := 96) (by decide +kernel))
theorem tw_2_97 : (Jvm.Cond.instanceMethod ({ cls := "java/lang/AbstractStringBuilder", name := "inflate", desc := "()V" } : Jvm.MethodName)) ∈ lw_tbl := in_t2 _ (List.mem_of_getElem? (i := 97) (by decide +kernel))
theorem tw_2_98 : (Jvm.Cond.code ({ cls := "java/lang/AbstractStringBuilder", name := "inflate", desc := "()V" } : Jvm.MethodName) prog_10_method_11_code (2 : Nat) (Option.none : Option Jvm.ClassFile.FieldType)) ∈ lw_tbl := in_t2 _ (List.mem_of_getElem? (i := 98) (by decide +kernel))
theorem tw_2_99 : (Jvm.Cond.methodLink "java/lang/AbstractStringBuilder" (125 : Nat) ({ cls := "java/lang/StringLatin1", name := "inflate", desc := "([BI[BII)V" } : Jvm.MethodName)) ∈ lw_tbl := in_t2 _ (List.mem_of_getElem? (i := 99) (by decide +kernel))
theorem tw_2_100 : (Jvm.Cond.static ({ cls := "java/lang/StringLatin1", name := "inflate", desc := "([BI[BII)V" } : Jvm.MethodName)) ∈ lw_tbl := in_t2 _ (List.mem_of_getElem? (i := 100) (by decide +kernel))
theorem tw_2_101 : (Jvm.Cond.code ({ cls := "java/lang/StringLatin1", name := "inflate", desc := "([BI[BII)V" } : Jvm.MethodName) prog_26_method_50_code (5 : Nat) (Option.none : Option Jvm.ClassFile.FieldType)) ∈ lw_tbl := in_t2 _ (List.mem_of_getElem? (i := 101) (by decide +kernel))
theorem tw_2_102 : (Jvm.Cond.methodLink "java/lang/StringLatin1" (240 : Nat) ({ cls := "java/lang/StringUTF16", name := "inflate", desc := "([BI[BII)V" } : Jvm.MethodName)) ∈ lw_tbl := in_t2 _ (List.mem_of_getElem? (i := 102) (by decide +kernel))
theorem tw_2_103 : (Jvm.Cond.static ({ cls := "java/lang/StringUTF16", name := "inflate", desc := "([BI[BII)V" } : Jvm.MethodName)) ∈ lw_tbl := in_t2 _ (List.mem_of_getElem? (i := 103) (by decide +kernel))
theorem tw_2_104 : (Jvm.Cond.code ({ cls := "java/lang/StringUTF16", name := "inflate", desc := "([BI[BII)V" } : Jvm.MethodName) prog_27_method_86_code (6 : Nat) (Option.none : Option Jvm.ClassFile.FieldType)) ∈ lw_tbl := in_t2 _ (List.mem_of_getElem? (i := 104) (by decide +kernel))
theorem tw_2_105 : (Jvm.Cond.methodLink "java/lang/StringUTF16" (173 : Nat) ({ cls := "java/lang/StringUTF16", name := "checkBoundsOffCount", desc := "(II[B)V" } : Jvm.MethodName)) ∈ lw_tbl := in_t2 _ (List.mem_of_getElem? (i := 105) (by decide +kernel))
theorem tw_2_106 : (Jvm.Cond.static ({ cls := "java/lang/StringUTF16", name := "checkBoundsOffCount", desc := "(II[B)V" } : Jvm.MethodName)) ∈ lw_tbl := in_t2 _ (List.mem_of_getElem? (i := 106) (by decide +kernel))
theorem tw_2_107 : (Jvm.Cond.code ({ cls := "java/lang/StringUTF16", name := "checkBoundsOffCount", desc := "(II[B)V" } : Jvm.MethodName) prog_27_method_94_code (3 : Nat) (Option.none : Option Jvm.ClassFile.FieldType)) ∈ lw_tbl := in_t2 _ (List.mem_of_getElem? (i := 107) (by decide +kernel))
theorem tw_2_108 : (Jvm.Cond.methodLink "java/lang/StringUTF16" (419 : Nat) ({ cls := "java/lang/String", name := "checkBoundsOffCount", desc := "(III)I" } : Jvm.MethodName)) ∈ lw_tbl := in_t2 _ (List.mem_of_getElem? (i := 108) (by decide +kernel))
theorem tw_2_109 : (Jvm.Cond.static ({ cls := "java/lang/String", name := "checkBoundsOffCount", desc := "(III)I" } : Jvm.MethodName)) ∈ lw_tbl := in_t2 _ (List.mem_of_getElem? (i := 109) (by decide +kernel))
theorem tw_2_110 : (Jvm.Cond.code ({ cls := "java/lang/String", name := "checkBoundsOffCount", desc := "(III)I" } : Jvm.MethodName) prog_24_method_157_code (3 : Nat) (Option.some Jvm.ClassFile.FieldType.int)) ∈ lw_tbl := in_t2 _ (List.mem_of_getElem? (i := 110) (by decide +kernel))
theorem tw_2_111 : (Jvm.Cond.methodLink "java/lang/String" (1065 : Nat) ({ cls := "jdk/internal/util/Preconditions", name := "checkFromIndexSize", desc := "(IIILjava/util/function/BiFunction;)I" } : Jvm.MethodName)) ∈ lw_tbl := in_t2 _ (List.mem_of_getElem? (i := 111) (by decide +kernel))
theorem tw_2_112 : (Jvm.Cond.static ({ cls := "jdk/internal/util/Preconditions", name := "checkFromIndexSize", desc := "(IIILjava/util/function/BiFunction;)I" } : Jvm.MethodName)) ∈ lw_tbl := in_t2 _ (List.mem_of_getElem? (i := 112) (by decide +kernel))
theorem tw_2_113 : (Jvm.Cond.code ({ cls := "jdk/internal/util/Preconditions", name := "checkFromIndexSize", desc := "(IIILjava/util/function/BiFunction;)I" } : Jvm.MethodName) prog_42_method_13_code (4 : Nat) (Option.some Jvm.ClassFile.FieldType.int)) ∈ lw_tbl := in_t2 _ (List.mem_of_getElem? (i := 113) (by decide +kernel))
theorem tw_2_114 : (Jvm.Cond.methodLink "java/lang/AbstractStringBuilder" (399 : Nat) ({ cls := "java/lang/String", name := "getBytes", desc := "([BIB)V" } : Jvm.MethodName)) ∈ lw_tbl := in_t2 _ (List.mem_of_getElem? (i := 114) (by decide +kernel))
theorem tw_2_115 : (Jvm.Cond.instanceMethod ({ cls := "java/lang/String", name := "getBytes", desc := "([BIB)V" } : Jvm.MethodName)) ∈ lw_tbl := in_t2 _ (List.mem_of_getElem? (i := 115) (by decide +kernel))
theorem tw_2_116 : (Jvm.Cond.selects "java/lang/String" ({ cls := "java/lang/String", name := "getBytes", desc := "([BIB)V" } : Jvm.MethodName) ({ cls := "java/lang/String", name := "getBytes", desc := "([BIB)V" } : Jvm.MethodName)) ∈ lw_tbl := in_t2 _ (List.mem_of_getElem? (i := 116) (by decide +kernel))
theorem tw_2_117 : (Jvm.Cond.code ({ cls := "java/lang/String", name := "getBytes", desc := "([BIB)V" } : Jvm.MethodName) prog_24_method_147_code (4 : Nat) (Option.none : Option Jvm.ClassFile.FieldType)) ∈ lw_tbl := in_t2 _ (List.mem_of_getElem? (i := 117) (by decide +kernel))
theorem tw_2_118 : (Jvm.Cond.methodLink "java/lang/String" (212 : Nat) ({ cls := "java/lang/System", name := "arraycopy", desc := "(Ljava/lang/Object;ILjava/lang/Object;II)V" } : Jvm.MethodName)) ∈ lw_tbl := in_t2 _ (List.mem_of_getElem? (i := 118) (by decide +kernel))
theorem tw_2_119 : (Jvm.Cond.methodLink "java/lang/String" (106 : Nat) ({ cls := "java/lang/StringLatin1", name := "inflate", desc := "([BI[BII)V" } : Jvm.MethodName)) ∈ lw_tbl := in_t2 _ (List.mem_of_getElem? (i := 119) (by decide +kernel))
theorem tw_2_120 : (Jvm.Cond.methodLink "java/util/ArrayList" (29 : Nat) ({ cls := "java/lang/StringBuilder", name := "append", desc := "(I)Ljava/lang/StringBuilder;" } : Jvm.MethodName)) ∈ lw_tbl := in_t2 _ (List.mem_of_getElem? (i := 120) (by decide +kernel))
theorem tw_2_121 : (Jvm.Cond.instanceMethod ({ cls := "java/lang/StringBuilder", name := "append", desc := "(I)Ljava/lang/StringBuilder;" } : Jvm.MethodName)) ∈ lw_tbl := in_t2 _ (List.mem_of_getElem? (i := 121) (by decide +kernel))
theorem tw_2_122 : (Jvm.Cond.selects "java/lang/StringBuilder" ({ cls := "java/lang/StringBuilder", name := "append", desc := "(I)Ljava/lang/StringBuilder;" } : Jvm.MethodName) ({ cls := "java/lang/StringBuilder", name := "append", desc := "(I)Ljava/lang/StringBuilder;" } : Jvm.MethodName)) ∈ lw_tbl := in_t2 _ (List.mem_of_getElem? (i := 122) (by decide +kernel))
theorem tw_2_123 : (Jvm.Cond.code ({ cls := "java/lang/StringBuilder", name := "append", desc := "(I)Ljava/lang/StringBuilder;" } : Jvm.MethodName) prog_25_method_15_code (2 : Nat) (Option.some (Jvm.ClassFile.FieldType.object "java/lang/StringBuilder"))) ∈ lw_tbl := in_t2 _ (List.mem_of_getElem? (i := 123) (by decide +kernel))
theorem tw_2_124 : (Jvm.Cond.methodLink "java/lang/StringBuilder" (53 : Nat) ({ cls := "java/lang/AbstractStringBuilder", name := "append", desc := "(I)Ljava/lang/AbstractStringBuilder;" } : Jvm.MethodName)) ∈ lw_tbl := in_t2 _ (List.mem_of_getElem? (i := 124) (by decide +kernel))
theorem tw_2_125 : (Jvm.Cond.instanceMethod ({ cls := "java/lang/AbstractStringBuilder", name := "append", desc := "(I)Ljava/lang/AbstractStringBuilder;" } : Jvm.MethodName)) ∈ lw_tbl := in_t2 _ (List.mem_of_getElem? (i := 125) (by decide +kernel))
theorem tw_2_126 : (Jvm.Cond.code ({ cls := "java/lang/AbstractStringBuilder", name := "append", desc := "(I)Ljava/lang/AbstractStringBuilder;" } : Jvm.MethodName) prog_10_method_32_code (4 : Nat) (Option.some (Jvm.ClassFile.FieldType.object "java/lang/AbstractStringBuilder"))) ∈ lw_tbl := in_t2 _ (List.mem_of_getElem? (i := 126) (by decide +kernel))
theorem tw_2_127 : (Jvm.Cond.methodLink "java/lang/AbstractStringBuilder" (245 : Nat) ({ cls := "java/lang/Integer", name := "stringSize", desc := "(I)I" } : Jvm.MethodName)) ∈ lw_tbl := in_t2 _ (List.mem_of_getElem? (i := 127) (by decide +kernel))
theorem tw_2_128 : (Jvm.Cond.static ({ cls := "java/lang/Integer", name := "stringSize", desc := "(I)I" } : Jvm.MethodName)) ∈ lw_tbl := in_t2 _ (List.mem_of_getElem? (i := 128) (by decide +kernel))
theorem tw_2_129 : (Jvm.Cond.code ({ cls := "java/lang/Integer", name := "stringSize", desc := "(I)I" } : Jvm.MethodName) prog_19_method_13_code (4 : Nat) (Option.some Jvm.ClassFile.FieldType.int)) ∈ lw_tbl := in_t2 _ (List.mem_of_getElem? (i := 129) (by decide +kernel))
theorem tw_2_130 : (Jvm.Cond.methodLink "java/lang/AbstractStringBuilder" (248 : Nat) ({ cls := "java/lang/Integer", name := "getChars", desc := "(II[B)I" } : Jvm.MethodName)) ∈ lw_tbl := in_t2 _ (List.mem_of_getElem? (i := 130) (by decide +kernel))
theorem tw_2_131 : (Jvm.Cond.static ({ cls := "java/lang/Integer", name := "getChars", desc := "(II[B)I" } : Jvm.MethodName)) ∈ lw_tbl := in_t2 _ (List.mem_of_getElem? (i := 131) (by decide +kernel))
theorem tw_2_132 : (Jvm.Cond.code ({ cls := "java/lang/Integer", name := "getChars", desc := "(II[B)I" } : Jvm.MethodName) prog_19_method_12_code (7 : Nat) (Option.some Jvm.ClassFile.FieldType.int)) ∈ lw_tbl := in_t2 _ (List.mem_of_getElem? (i := 132) (by decide +kernel))
theorem tw_2_133 : (Jvm.Cond.fieldLink "java/lang/Integer" (83 : Nat) "java/lang/Integer" "DigitOnes" "[B") ∈ lw_tbl := in_t2 _ (List.mem_of_getElem? (i := 133) (by decide +kernel))
theorem tw_2_134 : (Jvm.Cond.laysStatic "java/lang/Integer" "DigitOnes" "[B") ∈ lw_tbl := in_t2 _ (List.mem_of_getElem? (i := 134) (by decide +kernel))
theorem tw_2_135 : (Jvm.Cond.fieldLink "java/lang/Integer" (87 : Nat) "java/lang/Integer" "DigitTens" "[B") ∈ lw_tbl := in_t2 _ (List.mem_of_getElem? (i := 135) (by decide +kernel))
theorem tw_2_136 : (Jvm.Cond.laysStatic "java/lang/Integer" "DigitTens" "[B") ∈ lw_tbl := in_t2 _ (List.mem_of_getElem? (i := 136) (by decide +kernel))
theorem tw_2_137 : (Jvm.Cond.methodLink "java/lang/AbstractStringBuilder" (251 : Nat) ({ cls := "java/lang/StringUTF16", name := "getChars", desc := "(III[B)I" } : Jvm.MethodName)) ∈ lw_tbl := in_t2 _ (List.mem_of_getElem? (i := 137) (by decide +kernel))
theorem tw_2_138 : (Jvm.Cond.static ({ cls := "java/lang/StringUTF16", name := "getChars", desc := "(III[B)I" } : Jvm.MethodName)) ∈ lw_tbl := in_t2 _ (List.mem_of_getElem? (i := 138) (by decide +kernel))
theorem tw_2_139 : (Jvm.Cond.code ({ cls := "java/lang/StringUTF16", name := "getChars", desc := "(III[B)I" } : Jvm.MethodName) prog_27_method_77_code (5 : Nat) (Option.some Jvm.ClassFile.FieldType.int)) ∈ lw_tbl := in_t2 _ (List.mem_of_getElem? (i := 139) (by decide +kernel))
theorem tw_2_140 : (Jvm.Cond.methodLink "java/lang/StringUTF16" (393 : Nat) ({ cls := "java/lang/StringUTF16", name := "getChars", desc := "(II[B)I" } : Jvm.MethodName)) ∈ lw_tbl := in_t2 _ (List.mem_of_getElem? (i := 140) (by decide +kernel))
theorem tw_2_141 : (Jvm.Cond.static ({ cls := "java/lang/StringUTF16", name := "getChars", desc := "(II[B)I" } : Jvm.MethodName)) ∈ lw_tbl := in_t2 _ (List.mem_of_getElem? (i := 141) (by decide +kernel))
theorem tw_2_142 : (Jvm.Cond.code ({ cls := "java/lang/StringUTF16", name := "getChars", desc := "(II[B)I" } : Jvm.MethodName) prog_27_method_89_code (7 : Nat) (Option.some Jvm.ClassFile.FieldType.int)) ∈ lw_tbl := in_t2 _ (List.mem_of_getElem? (i := 142) (by decide +kernel))
theorem tw_2_143 : (Jvm.Cond.fieldLink "java/lang/StringUTF16" (403 : Nat) "java/lang/Integer" "DigitOnes" "[B") ∈ lw_tbl := in_t2 _ (List.mem_of_getElem? (i := 143) (by decide +kernel))
theorem tw_2_144 : (Jvm.Cond.fieldLink "java/lang/StringUTF16" (407 : Nat) "java/lang/Integer" "DigitTens" "[B") ∈ lw_tbl := in_t2 _ (List.mem_of_getElem? (i := 144) (by decide +kernel))
theorem tw_2_145 : (Jvm.Cond.stringRef "java/util/ArrayList" (203 : Nat) ", Size: ") ∈ lw_tbl := in_t2 _ (List.mem_of_getElem? (i := 145) (by decide +kernel))
theorem tw_2_146 : (Jvm.Cond.methodLink "java/util/ArrayList" (32 : Nat) ({ cls := "java/lang/StringBuilder", name := "toString", desc := "()Ljava/lang/String;" } : Jvm.MethodName)) ∈ lw_tbl := in_t2 _ (List.mem_of_getElem? (i := 146) (by decide +kernel))
theorem tw_2_147 : (Jvm.Cond.instanceMethod ({ cls := "java/lang/StringBuilder", name := "toString", desc := "()Ljava/lang/String;" } : Jvm.MethodName)) ∈ lw_tbl := in_t2 _ (List.mem_of_getElem? (i := 147) (by decide +kernel))
theorem tw_2_148 : (Jvm.Cond.selects "java/lang/StringBuilder" ({ cls := "java/lang/StringBuilder", name := "toString", desc := "()Ljava/lang/String;" } : Jvm.MethodName) ({ cls := "java/lang/StringBuilder", name := "toString", desc := "()Ljava/lang/String;" } : Jvm.MethodName)) ∈ lw_tbl := in_t2 _ (List.mem_of_getElem? (i := 148) (by decide +kernel))
theorem tw_2_149 : (Jvm.Cond.code ({ cls := "java/lang/StringBuilder", name := "toString", desc := "()Ljava/lang/String;" } : Jvm.MethodName) prog_25_method_42_code (1 : Nat) (Option.some (Jvm.ClassFile.FieldType.object "java/lang/String"))) ∈ lw_tbl := in_t2 _ (List.mem_of_getElem? (i := 149) (by decide +kernel))
theorem tw_2_150 : (Jvm.Cond.classLink "java/lang/StringBuilder" (18 : Nat) "java/lang/String") ∈ lw_tbl := in_t2 _ (List.mem_of_getElem? (i := 150) (by decide +kernel))
theorem tw_2_151 : (Jvm.Cond.instantiable "java/lang/String" (4 : Nat)) ∈ lw_tbl := in_t2 _ (List.mem_of_getElem? (i := 151) (by decide +kernel))
theorem tw_2_152 : (Jvm.Cond.methodLink "java/lang/StringBuilder" (137 : Nat) ({ cls := "java/lang/String", name := "<init>", desc := "(Ljava/lang/StringBuilder;)V" } : Jvm.MethodName)) ∈ lw_tbl := in_t2 _ (List.mem_of_getElem? (i := 152) (by decide +kernel))
theorem tw_2_153 : (Jvm.Cond.instanceMethod ({ cls := "java/lang/String", name := "<init>", desc := "(Ljava/lang/StringBuilder;)V" } : Jvm.MethodName)) ∈ lw_tbl := in_t2 _ (List.mem_of_getElem? (i := 153) (by decide +kernel))
theorem tw_2_154 : (Jvm.Cond.code ({ cls := "java/lang/String", name := "<init>", desc := "(Ljava/lang/StringBuilder;)V" } : Jvm.MethodName) prog_24_method_53_code (2 : Nat) (Option.none : Option Jvm.ClassFile.FieldType)) ∈ lw_tbl := in_t2 _ (List.mem_of_getElem? (i := 154) (by decide +kernel))
theorem tw_2_155 : (Jvm.Cond.methodLink "java/lang/String" (489 : Nat) ({ cls := "java/lang/String", name := "<init>", desc := "(Ljava/lang/AbstractStringBuilder;Ljava/lang/Void;)V" } : Jvm.MethodName)) ∈ lw_tbl := in_t2 _ (List.mem_of_getElem? (i := 155) (by decide +kernel))
theorem tw_2_156 : (Jvm.Cond.instanceMethod ({ cls := "java/lang/String", name := "<init>", desc := "(Ljava/lang/AbstractStringBuilder;Ljava/lang/Void;)V" } : Jvm.MethodName)) ∈ lw_tbl := in_t2 _ (List.mem_of_getElem? (i := 156) (by decide +kernel))
theorem tw_2_157 : (Jvm.Cond.code ({ cls := "java/lang/String", name := "<init>", desc := "(Ljava/lang/AbstractStringBuilder;Ljava/lang/Void;)V" } : Jvm.MethodName) prog_24_method_150_code (5 : Nat) (Option.none : Option Jvm.ClassFile.FieldType)) ∈ lw_tbl := in_t2 _ (List.mem_of_getElem? (i := 157) (by decide +kernel))
theorem tw_2_158 : (Jvm.Cond.methodLink "java/lang/String" (1 : Nat) ({ cls := "java/lang/Object", name := "<init>", desc := "()V" } : Jvm.MethodName)) ∈ lw_tbl := in_t2 _ (List.mem_of_getElem? (i := 158) (by decide +kernel))
theorem tw_2_159 : (Jvm.Cond.methodLink "java/lang/String" (552 : Nat) ({ cls := "java/lang/AbstractStringBuilder", name := "getValue", desc := "()[B" } : Jvm.MethodName)) ∈ lw_tbl := in_t2 _ (List.mem_of_getElem? (i := 159) (by decide +kernel))
theorem tw_2_160 : (Jvm.Cond.instanceMethod ({ cls := "java/lang/AbstractStringBuilder", name := "getValue", desc := "()[B" } : Jvm.MethodName)) ∈ lw_tbl := in_t2 _ (List.mem_of_getElem? (i := 160) (by decide +kernel))
theorem tw_2_161 : (Jvm.Cond.sameMethod "java/lang/AbstractStringBuilder" "java/lang/AbstractStringBuilder" "getValue" "()[B") ∈ lw_tbl := in_t2 _ (List.mem_of_getElem? (i := 161) (by decide +kernel))
theorem tw_2_162 : (Jvm.Cond.selects "java/lang/StringBuilder" ({ cls := "java/lang/AbstractStringBuilder", name := "getValue", desc := "()[B" } : Jvm.MethodName) ({ cls := "java/lang/AbstractStringBuilder", name := "getValue", desc := "()[B" } : Jvm.MethodName)) ∈ lw_tbl := in_t2 _ (List.mem_of_getElem? (i := 162) (by decide +kernel))
theorem tw_2_163 : (Jvm.Cond.code ({ cls := "java/lang/AbstractStringBuilder", name := "getValue", desc := "()[B" } : Jvm.MethodName) prog_10_method_64_code (1 : Nat) (Option.some (Jvm.ClassFile.FieldType.array Jvm.ClassFile.FieldType.byte))) ∈ lw_tbl := in_t2 _ (List.mem_of_getElem? (i := 163) (by decide +kernel))
theorem tw_2_164 : (Jvm.Cond.methodLink "java/lang/String" (549 : Nat) ({ cls := "java/lang/AbstractStringBuilder", name := "length", desc := "()I" } : Jvm.MethodName)) ∈ lw_tbl := in_t2 _ (List.mem_of_getElem? (i := 164) (by decide +kernel))
theorem tw_2_165 : (Jvm.Cond.instanceMethod ({ cls := "java/lang/AbstractStringBuilder", name := "length", desc := "()I" } : Jvm.MethodName)) ∈ lw_tbl := in_t2 _ (List.mem_of_getElem? (i := 165) (by decide +kernel))
theorem tw_2_166 : (Jvm.Cond.sameMethod "java/lang/AbstractStringBuilder" "java/lang/AbstractStringBuilder" "length" "()I") ∈ lw_tbl := in_t2 _ (List.mem_of_getElem? (i := 166) (by decide +kernel))
theorem tw_2_167 : (Jvm.Cond.selects "java/lang/StringBuilder" ({ cls := "java/lang/AbstractStringBuilder", name := "length", desc := "()I" } : Jvm.MethodName) ({ cls := "java/lang/StringBuilder", name := "length", desc := "()I" } : Jvm.MethodName)) ∈ lw_tbl := in_t2 _ (List.mem_of_getElem? (i := 167) (by decide +kernel))
theorem tw_2_168 : (Jvm.Cond.instanceMethod ({ cls := "java/lang/StringBuilder", name := "length", desc := "()I" } : Jvm.MethodName)) ∈ lw_tbl := in_t2 _ (List.mem_of_getElem? (i := 168) (by decide +kernel))
theorem tw_2_169 : (Jvm.Cond.code ({ cls := "java/lang/StringBuilder", name := "length", desc := "()I" } : Jvm.MethodName) prog_25_method_93_code (1 : Nat) (Option.some Jvm.ClassFile.FieldType.int)) ∈ lw_tbl := in_t2 _ (List.mem_of_getElem? (i := 169) (by decide +kernel))
theorem tw_2_170 : (Jvm.Cond.methodLink "java/lang/StringBuilder" (343 : Nat) ({ cls := "java/lang/AbstractStringBuilder", name := "length", desc := "()I" } : Jvm.MethodName)) ∈ lw_tbl := in_t2 _ (List.mem_of_getElem? (i := 170) (by decide +kernel))
theorem tw_2_171 : (Jvm.Cond.code ({ cls := "java/lang/AbstractStringBuilder", name := "length", desc := "()I" } : Jvm.MethodName) prog_10_method_6_code (1 : Nat) (Option.some Jvm.ClassFile.FieldType.int)) ∈ lw_tbl := in_t2 _ (List.mem_of_getElem? (i := 171) (by decide +kernel))
theorem tw_2_172 : (Jvm.Cond.methodLink "java/lang/String" (1047 : Nat) ({ cls := "java/lang/AbstractStringBuilder", name := "isLatin1", desc := "()Z" } : Jvm.MethodName)) ∈ lw_tbl := in_t2 _ (List.mem_of_getElem? (i := 172) (by decide +kernel))
theorem tw_2_173 : (Jvm.Cond.methodLink "java/lang/String" (54 : Nat) ({ cls := "java/util/Arrays", name := "copyOfRange", desc := "([BII)[B" } : Jvm.MethodName)) ∈ lw_tbl := in_t2 _ (List.mem_of_getElem? (i := 173) (by decide +kernel))
theorem tw_2_174 : (Jvm.Cond.static ({ cls := "java/util/Arrays", name := "copyOfRange", desc := "([BII)[B" } : Jvm.MethodName)) ∈ lw_tbl := in_t2 _ (List.mem_of_getElem? (i := 174) (by decide +kernel))
theorem tw_2_175 : (Jvm.Cond.code ({ cls := "java/util/Arrays", name := "copyOfRange", desc := "([BII)[B" } : Jvm.MethodName) prog_35_method_132_code (3 : Nat) (Option.some (Jvm.ClassFile.FieldType.array Jvm.ClassFile.FieldType.byte))) ∈ lw_tbl := in_t2 _ (List.mem_of_getElem? (i := 175) (by decide +kernel))
theorem tw_2_176 : (Jvm.Cond.methodLink "java/util/Arrays" (339 : Nat) ({ cls := "java/util/Arrays", name := "copyOfRangeByte", desc := "([BII)[B" } : Jvm.MethodName)) ∈ lw_tbl := in_t2 _ (List.mem_of_getElem? (i := 176) (by decide +kernel))
theorem tw_2_177 : (Jvm.Cond.static ({ cls := "java/util/Arrays", name := "copyOfRangeByte", desc := "([BII)[B" } : Jvm.MethodName)) ∈ lw_tbl := in_t2 _ (List.mem_of_getElem? (i := 177) (by decide +kernel))
theorem tw_2_178 : (Jvm.Cond.code ({ cls := "java/util/Arrays", name := "copyOfRangeByte", desc := "([BII)[B" } : Jvm.MethodName) prog_35_method_133_code (5 : Nat) (Option.some (Jvm.ClassFile.FieldType.array Jvm.ClassFile.FieldType.byte))) ∈ lw_tbl := in_t2 _ (List.mem_of_getElem? (i := 178) (by decide +kernel))
theorem tw_2_179 : (Jvm.Cond.methodLink "java/util/Arrays" (343 : Nat) ({ cls := "java/util/Arrays", name := "checkLength", desc := "(II)V" } : Jvm.MethodName)) ∈ lw_tbl := in_t2 _ (List.mem_of_getElem? (i := 179) (by decide +kernel))
theorem tw_2_180 : (Jvm.Cond.static ({ cls := "java/util/Arrays", name := "checkLength", desc := "(II)V" } : Jvm.MethodName)) ∈ lw_tbl := in_t2 _ (List.mem_of_getElem? (i := 180) (by decide +kernel))
theorem tw_2_181 : (Jvm.Cond.code ({ cls := "java/util/Arrays", name := "checkLength", desc := "(II)V" } : Jvm.MethodName) prog_35_method_131_code (2 : Nat) (Option.none : Option Jvm.ClassFile.FieldType)) ∈ lw_tbl := in_t2 _ (List.mem_of_getElem? (i := 181) (by decide +kernel))
theorem tw_2_182 : (Jvm.Cond.classLink "java/util/Arrays" (43 : Nat) "java/lang/IllegalArgumentException") ∈ lw_tbl := in_t2 _ (List.mem_of_getElem? (i := 182) (by decide +kernel))
theorem tw_2_183 : (Jvm.Cond.instantiable "java/lang/IllegalArgumentException" (6 : Nat)) ∈ lw_tbl := in_t2 _ (List.mem_of_getElem? (i := 183) (by decide +kernel))
theorem tw_2_184 : (Jvm.Cond.castable "java/lang/IllegalArgumentException" "java/lang/IllegalArgumentException") ∈ lw_tbl := in_t2 _ (List.mem_of_getElem? (i := 184) (by decide +kernel))
theorem tw_2_185 : (Jvm.Cond.selects "java/lang/IllegalArgumentException" ({ cls := "java/lang/Throwable", name := "fillInStackTrace", desc := "(I)Ljava/lang/Throwable;" } : Jvm.MethodName) ({ cls := "java/lang/Throwable", name := "fillInStackTrace", desc := "(I)Ljava/lang/Throwable;" } : Jvm.MethodName)) ∈ lw_tbl := in_t2 _ (List.mem_of_getElem? (i := 185) (by decide +kernel))
theorem tw_2_186 : (Jvm.Cond.lays "java/lang/IllegalArgumentException" "java/lang/Throwable" "cause" "Ljava/lang/Throwable;") ∈ lw_tbl := in_t2 _ (List.mem_of_getElem? (i := 186) (by decide +kernel))
theorem tw_2_187 : (Jvm.Cond.lays "java/lang/IllegalArgumentException" "java/lang/Throwable" "stackTrace" "[Ljava/lang/StackTraceElement;") ∈ lw_tbl := in_t2 _ (List.mem_of_getElem? (i := 187) (by decide +kernel))
theorem tw_2_188 : (Jvm.Cond.lays "java/lang/IllegalArgumentException" "java/lang/Throwable" "suppressedExceptions" "Ljava/util/List;") ∈ lw_tbl := in_t2 _ (List.mem_of_getElem? (i := 188) (by decide +kernel))
theorem tw_2_189 : (Jvm.Cond.lays "java/lang/IllegalArgumentException" "java/lang/Throwable" "detailMessage" "Ljava/lang/String;") ∈ lw_tbl := in_t2 _ (List.mem_of_getElem? (i := 189) (by decide +kernel))
theorem tw_2_190 : (Jvm.Cond.lays "java/lang/IllegalArgumentException" "java/lang/Throwable" "backtrace" "Ljava/lang/Object;") ∈ lw_tbl := in_t2 _ (List.mem_of_getElem? (i := 190) (by decide +kernel))
theorem tw_2_191 : (Jvm.Cond.classLink "java/util/Arrays" (45 : Nat) "java/lang/StringBuilder") ∈ lw_tbl := in_t2 _ (List.mem_of_getElem? (i := 191) (by decide +kernel))
theorem tw_2_192 : (Jvm.Cond.methodLink "java/util/Arrays" (47 : Nat) ({ cls := "java/lang/StringBuilder", name := "<init>", desc := "()V" } : Jvm.MethodName)) ∈ lw_tbl := in_t2 _ (List.mem_of_getElem? (i := 192) (by decide +kernel))
theorem tw_2_193 : (Jvm.Cond.methodLink "java/util/Arrays" (54 : Nat) ({ cls := "java/lang/StringBuilder", name := "append", desc := "(I)Ljava/lang/StringBuilder;" } : Jvm.MethodName)) ∈ lw_tbl := in_t2 _ (List.mem_of_getElem? (i := 193) (by decide +kernel))
theorem tw_2_194 : (Jvm.Cond.stringRef "java/util/Arrays" (337 : Nat) " > ") ∈ lw_tbl := in_t2 _ (List.mem_of_getElem? (i := 194) (by decide +kernel))
theorem tw_2_195 : (Jvm.Cond.methodLink "java/util/Arrays" (50 : Nat) ({ cls := "java/lang/StringBuilder", name := "append", desc := "(Ljava/lang/String;)Ljava/lang/StringBuilder;" } : Jvm.MethodName)) ∈ lw_tbl := in_t2 _ (List.mem_of_getElem? (i := 195) (by decide +kernel))
theorem tw_2_196 : (Jvm.Cond.methodLink "java/util/Arrays" (61 : Nat) ({ cls := "java/lang/StringBuilder", name := "toString", desc := "()Ljava/lang/String;" } : Jvm.MethodName)) ∈ lw_tbl := in_t2 _ (List.mem_of_getElem? (i := 196) (by decide +kernel))
theorem tw_2_197 : (Jvm.Cond.methodLink "java/util/Arrays" (65 : Nat) ({ cls := "java/lang/IllegalArgumentException", name := "<init>", desc := "(Ljava/lang/String;)V" } : Jvm.MethodName)) ∈ lw_tbl := in_t2 _ (List.mem_of_getElem? (i := 197) (by decide +kernel))
theorem tw_2_198 : (Jvm.Cond.instanceMethod ({ cls := "java/lang/IllegalArgumentException", name := "<init>", desc := "(Ljava/lang/String;)V" } : Jvm.MethodName)) ∈ lw_tbl := in_t2 _ (List.mem_of_getElem? (i := 198) (by decide +kernel))
theorem tw_2_199 : (Jvm.Cond.code ({ cls := "java/lang/IllegalArgumentException", name := "<init>", desc := "(Ljava/lang/String;)V" } : Jvm.MethodName) prog_16_method_2_code (2 : Nat) (Option.none : Option Jvm.ClassFile.FieldType)) ∈ lw_tbl := in_t2 _ (List.mem_of_getElem? (i := 199) (by decide +kernel))
theorem tw_2_200 : (Jvm.Cond.methodLink "java/lang/IllegalArgumentException" (7 : Nat) ({ cls := "java/lang/RuntimeException", name := "<init>", desc := "(Ljava/lang/String;)V" } : Jvm.MethodName)) ∈ lw_tbl := in_t2 _ (List.mem_of_getElem? (i := 200) (by decide +kernel))
theorem tw_2_201 : (Jvm.Cond.instanceMethod ({ cls := "java/lang/RuntimeException", name := "<init>", desc := "(Ljava/lang/String;)V" } : Jvm.MethodName)) ∈ lw_tbl := in_t2 _ (List.mem_of_getElem? (i := 201) (by decide +kernel))
theorem tw_2_202 : (Jvm.Cond.code ({ cls := "java/lang/RuntimeException", name := "<init>", desc := "(Ljava/lang/String;)V" } : Jvm.MethodName) prog_23_method_2_code (2 : Nat) (Option.none : Option Jvm.ClassFile.FieldType)) ∈ lw_tbl := in_t2 _ (List.mem_of_getElem? (i := 202) (by decide +kernel))
theorem tw_2_203 : (Jvm.Cond.methodLink "java/lang/RuntimeException" (7 : Nat) ({ cls := "java/lang/Exception", name := "<init>", desc := "(Ljava/lang/String;)V" } : Jvm.MethodName)) ∈ lw_tbl := in_t2 _ (List.mem_of_getElem? (i := 203) (by decide +kernel))
theorem tw_2_204 : (Jvm.Cond.instanceMethod ({ cls := "java/lang/Exception", name := "<init>", desc := "(Ljava/lang/String;)V" } : Jvm.MethodName)) ∈ lw_tbl := in_t2 _ (List.mem_of_getElem? (i := 204) (by decide +kernel))
theorem tw_2_205 : (Jvm.Cond.code ({ cls := "java/lang/Exception", name := "<init>", desc := "(Ljava/lang/String;)V" } : Jvm.MethodName) prog_15_method_2_code (2 : Nat) (Option.none : Option Jvm.ClassFile.FieldType)) ∈ lw_tbl := in_t2 _ (List.mem_of_getElem? (i := 205) (by decide +kernel))
theorem tw_2_206 : (Jvm.Cond.methodLink "java/lang/Exception" (7 : Nat) ({ cls := "java/lang/Throwable", name := "<init>", desc := "(Ljava/lang/String;)V" } : Jvm.MethodName)) ∈ lw_tbl := in_t2 _ (List.mem_of_getElem? (i := 206) (by decide +kernel))
theorem tw_2_207 : (Jvm.Cond.instanceMethod ({ cls := "java/lang/Throwable", name := "<init>", desc := "(Ljava/lang/String;)V" } : Jvm.MethodName)) ∈ lw_tbl := in_t2 _ (List.mem_of_getElem? (i := 207) (by decide +kernel))
theorem tw_2_208 : (Jvm.Cond.code ({ cls := "java/lang/Throwable", name := "<init>", desc := "(Ljava/lang/String;)V" } : Jvm.MethodName) prog_29_method_2_code (2 : Nat) (Option.none : Option Jvm.ClassFile.FieldType)) ∈ lw_tbl := in_t2 _ (List.mem_of_getElem? (i := 208) (by decide +kernel))
theorem tw_2_210 : (Jvm.Cond.fieldLink "java/lang/Throwable" (31 : Nat) "java/lang/Throwable" "detailMessage" "Ljava/lang/String;") ∈ lw_tbl := in_t2 _ (List.mem_of_getElem? (i := 210) (by decide +kernel))
theorem tw_2_211 : (Jvm.Cond.fieldLink "java/lang/Throwable" (7 : Nat) "java/lang/Throwable" "cause" "Ljava/lang/Throwable;") ∈ lw_tbl := in_t2 _ (List.mem_of_getElem? (i := 211) (by decide +kernel))
theorem tw_2_212 : (Jvm.Cond.fieldLink "java/lang/Throwable" (17 : Nat) "java/lang/Throwable" "stackTrace" "[Ljava/lang/StackTraceElement;") ∈ lw_tbl := in_t2 _ (List.mem_of_getElem? (i := 212) (by decide +kernel))
theorem tw_2_213 : (Jvm.Cond.fieldLink "java/lang/Throwable" (24 : Nat) "java/lang/Throwable" "suppressedExceptions" "Ljava/util/List;") ∈ lw_tbl := in_t2 _ (List.mem_of_getElem? (i := 213) (by decide +kernel))
theorem tw_2_214 : (Jvm.Cond.soleField "java/lang/Throwable" "backtrace") ∈ lw_tbl := in_t2 _ (List.mem_of_getElem? (i := 214) (by decide +kernel))
theorem tw_2_215 : (Jvm.Cond.soleField "java/lang/Throwable" "detailMessage") ∈ lw_tbl := in_t2 _ (List.mem_of_getElem? (i := 215) (by decide +kernel))
theorem tw_2_216 : (Jvm.Cond.soleField "java/lang/Throwable" "cause") ∈ lw_tbl := in_t2 _ (List.mem_of_getElem? (i := 216) (by decide +kernel))
theorem tw_2_217 : (Jvm.Cond.soleField "java/lang/Throwable" "stackTrace") ∈ lw_tbl := in_t2 _ (List.mem_of_getElem? (i := 217) (by decide +kernel))
theorem tw_2_218 : (Jvm.Cond.lays "java/lang/IllegalArgumentException" "java/lang/Throwable" "depth" "I") ∈ lw_tbl := in_t2 _ (List.mem_of_getElem? (i := 218) (by decide +kernel))
theorem tw_2_219 : (Jvm.Cond.soleField "java/lang/Throwable" "depth") ∈ lw_tbl := in_t2 _ (List.mem_of_getElem? (i := 219) (by decide +kernel))
theorem tw_2_220 : (Jvm.Cond.soleField "java/lang/Throwable" "suppressedExceptions") ∈ lw_tbl := in_t2 _ (List.mem_of_getElem? (i := 220) (by decide +kernel))
theorem tw_2_221 : (Jvm.Cond.superclass "java/lang/IllegalArgumentException" "java/lang/RuntimeException") ∈ lw_tbl := in_t2 _ (List.mem_of_getElem? (i := 221) (by decide +kernel))
theorem tw_2_222 : (Jvm.Cond.methodLink "java/lang/String" (1051 : Nat) ({ cls := "java/lang/StringUTF16", name := "compress", desc := "([BII)[B" } : Jvm.MethodName)) ∈ lw_tbl := in_t2 _ (List.mem_of_getElem? (i := 222) (by decide +kernel))
theorem tw_2_223 : (Jvm.Cond.static ({ cls := "java/lang/StringUTF16", name := "compress", desc := "([BII)[B" } : Jvm.MethodName)) ∈ lw_tbl := in_t2 _ (List.mem_of_getElem? (i := 223) (by decide +kernel))
theorem tw_2_224 : (Jvm.Cond.code ({ cls := "java/lang/StringUTF16", name := "compress", desc := "([BII)[B" } : Jvm.MethodName) prog_27_method_17_code (6 : Nat) (Option.some (Jvm.ClassFile.FieldType.array Jvm.ClassFile.FieldType.byte))) ∈ lw_tbl := in_t2 _ (List.mem_of_getElem? (i := 224) (by decide +kernel))
theorem tw_2_225 : (Jvm.Cond.methodLink "java/lang/StringUTF16" (123 : Nat) ({ cls := "java/lang/StringUTF16", name := "compress", desc := "([BI[BII)I" } : Jvm.MethodName)) ∈ lw_tbl := in_t2 _ (List.mem_of_getElem? (i := 225) (by decide +kernel))
theorem tw_2_226 : (Jvm.Cond.static ({ cls := "java/lang/StringUTF16", name := "compress", desc := "([BI[BII)I" } : Jvm.MethodName)) ∈ lw_tbl := in_t2 _ (List.mem_of_getElem? (i := 226) (by decide +kernel))
theorem tw_2_227 : (Jvm.Cond.code ({ cls := "java/lang/StringUTF16", name := "compress", desc := "([BI[BII)I" } : Jvm.MethodName) prog_27_method_22_code (7 : Nat) (Option.some Jvm.ClassFile.FieldType.int)) ∈ lw_tbl := in_t2 _ (List.mem_of_getElem? (i := 227) (by decide +kernel))
theorem tw_2_228 : (Jvm.Cond.methodLink "java/lang/StringUTF16" (71 : Nat) ({ cls := "java/lang/StringUTF16", name := "getChar", desc := "([BI)C" } : Jvm.MethodName)) ∈ lw_tbl := in_t2 _ (List.mem_of_getElem? (i := 228) (by decide +kernel))
theorem tw_2_229 : (Jvm.Cond.static ({ cls := "java/lang/StringUTF16", name := "getChar", desc := "([BI)C" } : Jvm.MethodName)) ∈ lw_tbl := in_t2 _ (List.mem_of_getElem? (i := 229) (by decide +kernel))
theorem tw_2_230 : (Jvm.Cond.code ({ cls := "java/lang/StringUTF16", name := "getChar", desc := "([BI)C" } : Jvm.MethodName) prog_27_method_5_code (2 : Nat) (Option.some Jvm.ClassFile.FieldType.char)) ∈ lw_tbl := in_t2 _ (List.mem_of_getElem? (i := 230) (by decide +kernel))
theorem tw_2_231 : (Jvm.Cond.methodLink "java/lang/StringUTF16" (126 : Nat) ({ cls := "java/util/Arrays", name := "copyOfRange", desc := "([BII)[B" } : Jvm.MethodName)) ∈ lw_tbl := in_t2 _ (List.mem_of_getElem? (i := 231) (by decide +kernel))
theorem tw_2_232 : (Jvm.Cond.methodLink "java/lang/String" (47 : Nat) ({ cls := "java/lang/StringUTF16", name := "coderFromArrayLen", desc := "([BI)B" } : Jvm.MethodName)) ∈ lw_tbl := in_t2 _ (List.mem_of_getElem? (i := 232) (by decide +kernel))
theorem tw_2_233 : (Jvm.Cond.static ({ cls := "java/lang/StringUTF16", name := "coderFromArrayLen", desc := "([BI)B" } : Jvm.MethodName)) ∈ lw_tbl := in_t2 _ (List.mem_of_getElem? (i := 233) (by decide +kernel))
theorem tw_2_234 : (Jvm.Cond.code ({ cls := "java/lang/StringUTF16", name := "coderFromArrayLen", desc := "([BI)B" } : Jvm.MethodName) prog_27_method_15_code (2 : Nat) (Option.some Jvm.ClassFile.FieldType.byte)) ∈ lw_tbl := in_t2 _ (List.mem_of_getElem? (i := 234) (by decide +kernel))
theorem tw_2_235 : (Jvm.Cond.fieldLink "java/lang/String" (9 : Nat) "java/lang/String" "value" "[B") ∈ lw_tbl := in_t2 _ (List.mem_of_getElem? (i := 235) (by decide +kernel))
theorem tw_2_236 : (Jvm.Cond.fieldLink "java/lang/String" (15 : Nat) "java/lang/String" "coder" "B") ∈ lw_tbl := in_t2 _ (List.mem_of_getElem? (i := 236) (by decide +kernel))
theorem tw_2_237 : (Jvm.Cond.laysFinal "java/lang/String" "java/lang/String" "value" "[B") ∈ lw_tbl := in_t2 _ (List.mem_of_getElem? (i := 237) (by decide +kernel))
theorem tw_2_238 : (Jvm.Cond.soleField "java/lang/String" "value") ∈ lw_tbl := in_t2 _ (List.mem_of_getElem? (i := 238) (by decide +kernel))
theorem tw_2_239 : (Jvm.Cond.laysFinal "java/lang/String" "java/lang/String" "coder" "B") ∈ lw_tbl := in_t2 _ (List.mem_of_getElem? (i := 239) (by decide +kernel))
theorem tw_3_0 : (Jvm.Cond.soleField "java/lang/String" "coder") ∈ lw_tbl := in_t3 _ (List.mem_of_getElem? (i := 0) (by decide +kernel))
theorem tw_3_1 : (Jvm.Cond.lays "java/lang/String" "java/lang/String" "hash" "I") ∈ lw_tbl := in_t3 _ (List.mem_of_getElem? (i := 1) (by decide +kernel))
theorem tw_3_2 : (Jvm.Cond.soleField "java/lang/String" "hash") ∈ lw_tbl := in_t3 _ (List.mem_of_getElem? (i := 2) (by decide +kernel))
theorem tw_3_3 : (Jvm.Cond.lays "java/lang/String" "java/lang/String" "hashIsZero" "Z") ∈ lw_tbl := in_t3 _ (List.mem_of_getElem? (i := 3) (by decide +kernel))
theorem tw_3_4 : (Jvm.Cond.soleField "java/lang/String" "hashIsZero") ∈ lw_tbl := in_t3 _ (List.mem_of_getElem? (i := 4) (by decide +kernel))
theorem tw_3_5 : (Jvm.Cond.superclass "java/lang/String" "java/lang/Object") ∈ lw_tbl := in_t3 _ (List.mem_of_getElem? (i := 5) (by decide +kernel))
theorem tw_3_6 : (Jvm.Cond.methodLink "java/util/ArrayList" (193 : Nat) ({ cls := "java/lang/IndexOutOfBoundsException", name := "<init>", desc := "(Ljava/lang/String;)V" } : Jvm.MethodName)) ∈ lw_tbl := in_t3 _ (List.mem_of_getElem? (i := 6) (by decide +kernel))
theorem tw_3_7 : (Jvm.Cond.instanceMethod ({ cls := "java/lang/IndexOutOfBoundsException", name := "<init>", desc := "(Ljava/lang/String;)V" } : Jvm.MethodName)) ∈ lw_tbl := in_t3 _ (List.mem_of_getElem? (i := 7) (by decide +kernel))
theorem tw_3_8 : (Jvm.Cond.code ({ cls := "java/lang/IndexOutOfBoundsException", name := "<init>", desc := "(Ljava/lang/String;)V" } : Jvm.MethodName) prog_18_method_2_code (2 : Nat) (Option.none : Option Jvm.ClassFile.FieldType)) ∈ lw_tbl := in_t3 _ (List.mem_of_getElem? (i := 8) (by decide +kernel))
theorem tw_3_9 : (Jvm.Cond.methodLink "java/lang/IndexOutOfBoundsException" (7 : Nat) ({ cls := "java/lang/RuntimeException", name := "<init>", desc := "(Ljava/lang/String;)V" } : Jvm.MethodName)) ∈ lw_tbl := in_t3 _ (List.mem_of_getElem? (i := 9) (by decide +kernel))
theorem tw_3_10 : (Jvm.Cond.lays "java/lang/IndexOutOfBoundsException" "java/lang/Throwable" "depth" "I") ∈ lw_tbl := in_t3 _ (List.mem_of_getElem? (i := 10) (by decide +kernel))
theorem tw_3_11 : (Jvm.Cond.superclass "java/lang/IndexOutOfBoundsException" "java/lang/RuntimeException") ∈ lw_tbl := in_t3 _ (List.mem_of_getElem? (i := 11) (by decide +kernel))
theorem tw_3_12 : (Jvm.Cond.methodLink "java/util/ArrayList" (129 : Nat) ({ cls := "java/util/ArrayList", name := "grow", desc := "()[Ljava/lang/Object;" } : Jvm.MethodName)) ∈ lw_tbl := in_t3 _ (List.mem_of_getElem? (i := 12) (by decide +kernel))
theorem tw_3_13 : (Jvm.Cond.privateMethod ({ cls := "java/util/ArrayList", name := "grow", desc := "()[Ljava/lang/Object;" } : Jvm.MethodName)) ∈ lw_tbl := in_t3 _ (List.mem_of_getElem? (i := 13) (by decide +kernel))
theorem tw_3_14 : (Jvm.Cond.instanceMethod ({ cls := "java/util/ArrayList", name := "grow", desc := "()[Ljava/lang/Object;" } : Jvm.MethodName)) ∈ lw_tbl := in_t3 _ (List.mem_of_getElem? (i := 14) (by decide +kernel))
theorem tw_3_15 : (Jvm.Cond.code ({ cls := "java/util/ArrayList", name := "grow", desc := "()[Ljava/lang/Object;" } : Jvm.MethodName) prog_34_method_7_code (1 : Nat) (Option.some (Jvm.ClassFile.FieldType.array (Jvm.ClassFile.FieldType.object "java/lang/Object")))) ∈ lw_tbl := in_t3 _ (List.mem_of_getElem? (i := 15) (by decide +kernel))
theorem tw_3_16 : (Jvm.Cond.methodLink "java/util/ArrayList" (69 : Nat) ({ cls := "java/util/ArrayList", name := "grow", desc := "(I)[Ljava/lang/Object;" } : Jvm.MethodName)) ∈ lw_tbl := in_t3 _ (List.mem_of_getElem? (i := 16) (by decide +kernel))
theorem tw_3_17 : (Jvm.Cond.privateMethod ({ cls := "java/util/ArrayList", name := "grow", desc := "(I)[Ljava/lang/Object;" } : Jvm.MethodName)) ∈ lw_tbl := in_t3 _ (List.mem_of_getElem? (i := 17) (by decide +kernel))
theorem tw_3_18 : (Jvm.Cond.instanceMethod ({ cls := "java/util/ArrayList", name := "grow", desc := "(I)[Ljava/lang/Object;" } : Jvm.MethodName)) ∈ lw_tbl := in_t3 _ (List.mem_of_getElem? (i := 18) (by decide +kernel))
theorem tw_3_19 : (Jvm.Cond.code ({ cls := "java/util/ArrayList", name := "grow", desc := "(I)[Ljava/lang/Object;" } : Jvm.MethodName) prog_34_method_6_code (4 : Nat) (Option.some (Jvm.ClassFile.FieldType.array (Jvm.ClassFile.FieldType.object "java/lang/Object")))) ∈ lw_tbl := in_t3 _ (List.mem_of_getElem? (i := 19) (by decide +kernel))
theorem tw_3_20 : (Jvm.Cond.methodLink "java/util/ArrayList" (73 : Nat) ({ cls := "jdk/internal/util/ArraysSupport", name := "newLength", desc := "(III)I" } : Jvm.MethodName)) ∈ lw_tbl := in_t3 _ (List.mem_of_getElem? (i := 20) (by decide +kernel))
theorem tw_3_21 : (Jvm.Cond.methodLink "java/util/ArrayList" (66 : Nat) ({ cls := "java/util/Arrays", name := "copyOf", desc := "([Ljava/lang/Object;I)[Ljava/lang/Object;" } : Jvm.MethodName)) ∈ lw_tbl := in_t3 _ (List.mem_of_getElem? (i := 21) (by decide +kernel))
theorem tw_3_22 : (Jvm.Cond.static ({ cls := "java/util/Arrays", name := "copyOf", desc := "([Ljava/lang/Object;I)[Ljava/lang/Object;" } : Jvm.MethodName)) ∈ lw_tbl := in_t3 _ (List.mem_of_getElem? (i := 22) (by decide +kernel))
theorem tw_3_23 : (Jvm.Cond.code ({ cls := "java/util/Arrays", name := "copyOf", desc := "([Ljava/lang/Object;I)[Ljava/lang/Object;" } : Jvm.MethodName) prog_35_method_119_code (2 : Nat) (Option.some (Jvm.ClassFile.FieldType.array (Jvm.ClassFile.FieldType.object "java/lang/Object")))) ∈ lw_tbl := in_t3 _ (List.mem_of_getElem? (i := 23) (by decide +kernel))
theorem tw_3_24 : (Jvm.Cond.methodLink "java/util/Arrays" (86 : Nat) ({ cls := "java/lang/Object", name := "getClass", desc := "()Ljava/lang/Class;" } : Jvm.MethodName)) ∈ lw_tbl := in_t3 _ (List.mem_of_getElem? (i := 24) (by decide +kernel))
theorem tw_3_25 : (Jvm.Cond.instanceMethod ({ cls := "java/lang/Object", name := "getClass", desc := "()Ljava/lang/Class;" } : Jvm.MethodName)) ∈ lw_tbl := in_t3 _ (List.mem_of_getElem? (i := 25) (by decide +kernel))
theorem tw_3_26 : (Jvm.Cond.sameMethod "java/lang/Object" "java/lang/Object" "getClass" "()Ljava/lang/Class;") ∈ lw_tbl := in_t3 _ (List.mem_of_getElem? (i := 26) (by decide +kernel))
theorem tw_3_27 : (Jvm.Cond.selects "CueBook" ({ cls := "java/lang/Object", name := "getClass", desc := "()Ljava/lang/Class;" } : Jvm.MethodName) ({ cls := "java/lang/Object", name := "getClass", desc := "()Ljava/lang/Class;" } : Jvm.MethodName)) ∈ lw_tbl := in_t3 _ (List.mem_of_getElem? (i := 27) (by decide +kernel))
theorem tw_3_28 : (Jvm.Cond.selects "CueBook$Cue" ({ cls := "java/lang/Object", name := "getClass", desc := "()Ljava/lang/Class;" } : Jvm.MethodName) ({ cls := "java/lang/Object", name := "getClass", desc := "()Ljava/lang/Class;" } : Jvm.MethodName)) ∈ lw_tbl := in_t3 _ (List.mem_of_getElem? (i := 28) (by decide +kernel))
theorem tw_3_29 : (Jvm.Cond.selects "CueBook$Path" ({ cls := "java/lang/Object", name := "getClass", desc := "()Ljava/lang/Class;" } : Jvm.MethodName) ({ cls := "java/lang/Object", name := "getClass", desc := "()Ljava/lang/Class;" } : Jvm.MethodName)) ∈ lw_tbl := in_t3 _ (List.mem_of_getElem? (i := 29) (by decide +kernel))
theorem tw_3_30 : (Jvm.Cond.selects "CueBook$Player" ({ cls := "java/lang/Object", name := "getClass", desc := "()Ljava/lang/Class;" } : Jvm.MethodName) ({ cls := "java/lang/Object", name := "getClass", desc := "()Ljava/lang/Class;" } : Jvm.MethodName)) ∈ lw_tbl := in_t3 _ (List.mem_of_getElem? (i := 30) (by decide +kernel))
theorem tw_3_31 : (Jvm.Cond.selects "CueBook$Puppet" ({ cls := "java/lang/Object", name := "getClass", desc := "()Ljava/lang/Class;" } : Jvm.MethodName) ({ cls := "java/lang/Object", name := "getClass", desc := "()Ljava/lang/Class;" } : Jvm.MethodName)) ∈ lw_tbl := in_t3 _ (List.mem_of_getElem? (i := 31) (by decide +kernel))
theorem tw_3_32 : (Jvm.Cond.selects "CueBook$Stay" ({ cls := "java/lang/Object", name := "getClass", desc := "()Ljava/lang/Class;" } : Jvm.MethodName) ({ cls := "java/lang/Object", name := "getClass", desc := "()Ljava/lang/Class;" } : Jvm.MethodName)) ∈ lw_tbl := in_t3 _ (List.mem_of_getElem? (i := 32) (by decide +kernel))
theorem tw_3_33 : (Jvm.Cond.selects "CueBookModel" ({ cls := "java/lang/Object", name := "getClass", desc := "()Ljava/lang/Class;" } : Jvm.MethodName) ({ cls := "java/lang/Object", name := "getClass", desc := "()Ljava/lang/Class;" } : Jvm.MethodName)) ∈ lw_tbl := in_t3 _ (List.mem_of_getElem? (i := 33) (by decide +kernel))
theorem tw_3_34 : (Jvm.Cond.selects "java/lang/IllegalArgumentException" ({ cls := "java/lang/Object", name := "getClass", desc := "()Ljava/lang/Class;" } : Jvm.MethodName) ({ cls := "java/lang/Object", name := "getClass", desc := "()Ljava/lang/Class;" } : Jvm.MethodName)) ∈ lw_tbl := in_t3 _ (List.mem_of_getElem? (i := 34) (by decide +kernel))
theorem tw_3_35 : (Jvm.Cond.selects "java/lang/IllegalStateException" ({ cls := "java/lang/Object", name := "getClass", desc := "()Ljava/lang/Class;" } : Jvm.MethodName) ({ cls := "java/lang/Object", name := "getClass", desc := "()Ljava/lang/Class;" } : Jvm.MethodName)) ∈ lw_tbl := in_t3 _ (List.mem_of_getElem? (i := 35) (by decide +kernel))
theorem tw_3_36 : (Jvm.Cond.selects "java/lang/IndexOutOfBoundsException" ({ cls := "java/lang/Object", name := "getClass", desc := "()Ljava/lang/Class;" } : Jvm.MethodName) ({ cls := "java/lang/Object", name := "getClass", desc := "()Ljava/lang/Class;" } : Jvm.MethodName)) ∈ lw_tbl := in_t3 _ (List.mem_of_getElem? (i := 36) (by decide +kernel))
theorem tw_3_37 : (Jvm.Cond.selects "java/lang/String" ({ cls := "java/lang/Object", name := "getClass", desc := "()Ljava/lang/Class;" } : Jvm.MethodName) ({ cls := "java/lang/Object", name := "getClass", desc := "()Ljava/lang/Class;" } : Jvm.MethodName)) ∈ lw_tbl := in_t3 _ (List.mem_of_getElem? (i := 37) (by decide +kernel))
theorem tw_3_38 : (Jvm.Cond.selects "java/lang/StringBuilder" ({ cls := "java/lang/Object", name := "getClass", desc := "()Ljava/lang/Class;" } : Jvm.MethodName) ({ cls := "java/lang/Object", name := "getClass", desc := "()Ljava/lang/Class;" } : Jvm.MethodName)) ∈ lw_tbl := in_t3 _ (List.mem_of_getElem? (i := 38) (by decide +kernel))
theorem tw_3_39 : (Jvm.Cond.selects "java/util/ArrayList" ({ cls := "java/lang/Object", name := "getClass", desc := "()Ljava/lang/Class;" } : Jvm.MethodName) ({ cls := "java/lang/Object", name := "getClass", desc := "()Ljava/lang/Class;" } : Jvm.MethodName)) ∈ lw_tbl := in_t3 _ (List.mem_of_getElem? (i := 39) (by decide +kernel))
theorem tw_3_40 : (Jvm.Cond.native ({ cls := "java/lang/Object", name := "getClass", desc := "()Ljava/lang/Class;" } : Jvm.MethodName)) ∈ lw_tbl := in_t3 _ (List.mem_of_getElem? (i := 40) (by decide +kernel))
theorem tw_3_41 : (Jvm.Cond.methodLink "java/util/Arrays" (300 : Nat) ({ cls := "java/util/Arrays", name := "copyOf", desc := "([Ljava/lang/Object;ILjava/lang/Class;)[Ljava/lang/Object;" } : Jvm.MethodName)) ∈ lw_tbl := in_t3 _ (List.mem_of_getElem? (i := 41) (by decide +kernel))
theorem tw_3_42 : (Jvm.Cond.static ({ cls := "java/util/Arrays", name := "copyOf", desc := "([Ljava/lang/Object;ILjava/lang/Class;)[Ljava/lang/Object;" } : Jvm.MethodName)) ∈ lw_tbl := in_t3 _ (List.mem_of_getElem? (i := 42) (by decide +kernel))
theorem tw_3_43 : (Jvm.Cond.code ({ cls := "java/util/Arrays", name := "copyOf", desc := "([Ljava/lang/Object;ILjava/lang/Class;)[Ljava/lang/Object;" } : Jvm.MethodName) prog_35_method_120_code (4 : Nat) (Option.some (Jvm.ClassFile.FieldType.array (Jvm.ClassFile.FieldType.object "java/lang/Object")))) ∈ lw_tbl := in_t3 _ (List.mem_of_getElem? (i := 43) (by decide +kernel))
theorem tw_3_44 : (Jvm.Cond.classLink "java/util/Arrays" (110 : Nat) "[Ljava/lang/Object;") ∈ lw_tbl := in_t3 _ (List.mem_of_getElem? (i := 44) (by decide +kernel))
theorem tw_3_45 : (Jvm.Cond.arrayOver (Jvm.ClassFile.FieldType.object "java/lang/Object")) ∈ lw_tbl := in_t3 _ (List.mem_of_getElem? (i := 45) (by decide +kernel))
theorem tw_3_46 : (Jvm.Cond.classLink "java/util/Arrays" (2 : Nat) "java/lang/Object") ∈ lw_tbl := in_t3 _ (List.mem_of_getElem? (i := 46) (by decide +kernel))
theorem tw_3_47 : (Jvm.Cond.methodLink "java/util/ArrayList" (79 : Nat) ({ cls := "java/lang/Math", name := "max", desc := "(II)I" } : Jvm.MethodName)) ∈ lw_tbl := in_t3 _ (List.mem_of_getElem? (i := 47) (by decide +kernel))
theorem tw_3_48 : (Jvm.Cond.classLink "java/util/ArrayList" (7 : Nat) "java/lang/Object") ∈ lw_tbl := in_t3 _ (List.mem_of_getElem? (i := 48) (by decide +kernel))
theorem tw_3_49 : (Jvm.Cond.methodLink "java/util/ArrayList" (112 : Nat) ({ cls := "java/lang/System", name := "arraycopy", desc := "(Ljava/lang/Object;ILjava/lang/Object;II)V" } : Jvm.MethodName)) ∈ lw_tbl := in_t3 _ (List.mem_of_getElem? (i := 49) (by decide +kernel))
theorem tw_3_50 : (Jvm.Cond.methodLink "CueBook" (275 : Nat) ({ cls := "CueBook", name := "namePlayer", desc := "(LCueBook$Stay;)V" } : Jvm.MethodName)) ∈ lw_tbl := in_t3 _ (List.mem_of_getElem? (i := 50) (by decide +kernel))
theorem tw_3_51 : (Jvm.Cond.privateMethod ({ cls := "CueBook", name := "namePlayer", desc := "(LCueBook$Stay;)V" } : Jvm.MethodName)) ∈ lw_tbl := in_t3 _ (List.mem_of_getElem? (i := 51) (by decide +kernel))
theorem tw_3_52 : (Jvm.Cond.instanceMethod ({ cls := "CueBook", name := "namePlayer", desc := "(LCueBook$Stay;)V" } : Jvm.MethodName)) ∈ lw_tbl := in_t3 _ (List.mem_of_getElem? (i := 52) (by decide +kernel))
theorem tw_3_53 : (Jvm.Cond.code ({ cls := "CueBook", name := "namePlayer", desc := "(LCueBook$Stay;)V" } : Jvm.MethodName) prog_1_method_44_code (4 : Nat) (Option.none : Option Jvm.ClassFile.FieldType)) ∈ lw_tbl := in_t3 _ (List.mem_of_getElem? (i := 53) (by decide +kernel))
theorem tw_3_54 : (Jvm.Cond.methodLink "CueBook" (288 : Nat) ({ cls := "CueBook", name := "canDo", desc := "(LCueBook$Player;LCueBook$Stay;)Z" } : Jvm.MethodName)) ∈ lw_tbl := in_t3 _ (List.mem_of_getElem? (i := 54) (by decide +kernel))
theorem tw_3_55 : (Jvm.Cond.privateMethod ({ cls := "CueBook", name := "canDo", desc := "(LCueBook$Player;LCueBook$Stay;)Z" } : Jvm.MethodName)) ∈ lw_tbl := in_t3 _ (List.mem_of_getElem? (i := 55) (by decide +kernel))
theorem tw_3_56 : (Jvm.Cond.instanceMethod ({ cls := "CueBook", name := "canDo", desc := "(LCueBook$Player;LCueBook$Stay;)Z" } : Jvm.MethodName)) ∈ lw_tbl := in_t3 _ (List.mem_of_getElem? (i := 56) (by decide +kernel))
theorem tw_3_57 : (Jvm.Cond.code ({ cls := "CueBook", name := "canDo", desc := "(LCueBook$Player;LCueBook$Stay;)Z" } : Jvm.MethodName) prog_1_method_45_code (4 : Nat) (Option.some Jvm.ClassFile.FieldType.boolean)) ∈ lw_tbl := in_t3 _ (List.mem_of_getElem? (i := 57) (by decide +kernel))
theorem tw_3_58 : (Jvm.Cond.methodLink "CueBook" (295 : Nat) ({ cls := "CueBook", name := "canComeToBeginning", desc := "(LCueBook$Player;LCueBook$Stay;)Z" } : Jvm.MethodName)) ∈ lw_tbl := in_t3 _ (List.mem_of_getElem? (i := 58) (by decide +kernel))
theorem tw_3_59 : (Jvm.Cond.privateMethod ({ cls := "CueBook", name := "canComeToBeginning", desc := "(LCueBook$Player;LCueBook$Stay;)Z" } : Jvm.MethodName)) ∈ lw_tbl := in_t3 _ (List.mem_of_getElem? (i := 59) (by decide +kernel))
theorem tw_3_60 : (Jvm.Cond.instanceMethod ({ cls := "CueBook", name := "canComeToBeginning", desc := "(LCueBook$Player;LCueBook$Stay;)Z" } : Jvm.MethodName)) ∈ lw_tbl := in_t3 _ (List.mem_of_getElem? (i := 60) (by decide +kernel))
theorem tw_3_61 : (Jvm.Cond.code ({ cls := "CueBook", name := "canComeToBeginning", desc := "(LCueBook$Player;LCueBook$Stay;)Z" } : Jvm.MethodName) prog_1_method_46_code (5 : Nat) (Option.some Jvm.ClassFile.FieldType.boolean)) ∈ lw_tbl := in_t3 _ (List.mem_of_getElem? (i := 61) (by decide +kernel))
theorem tw_3_62 : (Jvm.Cond.methodLink "CueBook" (303 : Nat) ({ cls := "CueBook", name := "placeOfHeld", desc := "(LCueBook$Player;I)I" } : Jvm.MethodName)) ∈ lw_tbl := in_t3 _ (List.mem_of_getElem? (i := 62) (by decide +kernel))
theorem tw_3_63 : (Jvm.Cond.privateMethod ({ cls := "CueBook", name := "placeOfHeld", desc := "(LCueBook$Player;I)I" } : Jvm.MethodName)) ∈ lw_tbl := in_t3 _ (List.mem_of_getElem? (i := 63) (by decide +kernel))
theorem tw_3_64 : (Jvm.Cond.instanceMethod ({ cls := "CueBook", name := "placeOfHeld", desc := "(LCueBook$Player;I)I" } : Jvm.MethodName)) ∈ lw_tbl := in_t3 _ (List.mem_of_getElem? (i := 64) (by decide +kernel))
theorem tw_3_65 : (Jvm.Cond.code ({ cls := "CueBook", name := "placeOfHeld", desc := "(LCueBook$Player;I)I" } : Jvm.MethodName) prog_1_method_47_code (4 : Nat) (Option.some Jvm.ClassFile.FieldType.int)) ∈ lw_tbl := in_t3 _ (List.mem_of_getElem? (i := 65) (by decide +kernel))
theorem tw_3_66 : (Jvm.Cond.methodLink "CueBook" (314 : Nat) ({ cls := "CueBook$Player", name := "holds", desc := "(LCueBook$Puppet;I)Z" } : Jvm.MethodName)) ∈ lw_tbl := in_t3 _ (List.mem_of_getElem? (i := 66) (by decide +kernel))
theorem tw_3_67 : (Jvm.Cond.instanceMethod ({ cls := "CueBook$Player", name := "holds", desc := "(LCueBook$Puppet;I)Z" } : Jvm.MethodName)) ∈ lw_tbl := in_t3 _ (List.mem_of_getElem? (i := 67) (by decide +kernel))
theorem tw_3_68 : (Jvm.Cond.selects "CueBook$Player" ({ cls := "CueBook$Player", name := "holds", desc := "(LCueBook$Puppet;I)Z" } : Jvm.MethodName) ({ cls := "CueBook$Player", name := "holds", desc := "(LCueBook$Puppet;I)Z" } : Jvm.MethodName)) ∈ lw_tbl := in_t3 _ (List.mem_of_getElem? (i := 68) (by decide +kernel))
theorem tw_3_69 : (Jvm.Cond.code ({ cls := "CueBook$Player", name := "holds", desc := "(LCueBook$Puppet;I)Z" } : Jvm.MethodName) prog_4_method_2_code (3 : Nat) (Option.some Jvm.ClassFile.FieldType.boolean)) ∈ lw_tbl := in_t3 _ (List.mem_of_getElem? (i := 69) (by decide +kernel))
theorem tw_3_70 : (Jvm.Cond.methodLink "CueBook" (307 : Nat) ({ cls := "CueBook", name := "distance", desc := "(II)I" } : Jvm.MethodName)) ∈ lw_tbl := in_t3 _ (List.mem_of_getElem? (i := 70) (by decide +kernel))
theorem tw_3_71 : (Jvm.Cond.static ({ cls := "CueBook", name := "distance", desc := "(II)I" } : Jvm.MethodName)) ∈ lw_tbl := in_t3 _ (List.mem_of_getElem? (i := 71) (by decide +kernel))
theorem tw_3_72 : (Jvm.Cond.code ({ cls := "CueBook", name := "distance", desc := "(II)I" } : Jvm.MethodName) prog_1_method_36_code (2 : Nat) (Option.some Jvm.ClassFile.FieldType.int)) ∈ lw_tbl := in_t3 _ (List.mem_of_getElem? (i := 72) (by decide +kernel))
theorem tw_3_73 : (Jvm.Cond.methodLink "CueBook" (199 : Nat) ({ cls := "java/lang/Math", name := "abs", desc := "(I)I" } : Jvm.MethodName)) ∈ lw_tbl := in_t3 _ (List.mem_of_getElem? (i := 73) (by decide +kernel))
theorem tw_3_74 : (Jvm.Cond.static ({ cls := "java/lang/Math", name := "abs", desc := "(I)I" } : Jvm.MethodName)) ∈ lw_tbl := in_t3 _ (List.mem_of_getElem? (i := 74) (by decide +kernel))
theorem tw_3_75 : (Jvm.Cond.code ({ cls := "java/lang/Math", name := "abs", desc := "(I)I" } : Jvm.MethodName) prog_21_method_59_code (1 : Nat) (Option.some Jvm.ClassFile.FieldType.int)) ∈ lw_tbl := in_t3 _ (List.mem_of_getElem? (i := 75) (by decide +kernel))
theorem tw_3_76 : (Jvm.Cond.methodLink "CueBook" (299 : Nat) ({ cls := "CueBook", name := "canHold", desc := "(LCueBook$Player;LCueBook$Puppet;I)Z" } : Jvm.MethodName)) ∈ lw_tbl := in_t3 _ (List.mem_of_getElem? (i := 76) (by decide +kernel))
theorem tw_3_77 : (Jvm.Cond.privateMethod ({ cls := "CueBook", name := "canHold", desc := "(LCueBook$Player;LCueBook$Puppet;I)Z" } : Jvm.MethodName)) ∈ lw_tbl := in_t3 _ (List.mem_of_getElem? (i := 77) (by decide +kernel))
theorem tw_3_78 : (Jvm.Cond.instanceMethod ({ cls := "CueBook", name := "canHold", desc := "(LCueBook$Player;LCueBook$Puppet;I)Z" } : Jvm.MethodName)) ∈ lw_tbl := in_t3 _ (List.mem_of_getElem? (i := 78) (by decide +kernel))
theorem tw_3_79 : (Jvm.Cond.code ({ cls := "CueBook", name := "canHold", desc := "(LCueBook$Player;LCueBook$Puppet;I)Z" } : Jvm.MethodName) prog_1_method_48_code (8 : Nat) (Option.some Jvm.ClassFile.FieldType.boolean)) ∈ lw_tbl := in_t3 _ (List.mem_of_getElem? (i := 79) (by decide +kernel))
theorem tw_3_80 : (Jvm.Cond.methodLink "CueBook" (292 : Nat) ({ cls := "CueBook$Player", name := "take", desc := "(LCueBook$Stay;)V" } : Jvm.MethodName)) ∈ lw_tbl := in_t3 _ (List.mem_of_getElem? (i := 80) (by decide +kernel))
theorem tw_3_81 : (Jvm.Cond.instanceMethod ({ cls := "CueBook$Player", name := "take", desc := "(LCueBook$Stay;)V" } : Jvm.MethodName)) ∈ lw_tbl := in_t3 _ (List.mem_of_getElem? (i := 81) (by decide +kernel))
theorem tw_3_82 : (Jvm.Cond.selects "CueBook$Player" ({ cls := "CueBook$Player", name := "take", desc := "(LCueBook$Stay;)V" } : Jvm.MethodName) ({ cls := "CueBook$Player", name := "take", desc := "(LCueBook$Stay;)V" } : Jvm.MethodName)) ∈ lw_tbl := in_t3 _ (List.mem_of_getElem? (i := 82) (by decide +kernel))
theorem tw_3_83 : (Jvm.Cond.code ({ cls := "CueBook$Player", name := "take", desc := "(LCueBook$Stay;)V" } : Jvm.MethodName) prog_4_method_4_code (3 : Nat) (Option.none : Option Jvm.ClassFile.FieldType)) ∈ lw_tbl := in_t3 _ (List.mem_of_getElem? (i := 83) (by decide +kernel))
theorem tw_3_84 : (Jvm.Cond.methodLink "CueBookLaw" (163 : Nat) ({ cls := "CueBook", name := "worst", desc := "()I" } : Jvm.MethodName)) ∈ lw_tbl := in_t3 _ (List.mem_of_getElem? (i := 84) (by decide +kernel))
theorem tw_3_85 : (Jvm.Cond.instanceMethod ({ cls := "CueBook", name := "worst", desc := "()I" } : Jvm.MethodName)) ∈ lw_tbl := in_t3 _ (List.mem_of_getElem? (i := 85) (by decide +kernel))
theorem tw_3_86 : (Jvm.Cond.selects "CueBook" ({ cls := "CueBook", name := "worst", desc := "()I" } : Jvm.MethodName) ({ cls := "CueBook", name := "worst", desc := "()I" } : Jvm.MethodName)) ∈ lw_tbl := in_t3 _ (List.mem_of_getElem? (i := 86) (by decide +kernel))
theorem tw_3_87 : (Jvm.Cond.code ({ cls := "CueBook", name := "worst", desc := "()I" } : Jvm.MethodName) prog_1_method_24_code (5 : Nat) (Option.some Jvm.ClassFile.FieldType.int)) ∈ lw_tbl := in_t3 _ (List.mem_of_getElem? (i := 87) (by decide +kernel))
theorem tw_3_88 : (Jvm.Cond.classLink "CueBook" (89 : Nat) "CueBook$Cue") ∈ lw_tbl := in_t3 _ (List.mem_of_getElem? (i := 88) (by decide +kernel))
theorem tw_3_89 : (Jvm.Cond.methodLink "CueBookLaw" (167 : Nat) ({ cls := "CueBook", name := "digest", desc := "()J" } : Jvm.MethodName)) ∈ lw_tbl := in_t3 _ (List.mem_of_getElem? (i := 89) (by decide +kernel))
theorem tw_3_90 : (Jvm.Cond.instanceMethod ({ cls := "CueBook", name := "digest", desc := "()J" } : Jvm.MethodName)) ∈ lw_tbl := in_t3 _ (List.mem_of_getElem? (i := 90) (by decide +kernel))
theorem tw_3_91 : (Jvm.Cond.selects "CueBook" ({ cls := "CueBook", name := "digest", desc := "()J" } : Jvm.MethodName) ({ cls := "CueBook", name := "digest", desc := "()J" } : Jvm.MethodName)) ∈ lw_tbl := in_t3 _ (List.mem_of_getElem? (i := 91) (by decide +kernel))
theorem tw_3_92 : (Jvm.Cond.code ({ cls := "CueBook", name := "digest", desc := "()J" } : Jvm.MethodName) prog_1_method_25_code (4 : Nat) (Option.some Jvm.ClassFile.FieldType.long)) ∈ lw_tbl := in_t3 _ (List.mem_of_getElem? (i := 92) (by decide +kernel))
theorem tw_3_93 : (Jvm.Cond.constantLong "CueBook" (205 : Nat) (277 : Int64)) ∈ lw_tbl := in_t3 _ (List.mem_of_getElem? (i := 93) (by decide +kernel))
theorem tw_3_94 : (Jvm.Cond.methodLink "CueBook" (207 : Nat) ({ cls := "CueBook", name := "digestWith", desc := "(JI)J" } : Jvm.MethodName)) ∈ lw_tbl := in_t3 _ (List.mem_of_getElem? (i := 94) (by decide +kernel))
theorem tw_3_95 : (Jvm.Cond.static ({ cls := "CueBook", name := "digestWith", desc := "(JI)J" } : Jvm.MethodName)) ∈ lw_tbl := in_t3 _ (List.mem_of_getElem? (i := 95) (by decide +kernel))
theorem tw_3_96 : (Jvm.Cond.code ({ cls := "CueBook", name := "digestWith", desc := "(JI)J" } : Jvm.MethodName) prog_1_method_49_code (3 : Nat) (Option.some Jvm.ClassFile.FieldType.long)) ∈ lw_tbl := in_t3 _ (List.mem_of_getElem? (i := 96) (by decide +kernel))
theorem tw_3_97 : (Jvm.Cond.constantLong "CueBook" (327 : Nat) (31 : Int64)) ∈ lw_tbl := in_t3 _ (List.mem_of_getElem? (i := 97) (by decide +kernel))
theorem tw_3_98 : (Jvm.Cond.methodLink "CueBook" (211 : Nat) ({ cls := "CueBook", name := "digestWithStays", desc := "(JLjava/util/ArrayList;)J" } : Jvm.MethodName)) ∈ lw_tbl := in_t3 _ (List.mem_of_getElem? (i := 98) (by decide +kernel))
theorem tw_3_99 : (Jvm.Cond.static ({ cls := "CueBook", name := "digestWithStays", desc := "(JLjava/util/ArrayList;)J" } : Jvm.MethodName)) ∈ lw_tbl := in_t3 _ (List.mem_of_getElem? (i := 99) (by decide +kernel))
theorem tw_3_100 : (Jvm.Cond.code ({ cls := "CueBook", name := "digestWithStays", desc := "(JLjava/util/ArrayList;)J" } : Jvm.MethodName) prog_1_method_50_code (7 : Nat) (Option.some Jvm.ClassFile.FieldType.long)) ∈ lw_tbl := in_t3 _ (List.mem_of_getElem? (i := 100) (by decide +kernel))
theorem tw_3_101 : (Jvm.Cond.methodLink "CueBook" (169 : Nat) ({ cls := "CueBook", name := "tellOfStay", desc := "(LCueBook$Stay;I)I" } : Jvm.MethodName)) ∈ lw_tbl := in_t3 _ (List.mem_of_getElem? (i := 101) (by decide +kernel))
theorem tw_3_102 : (Jvm.Cond.static ({ cls := "CueBook", name := "tellOfStay", desc := "(LCueBook$Stay;I)I" } : Jvm.MethodName)) ∈ lw_tbl := in_t3 _ (List.mem_of_getElem? (i := 102) (by decide +kernel))
theorem tw_3_103 : (Jvm.Cond.code ({ cls := "CueBook", name := "tellOfStay", desc := "(LCueBook$Stay;I)I" } : Jvm.MethodName) prog_1_method_35_code (2 : Nat) (Option.some Jvm.ClassFile.FieldType.int)) ∈ lw_tbl := in_t3 _ (List.mem_of_getElem? (i := 103) (by decide +kernel))
theorem tw_3_104 : (Jvm.Cond.classLink "CueBook" (121 : Nat) "java/lang/IndexOutOfBoundsException") ∈ lw_tbl := in_t3 _ (List.mem_of_getElem? (i := 104) (by decide +kernel))
theorem tw_3_105 : (Jvm.Cond.stringRef "CueBook" (260 : Nat) "what is not 0 to 2") ∈ lw_tbl := in_t3 _ (List.mem_of_getElem? (i := 105) (by decide +kernel))
theorem tw_3_106 : (Jvm.Cond.methodLink "CueBook" (125 : Nat) ({ cls := "java/lang/IndexOutOfBoundsException", name := "<init>", desc := "(Ljava/lang/String;)V" } : Jvm.MethodName)) ∈ lw_tbl := in_t3 _ (List.mem_of_getElem? (i := 106) (by decide +kernel))
theorem tw_3_107 : (Jvm.Cond.methodLink "CueBook" (183 : Nat) ({ cls := "CueBook$Player", name := "busyBeats", desc := "()I" } : Jvm.MethodName)) ∈ lw_tbl := in_t3 _ (List.mem_of_getElem? (i := 107) (by decide +kernel))
theorem tw_3_108 : (Jvm.Cond.instanceMethod ({ cls := "CueBook$Player", name := "busyBeats", desc := "()I" } : Jvm.MethodName)) ∈ lw_tbl := in_t3 _ (List.mem_of_getElem? (i := 108) (by decide +kernel))
theorem tw_3_109 : (Jvm.Cond.selects "CueBook$Player" ({ cls := "CueBook$Player", name := "busyBeats", desc := "()I" } : Jvm.MethodName) ({ cls := "CueBook$Player", name := "busyBeats", desc := "()I" } : Jvm.MethodName)) ∈ lw_tbl := in_t3 _ (List.mem_of_getElem? (i := 109) (by decide +kernel))
theorem tw_3_110 : (Jvm.Cond.code ({ cls := "CueBook$Player", name := "busyBeats", desc := "()I" } : Jvm.MethodName) prog_4_method_5_code (3 : Nat) (Option.some Jvm.ClassFile.FieldType.int)) ∈ lw_tbl := in_t3 _ (List.mem_of_getElem? (i := 110) (by decide +kernel))
theorem tw_3_111 : (Jvm.Cond.methodLink "CueBook" (215 : Nat) ({ cls := "CueBook", name := "digestWithCue", desc := "(JLCueBook$Cue;)J" } : Jvm.MethodName)) ∈ lw_tbl := in_t3 _ (List.mem_of_getElem? (i := 111) (by decide +kernel))
theorem tw_3_112 : (Jvm.Cond.static ({ cls := "CueBook", name := "digestWithCue", desc := "(JLCueBook$Cue;)J" } : Jvm.MethodName)) ∈ lw_tbl := in_t3 _ (List.mem_of_getElem? (i := 112) (by decide +kernel))
theorem tw_3_113 : (Jvm.Cond.code ({ cls := "CueBook", name := "digestWithCue", desc := "(JLCueBook$Cue;)J" } : Jvm.MethodName) prog_1_method_51_code (6 : Nat) (Option.some Jvm.ClassFile.FieldType.long)) ∈ lw_tbl := in_t3 _ (List.mem_of_getElem? (i := 113) (by decide +kernel))
theorem tw_3_114 : (Jvm.Cond.methodLink "CueBook" (126 : Nat) ({ cls := "CueBook", name := "tellOfCue", desc := "(LCueBook$Cue;I)I" } : Jvm.MethodName)) ∈ lw_tbl := in_t3 _ (List.mem_of_getElem? (i := 114) (by decide +kernel))
theorem tw_3_115 : (Jvm.Cond.static ({ cls := "CueBook", name := "tellOfCue", desc := "(LCueBook$Cue;I)I" } : Jvm.MethodName)) ∈ lw_tbl := in_t3 _ (List.mem_of_getElem? (i := 115) (by decide +kernel))
theorem tw_3_116 : (Jvm.Cond.code ({ cls := "CueBook", name := "tellOfCue", desc := "(LCueBook$Cue;I)I" } : Jvm.MethodName) prog_1_method_34_code (2 : Nat) (Option.some Jvm.ClassFile.FieldType.int)) ∈ lw_tbl := in_t3 _ (List.mem_of_getElem? (i := 116) (by decide +kernel))
theorem tw_3_117 : (Jvm.Cond.stringRef "CueBook" (258 : Nat) "what is not 0 to 4") ∈ lw_tbl := in_t3 _ (List.mem_of_getElem? (i := 117) (by decide +kernel))
theorem tw_3_118 : (Jvm.Cond.methodLink "CueBook" (219 : Nat) ({ cls := "CueBook", name := "clashes", desc := "()I" } : Jvm.MethodName)) ∈ lw_tbl := in_t3 _ (List.mem_of_getElem? (i := 118) (by decide +kernel))
theorem tw_3_119 : (Jvm.Cond.methodLink "CueBookLaw" (84 : Nat) ({ cls := "CueBookLaw", name := "addPuppet", desc := "(LCueBook;II[J)I" } : Jvm.MethodName)) ∈ lw_tbl := in_t3 _ (List.mem_of_getElem? (i := 119) (by decide +kernel))
theorem tw_3_120 : (Jvm.Cond.static ({ cls := "CueBookLaw", name := "addPuppet", desc := "(LCueBook;II[J)I" } : Jvm.MethodName)) ∈ lw_tbl := in_t3 _ (List.mem_of_getElem? (i := 120) (by decide +kernel))
theorem tw_3_121 : (Jvm.Cond.codeWith ({ cls := "CueBookLaw", name := "addPuppet", desc := "(LCueBook;II[J)I" } : Jvm.MethodName) method_3_code (5 : Nat) (Option.some Jvm.ClassFile.FieldType.int) [((0 : Nat), (10 : Nat), (13 : Nat), (13 : Nat)), ((0 : Nat), (10 : Nat), (17 : Nat), (15 : Nat))]) ∈ lw_tbl := in_t3 _ (List.mem_of_getElem? (i := 121) (by decide +kernel))
theorem tw_3_122 : (Jvm.Cond.classLink "CueBookLaw" (13 : Nat) "java/lang/IllegalArgumentException") ∈ lw_tbl := in_t3 _ (List.mem_of_getElem? (i := 122) (by decide +kernel))
theorem tw_3_123 : (Jvm.Cond.classLink "CueBookLaw" (15 : Nat) "java/lang/IllegalStateException") ∈ lw_tbl := in_t3 _ (List.mem_of_getElem? (i := 123) (by decide +kernel))
theorem tw_3_124 : (Jvm.Cond.methodLink "CueBookLaw" (7 : Nat) ({ cls := "CueBook", name := "addPuppet", desc := "(II)I" } : Jvm.MethodName)) ∈ lw_tbl := in_t3 _ (List.mem_of_getElem? (i := 124) (by decide +kernel))
theorem tw_3_125 : (Jvm.Cond.instanceMethod ({ cls := "CueBook", name := "addPuppet", desc := "(II)I" } : Jvm.MethodName)) ∈ lw_tbl := in_t3 _ (List.mem_of_getElem? (i := 125) (by decide +kernel))
theorem tw_3_126 : (Jvm.Cond.selects "CueBook" ({ cls := "CueBook", name := "addPuppet", desc := "(II)I" } : Jvm.MethodName) ({ cls := "CueBook", name := "addPuppet", desc := "(II)I" } : Jvm.MethodName)) ∈ lw_tbl := in_t3 _ (List.mem_of_getElem? (i := 126) (by decide +kernel))
theorem tw_3_127 : (Jvm.Cond.code ({ cls := "CueBook", name := "addPuppet", desc := "(II)I" } : Jvm.MethodName) prog_1_method_2_code (4 : Nat) (Option.some Jvm.ClassFile.FieldType.int)) ∈ lw_tbl := in_t3 _ (List.mem_of_getElem? (i := 127) (by decide +kernel))
theorem tw_3_128 : (Jvm.Cond.classLink "CueBook" (39 : Nat) "java/lang/IllegalArgumentException") ∈ lw_tbl := in_t3 _ (List.mem_of_getElem? (i := 128) (by decide +kernel))
theorem tw_3_129 : (Jvm.Cond.stringRef "CueBook" (41 : Nat) "the weight is not 1 to 9") ∈ lw_tbl := in_t3 _ (List.mem_of_getElem? (i := 129) (by decide +kernel))
theorem tw_3_130 : (Jvm.Cond.methodLink "CueBook" (43 : Nat) ({ cls := "java/lang/IllegalArgumentException", name := "<init>", desc := "(Ljava/lang/String;)V" } : Jvm.MethodName)) ∈ lw_tbl := in_t3 _ (List.mem_of_getElem? (i := 130) (by decide +kernel))
theorem tw_3_131 : (Jvm.Cond.stringRef "CueBook" (46 : Nat) "the hands are not 1 or 2") ∈ lw_tbl := in_t3 _ (List.mem_of_getElem? (i := 131) (by decide +kernel))
theorem tw_3_132 : (Jvm.Cond.classLink "CueBook" (52 : Nat) "java/lang/IllegalStateException") ∈ lw_tbl := in_t3 _ (List.mem_of_getElem? (i := 132) (by decide +kernel))
theorem tw_3_133 : (Jvm.Cond.instantiable "java/lang/IllegalStateException" (6 : Nat)) ∈ lw_tbl := in_t3 _ (List.mem_of_getElem? (i := 133) (by decide +kernel))
theorem tw_3_134 : (Jvm.Cond.castable "java/lang/IllegalStateException" "java/lang/IllegalStateException") ∈ lw_tbl := in_t3 _ (List.mem_of_getElem? (i := 134) (by decide +kernel))
theorem tw_3_135 : (Jvm.Cond.selects "java/lang/IllegalStateException" ({ cls := "java/lang/Throwable", name := "fillInStackTrace", desc := "(I)Ljava/lang/Throwable;" } : Jvm.MethodName) ({ cls := "java/lang/Throwable", name := "fillInStackTrace", desc := "(I)Ljava/lang/Throwable;" } : Jvm.MethodName)) ∈ lw_tbl := in_t3 _ (List.mem_of_getElem? (i := 135) (by decide +kernel))
theorem tw_3_136 : (Jvm.Cond.lays "java/lang/IllegalStateException" "java/lang/Throwable" "cause" "Ljava/lang/Throwable;") ∈ lw_tbl := in_t3 _ (List.mem_of_getElem? (i := 136) (by decide +kernel))
theorem tw_3_137 : (Jvm.Cond.lays "java/lang/IllegalStateException" "java/lang/Throwable" "stackTrace" "[Ljava/lang/StackTraceElement;") ∈ lw_tbl := in_t3 _ (List.mem_of_getElem? (i := 137) (by decide +kernel))
theorem tw_3_138 : (Jvm.Cond.lays "java/lang/IllegalStateException" "java/lang/Throwable" "suppressedExceptions" "Ljava/util/List;") ∈ lw_tbl := in_t3 _ (List.mem_of_getElem? (i := 138) (by decide +kernel))
theorem tw_3_139 : (Jvm.Cond.lays "java/lang/IllegalStateException" "java/lang/Throwable" "detailMessage" "Ljava/lang/String;") ∈ lw_tbl := in_t3 _ (List.mem_of_getElem? (i := 139) (by decide +kernel))
theorem tw_3_140 : (Jvm.Cond.lays "java/lang/IllegalStateException" "java/lang/Throwable" "backtrace" "Ljava/lang/Object;") ∈ lw_tbl := in_t3 _ (List.mem_of_getElem? (i := 140) (by decide +kernel))
theorem tw_3_141 : (Jvm.Cond.stringRef "CueBook" (54 : Nat) "there are 8 puppets") ∈ lw_tbl := in_t3 _ (List.mem_of_getElem? (i := 141) (by decide +kernel))
theorem tw_3_142 : (Jvm.Cond.methodLink "CueBook" (56 : Nat) ({ cls := "java/lang/IllegalStateException", name := "<init>", desc := "(Ljava/lang/String;)V" } : Jvm.MethodName)) ∈ lw_tbl := in_t3 _ (List.mem_of_getElem? (i := 142) (by decide +kernel))
theorem tw_3_143 : (Jvm.Cond.instanceMethod ({ cls := "java/lang/IllegalStateException", name := "<init>", desc := "(Ljava/lang/String;)V" } : Jvm.MethodName)) ∈ lw_tbl := in_t3 _ (List.mem_of_getElem? (i := 143) (by decide +kernel))
theorem tw_3_144 : (Jvm.Cond.code ({ cls := "java/lang/IllegalStateException", name := "<init>", desc := "(Ljava/lang/String;)V" } : Jvm.MethodName) prog_17_method_2_code (2 : Nat) (Option.none : Option Jvm.ClassFile.FieldType)) ∈ lw_tbl := in_t3 _ (List.mem_of_getElem? (i := 144) (by decide +kernel))
theorem tw_3_145 : (Jvm.Cond.methodLink "java/lang/IllegalStateException" (7 : Nat) ({ cls := "java/lang/RuntimeException", name := "<init>", desc := "(Ljava/lang/String;)V" } : Jvm.MethodName)) ∈ lw_tbl := in_t3 _ (List.mem_of_getElem? (i := 145) (by decide +kernel))
theorem tw_3_146 : (Jvm.Cond.lays "java/lang/IllegalStateException" "java/lang/Throwable" "depth" "I") ∈ lw_tbl := in_t3 _ (List.mem_of_getElem? (i := 146) (by decide +kernel))
theorem tw_3_147 : (Jvm.Cond.superclass "java/lang/IllegalStateException" "java/lang/RuntimeException") ∈ lw_tbl := in_t3 _ (List.mem_of_getElem? (i := 147) (by decide +kernel))
theorem tw_3_148 : (Jvm.Cond.instantiable "CueBook$Puppet" (8 : Nat)) ∈ lw_tbl := in_t3 _ (List.mem_of_getElem? (i := 148) (by decide +kernel))
theorem tw_3_149 : (Jvm.Cond.methodLink "CueBook" (59 : Nat) ({ cls := "CueBook$Puppet", name := "<init>", desc := "(III)V" } : Jvm.MethodName)) ∈ lw_tbl := in_t3 _ (List.mem_of_getElem? (i := 149) (by decide +kernel))
theorem tw_3_150 : (Jvm.Cond.instanceMethod ({ cls := "CueBook$Puppet", name := "<init>", desc := "(III)V" } : Jvm.MethodName)) ∈ lw_tbl := in_t3 _ (List.mem_of_getElem? (i := 150) (by decide +kernel))
theorem tw_3_151 : (Jvm.Cond.code ({ cls := "CueBook$Puppet", name := "<init>", desc := "(III)V" } : Jvm.MethodName) prog_5_method_1_code (4 : Nat) (Option.none : Option Jvm.ClassFile.FieldType)) ∈ lw_tbl := in_t3 _ (List.mem_of_getElem? (i := 151) (by decide +kernel))
theorem tw_3_152 : (Jvm.Cond.methodLink "CueBook$Puppet" (3 : Nat) ({ cls := "java/lang/Object", name := "<init>", desc := "()V" } : Jvm.MethodName)) ∈ lw_tbl := in_t3 _ (List.mem_of_getElem? (i := 152) (by decide +kernel))
theorem tw_3_153 : (Jvm.Cond.classLink "CueBook$Puppet" (9 : Nat) "java/util/ArrayList") ∈ lw_tbl := in_t3 _ (List.mem_of_getElem? (i := 153) (by decide +kernel))
theorem tw_3_154 : (Jvm.Cond.methodLink "CueBook$Puppet" (11 : Nat) ({ cls := "java/util/ArrayList", name := "<init>", desc := "()V" } : Jvm.MethodName)) ∈ lw_tbl := in_t3 _ (List.mem_of_getElem? (i := 154) (by decide +kernel))
theorem tw_3_155 : (Jvm.Cond.methodLink "CueBook$Puppet" (41 : Nat) ({ cls := "java/util/Arrays", name := "fill", desc := "([II)V" } : Jvm.MethodName)) ∈ lw_tbl := in_t3 _ (List.mem_of_getElem? (i := 155) (by decide +kernel))
theorem tw_3_156 : (Jvm.Cond.fieldLink "CueBook$Puppet" (28 : Nat) "CueBook$Puppet" "number" "I") ∈ lw_tbl := in_t3 _ (List.mem_of_getElem? (i := 156) (by decide +kernel))
theorem tw_3_157 : (Jvm.Cond.fieldLink "CueBook" (246 : Nat) "CueBook$Puppet" "number" "I") ∈ lw_tbl := in_t3 _ (List.mem_of_getElem? (i := 157) (by decide +kernel))
theorem tw_3_158 : (Jvm.Cond.fieldLink "CueBook$Puppet" (32 : Nat) "CueBook$Puppet" "bit" "I") ∈ lw_tbl := in_t3 _ (List.mem_of_getElem? (i := 158) (by decide +kernel))
theorem tw_3_159 : (Jvm.Cond.fieldLink "CueBook$Player" (22 : Nat) "CueBook$Puppet" "bit" "I") ∈ lw_tbl := in_t3 _ (List.mem_of_getElem? (i := 159) (by decide +kernel))
theorem tw_3_160 : (Jvm.Cond.fieldLink "CueBook" (141 : Nat) "CueBook$Puppet" "bit" "I") ∈ lw_tbl := in_t3 _ (List.mem_of_getElem? (i := 160) (by decide +kernel))
theorem tw_3_161 : (Jvm.Cond.fieldLink "CueBook$Puppet" (35 : Nat) "CueBook$Puppet" "weight" "I") ∈ lw_tbl := in_t3 _ (List.mem_of_getElem? (i := 161) (by decide +kernel))
theorem tw_3_162 : (Jvm.Cond.fieldLink "CueBook" (318 : Nat) "CueBook$Puppet" "weight" "I") ∈ lw_tbl := in_t3 _ (List.mem_of_getElem? (i := 162) (by decide +kernel))
theorem tw_3_163 : (Jvm.Cond.fieldLink "CueBook$Puppet" (38 : Nat) "CueBook$Puppet" "handsNeeded" "I") ∈ lw_tbl := in_t3 _ (List.mem_of_getElem? (i := 163) (by decide +kernel))
theorem tw_3_164 : (Jvm.Cond.fieldLink "CueBook" (324 : Nat) "CueBook$Puppet" "handsNeeded" "I") ∈ lw_tbl := in_t3 _ (List.mem_of_getElem? (i := 164) (by decide +kernel))
theorem tw_3_165 : (Jvm.Cond.fieldLink "CueBook$Puppet" (12 : Nat) "CueBook$Puppet" "script" "Ljava/util/ArrayList;") ∈ lw_tbl := in_t3 _ (List.mem_of_getElem? (i := 165) (by decide +kernel))
theorem tw_3_166 : (Jvm.Cond.fieldLink "CueBook" (118 : Nat) "CueBook$Puppet" "script" "Ljava/util/ArrayList;") ∈ lw_tbl := in_t3 _ (List.mem_of_getElem? (i := 166) (by decide +kernel))
theorem tw_3_167 : (Jvm.Cond.fieldLink "CueBook$Puppet" (18 : Nat) "CueBook$Puppet" "stayList" "Ljava/util/ArrayList;") ∈ lw_tbl := in_t3 _ (List.mem_of_getElem? (i := 167) (by decide +kernel))
theorem tw_3_168 : (Jvm.Cond.fieldLink "CueBook" (153 : Nat) "CueBook$Puppet" "stayList" "Ljava/util/ArrayList;") ∈ lw_tbl := in_t3 _ (List.mem_of_getElem? (i := 168) (by decide +kernel))
theorem tw_3_169 : (Jvm.Cond.fieldLink "CueBook$Puppet" (21 : Nat) "CueBook$Puppet" "placeAt" "[I") ∈ lw_tbl := in_t3 _ (List.mem_of_getElem? (i := 169) (by decide +kernel))
theorem tw_3_170 : (Jvm.Cond.fieldLink "CueBook" (130 : Nat) "CueBook$Puppet" "placeAt" "[I") ∈ lw_tbl := in_t3 _ (List.mem_of_getElem? (i := 170) (by decide +kernel))
theorem tw_3_171 : (Jvm.Cond.fieldLink "CueBook$Puppet" (25 : Nat) "CueBook$Puppet" "trackAt" "[I") ∈ lw_tbl := in_t3 _ (List.mem_of_getElem? (i := 171) (by decide +kernel))
theorem tw_3_172 : (Jvm.Cond.fieldLink "CueBook" (134 : Nat) "CueBook$Puppet" "trackAt" "[I") ∈ lw_tbl := in_t3 _ (List.mem_of_getElem? (i := 172) (by decide +kernel))
theorem tw_3_173 : (Jvm.Cond.laysFinal "CueBook$Puppet" "CueBook$Puppet" "number" "I") ∈ lw_tbl := in_t3 _ (List.mem_of_getElem? (i := 173) (by decide +kernel))
theorem tw_3_174 : (Jvm.Cond.soleField "CueBook$Puppet" "number") ∈ lw_tbl := in_t3 _ (List.mem_of_getElem? (i := 174) (by decide +kernel))
theorem tw_3_175 : (Jvm.Cond.laysFinal "CueBook$Puppet" "CueBook$Puppet" "bit" "I") ∈ lw_tbl := in_t3 _ (List.mem_of_getElem? (i := 175) (by decide +kernel))
theorem tw_3_176 : (Jvm.Cond.soleField "CueBook$Puppet" "bit") ∈ lw_tbl := in_t3 _ (List.mem_of_getElem? (i := 176) (by decide +kernel))
theorem tw_3_177 : (Jvm.Cond.laysFinal "CueBook$Puppet" "CueBook$Puppet" "weight" "I") ∈ lw_tbl := in_t3 _ (List.mem_of_getElem? (i := 177) (by decide +kernel))
theorem tw_3_178 : (Jvm.Cond.soleField "CueBook$Puppet" "weight") ∈ lw_tbl := in_t3 _ (List.mem_of_getElem? (i := 178) (by decide +kernel))
theorem tw_3_179 : (Jvm.Cond.laysFinal "CueBook$Puppet" "CueBook$Puppet" "handsNeeded" "I") ∈ lw_tbl := in_t3 _ (List.mem_of_getElem? (i := 179) (by decide +kernel))
theorem tw_3_180 : (Jvm.Cond.soleField "CueBook$Puppet" "handsNeeded") ∈ lw_tbl := in_t3 _ (List.mem_of_getElem? (i := 180) (by decide +kernel))
theorem tw_3_181 : (Jvm.Cond.laysFinal "CueBook$Puppet" "CueBook$Puppet" "script" "Ljava/util/ArrayList;") ∈ lw_tbl := in_t3 _ (List.mem_of_getElem? (i := 181) (by decide +kernel))
theorem tw_3_182 : (Jvm.Cond.soleField "CueBook$Puppet" "script") ∈ lw_tbl := in_t3 _ (List.mem_of_getElem? (i := 182) (by decide +kernel))
theorem tw_3_183 : (Jvm.Cond.laysFinal "CueBook$Puppet" "CueBook$Puppet" "stayList" "Ljava/util/ArrayList;") ∈ lw_tbl := in_t3 _ (List.mem_of_getElem? (i := 183) (by decide +kernel))
theorem tw_3_184 : (Jvm.Cond.soleField "CueBook$Puppet" "stayList") ∈ lw_tbl := in_t3 _ (List.mem_of_getElem? (i := 184) (by decide +kernel))
theorem tw_3_185 : (Jvm.Cond.laysFinal "CueBook$Puppet" "CueBook$Puppet" "placeAt" "[I") ∈ lw_tbl := in_t3 _ (List.mem_of_getElem? (i := 185) (by decide +kernel))
theorem tw_3_186 : (Jvm.Cond.soleField "CueBook$Puppet" "placeAt") ∈ lw_tbl := in_t3 _ (List.mem_of_getElem? (i := 186) (by decide +kernel))
theorem tw_3_187 : (Jvm.Cond.laysFinal "CueBook$Puppet" "CueBook$Puppet" "trackAt" "[I") ∈ lw_tbl := in_t3 _ (List.mem_of_getElem? (i := 187) (by decide +kernel))
theorem tw_3_188 : (Jvm.Cond.soleField "CueBook$Puppet" "trackAt") ∈ lw_tbl := in_t3 _ (List.mem_of_getElem? (i := 188) (by decide +kernel))
theorem tw_3_189 : (Jvm.Cond.superclass "CueBook$Puppet" "java/lang/Object") ∈ lw_tbl := in_t3 _ (List.mem_of_getElem? (i := 189) (by decide +kernel))
theorem tw_3_190 : (Jvm.Cond.arrayClass Jvm.ClassFile.FieldType.int) ∈ lw_tbl := in_t3 _ (List.mem_of_getElem? (i := 190) (by decide +kernel))
theorem tw_3_191 : (Jvm.Cond.methodLink "CueBook" (62 : Nat) ({ cls := "java/util/ArrayList", name := "add", desc := "(Ljava/lang/Object;)Z" } : Jvm.MethodName)) ∈ lw_tbl := in_t3 _ (List.mem_of_getElem? (i := 191) (by decide +kernel))
theorem tw_3_192 : (Jvm.Cond.instanceMethod ({ cls := "java/util/ArrayList", name := "add", desc := "(Ljava/lang/Object;)Z" } : Jvm.MethodName)) ∈ lw_tbl := in_t3 _ (List.mem_of_getElem? (i := 192) (by decide +kernel))
theorem tw_3_193 : (Jvm.Cond.selects "java/util/ArrayList" ({ cls := "java/util/ArrayList", name := "add", desc := "(Ljava/lang/Object;)Z" } : Jvm.MethodName) ({ cls := "java/util/ArrayList", name := "add", desc := "(Ljava/lang/Object;)Z" } : Jvm.MethodName)) ∈ lw_tbl := in_t3 _ (List.mem_of_getElem? (i := 193) (by decide +kernel))
theorem tw_3_194 : (Jvm.Cond.code ({ cls := "java/util/ArrayList", name := "add", desc := "(Ljava/lang/Object;)Z" } : Jvm.MethodName) prog_34_method_25_code (2 : Nat) (Option.some Jvm.ClassFile.FieldType.boolean)) ∈ lw_tbl := in_t3 _ (List.mem_of_getElem? (i := 194) (by decide +kernel))
theorem tw_3_195 : (Jvm.Cond.methodLink "java/util/ArrayList" (131 : Nat) ({ cls := "java/util/ArrayList", name := "add", desc := "(Ljava/lang/Object;[Ljava/lang/Object;I)V" } : Jvm.MethodName)) ∈ lw_tbl := in_t3 _ (List.mem_of_getElem? (i := 195) (by decide +kernel))
theorem tw_3_196 : (Jvm.Cond.privateMethod ({ cls := "java/util/ArrayList", name := "add", desc := "(Ljava/lang/Object;[Ljava/lang/Object;I)V" } : Jvm.MethodName)) ∈ lw_tbl := in_t3 _ (List.mem_of_getElem? (i := 196) (by decide +kernel))
theorem tw_3_197 : (Jvm.Cond.instanceMethod ({ cls := "java/util/ArrayList", name := "add", desc := "(Ljava/lang/Object;[Ljava/lang/Object;I)V" } : Jvm.MethodName)) ∈ lw_tbl := in_t3 _ (List.mem_of_getElem? (i := 197) (by decide +kernel))
theorem tw_3_198 : (Jvm.Cond.code ({ cls := "java/util/ArrayList", name := "add", desc := "(Ljava/lang/Object;[Ljava/lang/Object;I)V" } : Jvm.MethodName) prog_34_method_24_code (4 : Nat) (Option.none : Option Jvm.ClassFile.FieldType)) ∈ lw_tbl := in_t3 _ (List.mem_of_getElem? (i := 198) (by decide +kernel))
theorem tw_3_199 : (Jvm.Cond.methodLink "CueBookLaw" (94 : Nat) ({ cls := "CueBookLaw", name := "addPlayer", desc := "(LCueBook;II[J)I" } : Jvm.MethodName)) ∈ lw_tbl := in_t3 _ (List.mem_of_getElem? (i := 199) (by decide +kernel))
theorem tw_3_200 : (Jvm.Cond.static ({ cls := "CueBookLaw", name := "addPlayer", desc := "(LCueBook;II[J)I" } : Jvm.MethodName)) ∈ lw_tbl := in_t3 _ (List.mem_of_getElem? (i := 200) (by decide +kernel))
theorem tw_3_201 : (Jvm.Cond.codeWith ({ cls := "CueBookLaw", name := "addPlayer", desc := "(LCueBook;II[J)I" } : Jvm.MethodName) method_4_code (5 : Nat) (Option.some Jvm.ClassFile.FieldType.int) [((0 : Nat), (10 : Nat), (13 : Nat), (13 : Nat)), ((0 : Nat), (10 : Nat), (17 : Nat), (15 : Nat))]) ∈ lw_tbl := in_t3 _ (List.mem_of_getElem? (i := 201) (by decide +kernel))
theorem tw_3_202 : (Jvm.Cond.methodLink "CueBookLaw" (17 : Nat) ({ cls := "CueBook", name := "addPlayer", desc := "(II)I" } : Jvm.MethodName)) ∈ lw_tbl := in_t3 _ (List.mem_of_getElem? (i := 202) (by decide +kernel))
theorem tw_3_203 : (Jvm.Cond.instanceMethod ({ cls := "CueBook", name := "addPlayer", desc := "(II)I" } : Jvm.MethodName)) ∈ lw_tbl := in_t3 _ (List.mem_of_getElem? (i := 203) (by decide +kernel))
theorem tw_3_204 : (Jvm.Cond.selects "CueBook" ({ cls := "CueBook", name := "addPlayer", desc := "(II)I" } : Jvm.MethodName) ({ cls := "CueBook", name := "addPlayer", desc := "(II)I" } : Jvm.MethodName)) ∈ lw_tbl := in_t3 _ (List.mem_of_getElem? (i := 204) (by decide +kernel))
theorem tw_3_205 : (Jvm.Cond.code ({ cls := "CueBook", name := "addPlayer", desc := "(II)I" } : Jvm.MethodName) prog_1_method_3_code (4 : Nat) (Option.some Jvm.ClassFile.FieldType.int)) ∈ lw_tbl := in_t3 _ (List.mem_of_getElem? (i := 205) (by decide +kernel))
theorem tw_3_206 : (Jvm.Cond.stringRef "CueBook" (66 : Nat) "the strength is not 1 to 20") ∈ lw_tbl := in_t3 _ (List.mem_of_getElem? (i := 206) (by decide +kernel))
theorem tw_3_207 : (Jvm.Cond.methodLink "CueBook" (68 : Nat) ({ cls := "CueBook", name := "requirePlace", desc := "(I)V" } : Jvm.MethodName)) ∈ lw_tbl := in_t3 _ (List.mem_of_getElem? (i := 207) (by decide +kernel))
theorem tw_3_208 : (Jvm.Cond.static ({ cls := "CueBook", name := "requirePlace", desc := "(I)V" } : Jvm.MethodName)) ∈ lw_tbl := in_t3 _ (List.mem_of_getElem? (i := 208) (by decide +kernel))
theorem tw_3_209 : (Jvm.Cond.code ({ cls := "CueBook", name := "requirePlace", desc := "(I)V" } : Jvm.MethodName) prog_1_method_30_code (1 : Nat) (Option.none : Option Jvm.ClassFile.FieldType)) ∈ lw_tbl := in_t3 _ (List.mem_of_getElem? (i := 209) (by decide +kernel))
theorem tw_3_210 : (Jvm.Cond.stringRef "CueBook" (232 : Nat) "the place is not 0 to 19") ∈ lw_tbl := in_t3 _ (List.mem_of_getElem? (i := 210) (by decide +kernel))
theorem tw_3_211 : (Jvm.Cond.stringRef "CueBook" (72 : Nat) "there are 5 players") ∈ lw_tbl := in_t3 _ (List.mem_of_getElem? (i := 211) (by decide +kernel))
theorem tw_3_212 : (Jvm.Cond.instantiable "CueBook$Player" (3 : Nat)) ∈ lw_tbl := in_t3 _ (List.mem_of_getElem? (i := 212) (by decide +kernel))
theorem tw_3_213 : (Jvm.Cond.methodLink "CueBook" (76 : Nat) ({ cls := "CueBook$Player", name := "<init>", desc := "(II)V" } : Jvm.MethodName)) ∈ lw_tbl := in_t3 _ (List.mem_of_getElem? (i := 213) (by decide +kernel))
theorem tw_3_214 : (Jvm.Cond.instanceMethod ({ cls := "CueBook$Player", name := "<init>", desc := "(II)V" } : Jvm.MethodName)) ∈ lw_tbl := in_t3 _ (List.mem_of_getElem? (i := 214) (by decide +kernel))
theorem tw_3_215 : (Jvm.Cond.code ({ cls := "CueBook$Player", name := "<init>", desc := "(II)V" } : Jvm.MethodName) prog_4_method_1_code (3 : Nat) (Option.none : Option Jvm.ClassFile.FieldType)) ∈ lw_tbl := in_t3 _ (List.mem_of_getElem? (i := 215) (by decide +kernel))
theorem tw_3_216 : (Jvm.Cond.methodLink "CueBook$Player" (3 : Nat) ({ cls := "java/lang/Object", name := "<init>", desc := "()V" } : Jvm.MethodName)) ∈ lw_tbl := in_t3 _ (List.mem_of_getElem? (i := 216) (by decide +kernel))
theorem tw_3_217 : (Jvm.Cond.fieldLink "CueBook$Player" (15 : Nat) "CueBook$Player" "strength" "I") ∈ lw_tbl := in_t3 _ (List.mem_of_getElem? (i := 217) (by decide +kernel))
theorem tw_3_218 : (Jvm.Cond.fieldLink "CueBook" (321 : Nat) "CueBook$Player" "strength" "I") ∈ lw_tbl := in_t3 _ (List.mem_of_getElem? (i := 218) (by decide +kernel))
theorem tw_3_219 : (Jvm.Cond.fieldLink "CueBook$Player" (19 : Nat) "CueBook$Player" "placeAtFirst" "I") ∈ lw_tbl := in_t3 _ (List.mem_of_getElem? (i := 219) (by decide +kernel))
theorem tw_3_220 : (Jvm.Cond.fieldLink "CueBook" (311 : Nat) "CueBook$Player" "placeAtFirst" "I") ∈ lw_tbl := in_t3 _ (List.mem_of_getElem? (i := 220) (by decide +kernel))
theorem tw_3_221 : (Jvm.Cond.fieldLink "CueBook$Player" (9 : Nat) "CueBook$Player" "heldAt" "[I") ∈ lw_tbl := in_t3 _ (List.mem_of_getElem? (i := 221) (by decide +kernel))
theorem tw_3_222 : (Jvm.Cond.fieldLink "CueBook" (180 : Nat) "CueBook$Player" "heldAt" "[I") ∈ lw_tbl := in_t3 _ (List.mem_of_getElem? (i := 222) (by decide +kernel))
theorem tw_3_223 : (Jvm.Cond.laysFinal "CueBook$Player" "CueBook$Player" "strength" "I") ∈ lw_tbl := in_t3 _ (List.mem_of_getElem? (i := 223) (by decide +kernel))
theorem tw_3_224 : (Jvm.Cond.soleField "CueBook$Player" "strength") ∈ lw_tbl := in_t3 _ (List.mem_of_getElem? (i := 224) (by decide +kernel))
theorem tw_3_225 : (Jvm.Cond.laysFinal "CueBook$Player" "CueBook$Player" "placeAtFirst" "I") ∈ lw_tbl := in_t3 _ (List.mem_of_getElem? (i := 225) (by decide +kernel))
theorem tw_3_226 : (Jvm.Cond.soleField "CueBook$Player" "placeAtFirst") ∈ lw_tbl := in_t3 _ (List.mem_of_getElem? (i := 226) (by decide +kernel))
theorem tw_3_227 : (Jvm.Cond.laysFinal "CueBook$Player" "CueBook$Player" "heldAt" "[I") ∈ lw_tbl := in_t3 _ (List.mem_of_getElem? (i := 227) (by decide +kernel))
theorem tw_3_228 : (Jvm.Cond.soleField "CueBook$Player" "heldAt") ∈ lw_tbl := in_t3 _ (List.mem_of_getElem? (i := 228) (by decide +kernel))
theorem tw_3_229 : (Jvm.Cond.superclass "CueBook$Player" "java/lang/Object") ∈ lw_tbl := in_t3 _ (List.mem_of_getElem? (i := 229) (by decide +kernel))
theorem tw_3_230 : (Jvm.Cond.methodLink "CueBookLaw" (97 : Nat) ({ cls := "CueBookLaw", name := "enter", desc := "(LCueBook;IIII[J)I" } : Jvm.MethodName)) ∈ lw_tbl := in_t3 _ (List.mem_of_getElem? (i := 230) (by decide +kernel))
theorem tw_3_231 : (Jvm.Cond.static ({ cls := "CueBookLaw", name := "enter", desc := "(LCueBook;IIII[J)I" } : Jvm.MethodName)) ∈ lw_tbl := in_t3 _ (List.mem_of_getElem? (i := 231) (by decide +kernel))
theorem tw_3_232 : (Jvm.Cond.codeWith ({ cls := "CueBookLaw", name := "enter", desc := "(LCueBook;IIII[J)I" } : Jvm.MethodName) method_5_code (7 : Nat) (Option.some Jvm.ClassFile.FieldType.int) [((0 : Nat), (14 : Nat), (17 : Nat), (24 : Nat)), ((0 : Nat), (14 : Nat), (21 : Nat), (13 : Nat)), ((0 : Nat), (14 : Nat), (25 : Nat), (15 : Nat))]) ∈ lw_tbl := in_t3 _ (List.mem_of_getElem? (i := 232) (by decide +kernel))
theorem tw_3_233 : (Jvm.Cond.classLink "CueBookLaw" (24 : Nat) "java/lang/IndexOutOfBoundsException") ∈ lw_tbl := in_t3 _ (List.mem_of_getElem? (i := 233) (by decide +kernel))
theorem tw_3_234 : (Jvm.Cond.methodLink "CueBookLaw" (20 : Nat) ({ cls := "CueBook", name := "enter", desc := "(IIII)I" } : Jvm.MethodName)) ∈ lw_tbl := in_t3 _ (List.mem_of_getElem? (i := 234) (by decide +kernel))
theorem tw_3_235 : (Jvm.Cond.instanceMethod ({ cls := "CueBook", name := "enter", desc := "(IIII)I" } : Jvm.MethodName)) ∈ lw_tbl := in_t3 _ (List.mem_of_getElem? (i := 235) (by decide +kernel))
theorem tw_3_236 : (Jvm.Cond.selects "CueBook" ({ cls := "CueBook", name := "enter", desc := "(IIII)I" } : Jvm.MethodName) ({ cls := "CueBook", name := "enter", desc := "(IIII)I" } : Jvm.MethodName)) ∈ lw_tbl := in_t3 _ (List.mem_of_getElem? (i := 236) (by decide +kernel))
theorem tw_3_237 : (Jvm.Cond.code ({ cls := "CueBook", name := "enter", desc := "(IIII)I" } : Jvm.MethodName) prog_1_method_4_code (6 : Nat) (Option.some Jvm.ClassFile.FieldType.int)) ∈ lw_tbl := in_t3 _ (List.mem_of_getElem? (i := 237) (by decide +kernel))
theorem tw_3_238 : (Jvm.Cond.methodLink "CueBook" (79 : Nat) ({ cls := "CueBook", name := "puppetNumbered", desc := "(I)LCueBook$Puppet;" } : Jvm.MethodName)) ∈ lw_tbl := in_t3 _ (List.mem_of_getElem? (i := 238) (by decide +kernel))
theorem tw_3_239 : (Jvm.Cond.privateMethod ({ cls := "CueBook", name := "puppetNumbered", desc := "(I)LCueBook$Puppet;" } : Jvm.MethodName)) ∈ lw_tbl := in_t3 _ (List.mem_of_getElem? (i := 239) (by decide +kernel))
theorem tw_4_0 : (Jvm.Cond.instanceMethod ({ cls := "CueBook", name := "puppetNumbered", desc := "(I)LCueBook$Puppet;" } : Jvm.MethodName)) ∈ lw_tbl := in_t4 _ (List.mem_of_getElem? (i := 0) (by decide +kernel))
theorem tw_4_1 : (Jvm.Cond.code ({ cls := "CueBook", name := "puppetNumbered", desc := "(I)LCueBook$Puppet;" } : Jvm.MethodName) prog_1_method_26_code (2 : Nat) (Option.some (Jvm.ClassFile.FieldType.object "CueBook$Puppet"))) ∈ lw_tbl := in_t4 _ (List.mem_of_getElem? (i := 1) (by decide +kernel))
theorem tw_4_2 : (Jvm.Cond.stringRef "CueBook" (222 : Nat) "no such puppet") ∈ lw_tbl := in_t4 _ (List.mem_of_getElem? (i := 2) (by decide +kernel))
theorem tw_4_3 : (Jvm.Cond.methodLink "CueBook" (83 : Nat) ({ cls := "CueBook", name := "requireBeat", desc := "(I)V" } : Jvm.MethodName)) ∈ lw_tbl := in_t4 _ (List.mem_of_getElem? (i := 3) (by decide +kernel))
theorem tw_4_4 : (Jvm.Cond.static ({ cls := "CueBook", name := "requireBeat", desc := "(I)V" } : Jvm.MethodName)) ∈ lw_tbl := in_t4 _ (List.mem_of_getElem? (i := 4) (by decide +kernel))
theorem tw_4_5 : (Jvm.Cond.code ({ cls := "CueBook", name := "requireBeat", desc := "(I)V" } : Jvm.MethodName) prog_1_method_29_code (1 : Nat) (Option.none : Option Jvm.ClassFile.FieldType)) ∈ lw_tbl := in_t4 _ (List.mem_of_getElem? (i := 5) (by decide +kernel))
theorem tw_4_6 : (Jvm.Cond.stringRef "CueBook" (230 : Nat) "the beat is not 0 to 999") ∈ lw_tbl := in_t4 _ (List.mem_of_getElem? (i := 6) (by decide +kernel))
theorem tw_4_7 : (Jvm.Cond.methodLink "CueBook" (86 : Nat) ({ cls := "CueBook", name := "requireTrack", desc := "(I)V" } : Jvm.MethodName)) ∈ lw_tbl := in_t4 _ (List.mem_of_getElem? (i := 7) (by decide +kernel))
theorem tw_4_8 : (Jvm.Cond.static ({ cls := "CueBook", name := "requireTrack", desc := "(I)V" } : Jvm.MethodName)) ∈ lw_tbl := in_t4 _ (List.mem_of_getElem? (i := 8) (by decide +kernel))
theorem tw_4_9 : (Jvm.Cond.code ({ cls := "CueBook", name := "requireTrack", desc := "(I)V" } : Jvm.MethodName) prog_1_method_31_code (1 : Nat) (Option.none : Option Jvm.ClassFile.FieldType)) ∈ lw_tbl := in_t4 _ (List.mem_of_getElem? (i := 9) (by decide +kernel))
theorem tw_4_10 : (Jvm.Cond.stringRef "CueBook" (234 : Nat) "the track is not 0 to 3") ∈ lw_tbl := in_t4 _ (List.mem_of_getElem? (i := 10) (by decide +kernel))
theorem tw_4_11 : (Jvm.Cond.instantiable "CueBook$Cue" (9 : Nat)) ∈ lw_tbl := in_t4 _ (List.mem_of_getElem? (i := 11) (by decide +kernel))
theorem tw_4_12 : (Jvm.Cond.methodLink "CueBook" (91 : Nat) ({ cls := "CueBook$Cue", name := "<init>", desc := "(ILCueBook$Puppet;III)V" } : Jvm.MethodName)) ∈ lw_tbl := in_t4 _ (List.mem_of_getElem? (i := 12) (by decide +kernel))
theorem tw_4_13 : (Jvm.Cond.instanceMethod ({ cls := "CueBook$Cue", name := "<init>", desc := "(ILCueBook$Puppet;III)V" } : Jvm.MethodName)) ∈ lw_tbl := in_t4 _ (List.mem_of_getElem? (i := 13) (by decide +kernel))
theorem tw_4_14 : (Jvm.Cond.code ({ cls := "CueBook$Cue", name := "<init>", desc := "(ILCueBook$Puppet;III)V" } : Jvm.MethodName) prog_2_method_1_code (6 : Nat) (Option.none : Option Jvm.ClassFile.FieldType)) ∈ lw_tbl := in_t4 _ (List.mem_of_getElem? (i := 14) (by decide +kernel))
theorem tw_4_15 : (Jvm.Cond.methodLink "CueBook$Cue" (1 : Nat) ({ cls := "java/lang/Object", name := "<init>", desc := "()V" } : Jvm.MethodName)) ∈ lw_tbl := in_t4 _ (List.mem_of_getElem? (i := 15) (by decide +kernel))
theorem tw_4_16 : (Jvm.Cond.fieldLink "CueBook$Cue" (23 : Nat) "CueBook$Cue" "kind" "I") ∈ lw_tbl := in_t4 _ (List.mem_of_getElem? (i := 16) (by decide +kernel))
theorem tw_4_17 : (Jvm.Cond.fieldLink "CueBook$Path" (34 : Nat) "CueBook$Cue" "kind" "I") ∈ lw_tbl := in_t4 _ (List.mem_of_getElem? (i := 17) (by decide +kernel))
theorem tw_4_18 : (Jvm.Cond.fieldLink "CueBook$Puppet" (102 : Nat) "CueBook$Cue" "kind" "I") ∈ lw_tbl := in_t4 _ (List.mem_of_getElem? (i := 18) (by decide +kernel))
theorem tw_4_19 : (Jvm.Cond.fieldLink "CueBook" (243 : Nat) "CueBook$Cue" "kind" "I") ∈ lw_tbl := in_t4 _ (List.mem_of_getElem? (i := 19) (by decide +kernel))
theorem tw_4_20 : (Jvm.Cond.fieldLink "CueBook$Cue" (26 : Nat) "CueBook$Cue" "puppet" "LCueBook$Puppet;") ∈ lw_tbl := in_t4 _ (List.mem_of_getElem? (i := 20) (by decide +kernel))
theorem tw_4_21 : (Jvm.Cond.fieldLink "CueBook" (102 : Nat) "CueBook$Cue" "puppet" "LCueBook$Puppet;") ∈ lw_tbl := in_t4 _ (List.mem_of_getElem? (i := 21) (by decide +kernel))
theorem tw_4_22 : (Jvm.Cond.fieldLink "CueBook$Cue" (30 : Nat) "CueBook$Cue" "beat" "I") ∈ lw_tbl := in_t4 _ (List.mem_of_getElem? (i := 22) (by decide +kernel))
theorem tw_4_23 : (Jvm.Cond.fieldLink "CueBook$Puppet" (57 : Nat) "CueBook$Cue" "beat" "I") ∈ lw_tbl := in_t4 _ (List.mem_of_getElem? (i := 23) (by decide +kernel))
theorem tw_4_24 : (Jvm.Cond.fieldLink "CueBook$Path" (39 : Nat) "CueBook$Cue" "beat" "I") ∈ lw_tbl := in_t4 _ (List.mem_of_getElem? (i := 24) (by decide +kernel))
theorem tw_4_25 : (Jvm.Cond.fieldLink "CueBook" (249 : Nat) "CueBook$Cue" "beat" "I") ∈ lw_tbl := in_t4 _ (List.mem_of_getElem? (i := 25) (by decide +kernel))
theorem tw_4_26 : (Jvm.Cond.fieldLink "CueBook$Cue" (33 : Nat) "CueBook$Cue" "place" "I") ∈ lw_tbl := in_t4 _ (List.mem_of_getElem? (i := 26) (by decide +kernel))
theorem tw_4_27 : (Jvm.Cond.fieldLink "CueBook$Path" (42 : Nat) "CueBook$Cue" "place" "I") ∈ lw_tbl := in_t4 _ (List.mem_of_getElem? (i := 27) (by decide +kernel))
theorem tw_4_28 : (Jvm.Cond.fieldLink "CueBook" (252 : Nat) "CueBook$Cue" "place" "I") ∈ lw_tbl := in_t4 _ (List.mem_of_getElem? (i := 28) (by decide +kernel))
theorem tw_4_29 : (Jvm.Cond.fieldLink "CueBook$Cue" (36 : Nat) "CueBook$Cue" "track" "I") ∈ lw_tbl := in_t4 _ (List.mem_of_getElem? (i := 29) (by decide +kernel))
theorem tw_4_30 : (Jvm.Cond.fieldLink "CueBook$Path" (49 : Nat) "CueBook$Cue" "track" "I") ∈ lw_tbl := in_t4 _ (List.mem_of_getElem? (i := 30) (by decide +kernel))
theorem tw_4_31 : (Jvm.Cond.fieldLink "CueBook" (255 : Nat) "CueBook$Cue" "track" "I") ∈ lw_tbl := in_t4 _ (List.mem_of_getElem? (i := 31) (by decide +kernel))
theorem tw_4_32 : (Jvm.Cond.fieldLink "CueBook$Cue" (7 : Nat) "CueBook$Cue" "isStruck" "Z") ∈ lw_tbl := in_t4 _ (List.mem_of_getElem? (i := 32) (by decide +kernel))
theorem tw_4_33 : (Jvm.Cond.fieldLink "CueBook" (112 : Nat) "CueBook$Cue" "isStruck" "Z") ∈ lw_tbl := in_t4 _ (List.mem_of_getElem? (i := 33) (by decide +kernel))
theorem tw_4_34 : (Jvm.Cond.fieldLink "CueBook$Cue" (13 : Nat) "CueBook$Cue" "notes" "I") ∈ lw_tbl := in_t4 _ (List.mem_of_getElem? (i := 34) (by decide +kernel))
theorem tw_4_35 : (Jvm.Cond.fieldLink "CueBook" (188 : Nat) "CueBook$Cue" "notes" "I") ∈ lw_tbl := in_t4 _ (List.mem_of_getElem? (i := 35) (by decide +kernel))
theorem tw_4_36 : (Jvm.Cond.fieldLink "CueBook$Cue" (17 : Nat) "CueBook$Cue" "sumLate" "I") ∈ lw_tbl := in_t4 _ (List.mem_of_getElem? (i := 36) (by decide +kernel))
theorem tw_4_37 : (Jvm.Cond.fieldLink "CueBook" (193 : Nat) "CueBook$Cue" "sumLate" "I") ∈ lw_tbl := in_t4 _ (List.mem_of_getElem? (i := 37) (by decide +kernel))
theorem tw_4_38 : (Jvm.Cond.fieldLink "CueBook$Cue" (20 : Nat) "CueBook$Cue" "sumOff" "I") ∈ lw_tbl := in_t4 _ (List.mem_of_getElem? (i := 38) (by decide +kernel))
theorem tw_4_39 : (Jvm.Cond.fieldLink "CueBook" (196 : Nat) "CueBook$Cue" "sumOff" "I") ∈ lw_tbl := in_t4 _ (List.mem_of_getElem? (i := 39) (by decide +kernel))
theorem tw_4_40 : (Jvm.Cond.laysFinal "CueBook$Cue" "CueBook$Cue" "kind" "I") ∈ lw_tbl := in_t4 _ (List.mem_of_getElem? (i := 40) (by decide +kernel))
theorem tw_4_41 : (Jvm.Cond.soleField "CueBook$Cue" "kind") ∈ lw_tbl := in_t4 _ (List.mem_of_getElem? (i := 41) (by decide +kernel))
theorem tw_4_42 : (Jvm.Cond.laysFinal "CueBook$Cue" "CueBook$Cue" "puppet" "LCueBook$Puppet;") ∈ lw_tbl := in_t4 _ (List.mem_of_getElem? (i := 42) (by decide +kernel))
theorem tw_4_43 : (Jvm.Cond.soleField "CueBook$Cue" "puppet") ∈ lw_tbl := in_t4 _ (List.mem_of_getElem? (i := 43) (by decide +kernel))
theorem tw_4_44 : (Jvm.Cond.laysFinal "CueBook$Cue" "CueBook$Cue" "beat" "I") ∈ lw_tbl := in_t4 _ (List.mem_of_getElem? (i := 44) (by decide +kernel))
theorem tw_4_45 : (Jvm.Cond.soleField "CueBook$Cue" "beat") ∈ lw_tbl := in_t4 _ (List.mem_of_getElem? (i := 45) (by decide +kernel))
theorem tw_4_46 : (Jvm.Cond.laysFinal "CueBook$Cue" "CueBook$Cue" "place" "I") ∈ lw_tbl := in_t4 _ (List.mem_of_getElem? (i := 46) (by decide +kernel))
theorem tw_4_47 : (Jvm.Cond.soleField "CueBook$Cue" "place") ∈ lw_tbl := in_t4 _ (List.mem_of_getElem? (i := 47) (by decide +kernel))
theorem tw_4_48 : (Jvm.Cond.laysFinal "CueBook$Cue" "CueBook$Cue" "track" "I") ∈ lw_tbl := in_t4 _ (List.mem_of_getElem? (i := 48) (by decide +kernel))
theorem tw_4_49 : (Jvm.Cond.soleField "CueBook$Cue" "track") ∈ lw_tbl := in_t4 _ (List.mem_of_getElem? (i := 49) (by decide +kernel))
theorem tw_4_50 : (Jvm.Cond.lays "CueBook$Cue" "CueBook$Cue" "isStruck" "Z") ∈ lw_tbl := in_t4 _ (List.mem_of_getElem? (i := 50) (by decide +kernel))
theorem tw_4_51 : (Jvm.Cond.soleField "CueBook$Cue" "isStruck") ∈ lw_tbl := in_t4 _ (List.mem_of_getElem? (i := 51) (by decide +kernel))
theorem tw_4_52 : (Jvm.Cond.lays "CueBook$Cue" "CueBook$Cue" "notes" "I") ∈ lw_tbl := in_t4 _ (List.mem_of_getElem? (i := 52) (by decide +kernel))
theorem tw_4_53 : (Jvm.Cond.soleField "CueBook$Cue" "notes") ∈ lw_tbl := in_t4 _ (List.mem_of_getElem? (i := 53) (by decide +kernel))
theorem tw_4_54 : (Jvm.Cond.lays "CueBook$Cue" "CueBook$Cue" "sumLate" "I") ∈ lw_tbl := in_t4 _ (List.mem_of_getElem? (i := 54) (by decide +kernel))
theorem tw_4_55 : (Jvm.Cond.soleField "CueBook$Cue" "sumLate") ∈ lw_tbl := in_t4 _ (List.mem_of_getElem? (i := 55) (by decide +kernel))
theorem tw_4_56 : (Jvm.Cond.lays "CueBook$Cue" "CueBook$Cue" "sumOff" "I") ∈ lw_tbl := in_t4 _ (List.mem_of_getElem? (i := 56) (by decide +kernel))
theorem tw_4_57 : (Jvm.Cond.soleField "CueBook$Cue" "sumOff") ∈ lw_tbl := in_t4 _ (List.mem_of_getElem? (i := 57) (by decide +kernel))
theorem tw_4_58 : (Jvm.Cond.superclass "CueBook$Cue" "java/lang/Object") ∈ lw_tbl := in_t4 _ (List.mem_of_getElem? (i := 58) (by decide +kernel))
theorem tw_4_59 : (Jvm.Cond.methodLink "CueBook" (94 : Nat) ({ cls := "CueBook", name := "write", desc := "(LCueBook$Cue;)I" } : Jvm.MethodName)) ∈ lw_tbl := in_t4 _ (List.mem_of_getElem? (i := 59) (by decide +kernel))
theorem tw_4_60 : (Jvm.Cond.privateMethod ({ cls := "CueBook", name := "write", desc := "(LCueBook$Cue;)I" } : Jvm.MethodName)) ∈ lw_tbl := in_t4 _ (List.mem_of_getElem? (i := 60) (by decide +kernel))
theorem tw_4_61 : (Jvm.Cond.instanceMethod ({ cls := "CueBook", name := "write", desc := "(LCueBook$Cue;)I" } : Jvm.MethodName)) ∈ lw_tbl := in_t4 _ (List.mem_of_getElem? (i := 61) (by decide +kernel))
theorem tw_4_62 : (Jvm.Cond.code ({ cls := "CueBook", name := "write", desc := "(LCueBook$Cue;)I" } : Jvm.MethodName) prog_1_method_32_code (3 : Nat) (Option.some Jvm.ClassFile.FieldType.int)) ∈ lw_tbl := in_t4 _ (List.mem_of_getElem? (i := 62) (by decide +kernel))
theorem tw_4_63 : (Jvm.Cond.stringRef "CueBook" (236 : Nat) "there are 40 cues") ∈ lw_tbl := in_t4 _ (List.mem_of_getElem? (i := 63) (by decide +kernel))
theorem tw_4_64 : (Jvm.Cond.methodLink "CueBook" (238 : Nat) ({ cls := "CueBook$Puppet", name := "takesIn", desc := "(LCueBook$Cue;)Z" } : Jvm.MethodName)) ∈ lw_tbl := in_t4 _ (List.mem_of_getElem? (i := 64) (by decide +kernel))
theorem tw_4_65 : (Jvm.Cond.instanceMethod ({ cls := "CueBook$Puppet", name := "takesIn", desc := "(LCueBook$Cue;)Z" } : Jvm.MethodName)) ∈ lw_tbl := in_t4 _ (List.mem_of_getElem? (i := 65) (by decide +kernel))
theorem tw_4_66 : (Jvm.Cond.selects "CueBook$Puppet" ({ cls := "CueBook$Puppet", name := "takesIn", desc := "(LCueBook$Cue;)Z" } : Jvm.MethodName) ({ cls := "CueBook$Puppet", name := "takesIn", desc := "(LCueBook$Cue;)Z" } : Jvm.MethodName)) ∈ lw_tbl := in_t4 _ (List.mem_of_getElem? (i := 66) (by decide +kernel))
theorem tw_4_67 : (Jvm.Cond.code ({ cls := "CueBook$Puppet", name := "takesIn", desc := "(LCueBook$Cue;)Z" } : Jvm.MethodName) prog_5_method_2_code (3 : Nat) (Option.some Jvm.ClassFile.FieldType.boolean)) ∈ lw_tbl := in_t4 _ (List.mem_of_getElem? (i := 67) (by decide +kernel))
theorem tw_4_68 : (Jvm.Cond.methodLink "CueBook$Puppet" (47 : Nat) ({ cls := "java/util/ArrayList", name := "size", desc := "()I" } : Jvm.MethodName)) ∈ lw_tbl := in_t4 _ (List.mem_of_getElem? (i := 68) (by decide +kernel))
theorem tw_4_69 : (Jvm.Cond.methodLink "CueBook$Puppet" (51 : Nat) ({ cls := "java/util/ArrayList", name := "get", desc := "(I)Ljava/lang/Object;" } : Jvm.MethodName)) ∈ lw_tbl := in_t4 _ (List.mem_of_getElem? (i := 69) (by decide +kernel))
theorem tw_4_70 : (Jvm.Cond.classLink "CueBook$Puppet" (55 : Nat) "CueBook$Cue") ∈ lw_tbl := in_t4 _ (List.mem_of_getElem? (i := 70) (by decide +kernel))
theorem tw_4_71 : (Jvm.Cond.methodLink "CueBook$Puppet" (60 : Nat) ({ cls := "java/util/ArrayList", name := "add", desc := "(ILjava/lang/Object;)V" } : Jvm.MethodName)) ∈ lw_tbl := in_t4 _ (List.mem_of_getElem? (i := 71) (by decide +kernel))
theorem tw_4_72 : (Jvm.Cond.methodLink "CueBook$Puppet" (64 : Nat) ({ cls := "CueBook$Puppet", name := "isScriptRight", desc := "()Z" } : Jvm.MethodName)) ∈ lw_tbl := in_t4 _ (List.mem_of_getElem? (i := 72) (by decide +kernel))
theorem tw_4_73 : (Jvm.Cond.privateMethod ({ cls := "CueBook$Puppet", name := "isScriptRight", desc := "()Z" } : Jvm.MethodName)) ∈ lw_tbl := in_t4 _ (List.mem_of_getElem? (i := 73) (by decide +kernel))
theorem tw_4_74 : (Jvm.Cond.instanceMethod ({ cls := "CueBook$Puppet", name := "isScriptRight", desc := "()Z" } : Jvm.MethodName)) ∈ lw_tbl := in_t4 _ (List.mem_of_getElem? (i := 74) (by decide +kernel))
theorem tw_4_75 : (Jvm.Cond.code ({ cls := "CueBook$Puppet", name := "isScriptRight", desc := "()Z" } : Jvm.MethodName) prog_5_method_4_code (4 : Nat) (Option.some Jvm.ClassFile.FieldType.boolean)) ∈ lw_tbl := in_t4 _ (List.mem_of_getElem? (i := 75) (by decide +kernel))
theorem tw_4_76 : (Jvm.Cond.classLink "CueBook$Puppet" (74 : Nat) "CueBook$Path") ∈ lw_tbl := in_t4 _ (List.mem_of_getElem? (i := 76) (by decide +kernel))
theorem tw_4_77 : (Jvm.Cond.instantiable "CueBook$Path" (7 : Nat)) ∈ lw_tbl := in_t4 _ (List.mem_of_getElem? (i := 77) (by decide +kernel))
theorem tw_4_78 : (Jvm.Cond.methodLinkNest "CueBook$Puppet" (76 : Nat) ({ cls := "CueBook$Path", name := "<init>", desc := "()V" } : Jvm.MethodName) "CueBook") ∈ lw_tbl := in_t4 _ (List.mem_of_getElem? (i := 78) (by decide +kernel))
theorem tw_4_79 : (Jvm.Cond.instanceMethod ({ cls := "CueBook$Path", name := "<init>", desc := "()V" } : Jvm.MethodName)) ∈ lw_tbl := in_t4 _ (List.mem_of_getElem? (i := 79) (by decide +kernel))
theorem tw_4_80 : (Jvm.Cond.code ({ cls := "CueBook$Path", name := "<init>", desc := "()V" } : Jvm.MethodName) prog_3_method_1_code (1 : Nat) (Option.none : Option Jvm.ClassFile.FieldType)) ∈ lw_tbl := in_t4 _ (List.mem_of_getElem? (i := 80) (by decide +kernel))
theorem tw_4_81 : (Jvm.Cond.methodLink "CueBook$Path" (3 : Nat) ({ cls := "java/lang/Object", name := "<init>", desc := "()V" } : Jvm.MethodName)) ∈ lw_tbl := in_t4 _ (List.mem_of_getElem? (i := 81) (by decide +kernel))
theorem tw_4_82 : (Jvm.Cond.fieldLink "CueBook$Path" (9 : Nat) "CueBook$Path" "isOnStage" "Z") ∈ lw_tbl := in_t4 _ (List.mem_of_getElem? (i := 82) (by decide +kernel))
theorem tw_4_83 : (Jvm.Cond.fieldLink "CueBook$Path" (15 : Nat) "CueBook$Path" "enteredAt" "I") ∈ lw_tbl := in_t4 _ (List.mem_of_getElem? (i := 83) (by decide +kernel))
theorem tw_4_84 : (Jvm.Cond.fieldLink "CueBook$Path" (19 : Nat) "CueBook$Path" "track" "I") ∈ lw_tbl := in_t4 _ (List.mem_of_getElem? (i := 84) (by decide +kernel))
theorem tw_4_85 : (Jvm.Cond.fieldLink "CueBook$Path" (22 : Nat) "CueBook$Path" "fromPlace" "I") ∈ lw_tbl := in_t4 _ (List.mem_of_getElem? (i := 85) (by decide +kernel))
theorem tw_4_86 : (Jvm.Cond.fieldLink "CueBook$Path" (25 : Nat) "CueBook$Path" "toPlace" "I") ∈ lw_tbl := in_t4 _ (List.mem_of_getElem? (i := 86) (by decide +kernel))
theorem tw_4_87 : (Jvm.Cond.fieldLink "CueBook$Path" (28 : Nat) "CueBook$Path" "fromBeat" "I") ∈ lw_tbl := in_t4 _ (List.mem_of_getElem? (i := 87) (by decide +kernel))
theorem tw_4_88 : (Jvm.Cond.fieldLink "CueBook$Path" (31 : Nat) "CueBook$Path" "toBeat" "I") ∈ lw_tbl := in_t4 _ (List.mem_of_getElem? (i := 88) (by decide +kernel))
theorem tw_4_89 : (Jvm.Cond.lays "CueBook$Path" "CueBook$Path" "isOnStage" "Z") ∈ lw_tbl := in_t4 _ (List.mem_of_getElem? (i := 89) (by decide +kernel))
theorem tw_4_90 : (Jvm.Cond.soleField "CueBook$Path" "isOnStage") ∈ lw_tbl := in_t4 _ (List.mem_of_getElem? (i := 90) (by decide +kernel))
theorem tw_4_91 : (Jvm.Cond.lays "CueBook$Path" "CueBook$Path" "enteredAt" "I") ∈ lw_tbl := in_t4 _ (List.mem_of_getElem? (i := 91) (by decide +kernel))
theorem tw_4_92 : (Jvm.Cond.soleField "CueBook$Path" "enteredAt") ∈ lw_tbl := in_t4 _ (List.mem_of_getElem? (i := 92) (by decide +kernel))
theorem tw_4_93 : (Jvm.Cond.lays "CueBook$Path" "CueBook$Path" "track" "I") ∈ lw_tbl := in_t4 _ (List.mem_of_getElem? (i := 93) (by decide +kernel))
theorem tw_4_94 : (Jvm.Cond.soleField "CueBook$Path" "track") ∈ lw_tbl := in_t4 _ (List.mem_of_getElem? (i := 94) (by decide +kernel))
theorem tw_4_95 : (Jvm.Cond.lays "CueBook$Path" "CueBook$Path" "fromPlace" "I") ∈ lw_tbl := in_t4 _ (List.mem_of_getElem? (i := 95) (by decide +kernel))
theorem tw_4_96 : (Jvm.Cond.soleField "CueBook$Path" "fromPlace") ∈ lw_tbl := in_t4 _ (List.mem_of_getElem? (i := 96) (by decide +kernel))
theorem tw_4_97 : (Jvm.Cond.lays "CueBook$Path" "CueBook$Path" "toPlace" "I") ∈ lw_tbl := in_t4 _ (List.mem_of_getElem? (i := 97) (by decide +kernel))
theorem tw_4_98 : (Jvm.Cond.soleField "CueBook$Path" "toPlace") ∈ lw_tbl := in_t4 _ (List.mem_of_getElem? (i := 98) (by decide +kernel))
theorem tw_4_99 : (Jvm.Cond.lays "CueBook$Path" "CueBook$Path" "fromBeat" "I") ∈ lw_tbl := in_t4 _ (List.mem_of_getElem? (i := 99) (by decide +kernel))
theorem tw_4_100 : (Jvm.Cond.soleField "CueBook$Path" "fromBeat") ∈ lw_tbl := in_t4 _ (List.mem_of_getElem? (i := 100) (by decide +kernel))
theorem tw_4_101 : (Jvm.Cond.lays "CueBook$Path" "CueBook$Path" "toBeat" "I") ∈ lw_tbl := in_t4 _ (List.mem_of_getElem? (i := 101) (by decide +kernel))
theorem tw_4_102 : (Jvm.Cond.soleField "CueBook$Path" "toBeat") ∈ lw_tbl := in_t4 _ (List.mem_of_getElem? (i := 102) (by decide +kernel))
theorem tw_4_103 : (Jvm.Cond.superclass "CueBook$Path" "java/lang/Object") ∈ lw_tbl := in_t4 _ (List.mem_of_getElem? (i := 103) (by decide +kernel))
theorem tw_4_104 : (Jvm.Cond.methodLink "CueBook$Puppet" (77 : Nat) ({ cls := "CueBook$Path", name := "allows", desc := "(LCueBook$Cue;)Z" } : Jvm.MethodName)) ∈ lw_tbl := in_t4 _ (List.mem_of_getElem? (i := 104) (by decide +kernel))
theorem tw_4_105 : (Jvm.Cond.instanceMethod ({ cls := "CueBook$Path", name := "allows", desc := "(LCueBook$Cue;)Z" } : Jvm.MethodName)) ∈ lw_tbl := in_t4 _ (List.mem_of_getElem? (i := 105) (by decide +kernel))
theorem tw_4_106 : (Jvm.Cond.selects "CueBook$Path" ({ cls := "CueBook$Path", name := "allows", desc := "(LCueBook$Cue;)Z" } : Jvm.MethodName) ({ cls := "CueBook$Path", name := "allows", desc := "(LCueBook$Cue;)Z" } : Jvm.MethodName)) ∈ lw_tbl := in_t4 _ (List.mem_of_getElem? (i := 106) (by decide +kernel))
theorem tw_4_107 : (Jvm.Cond.code ({ cls := "CueBook$Path", name := "allows", desc := "(LCueBook$Cue;)Z" } : Jvm.MethodName) prog_3_method_2_code (2 : Nat) (Option.some Jvm.ClassFile.FieldType.boolean)) ∈ lw_tbl := in_t4 _ (List.mem_of_getElem? (i := 107) (by decide +kernel))
theorem tw_4_108 : (Jvm.Cond.methodLinkNest "CueBook$Path" (45 : Nat) ({ cls := "CueBook", name := "distance", desc := "(II)I" } : Jvm.MethodName) "CueBook") ∈ lw_tbl := in_t4 _ (List.mem_of_getElem? (i := 108) (by decide +kernel))
theorem tw_4_109 : (Jvm.Cond.methodLink "CueBook$Puppet" (81 : Nat) ({ cls := "CueBook$Path", name := "follow", desc := "(LCueBook$Cue;)V" } : Jvm.MethodName)) ∈ lw_tbl := in_t4 _ (List.mem_of_getElem? (i := 109) (by decide +kernel))
theorem tw_4_110 : (Jvm.Cond.instanceMethod ({ cls := "CueBook$Path", name := "follow", desc := "(LCueBook$Cue;)V" } : Jvm.MethodName)) ∈ lw_tbl := in_t4 _ (List.mem_of_getElem? (i := 110) (by decide +kernel))
theorem tw_4_111 : (Jvm.Cond.selects "CueBook$Path" ({ cls := "CueBook$Path", name := "follow", desc := "(LCueBook$Cue;)V" } : Jvm.MethodName) ({ cls := "CueBook$Path", name := "follow", desc := "(LCueBook$Cue;)V" } : Jvm.MethodName)) ∈ lw_tbl := in_t4 _ (List.mem_of_getElem? (i := 111) (by decide +kernel))
theorem tw_4_112 : (Jvm.Cond.code ({ cls := "CueBook$Path", name := "follow", desc := "(LCueBook$Cue;)V" } : Jvm.MethodName) prog_3_method_3_code (2 : Nat) (Option.none : Option Jvm.ClassFile.FieldType)) ∈ lw_tbl := in_t4 _ (List.mem_of_getElem? (i := 112) (by decide +kernel))
theorem tw_4_113 : (Jvm.Cond.methodLink "CueBook$Path" (50 : Nat) ({ cls := "CueBook$Path", name := "walk", desc := "(III)V" } : Jvm.MethodName)) ∈ lw_tbl := in_t4 _ (List.mem_of_getElem? (i := 113) (by decide +kernel))
theorem tw_4_114 : (Jvm.Cond.privateMethod ({ cls := "CueBook$Path", name := "walk", desc := "(III)V" } : Jvm.MethodName)) ∈ lw_tbl := in_t4 _ (List.mem_of_getElem? (i := 114) (by decide +kernel))
theorem tw_4_115 : (Jvm.Cond.instanceMethod ({ cls := "CueBook$Path", name := "walk", desc := "(III)V" } : Jvm.MethodName)) ∈ lw_tbl := in_t4 _ (List.mem_of_getElem? (i := 115) (by decide +kernel))
theorem tw_4_116 : (Jvm.Cond.code ({ cls := "CueBook$Path", name := "walk", desc := "(III)V" } : Jvm.MethodName) prog_3_method_4_code (4 : Nat) (Option.none : Option Jvm.ClassFile.FieldType)) ∈ lw_tbl := in_t4 _ (List.mem_of_getElem? (i := 116) (by decide +kernel))
theorem tw_4_117 : (Jvm.Cond.methodLink "CueBook$Puppet" (68 : Nat) ({ cls := "java/util/ArrayList", name := "remove", desc := "(I)Ljava/lang/Object;" } : Jvm.MethodName)) ∈ lw_tbl := in_t4 _ (List.mem_of_getElem? (i := 117) (by decide +kernel))
theorem tw_4_118 : (Jvm.Cond.instanceMethod ({ cls := "java/util/ArrayList", name := "remove", desc := "(I)Ljava/lang/Object;" } : Jvm.MethodName)) ∈ lw_tbl := in_t4 _ (List.mem_of_getElem? (i := 118) (by decide +kernel))
theorem tw_4_119 : (Jvm.Cond.selects "java/util/ArrayList" ({ cls := "java/util/ArrayList", name := "remove", desc := "(I)Ljava/lang/Object;" } : Jvm.MethodName) ({ cls := "java/util/ArrayList", name := "remove", desc := "(I)Ljava/lang/Object;" } : Jvm.MethodName)) ∈ lw_tbl := in_t4 _ (List.mem_of_getElem? (i := 119) (by decide +kernel))
theorem tw_4_120 : (Jvm.Cond.code ({ cls := "java/util/ArrayList", name := "remove", desc := "(I)Ljava/lang/Object;" } : Jvm.MethodName) prog_34_method_29_code (4 : Nat) (Option.some (Jvm.ClassFile.FieldType.object "java/lang/Object"))) ∈ lw_tbl := in_t4 _ (List.mem_of_getElem? (i := 120) (by decide +kernel))
theorem tw_4_121 : (Jvm.Cond.methodLink "java/util/ArrayList" (144 : Nat) ({ cls := "java/util/ArrayList", name := "fastRemove", desc := "([Ljava/lang/Object;I)V" } : Jvm.MethodName)) ∈ lw_tbl := in_t4 _ (List.mem_of_getElem? (i := 121) (by decide +kernel))
theorem tw_4_122 : (Jvm.Cond.privateMethod ({ cls := "java/util/ArrayList", name := "fastRemove", desc := "([Ljava/lang/Object;I)V" } : Jvm.MethodName)) ∈ lw_tbl := in_t4 _ (List.mem_of_getElem? (i := 122) (by decide +kernel))
theorem tw_4_123 : (Jvm.Cond.instanceMethod ({ cls := "java/util/ArrayList", name := "fastRemove", desc := "([Ljava/lang/Object;I)V" } : Jvm.MethodName)) ∈ lw_tbl := in_t4 _ (List.mem_of_getElem? (i := 123) (by decide +kernel))
theorem tw_4_124 : (Jvm.Cond.code ({ cls := "java/util/ArrayList", name := "fastRemove", desc := "([Ljava/lang/Object;I)V" } : Jvm.MethodName) prog_34_method_39_code (4 : Nat) (Option.none : Option Jvm.ClassFile.FieldType)) ∈ lw_tbl := in_t4 _ (List.mem_of_getElem? (i := 124) (by decide +kernel))
theorem tw_4_125 : (Jvm.Cond.methodLink "CueBook$Puppet" (71 : Nat) ({ cls := "CueBook$Puppet", name := "playScript", desc := "()V" } : Jvm.MethodName)) ∈ lw_tbl := in_t4 _ (List.mem_of_getElem? (i := 125) (by decide +kernel))
theorem tw_4_126 : (Jvm.Cond.privateMethod ({ cls := "CueBook$Puppet", name := "playScript", desc := "()V" } : Jvm.MethodName)) ∈ lw_tbl := in_t4 _ (List.mem_of_getElem? (i := 126) (by decide +kernel))
theorem tw_4_127 : (Jvm.Cond.instanceMethod ({ cls := "CueBook$Puppet", name := "playScript", desc := "()V" } : Jvm.MethodName)) ∈ lw_tbl := in_t4 _ (List.mem_of_getElem? (i := 127) (by decide +kernel))
theorem tw_4_128 : (Jvm.Cond.code ({ cls := "CueBook$Puppet", name := "playScript", desc := "()V" } : Jvm.MethodName) prog_5_method_5_code (5 : Nat) (Option.none : Option Jvm.ClassFile.FieldType)) ∈ lw_tbl := in_t4 _ (List.mem_of_getElem? (i := 128) (by decide +kernel))
theorem tw_4_129 : (Jvm.Cond.methodLink "CueBook$Puppet" (85 : Nat) ({ cls := "java/util/ArrayList", name := "clear", desc := "()V" } : Jvm.MethodName)) ∈ lw_tbl := in_t4 _ (List.mem_of_getElem? (i := 129) (by decide +kernel))
theorem tw_4_130 : (Jvm.Cond.methodLink "CueBook$Puppet" (88 : Nat) ({ cls := "CueBook$Puppet", name := "playBeats", desc := "(LCueBook$Path;II)V" } : Jvm.MethodName)) ∈ lw_tbl := in_t4 _ (List.mem_of_getElem? (i := 130) (by decide +kernel))
theorem tw_4_131 : (Jvm.Cond.privateMethod ({ cls := "CueBook$Puppet", name := "playBeats", desc := "(LCueBook$Path;II)V" } : Jvm.MethodName)) ∈ lw_tbl := in_t4 _ (List.mem_of_getElem? (i := 131) (by decide +kernel))
theorem tw_4_132 : (Jvm.Cond.instanceMethod ({ cls := "CueBook$Puppet", name := "playBeats", desc := "(LCueBook$Path;II)V" } : Jvm.MethodName)) ∈ lw_tbl := in_t4 _ (List.mem_of_getElem? (i := 132) (by decide +kernel))
theorem tw_4_133 : (Jvm.Cond.code ({ cls := "CueBook$Puppet", name := "playBeats", desc := "(LCueBook$Path;II)V" } : Jvm.MethodName) prog_5_method_6_code (5 : Nat) (Option.none : Option Jvm.ClassFile.FieldType)) ∈ lw_tbl := in_t4 _ (List.mem_of_getElem? (i := 133) (by decide +kernel))
theorem tw_4_134 : (Jvm.Cond.methodLink "CueBook$Puppet" (95 : Nat) ({ cls := "CueBook$Path", name := "placeAtBeat", desc := "(I)I" } : Jvm.MethodName)) ∈ lw_tbl := in_t4 _ (List.mem_of_getElem? (i := 134) (by decide +kernel))
theorem tw_4_135 : (Jvm.Cond.instanceMethod ({ cls := "CueBook$Path", name := "placeAtBeat", desc := "(I)I" } : Jvm.MethodName)) ∈ lw_tbl := in_t4 _ (List.mem_of_getElem? (i := 135) (by decide +kernel))
theorem tw_4_136 : (Jvm.Cond.selects "CueBook$Path" ({ cls := "CueBook$Path", name := "placeAtBeat", desc := "(I)I" } : Jvm.MethodName) ({ cls := "CueBook$Path", name := "placeAtBeat", desc := "(I)I" } : Jvm.MethodName)) ∈ lw_tbl := in_t4 _ (List.mem_of_getElem? (i := 136) (by decide +kernel))
theorem tw_4_137 : (Jvm.Cond.code ({ cls := "CueBook$Path", name := "placeAtBeat", desc := "(I)I" } : Jvm.MethodName) prog_3_method_5_code (3 : Nat) (Option.some Jvm.ClassFile.FieldType.int)) ∈ lw_tbl := in_t4 _ (List.mem_of_getElem? (i := 137) (by decide +kernel))
theorem tw_4_138 : (Jvm.Cond.methodLink "CueBook$Puppet" (99 : Nat) ({ cls := "CueBook$Path", name := "trackNow", desc := "()I" } : Jvm.MethodName)) ∈ lw_tbl := in_t4 _ (List.mem_of_getElem? (i := 138) (by decide +kernel))
theorem tw_4_139 : (Jvm.Cond.instanceMethod ({ cls := "CueBook$Path", name := "trackNow", desc := "()I" } : Jvm.MethodName)) ∈ lw_tbl := in_t4 _ (List.mem_of_getElem? (i := 139) (by decide +kernel))
theorem tw_4_140 : (Jvm.Cond.selects "CueBook$Path" ({ cls := "CueBook$Path", name := "trackNow", desc := "()I" } : Jvm.MethodName) ({ cls := "CueBook$Path", name := "trackNow", desc := "()I" } : Jvm.MethodName)) ∈ lw_tbl := in_t4 _ (List.mem_of_getElem? (i := 140) (by decide +kernel))
theorem tw_4_141 : (Jvm.Cond.code ({ cls := "CueBook$Path", name := "trackNow", desc := "()I" } : Jvm.MethodName) prog_3_method_6_code (1 : Nat) (Option.some Jvm.ClassFile.FieldType.int)) ∈ lw_tbl := in_t4 _ (List.mem_of_getElem? (i := 141) (by decide +kernel))
theorem tw_4_142 : (Jvm.Cond.methodLink "CueBook$Puppet" (92 : Nat) ({ cls := "CueBook$Puppet", name := "recordStay", desc := "(LCueBook$Cue;)V" } : Jvm.MethodName)) ∈ lw_tbl := in_t4 _ (List.mem_of_getElem? (i := 142) (by decide +kernel))
theorem tw_4_143 : (Jvm.Cond.privateMethod ({ cls := "CueBook$Puppet", name := "recordStay", desc := "(LCueBook$Cue;)V" } : Jvm.MethodName)) ∈ lw_tbl := in_t4 _ (List.mem_of_getElem? (i := 143) (by decide +kernel))
theorem tw_4_144 : (Jvm.Cond.instanceMethod ({ cls := "CueBook$Puppet", name := "recordStay", desc := "(LCueBook$Cue;)V" } : Jvm.MethodName)) ∈ lw_tbl := in_t4 _ (List.mem_of_getElem? (i := 144) (by decide +kernel))
theorem tw_4_145 : (Jvm.Cond.code ({ cls := "CueBook$Puppet", name := "recordStay", desc := "(LCueBook$Cue;)V" } : Jvm.MethodName) prog_5_method_7_code (2 : Nat) (Option.none : Option Jvm.ClassFile.FieldType)) ∈ lw_tbl := in_t4 _ (List.mem_of_getElem? (i := 145) (by decide +kernel))
theorem tw_4_146 : (Jvm.Cond.classLink "CueBook$Puppet" (105 : Nat) "CueBook$Stay") ∈ lw_tbl := in_t4 _ (List.mem_of_getElem? (i := 146) (by decide +kernel))
theorem tw_4_147 : (Jvm.Cond.instantiable "CueBook$Stay" (4 : Nat)) ∈ lw_tbl := in_t4 _ (List.mem_of_getElem? (i := 147) (by decide +kernel))
theorem tw_4_148 : (Jvm.Cond.methodLink "CueBook$Puppet" (107 : Nat) ({ cls := "CueBook$Stay", name := "<init>", desc := "(LCueBook$Puppet;I)V" } : Jvm.MethodName)) ∈ lw_tbl := in_t4 _ (List.mem_of_getElem? (i := 148) (by decide +kernel))
theorem tw_4_149 : (Jvm.Cond.instanceMethod ({ cls := "CueBook$Stay", name := "<init>", desc := "(LCueBook$Puppet;I)V" } : Jvm.MethodName)) ∈ lw_tbl := in_t4 _ (List.mem_of_getElem? (i := 149) (by decide +kernel))
theorem tw_4_150 : (Jvm.Cond.code ({ cls := "CueBook$Stay", name := "<init>", desc := "(LCueBook$Puppet;I)V" } : Jvm.MethodName) prog_6_method_1_code (3 : Nat) (Option.none : Option Jvm.ClassFile.FieldType)) ∈ lw_tbl := in_t4 _ (List.mem_of_getElem? (i := 150) (by decide +kernel))
theorem tw_4_151 : (Jvm.Cond.methodLink "CueBook$Stay" (3 : Nat) ({ cls := "java/lang/Object", name := "<init>", desc := "()V" } : Jvm.MethodName)) ∈ lw_tbl := in_t4 _ (List.mem_of_getElem? (i := 151) (by decide +kernel))
theorem tw_4_152 : (Jvm.Cond.fieldLink "CueBook$Stay" (18 : Nat) "CueBook$Stay" "puppet" "LCueBook$Puppet;") ∈ lw_tbl := in_t4 _ (List.mem_of_getElem? (i := 152) (by decide +kernel))
theorem tw_4_153 : (Jvm.Cond.fieldLink "CueBook$Player" (41 : Nat) "CueBook$Stay" "puppet" "LCueBook$Puppet;") ∈ lw_tbl := in_t4 _ (List.mem_of_getElem? (i := 153) (by decide +kernel))
theorem tw_4_154 : (Jvm.Cond.fieldLink "CueBook" (298 : Nat) "CueBook$Stay" "puppet" "LCueBook$Puppet;") ∈ lw_tbl := in_t4 _ (List.mem_of_getElem? (i := 154) (by decide +kernel))
theorem tw_4_155 : (Jvm.Cond.fieldLink "CueBook$Stay" (22 : Nat) "CueBook$Stay" "begin" "I") ∈ lw_tbl := in_t4 _ (List.mem_of_getElem? (i := 155) (by decide +kernel))
theorem tw_4_156 : (Jvm.Cond.fieldLink "CueBook$Player" (33 : Nat) "CueBook$Stay" "begin" "I") ∈ lw_tbl := in_t4 _ (List.mem_of_getElem? (i := 156) (by decide +kernel))
theorem tw_4_157 : (Jvm.Cond.fieldLink "CueBook" (161 : Nat) "CueBook$Stay" "begin" "I") ∈ lw_tbl := in_t4 _ (List.mem_of_getElem? (i := 157) (by decide +kernel))
theorem tw_4_158 : (Jvm.Cond.fieldLink "CueBook$Stay" (9 : Nat) "CueBook$Stay" "end" "I") ∈ lw_tbl := in_t4 _ (List.mem_of_getElem? (i := 158) (by decide +kernel))
theorem tw_4_159 : (Jvm.Cond.fieldLink "CueBook$Player" (38 : Nat) "CueBook$Stay" "end" "I") ∈ lw_tbl := in_t4 _ (List.mem_of_getElem? (i := 159) (by decide +kernel))
theorem tw_4_160 : (Jvm.Cond.fieldLink "CueBook$Puppet" (116 : Nat) "CueBook$Stay" "end" "I") ∈ lw_tbl := in_t4 _ (List.mem_of_getElem? (i := 160) (by decide +kernel))
theorem tw_4_161 : (Jvm.Cond.fieldLink "CueBook" (158 : Nat) "CueBook$Stay" "end" "I") ∈ lw_tbl := in_t4 _ (List.mem_of_getElem? (i := 161) (by decide +kernel))
theorem tw_4_162 : (Jvm.Cond.fieldLink "CueBook$Stay" (15 : Nat) "CueBook$Stay" "player" "I") ∈ lw_tbl := in_t4 _ (List.mem_of_getElem? (i := 162) (by decide +kernel))
theorem tw_4_163 : (Jvm.Cond.fieldLink "CueBook" (173 : Nat) "CueBook$Stay" "player" "I") ∈ lw_tbl := in_t4 _ (List.mem_of_getElem? (i := 163) (by decide +kernel))
theorem tw_4_164 : (Jvm.Cond.laysFinal "CueBook$Stay" "CueBook$Stay" "puppet" "LCueBook$Puppet;") ∈ lw_tbl := in_t4 _ (List.mem_of_getElem? (i := 164) (by decide +kernel))
theorem tw_4_165 : (Jvm.Cond.soleField "CueBook$Stay" "puppet") ∈ lw_tbl := in_t4 _ (List.mem_of_getElem? (i := 165) (by decide +kernel))
theorem tw_4_166 : (Jvm.Cond.laysFinal "CueBook$Stay" "CueBook$Stay" "begin" "I") ∈ lw_tbl := in_t4 _ (List.mem_of_getElem? (i := 166) (by decide +kernel))
theorem tw_4_167 : (Jvm.Cond.soleField "CueBook$Stay" "begin") ∈ lw_tbl := in_t4 _ (List.mem_of_getElem? (i := 167) (by decide +kernel))
theorem tw_4_168 : (Jvm.Cond.lays "CueBook$Stay" "CueBook$Stay" "end" "I") ∈ lw_tbl := in_t4 _ (List.mem_of_getElem? (i := 168) (by decide +kernel))
theorem tw_4_169 : (Jvm.Cond.soleField "CueBook$Stay" "end") ∈ lw_tbl := in_t4 _ (List.mem_of_getElem? (i := 169) (by decide +kernel))
theorem tw_4_170 : (Jvm.Cond.lays "CueBook$Stay" "CueBook$Stay" "player" "I") ∈ lw_tbl := in_t4 _ (List.mem_of_getElem? (i := 170) (by decide +kernel))
theorem tw_4_171 : (Jvm.Cond.soleField "CueBook$Stay" "player") ∈ lw_tbl := in_t4 _ (List.mem_of_getElem? (i := 171) (by decide +kernel))
theorem tw_4_172 : (Jvm.Cond.superclass "CueBook$Stay" "java/lang/Object") ∈ lw_tbl := in_t4 _ (List.mem_of_getElem? (i := 172) (by decide +kernel))
theorem tw_4_173 : (Jvm.Cond.methodLink "CueBook$Puppet" (110 : Nat) ({ cls := "java/util/ArrayList", name := "add", desc := "(Ljava/lang/Object;)Z" } : Jvm.MethodName)) ∈ lw_tbl := in_t4 _ (List.mem_of_getElem? (i := 173) (by decide +kernel))
theorem tw_4_174 : (Jvm.Cond.methodLink "CueBook$Puppet" (113 : Nat) ({ cls := "java/util/ArrayList", name := "isEmpty", desc := "()Z" } : Jvm.MethodName)) ∈ lw_tbl := in_t4 _ (List.mem_of_getElem? (i := 174) (by decide +kernel))
theorem tw_4_175 : (Jvm.Cond.instanceMethod ({ cls := "java/util/ArrayList", name := "isEmpty", desc := "()Z" } : Jvm.MethodName)) ∈ lw_tbl := in_t4 _ (List.mem_of_getElem? (i := 175) (by decide +kernel))
theorem tw_4_176 : (Jvm.Cond.selects "java/util/ArrayList" ({ cls := "java/util/ArrayList", name := "isEmpty", desc := "()Z" } : Jvm.MethodName) ({ cls := "java/util/ArrayList", name := "isEmpty", desc := "()Z" } : Jvm.MethodName)) ∈ lw_tbl := in_t4 _ (List.mem_of_getElem? (i := 176) (by decide +kernel))
theorem tw_4_177 : (Jvm.Cond.code ({ cls := "java/util/ArrayList", name := "isEmpty", desc := "()Z" } : Jvm.MethodName) prog_34_method_9_code (1 : Nat) (Option.some Jvm.ClassFile.FieldType.boolean)) ∈ lw_tbl := in_t4 _ (List.mem_of_getElem? (i := 177) (by decide +kernel))
theorem tw_4_178 : (Jvm.Cond.stringRef "CueBook" (241 : Nat) "it, or a cue behind it, would not be right") ∈ lw_tbl := in_t4 _ (List.mem_of_getElem? (i := 178) (by decide +kernel))
theorem tw_4_179 : (Jvm.Cond.methodLink "CueBook" (115 : Nat) ({ cls := "CueBook", name := "forgetWhatWasFound", desc := "()V" } : Jvm.MethodName)) ∈ lw_tbl := in_t4 _ (List.mem_of_getElem? (i := 179) (by decide +kernel))
theorem tw_4_180 : (Jvm.Cond.privateMethod ({ cls := "CueBook", name := "forgetWhatWasFound", desc := "()V" } : Jvm.MethodName)) ∈ lw_tbl := in_t4 _ (List.mem_of_getElem? (i := 180) (by decide +kernel))
theorem tw_4_181 : (Jvm.Cond.instanceMethod ({ cls := "CueBook", name := "forgetWhatWasFound", desc := "()V" } : Jvm.MethodName)) ∈ lw_tbl := in_t4 _ (List.mem_of_getElem? (i := 181) (by decide +kernel))
theorem tw_4_182 : (Jvm.Cond.code ({ cls := "CueBook", name := "forgetWhatWasFound", desc := "()V" } : Jvm.MethodName) prog_1_method_33_code (1 : Nat) (Option.none : Option Jvm.ClassFile.FieldType)) ∈ lw_tbl := in_t4 _ (List.mem_of_getElem? (i := 182) (by decide +kernel))
theorem tw_4_183 : (Jvm.Cond.methodLink "CueBookLaw" (101 : Nat) ({ cls := "CueBookLaw", name := "move", desc := "(LCueBook;III[J)I" } : Jvm.MethodName)) ∈ lw_tbl := in_t4 _ (List.mem_of_getElem? (i := 183) (by decide +kernel))
theorem tw_4_184 : (Jvm.Cond.static ({ cls := "CueBookLaw", name := "move", desc := "(LCueBook;III[J)I" } : Jvm.MethodName)) ∈ lw_tbl := in_t4 _ (List.mem_of_getElem? (i := 184) (by decide +kernel))
theorem tw_4_185 : (Jvm.Cond.codeWith ({ cls := "CueBookLaw", name := "move", desc := "(LCueBook;III[J)I" } : Jvm.MethodName) method_6_code (6 : Nat) (Option.some Jvm.ClassFile.FieldType.int) [((0 : Nat), (12 : Nat), (15 : Nat), (24 : Nat)), ((0 : Nat), (12 : Nat), (19 : Nat), (13 : Nat)), ((0 : Nat), (12 : Nat), (23 : Nat), (15 : Nat))]) ∈ lw_tbl := in_t4 _ (List.mem_of_getElem? (i := 185) (by decide +kernel))
theorem tw_4_186 : (Jvm.Cond.methodLink "CueBookLaw" (26 : Nat) ({ cls := "CueBook", name := "move", desc := "(III)I" } : Jvm.MethodName)) ∈ lw_tbl := in_t4 _ (List.mem_of_getElem? (i := 186) (by decide +kernel))
theorem tw_4_187 : (Jvm.Cond.instanceMethod ({ cls := "CueBook", name := "move", desc := "(III)I" } : Jvm.MethodName)) ∈ lw_tbl := in_t4 _ (List.mem_of_getElem? (i := 187) (by decide +kernel))
theorem tw_4_188 : (Jvm.Cond.selects "CueBook" ({ cls := "CueBook", name := "move", desc := "(III)I" } : Jvm.MethodName) ({ cls := "CueBook", name := "move", desc := "(III)I" } : Jvm.MethodName)) ∈ lw_tbl := in_t4 _ (List.mem_of_getElem? (i := 188) (by decide +kernel))
theorem tw_4_189 : (Jvm.Cond.code ({ cls := "CueBook", name := "move", desc := "(III)I" } : Jvm.MethodName) prog_1_method_5_code (5 : Nat) (Option.some Jvm.ClassFile.FieldType.int)) ∈ lw_tbl := in_t4 _ (List.mem_of_getElem? (i := 189) (by decide +kernel))
theorem tw_4_190 : (Jvm.Cond.methodLink "CueBookLaw" (105 : Nat) ({ cls := "CueBookLaw", name := "shift", desc := "(LCueBook;III[J)I" } : Jvm.MethodName)) ∈ lw_tbl := in_t4 _ (List.mem_of_getElem? (i := 190) (by decide +kernel))
theorem tw_4_191 : (Jvm.Cond.static ({ cls := "CueBookLaw", name := "shift", desc := "(LCueBook;III[J)I" } : Jvm.MethodName)) ∈ lw_tbl := in_t4 _ (List.mem_of_getElem? (i := 191) (by decide +kernel))
theorem tw_4_192 : (Jvm.Cond.codeWith ({ cls := "CueBookLaw", name := "shift", desc := "(LCueBook;III[J)I" } : Jvm.MethodName) method_7_code (6 : Nat) (Option.some Jvm.ClassFile.FieldType.int) [((0 : Nat), (12 : Nat), (15 : Nat), (24 : Nat)), ((0 : Nat), (12 : Nat), (19 : Nat), (13 : Nat)), ((0 : Nat), (12 : Nat), (23 : Nat), (15 : Nat))]) ∈ lw_tbl := in_t4 _ (List.mem_of_getElem? (i := 192) (by decide +kernel))
theorem tw_4_193 : (Jvm.Cond.methodLink "CueBookLaw" (30 : Nat) ({ cls := "CueBook", name := "shift", desc := "(III)I" } : Jvm.MethodName)) ∈ lw_tbl := in_t4 _ (List.mem_of_getElem? (i := 193) (by decide +kernel))
theorem tw_4_194 : (Jvm.Cond.instanceMethod ({ cls := "CueBook", name := "shift", desc := "(III)I" } : Jvm.MethodName)) ∈ lw_tbl := in_t4 _ (List.mem_of_getElem? (i := 194) (by decide +kernel))
theorem tw_4_195 : (Jvm.Cond.selects "CueBook" ({ cls := "CueBook", name := "shift", desc := "(III)I" } : Jvm.MethodName) ({ cls := "CueBook", name := "shift", desc := "(III)I" } : Jvm.MethodName)) ∈ lw_tbl := in_t4 _ (List.mem_of_getElem? (i := 195) (by decide +kernel))
theorem tw_4_196 : (Jvm.Cond.code ({ cls := "CueBook", name := "shift", desc := "(III)I" } : Jvm.MethodName) prog_1_method_6_code (5 : Nat) (Option.some Jvm.ClassFile.FieldType.int)) ∈ lw_tbl := in_t4 _ (List.mem_of_getElem? (i := 196) (by decide +kernel))
theorem tw_4_197 : (Jvm.Cond.methodLink "CueBookLaw" (108 : Nat) ({ cls := "CueBookLaw", name := "leave", desc := "(LCueBook;II[J)I" } : Jvm.MethodName)) ∈ lw_tbl := in_t4 _ (List.mem_of_getElem? (i := 197) (by decide +kernel))
theorem tw_4_198 : (Jvm.Cond.static ({ cls := "CueBookLaw", name := "leave", desc := "(LCueBook;II[J)I" } : Jvm.MethodName)) ∈ lw_tbl := in_t4 _ (List.mem_of_getElem? (i := 198) (by decide +kernel))
theorem tw_4_199 : (Jvm.Cond.codeWith ({ cls := "CueBookLaw", name := "leave", desc := "(LCueBook;II[J)I" } : Jvm.MethodName) method_8_code (5 : Nat) (Option.some Jvm.ClassFile.FieldType.int) [((0 : Nat), (10 : Nat), (13 : Nat), (24 : Nat)), ((0 : Nat), (10 : Nat), (17 : Nat), (13 : Nat)), ((0 : Nat), (10 : Nat), (21 : Nat), (15 : Nat))]) ∈ lw_tbl := in_t4 _ (List.mem_of_getElem? (i := 199) (by decide +kernel))
theorem tw_4_200 : (Jvm.Cond.methodLink "CueBookLaw" (33 : Nat) ({ cls := "CueBook", name := "leave", desc := "(II)I" } : Jvm.MethodName)) ∈ lw_tbl := in_t4 _ (List.mem_of_getElem? (i := 200) (by decide +kernel))
theorem tw_4_201 : (Jvm.Cond.instanceMethod ({ cls := "CueBook", name := "leave", desc := "(II)I" } : Jvm.MethodName)) ∈ lw_tbl := in_t4 _ (List.mem_of_getElem? (i := 201) (by decide +kernel))
theorem tw_4_202 : (Jvm.Cond.selects "CueBook" ({ cls := "CueBook", name := "leave", desc := "(II)I" } : Jvm.MethodName) ({ cls := "CueBook", name := "leave", desc := "(II)I" } : Jvm.MethodName)) ∈ lw_tbl := in_t4 _ (List.mem_of_getElem? (i := 202) (by decide +kernel))
theorem tw_4_203 : (Jvm.Cond.code ({ cls := "CueBook", name := "leave", desc := "(II)I" } : Jvm.MethodName) prog_1_method_7_code (4 : Nat) (Option.some Jvm.ClassFile.FieldType.int)) ∈ lw_tbl := in_t4 _ (List.mem_of_getElem? (i := 203) (by decide +kernel))
theorem tw_4_204 : (Jvm.Cond.methodLink "CueBookLaw" (111 : Nat) ({ cls := "CueBookLaw", name := "strike", desc := "(LCueBook;I[J)I" } : Jvm.MethodName)) ∈ lw_tbl := in_t4 _ (List.mem_of_getElem? (i := 204) (by decide +kernel))
theorem tw_4_205 : (Jvm.Cond.static ({ cls := "CueBookLaw", name := "strike", desc := "(LCueBook;I[J)I" } : Jvm.MethodName)) ∈ lw_tbl := in_t4 _ (List.mem_of_getElem? (i := 205) (by decide +kernel))
theorem tw_4_206 : (Jvm.Cond.codeWith ({ cls := "CueBookLaw", name := "strike", desc := "(LCueBook;I[J)I" } : Jvm.MethodName) method_9_code (4 : Nat) (Option.some Jvm.ClassFile.FieldType.int) [((0 : Nat), (9 : Nat), (12 : Nat), (24 : Nat)), ((0 : Nat), (9 : Nat), (15 : Nat), (15 : Nat))]) ∈ lw_tbl := in_t4 _ (List.mem_of_getElem? (i := 206) (by decide +kernel))
theorem tw_4_207 : (Jvm.Cond.methodLink "CueBookLaw" (36 : Nat) ({ cls := "CueBook", name := "strike", desc := "(I)I" } : Jvm.MethodName)) ∈ lw_tbl := in_t4 _ (List.mem_of_getElem? (i := 207) (by decide +kernel))
theorem tw_4_208 : (Jvm.Cond.instanceMethod ({ cls := "CueBook", name := "strike", desc := "(I)I" } : Jvm.MethodName)) ∈ lw_tbl := in_t4 _ (List.mem_of_getElem? (i := 208) (by decide +kernel))
theorem tw_4_209 : (Jvm.Cond.selects "CueBook" ({ cls := "CueBook", name := "strike", desc := "(I)I" } : Jvm.MethodName) ({ cls := "CueBook", name := "strike", desc := "(I)I" } : Jvm.MethodName)) ∈ lw_tbl := in_t4 _ (List.mem_of_getElem? (i := 209) (by decide +kernel))
theorem tw_4_210 : (Jvm.Cond.code ({ cls := "CueBook", name := "strike", desc := "(I)I" } : Jvm.MethodName) prog_1_method_8_code (3 : Nat) (Option.some Jvm.ClassFile.FieldType.int)) ∈ lw_tbl := in_t4 _ (List.mem_of_getElem? (i := 210) (by decide +kernel))
theorem tw_4_211 : (Jvm.Cond.methodLink "CueBook" (98 : Nat) ({ cls := "CueBook", name := "cueNumbered", desc := "(I)LCueBook$Cue;" } : Jvm.MethodName)) ∈ lw_tbl := in_t4 _ (List.mem_of_getElem? (i := 211) (by decide +kernel))
theorem tw_4_212 : (Jvm.Cond.privateMethod ({ cls := "CueBook", name := "cueNumbered", desc := "(I)LCueBook$Cue;" } : Jvm.MethodName)) ∈ lw_tbl := in_t4 _ (List.mem_of_getElem? (i := 212) (by decide +kernel))
theorem tw_4_213 : (Jvm.Cond.instanceMethod ({ cls := "CueBook", name := "cueNumbered", desc := "(I)LCueBook$Cue;" } : Jvm.MethodName)) ∈ lw_tbl := in_t4 _ (List.mem_of_getElem? (i := 213) (by decide +kernel))
theorem tw_4_214 : (Jvm.Cond.code ({ cls := "CueBook", name := "cueNumbered", desc := "(I)LCueBook$Cue;" } : Jvm.MethodName) prog_1_method_28_code (3 : Nat) (Option.some (Jvm.ClassFile.FieldType.object "CueBook$Cue"))) ∈ lw_tbl := in_t4 _ (List.mem_of_getElem? (i := 214) (by decide +kernel))
theorem tw_4_215 : (Jvm.Cond.stringRef "CueBook" (226 : Nat) "no such cue") ∈ lw_tbl := in_t4 _ (List.mem_of_getElem? (i := 215) (by decide +kernel))
theorem tw_4_216 : (Jvm.Cond.stringRef "CueBook" (228 : Nat) "the cue was struck out") ∈ lw_tbl := in_t4 _ (List.mem_of_getElem? (i := 216) (by decide +kernel))
theorem tw_4_217 : (Jvm.Cond.methodLink "CueBook" (106 : Nat) ({ cls := "CueBook$Puppet", name := "takesOut", desc := "(LCueBook$Cue;)Z" } : Jvm.MethodName)) ∈ lw_tbl := in_t4 _ (List.mem_of_getElem? (i := 217) (by decide +kernel))
theorem tw_4_218 : (Jvm.Cond.instanceMethod ({ cls := "CueBook$Puppet", name := "takesOut", desc := "(LCueBook$Cue;)Z" } : Jvm.MethodName)) ∈ lw_tbl := in_t4 _ (List.mem_of_getElem? (i := 218) (by decide +kernel))
theorem tw_4_219 : (Jvm.Cond.selects "CueBook$Puppet" ({ cls := "CueBook$Puppet", name := "takesOut", desc := "(LCueBook$Cue;)Z" } : Jvm.MethodName) ({ cls := "CueBook$Puppet", name := "takesOut", desc := "(LCueBook$Cue;)Z" } : Jvm.MethodName)) ∈ lw_tbl := in_t4 _ (List.mem_of_getElem? (i := 219) (by decide +kernel))
theorem tw_4_220 : (Jvm.Cond.code ({ cls := "CueBook$Puppet", name := "takesOut", desc := "(LCueBook$Cue;)Z" } : Jvm.MethodName) prog_5_method_3_code (3 : Nat) (Option.some Jvm.ClassFile.FieldType.boolean)) ∈ lw_tbl := in_t4 _ (List.mem_of_getElem? (i := 220) (by decide +kernel))
theorem tw_4_221 : (Jvm.Cond.stringRef "CueBook" (110 : Nat) "another cue would not be right without it") ∈ lw_tbl := in_t4 _ (List.mem_of_getElem? (i := 221) (by decide +kernel))
theorem tw_4_222 : (Jvm.Cond.methodLink "CueBookLaw" (115 : Nat) ({ cls := "CueBookLaw", name := "count", desc := "(LCueBook;I[J)I" } : Jvm.MethodName)) ∈ lw_tbl := in_t4 _ (List.mem_of_getElem? (i := 222) (by decide +kernel))
theorem tw_4_223 : (Jvm.Cond.static ({ cls := "CueBookLaw", name := "count", desc := "(LCueBook;I[J)I" } : Jvm.MethodName)) ∈ lw_tbl := in_t4 _ (List.mem_of_getElem? (i := 223) (by decide +kernel))
theorem tw_4_224 : (Jvm.Cond.codeWith ({ cls := "CueBookLaw", name := "count", desc := "(LCueBook;I[J)I" } : Jvm.MethodName) method_10_code (4 : Nat) (Option.some Jvm.ClassFile.FieldType.int) [((0 : Nat), (9 : Nat), (12 : Nat), (24 : Nat))]) ∈ lw_tbl := in_t4 _ (List.mem_of_getElem? (i := 224) (by decide +kernel))
theorem tw_4_225 : (Jvm.Cond.methodLink "CueBookLaw" (40 : Nat) ({ cls := "CueBook", name := "count", desc := "(I)I" } : Jvm.MethodName)) ∈ lw_tbl := in_t4 _ (List.mem_of_getElem? (i := 225) (by decide +kernel))
theorem tw_4_226 : (Jvm.Cond.instanceMethod ({ cls := "CueBook", name := "count", desc := "(I)I" } : Jvm.MethodName)) ∈ lw_tbl := in_t4 _ (List.mem_of_getElem? (i := 226) (by decide +kernel))
theorem tw_4_227 : (Jvm.Cond.selects "CueBook" ({ cls := "CueBook", name := "count", desc := "(I)I" } : Jvm.MethodName) ({ cls := "CueBook", name := "count", desc := "(I)I" } : Jvm.MethodName)) ∈ lw_tbl := in_t4 _ (List.mem_of_getElem? (i := 227) (by decide +kernel))
theorem tw_4_228 : (Jvm.Cond.code ({ cls := "CueBook", name := "count", desc := "(I)I" } : Jvm.MethodName) prog_1_method_9_code (2 : Nat) (Option.some Jvm.ClassFile.FieldType.int)) ∈ lw_tbl := in_t4 _ (List.mem_of_getElem? (i := 228) (by decide +kernel))
theorem tw_4_229 : (Jvm.Cond.stringRef "CueBook" (123 : Nat) "what is not 0 to 3") ∈ lw_tbl := in_t4 _ (List.mem_of_getElem? (i := 229) (by decide +kernel))
theorem tw_4_230 : (Jvm.Cond.methodLink "CueBookLaw" (118 : Nat) ({ cls := "CueBookLaw", name := "cue", desc := "(LCueBook;II[J)I" } : Jvm.MethodName)) ∈ lw_tbl := in_t4 _ (List.mem_of_getElem? (i := 230) (by decide +kernel))
theorem tw_4_231 : (Jvm.Cond.static ({ cls := "CueBookLaw", name := "cue", desc := "(LCueBook;II[J)I" } : Jvm.MethodName)) ∈ lw_tbl := in_t4 _ (List.mem_of_getElem? (i := 231) (by decide +kernel))
theorem tw_4_232 : (Jvm.Cond.codeWith ({ cls := "CueBookLaw", name := "cue", desc := "(LCueBook;II[J)I" } : Jvm.MethodName) method_11_code (5 : Nat) (Option.some Jvm.ClassFile.FieldType.int) [((0 : Nat), (10 : Nat), (13 : Nat), (24 : Nat))]) ∈ lw_tbl := in_t4 _ (List.mem_of_getElem? (i := 232) (by decide +kernel))
theorem tw_4_233 : (Jvm.Cond.methodLink "CueBookLaw" (43 : Nat) ({ cls := "CueBook", name := "cue", desc := "(II)I" } : Jvm.MethodName)) ∈ lw_tbl := in_t4 _ (List.mem_of_getElem? (i := 233) (by decide +kernel))
theorem tw_4_234 : (Jvm.Cond.instanceMethod ({ cls := "CueBook", name := "cue", desc := "(II)I" } : Jvm.MethodName)) ∈ lw_tbl := in_t4 _ (List.mem_of_getElem? (i := 234) (by decide +kernel))
theorem tw_4_235 : (Jvm.Cond.selects "CueBook" ({ cls := "CueBook", name := "cue", desc := "(II)I" } : Jvm.MethodName) ({ cls := "CueBook", name := "cue", desc := "(II)I" } : Jvm.MethodName)) ∈ lw_tbl := in_t4 _ (List.mem_of_getElem? (i := 235) (by decide +kernel))
theorem tw_4_236 : (Jvm.Cond.code ({ cls := "CueBook", name := "cue", desc := "(II)I" } : Jvm.MethodName) prog_1_method_10_code (3 : Nat) (Option.some Jvm.ClassFile.FieldType.int)) ∈ lw_tbl := in_t4 _ (List.mem_of_getElem? (i := 236) (by decide +kernel))
theorem tw_4_237 : (Jvm.Cond.methodLink "CueBookLaw" (121 : Nat) ({ cls := "CueBookLaw", name := "place", desc := "(LCueBook;II[J)I" } : Jvm.MethodName)) ∈ lw_tbl := in_t4 _ (List.mem_of_getElem? (i := 237) (by decide +kernel))
theorem tw_4_238 : (Jvm.Cond.static ({ cls := "CueBookLaw", name := "place", desc := "(LCueBook;II[J)I" } : Jvm.MethodName)) ∈ lw_tbl := in_t4 _ (List.mem_of_getElem? (i := 238) (by decide +kernel))
theorem tw_4_239 : (Jvm.Cond.codeWith ({ cls := "CueBookLaw", name := "place", desc := "(LCueBook;II[J)I" } : Jvm.MethodName) method_12_code (5 : Nat) (Option.some Jvm.ClassFile.FieldType.int) [((0 : Nat), (10 : Nat), (13 : Nat), (24 : Nat)), ((0 : Nat), (10 : Nat), (17 : Nat), (13 : Nat))]) ∈ lw_tbl := in_t4 _ (List.mem_of_getElem? (i := 239) (by decide +kernel))
theorem tw_5_0 : (Jvm.Cond.methodLink "CueBookLaw" (46 : Nat) ({ cls := "CueBook", name := "place", desc := "(II)I" } : Jvm.MethodName)) ∈ lw_tbl := in_t5 _ (List.mem_of_getElem? (i := 0) (by decide +kernel))
theorem tw_5_1 : (Jvm.Cond.instanceMethod ({ cls := "CueBook", name := "place", desc := "(II)I" } : Jvm.MethodName)) ∈ lw_tbl := in_t5 _ (List.mem_of_getElem? (i := 1) (by decide +kernel))
theorem tw_5_2 : (Jvm.Cond.selects "CueBook" ({ cls := "CueBook", name := "place", desc := "(II)I" } : Jvm.MethodName) ({ cls := "CueBook", name := "place", desc := "(II)I" } : Jvm.MethodName)) ∈ lw_tbl := in_t5 _ (List.mem_of_getElem? (i := 2) (by decide +kernel))
theorem tw_5_3 : (Jvm.Cond.code ({ cls := "CueBook", name := "place", desc := "(II)I" } : Jvm.MethodName) prog_1_method_11_code (4 : Nat) (Option.some Jvm.ClassFile.FieldType.int)) ∈ lw_tbl := in_t5 _ (List.mem_of_getElem? (i := 3) (by decide +kernel))
theorem tw_5_4 : (Jvm.Cond.methodLink "CueBookLaw" (124 : Nat) ({ cls := "CueBookLaw", name := "track", desc := "(LCueBook;II[J)I" } : Jvm.MethodName)) ∈ lw_tbl := in_t5 _ (List.mem_of_getElem? (i := 4) (by decide +kernel))
theorem tw_5_5 : (Jvm.Cond.static ({ cls := "CueBookLaw", name := "track", desc := "(LCueBook;II[J)I" } : Jvm.MethodName)) ∈ lw_tbl := in_t5 _ (List.mem_of_getElem? (i := 5) (by decide +kernel))
theorem tw_5_6 : (Jvm.Cond.codeWith ({ cls := "CueBookLaw", name := "track", desc := "(LCueBook;II[J)I" } : Jvm.MethodName) method_13_code (5 : Nat) (Option.some Jvm.ClassFile.FieldType.int) [((0 : Nat), (10 : Nat), (13 : Nat), (24 : Nat)), ((0 : Nat), (10 : Nat), (17 : Nat), (13 : Nat))]) ∈ lw_tbl := in_t5 _ (List.mem_of_getElem? (i := 6) (by decide +kernel))
theorem tw_5_7 : (Jvm.Cond.methodLink "CueBookLaw" (49 : Nat) ({ cls := "CueBook", name := "track", desc := "(II)I" } : Jvm.MethodName)) ∈ lw_tbl := in_t5 _ (List.mem_of_getElem? (i := 7) (by decide +kernel))
theorem tw_5_8 : (Jvm.Cond.instanceMethod ({ cls := "CueBook", name := "track", desc := "(II)I" } : Jvm.MethodName)) ∈ lw_tbl := in_t5 _ (List.mem_of_getElem? (i := 8) (by decide +kernel))
theorem tw_5_9 : (Jvm.Cond.selects "CueBook" ({ cls := "CueBook", name := "track", desc := "(II)I" } : Jvm.MethodName) ({ cls := "CueBook", name := "track", desc := "(II)I" } : Jvm.MethodName)) ∈ lw_tbl := in_t5 _ (List.mem_of_getElem? (i := 9) (by decide +kernel))
theorem tw_5_10 : (Jvm.Cond.code ({ cls := "CueBook", name := "track", desc := "(II)I" } : Jvm.MethodName) prog_1_method_12_code (4 : Nat) (Option.some Jvm.ClassFile.FieldType.int)) ∈ lw_tbl := in_t5 _ (List.mem_of_getElem? (i := 10) (by decide +kernel))
theorem tw_5_11 : (Jvm.Cond.methodLink "CueBookLaw" (127 : Nat) ({ cls := "CueBookLaw", name := "onStage", desc := "(LCueBook;I[J)I" } : Jvm.MethodName)) ∈ lw_tbl := in_t5 _ (List.mem_of_getElem? (i := 11) (by decide +kernel))
theorem tw_5_12 : (Jvm.Cond.static ({ cls := "CueBookLaw", name := "onStage", desc := "(LCueBook;I[J)I" } : Jvm.MethodName)) ∈ lw_tbl := in_t5 _ (List.mem_of_getElem? (i := 12) (by decide +kernel))
theorem tw_5_13 : (Jvm.Cond.codeWith ({ cls := "CueBookLaw", name := "onStage", desc := "(LCueBook;I[J)I" } : Jvm.MethodName) method_14_code (4 : Nat) (Option.some Jvm.ClassFile.FieldType.int) [((0 : Nat), (9 : Nat), (12 : Nat), (13 : Nat))]) ∈ lw_tbl := in_t5 _ (List.mem_of_getElem? (i := 13) (by decide +kernel))
theorem tw_5_14 : (Jvm.Cond.methodLink "CueBookLaw" (52 : Nat) ({ cls := "CueBook", name := "onStage", desc := "(I)I" } : Jvm.MethodName)) ∈ lw_tbl := in_t5 _ (List.mem_of_getElem? (i := 14) (by decide +kernel))
theorem tw_5_15 : (Jvm.Cond.instanceMethod ({ cls := "CueBook", name := "onStage", desc := "(I)I" } : Jvm.MethodName)) ∈ lw_tbl := in_t5 _ (List.mem_of_getElem? (i := 15) (by decide +kernel))
theorem tw_5_16 : (Jvm.Cond.selects "CueBook" ({ cls := "CueBook", name := "onStage", desc := "(I)I" } : Jvm.MethodName) ({ cls := "CueBook", name := "onStage", desc := "(I)I" } : Jvm.MethodName)) ∈ lw_tbl := in_t5 _ (List.mem_of_getElem? (i := 16) (by decide +kernel))
theorem tw_5_17 : (Jvm.Cond.code ({ cls := "CueBook", name := "onStage", desc := "(I)I" } : Jvm.MethodName) prog_1_method_13_code (5 : Nat) (Option.some Jvm.ClassFile.FieldType.int)) ∈ lw_tbl := in_t5 _ (List.mem_of_getElem? (i := 17) (by decide +kernel))
theorem tw_5_18 : (Jvm.Cond.methodLink "CueBookLaw" (130 : Nat) ({ cls := "CueBookLaw", name := "clash", desc := "(LCueBook;II[J)I" } : Jvm.MethodName)) ∈ lw_tbl := in_t5 _ (List.mem_of_getElem? (i := 18) (by decide +kernel))
theorem tw_5_19 : (Jvm.Cond.static ({ cls := "CueBookLaw", name := "clash", desc := "(LCueBook;II[J)I" } : Jvm.MethodName)) ∈ lw_tbl := in_t5 _ (List.mem_of_getElem? (i := 19) (by decide +kernel))
theorem tw_5_20 : (Jvm.Cond.codeWith ({ cls := "CueBookLaw", name := "clash", desc := "(LCueBook;II[J)I" } : Jvm.MethodName) method_15_code (5 : Nat) (Option.some Jvm.ClassFile.FieldType.int) [((0 : Nat), (10 : Nat), (13 : Nat), (24 : Nat)), ((0 : Nat), (10 : Nat), (17 : Nat), (13 : Nat))]) ∈ lw_tbl := in_t5 _ (List.mem_of_getElem? (i := 20) (by decide +kernel))
theorem tw_5_21 : (Jvm.Cond.methodLink "CueBookLaw" (55 : Nat) ({ cls := "CueBook", name := "clash", desc := "(II)I" } : Jvm.MethodName)) ∈ lw_tbl := in_t5 _ (List.mem_of_getElem? (i := 21) (by decide +kernel))
theorem tw_5_22 : (Jvm.Cond.instanceMethod ({ cls := "CueBook", name := "clash", desc := "(II)I" } : Jvm.MethodName)) ∈ lw_tbl := in_t5 _ (List.mem_of_getElem? (i := 22) (by decide +kernel))
theorem tw_5_23 : (Jvm.Cond.selects "CueBook" ({ cls := "CueBook", name := "clash", desc := "(II)I" } : Jvm.MethodName) ({ cls := "CueBook", name := "clash", desc := "(II)I" } : Jvm.MethodName)) ∈ lw_tbl := in_t5 _ (List.mem_of_getElem? (i := 23) (by decide +kernel))
theorem tw_5_24 : (Jvm.Cond.code ({ cls := "CueBook", name := "clash", desc := "(II)I" } : Jvm.MethodName) prog_1_method_14_code (5 : Nat) (Option.some Jvm.ClassFile.FieldType.int)) ∈ lw_tbl := in_t5 _ (List.mem_of_getElem? (i := 24) (by decide +kernel))
theorem tw_5_25 : (Jvm.Cond.stringRef "CueBook" (144 : Nat) "the puppets are the same") ∈ lw_tbl := in_t5 _ (List.mem_of_getElem? (i := 25) (by decide +kernel))
theorem tw_5_26 : (Jvm.Cond.methodLink "CueBookLaw" (137 : Nat) ({ cls := "CueBookLaw", name := "beats", desc := "(LCueBook;I[J)I" } : Jvm.MethodName)) ∈ lw_tbl := in_t5 _ (List.mem_of_getElem? (i := 26) (by decide +kernel))
theorem tw_5_27 : (Jvm.Cond.static ({ cls := "CueBookLaw", name := "beats", desc := "(LCueBook;I[J)I" } : Jvm.MethodName)) ∈ lw_tbl := in_t5 _ (List.mem_of_getElem? (i := 27) (by decide +kernel))
theorem tw_5_28 : (Jvm.Cond.codeWith ({ cls := "CueBookLaw", name := "beats", desc := "(LCueBook;I[J)I" } : Jvm.MethodName) method_16_code (4 : Nat) (Option.some Jvm.ClassFile.FieldType.int) [((0 : Nat), (9 : Nat), (12 : Nat), (24 : Nat))]) ∈ lw_tbl := in_t5 _ (List.mem_of_getElem? (i := 28) (by decide +kernel))
theorem tw_5_29 : (Jvm.Cond.methodLink "CueBookLaw" (58 : Nat) ({ cls := "CueBook", name := "beats", desc := "(I)I" } : Jvm.MethodName)) ∈ lw_tbl := in_t5 _ (List.mem_of_getElem? (i := 29) (by decide +kernel))
theorem tw_5_30 : (Jvm.Cond.instanceMethod ({ cls := "CueBook", name := "beats", desc := "(I)I" } : Jvm.MethodName)) ∈ lw_tbl := in_t5 _ (List.mem_of_getElem? (i := 30) (by decide +kernel))
theorem tw_5_31 : (Jvm.Cond.selects "CueBook" ({ cls := "CueBook", name := "beats", desc := "(I)I" } : Jvm.MethodName) ({ cls := "CueBook", name := "beats", desc := "(I)I" } : Jvm.MethodName)) ∈ lw_tbl := in_t5 _ (List.mem_of_getElem? (i := 31) (by decide +kernel))
theorem tw_5_32 : (Jvm.Cond.code ({ cls := "CueBook", name := "beats", desc := "(I)I" } : Jvm.MethodName) prog_1_method_16_code (6 : Nat) (Option.some Jvm.ClassFile.FieldType.int)) ∈ lw_tbl := in_t5 _ (List.mem_of_getElem? (i := 32) (by decide +kernel))
theorem tw_5_33 : (Jvm.Cond.methodLink "CueBookLaw" (140 : Nat) ({ cls := "CueBookLaw", name := "stays", desc := "(LCueBook;I[J)I" } : Jvm.MethodName)) ∈ lw_tbl := in_t5 _ (List.mem_of_getElem? (i := 33) (by decide +kernel))
theorem tw_5_34 : (Jvm.Cond.static ({ cls := "CueBookLaw", name := "stays", desc := "(LCueBook;I[J)I" } : Jvm.MethodName)) ∈ lw_tbl := in_t5 _ (List.mem_of_getElem? (i := 34) (by decide +kernel))
theorem tw_5_35 : (Jvm.Cond.codeWith ({ cls := "CueBookLaw", name := "stays", desc := "(LCueBook;I[J)I" } : Jvm.MethodName) method_17_code (4 : Nat) (Option.some Jvm.ClassFile.FieldType.int) [((0 : Nat), (9 : Nat), (12 : Nat), (24 : Nat))]) ∈ lw_tbl := in_t5 _ (List.mem_of_getElem? (i := 35) (by decide +kernel))
theorem tw_5_36 : (Jvm.Cond.methodLink "CueBookLaw" (61 : Nat) ({ cls := "CueBook", name := "stays", desc := "(I)I" } : Jvm.MethodName)) ∈ lw_tbl := in_t5 _ (List.mem_of_getElem? (i := 36) (by decide +kernel))
theorem tw_5_37 : (Jvm.Cond.instanceMethod ({ cls := "CueBook", name := "stays", desc := "(I)I" } : Jvm.MethodName)) ∈ lw_tbl := in_t5 _ (List.mem_of_getElem? (i := 37) (by decide +kernel))
theorem tw_5_38 : (Jvm.Cond.selects "CueBook" ({ cls := "CueBook", name := "stays", desc := "(I)I" } : Jvm.MethodName) ({ cls := "CueBook", name := "stays", desc := "(I)I" } : Jvm.MethodName)) ∈ lw_tbl := in_t5 _ (List.mem_of_getElem? (i := 38) (by decide +kernel))
theorem tw_5_39 : (Jvm.Cond.code ({ cls := "CueBook", name := "stays", desc := "(I)I" } : Jvm.MethodName) prog_1_method_17_code (2 : Nat) (Option.some Jvm.ClassFile.FieldType.int)) ∈ lw_tbl := in_t5 _ (List.mem_of_getElem? (i := 39) (by decide +kernel))
theorem tw_5_40 : (Jvm.Cond.methodLink "CueBookLaw" (143 : Nat) ({ cls := "CueBookLaw", name := "stay", desc := "(LCueBook;III[J)I" } : Jvm.MethodName)) ∈ lw_tbl := in_t5 _ (List.mem_of_getElem? (i := 40) (by decide +kernel))
theorem tw_5_41 : (Jvm.Cond.static ({ cls := "CueBookLaw", name := "stay", desc := "(LCueBook;III[J)I" } : Jvm.MethodName)) ∈ lw_tbl := in_t5 _ (List.mem_of_getElem? (i := 41) (by decide +kernel))
theorem tw_5_42 : (Jvm.Cond.codeWith ({ cls := "CueBookLaw", name := "stay", desc := "(LCueBook;III[J)I" } : Jvm.MethodName) method_18_code (6 : Nat) (Option.some Jvm.ClassFile.FieldType.int) [((0 : Nat), (12 : Nat), (15 : Nat), (24 : Nat))]) ∈ lw_tbl := in_t5 _ (List.mem_of_getElem? (i := 42) (by decide +kernel))
theorem tw_5_43 : (Jvm.Cond.methodLink "CueBookLaw" (64 : Nat) ({ cls := "CueBook", name := "stay", desc := "(III)I" } : Jvm.MethodName)) ∈ lw_tbl := in_t5 _ (List.mem_of_getElem? (i := 43) (by decide +kernel))
theorem tw_5_44 : (Jvm.Cond.instanceMethod ({ cls := "CueBook", name := "stay", desc := "(III)I" } : Jvm.MethodName)) ∈ lw_tbl := in_t5 _ (List.mem_of_getElem? (i := 44) (by decide +kernel))
theorem tw_5_45 : (Jvm.Cond.selects "CueBook" ({ cls := "CueBook", name := "stay", desc := "(III)I" } : Jvm.MethodName) ({ cls := "CueBook", name := "stay", desc := "(III)I" } : Jvm.MethodName)) ∈ lw_tbl := in_t5 _ (List.mem_of_getElem? (i := 45) (by decide +kernel))
theorem tw_5_46 : (Jvm.Cond.code ({ cls := "CueBook", name := "stay", desc := "(III)I" } : Jvm.MethodName) prog_1_method_18_code (5 : Nat) (Option.some Jvm.ClassFile.FieldType.int)) ∈ lw_tbl := in_t5 _ (List.mem_of_getElem? (i := 46) (by decide +kernel))
theorem tw_5_47 : (Jvm.Cond.stringRef "CueBook" (164 : Nat) "no such stay") ∈ lw_tbl := in_t5 _ (List.mem_of_getElem? (i := 47) (by decide +kernel))
theorem tw_5_48 : (Jvm.Cond.methodLink "CueBookLaw" (150 : Nat) ({ cls := "CueBookLaw", name := "hands", desc := "(LCueBook;II[J)I" } : Jvm.MethodName)) ∈ lw_tbl := in_t5 _ (List.mem_of_getElem? (i := 48) (by decide +kernel))
theorem tw_5_49 : (Jvm.Cond.static ({ cls := "CueBookLaw", name := "hands", desc := "(LCueBook;II[J)I" } : Jvm.MethodName)) ∈ lw_tbl := in_t5 _ (List.mem_of_getElem? (i := 49) (by decide +kernel))
theorem tw_5_50 : (Jvm.Cond.codeWith ({ cls := "CueBookLaw", name := "hands", desc := "(LCueBook;II[J)I" } : Jvm.MethodName) method_19_code (5 : Nat) (Option.some Jvm.ClassFile.FieldType.int) [((0 : Nat), (10 : Nat), (13 : Nat), (24 : Nat)), ((0 : Nat), (10 : Nat), (17 : Nat), (13 : Nat))]) ∈ lw_tbl := in_t5 _ (List.mem_of_getElem? (i := 50) (by decide +kernel))
theorem tw_5_51 : (Jvm.Cond.methodLink "CueBookLaw" (67 : Nat) ({ cls := "CueBook", name := "hands", desc := "(II)I" } : Jvm.MethodName)) ∈ lw_tbl := in_t5 _ (List.mem_of_getElem? (i := 51) (by decide +kernel))
theorem tw_5_52 : (Jvm.Cond.instanceMethod ({ cls := "CueBook", name := "hands", desc := "(II)I" } : Jvm.MethodName)) ∈ lw_tbl := in_t5 _ (List.mem_of_getElem? (i := 52) (by decide +kernel))
theorem tw_5_53 : (Jvm.Cond.selects "CueBook" ({ cls := "CueBook", name := "hands", desc := "(II)I" } : Jvm.MethodName) ({ cls := "CueBook", name := "hands", desc := "(II)I" } : Jvm.MethodName)) ∈ lw_tbl := in_t5 _ (List.mem_of_getElem? (i := 53) (by decide +kernel))
theorem tw_5_54 : (Jvm.Cond.code ({ cls := "CueBook", name := "hands", desc := "(II)I" } : Jvm.MethodName) prog_1_method_20_code (4 : Nat) (Option.some Jvm.ClassFile.FieldType.int)) ∈ lw_tbl := in_t5 _ (List.mem_of_getElem? (i := 54) (by decide +kernel))
theorem tw_5_55 : (Jvm.Cond.methodLink "CueBook" (176 : Nat) ({ cls := "CueBook", name := "playerNumbered", desc := "(I)LCueBook$Player;" } : Jvm.MethodName)) ∈ lw_tbl := in_t5 _ (List.mem_of_getElem? (i := 55) (by decide +kernel))
theorem tw_5_56 : (Jvm.Cond.privateMethod ({ cls := "CueBook", name := "playerNumbered", desc := "(I)LCueBook$Player;" } : Jvm.MethodName)) ∈ lw_tbl := in_t5 _ (List.mem_of_getElem? (i := 56) (by decide +kernel))
theorem tw_5_57 : (Jvm.Cond.instanceMethod ({ cls := "CueBook", name := "playerNumbered", desc := "(I)LCueBook$Player;" } : Jvm.MethodName)) ∈ lw_tbl := in_t5 _ (List.mem_of_getElem? (i := 57) (by decide +kernel))
theorem tw_5_58 : (Jvm.Cond.code ({ cls := "CueBook", name := "playerNumbered", desc := "(I)LCueBook$Player;" } : Jvm.MethodName) prog_1_method_27_code (2 : Nat) (Option.some (Jvm.ClassFile.FieldType.object "CueBook$Player"))) ∈ lw_tbl := in_t5 _ (List.mem_of_getElem? (i := 58) (by decide +kernel))
theorem tw_5_59 : (Jvm.Cond.stringRef "CueBook" (224 : Nat) "no such player") ∈ lw_tbl := in_t5 _ (List.mem_of_getElem? (i := 59) (by decide +kernel))
theorem tw_5_60 : (Jvm.Cond.methodLink "CueBookLaw" (153 : Nat) ({ cls := "CueBookLaw", name := "load", desc := "(LCueBook;I[J)I" } : Jvm.MethodName)) ∈ lw_tbl := in_t5 _ (List.mem_of_getElem? (i := 60) (by decide +kernel))
theorem tw_5_61 : (Jvm.Cond.static ({ cls := "CueBookLaw", name := "load", desc := "(LCueBook;I[J)I" } : Jvm.MethodName)) ∈ lw_tbl := in_t5 _ (List.mem_of_getElem? (i := 61) (by decide +kernel))
theorem tw_5_62 : (Jvm.Cond.codeWith ({ cls := "CueBookLaw", name := "load", desc := "(LCueBook;I[J)I" } : Jvm.MethodName) method_20_code (4 : Nat) (Option.some Jvm.ClassFile.FieldType.int) [((0 : Nat), (9 : Nat), (12 : Nat), (24 : Nat))]) ∈ lw_tbl := in_t5 _ (List.mem_of_getElem? (i := 62) (by decide +kernel))
theorem tw_5_63 : (Jvm.Cond.methodLink "CueBookLaw" (70 : Nat) ({ cls := "CueBook", name := "load", desc := "(I)I" } : Jvm.MethodName)) ∈ lw_tbl := in_t5 _ (List.mem_of_getElem? (i := 63) (by decide +kernel))
theorem tw_5_64 : (Jvm.Cond.instanceMethod ({ cls := "CueBook", name := "load", desc := "(I)I" } : Jvm.MethodName)) ∈ lw_tbl := in_t5 _ (List.mem_of_getElem? (i := 64) (by decide +kernel))
theorem tw_5_65 : (Jvm.Cond.selects "CueBook" ({ cls := "CueBook", name := "load", desc := "(I)I" } : Jvm.MethodName) ({ cls := "CueBook", name := "load", desc := "(I)I" } : Jvm.MethodName)) ∈ lw_tbl := in_t5 _ (List.mem_of_getElem? (i := 65) (by decide +kernel))
theorem tw_5_66 : (Jvm.Cond.code ({ cls := "CueBook", name := "load", desc := "(I)I" } : Jvm.MethodName) prog_1_method_21_code (3 : Nat) (Option.some Jvm.ClassFile.FieldType.int)) ∈ lw_tbl := in_t5 _ (List.mem_of_getElem? (i := 66) (by decide +kernel))
theorem tw_5_67 : (Jvm.Cond.methodLink "CueBookLaw" (156 : Nat) ({ cls := "CueBookLaw", name := "note", desc := "(LCueBook;II[J)I" } : Jvm.MethodName)) ∈ lw_tbl := in_t5 _ (List.mem_of_getElem? (i := 67) (by decide +kernel))
theorem tw_5_68 : (Jvm.Cond.static ({ cls := "CueBookLaw", name := "note", desc := "(LCueBook;II[J)I" } : Jvm.MethodName)) ∈ lw_tbl := in_t5 _ (List.mem_of_getElem? (i := 68) (by decide +kernel))
theorem tw_5_69 : (Jvm.Cond.codeWith ({ cls := "CueBookLaw", name := "note", desc := "(LCueBook;II[J)I" } : Jvm.MethodName) method_21_code (5 : Nat) (Option.some Jvm.ClassFile.FieldType.int) [((0 : Nat), (10 : Nat), (13 : Nat), (24 : Nat)), ((0 : Nat), (10 : Nat), (17 : Nat), (13 : Nat)), ((0 : Nat), (10 : Nat), (21 : Nat), (15 : Nat))]) ∈ lw_tbl := in_t5 _ (List.mem_of_getElem? (i := 69) (by decide +kernel))
theorem tw_5_70 : (Jvm.Cond.methodLink "CueBookLaw" (73 : Nat) ({ cls := "CueBook", name := "note", desc := "(II)I" } : Jvm.MethodName)) ∈ lw_tbl := in_t5 _ (List.mem_of_getElem? (i := 70) (by decide +kernel))
theorem tw_5_71 : (Jvm.Cond.instanceMethod ({ cls := "CueBook", name := "note", desc := "(II)I" } : Jvm.MethodName)) ∈ lw_tbl := in_t5 _ (List.mem_of_getElem? (i := 71) (by decide +kernel))
theorem tw_5_72 : (Jvm.Cond.selects "CueBook" ({ cls := "CueBook", name := "note", desc := "(II)I" } : Jvm.MethodName) ({ cls := "CueBook", name := "note", desc := "(II)I" } : Jvm.MethodName)) ∈ lw_tbl := in_t5 _ (List.mem_of_getElem? (i := 72) (by decide +kernel))
theorem tw_5_73 : (Jvm.Cond.code ({ cls := "CueBook", name := "note", desc := "(II)I" } : Jvm.MethodName) prog_1_method_22_code (4 : Nat) (Option.some Jvm.ClassFile.FieldType.int)) ∈ lw_tbl := in_t5 _ (List.mem_of_getElem? (i := 73) (by decide +kernel))
theorem tw_5_74 : (Jvm.Cond.stringRef "CueBook" (186 : Nat) "late is not -50 to 50") ∈ lw_tbl := in_t5 _ (List.mem_of_getElem? (i := 74) (by decide +kernel))
theorem tw_5_75 : (Jvm.Cond.stringRef "CueBook" (191 : Nat) "it was noted 20 times") ∈ lw_tbl := in_t5 _ (List.mem_of_getElem? (i := 75) (by decide +kernel))
theorem tw_5_76 : (Jvm.Cond.methodLink "CueBookLaw" (159 : Nat) ({ cls := "CueBookLaw", name := "mean", desc := "(LCueBook;I[D)I" } : Jvm.MethodName)) ∈ lw_tbl := in_t5 _ (List.mem_of_getElem? (i := 76) (by decide +kernel))
theorem tw_5_77 : (Jvm.Cond.static ({ cls := "CueBookLaw", name := "mean", desc := "(LCueBook;I[D)I" } : Jvm.MethodName)) ∈ lw_tbl := in_t5 _ (List.mem_of_getElem? (i := 77) (by decide +kernel))
theorem tw_5_78 : (Jvm.Cond.codeWith ({ cls := "CueBookLaw", name := "mean", desc := "(LCueBook;I[D)I" } : Jvm.MethodName) method_22_code (4 : Nat) (Option.some Jvm.ClassFile.FieldType.int) [((0 : Nat), (8 : Nat), (11 : Nat), (24 : Nat))]) ∈ lw_tbl := in_t5 _ (List.mem_of_getElem? (i := 78) (by decide +kernel))
theorem tw_5_79 : (Jvm.Cond.methodLink "CueBookLaw" (76 : Nat) ({ cls := "CueBook", name := "mean", desc := "(I)D" } : Jvm.MethodName)) ∈ lw_tbl := in_t5 _ (List.mem_of_getElem? (i := 79) (by decide +kernel))
theorem tw_5_80 : (Jvm.Cond.instanceMethod ({ cls := "CueBook", name := "mean", desc := "(I)D" } : Jvm.MethodName)) ∈ lw_tbl := in_t5 _ (List.mem_of_getElem? (i := 80) (by decide +kernel))
theorem tw_5_81 : (Jvm.Cond.selects "CueBook" ({ cls := "CueBook", name := "mean", desc := "(I)D" } : Jvm.MethodName) ({ cls := "CueBook", name := "mean", desc := "(I)D" } : Jvm.MethodName)) ∈ lw_tbl := in_t5 _ (List.mem_of_getElem? (i := 81) (by decide +kernel))
theorem tw_5_82 : (Jvm.Cond.code ({ cls := "CueBook", name := "mean", desc := "(I)D" } : Jvm.MethodName) prog_1_method_23_code (3 : Nat) (Option.some Jvm.ClassFile.FieldType.double)) ∈ lw_tbl := in_t5 _ (List.mem_of_getElem? (i := 82) (by decide +kernel))
theorem tw_5_83 : (Jvm.Cond.classLink "CueBookLaw" (81 : Nat) "CueBookModel") ∈ lw_tbl := in_t5 _ (List.mem_of_getElem? (i := 83) (by decide +kernel))
theorem tw_5_84 : (Jvm.Cond.instantiable "CueBookModel" (22 : Nat)) ∈ lw_tbl := in_t5 _ (List.mem_of_getElem? (i := 84) (by decide +kernel))
theorem tw_5_85 : (Jvm.Cond.methodLink "CueBookLaw" (83 : Nat) ({ cls := "CueBookModel", name := "<init>", desc := "()V" } : Jvm.MethodName)) ∈ lw_tbl := in_t5 _ (List.mem_of_getElem? (i := 85) (by decide +kernel))
theorem tw_5_86 : (Jvm.Cond.instanceMethod ({ cls := "CueBookModel", name := "<init>", desc := "()V" } : Jvm.MethodName)) ∈ lw_tbl := in_t5 _ (List.mem_of_getElem? (i := 86) (by decide +kernel))
theorem tw_5_87 : (Jvm.Cond.code ({ cls := "CueBookModel", name := "<init>", desc := "()V" } : Jvm.MethodName) prog_8_method_1_code (1 : Nat) (Option.none : Option Jvm.ClassFile.FieldType)) ∈ lw_tbl := in_t5 _ (List.mem_of_getElem? (i := 87) (by decide +kernel))
theorem tw_5_88 : (Jvm.Cond.methodLink "CueBookModel" (1 : Nat) ({ cls := "java/lang/Object", name := "<init>", desc := "()V" } : Jvm.MethodName)) ∈ lw_tbl := in_t5 _ (List.mem_of_getElem? (i := 88) (by decide +kernel))
theorem tw_5_89 : (Jvm.Cond.fieldLink "CueBookModel" (59 : Nat) "CueBookModel" "thrown" "I") ∈ lw_tbl := in_t5 _ (List.mem_of_getElem? (i := 89) (by decide +kernel))
theorem tw_5_90 : (Jvm.Cond.fieldLink "CueBookModel" (63 : Nat) "CueBookModel" "puppets" "I") ∈ lw_tbl := in_t5 _ (List.mem_of_getElem? (i := 90) (by decide +kernel))
theorem tw_5_91 : (Jvm.Cond.fieldLink "CueBookModel" (9 : Nat) "CueBookModel" "weights" "[I") ∈ lw_tbl := in_t5 _ (List.mem_of_getElem? (i := 91) (by decide +kernel))
theorem tw_5_92 : (Jvm.Cond.fieldLink "CueBookModel" (13 : Nat) "CueBookModel" "needs" "[I") ∈ lw_tbl := in_t5 _ (List.mem_of_getElem? (i := 92) (by decide +kernel))
theorem tw_5_93 : (Jvm.Cond.fieldLink "CueBookModel" (70 : Nat) "CueBookModel" "players" "I") ∈ lw_tbl := in_t5 _ (List.mem_of_getElem? (i := 93) (by decide +kernel))
theorem tw_5_94 : (Jvm.Cond.fieldLink "CueBookModel" (16 : Nat) "CueBookModel" "strengths" "[I") ∈ lw_tbl := in_t5 _ (List.mem_of_getElem? (i := 94) (by decide +kernel))
theorem tw_5_95 : (Jvm.Cond.fieldLink "CueBookModel" (19 : Nat) "CueBookModel" "homes" "[I") ∈ lw_tbl := in_t5 _ (List.mem_of_getElem? (i := 95) (by decide +kernel))
theorem tw_5_96 : (Jvm.Cond.fieldLink "CueBookModel" (81 : Nat) "CueBookModel" "cues" "I") ∈ lw_tbl := in_t5 _ (List.mem_of_getElem? (i := 96) (by decide +kernel))
theorem tw_5_97 : (Jvm.Cond.fieldLink "CueBookModel" (22 : Nat) "CueBookModel" "table" "[I") ∈ lw_tbl := in_t5 _ (List.mem_of_getElem? (i := 97) (by decide +kernel))
theorem tw_5_98 : (Jvm.Cond.fieldLink "CueBookModel" (25 : Nat) "CueBookModel" "areStruck" "[Z") ∈ lw_tbl := in_t5 _ (List.mem_of_getElem? (i := 98) (by decide +kernel))
theorem tw_5_99 : (Jvm.Cond.fieldLink "CueBookModel" (123 : Nat) "CueBookModel" "struck" "I") ∈ lw_tbl := in_t5 _ (List.mem_of_getElem? (i := 99) (by decide +kernel))
theorem tw_5_100 : (Jvm.Cond.fieldLink "CueBookModel" (29 : Nat) "CueBookModel" "noted" "[I") ∈ lw_tbl := in_t5 _ (List.mem_of_getElem? (i := 100) (by decide +kernel))
theorem tw_5_101 : (Jvm.Cond.fieldLink "CueBookModel" (32 : Nat) "CueBookModel" "sums" "[I") ∈ lw_tbl := in_t5 _ (List.mem_of_getElem? (i := 101) (by decide +kernel))
theorem tw_5_102 : (Jvm.Cond.fieldLink "CueBookModel" (35 : Nat) "CueBookModel" "greatness" "[I") ∈ lw_tbl := in_t5 _ (List.mem_of_getElem? (i := 102) (by decide +kernel))
theorem tw_5_103 : (Jvm.Cond.fieldLink "CueBookModel" (77 : Nat) "CueBookModel" "isFresh" "Z") ∈ lw_tbl := in_t5 _ (List.mem_of_getElem? (i := 103) (by decide +kernel))
theorem tw_5_104 : (Jvm.Cond.fieldLink "CueBookModel" (38 : Nat) "CueBookModel" "places" "[I") ∈ lw_tbl := in_t5 _ (List.mem_of_getElem? (i := 104) (by decide +kernel))
theorem tw_5_105 : (Jvm.Cond.fieldLink "CueBookModel" (41 : Nat) "CueBookModel" "tracks" "[I") ∈ lw_tbl := in_t5 _ (List.mem_of_getElem? (i := 105) (by decide +kernel))
theorem tw_5_106 : (Jvm.Cond.fieldLink "CueBookModel" (44 : Nat) "CueBookModel" "stays" "[I") ∈ lw_tbl := in_t5 _ (List.mem_of_getElem? (i := 106) (by decide +kernel))
theorem tw_5_107 : (Jvm.Cond.fieldLink "CueBookModel" (47 : Nat) "CueBookModel" "manyStays" "[I") ∈ lw_tbl := in_t5 _ (List.mem_of_getElem? (i := 107) (by decide +kernel))
theorem tw_5_108 : (Jvm.Cond.fieldLink "CueBookModel" (50 : Nat) "CueBookModel" "begins" "[I") ∈ lw_tbl := in_t5 _ (List.mem_of_getElem? (i := 108) (by decide +kernel))
theorem tw_5_109 : (Jvm.Cond.fieldLink "CueBookModel" (53 : Nat) "CueBookModel" "ends" "[I") ∈ lw_tbl := in_t5 _ (List.mem_of_getElem? (i := 109) (by decide +kernel))
theorem tw_5_110 : (Jvm.Cond.fieldLink "CueBookModel" (56 : Nat) "CueBookModel" "cast" "[I") ∈ lw_tbl := in_t5 _ (List.mem_of_getElem? (i := 110) (by decide +kernel))
theorem tw_5_111 : (Jvm.Cond.lays "CueBookModel" "CueBookModel" "thrown" "I") ∈ lw_tbl := in_t5 _ (List.mem_of_getElem? (i := 111) (by decide +kernel))
theorem tw_5_112 : (Jvm.Cond.soleField "CueBookModel" "thrown") ∈ lw_tbl := in_t5 _ (List.mem_of_getElem? (i := 112) (by decide +kernel))
theorem tw_5_113 : (Jvm.Cond.lays "CueBookModel" "CueBookModel" "puppets" "I") ∈ lw_tbl := in_t5 _ (List.mem_of_getElem? (i := 113) (by decide +kernel))
theorem tw_5_114 : (Jvm.Cond.soleField "CueBookModel" "puppets") ∈ lw_tbl := in_t5 _ (List.mem_of_getElem? (i := 114) (by decide +kernel))
theorem tw_5_115 : (Jvm.Cond.laysFinal "CueBookModel" "CueBookModel" "weights" "[I") ∈ lw_tbl := in_t5 _ (List.mem_of_getElem? (i := 115) (by decide +kernel))
theorem tw_5_116 : (Jvm.Cond.soleField "CueBookModel" "weights") ∈ lw_tbl := in_t5 _ (List.mem_of_getElem? (i := 116) (by decide +kernel))
theorem tw_5_117 : (Jvm.Cond.laysFinal "CueBookModel" "CueBookModel" "needs" "[I") ∈ lw_tbl := in_t5 _ (List.mem_of_getElem? (i := 117) (by decide +kernel))
theorem tw_5_118 : (Jvm.Cond.soleField "CueBookModel" "needs") ∈ lw_tbl := in_t5 _ (List.mem_of_getElem? (i := 118) (by decide +kernel))
theorem tw_5_119 : (Jvm.Cond.lays "CueBookModel" "CueBookModel" "players" "I") ∈ lw_tbl := in_t5 _ (List.mem_of_getElem? (i := 119) (by decide +kernel))
theorem tw_5_120 : (Jvm.Cond.soleField "CueBookModel" "players") ∈ lw_tbl := in_t5 _ (List.mem_of_getElem? (i := 120) (by decide +kernel))
theorem tw_5_121 : (Jvm.Cond.laysFinal "CueBookModel" "CueBookModel" "strengths" "[I") ∈ lw_tbl := in_t5 _ (List.mem_of_getElem? (i := 121) (by decide +kernel))
theorem tw_5_122 : (Jvm.Cond.soleField "CueBookModel" "strengths") ∈ lw_tbl := in_t5 _ (List.mem_of_getElem? (i := 122) (by decide +kernel))
theorem tw_5_123 : (Jvm.Cond.laysFinal "CueBookModel" "CueBookModel" "homes" "[I") ∈ lw_tbl := in_t5 _ (List.mem_of_getElem? (i := 123) (by decide +kernel))
theorem tw_5_124 : (Jvm.Cond.soleField "CueBookModel" "homes") ∈ lw_tbl := in_t5 _ (List.mem_of_getElem? (i := 124) (by decide +kernel))
theorem tw_5_125 : (Jvm.Cond.lays "CueBookModel" "CueBookModel" "cues" "I") ∈ lw_tbl := in_t5 _ (List.mem_of_getElem? (i := 125) (by decide +kernel))
theorem tw_5_126 : (Jvm.Cond.soleField "CueBookModel" "cues") ∈ lw_tbl := in_t5 _ (List.mem_of_getElem? (i := 126) (by decide +kernel))
theorem tw_5_127 : (Jvm.Cond.laysFinal "CueBookModel" "CueBookModel" "table" "[I") ∈ lw_tbl := in_t5 _ (List.mem_of_getElem? (i := 127) (by decide +kernel))
theorem tw_5_128 : (Jvm.Cond.soleField "CueBookModel" "table") ∈ lw_tbl := in_t5 _ (List.mem_of_getElem? (i := 128) (by decide +kernel))
theorem tw_5_129 : (Jvm.Cond.laysFinal "CueBookModel" "CueBookModel" "areStruck" "[Z") ∈ lw_tbl := in_t5 _ (List.mem_of_getElem? (i := 129) (by decide +kernel))
theorem tw_5_130 : (Jvm.Cond.soleField "CueBookModel" "areStruck") ∈ lw_tbl := in_t5 _ (List.mem_of_getElem? (i := 130) (by decide +kernel))
theorem tw_5_131 : (Jvm.Cond.lays "CueBookModel" "CueBookModel" "struck" "I") ∈ lw_tbl := in_t5 _ (List.mem_of_getElem? (i := 131) (by decide +kernel))
theorem tw_5_132 : (Jvm.Cond.soleField "CueBookModel" "struck") ∈ lw_tbl := in_t5 _ (List.mem_of_getElem? (i := 132) (by decide +kernel))
theorem tw_5_133 : (Jvm.Cond.laysFinal "CueBookModel" "CueBookModel" "noted" "[I") ∈ lw_tbl := in_t5 _ (List.mem_of_getElem? (i := 133) (by decide +kernel))
theorem tw_5_134 : (Jvm.Cond.soleField "CueBookModel" "noted") ∈ lw_tbl := in_t5 _ (List.mem_of_getElem? (i := 134) (by decide +kernel))
theorem tw_5_135 : (Jvm.Cond.laysFinal "CueBookModel" "CueBookModel" "sums" "[I") ∈ lw_tbl := in_t5 _ (List.mem_of_getElem? (i := 135) (by decide +kernel))
theorem tw_5_136 : (Jvm.Cond.soleField "CueBookModel" "sums") ∈ lw_tbl := in_t5 _ (List.mem_of_getElem? (i := 136) (by decide +kernel))
theorem tw_5_137 : (Jvm.Cond.laysFinal "CueBookModel" "CueBookModel" "greatness" "[I") ∈ lw_tbl := in_t5 _ (List.mem_of_getElem? (i := 137) (by decide +kernel))
theorem tw_5_138 : (Jvm.Cond.soleField "CueBookModel" "greatness") ∈ lw_tbl := in_t5 _ (List.mem_of_getElem? (i := 138) (by decide +kernel))
theorem tw_5_139 : (Jvm.Cond.lays "CueBookModel" "CueBookModel" "isFresh" "Z") ∈ lw_tbl := in_t5 _ (List.mem_of_getElem? (i := 139) (by decide +kernel))
theorem tw_5_140 : (Jvm.Cond.soleField "CueBookModel" "isFresh") ∈ lw_tbl := in_t5 _ (List.mem_of_getElem? (i := 140) (by decide +kernel))
theorem tw_5_141 : (Jvm.Cond.laysFinal "CueBookModel" "CueBookModel" "places" "[I") ∈ lw_tbl := in_t5 _ (List.mem_of_getElem? (i := 141) (by decide +kernel))
theorem tw_5_142 : (Jvm.Cond.soleField "CueBookModel" "places") ∈ lw_tbl := in_t5 _ (List.mem_of_getElem? (i := 142) (by decide +kernel))
theorem tw_5_143 : (Jvm.Cond.laysFinal "CueBookModel" "CueBookModel" "tracks" "[I") ∈ lw_tbl := in_t5 _ (List.mem_of_getElem? (i := 143) (by decide +kernel))
theorem tw_5_144 : (Jvm.Cond.soleField "CueBookModel" "tracks") ∈ lw_tbl := in_t5 _ (List.mem_of_getElem? (i := 144) (by decide +kernel))
theorem tw_5_145 : (Jvm.Cond.laysFinal "CueBookModel" "CueBookModel" "stays" "[I") ∈ lw_tbl := in_t5 _ (List.mem_of_getElem? (i := 145) (by decide +kernel))
theorem tw_5_146 : (Jvm.Cond.soleField "CueBookModel" "stays") ∈ lw_tbl := in_t5 _ (List.mem_of_getElem? (i := 146) (by decide +kernel))
theorem tw_5_147 : (Jvm.Cond.laysFinal "CueBookModel" "CueBookModel" "manyStays" "[I") ∈ lw_tbl := in_t5 _ (List.mem_of_getElem? (i := 147) (by decide +kernel))
theorem tw_5_148 : (Jvm.Cond.soleField "CueBookModel" "manyStays") ∈ lw_tbl := in_t5 _ (List.mem_of_getElem? (i := 148) (by decide +kernel))
theorem tw_5_149 : (Jvm.Cond.laysFinal "CueBookModel" "CueBookModel" "begins" "[I") ∈ lw_tbl := in_t5 _ (List.mem_of_getElem? (i := 149) (by decide +kernel))
theorem tw_5_150 : (Jvm.Cond.soleField "CueBookModel" "begins") ∈ lw_tbl := in_t5 _ (List.mem_of_getElem? (i := 150) (by decide +kernel))
theorem tw_5_151 : (Jvm.Cond.laysFinal "CueBookModel" "CueBookModel" "ends" "[I") ∈ lw_tbl := in_t5 _ (List.mem_of_getElem? (i := 151) (by decide +kernel))
theorem tw_5_152 : (Jvm.Cond.soleField "CueBookModel" "ends") ∈ lw_tbl := in_t5 _ (List.mem_of_getElem? (i := 152) (by decide +kernel))
theorem tw_5_153 : (Jvm.Cond.laysFinal "CueBookModel" "CueBookModel" "cast" "[I") ∈ lw_tbl := in_t5 _ (List.mem_of_getElem? (i := 153) (by decide +kernel))
theorem tw_5_154 : (Jvm.Cond.soleField "CueBookModel" "cast") ∈ lw_tbl := in_t5 _ (List.mem_of_getElem? (i := 154) (by decide +kernel))
theorem tw_5_155 : (Jvm.Cond.superclass "CueBookModel" "java/lang/Object") ∈ lw_tbl := in_t5 _ (List.mem_of_getElem? (i := 155) (by decide +kernel))
theorem tw_5_156 : (Jvm.Cond.arrayClass Jvm.ClassFile.FieldType.boolean) ∈ lw_tbl := in_t5 _ (List.mem_of_getElem? (i := 156) (by decide +kernel))
theorem tw_5_157 : (Jvm.Cond.methodLink "CueBookLaw" (90 : Nat) ({ cls := "CueBookModel", name := "thrown", desc := "()I" } : Jvm.MethodName)) ∈ lw_tbl := in_t5 _ (List.mem_of_getElem? (i := 157) (by decide +kernel))
theorem tw_5_158 : (Jvm.Cond.instanceMethod ({ cls := "CueBookModel", name := "thrown", desc := "()I" } : Jvm.MethodName)) ∈ lw_tbl := in_t5 _ (List.mem_of_getElem? (i := 158) (by decide +kernel))
theorem tw_5_159 : (Jvm.Cond.selects "CueBookModel" ({ cls := "CueBookModel", name := "thrown", desc := "()I" } : Jvm.MethodName) ({ cls := "CueBookModel", name := "thrown", desc := "()I" } : Jvm.MethodName)) ∈ lw_tbl := in_t5 _ (List.mem_of_getElem? (i := 159) (by decide +kernel))
theorem tw_5_160 : (Jvm.Cond.code ({ cls := "CueBookModel", name := "thrown", desc := "()I" } : Jvm.MethodName) prog_8_method_2_code (1 : Nat) (Option.some Jvm.ClassFile.FieldType.int)) ∈ lw_tbl := in_t5 _ (List.mem_of_getElem? (i := 160) (by decide +kernel))
theorem tw_5_161 : (Jvm.Cond.methodLink "CueBookLaw" (89 : Nat) ({ cls := "CueBookModel", name := "addPuppet", desc := "(II)I" } : Jvm.MethodName)) ∈ lw_tbl := in_t5 _ (List.mem_of_getElem? (i := 161) (by decide +kernel))
theorem tw_5_162 : (Jvm.Cond.instanceMethod ({ cls := "CueBookModel", name := "addPuppet", desc := "(II)I" } : Jvm.MethodName)) ∈ lw_tbl := in_t5 _ (List.mem_of_getElem? (i := 162) (by decide +kernel))
theorem tw_5_163 : (Jvm.Cond.selects "CueBookModel" ({ cls := "CueBookModel", name := "addPuppet", desc := "(II)I" } : Jvm.MethodName) ({ cls := "CueBookModel", name := "addPuppet", desc := "(II)I" } : Jvm.MethodName)) ∈ lw_tbl := in_t5 _ (List.mem_of_getElem? (i := 163) (by decide +kernel))
theorem tw_5_164 : (Jvm.Cond.code ({ cls := "CueBookModel", name := "addPuppet", desc := "(II)I" } : Jvm.MethodName) prog_8_method_8_code (3 : Nat) (Option.some Jvm.ClassFile.FieldType.int)) ∈ lw_tbl := in_t5 _ (List.mem_of_getElem? (i := 164) (by decide +kernel))
theorem tw_5_165 : (Jvm.Cond.methodLink "CueBookModel" (66 : Nat) ({ cls := "CueBookModel", name := "isIn", desc := "(III)Z" } : Jvm.MethodName)) ∈ lw_tbl := in_t5 _ (List.mem_of_getElem? (i := 165) (by decide +kernel))
theorem tw_5_166 : (Jvm.Cond.static ({ cls := "CueBookModel", name := "isIn", desc := "(III)Z" } : Jvm.MethodName)) ∈ lw_tbl := in_t5 _ (List.mem_of_getElem? (i := 166) (by decide +kernel))
theorem tw_5_167 : (Jvm.Cond.code ({ cls := "CueBookModel", name := "isIn", desc := "(III)Z" } : Jvm.MethodName) prog_8_method_4_code (3 : Nat) (Option.some Jvm.ClassFile.FieldType.boolean)) ∈ lw_tbl := in_t5 _ (List.mem_of_getElem? (i := 167) (by decide +kernel))
theorem tw_5_168 : (Jvm.Cond.methodLink "CueBookModel" (73 : Nat) ({ cls := "CueBookModel", name := "fail", desc := "(I)I" } : Jvm.MethodName)) ∈ lw_tbl := in_t5 _ (List.mem_of_getElem? (i := 168) (by decide +kernel))
theorem tw_5_169 : (Jvm.Cond.privateMethod ({ cls := "CueBookModel", name := "fail", desc := "(I)I" } : Jvm.MethodName)) ∈ lw_tbl := in_t5 _ (List.mem_of_getElem? (i := 169) (by decide +kernel))
theorem tw_5_170 : (Jvm.Cond.instanceMethod ({ cls := "CueBookModel", name := "fail", desc := "(I)I" } : Jvm.MethodName)) ∈ lw_tbl := in_t5 _ (List.mem_of_getElem? (i := 170) (by decide +kernel))
theorem tw_5_171 : (Jvm.Cond.code ({ cls := "CueBookModel", name := "fail", desc := "(I)I" } : Jvm.MethodName) prog_8_method_3_code (2 : Nat) (Option.some Jvm.ClassFile.FieldType.int)) ∈ lw_tbl := in_t5 _ (List.mem_of_getElem? (i := 171) (by decide +kernel))
theorem tw_5_172 : (Jvm.Cond.methodLink "CueBookLaw" (96 : Nat) ({ cls := "CueBookModel", name := "addPlayer", desc := "(II)I" } : Jvm.MethodName)) ∈ lw_tbl := in_t5 _ (List.mem_of_getElem? (i := 172) (by decide +kernel))
theorem tw_5_173 : (Jvm.Cond.instanceMethod ({ cls := "CueBookModel", name := "addPlayer", desc := "(II)I" } : Jvm.MethodName)) ∈ lw_tbl := in_t5 _ (List.mem_of_getElem? (i := 173) (by decide +kernel))
theorem tw_5_174 : (Jvm.Cond.selects "CueBookModel" ({ cls := "CueBookModel", name := "addPlayer", desc := "(II)I" } : Jvm.MethodName) ({ cls := "CueBookModel", name := "addPlayer", desc := "(II)I" } : Jvm.MethodName)) ∈ lw_tbl := in_t5 _ (List.mem_of_getElem? (i := 174) (by decide +kernel))
theorem tw_5_175 : (Jvm.Cond.code ({ cls := "CueBookModel", name := "addPlayer", desc := "(II)I" } : Jvm.MethodName) prog_8_method_9_code (3 : Nat) (Option.some Jvm.ClassFile.FieldType.int)) ∈ lw_tbl := in_t5 _ (List.mem_of_getElem? (i := 175) (by decide +kernel))
theorem tw_5_176 : (Jvm.Cond.methodLink "CueBookLaw" (100 : Nat) ({ cls := "CueBookModel", name := "enter", desc := "(IIII)I" } : Jvm.MethodName)) ∈ lw_tbl := in_t5 _ (List.mem_of_getElem? (i := 176) (by decide +kernel))
theorem tw_5_177 : (Jvm.Cond.instanceMethod ({ cls := "CueBookModel", name := "enter", desc := "(IIII)I" } : Jvm.MethodName)) ∈ lw_tbl := in_t5 _ (List.mem_of_getElem? (i := 177) (by decide +kernel))
theorem tw_5_178 : (Jvm.Cond.selects "CueBookModel" ({ cls := "CueBookModel", name := "enter", desc := "(IIII)I" } : Jvm.MethodName) ({ cls := "CueBookModel", name := "enter", desc := "(IIII)I" } : Jvm.MethodName)) ∈ lw_tbl := in_t5 _ (List.mem_of_getElem? (i := 178) (by decide +kernel))
theorem tw_5_179 : (Jvm.Cond.code ({ cls := "CueBookModel", name := "enter", desc := "(IIII)I" } : Jvm.MethodName) prog_8_method_17_code (5 : Nat) (Option.some Jvm.ClassFile.FieldType.int)) ∈ lw_tbl := in_t5 _ (List.mem_of_getElem? (i := 179) (by decide +kernel))
theorem tw_5_180 : (Jvm.Cond.methodLink "CueBookModel" (117 : Nat) ({ cls := "CueBookModel", name := "written", desc := "(IIIII)I" } : Jvm.MethodName)) ∈ lw_tbl := in_t5 _ (List.mem_of_getElem? (i := 180) (by decide +kernel))
theorem tw_5_181 : (Jvm.Cond.privateMethod ({ cls := "CueBookModel", name := "written", desc := "(IIIII)I" } : Jvm.MethodName)) ∈ lw_tbl := in_t5 _ (List.mem_of_getElem? (i := 181) (by decide +kernel))
theorem tw_5_182 : (Jvm.Cond.instanceMethod ({ cls := "CueBookModel", name := "written", desc := "(IIIII)I" } : Jvm.MethodName)) ∈ lw_tbl := in_t5 _ (List.mem_of_getElem? (i := 182) (by decide +kernel))
theorem tw_5_183 : (Jvm.Cond.code ({ cls := "CueBookModel", name := "written", desc := "(IIIII)I" } : Jvm.MethodName) prog_8_method_16_code (8 : Nat) (Option.some Jvm.ClassFile.FieldType.int)) ∈ lw_tbl := in_t5 _ (List.mem_of_getElem? (i := 183) (by decide +kernel))
theorem tw_5_184 : (Jvm.Cond.methodLink "CueBookModel" (107 : Nat) ({ cls := "CueBookModel", name := "isPuppet", desc := "(I)Z" } : Jvm.MethodName)) ∈ lw_tbl := in_t5 _ (List.mem_of_getElem? (i := 184) (by decide +kernel))
theorem tw_5_185 : (Jvm.Cond.privateMethod ({ cls := "CueBookModel", name := "isPuppet", desc := "(I)Z" } : Jvm.MethodName)) ∈ lw_tbl := in_t5 _ (List.mem_of_getElem? (i := 185) (by decide +kernel))
theorem tw_5_186 : (Jvm.Cond.instanceMethod ({ cls := "CueBookModel", name := "isPuppet", desc := "(I)Z" } : Jvm.MethodName)) ∈ lw_tbl := in_t5 _ (List.mem_of_getElem? (i := 186) (by decide +kernel))
theorem tw_5_187 : (Jvm.Cond.code ({ cls := "CueBookModel", name := "isPuppet", desc := "(I)Z" } : Jvm.MethodName) prog_8_method_5_code (2 : Nat) (Option.some Jvm.ClassFile.FieldType.boolean)) ∈ lw_tbl := in_t5 _ (List.mem_of_getElem? (i := 187) (by decide +kernel))
theorem tw_5_188 : (Jvm.Cond.methodLink "CueBookModel" (110 : Nat) ({ cls := "CueBookModel", name := "isBeat", desc := "(I)Z" } : Jvm.MethodName)) ∈ lw_tbl := in_t5 _ (List.mem_of_getElem? (i := 188) (by decide +kernel))
theorem tw_5_189 : (Jvm.Cond.static ({ cls := "CueBookModel", name := "isBeat", desc := "(I)Z" } : Jvm.MethodName)) ∈ lw_tbl := in_t5 _ (List.mem_of_getElem? (i := 189) (by decide +kernel))
theorem tw_5_190 : (Jvm.Cond.code ({ cls := "CueBookModel", name := "isBeat", desc := "(I)Z" } : Jvm.MethodName) prog_8_method_7_code (1 : Nat) (Option.some Jvm.ClassFile.FieldType.boolean)) ∈ lw_tbl := in_t5 _ (List.mem_of_getElem? (i := 190) (by decide +kernel))
theorem tw_5_191 : (Jvm.Cond.methodLink "CueBookModel" (113 : Nat) ({ cls := "CueBookModel", name := "write", desc := "(IIIII)I" } : Jvm.MethodName)) ∈ lw_tbl := in_t5 _ (List.mem_of_getElem? (i := 191) (by decide +kernel))
theorem tw_5_192 : (Jvm.Cond.privateMethod ({ cls := "CueBookModel", name := "write", desc := "(IIIII)I" } : Jvm.MethodName)) ∈ lw_tbl := in_t5 _ (List.mem_of_getElem? (i := 192) (by decide +kernel))
theorem tw_5_193 : (Jvm.Cond.instanceMethod ({ cls := "CueBookModel", name := "write", desc := "(IIIII)I" } : Jvm.MethodName)) ∈ lw_tbl := in_t5 _ (List.mem_of_getElem? (i := 193) (by decide +kernel))
theorem tw_5_194 : (Jvm.Cond.code ({ cls := "CueBookModel", name := "write", desc := "(IIIII)I" } : Jvm.MethodName) prog_8_method_15_code (7 : Nat) (Option.some Jvm.ClassFile.FieldType.int)) ∈ lw_tbl := in_t5 _ (List.mem_of_getElem? (i := 194) (by decide +kernel))
theorem tw_5_195 : (Jvm.Cond.methodLink "CueBookModel" (103 : Nat) ({ cls := "CueBookModel", name := "areRight", desc := "(I)Z" } : Jvm.MethodName)) ∈ lw_tbl := in_t5 _ (List.mem_of_getElem? (i := 195) (by decide +kernel))
theorem tw_5_196 : (Jvm.Cond.privateMethod ({ cls := "CueBookModel", name := "areRight", desc := "(I)Z" } : Jvm.MethodName)) ∈ lw_tbl := in_t5 _ (List.mem_of_getElem? (i := 196) (by decide +kernel))
theorem tw_5_197 : (Jvm.Cond.instanceMethod ({ cls := "CueBookModel", name := "areRight", desc := "(I)Z" } : Jvm.MethodName)) ∈ lw_tbl := in_t5 _ (List.mem_of_getElem? (i := 197) (by decide +kernel))
theorem tw_5_198 : (Jvm.Cond.code ({ cls := "CueBookModel", name := "areRight", desc := "(I)Z" } : Jvm.MethodName) prog_8_method_14_code (7 : Nat) (Option.some Jvm.ClassFile.FieldType.boolean)) ∈ lw_tbl := in_t5 _ (List.mem_of_getElem? (i := 198) (by decide +kernel))
theorem tw_5_199 : (Jvm.Cond.methodLink "CueBookModel" (91 : Nat) ({ cls := "CueBookModel", name := "behind", desc := "(II)I" } : Jvm.MethodName)) ∈ lw_tbl := in_t5 _ (List.mem_of_getElem? (i := 199) (by decide +kernel))
theorem tw_5_200 : (Jvm.Cond.privateMethod ({ cls := "CueBookModel", name := "behind", desc := "(II)I" } : Jvm.MethodName)) ∈ lw_tbl := in_t5 _ (List.mem_of_getElem? (i := 200) (by decide +kernel))
theorem tw_5_201 : (Jvm.Cond.instanceMethod ({ cls := "CueBookModel", name := "behind", desc := "(II)I" } : Jvm.MethodName)) ∈ lw_tbl := in_t5 _ (List.mem_of_getElem? (i := 201) (by decide +kernel))
theorem tw_5_202 : (Jvm.Cond.code ({ cls := "CueBookModel", name := "behind", desc := "(II)I" } : Jvm.MethodName) prog_8_method_12_code (5 : Nat) (Option.some Jvm.ClassFile.FieldType.int)) ∈ lw_tbl := in_t5 _ (List.mem_of_getElem? (i := 202) (by decide +kernel))
theorem tw_5_203 : (Jvm.Cond.methodLink "CueBookModel" (84 : Nat) ({ cls := "CueBookModel", name := "isBehind", desc := "(II)Z" } : Jvm.MethodName)) ∈ lw_tbl := in_t5 _ (List.mem_of_getElem? (i := 203) (by decide +kernel))
theorem tw_5_204 : (Jvm.Cond.privateMethod ({ cls := "CueBookModel", name := "isBehind", desc := "(II)Z" } : Jvm.MethodName)) ∈ lw_tbl := in_t5 _ (List.mem_of_getElem? (i := 204) (by decide +kernel))
theorem tw_5_205 : (Jvm.Cond.instanceMethod ({ cls := "CueBookModel", name := "isBehind", desc := "(II)Z" } : Jvm.MethodName)) ∈ lw_tbl := in_t5 _ (List.mem_of_getElem? (i := 205) (by decide +kernel))
theorem tw_5_206 : (Jvm.Cond.code ({ cls := "CueBookModel", name := "isBehind", desc := "(II)Z" } : Jvm.MethodName) prog_8_method_13_code (3 : Nat) (Option.some Jvm.ClassFile.FieldType.boolean)) ∈ lw_tbl := in_t5 _ (List.mem_of_getElem? (i := 206) (by decide +kernel))
theorem tw_5_207 : (Jvm.Cond.methodLink "CueBookModel" (88 : Nat) ({ cls := "CueBookModel", name := "beat", desc := "(I)I" } : Jvm.MethodName)) ∈ lw_tbl := in_t5 _ (List.mem_of_getElem? (i := 207) (by decide +kernel))
theorem tw_5_208 : (Jvm.Cond.privateMethod ({ cls := "CueBookModel", name := "beat", desc := "(I)I" } : Jvm.MethodName)) ∈ lw_tbl := in_t5 _ (List.mem_of_getElem? (i := 208) (by decide +kernel))
theorem tw_5_209 : (Jvm.Cond.instanceMethod ({ cls := "CueBookModel", name := "beat", desc := "(I)I" } : Jvm.MethodName)) ∈ lw_tbl := in_t5 _ (List.mem_of_getElem? (i := 209) (by decide +kernel))
theorem tw_5_210 : (Jvm.Cond.code ({ cls := "CueBookModel", name := "beat", desc := "(I)I" } : Jvm.MethodName) prog_8_method_11_code (2 : Nat) (Option.some Jvm.ClassFile.FieldType.int)) ∈ lw_tbl := in_t5 _ (List.mem_of_getElem? (i := 210) (by decide +kernel))
theorem tw_5_211 : (Jvm.Cond.methodLink "CueBookModel" (95 : Nat) ({ cls := "CueBookModel", name := "kind", desc := "(I)I" } : Jvm.MethodName)) ∈ lw_tbl := in_t5 _ (List.mem_of_getElem? (i := 211) (by decide +kernel))
theorem tw_5_212 : (Jvm.Cond.privateMethod ({ cls := "CueBookModel", name := "kind", desc := "(I)I" } : Jvm.MethodName)) ∈ lw_tbl := in_t5 _ (List.mem_of_getElem? (i := 212) (by decide +kernel))
theorem tw_5_213 : (Jvm.Cond.instanceMethod ({ cls := "CueBookModel", name := "kind", desc := "(I)I" } : Jvm.MethodName)) ∈ lw_tbl := in_t5 _ (List.mem_of_getElem? (i := 213) (by decide +kernel))
theorem tw_5_214 : (Jvm.Cond.code ({ cls := "CueBookModel", name := "kind", desc := "(I)I" } : Jvm.MethodName) prog_8_method_10_code (2 : Nat) (Option.some Jvm.ClassFile.FieldType.int)) ∈ lw_tbl := in_t5 _ (List.mem_of_getElem? (i := 214) (by decide +kernel))
theorem tw_5_215 : (Jvm.Cond.methodLink "CueBookModel" (98 : Nat) ({ cls := "java/lang/Math", name := "abs", desc := "(I)I" } : Jvm.MethodName)) ∈ lw_tbl := in_t5 _ (List.mem_of_getElem? (i := 215) (by decide +kernel))
theorem tw_5_216 : (Jvm.Cond.methodLink "CueBookLaw" (104 : Nat) ({ cls := "CueBookModel", name := "move", desc := "(III)I" } : Jvm.MethodName)) ∈ lw_tbl := in_t5 _ (List.mem_of_getElem? (i := 216) (by decide +kernel))
theorem tw_5_217 : (Jvm.Cond.instanceMethod ({ cls := "CueBookModel", name := "move", desc := "(III)I" } : Jvm.MethodName)) ∈ lw_tbl := in_t5 _ (List.mem_of_getElem? (i := 217) (by decide +kernel))
theorem tw_5_218 : (Jvm.Cond.selects "CueBookModel" ({ cls := "CueBookModel", name := "move", desc := "(III)I" } : Jvm.MethodName) ({ cls := "CueBookModel", name := "move", desc := "(III)I" } : Jvm.MethodName)) ∈ lw_tbl := in_t5 _ (List.mem_of_getElem? (i := 218) (by decide +kernel))
theorem tw_5_219 : (Jvm.Cond.code ({ cls := "CueBookModel", name := "move", desc := "(III)I" } : Jvm.MethodName) prog_8_method_18_code (4 : Nat) (Option.some Jvm.ClassFile.FieldType.int)) ∈ lw_tbl := in_t5 _ (List.mem_of_getElem? (i := 219) (by decide +kernel))
theorem tw_5_220 : (Jvm.Cond.methodLink "CueBookLaw" (107 : Nat) ({ cls := "CueBookModel", name := "shift", desc := "(III)I" } : Jvm.MethodName)) ∈ lw_tbl := in_t5 _ (List.mem_of_getElem? (i := 220) (by decide +kernel))
theorem tw_5_221 : (Jvm.Cond.instanceMethod ({ cls := "CueBookModel", name := "shift", desc := "(III)I" } : Jvm.MethodName)) ∈ lw_tbl := in_t5 _ (List.mem_of_getElem? (i := 221) (by decide +kernel))
theorem tw_5_222 : (Jvm.Cond.selects "CueBookModel" ({ cls := "CueBookModel", name := "shift", desc := "(III)I" } : Jvm.MethodName) ({ cls := "CueBookModel", name := "shift", desc := "(III)I" } : Jvm.MethodName)) ∈ lw_tbl := in_t5 _ (List.mem_of_getElem? (i := 222) (by decide +kernel))
theorem tw_5_223 : (Jvm.Cond.code ({ cls := "CueBookModel", name := "shift", desc := "(III)I" } : Jvm.MethodName) prog_8_method_19_code (4 : Nat) (Option.some Jvm.ClassFile.FieldType.int)) ∈ lw_tbl := in_t5 _ (List.mem_of_getElem? (i := 223) (by decide +kernel))
theorem tw_5_224 : (Jvm.Cond.methodLink "CueBookLaw" (110 : Nat) ({ cls := "CueBookModel", name := "leave", desc := "(II)I" } : Jvm.MethodName)) ∈ lw_tbl := in_t5 _ (List.mem_of_getElem? (i := 224) (by decide +kernel))
theorem tw_5_225 : (Jvm.Cond.instanceMethod ({ cls := "CueBookModel", name := "leave", desc := "(II)I" } : Jvm.MethodName)) ∈ lw_tbl := in_t5 _ (List.mem_of_getElem? (i := 225) (by decide +kernel))
theorem tw_5_226 : (Jvm.Cond.selects "CueBookModel" ({ cls := "CueBookModel", name := "leave", desc := "(II)I" } : Jvm.MethodName) ({ cls := "CueBookModel", name := "leave", desc := "(II)I" } : Jvm.MethodName)) ∈ lw_tbl := in_t5 _ (List.mem_of_getElem? (i := 226) (by decide +kernel))
theorem tw_5_227 : (Jvm.Cond.code ({ cls := "CueBookModel", name := "leave", desc := "(II)I" } : Jvm.MethodName) prog_8_method_20_code (3 : Nat) (Option.some Jvm.ClassFile.FieldType.int)) ∈ lw_tbl := in_t5 _ (List.mem_of_getElem? (i := 227) (by decide +kernel))
theorem tw_5_228 : (Jvm.Cond.methodLink "CueBookLaw" (114 : Nat) ({ cls := "CueBookModel", name := "strike", desc := "(I)I" } : Jvm.MethodName)) ∈ lw_tbl := in_t5 _ (List.mem_of_getElem? (i := 228) (by decide +kernel))
theorem tw_5_229 : (Jvm.Cond.instanceMethod ({ cls := "CueBookModel", name := "strike", desc := "(I)I" } : Jvm.MethodName)) ∈ lw_tbl := in_t5 _ (List.mem_of_getElem? (i := 229) (by decide +kernel))
theorem tw_5_230 : (Jvm.Cond.selects "CueBookModel" ({ cls := "CueBookModel", name := "strike", desc := "(I)I" } : Jvm.MethodName) ({ cls := "CueBookModel", name := "strike", desc := "(I)I" } : Jvm.MethodName)) ∈ lw_tbl := in_t5 _ (List.mem_of_getElem? (i := 230) (by decide +kernel))
theorem tw_5_231 : (Jvm.Cond.code ({ cls := "CueBookModel", name := "strike", desc := "(I)I" } : Jvm.MethodName) prog_8_method_22_code (5 : Nat) (Option.some Jvm.ClassFile.FieldType.int)) ∈ lw_tbl := in_t5 _ (List.mem_of_getElem? (i := 231) (by decide +kernel))
theorem tw_5_232 : (Jvm.Cond.methodLink "CueBookModel" (120 : Nat) ({ cls := "CueBookModel", name := "isCue", desc := "(I)Z" } : Jvm.MethodName)) ∈ lw_tbl := in_t5 _ (List.mem_of_getElem? (i := 232) (by decide +kernel))
theorem tw_5_233 : (Jvm.Cond.privateMethod ({ cls := "CueBookModel", name := "isCue", desc := "(I)Z" } : Jvm.MethodName)) ∈ lw_tbl := in_t5 _ (List.mem_of_getElem? (i := 233) (by decide +kernel))
theorem tw_5_234 : (Jvm.Cond.instanceMethod ({ cls := "CueBookModel", name := "isCue", desc := "(I)Z" } : Jvm.MethodName)) ∈ lw_tbl := in_t5 _ (List.mem_of_getElem? (i := 234) (by decide +kernel))
theorem tw_5_235 : (Jvm.Cond.code ({ cls := "CueBookModel", name := "isCue", desc := "(I)Z" } : Jvm.MethodName) prog_8_method_21_code (2 : Nat) (Option.some Jvm.ClassFile.FieldType.boolean)) ∈ lw_tbl := in_t5 _ (List.mem_of_getElem? (i := 235) (by decide +kernel))
theorem tw_5_236 : (Jvm.Cond.methodLink "CueBookLaw" (117 : Nat) ({ cls := "CueBookModel", name := "count", desc := "(I)I" } : Jvm.MethodName)) ∈ lw_tbl := in_t5 _ (List.mem_of_getElem? (i := 236) (by decide +kernel))
theorem tw_5_237 : (Jvm.Cond.instanceMethod ({ cls := "CueBookModel", name := "count", desc := "(I)I" } : Jvm.MethodName)) ∈ lw_tbl := in_t5 _ (List.mem_of_getElem? (i := 237) (by decide +kernel))
theorem tw_5_238 : (Jvm.Cond.selects "CueBookModel" ({ cls := "CueBookModel", name := "count", desc := "(I)I" } : Jvm.MethodName) ({ cls := "CueBookModel", name := "count", desc := "(I)I" } : Jvm.MethodName)) ∈ lw_tbl := in_t5 _ (List.mem_of_getElem? (i := 238) (by decide +kernel))
theorem tw_5_239 : (Jvm.Cond.code ({ cls := "CueBookModel", name := "count", desc := "(I)I" } : Jvm.MethodName) prog_8_method_23_code (2 : Nat) (Option.some Jvm.ClassFile.FieldType.int)) ∈ lw_tbl := in_t5 _ (List.mem_of_getElem? (i := 239) (by decide +kernel))
theorem tw_6_0 : (Jvm.Cond.methodLink "CueBookLaw" (120 : Nat) ({ cls := "CueBookModel", name := "cue", desc := "(II)I" } : Jvm.MethodName)) ∈ lw_tbl := in_t6 _ (List.mem_of_getElem? (i := 0) (by decide +kernel))
theorem tw_6_1 : (Jvm.Cond.instanceMethod ({ cls := "CueBookModel", name := "cue", desc := "(II)I" } : Jvm.MethodName)) ∈ lw_tbl := in_t6 _ (List.mem_of_getElem? (i := 1) (by decide +kernel))
theorem tw_6_2 : (Jvm.Cond.selects "CueBookModel" ({ cls := "CueBookModel", name := "cue", desc := "(II)I" } : Jvm.MethodName) ({ cls := "CueBookModel", name := "cue", desc := "(II)I" } : Jvm.MethodName)) ∈ lw_tbl := in_t6 _ (List.mem_of_getElem? (i := 2) (by decide +kernel))
theorem tw_6_3 : (Jvm.Cond.code ({ cls := "CueBookModel", name := "cue", desc := "(II)I" } : Jvm.MethodName) prog_8_method_24_code (3 : Nat) (Option.some Jvm.ClassFile.FieldType.int)) ∈ lw_tbl := in_t6 _ (List.mem_of_getElem? (i := 3) (by decide +kernel))
theorem tw_6_4 : (Jvm.Cond.methodLink "CueBookLaw" (123 : Nat) ({ cls := "CueBookModel", name := "place", desc := "(II)I" } : Jvm.MethodName)) ∈ lw_tbl := in_t6 _ (List.mem_of_getElem? (i := 4) (by decide +kernel))
theorem tw_6_5 : (Jvm.Cond.instanceMethod ({ cls := "CueBookModel", name := "place", desc := "(II)I" } : Jvm.MethodName)) ∈ lw_tbl := in_t6 _ (List.mem_of_getElem? (i := 5) (by decide +kernel))
theorem tw_6_6 : (Jvm.Cond.selects "CueBookModel" ({ cls := "CueBookModel", name := "place", desc := "(II)I" } : Jvm.MethodName) ({ cls := "CueBookModel", name := "place", desc := "(II)I" } : Jvm.MethodName)) ∈ lw_tbl := in_t6 _ (List.mem_of_getElem? (i := 6) (by decide +kernel))
theorem tw_6_7 : (Jvm.Cond.code ({ cls := "CueBookModel", name := "place", desc := "(II)I" } : Jvm.MethodName) prog_8_method_33_code (3 : Nat) (Option.some Jvm.ClassFile.FieldType.int)) ∈ lw_tbl := in_t6 _ (List.mem_of_getElem? (i := 7) (by decide +kernel))
theorem tw_6_8 : (Jvm.Cond.methodLink "CueBookModel" (144 : Nat) ({ cls := "CueBookModel", name := "whyBeat", desc := "(I)I" } : Jvm.MethodName)) ∈ lw_tbl := in_t6 _ (List.mem_of_getElem? (i := 8) (by decide +kernel))
theorem tw_6_9 : (Jvm.Cond.privateMethod ({ cls := "CueBookModel", name := "whyBeat", desc := "(I)I" } : Jvm.MethodName)) ∈ lw_tbl := in_t6 _ (List.mem_of_getElem? (i := 9) (by decide +kernel))
theorem tw_6_10 : (Jvm.Cond.instanceMethod ({ cls := "CueBookModel", name := "whyBeat", desc := "(I)I" } : Jvm.MethodName)) ∈ lw_tbl := in_t6 _ (List.mem_of_getElem? (i := 10) (by decide +kernel))
theorem tw_6_11 : (Jvm.Cond.code ({ cls := "CueBookModel", name := "whyBeat", desc := "(I)I" } : Jvm.MethodName) prog_8_method_32_code (2 : Nat) (Option.some Jvm.ClassFile.FieldType.int)) ∈ lw_tbl := in_t6 _ (List.mem_of_getElem? (i := 11) (by decide +kernel))
theorem tw_6_12 : (Jvm.Cond.methodLink "CueBookModel" (147 : Nat) ({ cls := "CueBookModel", name := "workOut", desc := "()V" } : Jvm.MethodName)) ∈ lw_tbl := in_t6 _ (List.mem_of_getElem? (i := 12) (by decide +kernel))
theorem tw_6_13 : (Jvm.Cond.privateMethod ({ cls := "CueBookModel", name := "workOut", desc := "()V" } : Jvm.MethodName)) ∈ lw_tbl := in_t6 _ (List.mem_of_getElem? (i := 13) (by decide +kernel))
theorem tw_6_14 : (Jvm.Cond.instanceMethod ({ cls := "CueBookModel", name := "workOut", desc := "()V" } : Jvm.MethodName)) ∈ lw_tbl := in_t6 _ (List.mem_of_getElem? (i := 14) (by decide +kernel))
theorem tw_6_15 : (Jvm.Cond.code ({ cls := "CueBookModel", name := "workOut", desc := "()V" } : Jvm.MethodName) prog_8_method_25_code (2 : Nat) (Option.none : Option Jvm.ClassFile.FieldType)) ∈ lw_tbl := in_t6 _ (List.mem_of_getElem? (i := 15) (by decide +kernel))
theorem tw_6_16 : (Jvm.Cond.methodLink "CueBookModel" (126 : Nat) ({ cls := "CueBookModel", name := "workOut", desc := "(I)V" } : Jvm.MethodName)) ∈ lw_tbl := in_t6 _ (List.mem_of_getElem? (i := 16) (by decide +kernel))
theorem tw_6_17 : (Jvm.Cond.privateMethod ({ cls := "CueBookModel", name := "workOut", desc := "(I)V" } : Jvm.MethodName)) ∈ lw_tbl := in_t6 _ (List.mem_of_getElem? (i := 17) (by decide +kernel))
theorem tw_6_18 : (Jvm.Cond.instanceMethod ({ cls := "CueBookModel", name := "workOut", desc := "(I)V" } : Jvm.MethodName)) ∈ lw_tbl := in_t6 _ (List.mem_of_getElem? (i := 18) (by decide +kernel))
theorem tw_6_19 : (Jvm.Cond.code ({ cls := "CueBookModel", name := "workOut", desc := "(I)V" } : Jvm.MethodName) prog_8_method_26_code (8 : Nat) (Option.none : Option Jvm.ClassFile.FieldType)) ∈ lw_tbl := in_t6 _ (List.mem_of_getElem? (i := 19) (by decide +kernel))
theorem tw_6_20 : (Jvm.Cond.methodLink "CueBookModel" (133 : Nat) ({ cls := "java/lang/Integer", name := "signum", desc := "(I)I" } : Jvm.MethodName)) ∈ lw_tbl := in_t6 _ (List.mem_of_getElem? (i := 20) (by decide +kernel))
theorem tw_6_21 : (Jvm.Cond.static ({ cls := "java/lang/Integer", name := "signum", desc := "(I)I" } : Jvm.MethodName)) ∈ lw_tbl := in_t6 _ (List.mem_of_getElem? (i := 21) (by decide +kernel))
theorem tw_6_22 : (Jvm.Cond.code ({ cls := "java/lang/Integer", name := "signum", desc := "(I)I" } : Jvm.MethodName) prog_19_method_56_code (1 : Nat) (Option.some Jvm.ClassFile.FieldType.int)) ∈ lw_tbl := in_t6 _ (List.mem_of_getElem? (i := 22) (by decide +kernel))
theorem tw_6_23 : (Jvm.Cond.methodLink "CueBookModel" (130 : Nat) ({ cls := "CueBookModel", name := "castAll", desc := "()V" } : Jvm.MethodName)) ∈ lw_tbl := in_t6 _ (List.mem_of_getElem? (i := 23) (by decide +kernel))
theorem tw_6_24 : (Jvm.Cond.privateMethod ({ cls := "CueBookModel", name := "castAll", desc := "()V" } : Jvm.MethodName)) ∈ lw_tbl := in_t6 _ (List.mem_of_getElem? (i := 24) (by decide +kernel))
theorem tw_6_25 : (Jvm.Cond.instanceMethod ({ cls := "CueBookModel", name := "castAll", desc := "()V" } : Jvm.MethodName)) ∈ lw_tbl := in_t6 _ (List.mem_of_getElem? (i := 25) (by decide +kernel))
theorem tw_6_26 : (Jvm.Cond.code ({ cls := "CueBookModel", name := "castAll", desc := "()V" } : Jvm.MethodName) prog_8_method_29_code (6 : Nat) (Option.none : Option Jvm.ClassFile.FieldType)) ∈ lw_tbl := in_t6 _ (List.mem_of_getElem? (i := 26) (by decide +kernel))
theorem tw_6_27 : (Jvm.Cond.methodLink "CueBookModel" (141 : Nat) ({ cls := "CueBookModel", name := "canDo", desc := "(I)Z" } : Jvm.MethodName)) ∈ lw_tbl := in_t6 _ (List.mem_of_getElem? (i := 27) (by decide +kernel))
theorem tw_6_28 : (Jvm.Cond.privateMethod ({ cls := "CueBookModel", name := "canDo", desc := "(I)Z" } : Jvm.MethodName)) ∈ lw_tbl := in_t6 _ (List.mem_of_getElem? (i := 28) (by decide +kernel))
theorem tw_6_29 : (Jvm.Cond.instanceMethod ({ cls := "CueBookModel", name := "canDo", desc := "(I)Z" } : Jvm.MethodName)) ∈ lw_tbl := in_t6 _ (List.mem_of_getElem? (i := 29) (by decide +kernel))
theorem tw_6_30 : (Jvm.Cond.code ({ cls := "CueBookModel", name := "canDo", desc := "(I)Z" } : Jvm.MethodName) prog_8_method_28_code (9 : Nat) (Option.some Jvm.ClassFile.FieldType.boolean)) ∈ lw_tbl := in_t6 _ (List.mem_of_getElem? (i := 30) (by decide +kernel))
theorem tw_6_31 : (Jvm.Cond.methodLink "CueBookModel" (138 : Nat) ({ cls := "CueBookModel", name := "playerAt", desc := "(II)I" } : Jvm.MethodName)) ∈ lw_tbl := in_t6 _ (List.mem_of_getElem? (i := 31) (by decide +kernel))
theorem tw_6_32 : (Jvm.Cond.privateMethod ({ cls := "CueBookModel", name := "playerAt", desc := "(II)I" } : Jvm.MethodName)) ∈ lw_tbl := in_t6 _ (List.mem_of_getElem? (i := 32) (by decide +kernel))
theorem tw_6_33 : (Jvm.Cond.instanceMethod ({ cls := "CueBookModel", name := "playerAt", desc := "(II)I" } : Jvm.MethodName)) ∈ lw_tbl := in_t6 _ (List.mem_of_getElem? (i := 33) (by decide +kernel))
theorem tw_6_34 : (Jvm.Cond.code ({ cls := "CueBookModel", name := "playerAt", desc := "(II)I" } : Jvm.MethodName) prog_8_method_27_code (3 : Nat) (Option.some Jvm.ClassFile.FieldType.int)) ∈ lw_tbl := in_t6 _ (List.mem_of_getElem? (i := 34) (by decide +kernel))
theorem tw_6_35 : (Jvm.Cond.methodLink "CueBookModel" (149 : Nat) ({ cls := "CueBookModel", name := "placeAt", desc := "(II)I" } : Jvm.MethodName)) ∈ lw_tbl := in_t6 _ (List.mem_of_getElem? (i := 35) (by decide +kernel))
theorem tw_6_36 : (Jvm.Cond.privateMethod ({ cls := "CueBookModel", name := "placeAt", desc := "(II)I" } : Jvm.MethodName)) ∈ lw_tbl := in_t6 _ (List.mem_of_getElem? (i := 36) (by decide +kernel))
theorem tw_6_37 : (Jvm.Cond.instanceMethod ({ cls := "CueBookModel", name := "placeAt", desc := "(II)I" } : Jvm.MethodName)) ∈ lw_tbl := in_t6 _ (List.mem_of_getElem? (i := 37) (by decide +kernel))
theorem tw_6_38 : (Jvm.Cond.code ({ cls := "CueBookModel", name := "placeAt", desc := "(II)I" } : Jvm.MethodName) prog_8_method_30_code (3 : Nat) (Option.some Jvm.ClassFile.FieldType.int)) ∈ lw_tbl := in_t6 _ (List.mem_of_getElem? (i := 38) (by decide +kernel))
theorem tw_6_39 : (Jvm.Cond.methodLink "CueBookLaw" (126 : Nat) ({ cls := "CueBookModel", name := "track", desc := "(II)I" } : Jvm.MethodName)) ∈ lw_tbl := in_t6 _ (List.mem_of_getElem? (i := 39) (by decide +kernel))
theorem tw_6_40 : (Jvm.Cond.instanceMethod ({ cls := "CueBookModel", name := "track", desc := "(II)I" } : Jvm.MethodName)) ∈ lw_tbl := in_t6 _ (List.mem_of_getElem? (i := 40) (by decide +kernel))
theorem tw_6_41 : (Jvm.Cond.selects "CueBookModel" ({ cls := "CueBookModel", name := "track", desc := "(II)I" } : Jvm.MethodName) ({ cls := "CueBookModel", name := "track", desc := "(II)I" } : Jvm.MethodName)) ∈ lw_tbl := in_t6 _ (List.mem_of_getElem? (i := 41) (by decide +kernel))
theorem tw_6_42 : (Jvm.Cond.code ({ cls := "CueBookModel", name := "track", desc := "(II)I" } : Jvm.MethodName) prog_8_method_34_code (3 : Nat) (Option.some Jvm.ClassFile.FieldType.int)) ∈ lw_tbl := in_t6 _ (List.mem_of_getElem? (i := 42) (by decide +kernel))
theorem tw_6_43 : (Jvm.Cond.methodLink "CueBookModel" (152 : Nat) ({ cls := "CueBookModel", name := "trackAt", desc := "(II)I" } : Jvm.MethodName)) ∈ lw_tbl := in_t6 _ (List.mem_of_getElem? (i := 43) (by decide +kernel))
theorem tw_6_44 : (Jvm.Cond.privateMethod ({ cls := "CueBookModel", name := "trackAt", desc := "(II)I" } : Jvm.MethodName)) ∈ lw_tbl := in_t6 _ (List.mem_of_getElem? (i := 44) (by decide +kernel))
theorem tw_6_45 : (Jvm.Cond.instanceMethod ({ cls := "CueBookModel", name := "trackAt", desc := "(II)I" } : Jvm.MethodName)) ∈ lw_tbl := in_t6 _ (List.mem_of_getElem? (i := 45) (by decide +kernel))
theorem tw_6_46 : (Jvm.Cond.code ({ cls := "CueBookModel", name := "trackAt", desc := "(II)I" } : Jvm.MethodName) prog_8_method_31_code (3 : Nat) (Option.some Jvm.ClassFile.FieldType.int)) ∈ lw_tbl := in_t6 _ (List.mem_of_getElem? (i := 46) (by decide +kernel))
theorem tw_6_47 : (Jvm.Cond.methodLink "CueBookLaw" (129 : Nat) ({ cls := "CueBookModel", name := "onStage", desc := "(I)I" } : Jvm.MethodName)) ∈ lw_tbl := in_t6 _ (List.mem_of_getElem? (i := 47) (by decide +kernel))
theorem tw_6_48 : (Jvm.Cond.instanceMethod ({ cls := "CueBookModel", name := "onStage", desc := "(I)I" } : Jvm.MethodName)) ∈ lw_tbl := in_t6 _ (List.mem_of_getElem? (i := 48) (by decide +kernel))
theorem tw_6_49 : (Jvm.Cond.selects "CueBookModel" ({ cls := "CueBookModel", name := "onStage", desc := "(I)I" } : Jvm.MethodName) ({ cls := "CueBookModel", name := "onStage", desc := "(I)I" } : Jvm.MethodName)) ∈ lw_tbl := in_t6 _ (List.mem_of_getElem? (i := 49) (by decide +kernel))
theorem tw_6_50 : (Jvm.Cond.code ({ cls := "CueBookModel", name := "onStage", desc := "(I)I" } : Jvm.MethodName) prog_8_method_35_code (4 : Nat) (Option.some Jvm.ClassFile.FieldType.int)) ∈ lw_tbl := in_t6 _ (List.mem_of_getElem? (i := 50) (by decide +kernel))
theorem tw_6_51 : (Jvm.Cond.methodLink "CueBookLaw" (132 : Nat) ({ cls := "CueBookModel", name := "clash", desc := "(II)I" } : Jvm.MethodName)) ∈ lw_tbl := in_t6 _ (List.mem_of_getElem? (i := 51) (by decide +kernel))
theorem tw_6_52 : (Jvm.Cond.instanceMethod ({ cls := "CueBookModel", name := "clash", desc := "(II)I" } : Jvm.MethodName)) ∈ lw_tbl := in_t6 _ (List.mem_of_getElem? (i := 52) (by decide +kernel))
theorem tw_6_53 : (Jvm.Cond.selects "CueBookModel" ({ cls := "CueBookModel", name := "clash", desc := "(II)I" } : Jvm.MethodName) ({ cls := "CueBookModel", name := "clash", desc := "(II)I" } : Jvm.MethodName)) ∈ lw_tbl := in_t6 _ (List.mem_of_getElem? (i := 53) (by decide +kernel))
theorem tw_6_54 : (Jvm.Cond.code ({ cls := "CueBookModel", name := "clash", desc := "(II)I" } : Jvm.MethodName) prog_8_method_38_code (3 : Nat) (Option.some Jvm.ClassFile.FieldType.int)) ∈ lw_tbl := in_t6 _ (List.mem_of_getElem? (i := 54) (by decide +kernel))
theorem tw_6_55 : (Jvm.Cond.methodLink "CueBookModel" (158 : Nat) ({ cls := "CueBookModel", name := "firstClash", desc := "(II)I" } : Jvm.MethodName)) ∈ lw_tbl := in_t6 _ (List.mem_of_getElem? (i := 55) (by decide +kernel))
theorem tw_6_56 : (Jvm.Cond.privateMethod ({ cls := "CueBookModel", name := "firstClash", desc := "(II)I" } : Jvm.MethodName)) ∈ lw_tbl := in_t6 _ (List.mem_of_getElem? (i := 56) (by decide +kernel))
theorem tw_6_57 : (Jvm.Cond.instanceMethod ({ cls := "CueBookModel", name := "firstClash", desc := "(II)I" } : Jvm.MethodName)) ∈ lw_tbl := in_t6 _ (List.mem_of_getElem? (i := 57) (by decide +kernel))
theorem tw_6_58 : (Jvm.Cond.code ({ cls := "CueBookModel", name := "firstClash", desc := "(II)I" } : Jvm.MethodName) prog_8_method_37_code (4 : Nat) (Option.some Jvm.ClassFile.FieldType.int)) ∈ lw_tbl := in_t6 _ (List.mem_of_getElem? (i := 58) (by decide +kernel))
theorem tw_6_59 : (Jvm.Cond.methodLink "CueBookModel" (155 : Nat) ({ cls := "CueBookModel", name := "areOnOneTrack", desc := "(III)Z" } : Jvm.MethodName)) ∈ lw_tbl := in_t6 _ (List.mem_of_getElem? (i := 59) (by decide +kernel))
theorem tw_6_60 : (Jvm.Cond.privateMethod ({ cls := "CueBookModel", name := "areOnOneTrack", desc := "(III)Z" } : Jvm.MethodName)) ∈ lw_tbl := in_t6 _ (List.mem_of_getElem? (i := 60) (by decide +kernel))
theorem tw_6_61 : (Jvm.Cond.instanceMethod ({ cls := "CueBookModel", name := "areOnOneTrack", desc := "(III)Z" } : Jvm.MethodName)) ∈ lw_tbl := in_t6 _ (List.mem_of_getElem? (i := 61) (by decide +kernel))
theorem tw_6_62 : (Jvm.Cond.code ({ cls := "CueBookModel", name := "areOnOneTrack", desc := "(III)Z" } : Jvm.MethodName) prog_8_method_36_code (4 : Nat) (Option.some Jvm.ClassFile.FieldType.boolean)) ∈ lw_tbl := in_t6 _ (List.mem_of_getElem? (i := 62) (by decide +kernel))
theorem tw_6_63 : (Jvm.Cond.methodLink "CueBookLaw" (136 : Nat) ({ cls := "CueBookModel", name := "clashes", desc := "()I" } : Jvm.MethodName)) ∈ lw_tbl := in_t6 _ (List.mem_of_getElem? (i := 63) (by decide +kernel))
theorem tw_6_64 : (Jvm.Cond.instanceMethod ({ cls := "CueBookModel", name := "clashes", desc := "()I" } : Jvm.MethodName)) ∈ lw_tbl := in_t6 _ (List.mem_of_getElem? (i := 64) (by decide +kernel))
theorem tw_6_65 : (Jvm.Cond.selects "CueBookModel" ({ cls := "CueBookModel", name := "clashes", desc := "()I" } : Jvm.MethodName) ({ cls := "CueBookModel", name := "clashes", desc := "()I" } : Jvm.MethodName)) ∈ lw_tbl := in_t6 _ (List.mem_of_getElem? (i := 65) (by decide +kernel))
theorem tw_6_66 : (Jvm.Cond.code ({ cls := "CueBookModel", name := "clashes", desc := "()I" } : Jvm.MethodName) prog_8_method_40_code (1 : Nat) (Option.some Jvm.ClassFile.FieldType.int)) ∈ lw_tbl := in_t6 _ (List.mem_of_getElem? (i := 66) (by decide +kernel))
theorem tw_6_67 : (Jvm.Cond.methodLink "CueBookModel" (161 : Nat) ({ cls := "CueBookModel", name := "allClashes", desc := "()I" } : Jvm.MethodName)) ∈ lw_tbl := in_t6 _ (List.mem_of_getElem? (i := 67) (by decide +kernel))
theorem tw_6_68 : (Jvm.Cond.privateMethod ({ cls := "CueBookModel", name := "allClashes", desc := "()I" } : Jvm.MethodName)) ∈ lw_tbl := in_t6 _ (List.mem_of_getElem? (i := 68) (by decide +kernel))
theorem tw_6_69 : (Jvm.Cond.instanceMethod ({ cls := "CueBookModel", name := "allClashes", desc := "()I" } : Jvm.MethodName)) ∈ lw_tbl := in_t6 _ (List.mem_of_getElem? (i := 69) (by decide +kernel))
theorem tw_6_70 : (Jvm.Cond.code ({ cls := "CueBookModel", name := "allClashes", desc := "()I" } : Jvm.MethodName) prog_8_method_39_code (4 : Nat) (Option.some Jvm.ClassFile.FieldType.int)) ∈ lw_tbl := in_t6 _ (List.mem_of_getElem? (i := 70) (by decide +kernel))
theorem tw_6_71 : (Jvm.Cond.methodLink "CueBookLaw" (139 : Nat) ({ cls := "CueBookModel", name := "beats", desc := "(I)I" } : Jvm.MethodName)) ∈ lw_tbl := in_t6 _ (List.mem_of_getElem? (i := 71) (by decide +kernel))
theorem tw_6_72 : (Jvm.Cond.instanceMethod ({ cls := "CueBookModel", name := "beats", desc := "(I)I" } : Jvm.MethodName)) ∈ lw_tbl := in_t6 _ (List.mem_of_getElem? (i := 72) (by decide +kernel))
theorem tw_6_73 : (Jvm.Cond.selects "CueBookModel" ({ cls := "CueBookModel", name := "beats", desc := "(I)I" } : Jvm.MethodName) ({ cls := "CueBookModel", name := "beats", desc := "(I)I" } : Jvm.MethodName)) ∈ lw_tbl := in_t6 _ (List.mem_of_getElem? (i := 73) (by decide +kernel))
theorem tw_6_74 : (Jvm.Cond.code ({ cls := "CueBookModel", name := "beats", desc := "(I)I" } : Jvm.MethodName) prog_8_method_41_code (4 : Nat) (Option.some Jvm.ClassFile.FieldType.int)) ∈ lw_tbl := in_t6 _ (List.mem_of_getElem? (i := 74) (by decide +kernel))
theorem tw_6_75 : (Jvm.Cond.methodLink "CueBookLaw" (142 : Nat) ({ cls := "CueBookModel", name := "stays", desc := "(I)I" } : Jvm.MethodName)) ∈ lw_tbl := in_t6 _ (List.mem_of_getElem? (i := 75) (by decide +kernel))
theorem tw_6_76 : (Jvm.Cond.instanceMethod ({ cls := "CueBookModel", name := "stays", desc := "(I)I" } : Jvm.MethodName)) ∈ lw_tbl := in_t6 _ (List.mem_of_getElem? (i := 76) (by decide +kernel))
theorem tw_6_77 : (Jvm.Cond.selects "CueBookModel" ({ cls := "CueBookModel", name := "stays", desc := "(I)I" } : Jvm.MethodName) ({ cls := "CueBookModel", name := "stays", desc := "(I)I" } : Jvm.MethodName)) ∈ lw_tbl := in_t6 _ (List.mem_of_getElem? (i := 77) (by decide +kernel))
theorem tw_6_78 : (Jvm.Cond.code ({ cls := "CueBookModel", name := "stays", desc := "(I)I" } : Jvm.MethodName) prog_8_method_42_code (2 : Nat) (Option.some Jvm.ClassFile.FieldType.int)) ∈ lw_tbl := in_t6 _ (List.mem_of_getElem? (i := 78) (by decide +kernel))
theorem tw_6_79 : (Jvm.Cond.methodLink "CueBookLaw" (145 : Nat) ({ cls := "CueBookModel", name := "stay", desc := "(III)I" } : Jvm.MethodName)) ∈ lw_tbl := in_t6 _ (List.mem_of_getElem? (i := 79) (by decide +kernel))
theorem tw_6_80 : (Jvm.Cond.instanceMethod ({ cls := "CueBookModel", name := "stay", desc := "(III)I" } : Jvm.MethodName)) ∈ lw_tbl := in_t6 _ (List.mem_of_getElem? (i := 80) (by decide +kernel))
theorem tw_6_81 : (Jvm.Cond.selects "CueBookModel" ({ cls := "CueBookModel", name := "stay", desc := "(III)I" } : Jvm.MethodName) ({ cls := "CueBookModel", name := "stay", desc := "(III)I" } : Jvm.MethodName)) ∈ lw_tbl := in_t6 _ (List.mem_of_getElem? (i := 81) (by decide +kernel))
theorem tw_6_82 : (Jvm.Cond.code ({ cls := "CueBookModel", name := "stay", desc := "(III)I" } : Jvm.MethodName) prog_8_method_44_code (4 : Nat) (Option.some Jvm.ClassFile.FieldType.int)) ∈ lw_tbl := in_t6 _ (List.mem_of_getElem? (i := 82) (by decide +kernel))
theorem tw_6_83 : (Jvm.Cond.methodLink "CueBookModel" (165 : Nat) ({ cls := "CueBookModel", name := "stayTold", desc := "(III)I" } : Jvm.MethodName)) ∈ lw_tbl := in_t6 _ (List.mem_of_getElem? (i := 83) (by decide +kernel))
theorem tw_6_84 : (Jvm.Cond.privateMethod ({ cls := "CueBookModel", name := "stayTold", desc := "(III)I" } : Jvm.MethodName)) ∈ lw_tbl := in_t6 _ (List.mem_of_getElem? (i := 84) (by decide +kernel))
theorem tw_6_85 : (Jvm.Cond.instanceMethod ({ cls := "CueBookModel", name := "stayTold", desc := "(III)I" } : Jvm.MethodName)) ∈ lw_tbl := in_t6 _ (List.mem_of_getElem? (i := 85) (by decide +kernel))
theorem tw_6_86 : (Jvm.Cond.code ({ cls := "CueBookModel", name := "stayTold", desc := "(III)I" } : Jvm.MethodName) prog_8_method_43_code (5 : Nat) (Option.some Jvm.ClassFile.FieldType.int)) ∈ lw_tbl := in_t6 _ (List.mem_of_getElem? (i := 86) (by decide +kernel))
theorem tw_6_87 : (Jvm.Cond.methodLink "CueBookLaw" (149 : Nat) ({ cls := "CueBookModel", name := "uncast", desc := "()I" } : Jvm.MethodName)) ∈ lw_tbl := in_t6 _ (List.mem_of_getElem? (i := 87) (by decide +kernel))
theorem tw_6_88 : (Jvm.Cond.instanceMethod ({ cls := "CueBookModel", name := "uncast", desc := "()I" } : Jvm.MethodName)) ∈ lw_tbl := in_t6 _ (List.mem_of_getElem? (i := 88) (by decide +kernel))
theorem tw_6_89 : (Jvm.Cond.selects "CueBookModel" ({ cls := "CueBookModel", name := "uncast", desc := "()I" } : Jvm.MethodName) ({ cls := "CueBookModel", name := "uncast", desc := "()I" } : Jvm.MethodName)) ∈ lw_tbl := in_t6 _ (List.mem_of_getElem? (i := 89) (by decide +kernel))
theorem tw_6_90 : (Jvm.Cond.code ({ cls := "CueBookModel", name := "uncast", desc := "()I" } : Jvm.MethodName) prog_8_method_45_code (4 : Nat) (Option.some Jvm.ClassFile.FieldType.int)) ∈ lw_tbl := in_t6 _ (List.mem_of_getElem? (i := 90) (by decide +kernel))
theorem tw_6_91 : (Jvm.Cond.methodLink "CueBookLaw" (152 : Nat) ({ cls := "CueBookModel", name := "hands", desc := "(II)I" } : Jvm.MethodName)) ∈ lw_tbl := in_t6 _ (List.mem_of_getElem? (i := 91) (by decide +kernel))
theorem tw_6_92 : (Jvm.Cond.instanceMethod ({ cls := "CueBookModel", name := "hands", desc := "(II)I" } : Jvm.MethodName)) ∈ lw_tbl := in_t6 _ (List.mem_of_getElem? (i := 92) (by decide +kernel))
theorem tw_6_93 : (Jvm.Cond.selects "CueBookModel" ({ cls := "CueBookModel", name := "hands", desc := "(II)I" } : Jvm.MethodName) ({ cls := "CueBookModel", name := "hands", desc := "(II)I" } : Jvm.MethodName)) ∈ lw_tbl := in_t6 _ (List.mem_of_getElem? (i := 93) (by decide +kernel))
theorem tw_6_94 : (Jvm.Cond.code ({ cls := "CueBookModel", name := "hands", desc := "(II)I" } : Jvm.MethodName) prog_8_method_47_code (3 : Nat) (Option.some Jvm.ClassFile.FieldType.int)) ∈ lw_tbl := in_t6 _ (List.mem_of_getElem? (i := 94) (by decide +kernel))
theorem tw_6_95 : (Jvm.Cond.methodLink "CueBookModel" (169 : Nat) ({ cls := "CueBookModel", name := "isPlayer", desc := "(I)Z" } : Jvm.MethodName)) ∈ lw_tbl := in_t6 _ (List.mem_of_getElem? (i := 95) (by decide +kernel))
theorem tw_6_96 : (Jvm.Cond.privateMethod ({ cls := "CueBookModel", name := "isPlayer", desc := "(I)Z" } : Jvm.MethodName)) ∈ lw_tbl := in_t6 _ (List.mem_of_getElem? (i := 96) (by decide +kernel))
theorem tw_6_97 : (Jvm.Cond.instanceMethod ({ cls := "CueBookModel", name := "isPlayer", desc := "(I)Z" } : Jvm.MethodName)) ∈ lw_tbl := in_t6 _ (List.mem_of_getElem? (i := 97) (by decide +kernel))
theorem tw_6_98 : (Jvm.Cond.code ({ cls := "CueBookModel", name := "isPlayer", desc := "(I)Z" } : Jvm.MethodName) prog_8_method_6_code (2 : Nat) (Option.some Jvm.ClassFile.FieldType.boolean)) ∈ lw_tbl := in_t6 _ (List.mem_of_getElem? (i := 98) (by decide +kernel))
theorem tw_6_99 : (Jvm.Cond.methodLink "CueBookModel" (172 : Nat) ({ cls := "CueBookModel", name := "handsOf", desc := "(II)I" } : Jvm.MethodName)) ∈ lw_tbl := in_t6 _ (List.mem_of_getElem? (i := 99) (by decide +kernel))
theorem tw_6_100 : (Jvm.Cond.privateMethod ({ cls := "CueBookModel", name := "handsOf", desc := "(II)I" } : Jvm.MethodName)) ∈ lw_tbl := in_t6 _ (List.mem_of_getElem? (i := 100) (by decide +kernel))
theorem tw_6_101 : (Jvm.Cond.instanceMethod ({ cls := "CueBookModel", name := "handsOf", desc := "(II)I" } : Jvm.MethodName)) ∈ lw_tbl := in_t6 _ (List.mem_of_getElem? (i := 101) (by decide +kernel))
theorem tw_6_102 : (Jvm.Cond.code ({ cls := "CueBookModel", name := "handsOf", desc := "(II)I" } : Jvm.MethodName) prog_8_method_46_code (5 : Nat) (Option.some Jvm.ClassFile.FieldType.int)) ∈ lw_tbl := in_t6 _ (List.mem_of_getElem? (i := 102) (by decide +kernel))
theorem tw_6_103 : (Jvm.Cond.methodLink "CueBookLaw" (155 : Nat) ({ cls := "CueBookModel", name := "load", desc := "(I)I" } : Jvm.MethodName)) ∈ lw_tbl := in_t6 _ (List.mem_of_getElem? (i := 103) (by decide +kernel))
theorem tw_6_104 : (Jvm.Cond.instanceMethod ({ cls := "CueBookModel", name := "load", desc := "(I)I" } : Jvm.MethodName)) ∈ lw_tbl := in_t6 _ (List.mem_of_getElem? (i := 104) (by decide +kernel))
theorem tw_6_105 : (Jvm.Cond.selects "CueBookModel" ({ cls := "CueBookModel", name := "load", desc := "(I)I" } : Jvm.MethodName) ({ cls := "CueBookModel", name := "load", desc := "(I)I" } : Jvm.MethodName)) ∈ lw_tbl := in_t6 _ (List.mem_of_getElem? (i := 105) (by decide +kernel))
theorem tw_6_106 : (Jvm.Cond.code ({ cls := "CueBookModel", name := "load", desc := "(I)I" } : Jvm.MethodName) prog_8_method_49_code (2 : Nat) (Option.some Jvm.ClassFile.FieldType.int)) ∈ lw_tbl := in_t6 _ (List.mem_of_getElem? (i := 106) (by decide +kernel))
theorem tw_6_107 : (Jvm.Cond.methodLink "CueBookModel" (175 : Nat) ({ cls := "CueBookModel", name := "loadOf", desc := "(I)I" } : Jvm.MethodName)) ∈ lw_tbl := in_t6 _ (List.mem_of_getElem? (i := 107) (by decide +kernel))
theorem tw_6_108 : (Jvm.Cond.privateMethod ({ cls := "CueBookModel", name := "loadOf", desc := "(I)I" } : Jvm.MethodName)) ∈ lw_tbl := in_t6 _ (List.mem_of_getElem? (i := 108) (by decide +kernel))
theorem tw_6_109 : (Jvm.Cond.instanceMethod ({ cls := "CueBookModel", name := "loadOf", desc := "(I)I" } : Jvm.MethodName)) ∈ lw_tbl := in_t6 _ (List.mem_of_getElem? (i := 109) (by decide +kernel))
theorem tw_6_110 : (Jvm.Cond.code ({ cls := "CueBookModel", name := "loadOf", desc := "(I)I" } : Jvm.MethodName) prog_8_method_48_code (4 : Nat) (Option.some Jvm.ClassFile.FieldType.int)) ∈ lw_tbl := in_t6 _ (List.mem_of_getElem? (i := 110) (by decide +kernel))
theorem tw_6_111 : (Jvm.Cond.methodLink "CueBookLaw" (158 : Nat) ({ cls := "CueBookModel", name := "note", desc := "(II)I" } : Jvm.MethodName)) ∈ lw_tbl := in_t6 _ (List.mem_of_getElem? (i := 111) (by decide +kernel))
theorem tw_6_112 : (Jvm.Cond.instanceMethod ({ cls := "CueBookModel", name := "note", desc := "(II)I" } : Jvm.MethodName)) ∈ lw_tbl := in_t6 _ (List.mem_of_getElem? (i := 112) (by decide +kernel))
theorem tw_6_113 : (Jvm.Cond.selects "CueBookModel" ({ cls := "CueBookModel", name := "note", desc := "(II)I" } : Jvm.MethodName) ({ cls := "CueBookModel", name := "note", desc := "(II)I" } : Jvm.MethodName)) ∈ lw_tbl := in_t6 _ (List.mem_of_getElem? (i := 113) (by decide +kernel))
theorem tw_6_114 : (Jvm.Cond.code ({ cls := "CueBookModel", name := "note", desc := "(II)I" } : Jvm.MethodName) prog_8_method_50_code (3 : Nat) (Option.some Jvm.ClassFile.FieldType.int)) ∈ lw_tbl := in_t6 _ (List.mem_of_getElem? (i := 114) (by decide +kernel))
theorem tw_6_115 : (Jvm.Cond.methodLink "CueBookLaw" (162 : Nat) ({ cls := "CueBookModel", name := "mean", desc := "(I)D" } : Jvm.MethodName)) ∈ lw_tbl := in_t6 _ (List.mem_of_getElem? (i := 115) (by decide +kernel))
theorem tw_6_116 : (Jvm.Cond.instanceMethod ({ cls := "CueBookModel", name := "mean", desc := "(I)D" } : Jvm.MethodName)) ∈ lw_tbl := in_t6 _ (List.mem_of_getElem? (i := 116) (by decide +kernel))
theorem tw_6_117 : (Jvm.Cond.selects "CueBookModel" ({ cls := "CueBookModel", name := "mean", desc := "(I)D" } : Jvm.MethodName) ({ cls := "CueBookModel", name := "mean", desc := "(I)D" } : Jvm.MethodName)) ∈ lw_tbl := in_t6 _ (List.mem_of_getElem? (i := 117) (by decide +kernel))
theorem tw_6_118 : (Jvm.Cond.code ({ cls := "CueBookModel", name := "mean", desc := "(I)D" } : Jvm.MethodName) prog_8_method_51_code (2 : Nat) (Option.some Jvm.ClassFile.FieldType.double)) ∈ lw_tbl := in_t6 _ (List.mem_of_getElem? (i := 118) (by decide +kernel))
theorem tw_6_119 : (Jvm.Cond.methodLink "CueBookLaw" (166 : Nat) ({ cls := "CueBookModel", name := "worst", desc := "()I" } : Jvm.MethodName)) ∈ lw_tbl := in_t6 _ (List.mem_of_getElem? (i := 119) (by decide +kernel))
theorem tw_6_120 : (Jvm.Cond.instanceMethod ({ cls := "CueBookModel", name := "worst", desc := "()I" } : Jvm.MethodName)) ∈ lw_tbl := in_t6 _ (List.mem_of_getElem? (i := 120) (by decide +kernel))
theorem tw_6_121 : (Jvm.Cond.selects "CueBookModel" ({ cls := "CueBookModel", name := "worst", desc := "()I" } : Jvm.MethodName) ({ cls := "CueBookModel", name := "worst", desc := "()I" } : Jvm.MethodName)) ∈ lw_tbl := in_t6 _ (List.mem_of_getElem? (i := 121) (by decide +kernel))
theorem tw_6_122 : (Jvm.Cond.code ({ cls := "CueBookModel", name := "worst", desc := "()I" } : Jvm.MethodName) prog_8_method_52_code (3 : Nat) (Option.some Jvm.ClassFile.FieldType.int)) ∈ lw_tbl := in_t6 _ (List.mem_of_getElem? (i := 122) (by decide +kernel))
theorem tw_6_123 : (Jvm.Cond.methodLink "CueBookLaw" (171 : Nat) ({ cls := "CueBookModel", name := "digest", desc := "()J" } : Jvm.MethodName)) ∈ lw_tbl := in_t6 _ (List.mem_of_getElem? (i := 123) (by decide +kernel))
theorem tw_6_124 : (Jvm.Cond.instanceMethod ({ cls := "CueBookModel", name := "digest", desc := "()J" } : Jvm.MethodName)) ∈ lw_tbl := in_t6 _ (List.mem_of_getElem? (i := 124) (by decide +kernel))
theorem tw_6_125 : (Jvm.Cond.selects "CueBookModel" ({ cls := "CueBookModel", name := "digest", desc := "()J" } : Jvm.MethodName) ({ cls := "CueBookModel", name := "digest", desc := "()J" } : Jvm.MethodName)) ∈ lw_tbl := in_t6 _ (List.mem_of_getElem? (i := 125) (by decide +kernel))
theorem tw_6_126 : (Jvm.Cond.code ({ cls := "CueBookModel", name := "digest", desc := "()J" } : Jvm.MethodName) prog_8_method_53_code (6 : Nat) (Option.some Jvm.ClassFile.FieldType.long)) ∈ lw_tbl := in_t6 _ (List.mem_of_getElem? (i := 126) (by decide +kernel))
theorem tw_6_127 : (Jvm.Cond.constantLong "CueBookModel" (178 : Nat) (8587 : Int64)) ∈ lw_tbl := in_t6 _ (List.mem_of_getElem? (i := 127) (by decide +kernel))
theorem tw_6_128 : (Jvm.Cond.constantLong "CueBookModel" (180 : Nat) (31 : Int64)) ∈ lw_tbl := in_t6 _ (List.mem_of_getElem? (i := 128) (by decide +kernel))
theorem tw_6_129 : (Jvm.Cond.arrayClass Jvm.ClassFile.FieldType.long) ∈ lw_tbl := in_t6 _ (List.mem_of_getElem? (i := 129) (by decide +kernel))
theorem tw_6_130 : (Jvm.Cond.arrayClass Jvm.ClassFile.FieldType.double) ∈ lw_tbl := in_t6 _ (List.mem_of_getElem? (i := 130) (by decide +kernel))
theorem tw_6_131 : (Jvm.Cond.sameMethod "java/lang/Throwable" "java/lang/Throwable" "fillInStackTrace" "(I)Ljava/lang/Throwable;") ∈ lw_tbl := in_t6 _ (List.mem_of_getElem? (i := 131) (by decide +kernel))
theorem tw_6_132 : (Jvm.Cond.sameMethod "java/lang/AbstractStringBuilder" "java/lang/AbstractStringBuilder" "append" "(Ljava/lang/String;)Ljava/lang/AbstractStringBuilder;") ∈ lw_tbl := in_t6 _ (List.mem_of_getElem? (i := 132) (by decide +kernel))
theorem tw_6_133 : (Jvm.Cond.sameMethod "java/lang/AbstractStringBuilder" "java/lang/AbstractStringBuilder" "appendNull" "()Ljava/lang/AbstractStringBuilder;") ∈ lw_tbl := in_t6 _ (List.mem_of_getElem? (i := 133) (by decide +kernel))
theorem tw_6_134 : (Jvm.Cond.sameMethod "java/lang/AbstractStringBuilder" "java/lang/AbstractStringBuilder" "ensureCapacityInternal" "(I)V") ∈ lw_tbl := in_t6 _ (List.mem_of_getElem? (i := 134) (by decide +kernel))
theorem tw_6_135 : (Jvm.Cond.sameMethod "java/lang/AbstractStringBuilder" "java/lang/AbstractStringBuilder" "newCapacity" "(I)I") ∈ lw_tbl := in_t6 _ (List.mem_of_getElem? (i := 135) (by decide +kernel))
theorem tw_6_136 : (Jvm.Cond.sameMethod "java/lang/AbstractStringBuilder" "java/lang/AbstractStringBuilder" "putStringAt" "(ILjava/lang/String;)V") ∈ lw_tbl := in_t6 _ (List.mem_of_getElem? (i := 136) (by decide +kernel))
theorem tw_6_137 : (Jvm.Cond.sameMethod "java/lang/AbstractStringBuilder" "java/lang/AbstractStringBuilder" "inflateIfNeededFor" "(Ljava/lang/String;)V") ∈ lw_tbl := in_t6 _ (List.mem_of_getElem? (i := 137) (by decide +kernel))
theorem tw_6_138 : (Jvm.Cond.sameMethod "java/lang/AbstractStringBuilder" "java/lang/AbstractStringBuilder" "inflate" "()V") ∈ lw_tbl := in_t6 _ (List.mem_of_getElem? (i := 138) (by decide +kernel))
theorem tw_6_139 : (Jvm.Cond.sameMethod "java/lang/AbstractStringBuilder" "java/lang/AbstractStringBuilder" "append" "(I)Ljava/lang/AbstractStringBuilder;") ∈ lw_tbl := in_t6 _ (List.mem_of_getElem? (i := 139) (by decide +kernel))
theorem tw_6_140 : (Jvm.Cond.castable "CueBook" "java/lang/Object") ∈ lw_tbl := in_t6 _ (List.mem_of_getElem? (i := 140) (by decide +kernel))
theorem tw_6_141 : (Jvm.Cond.castable "java/util/ArrayList" "java/lang/Object") ∈ lw_tbl := in_t6 _ (List.mem_of_getElem? (i := 141) (by decide +kernel))
theorem tw_6_142 : (Jvm.Cond.castable "CueBookModel" "java/lang/Object") ∈ lw_tbl := in_t6 _ (List.mem_of_getElem? (i := 142) (by decide +kernel))
theorem tw_6_143 : (Jvm.Cond.castable "java/lang/IllegalArgumentException" "java/lang/Object") ∈ lw_tbl := in_t6 _ (List.mem_of_getElem? (i := 143) (by decide +kernel))
theorem tw_6_144 : (Jvm.Cond.castable "java/lang/IllegalStateException" "java/lang/Object") ∈ lw_tbl := in_t6 _ (List.mem_of_getElem? (i := 144) (by decide +kernel))
theorem tw_6_145 : (Jvm.Cond.castable "CueBook$Puppet" "java/lang/Object") ∈ lw_tbl := in_t6 _ (List.mem_of_getElem? (i := 145) (by decide +kernel))
theorem tw_6_146 : (Jvm.Cond.castable "CueBook$Player" "java/lang/Object") ∈ lw_tbl := in_t6 _ (List.mem_of_getElem? (i := 146) (by decide +kernel))
theorem tw_6_147 : (Jvm.Cond.castable "java/lang/IndexOutOfBoundsException" "java/lang/Object") ∈ lw_tbl := in_t6 _ (List.mem_of_getElem? (i := 147) (by decide +kernel))
theorem tw_6_148 : (Jvm.Cond.castable "CueBook$Cue" "java/lang/Object") ∈ lw_tbl := in_t6 _ (List.mem_of_getElem? (i := 148) (by decide +kernel))
theorem tw_6_149 : (Jvm.Cond.castable "java/lang/StringBuilder" "java/lang/Object") ∈ lw_tbl := in_t6 _ (List.mem_of_getElem? (i := 149) (by decide +kernel))
theorem tw_6_150 : (Jvm.Cond.castable "java/lang/String" "java/lang/Object") ∈ lw_tbl := in_t6 _ (List.mem_of_getElem? (i := 150) (by decide +kernel))
theorem tw_6_151 : (Jvm.Cond.castable "CueBook$Path" "java/lang/Object") ∈ lw_tbl := in_t6 _ (List.mem_of_getElem? (i := 151) (by decide +kernel))
theorem tw_6_152 : (Jvm.Cond.castable "CueBook$Stay" "java/lang/Object") ∈ lw_tbl := in_t6 _ (List.mem_of_getElem? (i := 152) (by decide +kernel))
theorem tw_6_153 : (Jvm.Cond.castable "java/lang/Throwable" "java/lang/Object") ∈ lw_tbl := in_t6 _ (List.mem_of_getElem? (i := 153) (by decide +kernel))
theorem tw_6_154 : (Jvm.Cond.sameMethod "[Ljava/lang/Object;" "java/lang/Object" "getClass" "()Ljava/lang/Class;") ∈ lw_tbl := in_t6 _ (List.mem_of_getElem? (i := 154) (by decide +kernel))
theorem tw_6_155 : (Jvm.Cond.selects "[Ljava/lang/Object;" ({ cls := "java/lang/Object", name := "getClass", desc := "()Ljava/lang/Class;" } : Jvm.MethodName) ({ cls := "java/lang/Object", name := "getClass", desc := "()Ljava/lang/Class;" } : Jvm.MethodName)) ∈ lw_tbl := in_t6 _ (List.mem_of_getElem? (i := 155) (by decide +kernel))
theorem tw_6_156 : (Jvm.Cond.declares ({ cls := "java/lang/Object", name := "getClass", desc := "()Ljava/lang/Class;" } : Jvm.MethodName)) ∈ lw_tbl := in_t6 _ (List.mem_of_getElem? (i := 156) (by decide +kernel))
theorem tw_6_157 : (Jvm.Cond.castable "[B" "java/lang/Object") ∈ lw_tbl := in_t6 _ (List.mem_of_getElem? (i := 157) (by decide +kernel))
theorem tw_6_158 : (Jvm.Cond.castable "[Ljava/lang/Object;" "java/lang/Object") ∈ lw_tbl := in_t6 _ (List.mem_of_getElem? (i := 158) (by decide +kernel))
theorem tw_6_159 : (Jvm.Cond.castable "[I" "java/lang/Object") ∈ lw_tbl := in_t6 _ (List.mem_of_getElem? (i := 159) (by decide +kernel))
theorem tw_6_160 : (Jvm.Cond.castable "[Z" "java/lang/Object") ∈ lw_tbl := in_t6 _ (List.mem_of_getElem? (i := 160) (by decide +kernel))
theorem tw_6_161 : (Jvm.Cond.castable "[J" "java/lang/Object") ∈ lw_tbl := in_t6 _ (List.mem_of_getElem? (i := 161) (by decide +kernel))
theorem tw_6_162 : (Jvm.Cond.castable "[D" "java/lang/Object") ∈ lw_tbl := in_t6 _ (List.mem_of_getElem? (i := 162) (by decide +kernel))
end
