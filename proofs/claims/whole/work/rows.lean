section
-- ===== PART A: goes FIRST, ahead of the names: the tables' words, and 'selects' of the private methods out of them =====
/-- a private method of a class that the tables say can be made, by its rows of tables_1 -/
def lw_okq (q : MethodName × Nat) : Prop := (q.1.cls ≠ "java/lang/invoke/MethodHandle" ∧ q.1.cls ≠ "java/lang/invoke/VarHandle") ∧ Cond.instantiable q.1.cls q.2 ∈ tables_1 ∧ Cond.privateMethod q.1 ∈ tables_1 ∧ Cond.instanceMethod q.1 ∈ tables_1
theorem lw_p0 : lw_okq (⟨"TestChoice$Reader", "advance", "()V"⟩, 9) := ⟨⟨by decide +kernel, by decide +kernel⟩, List.mem_of_getElem? (i := 60) (by decide +kernel), List.mem_of_getElem? (i := 426) (by decide +kernel), List.mem_of_getElem? (i := 427) (by decide +kernel)⟩
theorem lw_p1 : lw_okq (⟨"TestChoice$Tape", "takeWord", "()V"⟩, 6) := ⟨⟨by decide +kernel, by decide +kernel⟩, List.mem_of_getElem? (i := 30) (by decide +kernel), List.mem_of_getElem? (i := 437) (by decide +kernel), List.mem_of_getElem? (i := 438) (by decide +kernel)⟩
theorem lw_p2 : lw_okq (⟨"TestChoice$Tape", "takeNumber", "()V"⟩, 6) := ⟨⟨by decide +kernel, by decide +kernel⟩, List.mem_of_getElem? (i := 30) (by decide +kernel), List.mem_of_getElem? (i := 444) (by decide +kernel), List.mem_of_getElem? (i := 445) (by decide +kernel)⟩
theorem lw_p3 : lw_okq (⟨"TestChoice$Reader", "fail", "(I)V"⟩, 9) := ⟨⟨by decide +kernel, by decide +kernel⟩, List.mem_of_getElem? (i := 60) (by decide +kernel), List.mem_of_getElem? (i := 448) (by decide +kernel), List.mem_of_getElem? (i := 449) (by decide +kernel)⟩
theorem lw_p4 : lw_okq (⟨"TestChoice$Reader", "readLine", "()V"⟩, 9) := ⟨⟨by decide +kernel, by decide +kernel⟩, List.mem_of_getElem? (i := 60) (by decide +kernel), List.mem_of_getElem? (i := 452) (by decide +kernel), List.mem_of_getElem? (i := 453) (by decide +kernel)⟩
theorem lw_p5 : lw_okq (⟨"TestChoice$Reader", "lineOfWord", "()I"⟩, 9) := ⟨⟨by decide +kernel, by decide +kernel⟩, List.mem_of_getElem? (i := 60) (by decide +kernel), List.mem_of_getElem? (i := 456) (by decide +kernel), List.mem_of_getElem? (i := 457) (by decide +kernel)⟩
theorem lw_p6 : lw_okq (⟨"TestChoice$Reader", "hasRoomFor", "(I)Z"⟩, 9) := ⟨⟨by decide +kernel, by decide +kernel⟩, List.mem_of_getElem? (i := 60) (by decide +kernel), List.mem_of_getElem? (i := 521) (by decide +kernel), List.mem_of_getElem? (i := 522) (by decide +kernel)⟩
theorem lw_p7 : lw_okq (⟨"TestChoice$Reader", "readRest", "(I)V"⟩, 9) := ⟨⟨by decide +kernel, by decide +kernel⟩, List.mem_of_getElem? (i := 60) (by decide +kernel), List.mem_of_getElem? (i := 529) (by decide +kernel), List.mem_of_getElem? (i := 530) (by decide +kernel)⟩
theorem lw_p8 : lw_okq (⟨"TestChoice$Reader", "isWithin", "(III)Z"⟩, 9) := ⟨⟨by decide +kernel, by decide +kernel⟩, List.mem_of_getElem? (i := 60) (by decide +kernel), List.mem_of_getElem? (i := 536) (by decide +kernel), List.mem_of_getElem? (i := 537) (by decide +kernel)⟩
theorem lw_p9 : lw_okq (⟨"TestChoice$Reader", "tell", "(II)V"⟩, 9) := ⟨⟨by decide +kernel, by decide +kernel⟩, List.mem_of_getElem? (i := 60) (by decide +kernel), List.mem_of_getElem? (i := 546) (by decide +kernel), List.mem_of_getElem? (i := 547) (by decide +kernel)⟩
theorem lw_p10 : lw_okq (⟨"TestChoice$Reader", "tellNode", "(II)V"⟩, 9) := ⟨⟨by decide +kernel, by decide +kernel⟩, List.mem_of_getElem? (i := 60) (by decide +kernel), List.mem_of_getElem? (i := 554) (by decide +kernel), List.mem_of_getElem? (i := 555) (by decide +kernel)⟩
theorem lw_p11 : lw_okq (⟨"TestChoice$Reader", "tellHas", "()V"⟩, 9) := ⟨⟨by decide +kernel, by decide +kernel⟩, List.mem_of_getElem? (i := 60) (by decide +kernel), List.mem_of_getElem? (i := 576) (by decide +kernel), List.mem_of_getElem? (i := 577) (by decide +kernel)⟩
theorem lw_p12 : lw_okq (⟨"TestChoice$Reader", "tellsWhatIsNotThere", "()Z"⟩, 9) := ⟨⟨by decide +kernel, by decide +kernel⟩, List.mem_of_getElem? (i := 60) (by decide +kernel), List.mem_of_getElem? (i := 588) (by decide +kernel), List.mem_of_getElem? (i := 589) (by decide +kernel)⟩
theorem lw_p13 : lw_okq (⟨"TestChoice", "edgesInDanger", "()I"⟩, 12) := ⟨⟨by decide +kernel, by decide +kernel⟩, List.mem_of_getElem? (i := 22) (by decide +kernel), List.mem_of_getElem? (i := 624) (by decide +kernel), List.mem_of_getElem? (i := 625) (by decide +kernel)⟩
theorem lw_p14 : lw_okq (⟨"TestChoice$Danger", "compareMethod", "(I)V"⟩, 6) := ⟨⟨by decide +kernel, by decide +kernel⟩, List.mem_of_getElem? (i := 234) (by decide +kernel), List.mem_of_getElem? (i := 639) (by decide +kernel), List.mem_of_getElem? (i := 640) (by decide +kernel)⟩
theorem lw_p15 : lw_okq (⟨"TestChoice$Danger", "pairUp", "(III)Z"⟩, 6) := ⟨⟨by decide +kernel, by decide +kernel⟩, List.mem_of_getElem? (i := 234) (by decide +kernel), List.mem_of_getElem? (i := 644) (by decide +kernel), List.mem_of_getElem? (i := 645) (by decide +kernel)⟩
def lw_privs_1 : List (MethodName × Nat) := [(⟨"TestChoice$Reader", "advance", "()V"⟩, 9), (⟨"TestChoice$Tape", "takeWord", "()V"⟩, 6), (⟨"TestChoice$Tape", "takeNumber", "()V"⟩, 6), (⟨"TestChoice$Reader", "fail", "(I)V"⟩, 9), (⟨"TestChoice$Reader", "readLine", "()V"⟩, 9), (⟨"TestChoice$Reader", "lineOfWord", "()I"⟩, 9), (⟨"TestChoice$Reader", "hasRoomFor", "(I)Z"⟩, 9), (⟨"TestChoice$Reader", "readRest", "(I)V"⟩, 9), (⟨"TestChoice$Reader", "isWithin", "(III)Z"⟩, 9), (⟨"TestChoice$Reader", "tell", "(II)V"⟩, 9), (⟨"TestChoice$Reader", "tellNode", "(II)V"⟩, 9), (⟨"TestChoice$Reader", "tellHas", "()V"⟩, 9), (⟨"TestChoice$Reader", "tellsWhatIsNotThere", "()Z"⟩, 9), (⟨"TestChoice", "edgesInDanger", "()I"⟩, 12), (⟨"TestChoice$Danger", "compareMethod", "(I)V"⟩, 6), (⟨"TestChoice$Danger", "pairUp", "(III)Z"⟩, 6)]
theorem lw_r1 : ∀ q ∈ lw_privs_1, lw_okq q := List.forall_mem_cons.mpr ⟨lw_p0, List.forall_mem_cons.mpr ⟨lw_p1, List.forall_mem_cons.mpr ⟨lw_p2, List.forall_mem_cons.mpr ⟨lw_p3, List.forall_mem_cons.mpr ⟨lw_p4, List.forall_mem_cons.mpr ⟨lw_p5, List.forall_mem_cons.mpr ⟨lw_p6, List.forall_mem_cons.mpr ⟨lw_p7, List.forall_mem_cons.mpr ⟨lw_p8, List.forall_mem_cons.mpr ⟨lw_p9, List.forall_mem_cons.mpr ⟨lw_p10, List.forall_mem_cons.mpr ⟨lw_p11, List.forall_mem_cons.mpr ⟨lw_p12, List.forall_mem_cons.mpr ⟨lw_p13, List.forall_mem_cons.mpr ⟨lw_p14, List.forall_mem_cons.mpr ⟨lw_p15, fun _ h => absurd h List.not_mem_nil⟩⟩⟩⟩⟩⟩⟩⟩⟩⟩⟩⟩⟩⟩⟩⟩
theorem lw_p16 : lw_okq (⟨"TestChoice$Danger", "areAlike", "(II)Z"⟩, 6) := ⟨⟨by decide +kernel, by decide +kernel⟩, List.mem_of_getElem? (i := 234) (by decide +kernel), List.mem_of_getElem? (i := 649) (by decide +kernel), List.mem_of_getElem? (i := 650) (by decide +kernel)⟩
theorem lw_p17 : lw_okq (⟨"TestChoice$Danger", "compareNexts", "(III)V"⟩, 6) := ⟨⟨by decide +kernel, by decide +kernel⟩, List.mem_of_getElem? (i := 234) (by decide +kernel), List.mem_of_getElem? (i := 657) (by decide +kernel), List.mem_of_getElem? (i := 658) (by decide +kernel)⟩
theorem lw_p18 : lw_okq (⟨"TestChoice$Run", "enter", "(II)V"⟩, 8) := ⟨⟨by decide +kernel, by decide +kernel⟩, List.mem_of_getElem? (i := 188) (by decide +kernel), List.mem_of_getElem? (i := 694) (by decide +kernel), List.mem_of_getElem? (i := 695) (by decide +kernel)⟩
theorem lw_p19 : lw_okq (⟨"TestChoice$Run", "visit", "(III)I"⟩, 8) := ⟨⟨by decide +kernel, by decide +kernel⟩, List.mem_of_getElem? (i := 188) (by decide +kernel), List.mem_of_getElem? (i := 699) (by decide +kernel), List.mem_of_getElem? (i := 700) (by decide +kernel)⟩
theorem lw_p20 : lw_okq (⟨"TestChoice$Run", "enterMeant", "(II)V"⟩, 8) := ⟨⟨by decide +kernel, by decide +kernel⟩, List.mem_of_getElem? (i := 188) (by decide +kernel), List.mem_of_getElem? (i := 704) (by decide +kernel), List.mem_of_getElem? (i := 705) (by decide +kernel)⟩
theorem lw_p21 : lw_okq (⟨"TestChoice$Run", "goOn", "(III)I"⟩, 8) := ⟨⟨by decide +kernel, by decide +kernel⟩, List.mem_of_getElem? (i := 188) (by decide +kernel), List.mem_of_getElem? (i := 710) (by decide +kernel), List.mem_of_getElem? (i := 711) (by decide +kernel)⟩
theorem lw_p22 : lw_okq (⟨"TestChoice$Run", "decide", "()I"⟩, 8) := ⟨⟨by decide +kernel, by decide +kernel⟩, List.mem_of_getElem? (i := 188) (by decide +kernel), List.mem_of_getElem? (i := 714) (by decide +kernel), List.mem_of_getElem? (i := 715) (by decide +kernel)⟩
theorem lw_p23 : lw_okq (⟨"TestChoice$Choice", "rankAll", "()V"⟩, 11) := ⟨⟨by decide +kernel, by decide +kernel⟩, List.mem_of_getElem? (i := 263) (by decide +kernel), List.mem_of_getElem? (i := 724) (by decide +kernel), List.mem_of_getElem? (i := 725) (by decide +kernel)⟩
theorem lw_p24 : lw_okq (⟨"TestChoice$Choice", "nextOne", "()I"⟩, 11) := ⟨⟨by decide +kernel, by decide +kernel⟩, List.mem_of_getElem? (i := 263) (by decide +kernel), List.mem_of_getElem? (i := 729) (by decide +kernel), List.mem_of_getElem? (i := 730) (by decide +kernel)⟩
theorem lw_p25 : lw_okq (⟨"TestChoice$Choice", "rank", "(I)V"⟩, 11) := ⟨⟨by decide +kernel, by decide +kernel⟩, List.mem_of_getElem? (i := 263) (by decide +kernel), List.mem_of_getElem? (i := 734) (by decide +kernel), List.mem_of_getElem? (i := 735) (by decide +kernel)⟩
theorem lw_p26 : lw_okq (⟨"TestChoice", "testsThatSayOther", "()I"⟩, 12) := ⟨⟨by decide +kernel, by decide +kernel⟩, List.mem_of_getElem? (i := 22) (by decide +kernel), List.mem_of_getElem? (i := 747) (by decide +kernel), List.mem_of_getElem? (i := 748) (by decide +kernel)⟩
theorem lw_p27 : lw_okq (⟨"TestChoice", "saysTheSame", "(II)Z"⟩, 12) := ⟨⟨by decide +kernel, by decide +kernel⟩, List.mem_of_getElem? (i := 22) (by decide +kernel), List.mem_of_getElem? (i := 751) (by decide +kernel), List.mem_of_getElem? (i := 752) (by decide +kernel)⟩
theorem lw_p28 : lw_okq (⟨"TestChoice", "programOf", "(I)LTestChoice$Program;"⟩, 12) := ⟨⟨by decide +kernel, by decide +kernel⟩, List.mem_of_getElem? (i := 22) (by decide +kernel), List.mem_of_getElem? (i := 781) (by decide +kernel), List.mem_of_getElem? (i := 782) (by decide +kernel)⟩
theorem lw_p29 : lw_okq (⟨"TestChoice", "runTest", "(LTestChoice$Program;I)V"⟩, 12) := ⟨⟨by decide +kernel, by decide +kernel⟩, List.mem_of_getElem? (i := 22) (by decide +kernel), List.mem_of_getElem? (i := 794) (by decide +kernel), List.mem_of_getElem? (i := 795) (by decide +kernel)⟩
theorem lw_p30 : lw_okq (⟨"TestChoice", "firstRefused", "(LTestChoice$Sheet;II)I"⟩, 12) := ⟨⟨by decide +kernel, by decide +kernel⟩, List.mem_of_getElem? (i := 22) (by decide +kernel), List.mem_of_getElem? (i := 952) (by decide +kernel), List.mem_of_getElem? (i := 953) (by decide +kernel)⟩
theorem lw_p31 : lw_okq (⟨"TestChoice", "turnAll", "(LTestChoice$Sheet;II)V"⟩, 12) := ⟨⟨by decide +kernel, by decide +kernel⟩, List.mem_of_getElem? (i := 22) (by decide +kernel), List.mem_of_getElem? (i := 960) (by decide +kernel), List.mem_of_getElem? (i := 961) (by decide +kernel)⟩
def lw_privs_2 : List (MethodName × Nat) := [(⟨"TestChoice$Danger", "areAlike", "(II)Z"⟩, 6), (⟨"TestChoice$Danger", "compareNexts", "(III)V"⟩, 6), (⟨"TestChoice$Run", "enter", "(II)V"⟩, 8), (⟨"TestChoice$Run", "visit", "(III)I"⟩, 8), (⟨"TestChoice$Run", "enterMeant", "(II)V"⟩, 8), (⟨"TestChoice$Run", "goOn", "(III)I"⟩, 8), (⟨"TestChoice$Run", "decide", "()I"⟩, 8), (⟨"TestChoice$Choice", "rankAll", "()V"⟩, 11), (⟨"TestChoice$Choice", "nextOne", "()I"⟩, 11), (⟨"TestChoice$Choice", "rank", "(I)V"⟩, 11), (⟨"TestChoice", "testsThatSayOther", "()I"⟩, 12), (⟨"TestChoice", "saysTheSame", "(II)Z"⟩, 12), (⟨"TestChoice", "programOf", "(I)LTestChoice$Program;"⟩, 12), (⟨"TestChoice", "runTest", "(LTestChoice$Program;I)V"⟩, 12), (⟨"TestChoice", "firstRefused", "(LTestChoice$Sheet;II)I"⟩, 12), (⟨"TestChoice", "turnAll", "(LTestChoice$Sheet;II)V"⟩, 12)]
theorem lw_r2 : ∀ q ∈ lw_privs_2, lw_okq q := List.forall_mem_cons.mpr ⟨lw_p16, List.forall_mem_cons.mpr ⟨lw_p17, List.forall_mem_cons.mpr ⟨lw_p18, List.forall_mem_cons.mpr ⟨lw_p19, List.forall_mem_cons.mpr ⟨lw_p20, List.forall_mem_cons.mpr ⟨lw_p21, List.forall_mem_cons.mpr ⟨lw_p22, List.forall_mem_cons.mpr ⟨lw_p23, List.forall_mem_cons.mpr ⟨lw_p24, List.forall_mem_cons.mpr ⟨lw_p25, List.forall_mem_cons.mpr ⟨lw_p26, List.forall_mem_cons.mpr ⟨lw_p27, List.forall_mem_cons.mpr ⟨lw_p28, List.forall_mem_cons.mpr ⟨lw_p29, List.forall_mem_cons.mpr ⟨lw_p30, List.forall_mem_cons.mpr ⟨lw_p31, fun _ h => absurd h List.not_mem_nil⟩⟩⟩⟩⟩⟩⟩⟩⟩⟩⟩⟩⟩⟩⟩⟩
theorem lw_p32 : lw_okq (⟨"TestChoice", "imagesKept", "()I"⟩, 12) := ⟨⟨by decide +kernel, by decide +kernel⟩, List.mem_of_getElem? (i := 22) (by decide +kernel), List.mem_of_getElem? (i := 972) (by decide +kernel), List.mem_of_getElem? (i := 973) (by decide +kernel)⟩
theorem lw_p33 : lw_okq (⟨"TestChoice$Program", "isNodeAsIn", "(LTestChoice$Program;II)Z"⟩, 9) := ⟨⟨by decide +kernel, by decide +kernel⟩, List.mem_of_getElem? (i := 66) (by decide +kernel), List.mem_of_getElem? (i := 993) (by decide +kernel), List.mem_of_getElem? (i := 994) (by decide +kernel)⟩
theorem lw_p34 : lw_okq (⟨"TestChoiceModel", "firstDraft", "()V"⟩, 34) := ⟨⟨by decide +kernel, by decide +kernel⟩, List.mem_of_getElem? (i := 998) (by decide +kernel), List.mem_of_getElem? (i := 1004) (by decide +kernel), List.mem_of_getElem? (i := 1005) (by decide +kernel)⟩
theorem lw_p35 : lw_okq (⟨"TestChoiceModel", "keepDraft", "()V"⟩, 34) := ⟨⟨by decide +kernel, by decide +kernel⟩, List.mem_of_getElem? (i := 998) (by decide +kernel), List.mem_of_getElem? (i := 1011) (by decide +kernel), List.mem_of_getElem? (i := 1012) (by decide +kernel)⟩
theorem lw_p36 : lw_okq (⟨"TestChoiceModel", "reads", "()V"⟩, 34) := ⟨⟨by decide +kernel, by decide +kernel⟩, List.mem_of_getElem? (i := 998) (by decide +kernel), List.mem_of_getElem? (i := 1135) (by decide +kernel), List.mem_of_getElem? (i := 1136) (by decide +kernel)⟩
theorem lw_p37 : lw_okq (⟨"TestChoiceModel", "byteAt", "(I)I"⟩, 34) := ⟨⟨by decide +kernel, by decide +kernel⟩, List.mem_of_getElem? (i := 998) (by decide +kernel), List.mem_of_getElem? (i := 1139) (by decide +kernel), List.mem_of_getElem? (i := 1140) (by decide +kernel)⟩
theorem lw_p38 : lw_okq (⟨"TestChoiceModel", "requires", "(ZI)V"⟩, 34) := ⟨⟨by decide +kernel, by decide +kernel⟩, List.mem_of_getElem? (i := 998) (by decide +kernel), List.mem_of_getElem? (i := 1147) (by decide +kernel), List.mem_of_getElem? (i := 1148) (by decide +kernel)⟩
theorem lw_p39 : lw_okq (⟨"TestChoiceModel", "readLine", "()V"⟩, 34) := ⟨⟨by decide +kernel, by decide +kernel⟩, List.mem_of_getElem? (i := 998) (by decide +kernel), List.mem_of_getElem? (i := 1151) (by decide +kernel), List.mem_of_getElem? (i := 1152) (by decide +kernel)⟩
theorem lw_p40 : lw_okq (⟨"TestChoiceModel", "lineNow", "()I"⟩, 34) := ⟨⟨by decide +kernel, by decide +kernel⟩, List.mem_of_getElem? (i := 998) (by decide +kernel), List.mem_of_getElem? (i := 1155) (by decide +kernel), List.mem_of_getElem? (i := 1156) (by decide +kernel)⟩
theorem lw_p41 : lw_okq (⟨"TestChoiceModel", "is", "(IIIII)Z"⟩, 34) := ⟨⟨by decide +kernel, by decide +kernel⟩, List.mem_of_getElem? (i := 998) (by decide +kernel), List.mem_of_getElem? (i := 1159) (by decide +kernel), List.mem_of_getElem? (i := 1160) (by decide +kernel)⟩
theorem lw_p42 : lw_okq (⟨"TestChoiceModel", "hasRoom", "(I)Z"⟩, 34) := ⟨⟨by decide +kernel, by decide +kernel⟩, List.mem_of_getElem? (i := 998) (by decide +kernel), List.mem_of_getElem? (i := 1163) (by decide +kernel), List.mem_of_getElem? (i := 1164) (by decide +kernel)⟩
theorem lw_p43 : lw_okq (⟨"TestChoiceModel", "methodNow", "()I"⟩, 34) := ⟨⟨by decide +kernel, by decide +kernel⟩, List.mem_of_getElem? (i := 998) (by decide +kernel), List.mem_of_getElem? (i := 1167) (by decide +kernel), List.mem_of_getElem? (i := 1168) (by decide +kernel)⟩
theorem lw_p44 : lw_okq (⟨"TestChoiceModel", "readLineOf", "(I)V"⟩, 34) := ⟨⟨by decide +kernel, by decide +kernel⟩, List.mem_of_getElem? (i := 998) (by decide +kernel), List.mem_of_getElem? (i := 1171) (by decide +kernel), List.mem_of_getElem? (i := 1172) (by decide +kernel)⟩
theorem lw_p45 : lw_okq (⟨"TestChoiceModel", "readNode", "(I)V"⟩, 34) := ⟨⟨by decide +kernel, by decide +kernel⟩, List.mem_of_getElem? (i := 998) (by decide +kernel), List.mem_of_getElem? (i := 1175) (by decide +kernel), List.mem_of_getElem? (i := 1176) (by decide +kernel)⟩
theorem lw_p46 : lw_okq (⟨"TestChoiceModel", "readNumber", "(III)I"⟩, 34) := ⟨⟨by decide +kernel, by decide +kernel⟩, List.mem_of_getElem? (i := 998) (by decide +kernel), List.mem_of_getElem? (i := 1182) (by decide +kernel), List.mem_of_getElem? (i := 1183) (by decide +kernel)⟩
theorem lw_p47 : lw_okq (⟨"TestChoiceModel", "readHas", "()V"⟩, 34) := ⟨⟨by decide +kernel, by decide +kernel⟩, List.mem_of_getElem? (i := 998) (by decide +kernel), List.mem_of_getElem? (i := 1186) (by decide +kernel), List.mem_of_getElem? (i := 1187) (by decide +kernel)⟩
def lw_privs_3 : List (MethodName × Nat) := [(⟨"TestChoice", "imagesKept", "()I"⟩, 12), (⟨"TestChoice$Program", "isNodeAsIn", "(LTestChoice$Program;II)Z"⟩, 9), (⟨"TestChoiceModel", "firstDraft", "()V"⟩, 34), (⟨"TestChoiceModel", "keepDraft", "()V"⟩, 34), (⟨"TestChoiceModel", "reads", "()V"⟩, 34), (⟨"TestChoiceModel", "byteAt", "(I)I"⟩, 34), (⟨"TestChoiceModel", "requires", "(ZI)V"⟩, 34), (⟨"TestChoiceModel", "readLine", "()V"⟩, 34), (⟨"TestChoiceModel", "lineNow", "()I"⟩, 34), (⟨"TestChoiceModel", "is", "(IIIII)Z"⟩, 34), (⟨"TestChoiceModel", "hasRoom", "(I)Z"⟩, 34), (⟨"TestChoiceModel", "methodNow", "()I"⟩, 34), (⟨"TestChoiceModel", "readLineOf", "(I)V"⟩, 34), (⟨"TestChoiceModel", "readNode", "(I)V"⟩, 34), (⟨"TestChoiceModel", "readNumber", "(III)I"⟩, 34), (⟨"TestChoiceModel", "readHas", "()V"⟩, 34)]
theorem lw_r3 : ∀ q ∈ lw_privs_3, lw_okq q := List.forall_mem_cons.mpr ⟨lw_p32, List.forall_mem_cons.mpr ⟨lw_p33, List.forall_mem_cons.mpr ⟨lw_p34, List.forall_mem_cons.mpr ⟨lw_p35, List.forall_mem_cons.mpr ⟨lw_p36, List.forall_mem_cons.mpr ⟨lw_p37, List.forall_mem_cons.mpr ⟨lw_p38, List.forall_mem_cons.mpr ⟨lw_p39, List.forall_mem_cons.mpr ⟨lw_p40, List.forall_mem_cons.mpr ⟨lw_p41, List.forall_mem_cons.mpr ⟨lw_p42, List.forall_mem_cons.mpr ⟨lw_p43, List.forall_mem_cons.mpr ⟨lw_p44, List.forall_mem_cons.mpr ⟨lw_p45, List.forall_mem_cons.mpr ⟨lw_p46, List.forall_mem_cons.mpr ⟨lw_p47, fun _ h => absurd h List.not_mem_nil⟩⟩⟩⟩⟩⟩⟩⟩⟩⟩⟩⟩⟩⟩⟩⟩
theorem lw_p48 : lw_okq (⟨"TestChoiceModel", "readClass", "()I"⟩, 34) := ⟨⟨by decide +kernel, by decide +kernel⟩, List.mem_of_getElem? (i := 998) (by decide +kernel), List.mem_of_getElem? (i := 1190) (by decide +kernel), List.mem_of_getElem? (i := 1191) (by decide +kernel)⟩
theorem lw_p49 : lw_okq (⟨"TestChoiceModel", "readTest", "()V"⟩, 34) := ⟨⟨by decide +kernel, by decide +kernel⟩, List.mem_of_getElem? (i := 998) (by decide +kernel), List.mem_of_getElem? (i := 1194) (by decide +kernel), List.mem_of_getElem? (i := 1195) (by decide +kernel)⟩
theorem lw_p50 : lw_okq (⟨"TestChoiceModel", "isWhole", "()Z"⟩, 34) := ⟨⟨by decide +kernel, by decide +kernel⟩, List.mem_of_getElem? (i := 998) (by decide +kernel), List.mem_of_getElem? (i := 1198) (by decide +kernel), List.mem_of_getElem? (i := 1199) (by decide +kernel)⟩
theorem lw_p51 : lw_okq (⟨"TestChoiceModel", "nodesOfAll", "()I"⟩, 34) := ⟨⟨by decide +kernel, by decide +kernel⟩, List.mem_of_getElem? (i := 998) (by decide +kernel), List.mem_of_getElem? (i := 1210) (by decide +kernel), List.mem_of_getElem? (i := 1211) (by decide +kernel)⟩
theorem lw_p52 : lw_okq (⟨"TestChoiceModel", "dangers", "()I"⟩, 34) := ⟨⟨by decide +kernel, by decide +kernel⟩, List.mem_of_getElem? (i := 998) (by decide +kernel), List.mem_of_getElem? (i := 1214) (by decide +kernel), List.mem_of_getElem? (i := 1215) (by decide +kernel)⟩
theorem lw_p53 : lw_okq (⟨"TestChoiceModel", "findDanger", "()V"⟩, 34) := ⟨⟨by decide +kernel, by decide +kernel⟩, List.mem_of_getElem? (i := 998) (by decide +kernel), List.mem_of_getElem? (i := 1218) (by decide +kernel), List.mem_of_getElem? (i := 1219) (by decide +kernel)⟩
theorem lw_p54 : lw_okq (⟨"TestChoiceModel", "findPairs", "(I)V"⟩, 34) := ⟨⟨by decide +kernel, by decide +kernel⟩, List.mem_of_getElem? (i := 998) (by decide +kernel), List.mem_of_getElem? (i := 1222) (by decide +kernel), List.mem_of_getElem? (i := 1223) (by decide +kernel)⟩
theorem lw_p55 : lw_okq (⟨"TestChoiceModel", "areAlike", "(III)Z"⟩, 34) := ⟨⟨by decide +kernel, by decide +kernel⟩, List.mem_of_getElem? (i := 998) (by decide +kernel), List.mem_of_getElem? (i := 1226) (by decide +kernel), List.mem_of_getElem? (i := 1227) (by decide +kernel)⟩
theorem lw_p56 : lw_okq (⟨"TestChoiceModel", "ofNode", "(IIII)I"⟩, 34) := ⟨⟨by decide +kernel, by decide +kernel⟩, List.mem_of_getElem? (i := 998) (by decide +kernel), List.mem_of_getElem? (i := 1230) (by decide +kernel), List.mem_of_getElem? (i := 1231) (by decide +kernel)⟩
theorem lw_p57 : lw_okq (⟨"TestChoiceModel", "pairsOn", "(III)Z"⟩, 34) := ⟨⟨by decide +kernel, by decide +kernel⟩, List.mem_of_getElem? (i := 998) (by decide +kernel), List.mem_of_getElem? (i := 1234) (by decide +kernel), List.mem_of_getElem? (i := 1235) (by decide +kernel)⟩
theorem lw_p58 : lw_okq (⟨"TestChoiceModel", "meantBy", "(III)I"⟩, 34) := ⟨⟨by decide +kernel, by decide +kernel⟩, List.mem_of_getElem? (i := 998) (by decide +kernel), List.mem_of_getElem? (i := 1238) (by decide +kernel), List.mem_of_getElem? (i := 1239) (by decide +kernel)⟩
theorem lw_p59 : lw_okq (⟨"TestChoiceModel", "chosen", "()I"⟩, 34) := ⟨⟨by decide +kernel, by decide +kernel⟩, List.mem_of_getElem? (i := 998) (by decide +kernel), List.mem_of_getElem? (i := 1245) (by decide +kernel), List.mem_of_getElem? (i := 1246) (by decide +kernel)⟩
theorem lw_p60 : lw_okq (⟨"TestChoiceModel", "findOrder", "()V"⟩, 34) := ⟨⟨by decide +kernel, by decide +kernel⟩, List.mem_of_getElem? (i := 998) (by decide +kernel), List.mem_of_getElem? (i := 1249) (by decide +kernel), List.mem_of_getElem? (i := 1250) (by decide +kernel)⟩
theorem lw_p61 : lw_okq (⟨"TestChoiceModel", "dangersOf", "(IZ)I"⟩, 34) := ⟨⟨by decide +kernel, by decide +kernel⟩, List.mem_of_getElem? (i := 998) (by decide +kernel), List.mem_of_getElem? (i := 1253) (by decide +kernel), List.mem_of_getElem? (i := 1254) (by decide +kernel)⟩
theorem lw_p62 : lw_okq (⟨"TestChoiceModel", "runsTest", "(II)V"⟩, 34) := ⟨⟨by decide +kernel, by decide +kernel⟩, List.mem_of_getElem? (i := 998) (by decide +kernel), List.mem_of_getElem? (i := 1257) (by decide +kernel), List.mem_of_getElem? (i := 1258) (by decide +kernel)⟩
theorem lw_p63 : lw_okq (⟨"TestChoiceModel", "ofTest", "(II)I"⟩, 34) := ⟨⟨by decide +kernel, by decide +kernel⟩, List.mem_of_getElem? (i := 998) (by decide +kernel), List.mem_of_getElem? (i := 1261) (by decide +kernel), List.mem_of_getElem? (i := 1262) (by decide +kernel)⟩
def lw_privs_4 : List (MethodName × Nat) := [(⟨"TestChoiceModel", "readClass", "()I"⟩, 34), (⟨"TestChoiceModel", "readTest", "()V"⟩, 34), (⟨"TestChoiceModel", "isWhole", "()Z"⟩, 34), (⟨"TestChoiceModel", "nodesOfAll", "()I"⟩, 34), (⟨"TestChoiceModel", "dangers", "()I"⟩, 34), (⟨"TestChoiceModel", "findDanger", "()V"⟩, 34), (⟨"TestChoiceModel", "findPairs", "(I)V"⟩, 34), (⟨"TestChoiceModel", "areAlike", "(III)Z"⟩, 34), (⟨"TestChoiceModel", "ofNode", "(IIII)I"⟩, 34), (⟨"TestChoiceModel", "pairsOn", "(III)Z"⟩, 34), (⟨"TestChoiceModel", "meantBy", "(III)I"⟩, 34), (⟨"TestChoiceModel", "chosen", "()I"⟩, 34), (⟨"TestChoiceModel", "findOrder", "()V"⟩, 34), (⟨"TestChoiceModel", "dangersOf", "(IZ)I"⟩, 34), (⟨"TestChoiceModel", "runsTest", "(II)V"⟩, 34), (⟨"TestChoiceModel", "ofTest", "(II)I"⟩, 34)]
theorem lw_r4 : ∀ q ∈ lw_privs_4, lw_okq q := List.forall_mem_cons.mpr ⟨lw_p48, List.forall_mem_cons.mpr ⟨lw_p49, List.forall_mem_cons.mpr ⟨lw_p50, List.forall_mem_cons.mpr ⟨lw_p51, List.forall_mem_cons.mpr ⟨lw_p52, List.forall_mem_cons.mpr ⟨lw_p53, List.forall_mem_cons.mpr ⟨lw_p54, List.forall_mem_cons.mpr ⟨lw_p55, List.forall_mem_cons.mpr ⟨lw_p56, List.forall_mem_cons.mpr ⟨lw_p57, List.forall_mem_cons.mpr ⟨lw_p58, List.forall_mem_cons.mpr ⟨lw_p59, List.forall_mem_cons.mpr ⟨lw_p60, List.forall_mem_cons.mpr ⟨lw_p61, List.forall_mem_cons.mpr ⟨lw_p62, List.forall_mem_cons.mpr ⟨lw_p63, fun _ h => absurd h List.not_mem_nil⟩⟩⟩⟩⟩⟩⟩⟩⟩⟩⟩⟩⟩⟩⟩⟩
theorem lw_p64 : lw_okq (⟨"TestChoiceModel", "runs", "(III)V"⟩, 34) := ⟨⟨by decide +kernel, by decide +kernel⟩, List.mem_of_getElem? (i := 998) (by decide +kernel), List.mem_of_getElem? (i := 1265) (by decide +kernel), List.mem_of_getElem? (i := 1266) (by decide +kernel)⟩
theorem lw_p65 : lw_okq (⟨"TestChoiceModel", "enters", "(II)Z"⟩, 34) := ⟨⟨by decide +kernel, by decide +kernel⟩, List.mem_of_getElem? (i := 998) (by decide +kernel), List.mem_of_getElem? (i := 1269) (by decide +kernel), List.mem_of_getElem? (i := 1270) (by decide +kernel)⟩
theorem lw_p66 : lw_okq (⟨"TestChoiceModel", "says", "(I)V"⟩, 34) := ⟨⟨by decide +kernel, by decide +kernel⟩, List.mem_of_getElem? (i := 998) (by decide +kernel), List.mem_of_getElem? (i := 1273) (by decide +kernel), List.mem_of_getElem? (i := 1274) (by decide +kernel)⟩
theorem lw_p67 : lw_okq (⟨"TestChoiceModel", "comesBack", "()V"⟩, 34) := ⟨⟨by decide +kernel, by decide +kernel⟩, List.mem_of_getElem? (i := 998) (by decide +kernel), List.mem_of_getElem? (i := 1277) (by decide +kernel), List.mem_of_getElem? (i := 1278) (by decide +kernel)⟩
theorem lw_p68 : lw_okq (⟨"TestChoiceModel", "goesTo", "(II)V"⟩, 34) := ⟨⟨by decide +kernel, by decide +kernel⟩, List.mem_of_getElem? (i := 998) (by decide +kernel), List.mem_of_getElem? (i := 1281) (by decide +kernel), List.mem_of_getElem? (i := 1282) (by decide +kernel)⟩
theorem lw_p69 : lw_okq (⟨"TestChoiceModel", "callsIn", "(II)Z"⟩, 34) := ⟨⟨by decide +kernel, by decide +kernel⟩, List.mem_of_getElem? (i := 998) (by decide +kernel), List.mem_of_getElem? (i := 1285) (by decide +kernel), List.mem_of_getElem? (i := 1286) (by decide +kernel)⟩
theorem lw_p70 : lw_okq (⟨"TestChoiceModel", "goesOn", "(II)V"⟩, 34) := ⟨⟨by decide +kernel, by decide +kernel⟩, List.mem_of_getElem? (i := 998) (by decide +kernel), List.mem_of_getElem? (i := 1289) (by decide +kernel), List.mem_of_getElem? (i := 1290) (by decide +kernel)⟩
theorem lw_p71 : lw_okq (⟨"TestChoiceModel", "comesNext", "(II)V"⟩, 34) := ⟨⟨by decide +kernel, by decide +kernel⟩, List.mem_of_getElem? (i := 998) (by decide +kernel), List.mem_of_getElem? (i := 1293) (by decide +kernel), List.mem_of_getElem? (i := 1294) (by decide +kernel)⟩
theorem lw_p72 : lw_okq (⟨"TestChoiceModel", "costsChosen", "()I"⟩, 34) := ⟨⟨by decide +kernel, by decide +kernel⟩, List.mem_of_getElem? (i := 998) (by decide +kernel), List.mem_of_getElem? (i := 1297) (by decide +kernel), List.mem_of_getElem? (i := 1298) (by decide +kernel)⟩
theorem lw_p73 : lw_okq (⟨"TestChoiceModel", "others", "()I"⟩, 34) := ⟨⟨by decide +kernel, by decide +kernel⟩, List.mem_of_getElem? (i := 998) (by decide +kernel), List.mem_of_getElem? (i := 1301) (by decide +kernel), List.mem_of_getElem? (i := 1302) (by decide +kernel)⟩
theorem lw_p74 : lw_okq (⟨"TestChoiceModel", "areSame", "(II)Z"⟩, 34) := ⟨⟨by decide +kernel, by decide +kernel⟩, List.mem_of_getElem? (i := 998) (by decide +kernel), List.mem_of_getElem? (i := 1305) (by decide +kernel), List.mem_of_getElem? (i := 1306) (by decide +kernel)⟩
theorem lw_p75 : lw_okq (⟨"TestChoiceModel", "isNode", "(II)Z"⟩, 34) := ⟨⟨by decide +kernel, by decide +kernel⟩, List.mem_of_getElem? (i := 998) (by decide +kernel), List.mem_of_getElem? (i := 1313) (by decide +kernel), List.mem_of_getElem? (i := 1314) (by decide +kernel)⟩
theorem lw_p76 : lw_okq (⟨"TestChoiceModel", "isMethod", "(I)Z"⟩, 34) := ⟨⟨by decide +kernel, by decide +kernel⟩, List.mem_of_getElem? (i := 998) (by decide +kernel), List.mem_of_getElem? (i := 1317) (by decide +kernel), List.mem_of_getElem? (i := 1318) (by decide +kernel)⟩
theorem lw_p77 : lw_okq (⟨"TestChoiceModel", "isClass", "(I)Z"⟩, 34) := ⟨⟨by decide +kernel, by decide +kernel⟩, List.mem_of_getElem? (i := 998) (by decide +kernel), List.mem_of_getElem? (i := 1326) (by decide +kernel), List.mem_of_getElem? (i := 1327) (by decide +kernel)⟩
theorem lw_p78 : lw_okq (⟨"TestChoiceModel", "isTest", "(I)Z"⟩, 34) := ⟨⟨by decide +kernel, by decide +kernel⟩, List.mem_of_getElem? (i := 998) (by decide +kernel), List.mem_of_getElem? (i := 1341) (by decide +kernel), List.mem_of_getElem? (i := 1342) (by decide +kernel)⟩
theorem lw_p79 : lw_okq (⟨"TestChoiceModel", "nodesRun", "(II)I"⟩, 34) := ⟨⟨by decide +kernel, by decide +kernel⟩, List.mem_of_getElem? (i := 998) (by decide +kernel), List.mem_of_getElem? (i := 1345) (by decide +kernel), List.mem_of_getElem? (i := 1346) (by decide +kernel)⟩
def lw_privs_5 : List (MethodName × Nat) := [(⟨"TestChoiceModel", "runs", "(III)V"⟩, 34), (⟨"TestChoiceModel", "enters", "(II)Z"⟩, 34), (⟨"TestChoiceModel", "says", "(I)V"⟩, 34), (⟨"TestChoiceModel", "comesBack", "()V"⟩, 34), (⟨"TestChoiceModel", "goesTo", "(II)V"⟩, 34), (⟨"TestChoiceModel", "callsIn", "(II)Z"⟩, 34), (⟨"TestChoiceModel", "goesOn", "(II)V"⟩, 34), (⟨"TestChoiceModel", "comesNext", "(II)V"⟩, 34), (⟨"TestChoiceModel", "costsChosen", "()I"⟩, 34), (⟨"TestChoiceModel", "others", "()I"⟩, 34), (⟨"TestChoiceModel", "areSame", "(II)Z"⟩, 34), (⟨"TestChoiceModel", "isNode", "(II)Z"⟩, 34), (⟨"TestChoiceModel", "isMethod", "(I)Z"⟩, 34), (⟨"TestChoiceModel", "isClass", "(I)Z"⟩, 34), (⟨"TestChoiceModel", "isTest", "(I)Z"⟩, 34), (⟨"TestChoiceModel", "nodesRun", "(II)I"⟩, 34)]
theorem lw_r5 : ∀ q ∈ lw_privs_5, lw_okq q := List.forall_mem_cons.mpr ⟨lw_p64, List.forall_mem_cons.mpr ⟨lw_p65, List.forall_mem_cons.mpr ⟨lw_p66, List.forall_mem_cons.mpr ⟨lw_p67, List.forall_mem_cons.mpr ⟨lw_p68, List.forall_mem_cons.mpr ⟨lw_p69, List.forall_mem_cons.mpr ⟨lw_p70, List.forall_mem_cons.mpr ⟨lw_p71, List.forall_mem_cons.mpr ⟨lw_p72, List.forall_mem_cons.mpr ⟨lw_p73, List.forall_mem_cons.mpr ⟨lw_p74, List.forall_mem_cons.mpr ⟨lw_p75, List.forall_mem_cons.mpr ⟨lw_p76, List.forall_mem_cons.mpr ⟨lw_p77, List.forall_mem_cons.mpr ⟨lw_p78, List.forall_mem_cons.mpr ⟨lw_p79, fun _ h => absurd h List.not_mem_nil⟩⟩⟩⟩⟩⟩⟩⟩⟩⟩⟩⟩⟩⟩⟩⟩
theorem lw_p80 : lw_okq (⟨"TestChoiceModel", "dangersBy", "(I)I"⟩, 34) := ⟨⟨by decide +kernel, by decide +kernel⟩, List.mem_of_getElem? (i := 998) (by decide +kernel), List.mem_of_getElem? (i := 1349) (by decide +kernel), List.mem_of_getElem? (i := 1350) (by decide +kernel)⟩
theorem lw_p81 : lw_okq (⟨"TestChoiceModel", "rankOf", "(I)I"⟩, 34) := ⟨⟨by decide +kernel, by decide +kernel⟩, List.mem_of_getElem? (i := 998) (by decide +kernel), List.mem_of_getElem? (i := 1353) (by decide +kernel), List.mem_of_getElem? (i := 1354) (by decide +kernel)⟩
theorem lw_p82 : lw_okq (⟨"TestChoiceModel", "coveredBy", "(I)I"⟩, 34) := ⟨⟨by decide +kernel, by decide +kernel⟩, List.mem_of_getElem? (i := 998) (by decide +kernel), List.mem_of_getElem? (i := 1357) (by decide +kernel), List.mem_of_getElem? (i := 1358) (by decide +kernel)⟩
theorem lw_p83 : lw_okq (⟨"TestChoiceModel", "coveredMany", "()I"⟩, 34) := ⟨⟨by decide +kernel, by decide +kernel⟩, List.mem_of_getElem? (i := 998) (by decide +kernel), List.mem_of_getElem? (i := 1361) (by decide +kernel), List.mem_of_getElem? (i := 1362) (by decide +kernel)⟩
theorem lw_p84 : lw_okq (⟨"TestChoiceModel", "isEdge", "(I)Z"⟩, 34) := ⟨⟨by decide +kernel, by decide +kernel⟩, List.mem_of_getElem? (i := 998) (by decide +kernel), List.mem_of_getElem? (i := 1373) (by decide +kernel), List.mem_of_getElem? (i := 1374) (by decide +kernel)⟩
theorem lw_p85 : lw_okq (⟨"TestChoiceModel", "testsOver", "(I)I"⟩, 34) := ⟨⟨by decide +kernel, by decide +kernel⟩, List.mem_of_getElem? (i := 998) (by decide +kernel), List.mem_of_getElem? (i := 1382) (by decide +kernel), List.mem_of_getElem? (i := 1383) (by decide +kernel)⟩
theorem lw_p86 : lw_okq (⟨"TestChoiceModel", "becomes", "(II)I"⟩, 34) := ⟨⟨by decide +kernel, by decide +kernel⟩, List.mem_of_getElem? (i := 998) (by decide +kernel), List.mem_of_getElem? (i := 1420) (by decide +kernel), List.mem_of_getElem? (i := 1421) (by decide +kernel)⟩
theorem lw_p87 : lw_okq (⟨"TestChoiceModel", "comes", "(III)V"⟩, 34) := ⟨⟨by decide +kernel, by decide +kernel⟩, List.mem_of_getElem? (i := 998) (by decide +kernel), List.mem_of_getElem? (i := 1433) (by decide +kernel), List.mem_of_getElem? (i := 1434) (by decide +kernel)⟩
theorem lw_p88 : lw_okq (⟨"TestChoiceModel", "callsOld", "()I"⟩, 34) := ⟨⟨by decide +kernel, by decide +kernel⟩, List.mem_of_getElem? (i := 998) (by decide +kernel), List.mem_of_getElem? (i := 1480) (by decide +kernel), List.mem_of_getElem? (i := 1481) (by decide +kernel)⟩
theorem lw_p89 : lw_okq (⟨"TestChoiceModel", "edgesOver", "()I"⟩, 34) := ⟨⟨by decide +kernel, by decide +kernel⟩, List.mem_of_getElem? (i := 998) (by decide +kernel), List.mem_of_getElem? (i := 1484) (by decide +kernel), List.mem_of_getElem? (i := 1485) (by decide +kernel)⟩
theorem lw_p90 : lw_okq (⟨"TestChoiceModel", "nodesOther", "()I"⟩, 34) := ⟨⟨by decide +kernel, by decide +kernel⟩, List.mem_of_getElem? (i := 998) (by decide +kernel), List.mem_of_getElem? (i := 1488) (by decide +kernel), List.mem_of_getElem? (i := 1489) (by decide +kernel)⟩
theorem lw_p91 : lw_okq (⟨"TestChoiceModel", "isOther", "(II)Z"⟩, 34) := ⟨⟨by decide +kernel, by decide +kernel⟩, List.mem_of_getElem? (i := 998) (by decide +kernel), List.mem_of_getElem? (i := 1492) (by decide +kernel), List.mem_of_getElem? (i := 1493) (by decide +kernel)⟩
def lw_privs_6 : List (MethodName × Nat) := [(⟨"TestChoiceModel", "dangersBy", "(I)I"⟩, 34), (⟨"TestChoiceModel", "rankOf", "(I)I"⟩, 34), (⟨"TestChoiceModel", "coveredBy", "(I)I"⟩, 34), (⟨"TestChoiceModel", "coveredMany", "()I"⟩, 34), (⟨"TestChoiceModel", "isEdge", "(I)Z"⟩, 34), (⟨"TestChoiceModel", "testsOver", "(I)I"⟩, 34), (⟨"TestChoiceModel", "becomes", "(II)I"⟩, 34), (⟨"TestChoiceModel", "comes", "(III)V"⟩, 34), (⟨"TestChoiceModel", "callsOld", "()I"⟩, 34), (⟨"TestChoiceModel", "edgesOver", "()I"⟩, 34), (⟨"TestChoiceModel", "nodesOther", "()I"⟩, 34), (⟨"TestChoiceModel", "isOther", "(II)Z"⟩, 34)]
theorem lw_r6 : ∀ q ∈ lw_privs_6, lw_okq q := List.forall_mem_cons.mpr ⟨lw_p80, List.forall_mem_cons.mpr ⟨lw_p81, List.forall_mem_cons.mpr ⟨lw_p82, List.forall_mem_cons.mpr ⟨lw_p83, List.forall_mem_cons.mpr ⟨lw_p84, List.forall_mem_cons.mpr ⟨lw_p85, List.forall_mem_cons.mpr ⟨lw_p86, List.forall_mem_cons.mpr ⟨lw_p87, List.forall_mem_cons.mpr ⟨lw_p88, List.forall_mem_cons.mpr ⟨lw_p89, List.forall_mem_cons.mpr ⟨lw_p90, List.forall_mem_cons.mpr ⟨lw_p91, fun _ h => absurd h List.not_mem_nil⟩⟩⟩⟩⟩⟩⟩⟩⟩⟩⟩⟩
def lw_privs : List (MethodName × Nat) := lw_privs_1 ++ (lw_privs_2 ++ (lw_privs_3 ++ (lw_privs_4 ++ (lw_privs_5 ++ (lw_privs_6)))))
def lw_tbl : List Cond := k2_sels lw_privs ++ tables_1
theorem lw_privs_ok : ∀ q ∈ lw_privs, lw_okq q := by
  show ∀ q ∈ lw_privs_1 ++ (lw_privs_2 ++ (lw_privs_3 ++ (lw_privs_4 ++ (lw_privs_5 ++ (lw_privs_6))))), lw_okq q
  exact List.forall_mem_append.mpr ⟨lw_r1, List.forall_mem_append.mpr ⟨lw_r2, List.forall_mem_append.mpr ⟨lw_r3, List.forall_mem_append.mpr ⟨lw_r4, List.forall_mem_append.mpr ⟨lw_r5, lw_r6⟩⟩⟩⟩⟩
end
section
/-! A SMALL MACHINE over a picture of the heap: the objects of a run are numbered from 0 in the order of their making; a heap is what the int places, the long places hold, and the one reference that moves. Its steps are a function: so whole runs of the bytecode are reckoned, not walked. -/
abbrev z_H : Type := (Nat → Nat → Int32) × (Nat → Nat → Int64) × Nat
abbrev z_L : Type := List (Nat × Value)
/-- pc, locals, stack, heap -/
abbrev z_S : Type := Nat × z_L × List Value × z_H
/-- instruction, next pc, a constant, three numbers, which locals are kept here (at a label), a switch's targets -/
abbrev z_I : Type := Instr × Nat × Int32 × Nat × Nat × Nat × Option (List Nat) × List (Int32 × Nat)
abbrev z_C : Type := Nat → Option z_I
abbrev z_A : Type := Int32 × z_H
/-- a next state; the method's answer; a call: whom, with what, how its answer comes back (0 none, 1 int, 2 reference), the state behind it -/
abbrev z_O : Type := z_S ⊕ (z_A ⊕ (Nat × List Value × Nat × z_S))
def z_wI (h : z_H) (o k : Nat) (x : Int32) : z_H := (fun o' k' => bif Nat.beq o' o then (bif Nat.beq k' k then x else h.1 o' k') else h.1 o' k', h.2)
def z_wL (h : z_H) (o k : Nat) (x : Int64) : z_H := (h.1, fun o' k' => bif Nat.beq o' o then (bif Nat.beq k' k then x else h.2.1 o' k') else h.2.1 o' k', h.2.2)
def z_wD (h : z_H) (d : Nat) : z_H := (h.1, h.2.1, d)
def z_cpI (h : z_H) (s sp d dp n : Nat) : z_H := (fun o' k' => bif Nat.beq o' d then (va_cpy (h.1 s) (h.1 d) sp dp n) k' else h.1 o' k', h.2)
def z_cpL (h : z_H) (s sp d dp n : Nat) : z_H := (h.1, fun o' k' => bif Nat.beq o' d then (va_cpy (h.2.1 s) (h.2.1 d) sp dp n) k' else h.2.1 o' k', h.2.2)
def z_in (j : Int32) (n : Nat) : Bool := !(decide (j < 0)) && Nat.blt j.toNatClampNeg n
def z_get : z_L → Nat → Option Value
  | [], _ => none
  | (i, v) :: r, a => bif Nat.beq i a then some v else z_get r a
def z_put1 (l : z_L) (i : Nat) (v : Value) : z_L := (i, v) :: l.filter (fun q => !(q.1 == i) && !(q.1 + 1 == i && q.2.category == 2))
def z_put2 (l : z_L) (i : Nat) (v : Value) : z_L := (i, v) :: l.filter (fun q => !(q.1 == i) && (!(q.1 == i + 1) && !(q.1 + 1 == i && q.2.category == 2)))
def z_norm (lab : Option (List Nat)) (l : z_L) : z_L := match lab with
  | none => l
  | some L => L.filterMap (fun i => (z_get l i).map (fun v => (i, v)))
def z_nx (pc : Nat) (l : z_L) (st : List Value) (h : z_H) : Option z_O := some (.inl (pc, l, st, h))
def z_i1 (st : List Value) (f : Int32 → List Value → Option z_O) : Option z_O := match st with
  | .int x :: r => f x r
  | _ => none
def z_i2 (st : List Value) (f : Int32 → Int32 → List Value → Option z_O) : Option z_O := match st with
  | .int y :: .int x :: r => f x y r
  | _ => none
def z_l1 (st : List Value) (f : Int64 → List Value → Option z_O) : Option z_O := match st with
  | .long x :: r => f x r
  | _ => none
def z_l2 (st : List Value) (f : Int64 → Int64 → List Value → Option z_O) : Option z_O := match st with
  | .long y :: .long x :: r => f x y r
  | _ => none
def z_li (st : List Value) (f : Int64 → Int32 → List Value → Option z_O) : Option z_O := match st with
  | .int y :: .long x :: r => f x y r
  | _ => none
def z_r1 (st : List Value) (f : Nat → List Value → Option z_O) : Option z_O := match st with
  | .ref o :: r => f o r
  | _ => none
def z_ri (st : List Value) (f : Nat → Int32 → List Value → Option z_O) : Option z_O := match st with
  | .int j :: .ref o :: r => f o j r
  | _ => none
def z_rii (st : List Value) (f : Nat → Int32 → Int32 → List Value → Option z_O) : Option z_O := match st with
  | .int x :: .int j :: .ref o :: r => f o j x r
  | _ => none
def z_ril (st : List Value) (f : Nat → Int32 → Int64 → List Value → Option z_O) : Option z_O := match st with
  | .long x :: .int j :: .ref o :: r => f o j x r
  | _ => none
def z_rr (st : List Value) (f : Nat → Nat → List Value → Option z_O) : Option z_O := match st with
  | .ref x :: .ref o :: r => f o x r
  | _ => none
def z_cp (st : List Value) (f : Nat → Int32 → Nat → Int32 → Int32 → List Value → Option z_O) : Option z_O := match st with
  | .int n :: .int dp :: .ref d :: .int sp :: .ref s :: r => f s sp d dp n r
  | _ => none
def z_vi (v : Option Value) (f : Int32 → Option z_O) : Option z_O := match v with
  | some (.int x) => f x
  | _ => none
def z_vl (v : Option Value) (f : Int64 → Option z_O) : Option z_O := match v with
  | some (.long x) => f x
  | _ => none
def z_vr (v : Option Value) (f : Nat → Option z_O) : Option z_O := match v with
  | some (.ref x) => f x
  | _ => none
def z_sw (d : z_S) (x : Int32) (f : Nat → z_S) : List (Int32 × Nat) → z_S
  | [] => d
  | (k, t) :: r => if x = k then f t else z_sw d x f r
def z_cat (st : List Value) : Nat := (st.map fun v => v.category).sum
/-! the objects: kinds (1 to 12 the classes, 20 int, 21 long, 22 byte, 23 boolean rows, 24 to 26 rows of references), lengths, the references that stay -/
def z_KT : Nat := 285972929434903004923040216459093570233014006958313980162047911515773339775059562137093260082359924337541618214318671408923136321429751530002420449915575294214490074296188965753145958643355773879063164541466425090802589487124242261790835800130021939809138991368797763225968943454969066716718762847686660392548671597691395336060142433468929
def z_NT : Nat := 111369062312973706523976019251547330459264063167566880440936494462277133393601955339616798140001104835487378616155776406615994015086212350832063443730453063684466115357443601588212760509167156366364533272503700723868980692563796817966875648829863001733922854419591871700067635864805890111486040663030492712429170272290503105646561988345235930769161929828755294259978008122284110609158581735904044678252948119884087412449010569110979806964520805724916242146789930944819707688046748749875422699624849638999160055308536249979361149596006965953831930715734465224299078613704978044236525312478195394007667446243234315759258573142191285943236651329974382424986769610326690208598589452
def z_K (o : Nat) : Nat := (z_KT >>> (8 * o)) % 256
def z_N (o : Nat) : Nat := (z_NT >>> (16 * o)) % 65536
-- the references of the objects that there is one of: by 8 bits each
def z_R0 : Nat := 336582546260459338662657
def z_R1 : Nat := 2199023255552
def z_R3 : Nat := 4504750745714688
def z_R37 : Nat := 2490368
def z_R40 : Nat := 189701624105
def z_R45 : Nat := 44919759967281481964793344
def z_R122 : Nat := 16274008749625908538242086340594913409598934555745922677923817521735537585388667
def z_R (o k : Nat) : Nat := match z_K o with
  | 4 => o + k - 1
  | 5 => o + k
  | 7 => o + 1
  | 10 => o + 8 * k - 7
  | 11 => o + 1
  | 24 => 54 + 2 * k
  | 25 => 72 + 21 * k
  | 26 => 114 + 2 * k
  | 1 => (z_R0 >>> (8 * k)) % 256
  | 2 => (z_R1 >>> (8 * k)) % 256
  | 3 => (z_R3 >>> (8 * k)) % 256
  | 6 => (z_R37 >>> (8 * k)) % 256
  | 8 => (z_R40 >>> (8 * k)) % 256
  | 9 => (z_R45 >>> (8 * k)) % 256
  | 12 => (z_R122 >>> (8 * k)) % 256
  | _ => 0
/-- the receiver is of the kind that the call names (100: a text constant) -/
def z_rcv (sw : List (Int32 × Nat)) (args : List Value) : Bool := match sw, args with
  | (_, k) :: _, .ref o :: _ => bif Nat.beq k 100 then Nat.ble 1000 o && Nat.ble o 1005 else Nat.beq (z_K o) k
  | _, _ => false
def z_if (c : Bool) (a : Option z_O) : Option z_O := match c with
  | true => a
  | false => none
def z_br (c : Prop) [Decidable c] (t n : Nat) (l : z_L) (st : List Value) (h : z_H) : Option z_O := some (.inl (if c then (t, l, st, h) else (n, l, st, h)))
/-- one instruction: ins, next pc n, constant v, numbers a b c, a switch's targets; the locals, the stack, the heap -/
def z_exec (ins : Instr) (n : Nat) (v : Int32) (a b c : Nat) (sw : List (Int32 × Nat)) (l : z_L) (st : List Value) (h : z_H) : Option z_O := match ins with
  | .iconst _ => z_nx n l (.int v :: st) h
  | .bipush _ => z_nx n l (.int v :: st) h
  | .sipush _ => z_nx n l (.int v :: st) h
  | .ldc _ => z_nx n l ((bif Nat.beq a 0 then .int v else .ref a) :: st) h
  | .ldc_w _ => z_nx n l (.int v :: st) h
  | .lconst _ => z_nx n l (.long v.toInt64 :: st) h
  | .ldc2_w _ => z_nx n l (.long v.toInt64 :: st) h
  | .iload _ => z_vi (z_get l a) fun x => z_nx n l (.int x :: st) h
  | .iload_n _ => z_vi (z_get l a) fun x => z_nx n l (.int x :: st) h
  | .lload _ => z_vl (z_get l a) fun x => z_nx n l (.long x :: st) h
  | .lload_n _ => z_vl (z_get l a) fun x => z_nx n l (.long x :: st) h
  | .aload _ => z_vr (z_get l a) fun o => z_if (!Nat.beq o 999) (z_nx n l (.ref o :: st) h)
  | .aload_n _ => z_vr (z_get l a) fun o => z_if (!Nat.beq o 999) (z_nx n l (.ref o :: st) h)
  | .istore _ => z_i1 st fun x r => z_nx n (z_put1 l a (.int x)) r h
  | .istore_n _ => z_i1 st fun x r => z_nx n (z_put1 l a (.int x)) r h
  | .lstore _ => z_l1 st fun x r => z_nx n (z_put2 l a (.long x)) r h
  | .lstore_n _ => z_l1 st fun x r => z_nx n (z_put2 l a (.long x)) r h
  | .astore _ => z_r1 st fun o r => z_if (!Nat.beq o 999) (z_nx n (z_put1 l a (.ref o)) r h)
  | .astore_n _ => z_r1 st fun o r => z_if (!Nat.beq o 999) (z_nx n (z_put1 l a (.ref o)) r h)
  | .iinc _ _ => z_vi (z_get l a) fun x => z_nx n (z_put1 l a (.int (x + v))) st h
  | .iaload => z_ri st fun o j r => z_if (Nat.beq (z_K o) 20) (z_if (z_in j (z_N o)) (z_nx n l (.int (h.1 o j.toNatClampNeg) :: r) h))
  | .laload => z_ri st fun o j r => z_if (Nat.beq (z_K o) 21) (z_if (z_in j (z_N o)) (z_nx n l (.long (h.2.1 o j.toNatClampNeg) :: r) h))
  | .baload => z_ri st fun o j r => z_if (Nat.beq (z_K o) 22 || Nat.beq (z_K o) 23) (z_if (z_in j (z_N o)) (z_nx n l (.int (h.1 o j.toNatClampNeg) :: r) h))
  | .aaload => z_ri st fun o j r => z_if (Nat.ble 24 (z_K o) && Nat.ble (z_K o) 26) (z_if (z_in j (z_N o)) (z_nx n l (.ref (z_R o j.toNatClampNeg) :: r) h))
  | .iastore => z_rii st fun o j x r => z_if (Nat.beq (z_K o) 20) (z_if (z_in j (z_N o)) (z_nx n l r (z_wI h o j.toNatClampNeg x)))
  | .bastore => z_rii st fun o j x r => z_if (Nat.beq (z_K o) 22 || Nat.beq (z_K o) 23) (z_if (z_in j (z_N o)) (z_nx n l r (z_wI h o j.toNatClampNeg (bif Nat.beq (z_K o) 22 then x.toInt8.toInt32 else x &&& 1))))
  | .lastore => z_ril st fun o j x r => z_if (Nat.beq (z_K o) 21) (z_if (z_in j (z_N o)) (z_nx n l r (z_wL h o j.toNatClampNeg x)))
  | .arraylength => z_r1 st fun o r => z_if (Nat.ble 20 (z_K o) && Nat.ble (z_K o) 26) (z_nx n l (.int (Int32.ofNat (z_N o)) :: r) h)
  | .getfield _ => z_r1 st fun o r => z_if (Nat.beq (z_K o) a) (z_nx n l ((match c with | 1 => .ref (z_R o b) | 2 => .ref h.2.2 | _ => .int (h.1 o b)) :: r) h)
  | .putfield _ => match c with
    | 2 => z_rr st fun o x r => z_if (Nat.beq (z_K o) a && Nat.blt x 141) (z_nx n l r (z_wD h x))
    | 3 => match st with
      | .int x :: .ref o :: r => z_if (Nat.beq (z_K o) a && (decide (x = 0) || decide (x = 1))) (z_nx n l r (z_wI h o b x))
      | _ => none
    | 4 => match st with
      | .int x :: .ref o :: r => z_if (Nat.beq (z_K o) a) (z_nx n l r (z_wI h o b x))
      | _ => none
    | _ => none
  | .pop => match st with
    | .int _ :: r => z_nx n l r h
    | .ref _ :: r => z_nx n l r h
    | _ => none
  | .dup => match st with
    | .int x :: r => z_nx n l (.int x :: .int x :: r) h
    | .ref x :: r => z_nx n l (.ref x :: .ref x :: r) h
    | _ => none
  | .dup2 => z_ri st fun o j r => z_nx n l (.int j :: .ref o :: .int j :: .ref o :: r) h
  | .iadd => z_i2 st fun x y r => z_nx n l (.int (x + y) :: r) h
  | .isub => z_i2 st fun x y r => z_nx n l (.int (x - y) :: r) h
  | .imul => z_i2 st fun x y r => z_nx n l (.int (x * y) :: r) h
  | .iand => z_i2 st fun x y r => z_nx n l (.int (x &&& y) :: r) h
  | .idiv => z_i2 st fun x y r => z_if (!decide (y = 0)) (z_nx n l (.int (x / y) :: r) h)
  | .irem => z_i2 st fun x y r => z_if (!decide (y = 0)) (z_nx n l (.int (x - x / y * y) :: r) h)
  | .ishr => z_i2 st fun x y r => z_nx n l (.int (x >>> (y &&& 31)) :: r) h
  | .iushr => z_i2 st fun x y r => z_nx n l (.int ((x.toUInt32 >>> (y.toUInt32 &&& Int32.toUInt32 31)).toInt32) :: r) h
  | .ladd => z_l2 st fun x y r => z_nx n l (.long (x + y) :: r) h
  | .land => z_l2 st fun x y r => z_nx n l (.long (x &&& y) :: r) h
  | .lor => z_l2 st fun x y r => z_nx n l (.long (x ||| y) :: r) h
  | .lxor => z_l2 st fun x y r => z_nx n l (.long (x ^^^ y) :: r) h
  | .lcmp => z_l2 st fun x y r => z_nx n l (.int (lg_cmp x y) :: r) h
  | .lshl => z_li st fun x y r => z_nx n l (.long (x <<< (y.toInt64 &&& 63)) :: r) h
  | .lushr => z_li st fun x y r => z_nx n l (.long ((x.toUInt64 >>> (y.toInt64.toUInt64 &&& Int64.toUInt64 63)).toInt64) :: r) h
  | .i2l => z_i1 st fun x r => z_nx n l (.long x.toInt64 :: r) h
  | .l2i => z_l1 st fun x r => z_nx n l (.int x.toInt32 :: r) h
  | .i2b => z_i1 st fun x r => z_nx n l (.int x.toInt8.toInt32 :: r) h
  | .i2s => z_i1 st fun x r => z_nx n l (.int x.toInt16.toInt32 :: r) h
  | .ifCond .eq _ => z_i1 st fun x r => z_br (x = 0) a n l r h
  | .ifCond .ne _ => z_i1 st fun x r => z_br (¬ x = 0) a n l r h
  | .ifCond .lt _ => z_i1 st fun x r => z_br (x < 0) a n l r h
  | .ifCond .ge _ => z_i1 st fun x r => z_br (0 ≤ x) a n l r h
  | .ifCond .gt _ => z_i1 st fun x r => z_br (0 < x) a n l r h
  | .ifCond .le _ => z_i1 st fun x r => z_br (x ≤ 0) a n l r h
  | .if_icmp .eq _ => z_i2 st fun x y r => z_br (x = y) a n l r h
  | .if_icmp .ne _ => z_i2 st fun x y r => z_br (¬ x = y) a n l r h
  | .if_icmp .lt _ => z_i2 st fun x y r => z_br (x < y) a n l r h
  | .if_icmp .ge _ => z_i2 st fun x y r => z_br (y ≤ x) a n l r h
  | .if_icmp .gt _ => z_i2 st fun x y r => z_br (y < x) a n l r h
  | .if_icmp .le _ => z_i2 st fun x y r => z_br (x ≤ y) a n l r h
  | .goto _ => z_nx a l st h
  | .tableswitch _ _ _ _ => z_i1 st fun x r => some (.inl (z_sw (a, l, r, h) x (fun t => (t, l, r, h)) sw))
  | .lookupswitch _ _ => z_i1 st fun x r => some (.inl (z_sw (a, l, r, h) x (fun t => (t, l, r, h)) sw))
  | .ireturn => z_i1 st fun x _ => some (.inr (.inl ((bif Nat.beq a 1 then x &&& 1 else x), h)))
  | .areturn => z_r1 st fun o _ => z_if (Nat.blt o 2000 && !Nat.beq o 999) (some (.inr (.inl (Int32.ofNat o, h))))
  | .return_ => some (.inr (.inl (0, h)))
  | .invokevirtual _ => z_if (Nat.ble b st.length && Nat.ble (z_cat (st.drop b)) 8 && z_rcv sw (st.take b).reverse) (some (.inr (.inr (a, (st.take b).reverse, c, (n, l, st.drop b, h)))))
  | .invokestatic _ => match a with
    | 900 => z_cp st fun s sp d dp k r => z_if (Nat.beq (z_K s) 20 && Nat.beq (z_K d) 20 && !Nat.beq s d && !(decide (sp < 0)) && !(decide (dp < 0)) && !(decide (k < 0)) && Nat.ble (sp.toNatClampNeg + k.toNatClampNeg) (z_N s) && Nat.ble (dp.toNatClampNeg + k.toNatClampNeg) (z_N d) && Nat.ble (z_cat r) 8) (z_nx n l r (z_cpI h s sp.toNatClampNeg d dp.toNatClampNeg k.toNatClampNeg))
    | 901 => z_cp st fun s sp d dp k r => z_if (Nat.beq (z_K s) 21 && Nat.beq (z_K d) 21 && !Nat.beq s d && !(decide (sp < 0)) && !(decide (dp < 0)) && !(decide (k < 0)) && Nat.ble (sp.toNatClampNeg + k.toNatClampNeg) (z_N s) && Nat.ble (dp.toNatClampNeg + k.toNatClampNeg) (z_N d) && Nat.ble (z_cat r) 8) (z_nx n l r (z_cpL h s sp.toNatClampNeg d dp.toNatClampNeg k.toNatClampNeg))
    | 904 => z_i2 st fun x y r => z_if (Nat.ble (z_cat r) 8) (z_nx n l (.int (if x < y then y else x) :: r) h)
    | 905 => z_i2 st fun x y r => z_if (Nat.ble (z_cat r) 8) (z_nx n l (.int (if y < x then y else x) :: r) h)
    | _ => z_if (Nat.ble b st.length && Nat.ble (z_cat (st.drop b)) 8) (some (.inr (.inr (a, (st.take b).reverse, c, (n, l, st.drop b, h)))))
  | _ => none
def z_step (C : z_C) (s : z_S) : Option z_O := match C s.1 with
  | none => none
  | some i => z_exec i.1 i.2.1 i.2.2.1 i.2.2.2.1 i.2.2.2.2.1 i.2.2.2.2.2.1 i.2.2.2.2.2.2.2 (z_norm i.2.2.2.2.2.2.1 s.2.1) s.2.2.1 s.2.2.2
end
section
/-! the methods, as the small machine has them: pc, instruction, next pc, constant, three numbers, the locals kept at a label, a switch -/
def z_find : List (Nat × z_I) → Nat → Option z_I
  | [], _ => none
  | (k, i) :: r, pc => bif Nat.beq k pc then some i else z_find r pc
def z_find2 : List (Nat × List (Nat × z_I)) → Nat → Option z_I
  | [], _ => none
  | (k, q) :: r, pc => bif Nat.blt pc k then z_find q pc else z_find2 r pc
def zd_X_feed : List (Nat × List (Nat × z_I)) := [(17, [(0, .iload_n 1, 1, 0, 1, 0, 0, none, []), (1, .ifCond .lt 9, 4, 0, 10, 0, 0, none, []), (4, .iload_n 1, 5, 0, 1, 0, 0, none, []), (5, .bipush 127, 7, 127, 0, 0, 0, none, []), (7, .if_icmp .le 5, 10, 0, 12, 0, 0, none, []), (10, .iconst (-1), 11, (-1), 0, 0, 0, none, []), (11, .ireturn, 12, 0, 0, 0, 0, none, []), (12, .aload_n 0, 13, 0, 0, 0, 0, none, []), (13, .getfield 10, 16, 0, 1, 0, 1, none, []), (16, .getfield 81, 19, 0, 2, 0, 0, none, [])]),
  (38, [(19, .sipush 320, 22, 320, 0, 0, 0, none, []), (22, .if_icmp .lt 6, 25, 0, 28, 0, 0, none, []), (25, .bipush (-3), 27, (-3), 0, 0, 0, none, []), (27, .ireturn, 28, 0, 0, 0, 0, none, []), (28, .aload_n 0, 29, 0, 0, 0, 0, none, []), (29, .getfield 10, 32, 0, 1, 0, 1, none, []), (32, .iload_n 1, 33, 0, 1, 0, 0, none, []), (33, .invokevirtual 85, 36, 0, 45, 2, 0, none, [(0, 2)]), (36, .aload_n 0, 37, 0, 0, 0, 0, none, []), (37, .getfield 10, 40, 0, 1, 0, 1, none, [])]),
  (44, [(40, .getfield 81, 43, 0, 2, 0, 0, none, []), (43, .ireturn, 44, 0, 0, 0, 0, none, [])])]
def zc_X_feed : z_C := z_find2 zd_X_feed
def zd_X_end : List (Nat × List (Nat × z_I)) := [(18, [(0, .iload_n 1, 1, 0, 1, 0, 0, none, []), (1, .ifCond .lt 14, 4, 0, 15, 0, 0, none, []), (4, .iload_n 1, 5, 0, 1, 0, 0, none, []), (5, .aload_n 0, 6, 0, 0, 0, 0, none, []), (6, .getfield 10, 9, 0, 1, 0, 1, none, []), (9, .getfield 81, 12, 0, 2, 0, 0, none, []), (12, .if_icmp .le 5, 15, 0, 17, 0, 0, none, []), (15, .iconst (-1), 16, (-1), 0, 0, 0, none, []), (16, .ireturn, 17, 0, 0, 0, 0, none, []), (17, .aload_n 0, 18, 0, 0, 0, 0, none, [])]),
  (35, [(18, .getfield 10, 21, 0, 1, 0, 1, none, []), (21, .getfield 81, 24, 0, 2, 0, 0, none, []), (24, .istore_n 2, 25, 0, 2, 0, 0, none, []), (25, .aload_n 0, 26, 0, 0, 0, 0, none, []), (26, .getfield 10, 29, 0, 1, 0, 1, none, []), (29, .iload_n 1, 30, 0, 1, 0, 0, none, []), (30, .putfield 81, 33, 0, 2, 0, 4, none, []), (33, .iload_n 2, 34, 0, 2, 0, 0, none, []), (34, .ireturn, 35, 0, 0, 0, 0, none, [])])]
def zc_X_end : z_C := z_find2 zd_X_end
def zd_X_text : List (Nat × List (Nat × z_I)) := [(18, [(0, .aload_n 0, 1, 0, 0, 0, 0, none, []), (1, .getfield 21, 4, 0, 1, 1, 1, none, []), (4, .invokevirtual 89, 7, 0, 53, 1, 0, none, [(0, 3)]), (7, .aload_n 0, 8, 0, 0, 0, 0, none, []), (8, .getfield 10, 11, 0, 1, 0, 1, none, []), (11, .iconst 0, 12, 0, 0, 0, 0, none, []), (12, .putfield 81, 15, 0, 2, 0, 4, none, []), (15, .aload_n 0, 16, 0, 0, 0, 0, none, []), (16, .aload_n 0, 17, 0, 0, 0, 0, none, []), (17, .getfield 21, 20, 0, 1, 1, 1, none, [])]),
  (43, [(20, .getfield 92, 23, 0, 3, 0, 0, none, []), (23, .putfield 95, 26, 0, 1, 10, 4, none, []), (26, .aload_n 0, 27, 0, 0, 0, 0, none, []), (27, .getfield 21, 30, 0, 1, 1, 1, none, []), (30, .getfield 92, 33, 0, 3, 0, 0, none, []), (33, .ifCond .eq 14, 36, 0, 47, 0, 0, none, []), (36, .bipush (-10), 38, (-10), 0, 0, 0, none, []), (38, .aload_n 0, 39, 0, 0, 0, 0, none, []), (39, .getfield 21, 42, 0, 1, 1, 1, none, []), (42, .getfield 98, 45, 0, 3, 1, 0, none, [])]),
  (63, [(45, .isub, 46, 0, 0, 0, 0, none, []), (46, .ireturn, 47, 0, 0, 0, 0, none, []), (47, .aload_n 0, 48, 0, 0, 0, 0, none, []), (48, .getfield 28, 51, 0, 1, 2, 1, none, []), (51, .aload_n 0, 52, 0, 0, 0, 0, none, []), (52, .getfield 21, 55, 0, 1, 1, 1, none, []), (55, .getfield 101, 58, 0, 3, 3, 1, none, []), (58, .invokevirtual 104, 61, 0, 69, 2, 0, none, [(0, 4)]), (61, .aload_n 0, 62, 0, 0, 0, 0, none, []), (62, .getfield 32, 65, 0, 1, 3, 1, none, [])]),
  (87, [(65, .aload_n 0, 66, 0, 0, 0, 0, none, []), (66, .getfield 21, 69, 0, 1, 1, 1, none, []), (69, .getfield 101, 72, 0, 3, 3, 1, none, []), (72, .invokevirtual 104, 75, 0, 69, 2, 0, none, [(0, 4)]), (75, .aload_n 0, 76, 0, 0, 0, 0, none, []), (76, .getfield 38, 79, 0, 1, 4, 1, none, []), (79, .aload_n 0, 80, 0, 0, 0, 0, none, []), (80, .getfield 21, 83, 0, 1, 1, 1, none, []), (83, .getfield 108, 86, 0, 3, 4, 1, none, []), (86, .invokevirtual 111, 89, 0, 92, 2, 0, none, [(0, 5)])]),
  (103, [(89, .iconst 0, 90, 0, 0, 0, 0, none, []), (90, .istore_n 1, 91, 0, 1, 0, 0, none, []), (91, .iload_n 1, 92, 0, 1, 0, 0, some [0, 1], []), (92, .iconst 2, 93, 2, 0, 0, 0, none, []), (93, .if_icmp .ge 19, 96, 0, 112, 0, 0, none, []), (96, .aload_n 0, 97, 0, 0, 0, 0, none, []), (97, .getfield 69, 100, 0, 1, 8, 1, none, []), (100, .iload_n 1, 101, 0, 1, 0, 0, none, []), (101, .aaload, 102, 0, 0, 0, 0, none, []), (102, .iconst 0, 103, 0, 0, 0, 0, none, [])]),
  (120, [(103, .putfield 114, 106, 0, 10, 0, 3, none, []), (106, .iinc 1 1, 109, 1, 1, 0, 0, none, []), (109, .goto (-18), 112, 0, 91, 0, 0, none, []), (112, .aload_n 0, 113, 0, 0, 0, 0, none, []), (113, .getfield 21, 116, 0, 1, 1, 1, none, []), (116, .getfield 118, 119, 0, 3, 2, 0, none, []), (119, .ireturn, 120, 0, 0, 0, 0, none, [])])]
def zc_X_text : z_C := z_find2 zd_X_text
def zd_X_fault : List (Nat × List (Nat × z_I)) := [(5, [(0, .aload_n 0, 1, 0, 0, 0, 0, none, []), (1, .getfield 95, 4, 0, 1, 10, 0, none, []), (4, .ireturn, 5, 0, 0, 0, 0, none, [])])]
def zc_X_fault : z_C := z_find2 zd_X_fault
def zd_X_rule : List (Nat × List (Nat × z_I)) := [(64, [(0, .iload_n 1, 1, 0, 1, 0, 0, none, []), (1, .tableswitch 119 0 7 #[47, 55, 63, 71, 79, 84, 99, 114], 48, 0, 120, 0, 0, none, [(0, 48), (1, 56), (2, 64), (3, 72), (4, 80), (5, 85), (6, 100), (7, 115)]), (48, .aload_n 0, 49, 0, 0, 0, 0, none, []), (49, .getfield 28, 52, 0, 1, 2, 1, none, []), (52, .getfield 121, 55, 0, 4, 0, 0, none, []), (55, .ireturn, 56, 0, 0, 0, 0, none, []), (56, .aload_n 0, 57, 0, 0, 0, 0, none, []), (57, .getfield 28, 60, 0, 1, 2, 1, none, []), (60, .invokevirtual 124, 63, 0, 81, 1, 1, none, [(0, 4)]), (63, .ireturn, 64, 0, 0, 0, 0, none, [])]),
  (82, [(64, .aload_n 0, 65, 0, 0, 0, 0, none, []), (65, .getfield 28, 68, 0, 1, 2, 1, none, []), (68, .getfield 128, 71, 0, 4, 1, 0, none, []), (71, .ireturn, 72, 0, 0, 0, 0, none, []), (72, .aload_n 0, 73, 0, 0, 0, 0, none, []), (73, .getfield 38, 76, 0, 1, 4, 1, none, []), (76, .getfield 131, 79, 0, 5, 0, 0, none, []), (79, .ireturn, 80, 0, 0, 0, 0, none, []), (80, .aload_n 0, 81, 0, 0, 0, 0, none, []), (81, .invokevirtual 134, 84, 0, 31, 1, 1, none, [(0, 1)])]),
  (102, [(84, .ireturn, 85, 0, 0, 0, 0, none, []), (85, .aload_n 0, 86, 0, 0, 0, 0, none, []), (86, .getfield 63, 89, 0, 1, 7, 1, none, []), (89, .invokevirtual 137, 92, 0, 114, 1, 0, none, [(0, 9)]), (92, .aload_n 0, 93, 0, 0, 0, 0, none, []), (93, .getfield 63, 96, 0, 1, 7, 1, none, []), (96, .getfield 140, 99, 0, 9, 0, 0, none, []), (99, .ireturn, 100, 0, 0, 0, 0, none, []), (100, .aload_n 0, 101, 0, 0, 0, 0, none, []), (101, .getfield 63, 104, 0, 1, 7, 1, none, [])]),
  (122, [(104, .invokevirtual 137, 107, 0, 114, 1, 0, none, [(0, 9)]), (107, .aload_n 0, 108, 0, 0, 0, 0, none, []), (108, .getfield 63, 111, 0, 1, 7, 1, none, []), (111, .invokevirtual 143, 114, 0, 116, 1, 1, none, [(0, 9)]), (114, .ireturn, 115, 0, 0, 0, 0, none, []), (115, .aload_n 0, 116, 0, 0, 0, 0, none, []), (116, .invokevirtual 146, 119, 0, 33, 1, 1, none, [(0, 1)]), (119, .ireturn, 120, 0, 0, 0, 0, none, []), (120, .iconst (-1), 121, (-1), 0, 0, 0, none, []), (121, .ireturn, 122, 0, 0, 0, 0, none, [])])]
def zc_X_rule : z_C := z_find2 zd_X_rule
def zd_X_node : List (Nat × List (Nat × z_I)) := [(16, [(0, .aload_n 0, 1, 0, 0, 0, 0, none, []), (1, .getfield 28, 4, 0, 1, 2, 1, none, []), (4, .iload_n 1, 5, 0, 1, 0, 0, none, []), (5, .iload_n 2, 6, 0, 2, 0, 0, none, []), (6, .invokevirtual 149, 9, 0, 71, 3, 1, none, [(0, 4)]), (9, .ifCond .ne 5, 12, 0, 14, 0, 0, none, []), (12, .iconst (-1), 13, (-1), 0, 0, 0, none, []), (13, .ireturn, 14, 0, 0, 0, 0, none, []), (14, .iload_n 3, 15, 0, 3, 0, 0, none, []), (15, .ifCond .lt 19, 18, 0, 34, 0, 0, none, [])]),
  (34, [(18, .iload_n 3, 19, 0, 3, 0, 0, none, []), (19, .iconst 4, 20, 4, 0, 0, 0, none, []), (20, .if_icmp .gt 14, 23, 0, 34, 0, 0, none, []), (23, .aload_n 0, 24, 0, 0, 0, 0, none, []), (24, .getfield 28, 27, 0, 1, 2, 1, none, []), (27, .iload_n 1, 28, 0, 1, 0, 0, none, []), (28, .iload_n 2, 29, 0, 2, 0, 0, none, []), (29, .iload_n 3, 30, 0, 3, 0, 0, none, []), (30, .invokevirtual 153, 33, 0, 80, 4, 1, none, [(0, 4)]), (33, .ireturn, 34, 0, 0, 0, 0, none, [])]),
  (52, [(34, .iload_n 3, 35, 0, 3, 0, 0, some [0, 1, 2, 3], []), (35, .bipush 10, 37, 10, 0, 0, 0, none, []), (37, .if_icmp .lt 23, 40, 0, 60, 0, 0, none, []), (40, .iload_n 3, 41, 0, 3, 0, 0, none, []), (41, .bipush 14, 43, 14, 0, 0, 0, none, []), (43, .if_icmp .gt 17, 46, 0, 60, 0, 0, none, []), (46, .aload_n 0, 47, 0, 0, 0, 0, none, []), (47, .getfield 32, 50, 0, 1, 3, 1, none, []), (50, .iload_n 1, 51, 0, 1, 0, 0, none, []), (51, .iload_n 2, 52, 0, 2, 0, 0, none, [])]),
  (62, [(52, .iload_n 3, 53, 0, 3, 0, 0, none, []), (53, .bipush 10, 55, 10, 0, 0, 0, none, []), (55, .isub, 56, 0, 0, 0, 0, none, []), (56, .invokevirtual 153, 59, 0, 80, 4, 1, none, [(0, 4)]), (59, .ireturn, 60, 0, 0, 0, 0, none, []), (60, .iconst (-1), 61, (-1), 0, 0, 0, none, []), (61, .ireturn, 62, 0, 0, 0, 0, none, [])])]
def zc_X_node : z_C := z_find2 zd_X_node
def zd_X_meant : List (Nat × List (Nat × z_I)) := [(20, [(0, .aload_n 0, 1, 0, 0, 0, 0, none, []), (1, .getfield 28, 4, 0, 1, 2, 1, none, []), (4, .iload_n 1, 5, 0, 1, 0, 0, none, []), (5, .invokevirtual 157, 8, 0, 73, 2, 1, none, [(0, 4)]), (8, .ifCond .eq 19, 11, 0, 27, 0, 0, none, []), (11, .iload_n 2, 12, 0, 2, 0, 0, none, []), (12, .invokestatic 161, 15, 0, 37, 1, 1, none, []), (15, .ifCond .eq 12, 18, 0, 27, 0, 0, none, []), (18, .iload_n 3, 19, 0, 3, 0, 0, none, []), (19, .ifCond .lt 8, 22, 0, 27, 0, 0, none, [])]),
  (36, [(22, .iload_n 3, 23, 0, 3, 0, 0, none, []), (23, .iconst 1, 24, 1, 0, 0, 0, none, []), (24, .if_icmp .le 5, 27, 0, 29, 0, 0, none, []), (27, .iconst (-1), 28, (-1), 0, 0, 0, none, []), (28, .ireturn, 29, 0, 0, 0, 0, none, []), (29, .aload_n 0, 30, 0, 0, 0, 0, none, []), (30, .iload_n 3, 31, 0, 3, 0, 0, none, []), (31, .invokevirtual 164, 34, 0, 29, 2, 2, none, [(0, 1)]), (34, .iload_n 1, 35, 0, 1, 0, 0, none, []), (35, .iload_n 2, 36, 0, 2, 0, 0, none, [])]),
  (40, [(36, .invokevirtual 168, 39, 0, 79, 3, 1, none, [(0, 4)]), (39, .ireturn, 40, 0, 0, 0, 0, none, [])])]
def zc_X_meant : z_C := z_find2 zd_X_meant
def zd_X_test : List (Nat × List (Nat × z_I)) := [(65, [(0, .aload_n 0, 1, 0, 0, 0, 0, none, []), (1, .getfield 38, 4, 0, 1, 4, 1, none, []), (4, .iload_n 1, 5, 0, 1, 0, 0, none, []), (5, .invokevirtual 172, 8, 0, 90, 2, 1, none, [(0, 5)]), (8, .ifCond .ne 5, 11, 0, 13, 0, 0, none, []), (11, .iconst (-1), 12, (-1), 0, 0, 0, none, []), (12, .ireturn, 13, 0, 0, 0, 0, none, []), (13, .iload_n 2, 14, 0, 2, 0, 0, none, []), (14, .tableswitch 131 0 8 #[50, 60, 70, 80, 97, 114, 114, 114, 114], 64, 0, 145, 0, 0, none, [(0, 64), (1, 74), (2, 84), (3, 94), (4, 111), (5, 128), (6, 128), (7, 128), (8, 128)]), (64, .aload_n 0, 65, 0, 0, 0, 0, none, [])]),
  (83, [(65, .getfield 38, 68, 0, 1, 4, 1, none, []), (68, .getfield 175, 71, 0, 5, 1, 1, none, []), (71, .iload_n 1, 72, 0, 1, 0, 0, none, []), (72, .iaload, 73, 0, 0, 0, 0, none, []), (73, .ireturn, 74, 0, 0, 0, 0, none, []), (74, .aload_n 0, 75, 0, 0, 0, 0, none, []), (75, .getfield 38, 78, 0, 1, 4, 1, none, []), (78, .getfield 178, 81, 0, 5, 2, 1, none, []), (81, .iload_n 1, 82, 0, 1, 0, 0, none, []), (82, .iaload, 83, 0, 0, 0, 0, none, [])]),
  (97, [(83, .ireturn, 84, 0, 0, 0, 0, none, []), (84, .aload_n 0, 85, 0, 0, 0, 0, none, []), (85, .getfield 38, 88, 0, 1, 4, 1, none, []), (88, .getfield 181, 91, 0, 5, 3, 1, none, []), (91, .iload_n 1, 92, 0, 1, 0, 0, none, []), (92, .iaload, 93, 0, 0, 0, 0, none, []), (93, .ireturn, 94, 0, 0, 0, 0, none, []), (94, .aload_n 0, 95, 0, 0, 0, 0, none, []), (95, .aload_n 0, 96, 0, 0, 0, 0, none, []), (96, .getfield 28, 99, 0, 1, 2, 1, none, [])]),
  (117, [(99, .iload_n 1, 100, 0, 1, 0, 0, none, []), (100, .invokevirtual 184, 103, 0, 30, 3, 0, none, [(0, 1)]), (103, .aload_n 0, 104, 0, 0, 0, 0, none, []), (104, .getfield 45, 107, 0, 1, 5, 1, none, []), (107, .getfield 188, 110, 0, 6, 1, 0, none, []), (110, .ireturn, 111, 0, 0, 0, 0, none, []), (111, .aload_n 0, 112, 0, 0, 0, 0, none, []), (112, .aload_n 0, 113, 0, 0, 0, 0, none, []), (113, .getfield 32, 116, 0, 1, 3, 1, none, []), (116, .iload_n 1, 117, 0, 1, 0, 0, none, [])]),
  (137, [(117, .invokevirtual 184, 120, 0, 30, 3, 0, none, [(0, 1)]), (120, .aload_n 0, 121, 0, 0, 0, 0, none, []), (121, .getfield 45, 124, 0, 1, 5, 1, none, []), (124, .getfield 188, 127, 0, 6, 1, 0, none, []), (127, .ireturn, 128, 0, 0, 0, 0, none, []), (128, .aload_n 0, 129, 0, 0, 0, 0, none, []), (129, .getfield 63, 132, 0, 1, 7, 1, none, []), (132, .invokevirtual 137, 135, 0, 114, 1, 0, none, [(0, 9)]), (135, .aload_n 0, 136, 0, 0, 0, 0, none, []), (136, .getfield 63, 139, 0, 1, 7, 1, none, [])]),
  (147, [(139, .iload_n 1, 140, 0, 1, 0, 0, none, []), (140, .iload_n 2, 141, 0, 2, 0, 0, none, []), (141, .invokevirtual 191, 144, 0, 115, 3, 1, none, [(0, 9)]), (144, .ireturn, 145, 0, 0, 0, 0, none, []), (145, .iconst (-1), 146, (-1), 0, 0, 0, none, []), (146, .ireturn, 147, 0, 0, 0, 0, none, [])])]
def zc_X_test : z_C := z_find2 zd_X_test
def zd_X_said : List (Nat × List (Nat × z_I)) := [(18, [(0, .aload_n 0, 1, 0, 0, 0, 0, none, []), (1, .getfield 38, 4, 0, 1, 4, 1, none, []), (4, .iload_n 1, 5, 0, 1, 0, 0, none, []), (5, .invokevirtual 172, 8, 0, 90, 2, 1, none, [(0, 5)]), (8, .ifCond .eq 12, 11, 0, 20, 0, 0, none, []), (11, .iload_n 2, 12, 0, 2, 0, 0, none, []), (12, .ifCond .lt 8, 15, 0, 20, 0, 0, none, []), (15, .iload_n 2, 16, 0, 2, 0, 0, none, []), (16, .iconst 1, 17, 1, 0, 0, 0, none, []), (17, .if_icmp .le 5, 20, 0, 22, 0, 0, none, [])]),
  (34, [(20, .iconst 0, 21, 0, 0, 0, 0, none, []), (21, .ireturn, 22, 0, 0, 0, 0, none, []), (22, .aload_n 0, 23, 0, 0, 0, 0, none, []), (23, .aload_n 0, 24, 0, 0, 0, 0, none, []), (24, .iload_n 2, 25, 0, 2, 0, 0, none, []), (25, .invokevirtual 164, 28, 0, 29, 2, 2, none, [(0, 1)]), (28, .iload_n 1, 29, 0, 1, 0, 0, none, []), (29, .invokevirtual 184, 32, 0, 30, 3, 0, none, [(0, 1)]), (32, .aload_n 0, 33, 0, 0, 0, 0, none, []), (33, .getfield 45, 36, 0, 1, 5, 1, none, [])]),
  (40, [(36, .getfield 194, 39, 0, 6, 0, 0, none, []), (39, .ireturn, 40, 0, 0, 0, 0, none, [])])]
def zc_X_said : z_C := z_find2 zd_X_said
def zd_X_edge : List (Nat × List (Nat × z_I)) := [(18, [(0, .aload_n 0, 1, 0, 0, 0, 0, none, []), (1, .getfield 28, 4, 0, 1, 2, 1, none, []), (4, .iload_n 1, 5, 0, 1, 0, 0, none, []), (5, .invokevirtual 197, 8, 0, 74, 2, 1, none, [(0, 4)]), (8, .ifCond .eq 12, 11, 0, 20, 0, 0, none, []), (11, .iload_n 2, 12, 0, 2, 0, 0, none, []), (12, .ifCond .lt 8, 15, 0, 20, 0, 0, none, []), (15, .iload_n 2, 16, 0, 2, 0, 0, none, []), (16, .iconst 1, 17, 1, 0, 0, 0, none, []), (17, .if_icmp .le 5, 20, 0, 22, 0, 0, none, [])]),
  (38, [(20, .iconst (-1), 21, (-1), 0, 0, 0, none, []), (21, .ireturn, 22, 0, 0, 0, 0, none, []), (22, .aload_n 0, 23, 0, 0, 0, 0, none, []), (23, .getfield 63, 26, 0, 1, 7, 1, none, []), (26, .invokevirtual 137, 29, 0, 114, 1, 0, none, [(0, 9)]), (29, .iload_n 2, 30, 0, 2, 0, 0, none, []), (30, .ifCond .ne 17, 33, 0, 47, 0, 0, none, []), (33, .aload_n 0, 34, 0, 0, 0, 0, none, []), (34, .getfield 54, 37, 0, 1, 6, 1, none, []), (37, .getfield 200, 40, 0, 8, 0, 1, none, [])]),
  (56, [(40, .iload_n 1, 41, 0, 1, 0, 0, none, []), (41, .invokevirtual 204, 44, 0, 106, 2, 1, none, [(0, 7)]), (44, .goto 11, 47, 0, 55, 0, 0, none, []), (47, .aload_n 0, 48, 0, 0, 0, 0, none, []), (48, .getfield 63, 51, 0, 1, 7, 1, none, []), (51, .iload_n 1, 52, 0, 1, 0, 0, none, []), (52, .invokevirtual 210, 55, 0, 117, 2, 1, none, [(0, 9)]), (55, .ireturn, 56, 0, 0, 0, 0, none, [])])]
def zc_X_edge : z_C := z_find2 zd_X_edge
def zd_X_covers : List (Nat × List (Nat × z_I)) := [(20, [(0, .aload_n 0, 1, 0, 0, 0, 0, none, []), (1, .getfield 38, 4, 0, 1, 4, 1, none, []), (4, .iload_n 1, 5, 0, 1, 0, 0, none, []), (5, .invokevirtual 172, 8, 0, 90, 2, 1, none, [(0, 5)]), (8, .ifCond .eq 14, 11, 0, 22, 0, 0, none, []), (11, .aload_n 0, 12, 0, 0, 0, 0, none, []), (12, .getfield 28, 15, 0, 1, 2, 1, none, []), (15, .iload_n 2, 16, 0, 2, 0, 0, none, []), (16, .invokevirtual 197, 19, 0, 74, 2, 1, none, [(0, 4)]), (19, .ifCond .ne 5, 22, 0, 24, 0, 0, none, [])]),
  (38, [(22, .iconst (-1), 23, (-1), 0, 0, 0, none, []), (23, .ireturn, 24, 0, 0, 0, 0, none, []), (24, .aload_n 0, 25, 0, 0, 0, 0, none, []), (25, .aload_n 0, 26, 0, 0, 0, 0, none, []), (26, .getfield 28, 29, 0, 1, 2, 1, none, []), (29, .iload_n 1, 30, 0, 1, 0, 0, none, []), (30, .invokevirtual 184, 33, 0, 30, 3, 0, none, [(0, 1)]), (33, .aload_n 0, 34, 0, 0, 0, 0, none, []), (34, .getfield 45, 37, 0, 1, 5, 1, none, []), (37, .getfield 213, 40, 0, 6, 2, 1, none, [])]),
  (45, [(40, .iload_n 2, 41, 0, 2, 0, 0, none, []), (41, .invokevirtual 204, 44, 0, 106, 2, 1, none, [(0, 7)]), (44, .ireturn, 45, 0, 0, 0, 0, none, [])])]
def zc_X_covers : z_C := z_find2 zd_X_covers
def zd_X_order : List (Nat × List (Nat × z_I)) := [(16, [(0, .iload_n 1, 1, 0, 1, 0, 0, none, []), (1, .ifCond .lt 12, 4, 0, 13, 0, 0, none, []), (4, .iload_n 2, 5, 0, 2, 0, 0, none, []), (5, .ifCond .lt 8, 8, 0, 13, 0, 0, none, []), (8, .iload_n 2, 9, 0, 2, 0, 0, none, []), (9, .iconst 1, 10, 1, 0, 0, 0, none, []), (10, .if_icmp .le 5, 13, 0, 15, 0, 0, none, []), (13, .iconst (-1), 14, (-1), 0, 0, 0, none, []), (14, .ireturn, 15, 0, 0, 0, 0, none, []), (15, .aload_n 0, 16, 0, 0, 0, 0, none, [])]),
  (37, [(16, .getfield 63, 19, 0, 1, 7, 1, none, []), (19, .invokevirtual 137, 22, 0, 114, 1, 0, none, [(0, 9)]), (22, .iload_n 1, 23, 0, 1, 0, 0, none, []), (23, .aload_n 0, 24, 0, 0, 0, 0, none, []), (24, .getfield 63, 27, 0, 1, 7, 1, none, []), (27, .getfield 140, 30, 0, 9, 0, 0, none, []), (30, .if_icmp .lt 6, 33, 0, 36, 0, 0, none, []), (33, .bipush (-4), 35, (-4), 0, 0, 0, none, []), (35, .ireturn, 36, 0, 0, 0, 0, none, []), (36, .iload_n 2, 37, 0, 2, 0, 0, none, [])]),
  (57, [(37, .ifCond .ne 15, 40, 0, 52, 0, 0, none, []), (40, .aload_n 0, 41, 0, 0, 0, 0, none, []), (41, .getfield 63, 44, 0, 1, 7, 1, none, []), (44, .getfield 216, 47, 0, 9, 1, 1, none, []), (47, .iload_n 1, 48, 0, 1, 0, 0, none, []), (48, .iaload, 49, 0, 0, 0, 0, none, []), (49, .goto 12, 52, 0, 61, 0, 0, none, []), (52, .aload_n 0, 53, 0, 0, 0, 0, none, []), (53, .getfield 63, 56, 0, 1, 7, 1, none, []), (56, .getfield 219, 59, 0, 9, 2, 1, none, [])]),
  (62, [(59, .iload_n 1, 60, 0, 1, 0, 0, none, []), (60, .iaload, 61, 0, 0, 0, 0, none, []), (61, .ireturn, 62, 0, 0, 0, 0, none, [])])]
def zc_X_order : z_C := z_find2 zd_X_order
def zd_X_same : List (Nat × List (Nat × z_I)) := [(16, [(0, .aload_n 0, 1, 0, 0, 0, 0, none, []), (1, .getfield 28, 4, 0, 1, 2, 1, none, []), (4, .iload_n 1, 5, 0, 1, 0, 0, none, []), (5, .invokevirtual 157, 8, 0, 73, 2, 1, none, [(0, 4)]), (8, .ifCond .ne 5, 11, 0, 13, 0, 0, none, []), (11, .iconst (-1), 12, (-1), 0, 0, 0, none, []), (12, .ireturn, 13, 0, 0, 0, 0, none, []), (13, .iconst 0, 14, 0, 0, 0, 0, none, []), (14, .istore_n 2, 15, 0, 2, 0, 0, none, []), (15, .iconst 0, 16, 0, 0, 0, 0, none, [])]),
  (34, [(16, .istore_n 3, 17, 0, 3, 0, 0, none, []), (17, .iload_n 3, 18, 0, 3, 0, 0, some [0, 1, 2, 3], []), (18, .sipush 255, 21, 255, 0, 0, 0, none, []), (21, .if_icmp .gt 21, 24, 0, 42, 0, 0, none, []), (24, .aload_n 0, 25, 0, 0, 0, 0, none, []), (25, .iload_n 1, 26, 0, 1, 0, 0, none, []), (26, .iload_n 3, 27, 0, 3, 0, 0, none, []), (27, .invokevirtual 222, 30, 0, 32, 3, 1, none, [(0, 1)]), (30, .ifCond .eq 6, 33, 0, 36, 0, 0, none, []), (33, .iinc 2 1, 36, 1, 2, 0, 0, none, [])]),
  (44, [(36, .iinc 3 1, 39, 1, 3, 0, 0, none, []), (39, .goto (-22), 42, 0, 17, 0, 0, none, []), (42, .iload_n 2, 43, 0, 2, 0, 0, none, []), (43, .ireturn, 44, 0, 0, 0, 0, none, [])])]
def zc_X_same : z_C := z_find2 zd_X_same
def zd_X_say : List (Nat × List (Nat × z_I)) := [(19, [(0, .aload_n 0, 1, 0, 0, 0, 0, none, []), (1, .getfield 32, 4, 0, 1, 3, 1, none, []), (4, .iload_n 1, 5, 0, 1, 0, 0, none, []), (5, .iload_n 2, 6, 0, 2, 0, 0, none, []), (6, .invokevirtual 149, 9, 0, 71, 3, 1, none, [(0, 4)]), (9, .ifCond .eq 12, 12, 0, 21, 0, 0, none, []), (12, .iload_n 3, 13, 0, 3, 0, 0, none, []), (13, .iload 4, 15, 0, 4, 0, 0, none, []), (15, .invokestatic 225, 18, 0, 38, 2, 1, none, []), (18, .ifCond .ne 5, 21, 0, 23, 0, 0, none, [])]),
  (37, [(21, .iconst (-1), 22, (-1), 0, 0, 0, none, []), (22, .ireturn, 23, 0, 0, 0, 0, none, []), (23, .iload_n 1, 24, 0, 1, 0, 0, none, []), (24, .iload_n 2, 25, 0, 2, 0, 0, none, []), (25, .invokestatic 228, 28, 0, 42, 2, 1, none, []), (28, .istore 5, 30, 0, 5, 0, 0, none, []), (30, .bipush 10, 32, 10, 0, 0, 0, none, []), (32, .aload_n 0, 33, 0, 0, 0, 0, none, []), (33, .getfield 32, 36, 0, 1, 3, 1, none, []), (36, .getfield 231, 39, 0, 4, 3, 1, none, [])]),
  (55, [(39, .iload 5, 41, 0, 5, 0, 0, none, []), (41, .iaload, 42, 0, 0, 0, 0, none, []), (42, .imul, 43, 0, 0, 0, 0, none, []), (43, .aload_n 0, 44, 0, 0, 0, 0, none, []), (44, .getfield 32, 47, 0, 1, 3, 1, none, []), (47, .getfield 234, 50, 0, 4, 4, 1, none, []), (50, .iload 5, 52, 0, 5, 0, 0, none, []), (52, .iaload, 53, 0, 0, 0, 0, none, []), (53, .iadd, 54, 0, 0, 0, 0, none, []), (54, .istore 6, 56, 0, 6, 0, 0, none, [])]),
  (75, [(56, .aload_n 0, 57, 0, 0, 0, 0, none, []), (57, .getfield 32, 60, 0, 1, 3, 1, none, []), (60, .getfield 231, 63, 0, 4, 3, 1, none, []), (63, .iload 5, 65, 0, 5, 0, 0, none, []), (65, .iload_n 3, 66, 0, 3, 0, 0, none, []), (66, .iastore, 67, 0, 0, 0, 0, none, []), (67, .aload_n 0, 68, 0, 0, 0, 0, none, []), (68, .getfield 32, 71, 0, 1, 3, 1, none, []), (71, .getfield 234, 74, 0, 4, 4, 1, none, []), (74, .iload 5, 76, 0, 5, 0, 0, none, [])]),
  (82, [(76, .iload 4, 78, 0, 4, 0, 0, none, []), (78, .iastore, 79, 0, 0, 0, 0, none, []), (79, .iload 6, 81, 0, 6, 0, 0, none, []), (81, .ireturn, 82, 0, 0, 0, 0, none, [])])]
def zc_X_say : z_C := z_find2 zd_X_say
def zd_X_lead : List (Nat × List (Nat × z_I)) := [(17, [(0, .aload_n 0, 1, 0, 0, 0, 0, none, []), (1, .getfield 32, 4, 0, 1, 3, 1, none, []), (4, .iload_n 1, 5, 0, 1, 0, 0, none, []), (5, .iload_n 2, 6, 0, 2, 0, 0, none, []), (6, .iload_n 3, 7, 0, 3, 0, 0, none, []), (7, .iload 4, 9, 0, 4, 0, 0, none, []), (9, .invokevirtual 237, 12, 0, 76, 5, 1, none, [(0, 4)]), (12, .ifCond .ne 5, 15, 0, 17, 0, 0, none, []), (15, .iconst (-1), 16, (-1), 0, 0, 0, none, []), (16, .ireturn, 17, 0, 0, 0, 0, none, [])]),
  (34, [(17, .aload_n 0, 18, 0, 0, 0, 0, none, []), (18, .getfield 32, 21, 0, 1, 3, 1, none, []), (21, .iload_n 1, 22, 0, 1, 0, 0, none, []), (22, .iload_n 2, 23, 0, 2, 0, 0, none, []), (23, .iload_n 3, 24, 0, 3, 0, 0, none, []), (24, .invokevirtual 241, 27, 0, 75, 4, 1, none, [(0, 4)]), (27, .istore 5, 29, 0, 5, 0, 0, none, []), (29, .aload_n 0, 30, 0, 0, 0, 0, none, []), (30, .getfield 32, 33, 0, 1, 3, 1, none, []), (33, .iload_n 1, 34, 0, 1, 0, 0, none, [])]),
  (44, [(34, .iload_n 2, 35, 0, 2, 0, 0, none, []), (35, .iload_n 3, 36, 0, 3, 0, 0, none, []), (36, .iload 4, 38, 0, 4, 0, 0, none, []), (38, .invokevirtual 244, 41, 0, 77, 5, 0, none, [(0, 4)]), (41, .iload 5, 43, 0, 5, 0, 0, none, []), (43, .ireturn, 44, 0, 0, 0, 0, none, [])])]
def zc_X_lead : z_C := z_find2 zd_X_lead
def zd_X_nexts : List (Nat × List (Nat × z_I)) := [(18, [(0, .aload_n 0, 1, 0, 0, 0, 0, none, []), (1, .getfield 32, 4, 0, 1, 3, 1, none, []), (4, .iload_n 1, 5, 0, 1, 0, 0, none, []), (5, .iload_n 2, 6, 0, 2, 0, 0, none, []), (6, .invokevirtual 149, 9, 0, 71, 3, 1, none, [(0, 4)]), (9, .ifCond .eq 12, 12, 0, 21, 0, 0, none, []), (12, .iload_n 3, 13, 0, 3, 0, 0, none, []), (13, .ifCond .lt 8, 16, 0, 21, 0, 0, none, []), (16, .iload_n 3, 17, 0, 3, 0, 0, none, []), (17, .iconst 2, 18, 2, 0, 0, 0, none, [])]),
  (36, [(18, .if_icmp .le 5, 21, 0, 23, 0, 0, none, []), (21, .iconst (-1), 22, (-1), 0, 0, 0, none, []), (22, .ireturn, 23, 0, 0, 0, 0, none, []), (23, .aload_n 0, 24, 0, 0, 0, 0, none, []), (24, .getfield 32, 27, 0, 1, 3, 1, none, []), (27, .getfield 248, 30, 0, 4, 5, 1, none, []), (30, .iload_n 1, 31, 0, 1, 0, 0, none, []), (31, .iload_n 2, 32, 0, 2, 0, 0, none, []), (32, .invokestatic 228, 35, 0, 42, 2, 1, none, []), (35, .iaload, 36, 0, 0, 0, 0, none, [])]),
  (51, [(36, .istore 4, 38, 0, 4, 0, 0, none, []), (38, .aload_n 0, 39, 0, 0, 0, 0, none, []), (39, .getfield 32, 42, 0, 1, 3, 1, none, []), (42, .iload_n 1, 43, 0, 1, 0, 0, none, []), (43, .iload_n 2, 44, 0, 2, 0, 0, none, []), (44, .iload_n 3, 45, 0, 3, 0, 0, none, []), (45, .invokevirtual 251, 48, 0, 78, 4, 0, none, [(0, 4)]), (48, .iload 4, 50, 0, 4, 0, 0, none, []), (50, .ireturn, 51, 0, 0, 0, 0, none, [])])]
def zc_X_nexts : z_C := z_find2 zd_X_nexts
def zd_X_has : List (Nat × List (Nat × z_I)) := [(20, [(0, .aload_n 0, 1, 0, 0, 0, 0, none, []), (1, .getfield 32, 4, 0, 1, 3, 1, none, []), (4, .iload_n 1, 5, 0, 1, 0, 0, none, []), (5, .invokevirtual 157, 8, 0, 73, 2, 1, none, [(0, 4)]), (8, .ifCond .eq 27, 11, 0, 35, 0, 0, none, []), (11, .iload_n 2, 12, 0, 2, 0, 0, none, []), (12, .invokestatic 161, 15, 0, 37, 1, 1, none, []), (15, .ifCond .eq 20, 18, 0, 35, 0, 0, none, []), (18, .iload_n 3, 19, 0, 3, 0, 0, none, []), (19, .bipush (-4), 21, (-4), 0, 0, 0, none, [])]),
  (39, [(21, .if_icmp .eq 16, 24, 0, 37, 0, 0, none, []), (24, .aload_n 0, 25, 0, 0, 0, 0, none, []), (25, .getfield 32, 28, 0, 1, 3, 1, none, []), (28, .iload_n 3, 29, 0, 3, 0, 0, none, []), (29, .invokevirtual 255, 32, 0, 70, 2, 1, none, [(0, 4)]), (32, .ifCond .ne 5, 35, 0, 37, 0, 0, none, []), (35, .iconst (-1), 36, (-1), 0, 0, 0, none, []), (36, .ireturn, 37, 0, 0, 0, 0, none, []), (37, .aload_n 0, 38, 0, 0, 0, 0, some [0, 1, 2, 3], []), (38, .getfield 32, 41, 0, 1, 3, 1, none, [])]),
  (54, [(41, .getfield 258, 44, 0, 4, 8, 1, none, []), (44, .iconst 4, 45, 4, 0, 0, 0, none, []), (45, .iload_n 1, 46, 0, 1, 0, 0, none, []), (46, .imul, 47, 0, 0, 0, 0, none, []), (47, .iload_n 2, 48, 0, 2, 0, 0, none, []), (48, .iadd, 49, 0, 0, 0, 0, none, []), (49, .iaload, 50, 0, 0, 0, 0, none, []), (50, .istore 4, 52, 0, 4, 0, 0, none, []), (52, .aload_n 0, 53, 0, 0, 0, 0, none, []), (53, .getfield 32, 56, 0, 1, 3, 1, none, [])]),
  (69, [(56, .getfield 258, 59, 0, 4, 8, 1, none, []), (59, .iconst 4, 60, 4, 0, 0, 0, none, []), (60, .iload_n 1, 61, 0, 1, 0, 0, none, []), (61, .imul, 62, 0, 0, 0, 0, none, []), (62, .iload_n 2, 63, 0, 2, 0, 0, none, []), (63, .iadd, 64, 0, 0, 0, 0, none, []), (64, .iload_n 3, 65, 0, 3, 0, 0, none, []), (65, .iastore, 66, 0, 0, 0, 0, none, []), (66, .iload 4, 68, 0, 4, 0, 0, none, []), (68, .ireturn, 69, 0, 0, 0, 0, none, [])])]
def zc_X_has : z_C := z_find2 zd_X_has
def zd_X_take : List (Nat × List (Nat × z_I)) := [(18, [(0, .aload_n 0, 1, 0, 0, 0, 0, none, []), (1, .invokevirtual 134, 4, 0, 31, 1, 1, none, [(0, 1)]), (4, .istore_n 1, 5, 0, 1, 0, 0, none, []), (5, .aload_n 0, 6, 0, 0, 0, 0, none, []), (6, .getfield 28, 9, 0, 1, 2, 1, none, []), (9, .aload_n 0, 10, 0, 0, 0, 0, none, []), (10, .getfield 32, 13, 0, 1, 3, 1, none, []), (13, .invokevirtual 104, 16, 0, 69, 2, 0, none, [(0, 4)]), (16, .iload_n 1, 17, 0, 1, 0, 0, none, []), (17, .ireturn, 18, 0, 0, 0, 0, none, [])])]
def zc_X_take : z_C := z_find2 zd_X_take
def zd_X_leave : List (Nat × List (Nat × z_I)) := [(18, [(0, .aload_n 0, 1, 0, 0, 0, 0, none, []), (1, .invokevirtual 134, 4, 0, 31, 1, 1, none, [(0, 1)]), (4, .istore_n 1, 5, 0, 1, 0, 0, none, []), (5, .aload_n 0, 6, 0, 0, 0, 0, none, []), (6, .getfield 32, 9, 0, 1, 3, 1, none, []), (9, .aload_n 0, 10, 0, 0, 0, 0, none, []), (10, .getfield 28, 13, 0, 1, 2, 1, none, []), (13, .invokevirtual 104, 16, 0, 69, 2, 0, none, [(0, 4)]), (16, .iload_n 1, 17, 0, 1, 0, 0, none, []), (17, .ireturn, 18, 0, 0, 0, 0, none, [])])]
def zc_X_leave : z_C := z_find2 zd_X_leave
def zd_X_add : List (Nat × List (Nat × z_I)) := [(20, [(0, .aload_n 0, 1, 0, 0, 0, 0, none, []), (1, .getfield 28, 4, 0, 1, 2, 1, none, []), (4, .iload_n 1, 5, 0, 1, 0, 0, none, []), (5, .invokevirtual 157, 8, 0, 73, 2, 1, none, [(0, 4)]), (8, .ifCond .eq 25, 11, 0, 33, 0, 0, none, []), (11, .iload_n 2, 12, 0, 2, 0, 0, none, []), (12, .ifCond .lt 21, 15, 0, 33, 0, 0, none, []), (15, .iload_n 2, 16, 0, 2, 0, 0, none, []), (16, .sipush 255, 19, 255, 0, 0, 0, none, []), (19, .if_icmp .gt 14, 22, 0, 33, 0, 0, none, [])]),
  (37, [(22, .iload_n 3, 23, 0, 3, 0, 0, none, []), (23, .iconst 1, 24, 1, 0, 0, 0, none, []), (24, .if_icmp .lt 9, 27, 0, 33, 0, 0, none, []), (27, .iload_n 3, 28, 0, 3, 0, 0, none, []), (28, .bipush 9, 30, 9, 0, 0, 0, none, []), (30, .if_icmp .le 5, 33, 0, 35, 0, 0, none, []), (33, .iconst (-1), 34, (-1), 0, 0, 0, none, []), (34, .ireturn, 35, 0, 0, 0, 0, none, []), (35, .aload_n 0, 36, 0, 0, 0, 0, none, []), (36, .getfield 38, 39, 0, 1, 4, 1, none, [])]),
  (56, [(39, .invokevirtual 261, 42, 0, 91, 1, 1, none, [(0, 5)]), (42, .ifCond .eq 6, 45, 0, 48, 0, 0, none, []), (45, .bipush (-3), 47, (-3), 0, 0, 0, none, []), (47, .ireturn, 48, 0, 0, 0, 0, none, []), (48, .aload_n 0, 49, 0, 0, 0, 0, none, []), (49, .getfield 38, 52, 0, 1, 4, 1, none, []), (52, .iload_n 1, 53, 0, 1, 0, 0, none, []), (53, .iload_n 2, 54, 0, 2, 0, 0, none, []), (54, .iload_n 3, 55, 0, 3, 0, 0, none, []), (55, .invokevirtual 265, 58, 0, 93, 4, 0, none, [(0, 5)])]),
  (66, [(58, .aload_n 0, 59, 0, 0, 0, 0, none, []), (59, .getfield 38, 62, 0, 1, 4, 1, none, []), (62, .getfield 131, 65, 0, 5, 0, 0, none, []), (65, .ireturn, 66, 0, 0, 0, 0, none, [])])]
def zc_X_add : z_C := z_find2 zd_X_add
def zd_X_drop : List (Nat × List (Nat × z_I)) := [(18, [(0, .aload_n 0, 1, 0, 0, 0, 0, none, []), (1, .getfield 38, 4, 0, 1, 4, 1, none, []), (4, .iload_n 1, 5, 0, 1, 0, 0, none, []), (5, .invokevirtual 172, 8, 0, 90, 2, 1, none, [(0, 5)]), (8, .ifCond .ne 5, 11, 0, 13, 0, 0, none, []), (11, .iconst (-1), 12, (-1), 0, 0, 0, none, []), (12, .ireturn, 13, 0, 0, 0, 0, none, []), (13, .aload_n 0, 14, 0, 0, 0, 0, none, []), (14, .getfield 38, 17, 0, 1, 4, 1, none, []), (17, .iload_n 1, 18, 0, 1, 0, 0, none, [])]),
  (29, [(18, .invokevirtual 267, 21, 0, 94, 2, 0, none, [(0, 5)]), (21, .aload_n 0, 22, 0, 0, 0, 0, none, []), (22, .getfield 38, 25, 0, 1, 4, 1, none, []), (25, .getfield 131, 28, 0, 5, 0, 0, none, []), (28, .ireturn, 29, 0, 0, 0, 0, none, [])])]
def zc_X_drop : z_C := z_find2 zd_X_drop
def zd_X_draw : List (Nat × List (Nat × z_I)) := [(15, [(0, .iload_n 2, 1, 0, 2, 0, 0, none, []), (1, .iconst 1, 2, 1, 0, 0, 0, none, []), (2, .if_icmp .lt 9, 5, 0, 11, 0, 0, none, []), (5, .iload_n 2, 6, 0, 2, 0, 0, none, []), (6, .bipush 8, 8, 8, 0, 0, 0, none, []), (8, .if_icmp .le 5, 11, 0, 13, 0, 0, none, []), (11, .iconst (-1), 12, (-1), 0, 0, 0, none, []), (12, .ireturn, 13, 0, 0, 0, 0, none, []), (13, .aload_n 0, 14, 0, 0, 0, 0, none, []), (14, .getfield 28, 17, 0, 1, 2, 1, none, [])]),
  (33, [(17, .getfield 128, 20, 0, 4, 1, 0, none, []), (20, .iconst 1, 21, 1, 0, 0, 0, none, []), (21, .if_icmp .ge 6, 24, 0, 27, 0, 0, none, []), (24, .bipush (-2), 26, (-2), 0, 0, 0, none, []), (26, .ireturn, 27, 0, 0, 0, 0, none, []), (27, .iconst 0, 28, 0, 0, 0, 0, none, []), (28, .istore_n 3, 29, 0, 3, 0, 0, none, []), (29, .iload_n 1, 30, 0, 1, 0, 0, none, []), (30, .istore 4, 32, 0, 4, 0, 0, none, []), (32, .iload_n 3, 33, 0, 3, 0, 0, some [0, 2, 3, 4], [])]),
  (54, [(33, .iload_n 2, 34, 0, 2, 0, 0, none, []), (34, .if_icmp .ge 78, 37, 0, 112, 0, 0, none, []), (37, .aload_n 0, 38, 0, 0, 0, 0, none, []), (38, .getfield 38, 41, 0, 1, 4, 1, none, []), (41, .invokevirtual 261, 44, 0, 91, 1, 1, none, [(0, 5)]), (44, .ifCond .ne 68, 47, 0, 112, 0, 0, none, []), (47, .iload 4, 49, 0, 4, 0, 0, none, []), (49, .ldc_w 270, 52, 1103515245, 0, 0, 0, none, []), (52, .imul, 53, 0, 0, 0, 0, none, []), (53, .sipush 12345, 56, 12345, 0, 0, 0, none, [])]),
  (72, [(56, .iadd, 57, 0, 0, 0, 0, none, []), (57, .istore 4, 59, 0, 4, 0, 0, none, []), (59, .iload 4, 61, 0, 4, 0, 0, none, []), (61, .bipush 16, 63, 16, 0, 0, 0, none, []), (63, .iushr, 64, 0, 0, 0, 0, none, []), (64, .sipush 32767, 67, 32767, 0, 0, 0, none, []), (67, .iand, 68, 0, 0, 0, 0, none, []), (68, .istore 5, 70, 0, 5, 0, 0, none, []), (70, .aload_n 0, 71, 0, 0, 0, 0, none, []), (71, .getfield 38, 74, 0, 1, 4, 1, none, [])]),
  (92, [(74, .iload 5, 76, 0, 5, 0, 0, none, []), (76, .aload_n 0, 77, 0, 0, 0, 0, none, []), (77, .getfield 28, 80, 0, 1, 2, 1, none, []), (80, .getfield 128, 83, 0, 4, 1, 0, none, []), (83, .irem, 84, 0, 0, 0, 0, none, []), (84, .iload 5, 86, 0, 5, 0, 0, none, []), (86, .iconst 4, 87, 4, 0, 0, 0, none, []), (87, .idiv, 88, 0, 0, 0, 0, none, []), (88, .sipush 256, 91, 256, 0, 0, 0, none, []), (91, .irem, 92, 0, 0, 0, 0, none, [])]),
  (110, [(92, .iload 5, 94, 0, 5, 0, 0, none, []), (94, .sipush 1024, 97, 1024, 0, 0, 0, none, []), (97, .idiv, 98, 0, 0, 0, 0, none, []), (98, .bipush 9, 100, 9, 0, 0, 0, none, []), (100, .irem, 101, 0, 0, 0, 0, none, []), (101, .iconst 1, 102, 1, 0, 0, 0, none, []), (102, .iadd, 103, 0, 0, 0, 0, none, []), (103, .invokevirtual 265, 106, 0, 93, 4, 0, none, [(0, 5)]), (106, .iinc 3 1, 109, 1, 3, 0, 0, none, []), (109, .goto (-77), 112, 0, 32, 0, 0, none, [])]),
  (114, [(112, .iload_n 3, 113, 0, 3, 0, 0, none, []), (113, .ireturn, 114, 0, 0, 0, 0, none, [])])]
def zc_X_draw : z_C := z_find2 zd_X_draw
def zd_X_keep : List (Nat × List (Nat × z_I)) := [(16, [(0, .iload_n 1, 1, 0, 1, 0, 0, none, []), (1, .invokestatic 271, 4, 0, 39, 1, 1, none, []), (4, .ifCond .ne 5, 7, 0, 9, 0, 0, none, []), (7, .iconst (-1), 8, (-1), 0, 0, 0, none, []), (8, .ireturn, 9, 0, 0, 0, 0, none, []), (9, .aload_n 0, 10, 0, 0, 0, 0, none, []), (10, .getfield 69, 13, 0, 1, 8, 1, none, []), (13, .iload_n 1, 14, 0, 1, 0, 0, none, []), (14, .aaload, 15, 0, 0, 0, 0, none, []), (15, .getfield 114, 18, 0, 10, 0, 0, none, [])]),
  (34, [(18, .ifCond .eq 7, 21, 0, 25, 0, 0, none, []), (21, .iconst 1, 22, 1, 0, 0, 0, none, []), (22, .goto 4, 25, 0, 26, 0, 0, none, []), (25, .iconst 0, 26, 0, 0, 0, 0, none, []), (26, .istore_n 2, 27, 0, 2, 0, 0, some [0, 1], []), (27, .aload_n 0, 28, 0, 0, 0, 0, none, []), (28, .getfield 69, 31, 0, 1, 8, 1, none, []), (31, .iload_n 1, 32, 0, 1, 0, 0, none, []), (32, .aaload, 33, 0, 0, 0, 0, none, []), (33, .iconst 1, 34, 1, 0, 0, 0, none, [])]),
  (54, [(34, .putfield 114, 37, 0, 10, 0, 3, none, []), (37, .aload_n 0, 38, 0, 0, 0, 0, none, []), (38, .getfield 69, 41, 0, 1, 8, 1, none, []), (41, .iload_n 1, 42, 0, 1, 0, 0, none, []), (42, .aaload, 43, 0, 0, 0, 0, none, []), (43, .getfield 274, 46, 0, 10, 1, 1, none, []), (46, .aload_n 0, 47, 0, 0, 0, 0, none, []), (47, .getfield 28, 50, 0, 1, 2, 1, none, []), (50, .invokevirtual 104, 53, 0, 69, 2, 0, none, [(0, 4)]), (53, .aload_n 0, 54, 0, 0, 0, 0, none, [])]),
  (74, [(54, .getfield 69, 57, 0, 1, 8, 1, none, []), (57, .iload_n 1, 58, 0, 1, 0, 0, none, []), (58, .aaload, 59, 0, 0, 0, 0, none, []), (59, .getfield 277, 62, 0, 10, 2, 1, none, []), (62, .aload_n 0, 63, 0, 0, 0, 0, none, []), (63, .getfield 32, 66, 0, 1, 3, 1, none, []), (66, .invokevirtual 104, 69, 0, 69, 2, 0, none, [(0, 4)]), (69, .aload_n 0, 70, 0, 0, 0, 0, none, []), (70, .getfield 69, 73, 0, 1, 8, 1, none, []), (73, .iload_n 1, 74, 0, 1, 0, 0, none, [])]),
  (87, [(74, .aaload, 75, 0, 0, 0, 0, none, []), (75, .getfield 280, 78, 0, 10, 3, 1, none, []), (78, .aload_n 0, 79, 0, 0, 0, 0, none, []), (79, .getfield 38, 82, 0, 1, 4, 1, none, []), (82, .invokevirtual 111, 85, 0, 92, 2, 0, none, [(0, 5)]), (85, .iload_n 2, 86, 0, 2, 0, 0, none, []), (86, .ireturn, 87, 0, 0, 0, 0, none, [])])]
def zc_X_keep : z_C := z_find2 zd_X_keep
def zd_X_back : List (Nat × List (Nat × z_I)) := [(16, [(0, .iload_n 1, 1, 0, 1, 0, 0, none, []), (1, .invokestatic 271, 4, 0, 39, 1, 1, none, []), (4, .ifCond .ne 5, 7, 0, 9, 0, 0, none, []), (7, .iconst (-1), 8, (-1), 0, 0, 0, none, []), (8, .ireturn, 9, 0, 0, 0, 0, none, []), (9, .aload_n 0, 10, 0, 0, 0, 0, none, []), (10, .getfield 69, 13, 0, 1, 8, 1, none, []), (13, .iload_n 1, 14, 0, 1, 0, 0, none, []), (14, .aaload, 15, 0, 0, 0, 0, none, []), (15, .getfield 114, 18, 0, 10, 0, 0, none, [])]),
  (35, [(18, .ifCond .ne 6, 21, 0, 24, 0, 0, none, []), (21, .bipush (-2), 23, (-2), 0, 0, 0, none, []), (23, .ireturn, 24, 0, 0, 0, 0, none, []), (24, .aload_n 0, 25, 0, 0, 0, 0, none, []), (25, .getfield 28, 28, 0, 1, 2, 1, none, []), (28, .aload_n 0, 29, 0, 0, 0, 0, none, []), (29, .getfield 69, 32, 0, 1, 8, 1, none, []), (32, .iload_n 1, 33, 0, 1, 0, 0, none, []), (33, .aaload, 34, 0, 0, 0, 0, none, []), (34, .getfield 274, 37, 0, 10, 1, 1, none, [])]),
  (57, [(37, .invokevirtual 104, 40, 0, 69, 2, 0, none, [(0, 4)]), (40, .aload_n 0, 41, 0, 0, 0, 0, none, []), (41, .getfield 32, 44, 0, 1, 3, 1, none, []), (44, .aload_n 0, 45, 0, 0, 0, 0, none, []), (45, .getfield 69, 48, 0, 1, 8, 1, none, []), (48, .iload_n 1, 49, 0, 1, 0, 0, none, []), (49, .aaload, 50, 0, 0, 0, 0, none, []), (50, .getfield 277, 53, 0, 10, 2, 1, none, []), (53, .invokevirtual 104, 56, 0, 69, 2, 0, none, [(0, 4)]), (56, .aload_n 0, 57, 0, 0, 0, 0, none, [])]),
  (77, [(57, .getfield 38, 60, 0, 1, 4, 1, none, []), (60, .aload_n 0, 61, 0, 0, 0, 0, none, []), (61, .getfield 69, 64, 0, 1, 8, 1, none, []), (64, .iload_n 1, 65, 0, 1, 0, 0, none, []), (65, .aaload, 66, 0, 0, 0, 0, none, []), (66, .getfield 280, 69, 0, 10, 3, 1, none, []), (69, .invokevirtual 111, 72, 0, 92, 2, 0, none, [(0, 5)]), (72, .aload_n 0, 73, 0, 0, 0, 0, none, []), (73, .getfield 38, 76, 0, 1, 4, 1, none, []), (76, .getfield 131, 79, 0, 5, 0, 0, none, [])]),
  (80, [(79, .ireturn, 80, 0, 0, 0, 0, none, [])])]
def zc_X_back : z_C := z_find2 zd_X_back
def zd_X_sheet : List (Nat × List (Nat × z_I)) := [(21, [(0, .iload_n 1, 1, 0, 1, 0, 0, none, []), (1, .invokestatic 281, 4, 0, 40, 1, 1, none, []), (4, .ifCond .eq 16, 7, 0, 20, 0, 0, none, []), (7, .iload_n 2, 8, 0, 2, 0, 0, none, []), (8, .invokestatic 284, 11, 0, 41, 1, 1, none, []), (11, .ifCond .eq 9, 14, 0, 20, 0, 0, none, []), (14, .iload_n 3, 15, 0, 3, 0, 0, none, []), (15, .bipush 40, 17, 40, 0, 0, 0, none, []), (17, .if_icmp .le 5, 20, 0, 22, 0, 0, none, []), (20, .iconst (-1), 21, (-1), 0, 0, 0, none, [])]),
  (36, [(21, .ireturn, 22, 0, 0, 0, 0, none, []), (22, .iload_n 3, 23, 0, 3, 0, 0, none, []), (23, .ifCond .ge 6, 26, 0, 29, 0, 0, none, []), (26, .bipush (-14), 28, (-14), 0, 0, 0, none, []), (28, .ireturn, 29, 0, 0, 0, 0, none, []), (29, .aload_n 0, 30, 0, 0, 0, 0, none, []), (30, .getfield 75, 33, 0, 1, 9, 1, none, []), (33, .iload_n 1, 34, 0, 1, 0, 0, none, []), (34, .aaload, 35, 0, 0, 0, 0, none, []), (35, .iload_n 2, 36, 0, 2, 0, 0, none, [])]),
  (42, [(36, .iload_n 3, 37, 0, 3, 0, 0, none, []), (37, .invokevirtual 287, 40, 0, 122, 3, 0, none, [(0, 11)]), (40, .iconst 1, 41, 1, 0, 0, 0, none, []), (41, .ireturn, 42, 0, 0, 0, 0, none, [])])]
def zc_X_sheet : z_C := z_find2 zd_X_sheet
def zd_X_lay : List (Nat × List (Nat × z_I)) := [(16, [(0, .iload_n 1, 1, 0, 1, 0, 0, none, []), (1, .invokestatic 281, 4, 0, 40, 1, 1, none, []), (4, .ifCond .ne 5, 7, 0, 9, 0, 0, none, []), (7, .iconst (-1), 8, (-1), 0, 0, 0, none, []), (8, .ireturn, 9, 0, 0, 0, 0, none, []), (9, .aload_n 0, 10, 0, 0, 0, 0, none, []), (10, .getfield 75, 13, 0, 1, 9, 1, none, []), (13, .iload_n 1, 14, 0, 1, 0, 0, none, []), (14, .aaload, 15, 0, 0, 0, 0, none, []), (15, .getfield 291, 18, 0, 11, 0, 0, none, [])]),
  (35, [(18, .ifCond .ne 6, 21, 0, 24, 0, 0, none, []), (21, .bipush (-11), 23, (-11), 0, 0, 0, none, []), (23, .ireturn, 24, 0, 0, 0, 0, none, []), (24, .iload_n 2, 25, 0, 2, 0, 0, none, []), (25, .ifCond .lt 16, 28, 0, 41, 0, 0, none, []), (28, .iload_n 2, 29, 0, 2, 0, 0, none, []), (29, .aload_n 0, 30, 0, 0, 0, 0, none, []), (30, .getfield 75, 33, 0, 1, 9, 1, none, []), (33, .iload_n 1, 34, 0, 1, 0, 0, none, []), (34, .aaload, 35, 0, 0, 0, 0, none, [])]),
  (52, [(35, .getfield 292, 38, 0, 11, 1, 0, none, []), (38, .if_icmp .lt 6, 41, 0, 44, 0, 0, none, []), (41, .bipush (-12), 43, (-12), 0, 0, 0, none, []), (43, .ireturn, 44, 0, 0, 0, 0, none, []), (44, .aload_n 0, 45, 0, 0, 0, 0, none, []), (45, .getfield 75, 48, 0, 1, 9, 1, none, []), (48, .iload_n 1, 49, 0, 1, 0, 0, none, []), (49, .aaload, 50, 0, 0, 0, 0, none, []), (50, .iload_n 2, 51, 0, 2, 0, 0, none, []), (51, .iload_n 3, 52, 0, 3, 0, 0, none, [])]),
  (57, [(52, .invokevirtual 293, 55, 0, 123, 3, 0, none, [(0, 11)]), (55, .iconst 1, 56, 1, 0, 0, 0, none, []), (56, .ireturn, 57, 0, 0, 0, 0, none, [])])]
def zc_X_lay : z_C := z_find2 zd_X_lay
def zd_X_read : List (Nat × List (Nat × z_I)) := [(22, [(0, .iload_n 1, 1, 0, 1, 0, 0, none, []), (1, .invokestatic 281, 4, 0, 40, 1, 1, none, []), (4, .ifCond .eq 22, 7, 0, 26, 0, 0, none, []), (7, .iload_n 2, 8, 0, 2, 0, 0, none, []), (8, .invokestatic 284, 11, 0, 41, 1, 1, none, []), (11, .ifCond .eq 15, 14, 0, 26, 0, 0, none, []), (14, .iload 4, 16, 0, 4, 0, 0, none, []), (16, .ifCond .lt 10, 19, 0, 26, 0, 0, none, []), (19, .iload 4, 21, 0, 4, 0, 0, none, []), (21, .bipush 10, 23, 10, 0, 0, 0, none, [])]),
  (42, [(23, .if_icmp .le 5, 26, 0, 28, 0, 0, none, []), (26, .iconst (-1), 27, (-1), 0, 0, 0, none, []), (27, .ireturn, 28, 0, 0, 0, 0, none, []), (28, .iload 4, 30, 0, 4, 0, 0, none, []), (30, .ifCond .ne 7, 33, 0, 37, 0, 0, none, []), (33, .iconst 0, 34, 0, 0, 0, 0, none, []), (34, .goto 13, 37, 0, 47, 0, 0, none, []), (37, .aload_n 0, 38, 0, 0, 0, 0, none, []), (38, .getfield 75, 41, 0, 1, 9, 1, none, []), (41, .iload_n 1, 42, 0, 1, 0, 0, none, [])]),
  (60, [(42, .aaload, 43, 0, 0, 0, 0, none, []), (43, .iload_n 2, 44, 0, 2, 0, 0, none, []), (44, .invokevirtual 296, 47, 0, 125, 2, 1, none, [(0, 11)]), (47, .istore 5, 49, 0, 5, 0, 0, some [0, 1, 3, 4], []), (49, .iload 5, 51, 0, 5, 0, 0, none, []), (51, .ifCond .eq 7, 54, 0, 58, 0, 0, none, []), (54, .iconst 0, 55, 0, 0, 0, 0, none, []), (55, .goto 15, 58, 0, 70, 0, 0, none, []), (58, .aload_n 0, 59, 0, 0, 0, 0, none, []), (59, .getfield 75, 62, 0, 1, 9, 1, none, [])]),
  (78, [(62, .iload_n 1, 63, 0, 1, 0, 0, none, []), (63, .aaload, 64, 0, 0, 0, 0, none, []), (64, .iload_n 3, 65, 0, 3, 0, 0, none, []), (65, .iload 4, 67, 0, 4, 0, 0, none, []), (67, .invokevirtual 299, 70, 0, 126, 3, 1, none, [(0, 11)]), (70, .istore 6, 72, 0, 6, 0, 0, some [0, 1, 3, 4, 5], []), (72, .aload_n 0, 73, 0, 0, 0, 0, none, []), (73, .aload_n 0, 74, 0, 0, 0, 0, none, []), (74, .getfield 75, 77, 0, 1, 9, 1, none, []), (77, .iload_n 1, 78, 0, 1, 0, 0, none, [])]),
  (97, [(78, .aaload, 79, 0, 0, 0, 0, none, []), (79, .iload_n 3, 80, 0, 3, 0, 0, none, []), (80, .iload 6, 82, 0, 6, 0, 0, none, []), (82, .invokevirtual 302, 85, 0, 35, 4, 1, none, [(0, 1)]), (85, .istore 7, 87, 0, 7, 0, 0, none, []), (87, .iload 7, 89, 0, 7, 0, 0, none, []), (89, .iload 6, 91, 0, 6, 0, 0, none, []), (91, .if_icmp .ge 9, 94, 0, 100, 0, 0, none, []), (94, .bipush (-20), 96, (-20), 0, 0, 0, none, []), (96, .iload 7, 98, 0, 7, 0, 0, none, [])]),
  (111, [(98, .isub, 99, 0, 0, 0, 0, none, []), (99, .ireturn, 100, 0, 0, 0, 0, none, []), (100, .aload_n 0, 101, 0, 0, 0, 0, none, []), (101, .aload_n 0, 102, 0, 0, 0, 0, none, []), (102, .getfield 75, 105, 0, 1, 9, 1, none, []), (105, .iload_n 1, 106, 0, 1, 0, 0, none, []), (106, .aaload, 107, 0, 0, 0, 0, none, []), (107, .iload_n 3, 108, 0, 3, 0, 0, none, []), (108, .iload 6, 110, 0, 6, 0, 0, none, []), (110, .invokevirtual 306, 113, 0, 36, 4, 0, none, [(0, 1)])]),
  (133, [(113, .aload_n 0, 114, 0, 0, 0, 0, none, []), (114, .iload 5, 116, 0, 5, 0, 0, none, []), (116, .ifCond .ne 14, 119, 0, 130, 0, 0, none, []), (119, .iload 6, 121, 0, 6, 0, 0, none, []), (121, .iload 4, 123, 0, 4, 0, 0, none, []), (123, .if_icmp .ge 7, 126, 0, 130, 0, 0, none, []), (126, .iconst 2, 127, 2, 0, 0, 0, none, []), (127, .goto 5, 130, 0, 132, 0, 0, none, []), (130, .iload 5, 132, 0, 5, 0, 0, none, []), (132, .putfield 310, 135, 0, 1, 11, 4, none, [])]),
  (138, [(135, .iload 6, 137, 0, 6, 0, 0, none, []), (137, .ireturn, 138, 0, 0, 0, 0, none, [])])]
def zc_X_read : z_C := z_find2 zd_X_read
def zd_X_torn : List (Nat × List (Nat × z_I)) := [(5, [(0, .aload_n 0, 1, 0, 0, 0, 0, none, []), (1, .getfield 310, 4, 0, 1, 11, 0, none, []), (4, .ireturn, 5, 0, 0, 0, 0, none, [])])]
def zc_X_torn : z_C := z_find2 zd_X_torn
def zd_X_count : List (Nat × List (Nat × z_I)) := [(54, [(0, .iload_n 1, 1, 0, 1, 0, 0, none, []), (1, .tableswitch 114 0 5 #[39, 44, 52, 60, 87, 102], 40, 0, 115, 0, 0, none, [(0, 40), (1, 45), (2, 53), (3, 61), (4, 88), (5, 103)]), (40, .aload_n 0, 41, 0, 0, 0, 0, none, []), (41, .invokevirtual 313, 44, 0, 34, 1, 1, none, [(0, 1)]), (44, .ireturn, 45, 0, 0, 0, 0, none, []), (45, .aload_n 0, 46, 0, 0, 0, 0, none, []), (46, .getfield 28, 49, 0, 1, 2, 1, none, []), (49, .invokevirtual 316, 52, 0, 82, 1, 1, none, [(0, 4)]), (52, .ireturn, 53, 0, 0, 0, 0, none, []), (53, .aload_n 0, 54, 0, 0, 0, 0, none, [])]),
  (74, [(54, .getfield 10, 57, 0, 1, 0, 1, none, []), (57, .getfield 81, 60, 0, 2, 0, 0, none, []), (60, .ireturn, 61, 0, 0, 0, 0, none, []), (61, .aload_n 0, 62, 0, 0, 0, 0, none, []), (62, .getfield 75, 65, 0, 1, 9, 1, none, []), (65, .iconst 0, 66, 0, 0, 0, 0, none, []), (66, .aaload, 67, 0, 0, 0, 0, none, []), (67, .getfield 291, 70, 0, 11, 0, 0, none, []), (70, .ifCond .eq 15, 73, 0, 85, 0, 0, none, []), (73, .aload_n 0, 74, 0, 0, 0, 0, none, [])]),
  (93, [(74, .getfield 75, 77, 0, 1, 9, 1, none, []), (77, .iconst 0, 78, 0, 0, 0, 0, none, []), (78, .aaload, 79, 0, 0, 0, 0, none, []), (79, .getfield 292, 82, 0, 11, 1, 0, none, []), (82, .goto 5, 85, 0, 87, 0, 0, none, []), (85, .bipush (-4), 87, (-4), 0, 0, 0, none, []), (87, .ireturn, 88, 0, 0, 0, 0, none, []), (88, .aload_n 0, 89, 0, 0, 0, 0, none, []), (89, .getfield 63, 92, 0, 1, 7, 1, none, []), (92, .invokevirtual 137, 95, 0, 114, 1, 0, none, [(0, 9)])]),
  (115, [(95, .aload_n 0, 96, 0, 0, 0, 0, none, []), (96, .getfield 63, 99, 0, 1, 7, 1, none, []), (99, .invokevirtual 319, 102, 0, 118, 1, 1, none, [(0, 9)]), (102, .ireturn, 103, 0, 0, 0, 0, none, []), (103, .aload_n 0, 104, 0, 0, 0, 0, none, []), (104, .getfield 32, 107, 0, 1, 3, 1, none, []), (107, .aload_n 0, 108, 0, 0, 0, 0, none, []), (108, .getfield 28, 111, 0, 1, 2, 1, none, []), (111, .invokevirtual 322, 114, 0, 83, 2, 1, none, [(0, 4)]), (114, .ireturn, 115, 0, 0, 0, 0, none, [])]),
  (117, [(115, .iconst (-1), 116, (-1), 0, 0, 0, none, []), (116, .ireturn, 117, 0, 0, 0, 0, none, [])])]
def zc_X_count : z_C := z_find2 zd_X_count
def zd_X_programOf : List (Nat × List (Nat × z_I)) := [(16, [(0, .iload_n 1, 1, 0, 1, 0, 0, none, []), (1, .ifCond .ne 10, 4, 0, 11, 0, 0, none, []), (4, .aload_n 0, 5, 0, 0, 0, 0, none, []), (5, .getfield 28, 8, 0, 1, 2, 1, none, []), (8, .goto 7, 11, 0, 15, 0, 0, none, []), (11, .aload_n 0, 12, 0, 0, 0, 0, none, []), (12, .getfield 32, 15, 0, 1, 3, 1, none, []), (15, .areturn, 16, 0, 0, 0, 0, none, [])])]
def zc_X_programOf : z_C := z_find2 zd_X_programOf
def zd_X_runTest : List (Nat × List (Nat × z_I)) := [(16, [(0, .aload_n 0, 1, 0, 0, 0, 0, none, []), (1, .getfield 45, 4, 0, 1, 5, 1, none, []), (4, .aload_n 1, 5, 0, 1, 0, 0, none, []), (5, .aload_n 0, 6, 0, 0, 0, 0, none, []), (6, .getfield 38, 9, 0, 1, 4, 1, none, []), (9, .getfield 175, 12, 0, 5, 1, 1, none, []), (12, .iload_n 2, 13, 0, 2, 0, 0, none, []), (13, .iaload, 14, 0, 0, 0, 0, none, []), (14, .aload_n 0, 15, 0, 0, 0, 0, none, []), (15, .getfield 38, 18, 0, 1, 4, 1, none, [])]),
  (27, [(18, .getfield 178, 21, 0, 5, 2, 1, none, []), (21, .iload_n 2, 22, 0, 2, 0, 0, none, []), (22, .iaload, 23, 0, 0, 0, 0, none, []), (23, .invokevirtual 326, 26, 0, 95, 4, 0, none, [(0, 6)]), (26, .return_, 27, 0, 0, 0, 0, none, [])])]
def zc_X_runTest : z_C := z_find2 zd_X_runTest
def zd_X_edgesInDanger : List (Nat × List (Nat × z_I)) := [(18, [(0, .aload_n 0, 1, 0, 0, 0, 0, none, []), (1, .getfield 54, 4, 0, 1, 6, 1, none, []), (4, .invokevirtual 330, 7, 0, 109, 1, 0, none, [(0, 8)]), (7, .aload_n 0, 8, 0, 0, 0, 0, none, []), (8, .getfield 54, 11, 0, 1, 6, 1, none, []), (11, .getfield 200, 14, 0, 8, 0, 1, none, []), (14, .invokevirtual 333, 17, 0, 107, 1, 1, none, [(0, 7)]), (17, .ireturn, 18, 0, 0, 0, 0, none, [])])]
def zc_X_edgesInDanger : z_C := z_find2 zd_X_edgesInDanger
def zd_X_saysTheSame : List (Nat × List (Nat × z_I)) := [(18, [(0, .aload_n 0, 1, 0, 0, 0, 0, none, []), (1, .getfield 45, 4, 0, 1, 5, 1, none, []), (4, .aload_n 0, 5, 0, 0, 0, 0, none, []), (5, .getfield 28, 8, 0, 1, 2, 1, none, []), (8, .iload_n 1, 9, 0, 1, 0, 0, none, []), (9, .iload_n 2, 10, 0, 2, 0, 0, none, []), (10, .invokevirtual 326, 13, 0, 95, 4, 0, none, [(0, 6)]), (13, .aload_n 0, 14, 0, 0, 0, 0, none, []), (14, .getfield 45, 17, 0, 1, 5, 1, none, []), (17, .getfield 194, 20, 0, 6, 0, 0, none, [])]),
  (36, [(20, .istore_n 3, 21, 0, 3, 0, 0, none, []), (21, .aload_n 0, 22, 0, 0, 0, 0, none, []), (22, .getfield 45, 25, 0, 1, 5, 1, none, []), (25, .aload_n 0, 26, 0, 0, 0, 0, none, []), (26, .getfield 32, 29, 0, 1, 3, 1, none, []), (29, .iload_n 1, 30, 0, 1, 0, 0, none, []), (30, .iload_n 2, 31, 0, 2, 0, 0, none, []), (31, .invokevirtual 326, 34, 0, 95, 4, 0, none, [(0, 6)]), (34, .iload_n 3, 35, 0, 3, 0, 0, none, []), (35, .aload_n 0, 36, 0, 0, 0, 0, none, [])]),
  (51, [(36, .getfield 45, 39, 0, 1, 5, 1, none, []), (39, .getfield 194, 42, 0, 6, 0, 0, none, []), (42, .if_icmp .ne 7, 45, 0, 49, 0, 0, none, []), (45, .iconst 1, 46, 1, 0, 0, 0, none, []), (46, .goto 4, 49, 0, 50, 0, 0, none, []), (49, .iconst 0, 50, 0, 0, 0, 0, none, []), (50, .ireturn, 51, 0, 1, 0, 0, none, [])])]
def zc_X_saysTheSame : z_C := z_find2 zd_X_saysTheSame
def zd_X_testsThatSayOther : List (Nat × List (Nat × z_I)) := [(16, [(0, .iconst 0, 1, 0, 0, 0, 0, none, []), (1, .istore_n 1, 2, 0, 1, 0, 0, none, []), (2, .iconst 0, 3, 0, 0, 0, 0, none, []), (3, .istore_n 2, 4, 0, 2, 0, 0, none, []), (4, .iload_n 2, 5, 0, 2, 0, 0, some [0, 1, 2], []), (5, .aload_n 0, 6, 0, 0, 0, 0, none, []), (6, .getfield 38, 9, 0, 1, 4, 1, none, []), (9, .getfield 131, 12, 0, 5, 0, 0, none, []), (12, .if_icmp .ge 37, 15, 0, 49, 0, 0, none, []), (15, .aload_n 0, 16, 0, 0, 0, 0, none, [])]),
  (34, [(16, .aload_n 0, 17, 0, 0, 0, 0, none, []), (17, .getfield 38, 20, 0, 1, 4, 1, none, []), (20, .getfield 175, 23, 0, 5, 1, 1, none, []), (23, .iload_n 2, 24, 0, 2, 0, 0, none, []), (24, .iaload, 25, 0, 0, 0, 0, none, []), (25, .aload_n 0, 26, 0, 0, 0, 0, none, []), (26, .getfield 38, 29, 0, 1, 4, 1, none, []), (29, .getfield 178, 32, 0, 5, 2, 1, none, []), (32, .iload_n 2, 33, 0, 2, 0, 0, none, []), (33, .iaload, 34, 0, 0, 0, 0, none, [])]),
  (51, [(34, .invokevirtual 222, 37, 0, 32, 3, 1, none, [(0, 1)]), (37, .ifCond .ne 6, 40, 0, 43, 0, 0, none, []), (40, .iinc 1 1, 43, 1, 1, 0, 0, none, []), (43, .iinc 2 1, 46, 1, 2, 0, 0, none, []), (46, .goto (-42), 49, 0, 4, 0, 0, none, []), (49, .iload_n 1, 50, 0, 1, 0, 0, none, []), (50, .ireturn, 51, 0, 0, 0, 0, none, [])])]
def zc_X_testsThatSayOther : z_C := z_find2 zd_X_testsThatSayOther
def zd_X_imagesKept : List (Nat × List (Nat × z_I)) := [(14, [(0, .iconst 0, 1, 0, 0, 0, 0, none, []), (1, .istore_n 1, 2, 0, 1, 0, 0, none, []), (2, .iconst 0, 3, 0, 0, 0, 0, none, []), (3, .istore_n 2, 4, 0, 2, 0, 0, none, []), (4, .iload_n 2, 5, 0, 2, 0, 0, some [0, 1, 2], []), (5, .iconst 2, 6, 2, 0, 0, 0, none, []), (6, .if_icmp .ge 24, 9, 0, 30, 0, 0, none, []), (9, .aload_n 0, 10, 0, 0, 0, 0, none, []), (10, .getfield 69, 13, 0, 1, 8, 1, none, []), (13, .iload_n 2, 14, 0, 2, 0, 0, none, [])]),
  (32, [(14, .aaload, 15, 0, 0, 0, 0, none, []), (15, .getfield 114, 18, 0, 10, 0, 0, none, []), (18, .ifCond .eq 6, 21, 0, 24, 0, 0, none, []), (21, .iinc 1 1, 24, 1, 1, 0, 0, none, []), (24, .iinc 2 1, 27, 1, 2, 0, 0, none, []), (27, .goto (-23), 30, 0, 4, 0, 0, none, []), (30, .iload_n 1, 31, 0, 1, 0, 0, none, []), (31, .ireturn, 32, 0, 0, 0, 0, none, [])])]
def zc_X_imagesKept : z_C := z_find2 zd_X_imagesKept
def zd_X_firstRefused : List (Nat × List (Nat × z_I)) := [(15, [(0, .iconst 0, 1, 0, 0, 0, 0, none, []), (1, .istore 4, 3, 0, 4, 0, 0, none, []), (3, .iload 4, 5, 0, 4, 0, 0, some [0, 1, 2, 3, 4], []), (5, .iload_n 3, 6, 0, 3, 0, 0, none, []), (6, .if_icmp .ge 60, 9, 0, 66, 0, 0, none, []), (9, .iload_n 2, 10, 0, 2, 0, 0, none, []), (10, .iconst 4, 11, 4, 0, 0, 0, none, []), (11, .iload 4, 13, 0, 4, 0, 0, none, []), (13, .imul, 14, 0, 0, 0, 0, none, []), (14, .iadd, 15, 0, 0, 0, 0, none, [])]),
  (32, [(15, .istore 5, 17, 0, 5, 0, 0, none, []), (17, .aload_n 0, 18, 0, 0, 0, 0, none, []), (18, .getfield 32, 21, 0, 1, 3, 1, none, []), (21, .aload_n 1, 22, 0, 1, 0, 0, none, []), (22, .iload 5, 24, 0, 5, 0, 0, none, []), (24, .invokevirtual 335, 27, 0, 124, 2, 1, none, [(0, 11)]), (27, .aload_n 1, 28, 0, 1, 0, 0, none, []), (28, .iload 5, 30, 0, 5, 0, 0, none, []), (30, .iconst 1, 31, 1, 0, 0, 0, none, []), (31, .iadd, 32, 0, 0, 0, 0, none, [])]),
  (48, [(32, .invokevirtual 335, 35, 0, 124, 2, 1, none, [(0, 11)]), (35, .aload_n 1, 36, 0, 1, 0, 0, none, []), (36, .iload 5, 38, 0, 5, 0, 0, none, []), (38, .iconst 2, 39, 2, 0, 0, 0, none, []), (39, .iadd, 40, 0, 0, 0, 0, none, []), (40, .invokevirtual 335, 43, 0, 124, 2, 1, none, [(0, 11)]), (43, .aload_n 1, 44, 0, 1, 0, 0, none, []), (44, .iload 5, 46, 0, 5, 0, 0, none, []), (46, .iconst 3, 47, 3, 0, 0, 0, none, []), (47, .iadd, 48, 0, 0, 0, 0, none, [])]),
  (68, [(48, .invokevirtual 335, 51, 0, 124, 2, 1, none, [(0, 11)]), (51, .invokevirtual 237, 54, 0, 76, 5, 1, none, [(0, 4)]), (54, .ifCond .ne 6, 57, 0, 60, 0, 0, none, []), (57, .iload 4, 59, 0, 4, 0, 0, none, []), (59, .ireturn, 60, 0, 0, 0, 0, none, []), (60, .iinc 4 1, 63, 1, 4, 0, 0, none, []), (63, .goto (-60), 66, 0, 3, 0, 0, none, []), (66, .iload_n 3, 67, 0, 3, 0, 0, none, []), (67, .ireturn, 68, 0, 0, 0, 0, none, [])])]
def zc_X_firstRefused : z_C := z_find2 zd_X_firstRefused
def zd_X_turnAll : List (Nat × List (Nat × z_I)) := [(15, [(0, .iconst 0, 1, 0, 0, 0, 0, none, []), (1, .istore 4, 3, 0, 4, 0, 0, none, []), (3, .iload 4, 5, 0, 4, 0, 0, some [0, 1, 2, 3, 4], []), (5, .iload_n 3, 6, 0, 3, 0, 0, none, []), (6, .if_icmp .ge 54, 9, 0, 60, 0, 0, none, []), (9, .iload_n 2, 10, 0, 2, 0, 0, none, []), (10, .iconst 4, 11, 4, 0, 0, 0, none, []), (11, .iload 4, 13, 0, 4, 0, 0, none, []), (13, .imul, 14, 0, 0, 0, 0, none, []), (14, .iadd, 15, 0, 0, 0, 0, none, [])]),
  (32, [(15, .istore 5, 17, 0, 5, 0, 0, none, []), (17, .aload_n 0, 18, 0, 0, 0, 0, none, []), (18, .getfield 32, 21, 0, 1, 3, 1, none, []), (21, .aload_n 1, 22, 0, 1, 0, 0, none, []), (22, .iload 5, 24, 0, 5, 0, 0, none, []), (24, .invokevirtual 335, 27, 0, 124, 2, 1, none, [(0, 11)]), (27, .aload_n 1, 28, 0, 1, 0, 0, none, []), (28, .iload 5, 30, 0, 5, 0, 0, none, []), (30, .iconst 1, 31, 1, 0, 0, 0, none, []), (31, .iadd, 32, 0, 0, 0, 0, none, [])]),
  (48, [(32, .invokevirtual 335, 35, 0, 124, 2, 1, none, [(0, 11)]), (35, .aload_n 1, 36, 0, 1, 0, 0, none, []), (36, .iload 5, 38, 0, 5, 0, 0, none, []), (38, .iconst 2, 39, 2, 0, 0, 0, none, []), (39, .iadd, 40, 0, 0, 0, 0, none, []), (40, .invokevirtual 335, 43, 0, 124, 2, 1, none, [(0, 11)]), (43, .aload_n 1, 44, 0, 1, 0, 0, none, []), (44, .iload 5, 46, 0, 5, 0, 0, none, []), (46, .iconst 3, 47, 3, 0, 0, 0, none, []), (47, .iadd, 48, 0, 0, 0, 0, none, [])]),
  (61, [(48, .invokevirtual 335, 51, 0, 124, 2, 1, none, [(0, 11)]), (51, .invokevirtual 244, 54, 0, 77, 5, 0, none, [(0, 4)]), (54, .iinc 4 1, 57, 1, 4, 0, 0, none, []), (57, .goto (-54), 60, 0, 3, 0, 0, none, []), (60, .return_, 61, 0, 0, 0, 0, none, [])])]
def zc_X_turnAll : z_C := z_find2 zd_X_turnAll
def zd_X_isName : List (Nat × List (Nat × z_I)) := [(15, [(0, .iload_n 0, 1, 0, 0, 0, 0, none, []), (1, .ifCond .lt 12, 4, 0, 13, 0, 0, none, []), (4, .iload_n 0, 5, 0, 0, 0, 0, none, []), (5, .iconst 4, 6, 4, 0, 0, 0, none, []), (6, .if_icmp .ge 7, 9, 0, 13, 0, 0, none, []), (9, .iconst 1, 10, 1, 0, 0, 0, none, []), (10, .goto 4, 13, 0, 14, 0, 0, none, []), (13, .iconst 0, 14, 0, 0, 0, 0, none, []), (14, .ireturn, 15, 0, 1, 0, 0, none, [])])]
def zc_X_isName : z_C := z_find2 zd_X_isName
def zd_X_isNode : List (Nat × List (Nat × z_I)) := [(17, [(0, .iload_n 0, 1, 0, 0, 0, 0, none, []), (1, .ifCond .ne 13, 4, 0, 14, 0, 0, none, []), (4, .iload_n 1, 5, 0, 1, 0, 0, none, []), (5, .ifCond .lt 9, 8, 0, 14, 0, 0, none, []), (8, .iload_n 1, 9, 0, 1, 0, 0, none, []), (9, .bipush 9, 11, 9, 0, 0, 0, none, []), (11, .if_icmp .le 15, 14, 0, 26, 0, 0, none, []), (14, .iload_n 0, 15, 0, 0, 0, 0, some [0, 1], []), (15, .iconst 1, 16, 1, 0, 0, 0, none, []), (16, .if_icmp .ne 14, 19, 0, 30, 0, 0, none, [])]),
  (32, [(19, .iload_n 1, 20, 0, 1, 0, 0, none, []), (20, .invokestatic 161, 23, 0, 37, 1, 1, none, []), (23, .ifCond .eq 7, 26, 0, 30, 0, 0, none, []), (26, .iconst 1, 27, 1, 0, 0, 0, none, []), (27, .goto 4, 30, 0, 31, 0, 0, none, []), (30, .iconst 0, 31, 0, 0, 0, 0, none, []), (31, .ireturn, 32, 0, 1, 0, 0, none, [])])]
def zc_X_isNode : z_C := z_find2 zd_X_isNode
def zd_X_isImage : List (Nat × List (Nat × z_I)) := [(15, [(0, .iload_n 0, 1, 0, 0, 0, 0, none, []), (1, .ifCond .lt 12, 4, 0, 13, 0, 0, none, []), (4, .iload_n 0, 5, 0, 0, 0, 0, none, []), (5, .iconst 2, 6, 2, 0, 0, 0, none, []), (6, .if_icmp .ge 7, 9, 0, 13, 0, 0, none, []), (9, .iconst 1, 10, 1, 0, 0, 0, none, []), (10, .goto 4, 13, 0, 14, 0, 0, none, []), (13, .iconst 0, 14, 0, 0, 0, 0, none, []), (14, .ireturn, 15, 0, 1, 0, 0, none, [])])]
def zc_X_isImage : z_C := z_find2 zd_X_isImage
def zd_X_isSheet : List (Nat × List (Nat × z_I)) := [(15, [(0, .iload_n 0, 1, 0, 0, 0, 0, none, []), (1, .ifCond .lt 12, 4, 0, 13, 0, 0, none, []), (4, .iload_n 0, 5, 0, 0, 0, 0, none, []), (5, .iconst 4, 6, 4, 0, 0, 0, none, []), (6, .if_icmp .ge 7, 9, 0, 13, 0, 0, none, []), (9, .iconst 1, 10, 1, 0, 0, 0, none, []), (10, .goto 4, 13, 0, 14, 0, 0, none, []), (13, .iconst 0, 14, 0, 0, 0, 0, none, []), (14, .ireturn, 15, 0, 1, 0, 0, none, [])])]
def zc_X_isSheet : z_C := z_find2 zd_X_isSheet
def zd_X_isLane : List (Nat × List (Nat × z_I)) := [(15, [(0, .iload_n 0, 1, 0, 0, 0, 0, none, []), (1, .ifCond .lt 12, 4, 0, 13, 0, 0, none, []), (4, .iload_n 0, 5, 0, 0, 0, 0, none, []), (5, .iconst 2, 6, 2, 0, 0, 0, none, []), (6, .if_icmp .gt 7, 9, 0, 13, 0, 0, none, []), (9, .iconst 1, 10, 1, 0, 0, 0, none, []), (10, .goto 4, 13, 0, 14, 0, 0, none, []), (13, .iconst 0, 14, 0, 0, 0, 0, none, []), (14, .ireturn, 15, 0, 1, 0, 0, none, [])])]
def zc_X_isLane : z_C := z_find2 zd_X_isLane
def zd_X_placeOf : List (Nat × List (Nat × z_I)) := [(7, [(0, .bipush 8, 2, 8, 0, 0, 0, none, []), (2, .iload_n 0, 3, 0, 0, 0, 0, none, []), (3, .imul, 4, 0, 0, 0, 0, none, []), (4, .iload_n 1, 5, 0, 1, 0, 0, none, []), (5, .iadd, 6, 0, 0, 0, 0, none, []), (6, .ireturn, 7, 0, 0, 0, 0, none, [])])]
def zc_X_placeOf : z_C := z_find2 zd_X_placeOf
def zd_X_edgeOfNext : List (Nat × List (Nat × z_I)) := [(11, [(0, .bipush 16, 2, 16, 0, 0, 0, none, []), (2, .iload_n 0, 3, 0, 0, 0, 0, none, []), (3, .imul, 4, 0, 0, 0, 0, none, []), (4, .iconst 2, 5, 2, 0, 0, 0, none, []), (5, .iload_n 1, 6, 0, 1, 0, 0, none, []), (6, .imul, 7, 0, 0, 0, 0, none, []), (7, .iadd, 8, 0, 0, 0, 0, none, []), (8, .iload_n 2, 9, 0, 2, 0, 0, none, []), (9, .iadd, 10, 0, 0, 0, 0, none, []), (10, .ireturn, 11, 0, 0, 0, 0, none, [])])]
def zc_X_edgeOfNext : z_C := z_find2 zd_X_edgeOfNext
def zd_X_edgeOfCall : List (Nat × List (Nat × z_I)) := [(10, [(0, .sipush 200, 3, 200, 0, 0, 0, none, []), (3, .iconst 4, 4, 4, 0, 0, 0, none, []), (4, .iload_n 0, 5, 0, 0, 0, 0, none, []), (5, .imul, 6, 0, 0, 0, 0, none, []), (6, .iadd, 7, 0, 0, 0, 0, none, []), (7, .iload_n 1, 8, 0, 1, 0, 0, none, []), (8, .iadd, 9, 0, 0, 0, 0, none, []), (9, .ireturn, 10, 0, 0, 0, 0, none, [])])]
def zc_X_edgeOfCall : z_C := z_find2 zd_X_edgeOfCall
def zd_Tp_append : List (Nat × List (Nat × z_I)) := [(20, [(0, .aload_n 0, 1, 0, 0, 0, 0, none, []), (1, .getfield 15, 4, 0, 2, 0, 0, none, []), (4, .sipush 320, 7, 320, 0, 0, 0, none, []), (7, .if_icmp .ge 24, 10, 0, 31, 0, 0, none, []), (10, .aload_n 0, 11, 0, 0, 0, 0, none, []), (11, .getfield 9, 14, 0, 2, 5, 1, none, []), (14, .aload_n 0, 15, 0, 0, 0, 0, none, []), (15, .getfield 15, 18, 0, 2, 0, 0, none, []), (18, .iload_n 1, 19, 0, 1, 0, 0, none, []), (19, .i2b, 20, 0, 0, 0, 0, none, [])]),
  (32, [(20, .bastore, 21, 0, 0, 0, 0, none, []), (21, .aload_n 0, 22, 0, 0, 0, 0, none, []), (22, .dup, 23, 0, 0, 0, 0, none, []), (23, .getfield 15, 26, 0, 2, 0, 0, none, []), (26, .iconst 1, 27, 1, 0, 0, 0, none, []), (27, .iadd, 28, 0, 0, 0, 0, none, []), (28, .putfield 15, 31, 0, 2, 0, 4, none, []), (31, .return_, 32, 0, 0, 0, 0, none, [])])]
def zc_Tp_append : z_C := z_find2 zd_Tp_append
def zd_Tp_rewind : List (Nat × List (Nat × z_I)) := [(6, [(0, .aload_n 0, 1, 0, 0, 0, 0, none, []), (1, .iconst 0, 2, 0, 0, 0, 0, none, []), (2, .putfield 19, 5, 0, 2, 4, 4, none, []), (5, .return_, 6, 0, 0, 0, 0, none, [])])]
def zc_Tp_rewind : z_C := z_find2 zd_Tp_rewind
def zd_Tp_advance : List (Nat × List (Nat × z_I)) := [(20, [(0, .aload_n 0, 1, 0, 0, 0, 0, none, []), (1, .aload_n 0, 2, 0, 0, 0, 0, none, []), (2, .getfield 19, 5, 0, 2, 4, 0, none, []), (5, .putfield 22, 8, 0, 2, 2, 4, none, []), (8, .aload_n 0, 9, 0, 0, 0, 0, some [0], []), (9, .getfield 22, 12, 0, 2, 2, 0, none, []), (12, .aload_n 0, 13, 0, 0, 0, 0, none, []), (13, .getfield 15, 16, 0, 2, 0, 0, none, []), (16, .if_icmp .ge 30, 19, 0, 46, 0, 0, none, []), (19, .aload_n 0, 20, 0, 0, 0, 0, none, [])]),
  (39, [(20, .getfield 9, 23, 0, 2, 5, 1, none, []), (23, .aload_n 0, 24, 0, 0, 0, 0, none, []), (24, .getfield 22, 27, 0, 2, 2, 0, none, []), (27, .baload, 28, 0, 0, 0, 0, none, []), (28, .bipush 32, 30, 32, 0, 0, 0, none, []), (30, .if_icmp .ne 16, 33, 0, 46, 0, 0, none, []), (33, .aload_n 0, 34, 0, 0, 0, 0, none, []), (34, .dup, 35, 0, 0, 0, 0, none, []), (35, .getfield 22, 38, 0, 2, 2, 0, none, []), (38, .iconst 1, 39, 1, 0, 0, 0, none, [])]),
  (59, [(39, .iadd, 40, 0, 0, 0, 0, none, []), (40, .putfield 22, 43, 0, 2, 2, 4, none, []), (43, .goto (-35), 46, 0, 8, 0, 0, none, []), (46, .aload_n 0, 47, 0, 0, 0, 0, some [0], []), (47, .aload_n 0, 48, 0, 0, 0, 0, none, []), (48, .getfield 22, 51, 0, 2, 2, 0, none, []), (51, .putfield 19, 54, 0, 2, 4, 4, none, []), (54, .aload_n 0, 55, 0, 0, 0, 0, none, []), (55, .getfield 22, 58, 0, 2, 2, 0, none, []), (58, .aload_n 0, 59, 0, 0, 0, 0, none, [])]),
  (79, [(59, .getfield 15, 62, 0, 2, 0, 0, none, []), (62, .if_icmp .lt 11, 65, 0, 73, 0, 0, none, []), (65, .aload_n 0, 66, 0, 0, 0, 0, none, []), (66, .iconst 4, 67, 4, 0, 0, 0, none, []), (67, .putfield 25, 70, 0, 2, 1, 4, none, []), (70, .goto 84, 73, 0, 154, 0, 0, none, []), (73, .aload_n 0, 74, 0, 0, 0, 0, none, []), (74, .getfield 9, 77, 0, 2, 5, 1, none, []), (77, .aload_n 0, 78, 0, 0, 0, 0, none, []), (78, .getfield 22, 81, 0, 2, 2, 0, none, [])]),
  (98, [(81, .baload, 82, 0, 0, 0, 0, none, []), (82, .bipush 59, 84, 59, 0, 0, 0, none, []), (84, .if_icmp .ne 21, 87, 0, 105, 0, 0, none, []), (87, .aload_n 0, 88, 0, 0, 0, 0, none, []), (88, .iconst 3, 89, 3, 0, 0, 0, none, []), (89, .putfield 25, 92, 0, 2, 1, 4, none, []), (92, .aload_n 0, 93, 0, 0, 0, 0, none, []), (93, .aload_n 0, 94, 0, 0, 0, 0, none, []), (94, .getfield 22, 97, 0, 2, 2, 0, none, []), (97, .iconst 1, 98, 1, 0, 0, 0, none, [])]),
  (118, [(98, .iadd, 99, 0, 0, 0, 0, none, []), (99, .putfield 19, 102, 0, 2, 4, 4, none, []), (102, .goto 52, 105, 0, 154, 0, 0, none, []), (105, .aload_n 0, 106, 0, 0, 0, 0, none, []), (106, .getfield 9, 109, 0, 2, 5, 1, none, []), (109, .aload_n 0, 110, 0, 0, 0, 0, none, []), (110, .getfield 22, 113, 0, 2, 2, 0, none, []), (113, .baload, 114, 0, 0, 0, 0, none, []), (114, .invokestatic 28, 117, 0, 51, 1, 1, none, []), (117, .ifCond .eq 10, 120, 0, 127, 0, 0, none, [])]),
  (140, [(120, .aload_n 0, 121, 0, 0, 0, 0, none, []), (121, .invokevirtual 32, 124, 0, 49, 1, 0, none, [(0, 2)]), (124, .goto 30, 127, 0, 154, 0, 0, none, []), (127, .aload_n 0, 128, 0, 0, 0, 0, none, []), (128, .getfield 9, 131, 0, 2, 5, 1, none, []), (131, .aload_n 0, 132, 0, 0, 0, 0, none, []), (132, .getfield 22, 135, 0, 2, 2, 0, none, []), (135, .baload, 136, 0, 0, 0, 0, none, []), (136, .invokestatic 35, 139, 0, 52, 1, 1, none, []), (139, .ifCond .eq 10, 142, 0, 149, 0, 0, none, [])]),
  (155, [(142, .aload_n 0, 143, 0, 0, 0, 0, none, []), (143, .invokevirtual 38, 146, 0, 50, 1, 0, none, [(0, 2)]), (146, .goto 8, 149, 0, 154, 0, 0, none, []), (149, .aload_n 0, 150, 0, 0, 0, 0, none, []), (150, .iconst 0, 151, 0, 0, 0, 0, none, []), (151, .putfield 25, 154, 0, 2, 1, 4, none, []), (154, .return_, 155, 0, 0, 0, 0, none, [])])]
def zc_Tp_advance : z_C := z_find2 zd_Tp_advance
def zd_Tp_isWord : List (Nat × List (Nat × z_I)) := [(18, [(0, .aload_n 0, 1, 0, 0, 0, 0, none, []), (1, .getfield 25, 4, 0, 2, 1, 0, none, []), (4, .iconst 1, 5, 1, 0, 0, 0, none, []), (5, .if_icmp .ne 19, 8, 0, 24, 0, 0, none, []), (8, .aload_n 0, 9, 0, 0, 0, 0, none, []), (9, .getfield 19, 12, 0, 2, 4, 0, none, []), (12, .aload_n 0, 13, 0, 0, 0, 0, none, []), (13, .getfield 22, 16, 0, 2, 2, 0, none, []), (16, .isub, 17, 0, 0, 0, 0, none, []), (17, .aload_n 1, 18, 0, 1, 0, 0, none, [])]),
  (34, [(18, .invokevirtual 41, 21, 0, 907, 1, 1, none, [(0, 100)]), (21, .if_icmp .eq 5, 24, 0, 26, 0, 0, none, []), (24, .iconst 0, 25, 0, 0, 0, 0, none, []), (25, .ireturn, 26, 0, 1, 0, 0, none, []), (26, .iconst 0, 27, 0, 0, 0, 0, none, []), (27, .istore_n 2, 28, 0, 2, 0, 0, none, []), (28, .iload_n 2, 29, 0, 2, 0, 0, some [0, 1, 2], []), (29, .aload_n 1, 30, 0, 1, 0, 0, none, []), (30, .invokevirtual 41, 33, 0, 907, 1, 1, none, [(0, 100)]), (33, .if_icmp .ge 30, 36, 0, 63, 0, 0, none, [])]),
  (50, [(36, .aload_n 0, 37, 0, 0, 0, 0, none, []), (37, .getfield 9, 40, 0, 2, 5, 1, none, []), (40, .aload_n 0, 41, 0, 0, 0, 0, none, []), (41, .getfield 22, 44, 0, 2, 2, 0, none, []), (44, .iload_n 2, 45, 0, 2, 0, 0, none, []), (45, .iadd, 46, 0, 0, 0, 0, none, []), (46, .baload, 47, 0, 0, 0, 0, none, []), (47, .aload_n 1, 48, 0, 1, 0, 0, none, []), (48, .iload_n 2, 49, 0, 2, 0, 0, none, []), (49, .invokevirtual 46, 52, 0, 908, 2, 1, none, [(0, 100)])]),
  (65, [(52, .if_icmp .eq 5, 55, 0, 57, 0, 0, none, []), (55, .iconst 0, 56, 0, 0, 0, 0, none, []), (56, .ireturn, 57, 0, 1, 0, 0, none, []), (57, .iinc 2 1, 60, 1, 2, 0, 0, none, []), (60, .goto (-32), 63, 0, 28, 0, 0, none, []), (63, .iconst 1, 64, 1, 0, 0, 0, none, []), (64, .ireturn, 65, 0, 1, 0, 0, none, [])])]
def zc_Tp_isWord : z_C := z_find2 zd_Tp_isWord
def zd_Tp_takeWord : List (Nat × List (Nat × z_I)) := [(18, [(0, .aload_n 0, 1, 0, 0, 0, 0, none, []), (1, .iconst 1, 2, 1, 0, 0, 0, none, []), (2, .putfield 25, 5, 0, 2, 1, 4, none, []), (5, .aload_n 0, 6, 0, 0, 0, 0, some [0], []), (6, .getfield 19, 9, 0, 2, 4, 0, none, []), (9, .aload_n 0, 10, 0, 0, 0, 0, none, []), (10, .getfield 15, 13, 0, 2, 0, 0, none, []), (13, .if_icmp .ge 31, 16, 0, 44, 0, 0, none, []), (16, .aload_n 0, 17, 0, 0, 0, 0, none, []), (17, .getfield 9, 20, 0, 2, 5, 1, none, [])]),
  (38, [(20, .aload_n 0, 21, 0, 0, 0, 0, none, []), (21, .getfield 19, 24, 0, 2, 4, 0, none, []), (24, .baload, 25, 0, 0, 0, 0, none, []), (25, .invokestatic 28, 28, 0, 51, 1, 1, none, []), (28, .ifCond .eq 16, 31, 0, 44, 0, 0, none, []), (31, .aload_n 0, 32, 0, 0, 0, 0, none, []), (32, .dup, 33, 0, 0, 0, 0, none, []), (33, .getfield 19, 36, 0, 2, 4, 0, none, []), (36, .iconst 1, 37, 1, 0, 0, 0, none, []), (37, .iadd, 38, 0, 0, 0, 0, none, [])]),
  (45, [(38, .putfield 19, 41, 0, 2, 4, 4, none, []), (41, .goto (-36), 44, 0, 5, 0, 0, none, []), (44, .return_, 45, 0, 0, 0, 0, none, [])])]
def zc_Tp_takeWord : z_C := z_find2 zd_Tp_takeWord
def zd_Tp_takeNumber : List (Nat × List (Nat × z_I)) := [(18, [(0, .aload_n 0, 1, 0, 0, 0, 0, none, []), (1, .iconst 0, 2, 0, 0, 0, 0, none, []), (2, .putfield 50, 5, 0, 2, 3, 4, none, []), (5, .aload_n 0, 6, 0, 0, 0, 0, some [0], []), (6, .getfield 19, 9, 0, 2, 4, 0, none, []), (9, .aload_n 0, 10, 0, 0, 0, 0, none, []), (10, .getfield 15, 13, 0, 2, 0, 0, none, []), (13, .if_icmp .ge 55, 16, 0, 68, 0, 0, none, []), (16, .aload_n 0, 17, 0, 0, 0, 0, none, []), (17, .getfield 9, 20, 0, 2, 5, 1, none, [])]),
  (39, [(20, .aload_n 0, 21, 0, 0, 0, 0, none, []), (21, .getfield 19, 24, 0, 2, 4, 0, none, []), (24, .baload, 25, 0, 0, 0, 0, none, []), (25, .invokestatic 35, 28, 0, 52, 1, 1, none, []), (28, .ifCond .eq 40, 31, 0, 68, 0, 0, none, []), (31, .aload_n 0, 32, 0, 0, 0, 0, none, []), (32, .bipush 10, 34, 10, 0, 0, 0, none, []), (34, .aload_n 0, 35, 0, 0, 0, 0, none, []), (35, .getfield 50, 38, 0, 2, 3, 0, none, []), (38, .imul, 39, 0, 0, 0, 0, none, [])]),
  (56, [(39, .aload_n 0, 40, 0, 0, 0, 0, none, []), (40, .getfield 9, 43, 0, 2, 5, 1, none, []), (43, .aload_n 0, 44, 0, 0, 0, 0, none, []), (44, .getfield 19, 47, 0, 2, 4, 0, none, []), (47, .baload, 48, 0, 0, 0, 0, none, []), (48, .iadd, 49, 0, 0, 0, 0, none, []), (49, .bipush 48, 51, 48, 0, 0, 0, none, []), (51, .isub, 52, 0, 0, 0, 0, none, []), (52, .putfield 50, 55, 0, 2, 3, 4, none, []), (55, .aload_n 0, 56, 0, 0, 0, 0, none, [])]),
  (74, [(56, .dup, 57, 0, 0, 0, 0, none, []), (57, .getfield 19, 60, 0, 2, 4, 0, none, []), (60, .iconst 1, 61, 1, 0, 0, 0, none, []), (61, .iadd, 62, 0, 0, 0, 0, none, []), (62, .putfield 19, 65, 0, 2, 4, 4, none, []), (65, .goto (-60), 68, 0, 5, 0, 0, none, []), (68, .aload_n 0, 69, 0, 0, 0, 0, some [0], []), (69, .aload_n 0, 70, 0, 0, 0, 0, none, []), (70, .getfield 19, 73, 0, 2, 4, 0, none, []), (73, .aload_n 0, 74, 0, 0, 0, 0, none, [])]),
  (91, [(74, .getfield 22, 77, 0, 2, 2, 0, none, []), (77, .isub, 78, 0, 0, 0, 0, none, []), (78, .iconst 3, 79, 3, 0, 0, 0, none, []), (79, .if_icmp .le 7, 82, 0, 86, 0, 0, none, []), (82, .iconst 0, 83, 0, 0, 0, 0, none, []), (83, .goto 4, 86, 0, 87, 0, 0, none, []), (86, .iconst 2, 87, 2, 0, 0, 0, none, []), (87, .putfield 25, 90, 0, 2, 1, 4, none, []), (90, .return_, 91, 0, 0, 0, 0, none, [])])]
def zc_Tp_takeNumber : z_C := z_find2 zd_Tp_takeNumber
def zd_Tp_isLetter : List (Nat × List (Nat × z_I)) := [(18, [(0, .iload_n 0, 1, 0, 0, 0, 0, none, []), (1, .bipush 97, 3, 97, 0, 0, 0, none, []), (3, .if_icmp .lt 13, 6, 0, 16, 0, 0, none, []), (6, .iload_n 0, 7, 0, 0, 0, 0, none, []), (7, .bipush 122, 9, 122, 0, 0, 0, none, []), (9, .if_icmp .gt 7, 12, 0, 16, 0, 0, none, []), (12, .iconst 1, 13, 1, 0, 0, 0, none, []), (13, .goto 4, 16, 0, 17, 0, 0, none, []), (16, .iconst 0, 17, 0, 0, 0, 0, none, []), (17, .ireturn, 18, 0, 1, 0, 0, none, [])])]
def zc_Tp_isLetter : z_C := z_find2 zd_Tp_isLetter
def zd_Tp_isFigure : List (Nat × List (Nat × z_I)) := [(18, [(0, .iload_n 0, 1, 0, 0, 0, 0, none, []), (1, .bipush 48, 3, 48, 0, 0, 0, none, []), (3, .if_icmp .lt 13, 6, 0, 16, 0, 0, none, []), (6, .iload_n 0, 7, 0, 0, 0, 0, none, []), (7, .bipush 57, 9, 57, 0, 0, 0, none, []), (9, .if_icmp .gt 7, 12, 0, 16, 0, 0, none, []), (12, .iconst 1, 13, 1, 0, 0, 0, none, []), (13, .goto 4, 16, 0, 17, 0, 0, none, []), (16, .iconst 0, 17, 0, 0, 0, 0, none, []), (17, .ireturn, 18, 0, 1, 0, 0, none, [])])]
def zc_Tp_isFigure : z_C := z_find2 zd_Tp_isFigure
def zd_Rd_readAll : List (Nat × List (Nat × z_I)) := [(17, [(0, .aload_n 0, 1, 0, 0, 0, 0, none, []), (1, .iconst 0, 2, 0, 0, 0, 0, none, []), (2, .putfield 33, 5, 0, 3, 0, 4, none, []), (5, .aload_n 0, 6, 0, 0, 0, 0, none, []), (6, .iconst 0, 7, 0, 0, 0, 0, none, []), (7, .putfield 37, 10, 0, 3, 2, 4, none, []), (10, .aload_n 0, 11, 0, 0, 0, 0, none, []), (11, .bipush (-4), 13, (-4), 0, 0, 0, none, []), (13, .putfield 40, 16, 0, 3, 7, 4, none, []), (16, .aload_n 0, 17, 0, 0, 0, 0, none, [])]),
  (38, [(17, .bipush (-4), 19, (-4), 0, 0, 0, none, []), (19, .putfield 43, 22, 0, 3, 8, 4, none, []), (22, .aload_n 0, 23, 0, 0, 0, 0, none, []), (23, .getfield 12, 26, 0, 3, 3, 1, none, []), (26, .invokevirtual 46, 29, 0, 68, 1, 0, none, [(0, 4)]), (29, .aload_n 0, 30, 0, 0, 0, 0, none, []), (30, .getfield 21, 33, 0, 3, 4, 1, none, []), (33, .iconst 0, 34, 0, 0, 0, 0, none, []), (34, .putfield 49, 37, 0, 5, 0, 4, none, []), (37, .aload_n 0, 38, 0, 0, 0, 0, none, [])]),
  (58, [(38, .getfield 29, 41, 0, 3, 5, 1, none, []), (41, .invokevirtual 52, 44, 0, 46, 1, 0, none, [(0, 2)]), (44, .aload_n 0, 45, 0, 0, 0, 0, none, []), (45, .invokevirtual 57, 48, 0, 55, 1, 0, none, [(0, 3)]), (48, .iconst 0, 49, 0, 0, 0, 0, none, []), (49, .istore_n 1, 50, 0, 1, 0, 0, none, []), (50, .iload_n 1, 51, 0, 1, 0, 0, some [0, 1], []), (51, .sipush 320, 54, 320, 0, 0, 0, none, []), (54, .if_icmp .gt 31, 57, 0, 85, 0, 0, none, []), (57, .aload_n 0, 58, 0, 0, 0, 0, none, [])]),
  (80, [(58, .getfield 33, 61, 0, 3, 0, 0, none, []), (61, .ifCond .ne 24, 64, 0, 85, 0, 0, none, []), (64, .aload_n 0, 65, 0, 0, 0, 0, none, []), (65, .getfield 29, 68, 0, 3, 5, 1, none, []), (68, .getfield 60, 71, 0, 2, 1, 0, none, []), (71, .iconst 4, 72, 4, 0, 0, 0, none, []), (72, .if_icmp .eq 13, 75, 0, 85, 0, 0, none, []), (75, .aload_n 0, 76, 0, 0, 0, 0, none, []), (76, .invokevirtual 63, 79, 0, 56, 1, 0, none, [(0, 3)]), (79, .iinc 1 1, 82, 1, 1, 0, 0, none, [])]),
  (103, [(82, .goto (-32), 85, 0, 50, 0, 0, none, []), (85, .aload_n 0, 86, 0, 0, 0, 0, some [0], []), (86, .getfield 33, 89, 0, 3, 0, 0, none, []), (89, .ifCond .ne 16, 92, 0, 105, 0, 0, none, []), (92, .aload_n 0, 93, 0, 0, 0, 0, none, []), (93, .invokevirtual 66, 96, 0, 67, 1, 1, none, [(0, 3)]), (96, .ifCond .eq 9, 99, 0, 105, 0, 0, none, []), (99, .aload_n 0, 100, 0, 0, 0, 0, none, []), (100, .bipush 6, 102, 6, 0, 0, 0, none, []), (102, .invokevirtual 70, 105, 0, 54, 2, 0, none, [(0, 3)])]),
  (106, [(105, .return_, 106, 0, 0, 0, 0, none, [])])]
def zc_Rd_readAll : z_C := z_find2 zd_Rd_readAll
def zd_Rd_fail : List (Nat × List (Nat × z_I)) := [(17, [(0, .aload_n 0, 1, 0, 0, 0, 0, none, []), (1, .iload_n 1, 2, 0, 1, 0, 0, none, []), (2, .putfield 33, 5, 0, 3, 0, 4, none, []), (5, .aload_n 0, 6, 0, 0, 0, 0, none, []), (6, .aload_n 0, 7, 0, 0, 0, 0, none, []), (7, .getfield 29, 10, 0, 3, 5, 1, none, []), (10, .getfield 74, 13, 0, 2, 2, 0, none, []), (13, .putfield 77, 16, 0, 3, 1, 4, none, []), (16, .return_, 17, 0, 0, 0, 0, none, [])])]
def zc_Rd_fail : z_C := z_find2 zd_Rd_fail
def zd_Rd_advance : List (Nat × List (Nat × z_I)) := [(20, [(0, .aload_n 0, 1, 0, 0, 0, 0, none, []), (1, .getfield 29, 4, 0, 3, 5, 1, none, []), (4, .invokevirtual 80, 7, 0, 47, 1, 0, none, [(0, 2)]), (7, .aload_n 0, 8, 0, 0, 0, 0, none, []), (8, .getfield 29, 11, 0, 3, 5, 1, none, []), (11, .getfield 60, 14, 0, 2, 1, 0, none, []), (14, .ifCond .ne 8, 17, 0, 22, 0, 0, none, []), (17, .aload_n 0, 18, 0, 0, 0, 0, none, []), (18, .iconst 1, 19, 1, 0, 0, 0, none, []), (19, .invokevirtual 70, 22, 0, 54, 2, 0, none, [(0, 3)])]),
  (23, [(22, .return_, 23, 0, 0, 0, 0, none, [])])]
def zc_Rd_advance : z_C := z_find2 zd_Rd_advance
def zd_Rd_readLine : List (Nat × List (Nat × z_I)) := [(17, [(0, .aload_n 0, 1, 0, 0, 0, 0, none, []), (1, .invokevirtual 81, 4, 0, 57, 1, 1, none, [(0, 3)]), (4, .istore_n 1, 5, 0, 1, 0, 0, none, []), (5, .iload_n 1, 6, 0, 1, 0, 0, none, []), (6, .bipush 6, 8, 6, 0, 0, 0, none, []), (8, .if_icmp .ne 11, 11, 0, 19, 0, 0, none, []), (11, .aload_n 0, 12, 0, 0, 0, 0, none, []), (12, .iconst 2, 13, 2, 0, 0, 0, none, []), (13, .invokevirtual 70, 16, 0, 54, 2, 0, none, [(0, 3)]), (16, .goto 24, 19, 0, 40, 0, 0, none, [])]),
  (37, [(19, .aload_n 0, 20, 0, 0, 0, 0, none, []), (20, .iload_n 1, 21, 0, 1, 0, 0, none, []), (21, .invokevirtual 85, 24, 0, 59, 2, 1, none, [(0, 3)]), (24, .ifCond .ne 11, 27, 0, 35, 0, 0, none, []), (27, .aload_n 0, 28, 0, 0, 0, 0, none, []), (28, .iconst 5, 29, 5, 0, 0, 0, none, []), (29, .invokevirtual 70, 32, 0, 54, 2, 0, none, [(0, 3)]), (32, .goto 8, 35, 0, 40, 0, 0, none, []), (35, .aload_n 0, 36, 0, 0, 0, 0, none, []), (36, .iload_n 1, 37, 0, 1, 0, 0, none, [])]),
  (41, [(37, .invokevirtual 89, 40, 0, 60, 2, 0, none, [(0, 3)]), (40, .return_, 41, 0, 0, 0, 0, none, [])])]
def zc_Rd_readLine : z_C := z_find2 zd_Rd_readLine
def zd_Rd_lineOfWord : List (Nat × List (Nat × z_I)) := [(17, [(0, .iconst 0, 1, 0, 0, 0, 0, none, []), (1, .istore_n 1, 2, 0, 1, 0, 0, none, []), (2, .iload_n 1, 3, 0, 1, 0, 0, some [0, 1], []), (3, .bipush 6, 5, 6, 0, 0, 0, none, []), (5, .if_icmp .ge 25, 8, 0, 30, 0, 0, none, []), (8, .aload_n 0, 9, 0, 0, 0, 0, none, []), (9, .getfield 29, 12, 0, 3, 5, 1, none, []), (12, .iload_n 1, 13, 0, 1, 0, 0, none, []), (13, .invokestatic 92, 16, 0, 58, 1, 2, none, []), (16, .invokevirtual 96, 19, 0, 48, 2, 1, none, [(0, 2)])]),
  (33, [(19, .ifCond .eq 5, 22, 0, 24, 0, 0, none, []), (22, .iload_n 1, 23, 0, 1, 0, 0, none, []), (23, .ireturn, 24, 0, 0, 0, 0, none, []), (24, .iinc 1 1, 27, 1, 1, 0, 0, none, []), (27, .goto (-25), 30, 0, 2, 0, 0, none, []), (30, .bipush 6, 32, 6, 0, 0, 0, none, []), (32, .ireturn, 33, 0, 0, 0, 0, none, [])])]
def zc_Rd_lineOfWord : z_C := z_find2 zd_Rd_lineOfWord
def zd_Rd_wordOf : List (Nat × List (Nat × z_I)) := [(48, [(0, .iload_n 0, 1, 0, 0, 0, 0, none, []), (1, .tableswitch 50 0 4 #[35, 38, 41, 44, 47], 36, 0, 51, 0, 0, none, [(0, 36), (1, 39), (2, 42), (3, 45), (4, 48)]), (36, .ldc 100, 38, 0, 1000, 0, 0, none, []), (38, .areturn, 39, 0, 0, 0, 0, none, []), (39, .ldc 102, 41, 0, 1001, 0, 0, none, []), (41, .areturn, 42, 0, 0, 0, 0, none, []), (42, .ldc 104, 44, 0, 1002, 0, 0, none, []), (44, .areturn, 45, 0, 0, 0, 0, none, []), (45, .ldc 106, 47, 0, 1003, 0, 0, none, []), (47, .areturn, 48, 0, 0, 0, 0, none, [])]),
  (54, [(48, .ldc 108, 50, 0, 1004, 0, 0, none, []), (50, .areturn, 51, 0, 0, 0, 0, none, []), (51, .ldc 110, 53, 0, 1005, 0, 0, none, []), (53, .areturn, 54, 0, 0, 0, 0, none, [])])]
def zc_Rd_wordOf : z_C := z_find2 zd_Rd_wordOf
def zd_Rd_hasRoomFor : List (Nat × List (Nat × z_I)) := [(57, [(0, .iload_n 1, 1, 0, 1, 0, 0, none, []), (1, .tableswitch 128 0 5 #[39, 57, 57, 95, 128, 112], 40, 0, 129, 0, 0, none, [(0, 40), (1, 58), (2, 58), (3, 96), (4, 129), (5, 113)]), (40, .aload_n 0, 41, 0, 0, 0, 0, none, []), (41, .getfield 12, 44, 0, 3, 3, 1, none, []), (44, .getfield 112, 47, 0, 4, 0, 0, none, []), (47, .bipush 6, 49, 6, 0, 0, 0, none, []), (49, .if_icmp .ge 7, 52, 0, 56, 0, 0, none, []), (52, .iconst 1, 53, 1, 0, 0, 0, none, []), (53, .goto 4, 56, 0, 57, 0, 0, none, []), (56, .iconst 0, 57, 0, 0, 0, 0, none, [])]),
  (77, [(57, .ireturn, 58, 0, 1, 0, 0, none, []), (58, .aload_n 0, 59, 0, 0, 0, 0, none, []), (59, .getfield 12, 62, 0, 3, 3, 1, none, []), (62, .getfield 112, 65, 0, 4, 0, 0, none, []), (65, .ifCond .le 29, 68, 0, 94, 0, 0, none, []), (68, .aload_n 0, 69, 0, 0, 0, 0, none, []), (69, .getfield 12, 72, 0, 3, 3, 1, none, []), (72, .getfield 115, 75, 0, 4, 2, 1, none, []), (75, .aload_n 0, 76, 0, 0, 0, 0, none, []), (76, .getfield 12, 79, 0, 3, 3, 1, none, [])]),
  (96, [(79, .getfield 112, 82, 0, 4, 0, 0, none, []), (82, .iconst 1, 83, 1, 0, 0, 0, none, []), (83, .isub, 84, 0, 0, 0, 0, none, []), (84, .iaload, 85, 0, 0, 0, 0, none, []), (85, .bipush 8, 87, 8, 0, 0, 0, none, []), (87, .if_icmp .ge 7, 90, 0, 94, 0, 0, none, []), (90, .iconst 1, 91, 1, 0, 0, 0, none, []), (91, .goto 4, 94, 0, 95, 0, 0, none, []), (94, .iconst 0, 95, 0, 0, 0, 0, none, []), (95, .ireturn, 96, 0, 1, 0, 0, none, [])]),
  (114, [(96, .aload_n 0, 97, 0, 0, 0, 0, none, []), (97, .getfield 12, 100, 0, 3, 3, 1, none, []), (100, .getfield 118, 103, 0, 4, 1, 0, none, []), (103, .iconst 4, 104, 4, 0, 0, 0, none, []), (104, .if_icmp .ge 7, 107, 0, 111, 0, 0, none, []), (107, .iconst 1, 108, 1, 0, 0, 0, none, []), (108, .goto 4, 111, 0, 112, 0, 0, none, []), (111, .iconst 0, 112, 0, 0, 0, 0, none, []), (112, .ireturn, 113, 0, 1, 0, 0, none, []), (113, .aload_n 0, 114, 0, 0, 0, 0, none, [])]),
  (131, [(114, .getfield 21, 117, 0, 3, 4, 1, none, []), (117, .invokevirtual 121, 120, 0, 91, 1, 1, none, [(0, 5)]), (120, .ifCond .ne 7, 123, 0, 127, 0, 0, none, []), (123, .iconst 1, 124, 1, 0, 0, 0, none, []), (124, .goto 4, 127, 0, 128, 0, 0, none, []), (127, .iconst 0, 128, 0, 0, 0, 0, none, []), (128, .ireturn, 129, 0, 1, 0, 0, none, []), (129, .iconst 1, 130, 1, 0, 0, 0, none, []), (130, .ireturn, 131, 0, 1, 0, 0, none, [])])]
def zc_Rd_hasRoomFor : z_C := z_find2 zd_Rd_hasRoomFor
def zd_Rd_readRest : List (Nat × List (Nat × z_I)) := [(16, [(0, .iconst 0, 1, 0, 0, 0, 0, none, []), (1, .istore_n 2, 2, 0, 2, 0, 0, none, []), (2, .aload_n 0, 3, 0, 0, 0, 0, none, []), (3, .invokevirtual 57, 6, 0, 55, 1, 0, none, [(0, 3)]), (6, .aload_n 0, 7, 0, 0, 0, 0, some [0, 1, 2], []), (7, .getfield 33, 10, 0, 3, 0, 0, none, []), (10, .ifCond .ne 67, 13, 0, 77, 0, 0, none, []), (13, .iload_n 2, 14, 0, 2, 0, 0, none, []), (14, .iload_n 1, 15, 0, 1, 0, 0, none, []), (15, .invokestatic 124, 18, 0, 62, 1, 1, none, [])]),
  (36, [(18, .if_icmp .ge 59, 21, 0, 77, 0, 0, none, []), (21, .aload_n 0, 22, 0, 0, 0, 0, none, []), (22, .getfield 29, 25, 0, 3, 5, 1, none, []), (25, .getfield 60, 28, 0, 2, 1, 0, none, []), (28, .iconst 2, 29, 2, 0, 0, 0, none, []), (29, .if_icmp .ne 48, 32, 0, 77, 0, 0, none, []), (32, .aload_n 0, 33, 0, 0, 0, 0, none, []), (33, .iload_n 1, 34, 0, 1, 0, 0, none, []), (34, .iload_n 2, 35, 0, 2, 0, 0, none, []), (35, .aload_n 0, 36, 0, 0, 0, 0, none, [])]),
  (56, [(36, .getfield 29, 39, 0, 3, 5, 1, none, []), (39, .getfield 128, 42, 0, 2, 3, 0, none, []), (42, .invokevirtual 131, 45, 0, 63, 4, 1, none, [(0, 3)]), (45, .ifCond .ne 9, 48, 0, 54, 0, 0, none, []), (48, .aload_n 0, 49, 0, 0, 0, 0, none, []), (49, .iconst 3, 50, 3, 0, 0, 0, none, []), (50, .invokevirtual 70, 53, 0, 54, 2, 0, none, [(0, 3)]), (53, .return_, 54, 0, 0, 0, 0, none, []), (54, .aload_n 0, 55, 0, 0, 0, 0, none, []), (55, .getfield 25, 58, 0, 3, 6, 1, none, [])]),
  (78, [(58, .iload_n 2, 59, 0, 2, 0, 0, none, []), (59, .aload_n 0, 60, 0, 0, 0, 0, none, []), (60, .getfield 29, 63, 0, 3, 5, 1, none, []), (63, .getfield 128, 66, 0, 2, 3, 0, none, []), (66, .iastore, 67, 0, 0, 0, 0, none, []), (67, .iinc 2 1, 70, 1, 2, 0, 0, none, []), (70, .aload_n 0, 71, 0, 0, 0, 0, none, []), (71, .invokevirtual 57, 74, 0, 55, 1, 0, none, [(0, 3)]), (74, .goto (-68), 77, 0, 6, 0, 0, none, []), (77, .aload_n 0, 78, 0, 0, 0, 0, some [0, 1, 2], [])]),
  (100, [(78, .getfield 33, 81, 0, 3, 0, 0, none, []), (81, .ifCond .ne 27, 84, 0, 108, 0, 0, none, []), (84, .iload_n 2, 85, 0, 2, 0, 0, none, []), (85, .iload_n 1, 86, 0, 1, 0, 0, none, []), (86, .invokestatic 135, 89, 0, 61, 1, 1, none, []), (89, .if_icmp .lt 14, 92, 0, 103, 0, 0, none, []), (92, .aload_n 0, 93, 0, 0, 0, 0, none, []), (93, .getfield 29, 96, 0, 3, 5, 1, none, []), (96, .getfield 60, 99, 0, 2, 1, 0, none, []), (99, .iconst 3, 100, 3, 0, 0, 0, none, [])]),
  (118, [(100, .if_icmp .eq 8, 103, 0, 108, 0, 0, none, []), (103, .aload_n 0, 104, 0, 0, 0, 0, none, []), (104, .iconst 2, 105, 2, 0, 0, 0, none, []), (105, .invokevirtual 70, 108, 0, 54, 2, 0, none, [(0, 3)]), (108, .aload_n 0, 109, 0, 0, 0, 0, some [0, 1, 2], []), (109, .getfield 33, 112, 0, 3, 0, 0, none, []), (112, .ifCond .ne 23, 115, 0, 135, 0, 0, none, []), (115, .aload_n 0, 116, 0, 0, 0, 0, none, []), (116, .iload_n 1, 117, 0, 1, 0, 0, none, []), (117, .iload_n 2, 118, 0, 2, 0, 0, none, [])]),
  (136, [(118, .invokevirtual 138, 121, 0, 64, 3, 0, none, [(0, 3)]), (121, .aload_n 0, 122, 0, 0, 0, 0, none, []), (122, .dup, 123, 0, 0, 0, 0, none, []), (123, .getfield 37, 126, 0, 3, 2, 0, none, []), (126, .iconst 1, 127, 1, 0, 0, 0, none, []), (127, .iadd, 128, 0, 0, 0, 0, none, []), (128, .putfield 37, 131, 0, 3, 2, 4, none, []), (131, .aload_n 0, 132, 0, 0, 0, 0, none, []), (132, .invokevirtual 57, 135, 0, 55, 1, 0, none, [(0, 3)]), (135, .return_, 136, 0, 0, 0, 0, none, [])])]
def zc_Rd_readRest : z_C := z_find2 zd_Rd_readRest
def zd_Rd_leastArguments : List (Nat × List (Nat × z_I)) := [(38, [(0, .iload_n 0, 1, 0, 0, 0, 0, none, []), (1, .tableswitch 35 0 3 #[31, 33, 33, 33], 32, 0, 36, 0, 0, none, [(0, 32), (1, 34), (2, 34), (3, 34)]), (32, .iconst 0, 33, 0, 0, 0, 0, none, []), (33, .ireturn, 34, 0, 0, 0, 0, none, []), (34, .iconst 1, 35, 1, 0, 0, 0, none, []), (35, .ireturn, 36, 0, 0, 0, 0, none, []), (36, .iconst 3, 37, 3, 0, 0, 0, none, []), (37, .ireturn, 38, 0, 0, 0, 0, none, [])])]
def zc_Rd_leastArguments : z_C := z_find2 zd_Rd_leastArguments
def zd_Rd_mostArguments : List (Nat × List (Nat × z_I)) := [(34, [(0, .iload_n 0, 1, 0, 0, 0, 0, none, []), (1, .lookupswitch 31 #[(0, 27), (3, 29)], 28, 0, 32, 0, 0, none, [(0, 28), (3, 30)]), (28, .iconst 0, 29, 0, 0, 0, 0, none, []), (29, .ireturn, 30, 0, 0, 0, 0, none, []), (30, .iconst 1, 31, 1, 0, 0, 0, none, []), (31, .ireturn, 32, 0, 0, 0, 0, none, []), (32, .iconst 3, 33, 3, 0, 0, 0, none, []), (33, .ireturn, 34, 0, 0, 0, 0, none, [])])]
def zc_Rd_mostArguments : z_C := z_find2 zd_Rd_mostArguments
def zd_Rd_isWithin : List (Nat × List (Nat × z_I)) := [(47, [(0, .iload_n 1, 1, 0, 1, 0, 0, none, []), (1, .tableswitch 160 1 4 #[31, 67, 96, 119], 32, 0, 161, 0, 0, none, [(1, 32), (2, 68), (3, 97), (4, 120)]), (32, .iload_n 2, 33, 0, 2, 0, 0, none, []), (33, .ifCond .ne 17, 36, 0, 50, 0, 0, none, []), (36, .iload_n 3, 37, 0, 3, 0, 0, none, []), (37, .bipush 9, 39, 9, 0, 0, 0, none, []), (39, .if_icmp .gt 7, 42, 0, 46, 0, 0, none, []), (42, .iconst 1, 43, 1, 0, 0, 0, none, []), (43, .goto 24, 46, 0, 67, 0, 0, none, []), (46, .iconst 0, 47, 0, 0, 0, 0, none, [])]),
  (67, [(47, .goto 20, 50, 0, 67, 0, 0, none, []), (50, .iload_n 3, 51, 0, 3, 0, 0, none, []), (51, .bipush 8, 53, 8, 0, 0, 0, none, []), (53, .if_icmp .lt 9, 56, 0, 62, 0, 0, none, []), (56, .iload_n 3, 57, 0, 3, 0, 0, none, []), (57, .bipush 9, 59, 9, 0, 0, 0, none, []), (59, .if_icmp .ne 7, 62, 0, 66, 0, 0, none, []), (62, .iconst 1, 63, 1, 0, 0, 0, none, []), (63, .goto 4, 66, 0, 67, 0, 0, none, []), (66, .iconst 0, 67, 0, 0, 0, 0, none, [])]),
  (86, [(67, .ireturn, 68, 0, 1, 0, 0, none, []), (68, .iload_n 2, 69, 0, 2, 0, 0, none, []), (69, .ifCond .ne 10, 72, 0, 79, 0, 0, none, []), (72, .iload_n 3, 73, 0, 3, 0, 0, none, []), (73, .invokestatic 142, 76, 0, 37, 1, 1, none, []), (76, .goto 20, 79, 0, 96, 0, 0, none, []), (79, .iload_n 3, 80, 0, 3, 0, 0, none, []), (80, .bipush 8, 82, 8, 0, 0, 0, none, []), (82, .if_icmp .lt 9, 85, 0, 91, 0, 0, none, []), (85, .iload_n 3, 86, 0, 3, 0, 0, none, [])]),
  (103, [(86, .bipush 9, 88, 9, 0, 0, 0, none, []), (88, .if_icmp .ne 7, 91, 0, 95, 0, 0, none, []), (91, .iconst 1, 92, 1, 0, 0, 0, none, []), (92, .goto 4, 95, 0, 96, 0, 0, none, []), (95, .iconst 0, 96, 0, 0, 0, 0, none, []), (96, .ireturn, 97, 0, 1, 0, 0, none, []), (97, .iload_n 3, 98, 0, 3, 0, 0, none, []), (98, .aload_n 0, 99, 0, 0, 0, 0, none, []), (99, .getfield 12, 102, 0, 3, 3, 1, none, []), (102, .getfield 118, 105, 0, 4, 1, 0, none, [])]),
  (122, [(105, .if_icmp .lt 9, 108, 0, 114, 0, 0, none, []), (108, .iload_n 3, 109, 0, 3, 0, 0, none, []), (109, .bipush 9, 111, 9, 0, 0, 0, none, []), (111, .if_icmp .ne 7, 114, 0, 118, 0, 0, none, []), (114, .iconst 1, 115, 1, 0, 0, 0, none, []), (115, .goto 4, 118, 0, 119, 0, 0, none, []), (118, .iconst 0, 119, 0, 0, 0, 0, none, []), (119, .ireturn, 120, 0, 1, 0, 0, none, []), (120, .iload_n 2, 121, 0, 2, 0, 0, none, []), (121, .ifCond .ne 16, 124, 0, 137, 0, 0, none, [])]),
  (140, [(124, .iload_n 3, 125, 0, 3, 0, 0, none, []), (125, .iconst 4, 126, 4, 0, 0, 0, none, []), (126, .if_icmp .ge 7, 129, 0, 133, 0, 0, none, []), (129, .iconst 1, 130, 1, 0, 0, 0, none, []), (130, .goto 30, 133, 0, 160, 0, 0, none, []), (133, .iconst 0, 134, 0, 0, 0, 0, none, []), (134, .goto 26, 137, 0, 160, 0, 0, none, []), (137, .iload_n 2, 138, 0, 2, 0, 0, none, []), (138, .iconst 1, 139, 1, 0, 0, 0, none, []), (139, .if_icmp .ne 10, 142, 0, 149, 0, 0, none, [])]),
  (161, [(142, .iload_n 3, 143, 0, 3, 0, 0, none, []), (143, .invokestatic 142, 146, 0, 37, 1, 1, none, []), (146, .goto 14, 149, 0, 160, 0, 0, none, []), (149, .iload_n 3, 150, 0, 3, 0, 0, none, []), (150, .bipush 6, 152, 6, 0, 0, 0, none, []), (152, .if_icmp .ge 7, 155, 0, 159, 0, 0, none, []), (155, .iconst 1, 156, 1, 0, 0, 0, none, []), (156, .goto 4, 159, 0, 160, 0, 0, none, []), (159, .iconst 0, 160, 0, 0, 0, 0, none, []), (160, .ireturn, 161, 0, 1, 0, 0, none, [])]),
  (179, [(161, .iload_n 2, 162, 0, 2, 0, 0, none, []), (162, .ifCond .ne 16, 165, 0, 178, 0, 0, none, []), (165, .iload_n 3, 166, 0, 3, 0, 0, none, []), (166, .iconst 4, 167, 4, 0, 0, 0, none, []), (167, .if_icmp .ge 7, 170, 0, 174, 0, 0, none, []), (170, .iconst 1, 171, 1, 0, 0, 0, none, []), (171, .goto 43, 174, 0, 214, 0, 0, none, []), (174, .iconst 0, 175, 0, 0, 0, 0, none, []), (175, .goto 39, 178, 0, 214, 0, 0, none, []), (178, .iload_n 2, 179, 0, 2, 0, 0, none, [])]),
  (199, [(179, .iconst 1, 180, 1, 0, 0, 0, none, []), (180, .if_icmp .ne 18, 183, 0, 198, 0, 0, none, []), (183, .iload_n 3, 184, 0, 3, 0, 0, none, []), (184, .sipush 255, 187, 255, 0, 0, 0, none, []), (187, .if_icmp .gt 7, 190, 0, 194, 0, 0, none, []), (190, .iconst 1, 191, 1, 0, 0, 0, none, []), (191, .goto 23, 194, 0, 214, 0, 0, none, []), (194, .iconst 0, 195, 0, 0, 0, 0, none, []), (195, .goto 19, 198, 0, 214, 0, 0, none, []), (198, .iload_n 3, 199, 0, 3, 0, 0, none, [])]),
  (215, [(199, .iconst 1, 200, 1, 0, 0, 0, none, []), (200, .if_icmp .lt 13, 203, 0, 213, 0, 0, none, []), (203, .iload_n 3, 204, 0, 3, 0, 0, none, []), (204, .bipush 9, 206, 9, 0, 0, 0, none, []), (206, .if_icmp .gt 7, 209, 0, 213, 0, 0, none, []), (209, .iconst 1, 210, 1, 0, 0, 0, none, []), (210, .goto 4, 213, 0, 214, 0, 0, none, []), (213, .iconst 0, 214, 0, 0, 0, 0, none, []), (214, .ireturn, 215, 0, 1, 0, 0, none, [])])]
def zc_Rd_isWithin : z_C := z_find2 zd_Rd_isWithin
def zd_Rd_tell : List (Nat × List (Nat × z_I)) := [(50, [(0, .iload_n 1, 1, 0, 1, 0, 0, none, []), (1, .tableswitch 86 0 4 #[35, 45, 54, 63, 79], 36, 0, 87, 0, 0, none, [(0, 36), (1, 46), (2, 55), (3, 64), (4, 80)]), (36, .aload_n 0, 37, 0, 0, 0, 0, none, []), (37, .getfield 12, 40, 0, 3, 3, 1, none, []), (40, .invokevirtual 145, 43, 0, 85, 1, 0, none, [(0, 4)]), (43, .goto 86, 46, 0, 129, 0, 0, none, []), (46, .aload_n 0, 47, 0, 0, 0, 0, none, []), (47, .iconst 0, 48, 0, 0, 0, 0, none, []), (48, .iload_n 2, 49, 0, 2, 0, 0, none, []), (49, .invokevirtual 148, 52, 0, 65, 3, 0, none, [(0, 3)])]),
  (70, [(52, .goto 77, 55, 0, 129, 0, 0, none, []), (55, .aload_n 0, 56, 0, 0, 0, 0, none, []), (56, .iconst 1, 57, 1, 0, 0, 0, none, []), (57, .iload_n 2, 58, 0, 2, 0, 0, none, []), (58, .invokevirtual 148, 61, 0, 65, 3, 0, none, [(0, 3)]), (61, .goto 68, 64, 0, 129, 0, 0, none, []), (64, .aload_n 0, 65, 0, 0, 0, 0, none, []), (65, .getfield 12, 68, 0, 3, 3, 1, none, []), (68, .aload_n 0, 69, 0, 0, 0, 0, none, []), (69, .getfield 25, 72, 0, 3, 6, 1, none, [])]),
  (90, [(72, .iconst 0, 73, 0, 0, 0, 0, none, []), (73, .iaload, 74, 0, 0, 0, 0, none, []), (74, .invokevirtual 151, 77, 0, 88, 2, 0, none, [(0, 4)]), (77, .goto 52, 80, 0, 129, 0, 0, none, []), (80, .aload_n 0, 81, 0, 0, 0, 0, none, []), (81, .invokevirtual 154, 84, 0, 66, 1, 0, none, [(0, 3)]), (84, .goto 45, 87, 0, 129, 0, 0, none, []), (87, .aload_n 0, 88, 0, 0, 0, 0, none, []), (88, .aload_n 0, 89, 0, 0, 0, 0, none, []), (89, .getfield 40, 92, 0, 3, 7, 0, none, [])]),
  (110, [(92, .aload_n 0, 93, 0, 0, 0, 0, none, []), (93, .getfield 25, 96, 0, 3, 6, 1, none, []), (96, .iconst 0, 97, 0, 0, 0, 0, none, []), (97, .iaload, 98, 0, 0, 0, 0, none, []), (98, .invokestatic 157, 101, 0, 904, 2, 1, none, []), (101, .putfield 40, 104, 0, 3, 7, 4, none, []), (104, .aload_n 0, 105, 0, 0, 0, 0, none, []), (105, .getfield 21, 108, 0, 3, 4, 1, none, []), (108, .aload_n 0, 109, 0, 0, 0, 0, none, []), (109, .getfield 25, 112, 0, 3, 6, 1, none, [])]),
  (126, [(112, .iconst 0, 113, 0, 0, 0, 0, none, []), (113, .iaload, 114, 0, 0, 0, 0, none, []), (114, .aload_n 0, 115, 0, 0, 0, 0, none, []), (115, .getfield 25, 118, 0, 3, 6, 1, none, []), (118, .iconst 1, 119, 1, 0, 0, 0, none, []), (119, .iaload, 120, 0, 0, 0, 0, none, []), (120, .aload_n 0, 121, 0, 0, 0, 0, none, []), (121, .getfield 25, 124, 0, 3, 6, 1, none, []), (124, .iconst 2, 125, 2, 0, 0, 0, none, []), (125, .iaload, 126, 0, 0, 0, 0, none, [])]),
  (130, [(126, .invokevirtual 163, 129, 0, 93, 4, 0, none, [(0, 5)]), (129, .return_, 130, 0, 0, 0, 0, none, [])])]
def zc_Rd_tell : z_C := z_find2 zd_Rd_tell
def zd_Rd_tellNode : List (Nat × List (Nat × z_I)) := [(16, [(0, .aload_n 0, 1, 0, 0, 0, 0, none, []), (1, .getfield 12, 4, 0, 3, 3, 1, none, []), (4, .iload_n 1, 5, 0, 1, 0, 0, none, []), (5, .aload_n 0, 6, 0, 0, 0, 0, none, []), (6, .getfield 25, 9, 0, 3, 6, 1, none, []), (9, .iconst 0, 10, 0, 0, 0, 0, none, []), (10, .iaload, 11, 0, 0, 0, 0, none, []), (11, .invokevirtual 167, 14, 0, 86, 3, 0, none, [(0, 4)]), (14, .iconst 1, 15, 1, 0, 0, 0, none, []), (15, .istore_n 3, 16, 0, 3, 0, 0, none, [])]),
  (32, [(16, .iload_n 3, 17, 0, 3, 0, 0, some [0, 2, 3], []), (17, .iload_n 2, 18, 0, 2, 0, 0, none, []), (18, .if_icmp .ge 22, 21, 0, 40, 0, 0, none, []), (21, .aload_n 0, 22, 0, 0, 0, 0, none, []), (22, .getfield 12, 25, 0, 3, 3, 1, none, []), (25, .aload_n 0, 26, 0, 0, 0, 0, none, []), (26, .getfield 25, 29, 0, 3, 6, 1, none, []), (29, .iload_n 3, 30, 0, 3, 0, 0, none, []), (30, .iaload, 31, 0, 0, 0, 0, none, []), (31, .invokevirtual 170, 34, 0, 87, 2, 0, none, [(0, 4)])]),
  (41, [(34, .iinc 3 1, 37, 1, 3, 0, 0, none, []), (37, .goto (-21), 40, 0, 16, 0, 0, none, []), (40, .return_, 41, 0, 0, 0, 0, none, [])])]
def zc_Rd_tellNode : z_C := z_find2 zd_Rd_tellNode
def zd_Rd_tellHas : List (Nat × List (Nat × z_I)) := [(18, [(0, .aload_n 0, 1, 0, 0, 0, 0, none, []), (1, .aload_n 0, 2, 0, 0, 0, 0, none, []), (2, .getfield 40, 5, 0, 3, 7, 0, none, []), (5, .aload_n 0, 6, 0, 0, 0, 0, none, []), (6, .getfield 25, 9, 0, 3, 6, 1, none, []), (9, .iconst 0, 10, 0, 0, 0, 0, none, []), (10, .iaload, 11, 0, 0, 0, 0, none, []), (11, .invokestatic 157, 14, 0, 904, 2, 1, none, []), (14, .putfield 40, 17, 0, 3, 7, 4, none, []), (17, .aload_n 0, 18, 0, 0, 0, 0, none, [])]),
  (36, [(18, .aload_n 0, 19, 0, 0, 0, 0, none, []), (19, .getfield 43, 22, 0, 3, 8, 0, none, []), (22, .aload_n 0, 23, 0, 0, 0, 0, none, []), (23, .getfield 25, 26, 0, 3, 6, 1, none, []), (26, .iconst 2, 27, 2, 0, 0, 0, none, []), (27, .iaload, 28, 0, 0, 0, 0, none, []), (28, .invokestatic 157, 31, 0, 904, 2, 1, none, []), (31, .putfield 43, 34, 0, 3, 8, 4, none, []), (34, .aload_n 0, 35, 0, 0, 0, 0, none, []), (35, .getfield 12, 38, 0, 3, 3, 1, none, [])]),
  (54, [(38, .getfield 173, 41, 0, 4, 8, 1, none, []), (41, .iconst 4, 42, 4, 0, 0, 0, none, []), (42, .aload_n 0, 43, 0, 0, 0, 0, none, []), (43, .getfield 25, 46, 0, 3, 6, 1, none, []), (46, .iconst 0, 47, 0, 0, 0, 0, none, []), (47, .iaload, 48, 0, 0, 0, 0, none, []), (48, .imul, 49, 0, 0, 0, 0, none, []), (49, .aload_n 0, 50, 0, 0, 0, 0, none, []), (50, .getfield 25, 53, 0, 3, 6, 1, none, []), (53, .iconst 1, 54, 1, 0, 0, 0, none, [])]),
  (64, [(54, .iaload, 55, 0, 0, 0, 0, none, []), (55, .iadd, 56, 0, 0, 0, 0, none, []), (56, .aload_n 0, 57, 0, 0, 0, 0, none, []), (57, .getfield 25, 60, 0, 3, 6, 1, none, []), (60, .iconst 2, 61, 2, 0, 0, 0, none, []), (61, .iaload, 62, 0, 0, 0, 0, none, []), (62, .iastore, 63, 0, 0, 0, 0, none, []), (63, .return_, 64, 0, 0, 0, 0, none, [])])]
def zc_Rd_tellHas : z_C := z_find2 zd_Rd_tellHas
def zd_Rd_tellsWhatIsNotThere : List (Nat × List (Nat × z_I)) := [(20, [(0, .aload_n 0, 1, 0, 0, 0, 0, none, []), (1, .getfield 40, 4, 0, 3, 7, 0, none, []), (4, .aload_n 0, 5, 0, 0, 0, 0, none, []), (5, .getfield 12, 8, 0, 3, 3, 1, none, []), (8, .getfield 118, 11, 0, 4, 1, 0, none, []), (11, .if_icmp .ge 27, 14, 0, 38, 0, 0, none, []), (14, .aload_n 0, 15, 0, 0, 0, 0, none, []), (15, .getfield 43, 18, 0, 3, 8, 0, none, []), (18, .aload_n 0, 19, 0, 0, 0, 0, none, []), (19, .getfield 12, 22, 0, 3, 3, 1, none, [])]),
  (44, [(22, .getfield 112, 25, 0, 4, 0, 0, none, []), (25, .if_icmp .ge 13, 28, 0, 38, 0, 0, none, []), (28, .aload_n 0, 29, 0, 0, 0, 0, none, []), (29, .getfield 12, 32, 0, 3, 3, 1, none, []), (32, .invokevirtual 176, 35, 0, 89, 1, 1, none, [(0, 4)]), (35, .ifCond .ne 7, 38, 0, 42, 0, 0, none, []), (38, .iconst 1, 39, 1, 0, 0, 0, none, []), (39, .goto 4, 42, 0, 43, 0, 0, none, []), (42, .iconst 0, 43, 0, 0, 0, 0, none, []), (43, .ireturn, 44, 0, 1, 0, 0, none, [])])]
def zc_Rd_tellsWhatIsNotThere : z_C := z_find2 zd_Rd_tellsWhatIsNotThere
def zd_P_clear : List (Nat × List (Nat × z_I)) := [(17, [(0, .aload_n 0, 1, 0, 0, 0, 0, none, []), (1, .iconst 0, 2, 0, 0, 0, 0, none, []), (2, .putfield 33, 5, 0, 4, 0, 4, none, []), (5, .aload_n 0, 6, 0, 0, 0, 0, none, []), (6, .iconst 0, 7, 0, 0, 0, 0, none, []), (7, .putfield 37, 10, 0, 4, 1, 4, none, []), (10, .aload_n 0, 11, 0, 0, 0, 0, none, []), (11, .getfield 24, 14, 0, 4, 6, 1, none, []), (14, .bipush (-4), 16, (-4), 0, 0, 0, none, []), (16, .invokestatic 40, 19, 0, 902, 2, 0, none, [])]),
  (29, [(19, .aload_n 0, 20, 0, 0, 0, 0, none, []), (20, .getfield 30, 23, 0, 4, 8, 1, none, []), (23, .bipush (-4), 25, (-4), 0, 0, 0, none, []), (25, .invokestatic 40, 28, 0, 902, 2, 0, none, []), (28, .return_, 29, 0, 0, 0, 0, none, [])])]
def zc_P_clear : z_C := z_find2 zd_P_clear
def zd_P_becomeAs : List (Nat × List (Nat × z_I)) := [(18, [(0, .aload_n 0, 1, 0, 0, 0, 0, none, []), (1, .aload_n 1, 2, 0, 1, 0, 0, none, []), (2, .getfield 33, 5, 0, 4, 0, 0, none, []), (5, .putfield 33, 8, 0, 4, 0, 4, none, []), (8, .aload_n 0, 9, 0, 0, 0, 0, none, []), (9, .aload_n 1, 10, 0, 1, 0, 0, none, []), (10, .getfield 37, 13, 0, 4, 1, 0, none, []), (13, .putfield 37, 16, 0, 4, 1, 4, none, []), (16, .aload_n 1, 17, 0, 1, 0, 0, none, []), (17, .getfield 9, 20, 0, 4, 2, 1, none, [])]),
  (36, [(20, .iconst 0, 21, 0, 0, 0, 0, none, []), (21, .aload_n 0, 22, 0, 0, 0, 0, none, []), (22, .getfield 9, 25, 0, 4, 2, 1, none, []), (25, .iconst 0, 26, 0, 0, 0, 0, none, []), (26, .aload_n 0, 27, 0, 0, 0, 0, none, []), (27, .getfield 9, 30, 0, 4, 2, 1, none, []), (30, .arraylength, 31, 0, 0, 0, 0, none, []), (31, .invokestatic 46, 34, 0, 900, 5, 0, none, []), (34, .aload_n 1, 35, 0, 1, 0, 0, none, []), (35, .getfield 15, 38, 0, 4, 3, 1, none, [])]),
  (54, [(38, .iconst 0, 39, 0, 0, 0, 0, none, []), (39, .aload_n 0, 40, 0, 0, 0, 0, none, []), (40, .getfield 15, 43, 0, 4, 3, 1, none, []), (43, .iconst 0, 44, 0, 0, 0, 0, none, []), (44, .aload_n 0, 45, 0, 0, 0, 0, none, []), (45, .getfield 15, 48, 0, 4, 3, 1, none, []), (48, .arraylength, 49, 0, 0, 0, 0, none, []), (49, .invokestatic 46, 52, 0, 900, 5, 0, none, []), (52, .aload_n 1, 53, 0, 1, 0, 0, none, []), (53, .getfield 18, 56, 0, 4, 4, 1, none, [])]),
  (72, [(56, .iconst 0, 57, 0, 0, 0, 0, none, []), (57, .aload_n 0, 58, 0, 0, 0, 0, none, []), (58, .getfield 18, 61, 0, 4, 4, 1, none, []), (61, .iconst 0, 62, 0, 0, 0, 0, none, []), (62, .aload_n 0, 63, 0, 0, 0, 0, none, []), (63, .getfield 18, 66, 0, 4, 4, 1, none, []), (66, .arraylength, 67, 0, 0, 0, 0, none, []), (67, .invokestatic 46, 70, 0, 900, 5, 0, none, []), (70, .aload_n 1, 71, 0, 1, 0, 0, none, []), (71, .getfield 21, 74, 0, 4, 5, 1, none, [])]),
  (90, [(74, .iconst 0, 75, 0, 0, 0, 0, none, []), (75, .aload_n 0, 76, 0, 0, 0, 0, none, []), (76, .getfield 21, 79, 0, 4, 5, 1, none, []), (79, .iconst 0, 80, 0, 0, 0, 0, none, []), (80, .aload_n 0, 81, 0, 0, 0, 0, none, []), (81, .getfield 21, 84, 0, 4, 5, 1, none, []), (84, .arraylength, 85, 0, 0, 0, 0, none, []), (85, .invokestatic 46, 88, 0, 900, 5, 0, none, []), (88, .aload_n 1, 89, 0, 1, 0, 0, none, []), (89, .getfield 24, 92, 0, 4, 6, 1, none, [])]),
  (108, [(92, .iconst 0, 93, 0, 0, 0, 0, none, []), (93, .aload_n 0, 94, 0, 0, 0, 0, none, []), (94, .getfield 24, 97, 0, 4, 6, 1, none, []), (97, .iconst 0, 98, 0, 0, 0, 0, none, []), (98, .aload_n 0, 99, 0, 0, 0, 0, none, []), (99, .getfield 24, 102, 0, 4, 6, 1, none, []), (102, .arraylength, 103, 0, 0, 0, 0, none, []), (103, .invokestatic 46, 106, 0, 900, 5, 0, none, []), (106, .aload_n 1, 107, 0, 1, 0, 0, none, []), (107, .getfield 27, 110, 0, 4, 7, 1, none, [])]),
  (126, [(110, .iconst 0, 111, 0, 0, 0, 0, none, []), (111, .aload_n 0, 112, 0, 0, 0, 0, none, []), (112, .getfield 27, 115, 0, 4, 7, 1, none, []), (115, .iconst 0, 116, 0, 0, 0, 0, none, []), (116, .aload_n 0, 117, 0, 0, 0, 0, none, []), (117, .getfield 27, 120, 0, 4, 7, 1, none, []), (120, .arraylength, 121, 0, 0, 0, 0, none, []), (121, .invokestatic 46, 124, 0, 900, 5, 0, none, []), (124, .aload_n 1, 125, 0, 1, 0, 0, none, []), (125, .getfield 30, 128, 0, 4, 8, 1, none, [])]),
  (143, [(128, .iconst 0, 129, 0, 0, 0, 0, none, []), (129, .aload_n 0, 130, 0, 0, 0, 0, none, []), (130, .getfield 30, 133, 0, 4, 8, 1, none, []), (133, .iconst 0, 134, 0, 0, 0, 0, none, []), (134, .aload_n 0, 135, 0, 0, 0, 0, none, []), (135, .getfield 30, 138, 0, 4, 8, 1, none, []), (138, .arraylength, 139, 0, 0, 0, 0, none, []), (139, .invokestatic 46, 142, 0, 900, 5, 0, none, []), (142, .return_, 143, 0, 0, 0, 0, none, [])])]
def zc_P_becomeAs : z_C := z_find2 zd_P_becomeAs
def zd_P_hasMethod : List (Nat × List (Nat × z_I)) := [(18, [(0, .iload_n 1, 1, 0, 1, 0, 0, none, []), (1, .ifCond .lt 15, 4, 0, 16, 0, 0, none, []), (4, .iload_n 1, 5, 0, 1, 0, 0, none, []), (5, .aload_n 0, 6, 0, 0, 0, 0, none, []), (6, .getfield 33, 9, 0, 4, 0, 0, none, []), (9, .if_icmp .ge 7, 12, 0, 16, 0, 0, none, []), (12, .iconst 1, 13, 1, 0, 0, 0, none, []), (13, .goto 4, 16, 0, 17, 0, 0, none, []), (16, .iconst 0, 17, 0, 0, 0, 0, none, []), (17, .ireturn, 18, 0, 1, 0, 0, none, [])])]
def zc_P_hasMethod : z_C := z_find2 zd_P_hasMethod
def zd_P_hasNode : List (Nat × List (Nat × z_I)) := [(18, [(0, .aload_n 0, 1, 0, 0, 0, 0, none, []), (1, .iload_n 1, 2, 0, 1, 0, 0, none, []), (2, .invokevirtual 52, 5, 0, 70, 2, 1, none, [(0, 4)]), (5, .ifCond .eq 21, 8, 0, 26, 0, 0, none, []), (8, .iload_n 2, 9, 0, 2, 0, 0, none, []), (9, .ifCond .lt 17, 12, 0, 26, 0, 0, none, []), (12, .iload_n 2, 13, 0, 2, 0, 0, none, []), (13, .aload_n 0, 14, 0, 0, 0, 0, none, []), (14, .getfield 9, 17, 0, 4, 2, 1, none, []), (17, .iload_n 1, 18, 0, 1, 0, 0, none, [])]),
  (28, [(18, .iaload, 19, 0, 0, 0, 0, none, []), (19, .if_icmp .ge 7, 22, 0, 26, 0, 0, none, []), (22, .iconst 1, 23, 1, 0, 0, 0, none, []), (23, .goto 4, 26, 0, 27, 0, 0, none, []), (26, .iconst 0, 27, 0, 0, 0, 0, none, []), (27, .ireturn, 28, 0, 1, 0, 0, none, [])])]
def zc_P_hasNode : z_C := z_find2 zd_P_hasNode
def zd_P_hasNext : List (Nat × List (Nat × z_I)) := [(16, [(0, .aload_n 0, 1, 0, 0, 0, 0, none, []), (1, .iload_n 1, 2, 0, 1, 0, 0, none, []), (2, .iload_n 2, 3, 0, 2, 0, 0, none, []), (3, .invokevirtual 56, 6, 0, 71, 3, 1, none, [(0, 4)]), (6, .ifCond .eq 25, 9, 0, 31, 0, 0, none, []), (9, .iload_n 3, 10, 0, 3, 0, 0, none, []), (10, .ifCond .lt 21, 13, 0, 31, 0, 0, none, []), (13, .iload_n 3, 14, 0, 3, 0, 0, none, []), (14, .aload_n 0, 15, 0, 0, 0, 0, none, []), (15, .getfield 21, 18, 0, 4, 5, 1, none, [])]),
  (33, [(18, .iload_n 1, 19, 0, 1, 0, 0, none, []), (19, .iload_n 2, 20, 0, 2, 0, 0, none, []), (20, .invokestatic 60, 23, 0, 42, 2, 1, none, []), (23, .iaload, 24, 0, 0, 0, 0, none, []), (24, .if_icmp .ge 7, 27, 0, 31, 0, 0, none, []), (27, .iconst 1, 28, 1, 0, 0, 0, none, []), (28, .goto 4, 31, 0, 32, 0, 0, none, []), (31, .iconst 0, 32, 0, 0, 0, 0, none, []), (32, .ireturn, 33, 0, 1, 0, 0, none, [])])]
def zc_P_hasNext : z_C := z_find2 zd_P_hasNext
def zd_P_hasClass : List (Nat × List (Nat × z_I)) := [(18, [(0, .iload_n 1, 1, 0, 1, 0, 0, none, []), (1, .ifCond .lt 15, 4, 0, 16, 0, 0, none, []), (4, .iload_n 1, 5, 0, 1, 0, 0, none, []), (5, .aload_n 0, 6, 0, 0, 0, 0, none, []), (6, .getfield 37, 9, 0, 4, 1, 0, none, []), (9, .if_icmp .ge 7, 12, 0, 16, 0, 0, none, []), (12, .iconst 1, 13, 1, 0, 0, 0, none, []), (13, .goto 4, 16, 0, 17, 0, 0, none, []), (16, .iconst 0, 17, 0, 0, 0, 0, none, []), (17, .ireturn, 18, 0, 1, 0, 0, none, [])])]
def zc_P_hasClass : z_C := z_find2 zd_P_hasClass
def zd_P_hasEdge : List (Nat × List (Nat × z_I)) := [(15, [(0, .iload_n 1, 1, 0, 1, 0, 0, none, []), (1, .ifCond .ge 5, 4, 0, 6, 0, 0, none, []), (4, .iconst 0, 5, 0, 0, 0, 0, none, []), (5, .ireturn, 6, 0, 1, 0, 0, none, []), (6, .iload_n 1, 7, 0, 1, 0, 0, none, []), (7, .bipush 96, 9, 96, 0, 0, 0, none, []), (9, .if_icmp .ge 23, 12, 0, 32, 0, 0, none, []), (12, .iload_n 1, 13, 0, 1, 0, 0, none, []), (13, .iconst 2, 14, 2, 0, 0, 0, none, []), (14, .idiv, 15, 0, 0, 0, 0, none, [])]),
  (27, [(15, .istore_n 2, 16, 0, 2, 0, 0, none, []), (16, .aload_n 0, 17, 0, 0, 0, 0, none, []), (17, .iload_n 2, 18, 0, 2, 0, 0, none, []), (18, .bipush 8, 20, 8, 0, 0, 0, none, []), (20, .idiv, 21, 0, 0, 0, 0, none, []), (21, .iload_n 2, 22, 0, 2, 0, 0, none, []), (22, .bipush 8, 24, 8, 0, 0, 0, none, []), (24, .irem, 25, 0, 0, 0, 0, none, []), (25, .iload_n 1, 26, 0, 1, 0, 0, none, []), (26, .iconst 2, 27, 2, 0, 0, 0, none, [])]),
  (44, [(27, .irem, 28, 0, 0, 0, 0, none, []), (28, .invokevirtual 64, 31, 0, 72, 4, 1, none, [(0, 4)]), (31, .ireturn, 32, 0, 1, 0, 0, none, []), (32, .iload_n 1, 33, 0, 1, 0, 0, none, []), (33, .sipush 200, 36, 200, 0, 0, 0, none, []), (36, .if_icmp .ge 12, 39, 0, 48, 0, 0, none, []), (39, .aload_n 0, 40, 0, 0, 0, 0, none, []), (40, .iload_n 1, 41, 0, 1, 0, 0, none, []), (41, .bipush 100, 43, 100, 0, 0, 0, none, []), (43, .isub, 44, 0, 0, 0, 0, none, [])]),
  (60, [(44, .invokevirtual 52, 47, 0, 70, 2, 1, none, [(0, 4)]), (47, .ireturn, 48, 0, 1, 0, 0, none, []), (48, .aload_n 0, 49, 0, 0, 0, 0, none, []), (49, .iload_n 1, 50, 0, 1, 0, 0, none, []), (50, .sipush 200, 53, 200, 0, 0, 0, none, []), (53, .isub, 54, 0, 0, 0, 0, none, []), (54, .iconst 4, 55, 4, 0, 0, 0, none, []), (55, .idiv, 56, 0, 0, 0, 0, none, []), (56, .invokevirtual 68, 59, 0, 73, 2, 1, none, [(0, 4)]), (59, .ireturn, 60, 0, 1, 0, 0, none, [])])]
def zc_P_hasEdge : z_C := z_find2 zd_P_hasEdge
def zd_P_nextOf : List (Nat × List (Nat × z_I)) := [(12, [(0, .aload_n 0, 1, 0, 0, 0, 0, none, []), (1, .getfield 24, 4, 0, 4, 6, 1, none, []), (4, .iload_n 1, 5, 0, 1, 0, 0, none, []), (5, .iload_n 2, 6, 0, 2, 0, 0, none, []), (6, .iload_n 3, 7, 0, 3, 0, 0, none, []), (7, .invokestatic 71, 10, 0, 43, 3, 1, none, []), (10, .iaload, 11, 0, 0, 0, 0, none, []), (11, .ireturn, 12, 0, 0, 0, 0, none, [])])]
def zc_P_nextOf : z_C := z_find2 zd_P_nextOf
def zd_P_mayTurn : List (Nat × List (Nat × z_I)) := [(18, [(0, .aload_n 0, 1, 0, 0, 0, 0, none, []), (1, .iload_n 1, 2, 0, 1, 0, 0, none, []), (2, .iload_n 2, 3, 0, 2, 0, 0, none, []), (3, .iload_n 3, 4, 0, 3, 0, 0, none, []), (4, .invokevirtual 64, 7, 0, 72, 4, 1, none, [(0, 4)]), (7, .ifCond .eq 24, 10, 0, 31, 0, 0, none, []), (10, .iload 4, 12, 0, 4, 0, 0, none, []), (12, .bipush 9, 14, 9, 0, 0, 0, none, []), (14, .if_icmp .eq 13, 17, 0, 27, 0, 0, none, []), (17, .aload_n 0, 18, 0, 0, 0, 0, none, [])]),
  (33, [(18, .iload_n 1, 19, 0, 1, 0, 0, none, []), (19, .iload 4, 21, 0, 4, 0, 0, none, []), (21, .invokevirtual 56, 24, 0, 71, 3, 1, none, [(0, 4)]), (24, .ifCond .eq 7, 27, 0, 31, 0, 0, none, []), (27, .iconst 1, 28, 1, 0, 0, 0, none, []), (28, .goto 4, 31, 0, 32, 0, 0, none, []), (31, .iconst 0, 32, 0, 0, 0, 0, none, []), (32, .ireturn, 33, 0, 1, 0, 0, none, [])])]
def zc_P_mayTurn : z_C := z_find2 zd_P_mayTurn
def zd_P_turn : List (Nat × List (Nat × z_I)) := [(16, [(0, .aload_n 0, 1, 0, 0, 0, 0, none, []), (1, .iload_n 1, 2, 0, 1, 0, 0, none, []), (2, .iload_n 2, 3, 0, 2, 0, 0, none, []), (3, .iload_n 3, 4, 0, 3, 0, 0, none, []), (4, .invokevirtual 64, 7, 0, 72, 4, 1, none, [(0, 4)]), (7, .ifCond .eq 16, 10, 0, 23, 0, 0, none, []), (10, .aload_n 0, 11, 0, 0, 0, 0, none, []), (11, .getfield 24, 14, 0, 4, 6, 1, none, []), (14, .iload_n 1, 15, 0, 1, 0, 0, none, []), (15, .iload_n 2, 16, 0, 2, 0, 0, none, [])]),
  (24, [(16, .iload_n 3, 17, 0, 3, 0, 0, none, []), (17, .invokestatic 71, 20, 0, 43, 3, 1, none, []), (20, .iload 4, 22, 0, 4, 0, 0, none, []), (22, .iastore, 23, 0, 0, 0, 0, none, []), (23, .return_, 24, 0, 0, 0, 0, none, [])])]
def zc_P_turn : z_C := z_find2 zd_P_turn
def zd_P_widen : List (Nat × List (Nat × z_I)) := [(17, [(0, .iload_n 1, 1, 0, 1, 0, 0, none, []), (1, .iload_n 2, 2, 0, 2, 0, 0, none, []), (2, .invokestatic 60, 5, 0, 42, 2, 1, none, []), (5, .istore 4, 7, 0, 4, 0, 0, none, []), (7, .iconst 0, 8, 0, 0, 0, 0, none, []), (8, .istore 5, 10, 0, 5, 0, 0, none, []), (10, .iload 5, 12, 0, 5, 0, 0, some [0, 1, 2, 3, 4, 5], []), (12, .iconst 2, 13, 2, 0, 0, 0, none, []), (13, .if_icmp .ge 58, 16, 0, 71, 0, 0, none, []), (16, .iload 5, 18, 0, 5, 0, 0, none, [])]),
  (36, [(18, .iload_n 3, 19, 0, 3, 0, 0, none, []), (19, .if_icmp .lt 20, 22, 0, 39, 0, 0, none, []), (22, .aload_n 0, 23, 0, 0, 0, 0, none, []), (23, .getfield 24, 26, 0, 4, 6, 1, none, []), (26, .iload_n 1, 27, 0, 1, 0, 0, none, []), (27, .iload_n 2, 28, 0, 2, 0, 0, none, []), (28, .iload 5, 30, 0, 5, 0, 0, none, []), (30, .invokestatic 71, 33, 0, 43, 3, 1, none, []), (33, .bipush (-4), 35, (-4), 0, 0, 0, none, []), (35, .iastore, 36, 0, 0, 0, 0, none, [])]),
  (56, [(36, .goto 29, 39, 0, 65, 0, 0, none, []), (39, .iload 5, 41, 0, 5, 0, 0, none, []), (41, .aload_n 0, 42, 0, 0, 0, 0, none, []), (42, .getfield 21, 45, 0, 4, 5, 1, none, []), (45, .iload 4, 47, 0, 4, 0, 0, none, []), (47, .iaload, 48, 0, 0, 0, 0, none, []), (48, .if_icmp .lt 17, 51, 0, 65, 0, 0, none, []), (51, .aload_n 0, 52, 0, 0, 0, 0, none, []), (52, .getfield 24, 55, 0, 4, 6, 1, none, []), (55, .iload_n 1, 56, 0, 1, 0, 0, none, [])]),
  (76, [(56, .iload_n 2, 57, 0, 2, 0, 0, none, []), (57, .iload 5, 59, 0, 5, 0, 0, none, []), (59, .invokestatic 71, 62, 0, 43, 3, 1, none, []), (62, .bipush 9, 64, 9, 0, 0, 0, none, []), (64, .iastore, 65, 0, 0, 0, 0, none, []), (65, .iinc 5 1, 68, 1, 5, 0, 0, none, []), (68, .goto (-58), 71, 0, 10, 0, 0, none, []), (71, .aload_n 0, 72, 0, 0, 0, 0, none, []), (72, .getfield 21, 75, 0, 4, 5, 1, none, []), (75, .iload 4, 77, 0, 4, 0, 0, none, [])]),
  (80, [(77, .iload_n 3, 78, 0, 3, 0, 0, none, []), (78, .iastore, 79, 0, 0, 0, 0, none, []), (79, .return_, 80, 0, 0, 0, 0, none, [])])]
def zc_P_widen : z_C := z_find2 zd_P_widen
def zd_P_meantBy : List (Nat × List (Nat × z_I)) := [(16, [(0, .iload_n 1, 1, 0, 1, 0, 0, none, []), (1, .istore_n 3, 2, 0, 3, 0, 0, none, []), (2, .iconst 0, 3, 0, 0, 0, 0, none, []), (3, .istore 4, 5, 0, 4, 0, 0, none, []), (5, .iload 4, 7, 0, 4, 0, 0, some [0, 2, 3, 4], []), (7, .iconst 4, 8, 4, 0, 0, 0, none, []), (8, .if_icmp .ge 54, 11, 0, 62, 0, 0, none, []), (11, .iload_n 3, 12, 0, 3, 0, 0, none, []), (12, .ifCond .lt 50, 15, 0, 62, 0, 0, none, []), (15, .iload_n 3, 16, 0, 3, 0, 0, none, [])]),
  (32, [(16, .aload_n 0, 17, 0, 0, 0, 0, none, []), (17, .getfield 37, 20, 0, 4, 1, 0, none, []), (20, .if_icmp .ge 42, 23, 0, 62, 0, 0, none, []), (23, .aload_n 0, 24, 0, 0, 0, 0, none, []), (24, .getfield 30, 27, 0, 4, 8, 1, none, []), (27, .iconst 4, 28, 4, 0, 0, 0, none, []), (28, .iload_n 3, 29, 0, 3, 0, 0, none, []), (29, .imul, 30, 0, 0, 0, 0, none, []), (30, .iload_n 2, 31, 0, 2, 0, 0, none, []), (31, .iadd, 32, 0, 0, 0, 0, none, [])]),
  (47, [(32, .iaload, 33, 0, 0, 0, 0, none, []), (33, .bipush (-4), 35, (-4), 0, 0, 0, none, []), (35, .if_icmp .eq 14, 38, 0, 49, 0, 0, none, []), (38, .aload_n 0, 39, 0, 0, 0, 0, none, []), (39, .getfield 30, 42, 0, 4, 8, 1, none, []), (42, .iconst 4, 43, 4, 0, 0, 0, none, []), (43, .iload_n 3, 44, 0, 3, 0, 0, none, []), (44, .imul, 45, 0, 0, 0, 0, none, []), (45, .iload_n 2, 46, 0, 2, 0, 0, none, []), (46, .iadd, 47, 0, 0, 0, 0, none, [])]),
  (63, [(47, .iaload, 48, 0, 0, 0, 0, none, []), (48, .ireturn, 49, 0, 0, 0, 0, none, []), (49, .aload_n 0, 50, 0, 0, 0, 0, none, []), (50, .getfield 27, 53, 0, 4, 7, 1, none, []), (53, .iload_n 3, 54, 0, 3, 0, 0, none, []), (54, .iaload, 55, 0, 0, 0, 0, none, []), (55, .istore_n 3, 56, 0, 3, 0, 0, none, []), (56, .iinc 4 1, 59, 1, 4, 0, 0, none, []), (59, .goto (-54), 62, 0, 5, 0, 0, none, []), (62, .bipush (-4), 64, (-4), 0, 0, 0, none, [])]),
  (65, [(64, .ireturn, 65, 0, 0, 0, 0, none, [])])]
def zc_P_meantBy : z_C := z_find2 zd_P_meantBy
def zd_P_partOf : List (Nat × List (Nat × z_I)) := [(47, [(0, .iload_n 1, 1, 0, 1, 0, 0, none, []), (1, .iload_n 2, 2, 0, 2, 0, 0, none, []), (2, .invokestatic 60, 5, 0, 42, 2, 1, none, []), (5, .istore 4, 7, 0, 4, 0, 0, none, []), (7, .iload_n 3, 8, 0, 3, 0, 0, none, []), (8, .tableswitch 64 0 3 #[32, 40, 48, 56], 40, 0, 72, 0, 0, none, [(0, 40), (1, 48), (2, 56), (3, 64)]), (40, .aload_n 0, 41, 0, 0, 0, 0, none, []), (41, .getfield 15, 44, 0, 4, 3, 1, none, []), (44, .iload 4, 46, 0, 4, 0, 0, none, []), (46, .iaload, 47, 0, 0, 0, 0, none, [])]),
  (63, [(47, .ireturn, 48, 0, 0, 0, 0, none, []), (48, .aload_n 0, 49, 0, 0, 0, 0, none, []), (49, .getfield 18, 52, 0, 4, 4, 1, none, []), (52, .iload 4, 54, 0, 4, 0, 0, none, []), (54, .iaload, 55, 0, 0, 0, 0, none, []), (55, .ireturn, 56, 0, 0, 0, 0, none, []), (56, .aload_n 0, 57, 0, 0, 0, 0, none, []), (57, .getfield 21, 60, 0, 4, 5, 1, none, []), (60, .iload 4, 62, 0, 4, 0, 0, none, []), (62, .iaload, 63, 0, 0, 0, 0, none, [])]),
  (75, [(63, .ireturn, 64, 0, 0, 0, 0, none, []), (64, .aload_n 0, 65, 0, 0, 0, 0, none, []), (65, .iload_n 1, 66, 0, 1, 0, 0, none, []), (66, .iload_n 2, 67, 0, 2, 0, 0, none, []), (67, .iconst 0, 68, 0, 0, 0, 0, none, []), (68, .invokevirtual 75, 71, 0, 75, 4, 1, none, [(0, 4)]), (71, .ireturn, 72, 0, 0, 0, 0, none, []), (72, .aload_n 0, 73, 0, 0, 0, 0, none, []), (73, .iload_n 1, 74, 0, 1, 0, 0, none, []), (74, .iload_n 2, 75, 0, 2, 0, 0, none, [])]),
  (80, [(75, .iconst 1, 76, 1, 0, 0, 0, none, []), (76, .invokevirtual 75, 79, 0, 75, 4, 1, none, [(0, 4)]), (79, .ireturn, 80, 0, 0, 0, 0, none, [])])]
def zc_P_partOf : z_C := z_find2 zd_P_partOf
def zd_P_nodesOfAll : List (Nat × List (Nat × z_I)) := [(14, [(0, .iconst 0, 1, 0, 0, 0, 0, none, []), (1, .istore_n 1, 2, 0, 1, 0, 0, none, []), (2, .iconst 0, 3, 0, 0, 0, 0, none, []), (3, .istore_n 2, 4, 0, 2, 0, 0, none, []), (4, .iload_n 2, 5, 0, 2, 0, 0, some [0, 1, 2], []), (5, .aload_n 0, 6, 0, 0, 0, 0, none, []), (6, .getfield 33, 9, 0, 4, 0, 0, none, []), (9, .if_icmp .ge 18, 12, 0, 27, 0, 0, none, []), (12, .iload_n 1, 13, 0, 1, 0, 0, none, []), (13, .aload_n 0, 14, 0, 0, 0, 0, none, [])]),
  (29, [(14, .getfield 9, 17, 0, 4, 2, 1, none, []), (17, .iload_n 2, 18, 0, 2, 0, 0, none, []), (18, .iaload, 19, 0, 0, 0, 0, none, []), (19, .iadd, 20, 0, 0, 0, 0, none, []), (20, .istore_n 1, 21, 0, 1, 0, 0, none, []), (21, .iinc 2 1, 24, 1, 2, 0, 0, none, []), (24, .goto (-20), 27, 0, 4, 0, 0, none, []), (27, .iload_n 1, 28, 0, 1, 0, 0, none, []), (28, .ireturn, 29, 0, 0, 0, 0, none, [])])]
def zc_P_nodesOfAll : z_C := z_find2 zd_P_nodesOfAll
def zd_P_nodesThatCall : List (Nat × List (Nat × z_I)) := [(14, [(0, .iconst 0, 1, 0, 0, 0, 0, none, []), (1, .istore_n 1, 2, 0, 1, 0, 0, none, []), (2, .iconst 0, 3, 0, 0, 0, 0, none, []), (3, .istore_n 2, 4, 0, 2, 0, 0, none, []), (4, .iload_n 2, 5, 0, 2, 0, 0, some [0, 1, 2], []), (5, .aload_n 0, 6, 0, 0, 0, 0, none, []), (6, .getfield 33, 9, 0, 4, 0, 0, none, []), (9, .if_icmp .ge 44, 12, 0, 53, 0, 0, none, []), (12, .iconst 0, 13, 0, 0, 0, 0, none, []), (13, .istore_n 3, 14, 0, 3, 0, 0, none, [])]),
  (30, [(14, .iload_n 3, 15, 0, 3, 0, 0, some [0, 1, 2, 3], []), (15, .aload_n 0, 16, 0, 0, 0, 0, none, []), (16, .getfield 9, 19, 0, 4, 2, 1, none, []), (19, .iload_n 2, 20, 0, 2, 0, 0, none, []), (20, .iaload, 21, 0, 0, 0, 0, none, []), (21, .if_icmp .ge 26, 24, 0, 47, 0, 0, none, []), (24, .aload_n 0, 25, 0, 0, 0, 0, none, []), (25, .getfield 15, 28, 0, 4, 3, 1, none, []), (28, .iload_n 2, 29, 0, 2, 0, 0, none, []), (29, .iload_n 3, 30, 0, 3, 0, 0, none, [])]),
  (54, [(30, .invokestatic 60, 33, 0, 42, 2, 1, none, []), (33, .iaload, 34, 0, 0, 0, 0, none, []), (34, .iconst 1, 35, 1, 0, 0, 0, none, []), (35, .if_icmp .ne 6, 38, 0, 41, 0, 0, none, []), (38, .iinc 1 1, 41, 1, 1, 0, 0, none, []), (41, .iinc 3 1, 44, 1, 3, 0, 0, none, []), (44, .goto (-30), 47, 0, 14, 0, 0, none, []), (47, .iinc 2 1, 50, 1, 2, 0, 0, none, []), (50, .goto (-46), 53, 0, 4, 0, 0, none, []), (53, .iload_n 1, 54, 0, 1, 0, 0, none, [])]),
  (55, [(54, .ireturn, 55, 0, 0, 0, 0, none, [])])]
def zc_P_nodesThatCall : z_C := z_find2 zd_P_nodesThatCall
def zd_P_nodesOtherThan : List (Nat × List (Nat × z_I)) := [(14, [(0, .iconst 0, 1, 0, 0, 0, 0, none, []), (1, .istore_n 2, 2, 0, 2, 0, 0, none, []), (2, .iconst 0, 3, 0, 0, 0, 0, none, []), (3, .istore_n 3, 4, 0, 3, 0, 0, none, []), (4, .iload_n 3, 5, 0, 3, 0, 0, some [0, 1, 2, 3], []), (5, .aload_n 0, 6, 0, 0, 0, 0, none, []), (6, .getfield 33, 9, 0, 4, 0, 0, none, []), (9, .if_icmp .ge 43, 12, 0, 52, 0, 0, none, []), (12, .iconst 0, 13, 0, 0, 0, 0, none, []), (13, .istore 4, 15, 0, 4, 0, 0, none, [])]),
  (30, [(15, .iload 4, 17, 0, 4, 0, 0, some [0, 1, 2, 3, 4], []), (17, .aload_n 0, 18, 0, 0, 0, 0, none, []), (18, .getfield 9, 21, 0, 4, 2, 1, none, []), (21, .iload_n 3, 22, 0, 3, 0, 0, none, []), (22, .iaload, 23, 0, 0, 0, 0, none, []), (23, .if_icmp .ge 23, 26, 0, 46, 0, 0, none, []), (26, .aload_n 0, 27, 0, 0, 0, 0, none, []), (27, .aload_n 1, 28, 0, 1, 0, 0, none, []), (28, .iload_n 3, 29, 0, 3, 0, 0, none, []), (29, .iload 4, 31, 0, 4, 0, 0, none, [])]),
  (54, [(31, .invokevirtual 78, 34, 0, 84, 4, 1, none, [(0, 4)]), (34, .ifCond .ne 6, 37, 0, 40, 0, 0, none, []), (37, .iinc 2 1, 40, 1, 2, 0, 0, none, []), (40, .iinc 4 1, 43, 1, 4, 0, 0, none, []), (43, .goto (-28), 46, 0, 15, 0, 0, none, []), (46, .iinc 3 1, 49, 1, 3, 0, 0, none, []), (49, .goto (-45), 52, 0, 4, 0, 0, none, []), (52, .iload_n 2, 53, 0, 2, 0, 0, none, []), (53, .ireturn, 54, 0, 0, 0, 0, none, [])])]
def zc_P_nodesOtherThan : z_C := z_find2 zd_P_nodesOtherThan
def zd_P_isNodeAsIn : List (Nat × List (Nat × z_I)) := [(15, [(0, .iconst 0, 1, 0, 0, 0, 0, none, []), (1, .istore 4, 3, 0, 4, 0, 0, none, []), (3, .iload 4, 5, 0, 4, 0, 0, some [0, 1, 2, 3, 4], []), (5, .iconst 4, 6, 4, 0, 0, 0, none, []), (6, .if_icmp .gt 30, 9, 0, 36, 0, 0, none, []), (9, .aload_n 0, 10, 0, 0, 0, 0, none, []), (10, .iload_n 2, 11, 0, 2, 0, 0, none, []), (11, .iload_n 3, 12, 0, 3, 0, 0, none, []), (12, .iload 4, 14, 0, 4, 0, 0, none, []), (14, .invokevirtual 82, 17, 0, 80, 4, 1, none, [(0, 4)])]),
  (34, [(17, .aload_n 1, 18, 0, 1, 0, 0, none, []), (18, .iload_n 2, 19, 0, 2, 0, 0, none, []), (19, .iload_n 3, 20, 0, 3, 0, 0, none, []), (20, .iload 4, 22, 0, 4, 0, 0, none, []), (22, .invokevirtual 82, 25, 0, 80, 4, 1, none, [(0, 4)]), (25, .if_icmp .eq 5, 28, 0, 30, 0, 0, none, []), (28, .iconst 0, 29, 0, 0, 0, 0, none, []), (29, .ireturn, 30, 0, 1, 0, 0, none, []), (30, .iinc 4 1, 33, 1, 4, 0, 0, none, []), (33, .goto (-30), 36, 0, 3, 0, 0, none, [])]),
  (38, [(36, .iconst 1, 37, 1, 0, 0, 0, none, []), (37, .ireturn, 38, 0, 1, 0, 0, none, [])])]
def zc_P_isNodeAsIn : z_C := z_find2 zd_P_isNodeAsIn
def zd_P_appendMethod : List (Nat × List (Nat × z_I)) := [(19, [(0, .aload_n 0, 1, 0, 0, 0, 0, none, []), (1, .getfield 33, 4, 0, 4, 0, 0, none, []), (4, .bipush 6, 6, 6, 0, 0, 0, none, []), (6, .if_icmp .ge 23, 9, 0, 29, 0, 0, none, []), (9, .aload_n 0, 10, 0, 0, 0, 0, none, []), (10, .getfield 9, 13, 0, 4, 2, 1, none, []), (13, .aload_n 0, 14, 0, 0, 0, 0, none, []), (14, .getfield 33, 17, 0, 4, 0, 0, none, []), (17, .iconst 0, 18, 0, 0, 0, 0, none, []), (18, .iastore, 19, 0, 0, 0, 0, none, [])]),
  (30, [(19, .aload_n 0, 20, 0, 0, 0, 0, none, []), (20, .dup, 21, 0, 0, 0, 0, none, []), (21, .getfield 33, 24, 0, 4, 0, 0, none, []), (24, .iconst 1, 25, 1, 0, 0, 0, none, []), (25, .iadd, 26, 0, 0, 0, 0, none, []), (26, .putfield 33, 29, 0, 4, 0, 4, none, []), (29, .return_, 30, 0, 0, 0, 0, none, [])])]
def zc_P_appendMethod : z_C := z_find2 zd_P_appendMethod
def zd_P_appendNode : List (Nat × List (Nat × z_I)) := [(16, [(0, .aload_n 0, 1, 0, 0, 0, 0, none, []), (1, .getfield 33, 4, 0, 4, 0, 0, none, []), (4, .iconst 1, 5, 1, 0, 0, 0, none, []), (5, .isub, 6, 0, 0, 0, 0, none, []), (6, .istore_n 3, 7, 0, 3, 0, 0, none, []), (7, .iload_n 3, 8, 0, 3, 0, 0, none, []), (8, .ifCond .lt 60, 11, 0, 68, 0, 0, none, []), (11, .aload_n 0, 12, 0, 0, 0, 0, none, []), (12, .getfield 9, 15, 0, 4, 2, 1, none, []), (15, .iload_n 3, 16, 0, 3, 0, 0, none, [])]),
  (33, [(16, .iaload, 17, 0, 0, 0, 0, none, []), (17, .bipush 8, 19, 8, 0, 0, 0, none, []), (19, .if_icmp .ge 49, 22, 0, 68, 0, 0, none, []), (22, .iload_n 3, 23, 0, 3, 0, 0, none, []), (23, .aload_n 0, 24, 0, 0, 0, 0, none, []), (24, .getfield 9, 27, 0, 4, 2, 1, none, []), (27, .iload_n 3, 28, 0, 3, 0, 0, none, []), (28, .iaload, 29, 0, 0, 0, 0, none, []), (29, .invokestatic 60, 32, 0, 42, 2, 1, none, []), (32, .istore 4, 34, 0, 4, 0, 0, none, [])]),
  (50, [(34, .aload_n 0, 35, 0, 0, 0, 0, none, []), (35, .getfield 15, 38, 0, 4, 3, 1, none, []), (38, .iload 4, 40, 0, 4, 0, 0, none, []), (40, .iload_n 1, 41, 0, 1, 0, 0, none, []), (41, .iastore, 42, 0, 0, 0, 0, none, []), (42, .aload_n 0, 43, 0, 0, 0, 0, none, []), (43, .getfield 18, 46, 0, 4, 4, 1, none, []), (46, .iload 4, 48, 0, 4, 0, 0, none, []), (48, .iload_n 2, 49, 0, 2, 0, 0, none, []), (49, .iastore, 50, 0, 0, 0, 0, none, [])]),
  (65, [(50, .aload_n 0, 51, 0, 0, 0, 0, none, []), (51, .getfield 21, 54, 0, 4, 5, 1, none, []), (54, .iload 4, 56, 0, 4, 0, 0, none, []), (56, .iconst 0, 57, 0, 0, 0, 0, none, []), (57, .iastore, 58, 0, 0, 0, 0, none, []), (58, .aload_n 0, 59, 0, 0, 0, 0, none, []), (59, .getfield 9, 62, 0, 4, 2, 1, none, []), (62, .iload_n 3, 63, 0, 3, 0, 0, none, []), (63, .dup2, 64, 0, 0, 0, 0, none, []), (64, .iaload, 65, 0, 0, 0, 0, none, [])]),
  (69, [(65, .iconst 1, 66, 1, 0, 0, 0, none, []), (66, .iadd, 67, 0, 0, 0, 0, none, []), (67, .iastore, 68, 0, 0, 0, 0, none, []), (68, .return_, 69, 0, 0, 0, 0, none, [])])]
def zc_P_appendNode : z_C := z_find2 zd_P_appendNode
def zd_P_appendNext : List (Nat × List (Nat × z_I)) := [(16, [(0, .aload_n 0, 1, 0, 0, 0, 0, none, []), (1, .getfield 33, 4, 0, 4, 0, 0, none, []), (4, .iconst 1, 5, 1, 0, 0, 0, none, []), (5, .isub, 6, 0, 0, 0, 0, none, []), (6, .istore_n 2, 7, 0, 2, 0, 0, none, []), (7, .iload_n 2, 8, 0, 2, 0, 0, none, []), (8, .ifCond .lt 68, 11, 0, 76, 0, 0, none, []), (11, .aload_n 0, 12, 0, 0, 0, 0, none, []), (12, .getfield 9, 15, 0, 4, 2, 1, none, []), (15, .iload_n 2, 16, 0, 2, 0, 0, none, [])]),
  (30, [(16, .iaload, 17, 0, 0, 0, 0, none, []), (17, .ifCond .le 59, 20, 0, 76, 0, 0, none, []), (20, .aload_n 0, 21, 0, 0, 0, 0, none, []), (21, .getfield 9, 24, 0, 4, 2, 1, none, []), (24, .iload_n 2, 25, 0, 2, 0, 0, none, []), (25, .iaload, 26, 0, 0, 0, 0, none, []), (26, .iconst 1, 27, 1, 0, 0, 0, none, []), (27, .isub, 28, 0, 0, 0, 0, none, []), (28, .istore_n 3, 29, 0, 3, 0, 0, none, []), (29, .iload_n 2, 30, 0, 2, 0, 0, none, [])]),
  (48, [(30, .iload_n 3, 31, 0, 3, 0, 0, none, []), (31, .invokestatic 60, 34, 0, 42, 2, 1, none, []), (34, .istore 4, 36, 0, 4, 0, 0, none, []), (36, .aload_n 0, 37, 0, 0, 0, 0, none, []), (37, .getfield 21, 40, 0, 4, 5, 1, none, []), (40, .iload 4, 42, 0, 4, 0, 0, none, []), (42, .iaload, 43, 0, 0, 0, 0, none, []), (43, .iconst 2, 44, 2, 0, 0, 0, none, []), (44, .if_icmp .ge 32, 47, 0, 76, 0, 0, none, []), (47, .aload_n 0, 48, 0, 0, 0, 0, none, [])]),
  (65, [(48, .getfield 24, 51, 0, 4, 6, 1, none, []), (51, .iload_n 2, 52, 0, 2, 0, 0, none, []), (52, .iload_n 3, 53, 0, 3, 0, 0, none, []), (53, .aload_n 0, 54, 0, 0, 0, 0, none, []), (54, .getfield 21, 57, 0, 4, 5, 1, none, []), (57, .iload 4, 59, 0, 4, 0, 0, none, []), (59, .iaload, 60, 0, 0, 0, 0, none, []), (60, .invokestatic 71, 63, 0, 43, 3, 1, none, []), (63, .iload_n 1, 64, 0, 1, 0, 0, none, []), (64, .iastore, 65, 0, 0, 0, 0, none, [])]),
  (77, [(65, .aload_n 0, 66, 0, 0, 0, 0, none, []), (66, .getfield 21, 69, 0, 4, 5, 1, none, []), (69, .iload 4, 71, 0, 4, 0, 0, none, []), (71, .dup2, 72, 0, 0, 0, 0, none, []), (72, .iaload, 73, 0, 0, 0, 0, none, []), (73, .iconst 1, 74, 1, 0, 0, 0, none, []), (74, .iadd, 75, 0, 0, 0, 0, none, []), (75, .iastore, 76, 0, 0, 0, 0, none, []), (76, .return_, 77, 0, 0, 0, 0, none, [])])]
def zc_P_appendNext : z_C := z_find2 zd_P_appendNext
def zd_P_appendClass : List (Nat × List (Nat × z_I)) := [(18, [(0, .aload_n 0, 1, 0, 0, 0, 0, none, []), (1, .getfield 37, 4, 0, 4, 1, 0, none, []), (4, .iconst 4, 5, 4, 0, 0, 0, none, []), (5, .if_icmp .ge 23, 8, 0, 28, 0, 0, none, []), (8, .aload_n 0, 9, 0, 0, 0, 0, none, []), (9, .getfield 27, 12, 0, 4, 7, 1, none, []), (12, .aload_n 0, 13, 0, 0, 0, 0, none, []), (13, .getfield 37, 16, 0, 4, 1, 0, none, []), (16, .iload_n 1, 17, 0, 1, 0, 0, none, []), (17, .iastore, 18, 0, 0, 0, 0, none, [])]),
  (29, [(18, .aload_n 0, 19, 0, 0, 0, 0, none, []), (19, .dup, 20, 0, 0, 0, 0, none, []), (20, .getfield 37, 23, 0, 4, 1, 0, none, []), (23, .iconst 1, 24, 1, 0, 0, 0, none, []), (24, .iadd, 25, 0, 0, 0, 0, none, []), (25, .putfield 37, 28, 0, 4, 1, 4, none, []), (28, .return_, 29, 0, 0, 0, 0, none, [])])]
def zc_P_appendClass : z_C := z_find2 zd_P_appendClass
def zd_P_leadsOnlyToNodes : List (Nat × List (Nat × z_I)) := [(14, [(0, .iconst 0, 1, 0, 0, 0, 0, none, []), (1, .istore_n 1, 2, 0, 1, 0, 0, none, []), (2, .iload_n 1, 3, 0, 1, 0, 0, some [0, 1], []), (3, .aload_n 0, 4, 0, 0, 0, 0, none, []), (4, .getfield 33, 7, 0, 4, 0, 0, none, []), (7, .if_icmp .ge 79, 10, 0, 86, 0, 0, none, []), (10, .iconst 0, 11, 0, 0, 0, 0, none, []), (11, .istore_n 2, 12, 0, 2, 0, 0, none, []), (12, .iload_n 2, 13, 0, 2, 0, 0, some [0, 1, 2], []), (13, .aload_n 0, 14, 0, 0, 0, 0, none, [])]),
  (30, [(14, .getfield 9, 17, 0, 4, 2, 1, none, []), (17, .iload_n 1, 18, 0, 1, 0, 0, none, []), (18, .iaload, 19, 0, 0, 0, 0, none, []), (19, .if_icmp .ge 61, 22, 0, 80, 0, 0, none, []), (22, .iconst 0, 23, 0, 0, 0, 0, none, []), (23, .istore_n 3, 24, 0, 3, 0, 0, none, []), (24, .iload_n 3, 25, 0, 3, 0, 0, some [0, 1, 2, 3], []), (25, .aload_n 0, 26, 0, 0, 0, 0, none, []), (26, .getfield 21, 29, 0, 4, 5, 1, none, []), (29, .iload_n 1, 30, 0, 1, 0, 0, none, [])]),
  (46, [(30, .iload_n 2, 31, 0, 2, 0, 0, none, []), (31, .invokestatic 60, 34, 0, 42, 2, 1, none, []), (34, .iaload, 35, 0, 0, 0, 0, none, []), (35, .if_icmp .ge 39, 38, 0, 74, 0, 0, none, []), (38, .aload_n 0, 39, 0, 0, 0, 0, none, []), (39, .iload_n 1, 40, 0, 1, 0, 0, none, []), (40, .iload_n 2, 41, 0, 2, 0, 0, none, []), (41, .iload_n 3, 42, 0, 3, 0, 0, none, []), (42, .invokevirtual 75, 45, 0, 75, 4, 1, none, [(0, 4)]), (45, .bipush 9, 47, 9, 0, 0, 0, none, [])]),
  (63, [(47, .if_icmp .eq 21, 50, 0, 68, 0, 0, none, []), (50, .aload_n 0, 51, 0, 0, 0, 0, none, []), (51, .iload_n 1, 52, 0, 1, 0, 0, none, []), (52, .iload_n 2, 53, 0, 2, 0, 0, none, []), (53, .iload_n 3, 54, 0, 3, 0, 0, none, []), (54, .invokevirtual 75, 57, 0, 75, 4, 1, none, [(0, 4)]), (57, .aload_n 0, 58, 0, 0, 0, 0, none, []), (58, .getfield 9, 61, 0, 4, 2, 1, none, []), (61, .iload_n 1, 62, 0, 1, 0, 0, none, []), (62, .iaload, 63, 0, 0, 0, 0, none, [])]),
  (87, [(63, .if_icmp .lt 5, 66, 0, 68, 0, 0, none, []), (66, .iconst 0, 67, 0, 0, 0, 0, none, []), (67, .ireturn, 68, 0, 1, 0, 0, none, []), (68, .iinc 3 1, 71, 1, 3, 0, 0, none, []), (71, .goto (-47), 74, 0, 24, 0, 0, none, []), (74, .iinc 2 1, 77, 1, 2, 0, 0, none, []), (77, .goto (-65), 80, 0, 12, 0, 0, none, []), (80, .iinc 1 1, 83, 1, 1, 0, 0, none, []), (83, .goto (-81), 86, 0, 2, 0, 0, none, []), (86, .iconst 1, 87, 1, 0, 0, 0, none, [])]),
  (88, [(87, .ireturn, 88, 0, 1, 0, 0, none, [])])]
def zc_P_leadsOnlyToNodes : z_C := z_find2 zd_P_leadsOnlyToNodes
def zd_Ts_isThere : List (Nat × List (Nat × z_I)) := [(18, [(0, .iload_n 1, 1, 0, 1, 0, 0, none, []), (1, .ifCond .lt 15, 4, 0, 16, 0, 0, none, []), (4, .iload_n 1, 5, 0, 1, 0, 0, none, []), (5, .aload_n 0, 6, 0, 0, 0, 0, none, []), (6, .getfield 21, 9, 0, 5, 0, 0, none, []), (9, .if_icmp .ge 7, 12, 0, 16, 0, 0, none, []), (12, .iconst 1, 13, 1, 0, 0, 0, none, []), (13, .goto 4, 16, 0, 17, 0, 0, none, []), (16, .iconst 0, 17, 0, 0, 0, 0, none, []), (17, .ireturn, 18, 0, 1, 0, 0, none, [])])]
def zc_Ts_isThere : z_C := z_find2 zd_Ts_isThere
def zd_Ts_isFull : List (Nat × List (Nat × z_I)) := [(15, [(0, .aload_n 0, 1, 0, 0, 0, 0, none, []), (1, .getfield 21, 4, 0, 5, 0, 0, none, []), (4, .bipush 8, 6, 8, 0, 0, 0, none, []), (6, .if_icmp .lt 7, 9, 0, 13, 0, 0, none, []), (9, .iconst 1, 10, 1, 0, 0, 0, none, []), (10, .goto 4, 13, 0, 14, 0, 0, none, []), (13, .iconst 0, 14, 0, 0, 0, 0, none, []), (14, .ireturn, 15, 0, 1, 0, 0, none, [])])]
def zc_Ts_isFull : z_C := z_find2 zd_Ts_isFull
def zd_Ts_becomeAs : List (Nat × List (Nat × z_I)) := [(18, [(0, .aload_n 0, 1, 0, 0, 0, 0, none, []), (1, .aload_n 1, 2, 0, 1, 0, 0, none, []), (2, .getfield 21, 5, 0, 5, 0, 0, none, []), (5, .putfield 21, 8, 0, 5, 0, 4, none, []), (8, .aload_n 1, 9, 0, 1, 0, 0, none, []), (9, .getfield 9, 12, 0, 5, 1, 1, none, []), (12, .iconst 0, 13, 0, 0, 0, 0, none, []), (13, .aload_n 0, 14, 0, 0, 0, 0, none, []), (14, .getfield 9, 17, 0, 5, 1, 1, none, []), (17, .iconst 0, 18, 0, 0, 0, 0, none, [])]),
  (36, [(18, .bipush 8, 20, 8, 0, 0, 0, none, []), (20, .invokestatic 25, 23, 0, 900, 5, 0, none, []), (23, .aload_n 1, 24, 0, 1, 0, 0, none, []), (24, .getfield 15, 27, 0, 5, 2, 1, none, []), (27, .iconst 0, 28, 0, 0, 0, 0, none, []), (28, .aload_n 0, 29, 0, 0, 0, 0, none, []), (29, .getfield 15, 32, 0, 5, 2, 1, none, []), (32, .iconst 0, 33, 0, 0, 0, 0, none, []), (33, .bipush 8, 35, 8, 0, 0, 0, none, []), (35, .invokestatic 25, 38, 0, 900, 5, 0, none, [])]),
  (54, [(38, .aload_n 1, 39, 0, 1, 0, 0, none, []), (39, .getfield 18, 42, 0, 5, 3, 1, none, []), (42, .iconst 0, 43, 0, 0, 0, 0, none, []), (43, .aload_n 0, 44, 0, 0, 0, 0, none, []), (44, .getfield 18, 47, 0, 5, 3, 1, none, []), (47, .iconst 0, 48, 0, 0, 0, 0, none, []), (48, .bipush 8, 50, 8, 0, 0, 0, none, []), (50, .invokestatic 25, 53, 0, 900, 5, 0, none, []), (53, .return_, 54, 0, 0, 0, 0, none, [])])]
def zc_Ts_becomeAs : z_C := z_find2 zd_Ts_becomeAs
def zd_Ts_append : List (Nat × List (Nat × z_I)) := [(18, [(0, .aload_n 0, 1, 0, 0, 0, 0, none, []), (1, .invokevirtual 31, 4, 0, 91, 1, 1, none, [(0, 5)]), (4, .ifCond .ne 43, 7, 0, 47, 0, 0, none, []), (7, .aload_n 0, 8, 0, 0, 0, 0, none, []), (8, .getfield 9, 11, 0, 5, 1, 1, none, []), (11, .aload_n 0, 12, 0, 0, 0, 0, none, []), (12, .getfield 21, 15, 0, 5, 0, 0, none, []), (15, .iload_n 1, 16, 0, 1, 0, 0, none, []), (16, .iastore, 17, 0, 0, 0, 0, none, []), (17, .aload_n 0, 18, 0, 0, 0, 0, none, [])]),
  (36, [(18, .getfield 15, 21, 0, 5, 2, 1, none, []), (21, .aload_n 0, 22, 0, 0, 0, 0, none, []), (22, .getfield 21, 25, 0, 5, 0, 0, none, []), (25, .iload_n 2, 26, 0, 2, 0, 0, none, []), (26, .iastore, 27, 0, 0, 0, 0, none, []), (27, .aload_n 0, 28, 0, 0, 0, 0, none, []), (28, .getfield 18, 31, 0, 5, 3, 1, none, []), (31, .aload_n 0, 32, 0, 0, 0, 0, none, []), (32, .getfield 21, 35, 0, 5, 0, 0, none, []), (35, .iload_n 3, 36, 0, 3, 0, 0, none, [])]),
  (48, [(36, .iastore, 37, 0, 0, 0, 0, none, []), (37, .aload_n 0, 38, 0, 0, 0, 0, none, []), (38, .dup, 39, 0, 0, 0, 0, none, []), (39, .getfield 21, 42, 0, 5, 0, 0, none, []), (42, .iconst 1, 43, 1, 0, 0, 0, none, []), (43, .iadd, 44, 0, 0, 0, 0, none, []), (44, .putfield 21, 47, 0, 5, 0, 4, none, []), (47, .return_, 48, 0, 0, 0, 0, none, [])])]
def zc_Ts_append : z_C := z_find2 zd_Ts_append
def zd_Ts_remove : List (Nat × List (Nat × z_I)) := [(14, [(0, .iload_n 1, 1, 0, 1, 0, 0, none, []), (1, .istore_n 2, 2, 0, 2, 0, 0, none, []), (2, .iload_n 2, 3, 0, 2, 0, 0, some [0, 2], []), (3, .iconst 1, 4, 1, 0, 0, 0, none, []), (4, .iadd, 5, 0, 0, 0, 0, none, []), (5, .aload_n 0, 6, 0, 0, 0, 0, none, []), (6, .getfield 21, 9, 0, 5, 0, 0, none, []), (9, .if_icmp .ge 51, 12, 0, 60, 0, 0, none, []), (12, .aload_n 0, 13, 0, 0, 0, 0, none, []), (13, .getfield 9, 16, 0, 5, 1, 1, none, [])]),
  (28, [(16, .iload_n 2, 17, 0, 2, 0, 0, none, []), (17, .aload_n 0, 18, 0, 0, 0, 0, none, []), (18, .getfield 9, 21, 0, 5, 1, 1, none, []), (21, .iload_n 2, 22, 0, 2, 0, 0, none, []), (22, .iconst 1, 23, 1, 0, 0, 0, none, []), (23, .iadd, 24, 0, 0, 0, 0, none, []), (24, .iaload, 25, 0, 0, 0, 0, none, []), (25, .iastore, 26, 0, 0, 0, 0, none, []), (26, .aload_n 0, 27, 0, 0, 0, 0, none, []), (27, .getfield 15, 30, 0, 5, 2, 1, none, [])]),
  (42, [(30, .iload_n 2, 31, 0, 2, 0, 0, none, []), (31, .aload_n 0, 32, 0, 0, 0, 0, none, []), (32, .getfield 15, 35, 0, 5, 2, 1, none, []), (35, .iload_n 2, 36, 0, 2, 0, 0, none, []), (36, .iconst 1, 37, 1, 0, 0, 0, none, []), (37, .iadd, 38, 0, 0, 0, 0, none, []), (38, .iaload, 39, 0, 0, 0, 0, none, []), (39, .iastore, 40, 0, 0, 0, 0, none, []), (40, .aload_n 0, 41, 0, 0, 0, 0, none, []), (41, .getfield 18, 44, 0, 5, 3, 1, none, [])]),
  (58, [(44, .iload_n 2, 45, 0, 2, 0, 0, none, []), (45, .aload_n 0, 46, 0, 0, 0, 0, none, []), (46, .getfield 18, 49, 0, 5, 3, 1, none, []), (49, .iload_n 2, 50, 0, 2, 0, 0, none, []), (50, .iconst 1, 51, 1, 0, 0, 0, none, []), (51, .iadd, 52, 0, 0, 0, 0, none, []), (52, .iaload, 53, 0, 0, 0, 0, none, []), (53, .iastore, 54, 0, 0, 0, 0, none, []), (54, .iinc 2 1, 57, 1, 2, 0, 0, none, []), (57, .goto (-55), 60, 0, 2, 0, 0, none, [])]),
  (71, [(60, .aload_n 0, 61, 0, 0, 0, 0, none, []), (61, .dup, 62, 0, 0, 0, 0, none, []), (62, .getfield 21, 65, 0, 5, 0, 0, none, []), (65, .iconst 1, 66, 1, 0, 0, 0, none, []), (66, .isub, 67, 0, 0, 0, 0, none, []), (67, .putfield 21, 70, 0, 5, 0, 4, none, []), (70, .return_, 71, 0, 0, 0, 0, none, [])])]
def zc_Ts_remove : z_C := z_find2 zd_Ts_remove
def zd_Ru_begin : List (Nat × List (Nat × z_I)) := [(16, [(0, .aload_n 0, 1, 0, 0, 0, 0, none, []), (1, .aload_n 1, 2, 0, 1, 0, 0, none, []), (2, .putfield 18, 5, 0, 6, 3, 2, none, []), (5, .aload_n 0, 6, 0, 0, 0, 0, none, []), (6, .iload_n 2, 7, 0, 2, 0, 0, none, []), (7, .putfield 22, 10, 0, 6, 4, 4, none, []), (10, .aload_n 0, 11, 0, 0, 0, 0, none, []), (11, .iload_n 3, 12, 0, 3, 0, 0, none, []), (12, .putfield 26, 15, 0, 6, 5, 4, none, []), (15, .aload_n 0, 16, 0, 0, 0, 0, none, [])]),
  (32, [(16, .iconst 0, 17, 0, 0, 0, 0, none, []), (17, .putfield 29, 20, 0, 6, 0, 4, none, []), (20, .aload_n 0, 21, 0, 0, 0, 0, none, []), (21, .iconst 0, 22, 0, 0, 0, 0, none, []), (22, .putfield 32, 25, 0, 6, 1, 4, none, []), (25, .aload_n 0, 26, 0, 0, 0, 0, none, []), (26, .iconst 0, 27, 0, 0, 0, 0, none, []), (27, .putfield 35, 30, 0, 6, 6, 4, none, []), (30, .aload_n 0, 31, 0, 0, 0, 0, none, []), (31, .iconst 0, 32, 0, 0, 0, 0, none, [])]),
  (54, [(32, .putfield 38, 35, 0, 6, 7, 3, none, []), (35, .aload_n 0, 36, 0, 0, 0, 0, none, []), (36, .getfield 12, 39, 0, 6, 2, 1, none, []), (39, .invokevirtual 42, 42, 0, 101, 1, 0, none, [(0, 7)]), (42, .aload_n 0, 43, 0, 0, 0, 0, none, []), (43, .getfield 18, 46, 0, 6, 3, 2, none, []), (46, .getfield 45, 49, 0, 4, 0, 0, none, []), (49, .ifCond .le 9, 52, 0, 58, 0, 0, none, []), (52, .aload_n 0, 53, 0, 0, 0, 0, none, []), (53, .iconst 0, 54, 0, 0, 0, 0, none, [])]),
  (59, [(54, .iconst 0, 55, 0, 0, 0, 0, none, []), (55, .invokevirtual 50, 58, 0, 96, 3, 0, none, [(0, 6)]), (58, .return_, 59, 0, 0, 0, 0, none, [])])]
def zc_Ru_begin : z_C := z_find2 zd_Ru_begin
def zd_Ru_enter : List (Nat × List (Nat × z_I)) := [(14, [(0, .aload_n 0, 1, 0, 0, 0, 0, none, []), (1, .bipush 31, 3, 31, 0, 0, 0, none, []), (3, .aload_n 0, 4, 0, 0, 0, 0, none, []), (4, .getfield 29, 7, 0, 6, 0, 0, none, []), (7, .imul, 8, 0, 0, 0, 0, none, []), (8, .iload_n 1, 9, 0, 1, 0, 0, none, []), (9, .iadd, 10, 0, 0, 0, 0, none, []), (10, .bipush 101, 12, 101, 0, 0, 0, none, []), (12, .iadd, 13, 0, 0, 0, 0, none, []), (13, .putfield 29, 16, 0, 6, 0, 4, none, [])]),
  (35, [(16, .aload_n 0, 17, 0, 0, 0, 0, none, []), (17, .getfield 12, 20, 0, 6, 2, 1, none, []), (20, .bipush 100, 22, 100, 0, 0, 0, none, []), (22, .iload_n 1, 23, 0, 1, 0, 0, none, []), (23, .iadd, 24, 0, 0, 0, 0, none, []), (24, .invokevirtual 54, 27, 0, 103, 2, 0, none, [(0, 7)]), (27, .aload_n 0, 28, 0, 0, 0, 0, none, []), (28, .getfield 18, 31, 0, 6, 3, 2, none, []), (31, .getfield 58, 34, 0, 4, 2, 1, none, []), (34, .iload_n 1, 35, 0, 1, 0, 0, none, [])]),
  (52, [(35, .iaload, 36, 0, 0, 0, 0, none, []), (36, .ifCond .le 7, 39, 0, 43, 0, 0, none, []), (39, .iconst 0, 40, 0, 0, 0, 0, none, []), (40, .goto 5, 43, 0, 45, 0, 0, none, []), (43, .bipush 9, 45, 9, 0, 0, 0, none, []), (45, .istore_n 3, 46, 0, 3, 0, 0, none, []), (46, .iconst 0, 47, 0, 0, 0, 0, none, []), (47, .istore 4, 49, 0, 4, 0, 0, none, []), (49, .iload 4, 51, 0, 4, 0, 0, some [0, 1, 2, 3, 4], []), (51, .bipush 60, 53, 60, 0, 0, 0, none, [])]),
  (70, [(53, .if_icmp .gt 23, 56, 0, 76, 0, 0, none, []), (56, .iload_n 3, 57, 0, 3, 0, 0, none, []), (57, .bipush 9, 59, 9, 0, 0, 0, none, []), (59, .if_icmp .eq 17, 62, 0, 76, 0, 0, none, []), (62, .aload_n 0, 63, 0, 0, 0, 0, none, []), (63, .iload_n 1, 64, 0, 1, 0, 0, none, []), (64, .iload_n 3, 65, 0, 3, 0, 0, none, []), (65, .iload_n 2, 66, 0, 2, 0, 0, none, []), (66, .invokevirtual 62, 69, 0, 97, 4, 1, none, [(0, 6)]), (69, .istore_n 3, 70, 0, 3, 0, 0, none, [])]),
  (77, [(70, .iinc 4 1, 73, 1, 4, 0, 0, none, []), (73, .goto (-24), 76, 0, 49, 0, 0, none, []), (76, .return_, 77, 0, 0, 0, 0, none, [])])]
def zc_Ru_enter : z_C := z_find2 zd_Ru_enter
def zd_Ru_visit : List (Nat × List (Nat × z_I)) := [(18, [(0, .aload_n 0, 1, 0, 0, 0, 0, none, []), (1, .getfield 32, 4, 0, 6, 1, 0, none, []), (4, .bipush 60, 6, 60, 0, 0, 0, none, []), (6, .if_icmp .lt 11, 9, 0, 17, 0, 0, none, []), (9, .aload_n 0, 10, 0, 0, 0, 0, none, []), (10, .iconst 1, 11, 1, 0, 0, 0, none, []), (11, .putfield 38, 14, 0, 6, 7, 3, none, []), (14, .bipush 9, 16, 9, 0, 0, 0, none, []), (16, .ireturn, 17, 0, 0, 0, 0, none, []), (17, .aload_n 0, 18, 0, 0, 0, 0, none, [])]),
  (35, [(18, .dup, 19, 0, 0, 0, 0, none, []), (19, .getfield 32, 22, 0, 6, 1, 0, none, []), (22, .iconst 1, 23, 1, 0, 0, 0, none, []), (23, .iadd, 24, 0, 0, 0, 0, none, []), (24, .putfield 32, 27, 0, 6, 1, 4, none, []), (27, .iload_n 1, 28, 0, 1, 0, 0, none, []), (28, .iload_n 2, 29, 0, 2, 0, 0, none, []), (29, .invokestatic 66, 32, 0, 42, 2, 1, none, []), (32, .istore 4, 34, 0, 4, 0, 0, none, []), (34, .aload_n 0, 35, 0, 0, 0, 0, none, [])]),
  (56, [(35, .getfield 18, 38, 0, 6, 3, 2, none, []), (38, .getfield 70, 41, 0, 4, 4, 1, none, []), (41, .iload 4, 43, 0, 4, 0, 0, none, []), (43, .iaload, 44, 0, 0, 0, 0, none, []), (44, .istore 5, 46, 0, 5, 0, 0, none, []), (46, .aload_n 0, 47, 0, 0, 0, 0, none, []), (47, .getfield 18, 50, 0, 6, 3, 2, none, []), (50, .getfield 73, 53, 0, 4, 3, 1, none, []), (53, .iload 4, 55, 0, 4, 0, 0, none, []), (55, .iaload, 56, 0, 0, 0, 0, none, [])]),
  (72, [(56, .iconst 1, 57, 1, 0, 0, 0, none, []), (57, .if_icmp .ne 30, 60, 0, 87, 0, 0, none, []), (60, .aload_n 0, 61, 0, 0, 0, 0, none, []), (61, .bipush 31, 63, 31, 0, 0, 0, none, []), (63, .aload_n 0, 64, 0, 0, 0, 0, none, []), (64, .getfield 29, 67, 0, 6, 0, 0, none, []), (67, .imul, 68, 0, 0, 0, 0, none, []), (68, .iload 5, 70, 0, 5, 0, 0, none, []), (70, .iadd, 71, 0, 0, 0, 0, none, []), (71, .bipush 11, 73, 11, 0, 0, 0, none, [])]),
  (91, [(73, .iadd, 74, 0, 0, 0, 0, none, []), (74, .putfield 29, 77, 0, 6, 0, 4, none, []), (77, .aload_n 0, 78, 0, 0, 0, 0, none, []), (78, .iload 5, 80, 0, 5, 0, 0, none, []), (80, .iload_n 3, 81, 0, 3, 0, 0, none, []), (81, .invokevirtual 76, 84, 0, 98, 3, 0, none, [(0, 6)]), (84, .goto 19, 87, 0, 103, 0, 0, none, []), (87, .aload_n 0, 88, 0, 0, 0, 0, none, []), (88, .bipush 31, 90, 31, 0, 0, 0, none, []), (90, .aload_n 0, 91, 0, 0, 0, 0, none, [])]),
  (108, [(91, .getfield 29, 94, 0, 6, 0, 0, none, []), (94, .imul, 95, 0, 0, 0, 0, none, []), (95, .iload 5, 97, 0, 5, 0, 0, none, []), (97, .iadd, 98, 0, 0, 0, 0, none, []), (98, .iconst 1, 99, 1, 0, 0, 0, none, []), (99, .iadd, 100, 0, 0, 0, 0, none, []), (100, .putfield 29, 103, 0, 6, 0, 4, none, []), (103, .aload_n 0, 104, 0, 0, 0, 0, some [0, 1, 2, 4], []), (104, .getfield 38, 107, 0, 6, 7, 0, none, []), (107, .ifCond .eq 8, 110, 0, 115, 0, 0, none, [])]),
  (128, [(110, .bipush 9, 112, 9, 0, 0, 0, none, []), (112, .goto 19, 115, 0, 131, 0, 0, none, []), (115, .aload_n 0, 116, 0, 0, 0, 0, none, []), (116, .iload_n 1, 117, 0, 1, 0, 0, none, []), (117, .iload_n 2, 118, 0, 2, 0, 0, none, []), (118, .aload_n 0, 119, 0, 0, 0, 0, none, []), (119, .getfield 18, 122, 0, 6, 3, 2, none, []), (122, .getfield 79, 125, 0, 4, 5, 1, none, []), (125, .iload 4, 127, 0, 4, 0, 0, none, []), (127, .iaload, 128, 0, 0, 0, 0, none, [])]),
  (132, [(128, .invokevirtual 82, 131, 0, 99, 4, 1, none, [(0, 6)]), (131, .ireturn, 132, 0, 0, 0, 0, none, [])])]
def zc_Ru_visit : z_C := z_find2 zd_Ru_visit
def zd_Ru_enterMeant : List (Nat × List (Nat × z_I)) := [(20, [(0, .aload_n 0, 1, 0, 0, 0, 0, none, []), (1, .getfield 12, 4, 0, 6, 2, 1, none, []), (4, .aload_n 0, 5, 0, 0, 0, 0, none, []), (5, .getfield 22, 8, 0, 6, 4, 0, none, []), (8, .iload_n 1, 9, 0, 1, 0, 0, none, []), (9, .invokestatic 85, 12, 0, 44, 2, 1, none, []), (12, .invokevirtual 54, 15, 0, 103, 2, 0, none, [(0, 7)]), (15, .aload_n 0, 16, 0, 0, 0, 0, none, []), (16, .getfield 18, 19, 0, 6, 3, 2, none, []), (19, .aload_n 0, 20, 0, 0, 0, 0, none, [])]),
  (37, [(20, .getfield 22, 23, 0, 6, 4, 0, none, []), (23, .iload_n 1, 24, 0, 1, 0, 0, none, []), (24, .invokevirtual 88, 27, 0, 79, 3, 1, none, [(0, 4)]), (27, .istore_n 3, 28, 0, 3, 0, 0, none, []), (28, .iload_n 3, 29, 0, 3, 0, 0, none, []), (29, .bipush (-4), 31, (-4), 0, 0, 0, none, []), (31, .if_icmp .eq 16, 34, 0, 47, 0, 0, none, []), (34, .iload_n 2, 35, 0, 2, 0, 0, none, []), (35, .iconst 4, 36, 4, 0, 0, 0, none, []), (36, .if_icmp .ge 11, 39, 0, 47, 0, 0, none, [])]),
  (48, [(39, .aload_n 0, 40, 0, 0, 0, 0, none, []), (40, .iload_n 3, 41, 0, 3, 0, 0, none, []), (41, .iload_n 2, 42, 0, 2, 0, 0, none, []), (42, .iconst 1, 43, 1, 0, 0, 0, none, []), (43, .iadd, 44, 0, 0, 0, 0, none, []), (44, .invokevirtual 50, 47, 0, 96, 3, 0, none, [(0, 6)]), (47, .return_, 48, 0, 0, 0, 0, none, [])])]
def zc_Ru_enterMeant : z_C := z_find2 zd_Ru_enterMeant
def zd_Ru_goOn : List (Nat × List (Nat × z_I)) := [(15, [(0, .iload_n 3, 1, 0, 3, 0, 0, none, []), (1, .ifCond .ne 6, 4, 0, 7, 0, 0, none, []), (4, .bipush 9, 6, 9, 0, 0, 0, none, []), (6, .ireturn, 7, 0, 0, 0, 0, none, []), (7, .iload_n 1, 8, 0, 1, 0, 0, none, []), (8, .iload_n 2, 9, 0, 2, 0, 0, none, []), (9, .iload_n 3, 10, 0, 3, 0, 0, none, []), (10, .iconst 1, 11, 1, 0, 0, 0, none, []), (11, .if_icmp .ne 7, 14, 0, 18, 0, 0, none, []), (14, .iconst 0, 15, 0, 0, 0, 0, none, [])]),
  (37, [(15, .goto 7, 18, 0, 22, 0, 0, none, []), (18, .aload_n 0, 19, 0, 0, 0, 0, none, []), (19, .invokevirtual 91, 22, 0, 100, 1, 1, none, [(0, 6)]), (22, .invokestatic 95, 25, 0, 43, 3, 1, some [0], []), (25, .istore 4, 27, 0, 4, 0, 0, none, []), (27, .aload_n 0, 28, 0, 0, 0, 0, none, []), (28, .getfield 12, 31, 0, 6, 2, 1, none, []), (31, .iload 4, 33, 0, 4, 0, 0, none, []), (33, .invokevirtual 54, 36, 0, 103, 2, 0, none, [(0, 7)]), (36, .aload_n 0, 37, 0, 0, 0, 0, none, [])]),
  (47, [(37, .getfield 18, 40, 0, 6, 3, 2, none, []), (40, .getfield 98, 43, 0, 4, 6, 1, none, []), (43, .iload 4, 45, 0, 4, 0, 0, none, []), (45, .iaload, 46, 0, 0, 0, 0, none, []), (46, .ireturn, 47, 0, 0, 0, 0, none, [])])]
def zc_Ru_goOn : z_C := z_find2 zd_Ru_goOn
def zd_Ru_decide : List (Nat × List (Nat × z_I)) := [(15, [(0, .aload_n 0, 1, 0, 0, 0, 0, none, []), (1, .getfield 26, 4, 0, 6, 5, 0, none, []), (4, .aload_n 0, 5, 0, 0, 0, 0, none, []), (5, .getfield 35, 8, 0, 6, 6, 0, none, []), (8, .bipush 7, 10, 7, 0, 0, 0, none, []), (10, .iand, 11, 0, 0, 0, 0, none, []), (11, .ishr, 12, 0, 0, 0, 0, none, []), (12, .iconst 1, 13, 1, 0, 0, 0, none, []), (13, .iand, 14, 0, 0, 0, 0, none, []), (14, .istore_n 1, 15, 0, 1, 0, 0, none, [])]),
  (27, [(15, .aload_n 0, 16, 0, 0, 0, 0, none, []), (16, .dup, 17, 0, 0, 0, 0, none, []), (17, .getfield 35, 20, 0, 6, 6, 0, none, []), (20, .iconst 1, 21, 1, 0, 0, 0, none, []), (21, .iadd, 22, 0, 0, 0, 0, none, []), (22, .putfield 35, 25, 0, 6, 6, 4, none, []), (25, .iload_n 1, 26, 0, 1, 0, 0, none, []), (26, .ireturn, 27, 0, 0, 0, 0, none, [])])]
def zc_Ru_decide : z_C := z_find2 zd_Ru_decide
def zd_Es_clear : List (Nat × List (Nat × z_I)) := [(9, [(0, .aload_n 0, 1, 0, 0, 0, 0, none, []), (1, .getfield 11, 4, 0, 7, 0, 1, none, []), (4, .lconst 0, 5, 0, 0, 0, 0, none, []), (5, .invokestatic 15, 8, 0, 903, 2, 0, none, []), (8, .return_, 9, 0, 0, 0, 0, none, [])])]
def zc_Es_clear : z_C := z_find2 zd_Es_clear
def zd_Es_becomeAs : List (Nat × List (Nat × z_I)) := [(15, [(0, .aload_n 1, 1, 0, 1, 0, 0, none, []), (1, .getfield 11, 4, 0, 7, 0, 1, none, []), (4, .iconst 0, 5, 0, 0, 0, 0, none, []), (5, .aload_n 0, 6, 0, 0, 0, 0, none, []), (6, .getfield 11, 9, 0, 7, 0, 1, none, []), (9, .iconst 0, 10, 0, 0, 0, 0, none, []), (10, .iconst 4, 11, 4, 0, 0, 0, none, []), (11, .invokestatic 21, 14, 0, 901, 5, 0, none, []), (14, .return_, 15, 0, 0, 0, 0, none, [])])]
def zc_Es_becomeAs : z_C := z_find2 zd_Es_becomeAs
def zd_Es_put : List (Nat × List (Nat × z_I)) := [(19, [(0, .iload_n 1, 1, 0, 1, 0, 0, none, []), (1, .ifCond .lt 28, 4, 0, 29, 0, 0, none, []), (4, .iload_n 1, 5, 0, 1, 0, 0, none, []), (5, .sipush 216, 8, 216, 0, 0, 0, none, []), (8, .if_icmp .ge 21, 11, 0, 29, 0, 0, none, []), (11, .aload_n 0, 12, 0, 0, 0, 0, none, []), (12, .getfield 11, 15, 0, 7, 0, 1, none, []), (15, .iload_n 1, 16, 0, 1, 0, 0, none, []), (16, .bipush 64, 18, 64, 0, 0, 0, none, []), (18, .idiv, 19, 0, 0, 0, 0, none, [])]),
  (30, [(19, .dup2, 20, 0, 0, 0, 0, none, []), (20, .laload, 21, 0, 0, 0, 0, none, []), (21, .lconst 1, 22, 1, 0, 0, 0, none, []), (22, .iload_n 1, 23, 0, 1, 0, 0, none, []), (23, .bipush 64, 25, 64, 0, 0, 0, none, []), (25, .irem, 26, 0, 0, 0, 0, none, []), (26, .lshl, 27, 0, 0, 0, 0, none, []), (27, .lor, 28, 0, 0, 0, 0, none, []), (28, .lastore, 29, 0, 0, 0, 0, none, []), (29, .return_, 30, 0, 0, 0, 0, none, [])])]
def zc_Es_put : z_C := z_find2 zd_Es_put
def zd_Es_putAll : List (Nat × List (Nat × z_I)) := [(14, [(0, .iconst 0, 1, 0, 0, 0, 0, none, []), (1, .istore_n 2, 2, 0, 2, 0, 0, none, []), (2, .iload_n 2, 3, 0, 2, 0, 0, some [0, 1, 2], []), (3, .iconst 4, 4, 4, 0, 0, 0, none, []), (4, .if_icmp .ge 24, 7, 0, 28, 0, 0, none, []), (7, .aload_n 0, 8, 0, 0, 0, 0, none, []), (8, .getfield 11, 11, 0, 7, 0, 1, none, []), (11, .iload_n 2, 12, 0, 2, 0, 0, none, []), (12, .dup2, 13, 0, 0, 0, 0, none, []), (13, .laload, 14, 0, 0, 0, 0, none, [])]),
  (29, [(14, .aload_n 1, 15, 0, 1, 0, 0, none, []), (15, .getfield 11, 18, 0, 7, 0, 1, none, []), (18, .iload_n 2, 19, 0, 2, 0, 0, none, []), (19, .laload, 20, 0, 0, 0, 0, none, []), (20, .lor, 21, 0, 0, 0, 0, none, []), (21, .lastore, 22, 0, 0, 0, 0, none, []), (22, .iinc 2 1, 25, 1, 2, 0, 0, none, []), (25, .goto (-23), 28, 0, 2, 0, 0, none, []), (28, .return_, 29, 0, 0, 0, 0, none, [])])]
def zc_Es_putAll : z_C := z_find2 zd_Es_putAll
def zd_Es_takeOut : List (Nat × List (Nat × z_I)) := [(14, [(0, .iconst 0, 1, 0, 0, 0, 0, none, []), (1, .istore_n 2, 2, 0, 2, 0, 0, none, []), (2, .iload_n 2, 3, 0, 2, 0, 0, some [0, 1, 2], []), (3, .iconst 4, 4, 4, 0, 0, 0, none, []), (4, .if_icmp .ge 28, 7, 0, 32, 0, 0, none, []), (7, .aload_n 0, 8, 0, 0, 0, 0, none, []), (8, .getfield 11, 11, 0, 7, 0, 1, none, []), (11, .iload_n 2, 12, 0, 2, 0, 0, none, []), (12, .dup2, 13, 0, 0, 0, 0, none, []), (13, .laload, 14, 0, 0, 0, 0, none, [])]),
  (30, [(14, .aload_n 1, 15, 0, 1, 0, 0, none, []), (15, .getfield 11, 18, 0, 7, 0, 1, none, []), (18, .iload_n 2, 19, 0, 2, 0, 0, none, []), (19, .laload, 20, 0, 0, 0, 0, none, []), (20, .ldc2_w 27, 23, (-1), 0, 0, 0, none, []), (23, .lxor, 24, 0, 0, 0, 0, none, []), (24, .land, 25, 0, 0, 0, 0, none, []), (25, .lastore, 26, 0, 0, 0, 0, none, []), (26, .iinc 2 1, 29, 1, 2, 0, 0, none, []), (29, .goto (-27), 32, 0, 2, 0, 0, none, [])]),
  (33, [(32, .return_, 33, 0, 0, 0, 0, none, [])])]
def zc_Es_takeOut : z_C := z_find2 zd_Es_takeOut
def zd_Es_holds : List (Nat × List (Nat × z_I)) := [(19, [(0, .iload_n 1, 1, 0, 1, 0, 0, none, []), (1, .ifCond .lt 30, 4, 0, 31, 0, 0, none, []), (4, .iload_n 1, 5, 0, 1, 0, 0, none, []), (5, .sipush 216, 8, 216, 0, 0, 0, none, []), (8, .if_icmp .ge 23, 11, 0, 31, 0, 0, none, []), (11, .aload_n 0, 12, 0, 0, 0, 0, none, []), (12, .getfield 11, 15, 0, 7, 0, 1, none, []), (15, .iload_n 1, 16, 0, 1, 0, 0, none, []), (16, .bipush 64, 18, 64, 0, 0, 0, none, []), (18, .idiv, 19, 0, 0, 0, 0, none, [])]),
  (32, [(19, .laload, 20, 0, 0, 0, 0, none, []), (20, .iload_n 1, 21, 0, 1, 0, 0, none, []), (21, .bipush 64, 23, 64, 0, 0, 0, none, []), (23, .irem, 24, 0, 0, 0, 0, none, []), (24, .lushr, 25, 0, 0, 0, 0, none, []), (25, .lconst 1, 26, 1, 0, 0, 0, none, []), (26, .land, 27, 0, 0, 0, 0, none, []), (27, .l2i, 28, 0, 0, 0, 0, none, []), (28, .goto 4, 31, 0, 32, 0, 0, none, []), (31, .iconst 0, 32, 0, 0, 0, 0, none, [])]),
  (33, [(32, .ireturn, 33, 0, 0, 0, 0, none, [])])]
def zc_Es_holds : z_C := z_find2 zd_Es_holds
def zd_Es_size : List (Nat × List (Nat × z_I)) := [(6, [(0, .aload_n 0, 1, 0, 0, 0, 0, none, []), (1, .aload_n 0, 2, 0, 0, 0, 0, none, []), (2, .invokevirtual 29, 5, 0, 108, 2, 1, none, [(0, 7)]), (5, .ireturn, 6, 0, 0, 0, 0, none, [])])]
def zc_Es_size : z_C := z_find2 zd_Es_size
def zd_Es_sizeWithin : List (Nat × List (Nat × z_I)) := [(12, [(0, .iconst 0, 1, 0, 0, 0, 0, none, []), (1, .istore_n 2, 2, 0, 2, 0, 0, none, []), (2, .iconst 0, 3, 0, 0, 0, 0, none, []), (3, .istore_n 3, 4, 0, 3, 0, 0, none, []), (4, .iload_n 3, 5, 0, 3, 0, 0, some [0, 1, 2, 3], []), (5, .iconst 4, 6, 4, 0, 0, 0, none, []), (6, .if_icmp .ge 28, 9, 0, 34, 0, 0, none, []), (9, .iload_n 2, 10, 0, 2, 0, 0, none, []), (10, .aload_n 0, 11, 0, 0, 0, 0, none, []), (11, .getfield 11, 14, 0, 7, 0, 1, none, [])]),
  (28, [(14, .iload_n 3, 15, 0, 3, 0, 0, none, []), (15, .laload, 16, 0, 0, 0, 0, none, []), (16, .aload_n 1, 17, 0, 1, 0, 0, none, []), (17, .getfield 11, 20, 0, 7, 0, 1, none, []), (20, .iload_n 3, 21, 0, 3, 0, 0, none, []), (21, .laload, 22, 0, 0, 0, 0, none, []), (22, .land, 23, 0, 0, 0, 0, none, []), (23, .invokestatic 33, 26, 0, 906, 1, 1, none, []), (26, .iadd, 27, 0, 0, 0, 0, none, []), (27, .istore_n 2, 28, 0, 2, 0, 0, none, [])]),
  (36, [(28, .iinc 3 1, 31, 1, 3, 0, 0, none, []), (31, .goto (-27), 34, 0, 4, 0, 0, none, []), (34, .iload_n 2, 35, 0, 2, 0, 0, none, []), (35, .ireturn, 36, 0, 0, 0, 0, none, [])])]
def zc_Es_sizeWithin : z_C := z_find2 zd_Es_sizeWithin
def zd_Dg_compare : List (Nat × List (Nat × z_I)) := [(18, [(0, .aload_n 0, 1, 0, 0, 0, 0, none, []), (1, .getfield 12, 4, 0, 8, 0, 1, none, []), (4, .invokevirtual 32, 7, 0, 101, 1, 0, none, [(0, 7)]), (7, .iconst 0, 8, 0, 0, 0, 0, none, []), (8, .istore_n 1, 9, 0, 1, 0, 0, none, []), (9, .iload_n 1, 10, 0, 1, 0, 0, some [0, 1], []), (10, .aload_n 0, 11, 0, 0, 0, 0, none, []), (11, .getfield 25, 14, 0, 8, 1, 1, none, []), (14, .getfield 35, 17, 0, 4, 0, 0, none, []), (17, .if_icmp .ge 14, 20, 0, 31, 0, 0, none, [])]),
  (36, [(20, .aload_n 0, 21, 0, 0, 0, 0, none, []), (21, .iload_n 1, 22, 0, 1, 0, 0, none, []), (22, .invokevirtual 41, 25, 0, 110, 2, 0, none, [(0, 8)]), (25, .iinc 1 1, 28, 1, 1, 0, 0, none, []), (28, .goto (-19), 31, 0, 9, 0, 0, none, []), (31, .iconst 0, 32, 0, 0, 0, 0, none, []), (32, .istore_n 1, 33, 0, 1, 0, 0, none, []), (33, .iload_n 1, 34, 0, 1, 0, 0, some [0, 1], []), (34, .aload_n 0, 35, 0, 0, 0, 0, none, []), (35, .getfield 25, 38, 0, 8, 1, 1, none, [])]),
  (56, [(38, .getfield 45, 41, 0, 4, 1, 0, none, []), (41, .if_icmp .ge 55, 44, 0, 96, 0, 0, none, []), (44, .iconst 0, 45, 0, 0, 0, 0, none, []), (45, .istore_n 2, 46, 0, 2, 0, 0, none, []), (46, .iload_n 2, 47, 0, 2, 0, 0, some [0, 1, 2], []), (47, .iconst 4, 48, 4, 0, 0, 0, none, []), (48, .if_icmp .ge 42, 51, 0, 90, 0, 0, none, []), (51, .aload_n 0, 52, 0, 0, 0, 0, none, []), (52, .getfield 25, 55, 0, 8, 1, 1, none, []), (55, .iload_n 1, 56, 0, 1, 0, 0, none, [])]),
  (74, [(56, .iload_n 2, 57, 0, 2, 0, 0, none, []), (57, .invokevirtual 48, 60, 0, 79, 3, 1, none, [(0, 4)]), (60, .aload_n 0, 61, 0, 0, 0, 0, none, []), (61, .getfield 29, 64, 0, 8, 2, 1, none, []), (64, .iload_n 1, 65, 0, 1, 0, 0, none, []), (65, .iload_n 2, 66, 0, 2, 0, 0, none, []), (66, .invokevirtual 48, 69, 0, 79, 3, 1, none, [(0, 4)]), (69, .if_icmp .eq 15, 72, 0, 84, 0, 0, none, []), (72, .aload_n 0, 73, 0, 0, 0, 0, none, []), (73, .getfield 12, 76, 0, 8, 0, 1, none, [])]),
  (97, [(76, .iload_n 1, 77, 0, 1, 0, 0, none, []), (77, .iload_n 2, 78, 0, 2, 0, 0, none, []), (78, .invokestatic 52, 81, 0, 44, 2, 1, none, []), (81, .invokevirtual 55, 84, 0, 103, 2, 0, none, [(0, 7)]), (84, .iinc 2 1, 87, 1, 2, 0, 0, none, []), (87, .goto (-41), 90, 0, 46, 0, 0, none, []), (90, .iinc 1 1, 93, 1, 1, 0, 0, none, []), (93, .goto (-60), 96, 0, 33, 0, 0, none, []), (96, .return_, 97, 0, 0, 0, 0, none, [])])]
def zc_Dg_compare : z_C := z_find2 zd_Dg_compare
def zd_Dg_compareMethod : List (Nat × List (Nat × z_I)) := [(18, [(0, .aload_n 0, 1, 0, 0, 0, 0, none, []), (1, .iconst 0, 2, 0, 0, 0, 0, none, []), (2, .putfield 58, 5, 0, 8, 5, 4, none, []), (5, .aload_n 0, 6, 0, 0, 0, 0, none, []), (6, .getfield 18, 9, 0, 8, 3, 1, none, []), (9, .iconst 0, 10, 0, 0, 0, 0, none, []), (10, .invokestatic 61, 13, 0, 902, 2, 0, none, []), (13, .aload_n 0, 14, 0, 0, 0, 0, none, []), (14, .getfield 25, 17, 0, 8, 1, 1, none, []), (17, .getfield 67, 20, 0, 4, 2, 1, none, [])]),
  (34, [(20, .iload_n 1, 21, 0, 1, 0, 0, none, []), (21, .iaload, 22, 0, 0, 0, 0, none, []), (22, .ifCond .ne 4, 25, 0, 26, 0, 0, none, []), (25, .return_, 26, 0, 0, 0, 0, none, []), (26, .aload_n 0, 27, 0, 0, 0, 0, none, []), (27, .iload_n 1, 28, 0, 1, 0, 0, none, []), (28, .iconst 0, 29, 0, 0, 0, 0, none, []), (29, .iconst 0, 30, 0, 0, 0, 0, none, []), (30, .invokevirtual 70, 33, 0, 112, 4, 1, none, [(0, 8)]), (33, .ifCond .ne 14, 36, 0, 47, 0, 0, none, [])]),
  (51, [(36, .aload_n 0, 37, 0, 0, 0, 0, none, []), (37, .getfield 12, 40, 0, 8, 0, 1, none, []), (40, .bipush 100, 42, 100, 0, 0, 0, none, []), (42, .iload_n 1, 43, 0, 1, 0, 0, none, []), (43, .iadd, 44, 0, 0, 0, 0, none, []), (44, .invokevirtual 55, 47, 0, 103, 2, 0, none, [(0, 7)]), (47, .iconst 0, 48, 0, 0, 0, 0, none, []), (48, .istore_n 2, 49, 0, 2, 0, 0, none, []), (49, .iload_n 2, 50, 0, 2, 0, 0, some [0, 1, 2], []), (50, .aload_n 0, 51, 0, 0, 0, 0, none, [])]),
  (70, [(51, .getfield 58, 54, 0, 8, 5, 0, none, []), (54, .if_icmp .ge 38, 57, 0, 92, 0, 0, none, []), (57, .iload_n 2, 58, 0, 2, 0, 0, none, []), (58, .bipush 64, 60, 64, 0, 0, 0, none, []), (60, .if_icmp .ge 32, 63, 0, 92, 0, 0, none, []), (63, .aload_n 0, 64, 0, 0, 0, 0, none, []), (64, .iload_n 1, 65, 0, 1, 0, 0, none, []), (65, .aload_n 0, 66, 0, 0, 0, 0, none, []), (66, .getfield 22, 69, 0, 8, 4, 1, none, []), (69, .iload_n 2, 70, 0, 2, 0, 0, none, [])]),
  (84, [(70, .iaload, 71, 0, 0, 0, 0, none, []), (71, .bipush 8, 73, 8, 0, 0, 0, none, []), (73, .idiv, 74, 0, 0, 0, 0, none, []), (74, .aload_n 0, 75, 0, 0, 0, 0, none, []), (75, .getfield 22, 78, 0, 8, 4, 1, none, []), (78, .iload_n 2, 79, 0, 2, 0, 0, none, []), (79, .iaload, 80, 0, 0, 0, 0, none, []), (80, .bipush 8, 82, 8, 0, 0, 0, none, []), (82, .irem, 83, 0, 0, 0, 0, none, []), (83, .invokevirtual 74, 86, 0, 111, 4, 0, none, [(0, 8)])]),
  (93, [(86, .iinc 2 1, 89, 1, 2, 0, 0, none, []), (89, .goto (-40), 92, 0, 49, 0, 0, none, []), (92, .return_, 93, 0, 0, 0, 0, none, [])])]
def zc_Dg_compareMethod : z_C := z_find2 zd_Dg_compareMethod
def zd_Dg_compareNexts : List (Nat × List (Nat × z_I)) := [(18, [(0, .iconst 0, 1, 0, 0, 0, 0, none, []), (1, .istore 4, 3, 0, 4, 0, 0, none, []), (3, .iload 4, 5, 0, 4, 0, 0, some [0, 1, 2, 3, 4], []), (5, .aload_n 0, 6, 0, 0, 0, 0, none, []), (6, .getfield 25, 9, 0, 8, 1, 1, none, []), (9, .getfield 78, 12, 0, 4, 5, 1, none, []), (12, .iload_n 1, 13, 0, 1, 0, 0, none, []), (13, .iload_n 2, 14, 0, 2, 0, 0, none, []), (14, .invokestatic 81, 17, 0, 42, 2, 1, none, []), (17, .iaload, 18, 0, 0, 0, 0, none, [])]),
  (36, [(18, .if_icmp .ge 113, 21, 0, 131, 0, 0, none, []), (21, .aload_n 0, 22, 0, 0, 0, 0, none, []), (22, .getfield 25, 25, 0, 8, 1, 1, none, []), (25, .iload_n 1, 26, 0, 1, 0, 0, none, []), (26, .iload_n 2, 27, 0, 2, 0, 0, none, []), (27, .iload 4, 29, 0, 4, 0, 0, none, []), (29, .invokevirtual 84, 32, 0, 75, 4, 1, none, [(0, 4)]), (32, .istore 5, 34, 0, 5, 0, 0, none, []), (34, .aload_n 0, 35, 0, 0, 0, 0, none, []), (35, .getfield 29, 38, 0, 8, 2, 1, none, [])]),
  (57, [(38, .iload_n 1, 39, 0, 1, 0, 0, none, []), (39, .iload_n 3, 40, 0, 3, 0, 0, none, []), (40, .iload 4, 42, 0, 4, 0, 0, none, []), (42, .invokevirtual 84, 45, 0, 75, 4, 1, none, [(0, 4)]), (45, .istore 6, 47, 0, 6, 0, 0, none, []), (47, .iload 5, 49, 0, 5, 0, 0, none, []), (49, .bipush 9, 51, 9, 0, 0, 0, none, []), (51, .if_icmp .ne 14, 54, 0, 65, 0, 0, none, []), (54, .iload 6, 56, 0, 6, 0, 0, none, []), (56, .bipush 9, 58, 9, 0, 0, 0, none, [])]),
  (78, [(58, .if_icmp .ne 7, 61, 0, 65, 0, 0, none, []), (61, .iconst 1, 62, 1, 0, 0, 0, none, []), (62, .goto 4, 65, 0, 66, 0, 0, none, []), (65, .iconst 0, 66, 0, 0, 0, 0, none, []), (66, .istore 7, 68, 0, 7, 0, 0, some [0, 1, 2, 3, 4, 5, 6], []), (68, .iload 5, 70, 0, 5, 0, 0, none, []), (70, .bipush 9, 72, 9, 0, 0, 0, none, []), (72, .if_icmp .eq 10, 75, 0, 82, 0, 0, none, []), (75, .iload 6, 77, 0, 6, 0, 0, none, []), (77, .bipush 9, 79, 9, 0, 0, 0, none, [])]),
  (100, [(79, .if_icmp .ne 7, 82, 0, 86, 0, 0, none, []), (82, .iconst 1, 83, 1, 0, 0, 0, none, []), (83, .goto 4, 86, 0, 87, 0, 0, none, []), (86, .iconst 0, 87, 0, 0, 0, 0, none, []), (87, .istore 8, 89, 0, 8, 0, 0, some [0, 1, 2, 3, 4, 5, 6, 7], []), (89, .iload 7, 91, 0, 7, 0, 0, none, []), (91, .ifCond .ne 34, 94, 0, 125, 0, 0, none, []), (94, .iload 8, 96, 0, 8, 0, 0, none, []), (96, .ifCond .ne 15, 99, 0, 111, 0, 0, none, []), (99, .aload_n 0, 100, 0, 0, 0, 0, none, [])]),
  (118, [(100, .iload_n 1, 101, 0, 1, 0, 0, none, []), (101, .iload 5, 103, 0, 5, 0, 0, none, []), (103, .iload 6, 105, 0, 6, 0, 0, none, []), (105, .invokevirtual 70, 108, 0, 112, 4, 1, none, [(0, 8)]), (108, .ifCond .ne 17, 111, 0, 125, 0, 0, none, []), (111, .aload_n 0, 112, 0, 0, 0, 0, some [0, 1, 2, 3, 4], []), (112, .getfield 12, 115, 0, 8, 0, 1, none, []), (115, .iload_n 1, 116, 0, 1, 0, 0, none, []), (116, .iload_n 2, 117, 0, 2, 0, 0, none, []), (117, .iload 4, 119, 0, 4, 0, 0, none, [])]),
  (132, [(119, .invokestatic 88, 122, 0, 43, 3, 1, none, []), (122, .invokevirtual 55, 125, 0, 103, 2, 0, none, [(0, 7)]), (125, .iinc 4 1, 128, 1, 4, 0, 0, none, []), (128, .goto (-125), 131, 0, 3, 0, 0, none, []), (131, .return_, 132, 0, 0, 0, 0, none, [])])]
def zc_Dg_compareNexts : z_C := z_find2 zd_Dg_compareNexts
def zd_Dg_pairUp : List (Nat × List (Nat × z_I)) := [(18, [(0, .aload_n 0, 1, 0, 0, 0, 0, none, []), (1, .iload_n 1, 2, 0, 1, 0, 0, none, []), (2, .iload_n 2, 3, 0, 2, 0, 0, none, []), (3, .invokestatic 81, 6, 0, 42, 2, 1, none, []), (6, .iload_n 1, 7, 0, 1, 0, 0, none, []), (7, .iload_n 3, 8, 0, 3, 0, 0, none, []), (8, .invokestatic 81, 11, 0, 42, 2, 1, none, []), (11, .invokevirtual 91, 14, 0, 113, 3, 1, none, [(0, 8)]), (14, .ifCond .ne 5, 17, 0, 19, 0, 0, none, []), (17, .iconst 0, 18, 0, 0, 0, 0, none, [])]),
  (32, [(18, .ireturn, 19, 0, 1, 0, 0, none, []), (19, .bipush 8, 21, 8, 0, 0, 0, none, []), (21, .iload_n 2, 22, 0, 2, 0, 0, none, []), (22, .imul, 23, 0, 0, 0, 0, none, []), (23, .iload_n 3, 24, 0, 3, 0, 0, none, []), (24, .iadd, 25, 0, 0, 0, 0, none, []), (25, .istore 4, 27, 0, 4, 0, 0, none, []), (27, .aload_n 0, 28, 0, 0, 0, 0, none, []), (28, .getfield 18, 31, 0, 8, 3, 1, none, []), (31, .iload 4, 33, 0, 4, 0, 0, none, [])]),
  (53, [(33, .iaload, 34, 0, 0, 0, 0, none, []), (34, .ifCond .ne 41, 37, 0, 75, 0, 0, none, []), (37, .aload_n 0, 38, 0, 0, 0, 0, none, []), (38, .getfield 58, 41, 0, 8, 5, 0, none, []), (41, .bipush 64, 43, 64, 0, 0, 0, none, []), (43, .if_icmp .ge 32, 46, 0, 75, 0, 0, none, []), (46, .aload_n 0, 47, 0, 0, 0, 0, none, []), (47, .getfield 18, 50, 0, 8, 3, 1, none, []), (50, .iload 4, 52, 0, 4, 0, 0, none, []), (52, .iconst 1, 53, 1, 0, 0, 0, none, [])]),
  (68, [(53, .iastore, 54, 0, 0, 0, 0, none, []), (54, .aload_n 0, 55, 0, 0, 0, 0, none, []), (55, .getfield 22, 58, 0, 8, 4, 1, none, []), (58, .aload_n 0, 59, 0, 0, 0, 0, none, []), (59, .getfield 58, 62, 0, 8, 5, 0, none, []), (62, .iload 4, 64, 0, 4, 0, 0, none, []), (64, .iastore, 65, 0, 0, 0, 0, none, []), (65, .aload_n 0, 66, 0, 0, 0, 0, none, []), (66, .dup, 67, 0, 0, 0, 0, none, []), (67, .getfield 58, 70, 0, 8, 5, 0, none, [])]),
  (77, [(70, .iconst 1, 71, 1, 0, 0, 0, none, []), (71, .iadd, 72, 0, 0, 0, 0, none, []), (72, .putfield 58, 75, 0, 8, 5, 4, none, []), (75, .iconst 1, 76, 1, 0, 0, 0, none, []), (76, .ireturn, 77, 0, 1, 0, 0, none, [])])]
def zc_Dg_pairUp : z_C := z_find2 zd_Dg_pairUp
def zd_Dg_areAlike : List (Nat × List (Nat × z_I)) := [(18, [(0, .aload_n 0, 1, 0, 0, 0, 0, none, []), (1, .getfield 25, 4, 0, 8, 1, 1, none, []), (4, .getfield 95, 7, 0, 4, 3, 1, none, []), (7, .iload_n 1, 8, 0, 1, 0, 0, none, []), (8, .iaload, 9, 0, 0, 0, 0, none, []), (9, .aload_n 0, 10, 0, 0, 0, 0, none, []), (10, .getfield 29, 13, 0, 8, 2, 1, none, []), (13, .getfield 95, 16, 0, 4, 3, 1, none, []), (16, .iload_n 2, 17, 0, 2, 0, 0, none, []), (17, .iaload, 18, 0, 0, 0, 0, none, [])]),
  (38, [(18, .if_icmp .ne 49, 21, 0, 67, 0, 0, none, []), (21, .aload_n 0, 22, 0, 0, 0, 0, none, []), (22, .getfield 25, 25, 0, 8, 1, 1, none, []), (25, .getfield 98, 28, 0, 4, 4, 1, none, []), (28, .iload_n 1, 29, 0, 1, 0, 0, none, []), (29, .iaload, 30, 0, 0, 0, 0, none, []), (30, .aload_n 0, 31, 0, 0, 0, 0, none, []), (31, .getfield 29, 34, 0, 8, 2, 1, none, []), (34, .getfield 98, 37, 0, 4, 4, 1, none, []), (37, .iload_n 2, 38, 0, 2, 0, 0, none, [])]),
  (56, [(38, .iaload, 39, 0, 0, 0, 0, none, []), (39, .if_icmp .ne 28, 42, 0, 67, 0, 0, none, []), (42, .aload_n 0, 43, 0, 0, 0, 0, none, []), (43, .getfield 25, 46, 0, 8, 1, 1, none, []), (46, .getfield 78, 49, 0, 4, 5, 1, none, []), (49, .iload_n 1, 50, 0, 1, 0, 0, none, []), (50, .iaload, 51, 0, 0, 0, 0, none, []), (51, .aload_n 0, 52, 0, 0, 0, 0, none, []), (52, .getfield 29, 55, 0, 8, 2, 1, none, []), (55, .getfield 78, 58, 0, 4, 5, 1, none, [])]),
  (69, [(58, .iload_n 2, 59, 0, 2, 0, 0, none, []), (59, .iaload, 60, 0, 0, 0, 0, none, []), (60, .if_icmp .ne 7, 63, 0, 67, 0, 0, none, []), (63, .iconst 1, 64, 1, 0, 0, 0, none, []), (64, .goto 4, 67, 0, 68, 0, 0, none, []), (67, .iconst 0, 68, 0, 0, 0, 0, none, []), (68, .ireturn, 69, 0, 1, 0, 0, none, [])])]
def zc_Dg_areAlike : z_C := z_find2 zd_Dg_areAlike
def zd_Ch_choose : List (Nat × List (Nat × z_I)) := [(18, [(0, .aload_n 0, 1, 0, 0, 0, 0, none, []), (1, .getfield 43, 4, 0, 9, 9, 1, none, []), (4, .invokevirtual 51, 7, 0, 109, 1, 0, none, [(0, 8)]), (7, .iconst 0, 8, 0, 0, 0, 0, none, []), (8, .istore_n 1, 9, 0, 1, 0, 0, none, []), (9, .iload_n 1, 10, 0, 1, 0, 0, some [0, 1], []), (10, .aload_n 0, 11, 0, 0, 0, 0, none, []), (11, .getfield 39, 14, 0, 9, 8, 1, none, []), (14, .getfield 56, 17, 0, 5, 0, 0, none, []), (17, .if_icmp .ge 54, 20, 0, 71, 0, 0, none, [])]),
  (38, [(20, .aload_n 0, 21, 0, 0, 0, 0, none, []), (21, .getfield 47, 24, 0, 9, 10, 1, none, []), (24, .aload_n 0, 25, 0, 0, 0, 0, none, []), (25, .getfield 35, 28, 0, 9, 7, 1, none, []), (28, .aload_n 0, 29, 0, 0, 0, 0, none, []), (29, .getfield 39, 32, 0, 9, 8, 1, none, []), (32, .getfield 62, 35, 0, 5, 1, 1, none, []), (35, .iload_n 1, 36, 0, 1, 0, 0, none, []), (36, .iaload, 37, 0, 0, 0, 0, none, []), (37, .aload_n 0, 38, 0, 0, 0, 0, none, [])]),
  (56, [(38, .getfield 39, 41, 0, 9, 8, 1, none, []), (41, .getfield 65, 44, 0, 5, 2, 1, none, []), (44, .iload_n 1, 45, 0, 1, 0, 0, none, []), (45, .iaload, 46, 0, 0, 0, 0, none, []), (46, .invokevirtual 68, 49, 0, 95, 4, 0, none, [(0, 6)]), (49, .aload_n 0, 50, 0, 0, 0, 0, none, []), (50, .getfield 23, 53, 0, 9, 4, 1, none, []), (53, .iload_n 1, 54, 0, 1, 0, 0, none, []), (54, .aaload, 55, 0, 0, 0, 0, none, []), (55, .aload_n 0, 56, 0, 0, 0, 0, none, [])]),
  (76, [(56, .getfield 47, 59, 0, 9, 10, 1, none, []), (59, .getfield 74, 62, 0, 6, 2, 1, none, []), (62, .invokevirtual 77, 65, 0, 102, 2, 0, none, [(0, 7)]), (65, .iinc 1 1, 68, 1, 1, 0, 0, none, []), (68, .goto (-59), 71, 0, 9, 0, 0, none, []), (71, .aload_n 0, 72, 0, 0, 0, 0, none, []), (72, .invokevirtual 81, 75, 0, 119, 1, 0, none, [(0, 9)]), (75, .return_, 76, 0, 0, 0, 0, none, [])])]
def zc_Ch_choose : z_C := z_find2 zd_Ch_choose
def zd_Ch_tellTest : List (Nat × List (Nat × z_I)) := [(41, [(0, .iload_n 2, 1, 0, 2, 0, 0, none, []), (1, .tableswitch 61 5 7 #[27, 44, 51], 28, 0, 62, 0, 0, none, [(5, 28), (6, 45), (7, 52)]), (28, .aload_n 0, 29, 0, 0, 0, 0, none, []), (29, .getfield 18, 32, 0, 9, 3, 1, none, []), (32, .iload_n 1, 33, 0, 1, 0, 0, none, []), (33, .iaload, 34, 0, 0, 0, 0, none, []), (34, .bipush (-4), 36, (-4), 0, 0, 0, none, []), (36, .if_icmp .ne 7, 39, 0, 43, 0, 0, none, []), (39, .iconst 0, 40, 0, 0, 0, 0, none, []), (40, .goto 4, 43, 0, 44, 0, 0, none, [])]),
  (57, [(43, .iconst 1, 44, 1, 0, 0, 0, none, []), (44, .ireturn, 45, 0, 0, 0, 0, none, []), (45, .aload_n 0, 46, 0, 0, 0, 0, none, []), (46, .getfield 18, 49, 0, 9, 3, 1, none, []), (49, .iload_n 1, 50, 0, 1, 0, 0, none, []), (50, .iaload, 51, 0, 0, 0, 0, none, []), (51, .ireturn, 52, 0, 0, 0, 0, none, []), (52, .aload_n 0, 53, 0, 0, 0, 0, none, []), (53, .getfield 23, 56, 0, 9, 4, 1, none, []), (56, .iload_n 1, 57, 0, 1, 0, 0, none, [])]),
  (73, [(57, .aaload, 58, 0, 0, 0, 0, none, []), (58, .invokevirtual 84, 61, 0, 107, 1, 1, none, [(0, 7)]), (61, .ireturn, 62, 0, 0, 0, 0, none, []), (62, .aload_n 0, 63, 0, 0, 0, 0, none, []), (63, .getfield 23, 66, 0, 9, 4, 1, none, []), (66, .iload_n 1, 67, 0, 1, 0, 0, none, []), (67, .aaload, 68, 0, 0, 0, 0, none, []), (68, .aload_n 0, 69, 0, 0, 0, 0, none, []), (69, .getfield 43, 72, 0, 9, 9, 1, none, []), (72, .getfield 87, 75, 0, 8, 0, 1, none, [])]),
  (79, [(75, .invokevirtual 90, 78, 0, 108, 2, 1, none, [(0, 7)]), (78, .ireturn, 79, 0, 0, 0, 0, none, [])])]
def zc_Ch_tellTest : z_C := z_find2 zd_Ch_tellTest
def zd_Ch_costOfChosen : List (Nat × List (Nat × z_I)) := [(14, [(0, .iconst 0, 1, 0, 0, 0, 0, none, []), (1, .istore_n 1, 2, 0, 1, 0, 0, none, []), (2, .iconst 0, 3, 0, 0, 0, 0, none, []), (3, .istore_n 2, 4, 0, 2, 0, 0, none, []), (4, .iload_n 2, 5, 0, 2, 0, 0, some [0, 1, 2], []), (5, .aload_n 0, 6, 0, 0, 0, 0, none, []), (6, .getfield 94, 9, 0, 9, 0, 0, none, []), (9, .if_icmp .ge 26, 12, 0, 35, 0, 0, none, []), (12, .iload_n 1, 13, 0, 1, 0, 0, none, []), (13, .aload_n 0, 14, 0, 0, 0, 0, none, [])]),
  (30, [(14, .getfield 39, 17, 0, 9, 8, 1, none, []), (17, .getfield 97, 20, 0, 5, 3, 1, none, []), (20, .aload_n 0, 21, 0, 0, 0, 0, none, []), (21, .getfield 9, 24, 0, 9, 1, 1, none, []), (24, .iload_n 2, 25, 0, 2, 0, 0, none, []), (25, .iaload, 26, 0, 0, 0, 0, none, []), (26, .iaload, 27, 0, 0, 0, 0, none, []), (27, .iadd, 28, 0, 0, 0, 0, none, []), (28, .istore_n 1, 29, 0, 1, 0, 0, none, []), (29, .iinc 2 1, 32, 1, 2, 0, 0, none, [])]),
  (37, [(32, .goto (-28), 35, 0, 4, 0, 0, none, []), (35, .iload_n 1, 36, 0, 1, 0, 0, none, []), (36, .ireturn, 37, 0, 0, 0, 0, none, [])])]
def zc_Ch_costOfChosen : z_C := z_find2 zd_Ch_costOfChosen
def zd_Ch_testsOver : List (Nat × List (Nat × z_I)) := [(16, [(0, .iconst 0, 1, 0, 0, 0, 0, none, []), (1, .istore_n 2, 2, 0, 2, 0, 0, none, []), (2, .iconst 0, 3, 0, 0, 0, 0, none, []), (3, .istore_n 3, 4, 0, 3, 0, 0, none, []), (4, .iload_n 3, 5, 0, 3, 0, 0, some [0, 1, 2, 3], []), (5, .aload_n 0, 6, 0, 0, 0, 0, none, []), (6, .getfield 39, 9, 0, 9, 8, 1, none, []), (9, .getfield 56, 12, 0, 5, 0, 0, none, []), (12, .if_icmp .ge 22, 15, 0, 34, 0, 0, none, []), (15, .iload_n 2, 16, 0, 2, 0, 0, none, [])]),
  (32, [(16, .aload_n 0, 17, 0, 0, 0, 0, none, []), (17, .getfield 23, 20, 0, 9, 4, 1, none, []), (20, .iload_n 3, 21, 0, 3, 0, 0, none, []), (21, .aaload, 22, 0, 0, 0, 0, none, []), (22, .iload_n 1, 23, 0, 1, 0, 0, none, []), (23, .invokevirtual 100, 26, 0, 106, 2, 1, none, [(0, 7)]), (26, .iadd, 27, 0, 0, 0, 0, none, []), (27, .istore_n 2, 28, 0, 2, 0, 0, none, []), (28, .iinc 3 1, 31, 1, 3, 0, 0, none, []), (31, .goto (-27), 34, 0, 4, 0, 0, none, [])]),
  (36, [(34, .iload_n 2, 35, 0, 2, 0, 0, none, []), (35, .ireturn, 36, 0, 0, 0, 0, none, [])])]
def zc_Ch_testsOver : z_C := z_find2 zd_Ch_testsOver
def zd_Ch_edgesOver : List (Nat × List (Nat × z_I)) := [(18, [(0, .aload_n 0, 1, 0, 0, 0, 0, none, []), (1, .getfield 32, 4, 0, 9, 6, 1, none, []), (4, .invokevirtual 104, 7, 0, 101, 1, 0, none, [(0, 7)]), (7, .iconst 0, 8, 0, 0, 0, 0, none, []), (8, .istore_n 1, 9, 0, 1, 0, 0, none, []), (9, .iload_n 1, 10, 0, 1, 0, 0, some [0, 1], []), (10, .aload_n 0, 11, 0, 0, 0, 0, none, []), (11, .getfield 39, 14, 0, 9, 8, 1, none, []), (14, .getfield 56, 17, 0, 5, 0, 0, none, []), (17, .if_icmp .ge 22, 20, 0, 39, 0, 0, none, [])]),
  (40, [(20, .aload_n 0, 21, 0, 0, 0, 0, none, []), (21, .getfield 32, 24, 0, 9, 6, 1, none, []), (24, .aload_n 0, 25, 0, 0, 0, 0, none, []), (25, .getfield 23, 28, 0, 9, 4, 1, none, []), (28, .iload_n 1, 29, 0, 1, 0, 0, none, []), (29, .aaload, 30, 0, 0, 0, 0, none, []), (30, .invokevirtual 107, 33, 0, 104, 2, 0, none, [(0, 7)]), (33, .iinc 1 1, 36, 1, 1, 0, 0, none, []), (36, .goto (-27), 39, 0, 9, 0, 0, none, []), (39, .aload_n 0, 40, 0, 0, 0, 0, none, [])]),
  (47, [(40, .getfield 32, 43, 0, 9, 6, 1, none, []), (43, .invokevirtual 84, 46, 0, 107, 1, 1, none, [(0, 7)]), (46, .ireturn, 47, 0, 0, 0, 0, none, [])])]
def zc_Ch_edgesOver : z_C := z_find2 zd_Ch_edgesOver
def zd_Ch_rankAll : List (Nat × List (Nat × z_I)) := [(19, [(0, .aload_n 0, 1, 0, 0, 0, 0, none, []), (1, .iconst 0, 2, 0, 0, 0, 0, none, []), (2, .putfield 94, 5, 0, 9, 0, 4, none, []), (5, .aload_n 0, 6, 0, 0, 0, 0, none, []), (6, .getfield 18, 9, 0, 9, 3, 1, none, []), (9, .bipush (-4), 11, (-4), 0, 0, 0, none, []), (11, .invokestatic 110, 14, 0, 902, 2, 0, none, []), (14, .aload_n 0, 15, 0, 0, 0, 0, none, []), (15, .getfield 28, 18, 0, 9, 5, 1, none, []), (18, .aload_n 0, 19, 0, 0, 0, 0, none, [])]),
  (39, [(19, .getfield 43, 22, 0, 9, 9, 1, none, []), (22, .getfield 87, 25, 0, 8, 0, 1, none, []), (25, .invokevirtual 77, 28, 0, 102, 2, 0, none, [(0, 7)]), (28, .iconst 0, 29, 0, 0, 0, 0, none, []), (29, .istore_n 1, 30, 0, 1, 0, 0, none, []), (30, .iload_n 1, 31, 0, 1, 0, 0, some [0, 1], []), (31, .aload_n 0, 32, 0, 0, 0, 0, none, []), (32, .getfield 39, 35, 0, 9, 8, 1, none, []), (35, .getfield 56, 38, 0, 5, 0, 0, none, []), (38, .if_icmp .ge 26, 41, 0, 64, 0, 0, none, [])]),
  (56, [(41, .aload_n 0, 42, 0, 0, 0, 0, none, []), (42, .invokevirtual 116, 45, 0, 120, 1, 1, none, [(0, 9)]), (45, .istore_n 2, 46, 0, 2, 0, 0, none, []), (46, .iload_n 2, 47, 0, 2, 0, 0, none, []), (47, .bipush (-4), 49, (-4), 0, 0, 0, none, []), (49, .if_icmp .ne 4, 52, 0, 53, 0, 0, none, []), (52, .return_, 53, 0, 0, 0, 0, none, []), (53, .aload_n 0, 54, 0, 0, 0, 0, none, []), (54, .iload_n 2, 55, 0, 2, 0, 0, none, []), (55, .invokevirtual 119, 58, 0, 121, 2, 0, none, [(0, 9)])]),
  (65, [(58, .iinc 1 1, 61, 1, 1, 0, 0, none, []), (61, .goto (-31), 64, 0, 30, 0, 0, none, []), (64, .return_, 65, 0, 0, 0, 0, none, [])])]
def zc_Ch_rankAll : z_C := z_find2 zd_Ch_rankAll
def zd_Ch_nextOne : List (Nat × List (Nat × z_I)) := [(13, [(0, .bipush (-4), 2, (-4), 0, 0, 0, none, []), (2, .istore_n 1, 3, 0, 1, 0, 0, none, []), (3, .iconst 0, 4, 0, 0, 0, 0, none, []), (4, .istore_n 2, 5, 0, 2, 0, 0, none, []), (5, .iconst 0, 6, 0, 0, 0, 0, none, []), (6, .istore_n 3, 7, 0, 3, 0, 0, none, []), (7, .iload_n 3, 8, 0, 3, 0, 0, some [0, 1, 2, 3], []), (8, .aload_n 0, 9, 0, 0, 0, 0, none, []), (9, .getfield 39, 12, 0, 9, 8, 1, none, []), (12, .getfield 56, 15, 0, 5, 0, 0, none, [])]),
  (34, [(15, .if_icmp .ge 91, 18, 0, 106, 0, 0, none, []), (18, .aload_n 0, 19, 0, 0, 0, 0, none, []), (19, .getfield 18, 22, 0, 9, 3, 1, none, []), (22, .iload_n 3, 23, 0, 3, 0, 0, none, []), (23, .iaload, 24, 0, 0, 0, 0, none, []), (24, .bipush (-4), 26, (-4), 0, 0, 0, none, []), (26, .if_icmp .ne 74, 29, 0, 100, 0, 0, none, []), (29, .aload_n 0, 30, 0, 0, 0, 0, none, []), (30, .getfield 23, 33, 0, 9, 4, 1, none, []), (33, .iload_n 3, 34, 0, 3, 0, 0, none, [])]),
  (54, [(34, .aaload, 35, 0, 0, 0, 0, none, []), (35, .aload_n 0, 36, 0, 0, 0, 0, none, []), (36, .getfield 43, 39, 0, 9, 9, 1, none, []), (39, .getfield 87, 42, 0, 8, 0, 1, none, []), (42, .invokevirtual 90, 45, 0, 108, 2, 1, none, [(0, 7)]), (45, .ifCond .le 55, 48, 0, 100, 0, 0, none, []), (48, .aload_n 0, 49, 0, 0, 0, 0, none, []), (49, .getfield 23, 52, 0, 9, 4, 1, none, []), (52, .iload_n 3, 53, 0, 3, 0, 0, none, []), (53, .aaload, 54, 0, 0, 0, 0, none, [])]),
  (73, [(54, .aload_n 0, 55, 0, 0, 0, 0, none, []), (55, .getfield 28, 58, 0, 9, 5, 1, none, []), (58, .invokevirtual 90, 61, 0, 108, 2, 1, none, [(0, 7)]), (61, .istore 4, 63, 0, 4, 0, 0, none, []), (63, .iload_n 1, 64, 0, 1, 0, 0, none, []), (64, .bipush (-4), 66, (-4), 0, 0, 0, none, []), (66, .if_icmp .eq 29, 69, 0, 95, 0, 0, none, []), (69, .iload 4, 71, 0, 4, 0, 0, none, []), (71, .aload_n 0, 72, 0, 0, 0, 0, none, []), (72, .getfield 39, 75, 0, 9, 8, 1, none, [])]),
  (91, [(75, .getfield 97, 78, 0, 5, 3, 1, none, []), (78, .iload_n 1, 79, 0, 1, 0, 0, none, []), (79, .iaload, 80, 0, 0, 0, 0, none, []), (80, .imul, 81, 0, 0, 0, 0, none, []), (81, .iload_n 2, 82, 0, 2, 0, 0, none, []), (82, .aload_n 0, 83, 0, 0, 0, 0, none, []), (83, .getfield 39, 86, 0, 9, 8, 1, none, []), (86, .getfield 97, 89, 0, 5, 3, 1, none, []), (89, .iload_n 3, 90, 0, 3, 0, 0, none, []), (90, .iaload, 91, 0, 0, 0, 0, none, [])]),
  (108, [(91, .imul, 92, 0, 0, 0, 0, none, []), (92, .if_icmp .le 8, 95, 0, 100, 0, 0, none, []), (95, .iload_n 3, 96, 0, 3, 0, 0, none, []), (96, .istore_n 1, 97, 0, 1, 0, 0, none, []), (97, .iload 4, 99, 0, 4, 0, 0, none, []), (99, .istore_n 2, 100, 0, 2, 0, 0, none, []), (100, .iinc 3 1, 103, 1, 3, 0, 0, none, []), (103, .goto (-96), 106, 0, 7, 0, 0, none, []), (106, .iload_n 1, 107, 0, 1, 0, 0, none, []), (107, .ireturn, 108, 0, 0, 0, 0, none, [])])]
def zc_Ch_nextOne : z_C := z_find2 zd_Ch_nextOne
def zd_Ch_rank : List (Nat × List (Nat × z_I)) := [(16, [(0, .aload_n 0, 1, 0, 0, 0, 0, none, []), (1, .getfield 9, 4, 0, 9, 1, 1, none, []), (4, .aload_n 0, 5, 0, 0, 0, 0, none, []), (5, .getfield 94, 8, 0, 9, 0, 0, none, []), (8, .iload_n 1, 9, 0, 1, 0, 0, none, []), (9, .iastore, 10, 0, 0, 0, 0, none, []), (10, .aload_n 0, 11, 0, 0, 0, 0, none, []), (11, .getfield 15, 14, 0, 9, 2, 1, none, []), (14, .aload_n 0, 15, 0, 0, 0, 0, none, []), (15, .getfield 94, 18, 0, 9, 0, 0, none, [])]),
  (34, [(18, .aload_n 0, 19, 0, 0, 0, 0, none, []), (19, .getfield 23, 22, 0, 9, 4, 1, none, []), (22, .iload_n 1, 23, 0, 1, 0, 0, none, []), (23, .aaload, 24, 0, 0, 0, 0, none, []), (24, .aload_n 0, 25, 0, 0, 0, 0, none, []), (25, .getfield 28, 28, 0, 9, 5, 1, none, []), (28, .invokevirtual 90, 31, 0, 108, 2, 1, none, [(0, 7)]), (31, .iastore, 32, 0, 0, 0, 0, none, []), (32, .aload_n 0, 33, 0, 0, 0, 0, none, []), (33, .getfield 18, 36, 0, 9, 3, 1, none, [])]),
  (50, [(36, .iload_n 1, 37, 0, 1, 0, 0, none, []), (37, .aload_n 0, 38, 0, 0, 0, 0, none, []), (38, .getfield 94, 41, 0, 9, 0, 0, none, []), (41, .iastore, 42, 0, 0, 0, 0, none, []), (42, .aload_n 0, 43, 0, 0, 0, 0, none, []), (43, .dup, 44, 0, 0, 0, 0, none, []), (44, .getfield 94, 47, 0, 9, 0, 0, none, []), (47, .iconst 1, 48, 1, 0, 0, 0, none, []), (48, .iadd, 49, 0, 0, 0, 0, none, []), (49, .putfield 94, 52, 0, 9, 0, 4, none, [])]),
  (66, [(52, .aload_n 0, 53, 0, 0, 0, 0, none, []), (53, .getfield 28, 56, 0, 9, 5, 1, none, []), (56, .aload_n 0, 57, 0, 0, 0, 0, none, []), (57, .getfield 23, 60, 0, 9, 4, 1, none, []), (60, .iload_n 1, 61, 0, 1, 0, 0, none, []), (61, .aaload, 62, 0, 0, 0, 0, none, []), (62, .invokevirtual 123, 65, 0, 105, 2, 0, none, [(0, 7)]), (65, .return_, 66, 0, 0, 0, 0, none, [])])]
def zc_Ch_rank : z_C := z_find2 zd_Ch_rank
def zd_Sh_renew : List (Nat × List (Nat × z_I)) := [(16, [(0, .aload_n 0, 1, 0, 0, 0, 0, none, []), (1, .iconst 1, 2, 1, 0, 0, 0, none, []), (2, .putfield 15, 5, 0, 11, 0, 3, none, []), (5, .aload_n 0, 6, 0, 0, 0, 0, none, []), (6, .iload_n 1, 7, 0, 1, 0, 0, none, []), (7, .putfield 19, 10, 0, 11, 2, 4, none, []), (10, .aload_n 0, 11, 0, 0, 0, 0, none, []), (11, .iload_n 2, 12, 0, 2, 0, 0, none, []), (12, .putfield 23, 15, 0, 11, 1, 4, none, []), (15, .aload_n 0, 16, 0, 0, 0, 0, none, [])]),
  (24, [(16, .getfield 9, 19, 0, 11, 3, 1, none, []), (19, .iconst 0, 20, 0, 0, 0, 0, none, []), (20, .invokestatic 26, 23, 0, 902, 2, 0, none, []), (23, .return_, 24, 0, 0, 0, 0, none, [])])]
def zc_Sh_renew : z_C := z_find2 zd_Sh_renew
def zd_Sh_put : List (Nat × List (Nat × z_I)) := [(16, [(0, .aload_n 0, 1, 0, 0, 0, 0, none, []), (1, .getfield 19, 4, 0, 11, 2, 0, none, []), (4, .ifCond .ne 14, 7, 0, 18, 0, 0, none, []), (7, .aload_n 0, 8, 0, 0, 0, 0, none, []), (8, .getfield 9, 11, 0, 11, 3, 1, none, []), (11, .iload_n 1, 12, 0, 1, 0, 0, none, []), (12, .iload_n 2, 13, 0, 2, 0, 0, none, []), (13, .i2b, 14, 0, 0, 0, 0, none, []), (14, .iastore, 15, 0, 0, 0, 0, none, []), (15, .goto 29, 18, 0, 44, 0, 0, none, [])]),
  (34, [(18, .aload_n 0, 19, 0, 0, 0, 0, none, []), (19, .getfield 19, 22, 0, 11, 2, 0, none, []), (22, .iconst 1, 23, 1, 0, 0, 0, none, []), (23, .if_icmp .ne 14, 26, 0, 37, 0, 0, none, []), (26, .aload_n 0, 27, 0, 0, 0, 0, none, []), (27, .getfield 9, 30, 0, 11, 3, 1, none, []), (30, .iload_n 1, 31, 0, 1, 0, 0, none, []), (31, .iload_n 2, 32, 0, 2, 0, 0, none, []), (32, .i2s, 33, 0, 0, 0, 0, none, []), (33, .iastore, 34, 0, 0, 0, 0, none, [])]),
  (45, [(34, .goto 10, 37, 0, 44, 0, 0, none, []), (37, .aload_n 0, 38, 0, 0, 0, 0, none, []), (38, .getfield 9, 41, 0, 11, 3, 1, none, []), (41, .iload_n 1, 42, 0, 1, 0, 0, none, []), (42, .iload_n 2, 43, 0, 2, 0, 0, none, []), (43, .iastore, 44, 0, 0, 0, 0, none, []), (44, .return_, 45, 0, 0, 0, 0, none, [])])]
def zc_Sh_put : z_C := z_find2 zd_Sh_put
def zd_Sh_cellAt : List (Nat × List (Nat × z_I)) := [(18, [(0, .iload_n 1, 1, 0, 1, 0, 0, none, []), (1, .ifCond .lt 20, 4, 0, 21, 0, 0, none, []), (4, .iload_n 1, 5, 0, 1, 0, 0, none, []), (5, .aload_n 0, 6, 0, 0, 0, 0, none, []), (6, .getfield 23, 9, 0, 11, 1, 0, none, []), (9, .if_icmp .ge 12, 12, 0, 21, 0, 0, none, []), (12, .aload_n 0, 13, 0, 0, 0, 0, none, []), (13, .getfield 9, 16, 0, 11, 3, 1, none, []), (16, .iload_n 1, 17, 0, 1, 0, 0, none, []), (17, .iaload, 18, 0, 0, 0, 0, none, [])]),
  (23, [(18, .goto 4, 21, 0, 22, 0, 0, none, []), (21, .iconst 0, 22, 0, 0, 0, 0, none, []), (22, .ireturn, 23, 0, 0, 0, 0, none, [])])]
def zc_Sh_cellAt : z_C := z_find2 zd_Sh_cellAt
def zd_Sh_faultAs : List (Nat × List (Nat × z_I)) := [(18, [(0, .aload_n 0, 1, 0, 0, 0, 0, none, []), (1, .getfield 15, 4, 0, 11, 0, 0, none, []), (4, .ifCond .ne 5, 7, 0, 9, 0, 0, none, []), (7, .iconst 1, 8, 1, 0, 0, 0, none, []), (8, .ireturn, 9, 0, 0, 0, 0, none, []), (9, .aload_n 0, 10, 0, 0, 0, 0, none, []), (10, .getfield 19, 13, 0, 11, 2, 0, none, []), (13, .iload_n 1, 14, 0, 1, 0, 0, none, []), (14, .if_icmp .eq 7, 17, 0, 21, 0, 0, none, []), (17, .iconst 3, 18, 3, 0, 0, 0, none, [])]),
  (23, [(18, .goto 4, 21, 0, 22, 0, 0, none, []), (21, .iconst 0, 22, 0, 0, 0, 0, none, []), (22, .ireturn, 23, 0, 0, 0, 0, none, [])])]
def zc_Sh_faultAs : z_C := z_find2 zd_Sh_faultAs
def zd_Sh_wholeFrom : List (Nat × List (Nat × z_I)) := [(16, [(0, .iload_n 1, 1, 0, 1, 0, 0, none, []), (1, .ifCond .lt 11, 4, 0, 12, 0, 0, none, []), (4, .iload_n 1, 5, 0, 1, 0, 0, none, []), (5, .aload_n 0, 6, 0, 0, 0, 0, none, []), (6, .getfield 23, 9, 0, 11, 1, 0, none, []), (9, .if_icmp .le 5, 12, 0, 14, 0, 0, none, []), (12, .iconst 0, 13, 0, 0, 0, 0, none, []), (13, .ireturn, 14, 0, 0, 0, 0, none, []), (14, .iload_n 2, 15, 0, 2, 0, 0, none, []), (15, .aload_n 0, 16, 0, 0, 0, 0, none, [])]),
  (27, [(16, .getfield 23, 19, 0, 11, 1, 0, none, []), (19, .iload_n 1, 20, 0, 1, 0, 0, none, []), (20, .isub, 21, 0, 0, 0, 0, none, []), (21, .iconst 4, 22, 4, 0, 0, 0, none, []), (22, .idiv, 23, 0, 0, 0, 0, none, []), (23, .invokestatic 32, 26, 0, 905, 2, 1, none, []), (26, .ireturn, 27, 0, 0, 0, 0, none, [])])]
def zc_Sh_wholeFrom : z_C := z_find2 zd_Sh_wholeFrom
def zd_M_in : List (Nat × List (Nat × z_I)) := [(15, [(0, .lload_n 0, 1, 0, 0, 0, 0, none, []), (1, .lload_n 2, 2, 0, 2, 0, 0, none, []), (2, .lcmp, 3, 0, 0, 0, 0, none, []), (3, .ifCond .lt 14, 6, 0, 17, 0, 0, none, []), (6, .lload_n 0, 7, 0, 0, 0, 0, none, []), (7, .lload 4, 9, 0, 4, 0, 0, none, []), (9, .lcmp, 10, 0, 0, 0, 0, none, []), (10, .ifCond .gt 7, 13, 0, 17, 0, 0, none, []), (13, .iconst 1, 14, 1, 0, 0, 0, none, []), (14, .goto 4, 17, 0, 18, 0, 0, none, [])]),
  (19, [(17, .iconst 0, 18, 0, 0, 0, 0, none, []), (18, .ireturn, 19, 0, 1, 0, 0, none, [])])]
def zc_M_in : z_C := z_find2 zd_M_in
def zd_M_flag : List (Nat × List (Nat × z_I)) := [(10, [(0, .iload_n 0, 1, 0, 0, 0, 0, none, []), (1, .ifCond .eq 7, 4, 0, 8, 0, 0, none, []), (4, .iconst 1, 5, 1, 0, 0, 0, none, []), (5, .goto 4, 8, 0, 9, 0, 0, none, []), (8, .iconst 0, 9, 0, 0, 0, 0, none, []), (9, .ireturn, 10, 0, 0, 0, 0, none, [])])]
def zc_M_flag : z_C := z_find2 zd_M_flag
def zd_M_nodeAt : List (Nat × List (Nat × z_I)) := [(14, [(0, .bipush 13, 2, 13, 0, 0, 0, none, []), (2, .sipush 256, 5, 256, 0, 0, 0, none, []), (5, .iload_n 0, 6, 0, 0, 0, 0, none, []), (6, .imul, 7, 0, 0, 0, 0, none, []), (7, .iadd, 8, 0, 0, 0, 0, none, []), (8, .iconst 5, 9, 5, 0, 0, 0, none, []), (9, .bipush 8, 11, 8, 0, 0, 0, none, []), (11, .iload_n 1, 12, 0, 1, 0, 0, none, []), (12, .imul, 13, 0, 0, 0, 0, none, []), (13, .iload_n 2, 14, 0, 2, 0, 0, none, [])]),
  (18, [(14, .iadd, 15, 0, 0, 0, 0, none, []), (15, .imul, 16, 0, 0, 0, 0, none, []), (16, .iadd, 17, 0, 0, 0, 0, none, []), (17, .ireturn, 18, 0, 0, 0, 0, none, [])])]
def zc_M_nodeAt : z_C := z_find2 zd_M_nodeAt
def zd_M_hasAt : List (Nat × List (Nat × z_I)) := [(15, [(0, .bipush 13, 2, 13, 0, 0, 0, none, []), (2, .sipush 256, 5, 256, 0, 0, 0, none, []), (5, .iload_n 0, 6, 0, 0, 0, 0, none, []), (6, .imul, 7, 0, 0, 0, 0, none, []), (7, .iadd, 8, 0, 0, 0, 0, none, []), (8, .sipush 240, 11, 240, 0, 0, 0, none, []), (11, .iadd, 12, 0, 0, 0, 0, none, []), (12, .iconst 4, 13, 4, 0, 0, 0, none, []), (13, .iload_n 1, 14, 0, 1, 0, 0, none, []), (14, .imul, 15, 0, 0, 0, 0, none, [])]),
  (19, [(15, .iadd, 16, 0, 0, 0, 0, none, []), (16, .iload_n 2, 17, 0, 2, 0, 0, none, []), (17, .iadd, 18, 0, 0, 0, 0, none, []), (18, .ireturn, 19, 0, 0, 0, 0, none, [])])]
def zc_M_hasAt : z_C := z_find2 zd_M_hasAt
def zd_M_firstDraft : List (Nat × List (Nat × z_I)) := [(16, [(0, .iconst 0, 1, 0, 0, 0, 0, none, []), (1, .istore_n 1, 2, 0, 1, 0, 0, none, []), (2, .iload_n 1, 3, 0, 1, 0, 0, some [0, 1], []), (3, .sipush 549, 6, 549, 0, 0, 0, none, []), (6, .if_icmp .ge 16, 9, 0, 22, 0, 0, none, []), (9, .aload_n 0, 10, 0, 0, 0, 0, none, []), (10, .getfield 20, 13, 0, 12, 3, 1, none, []), (13, .iload_n 1, 14, 0, 1, 0, 0, none, []), (14, .iconst 0, 15, 0, 0, 0, 0, none, []), (15, .iastore, 16, 0, 0, 0, 0, none, [])]),
  (32, [(16, .iinc 1 1, 19, 1, 1, 0, 0, none, []), (19, .goto (-17), 22, 0, 2, 0, 0, none, []), (22, .iconst 0, 23, 0, 0, 0, 0, none, []), (23, .istore_n 1, 24, 0, 1, 0, 0, none, []), (24, .iload_n 1, 25, 0, 1, 0, 0, some [0, 1], []), (25, .iconst 2, 26, 2, 0, 0, 0, none, []), (26, .if_icmp .ge 48, 29, 0, 74, 0, 0, none, []), (29, .iconst 0, 30, 0, 0, 0, 0, none, []), (30, .istore_n 2, 31, 0, 2, 0, 0, none, []), (31, .iload_n 2, 32, 0, 2, 0, 0, some [0, 1, 2], [])]),
  (48, [(32, .iconst 4, 33, 4, 0, 0, 0, none, []), (33, .if_icmp .ge 35, 36, 0, 68, 0, 0, none, []), (36, .iconst 0, 37, 0, 0, 0, 0, none, []), (37, .istore_n 3, 38, 0, 3, 0, 0, none, []), (38, .iload_n 3, 39, 0, 3, 0, 0, some [0, 1, 2, 3], []), (39, .iconst 4, 40, 4, 0, 0, 0, none, []), (40, .if_icmp .ge 22, 43, 0, 62, 0, 0, none, []), (43, .aload_n 0, 44, 0, 0, 0, 0, none, []), (44, .getfield 20, 47, 0, 12, 3, 1, none, []), (47, .iload_n 1, 48, 0, 1, 0, 0, none, [])]),
  (69, [(48, .iload_n 2, 49, 0, 2, 0, 0, none, []), (49, .iload_n 3, 50, 0, 3, 0, 0, none, []), (50, .invokestatic 71, 53, 0, 130, 3, 1, none, []), (53, .bipush (-4), 55, (-4), 0, 0, 0, none, []), (55, .iastore, 56, 0, 0, 0, 0, none, []), (56, .iinc 3 1, 59, 1, 3, 0, 0, none, []), (59, .goto (-21), 62, 0, 38, 0, 0, none, []), (62, .iinc 2 1, 65, 1, 2, 0, 0, none, []), (65, .goto (-34), 68, 0, 31, 0, 0, none, []), (68, .iinc 1 1, 71, 1, 1, 0, 0, none, [])]),
  (85, [(71, .goto (-47), 74, 0, 24, 0, 0, none, []), (74, .aload_n 0, 75, 0, 0, 0, 0, none, []), (75, .iconst (-1), 76, (-1), 0, 0, 0, none, []), (76, .putfield 75, 79, 0, 12, 4, 4, none, []), (79, .aload_n 0, 80, 0, 0, 0, 0, none, []), (80, .iconst (-1), 81, (-1), 0, 0, 0, none, []), (81, .putfield 79, 84, 0, 12, 5, 4, none, []), (84, .return_, 85, 0, 0, 0, 0, none, [])])]
def zc_M_firstDraft : z_C := z_find2 zd_M_firstDraft
def zd_M_keepDraft : List (Nat × List (Nat × z_I)) := [(16, [(0, .iconst 0, 1, 0, 0, 0, 0, none, []), (1, .istore_n 1, 2, 0, 1, 0, 0, none, []), (2, .iload_n 1, 3, 0, 1, 0, 0, some [0, 1], []), (3, .sipush 549, 6, 549, 0, 0, 0, none, []), (6, .if_icmp .ge 21, 9, 0, 27, 0, 0, none, []), (9, .aload_n 0, 10, 0, 0, 0, 0, none, []), (10, .getfield 7, 13, 0, 12, 0, 1, none, []), (13, .iload_n 1, 14, 0, 1, 0, 0, none, []), (14, .aload_n 0, 15, 0, 0, 0, 0, none, []), (15, .getfield 20, 18, 0, 12, 3, 1, none, [])]),
  (34, [(18, .iload_n 1, 19, 0, 1, 0, 0, none, []), (19, .iaload, 20, 0, 0, 0, 0, none, []), (20, .iastore, 21, 0, 0, 0, 0, none, []), (21, .iinc 1 1, 24, 1, 1, 0, 0, none, []), (24, .goto (-22), 27, 0, 2, 0, 0, none, []), (27, .aload_n 0, 28, 0, 0, 0, 0, none, []), (28, .getfield 16, 31, 0, 12, 2, 1, none, []), (31, .iconst 0, 32, 0, 0, 0, 0, none, []), (32, .iconst 0, 33, 0, 0, 0, 0, none, []), (33, .bastore, 34, 0, 0, 0, 0, none, [])]),
  (42, [(34, .aload_n 0, 35, 0, 0, 0, 0, none, []), (35, .getfield 16, 38, 0, 12, 2, 1, none, []), (38, .iconst 1, 39, 1, 0, 0, 0, none, []), (39, .iconst 0, 40, 0, 0, 0, 0, none, []), (40, .bastore, 41, 0, 0, 0, 0, none, []), (41, .return_, 42, 0, 0, 0, 0, none, [])])]
def zc_M_keepDraft : z_C := z_find2 zd_M_keepDraft
def zd_M_feed : List (Nat × List (Nat × z_I)) := [(16, [(0, .iload_n 1, 1, 0, 1, 0, 0, none, []), (1, .i2l, 2, 0, 0, 0, 0, none, []), (2, .lconst 0, 3, 0, 0, 0, 0, none, []), (3, .ldc2_w 82, 6, 127, 0, 0, 0, none, []), (6, .invokestatic 84, 9, 0, 127, 3, 1, none, []), (9, .ifCond .ne 5, 12, 0, 14, 0, 0, none, []), (12, .iconst (-1), 13, (-1), 0, 0, 0, none, []), (13, .ireturn, 14, 0, 0, 0, 0, none, []), (14, .aload_n 0, 15, 0, 0, 0, 0, none, []), (15, .getfield 88, 18, 0, 12, 7, 0, none, [])]),
  (37, [(18, .sipush 320, 21, 320, 0, 0, 0, none, []), (21, .if_icmp .ne 6, 24, 0, 27, 0, 0, none, []), (24, .bipush (-3), 26, (-3), 0, 0, 0, none, []), (26, .ireturn, 27, 0, 0, 0, 0, none, []), (27, .aload_n 0, 28, 0, 0, 0, 0, none, []), (28, .getfield 23, 31, 0, 12, 6, 1, none, []), (31, .aload_n 0, 32, 0, 0, 0, 0, none, []), (32, .getfield 88, 35, 0, 12, 7, 0, none, []), (35, .iload_n 1, 36, 0, 1, 0, 0, none, []), (36, .iastore, 37, 0, 0, 0, 0, none, [])]),
  (52, [(37, .aload_n 0, 38, 0, 0, 0, 0, none, []), (38, .dup, 39, 0, 0, 0, 0, none, []), (39, .getfield 88, 42, 0, 12, 7, 0, none, []), (42, .iconst 1, 43, 1, 0, 0, 0, none, []), (43, .iadd, 44, 0, 0, 0, 0, none, []), (44, .putfield 88, 47, 0, 12, 7, 4, none, []), (47, .aload_n 0, 48, 0, 0, 0, 0, none, []), (48, .getfield 88, 51, 0, 12, 7, 0, none, []), (51, .ireturn, 52, 0, 0, 0, 0, none, [])])]
def zc_M_feed : z_C := z_find2 zd_M_feed
def zd_M_end : List (Nat × List (Nat × z_I)) := [(16, [(0, .iload_n 1, 1, 0, 1, 0, 0, none, []), (1, .i2l, 2, 0, 0, 0, 0, none, []), (2, .lconst 0, 3, 0, 0, 0, 0, none, []), (3, .aload_n 0, 4, 0, 0, 0, 0, none, []), (4, .getfield 88, 7, 0, 12, 7, 0, none, []), (7, .i2l, 8, 0, 0, 0, 0, none, []), (8, .invokestatic 84, 11, 0, 127, 3, 1, none, []), (11, .ifCond .ne 5, 14, 0, 16, 0, 0, none, []), (14, .iconst (-1), 15, (-1), 0, 0, 0, none, []), (15, .ireturn, 16, 0, 0, 0, 0, none, [])]),
  (28, [(16, .aload_n 0, 17, 0, 0, 0, 0, none, []), (17, .getfield 88, 20, 0, 12, 7, 0, none, []), (20, .istore_n 2, 21, 0, 2, 0, 0, none, []), (21, .aload_n 0, 22, 0, 0, 0, 0, none, []), (22, .iload_n 1, 23, 0, 1, 0, 0, none, []), (23, .putfield 88, 26, 0, 12, 7, 4, none, []), (26, .iload_n 2, 27, 0, 2, 0, 0, none, []), (27, .ireturn, 28, 0, 0, 0, 0, none, [])])]
def zc_M_end : z_C := z_find2 zd_M_end
def zd_M_requires : List (Nat × List (Nat × z_I)) := [(18, [(0, .iload_n 1, 1, 0, 1, 0, 0, none, []), (1, .ifCond .ne 23, 4, 0, 24, 0, 0, none, []), (4, .aload_n 0, 5, 0, 0, 0, 0, none, []), (5, .getfield 91, 8, 0, 12, 12, 0, none, []), (8, .ifCond .ne 16, 11, 0, 24, 0, 0, none, []), (11, .aload_n 0, 12, 0, 0, 0, 0, none, []), (12, .iload_n 2, 13, 0, 2, 0, 0, none, []), (13, .putfield 91, 16, 0, 12, 12, 4, none, []), (16, .aload_n 0, 17, 0, 0, 0, 0, none, []), (17, .aload_n 0, 18, 0, 0, 0, 0, none, [])]),
  (25, [(18, .getfield 94, 21, 0, 12, 9, 0, none, []), (21, .putfield 97, 24, 0, 12, 13, 4, none, []), (24, .return_, 25, 0, 0, 0, 0, none, [])])]
def zc_M_requires : z_C := z_find2 zd_M_requires
def zd_M_byteAt : List (Nat × List (Nat × z_I)) := [(18, [(0, .iload_n 1, 1, 0, 1, 0, 0, none, []), (1, .aload_n 0, 2, 0, 0, 0, 0, none, []), (2, .getfield 88, 5, 0, 12, 7, 0, none, []), (5, .if_icmp .ge 12, 8, 0, 17, 0, 0, none, []), (8, .aload_n 0, 9, 0, 0, 0, 0, none, []), (9, .getfield 23, 12, 0, 12, 6, 1, none, []), (12, .iload_n 1, 13, 0, 1, 0, 0, none, []), (13, .iaload, 14, 0, 0, 0, 0, none, []), (14, .goto 4, 17, 0, 18, 0, 0, none, []), (17, .iconst (-1), 18, (-1), 0, 0, 0, none, [])]),
  (19, [(18, .ireturn, 19, 0, 0, 0, 0, none, [])])]
def zc_M_byteAt : z_C := z_find2 zd_M_byteAt
def zd_M_is : List (Nat × List (Nat × z_I)) := [(18, [(0, .aload_n 0, 1, 0, 0, 0, 0, none, []), (1, .getfield 100, 4, 0, 12, 10, 0, none, []), (4, .iconst 1, 5, 1, 0, 0, 0, none, []), (5, .if_icmp .ne 68, 8, 0, 73, 0, 0, none, []), (8, .aload_n 0, 9, 0, 0, 0, 0, none, []), (9, .getfield 103, 12, 0, 12, 8, 0, none, []), (12, .aload_n 0, 13, 0, 0, 0, 0, none, []), (13, .getfield 94, 16, 0, 12, 9, 0, none, []), (16, .isub, 17, 0, 0, 0, 0, none, []), (17, .iload_n 1, 18, 0, 1, 0, 0, none, [])]),
  (36, [(18, .if_icmp .ne 55, 21, 0, 73, 0, 0, none, []), (21, .aload_n 0, 22, 0, 0, 0, 0, none, []), (22, .aload_n 0, 23, 0, 0, 0, 0, none, []), (23, .getfield 94, 26, 0, 12, 9, 0, none, []), (26, .iload_n 2, 27, 0, 2, 0, 0, none, []), (27, .iadd, 28, 0, 0, 0, 0, none, []), (28, .invokevirtual 106, 31, 0, 136, 2, 1, none, [(0, 12)]), (31, .iload_n 3, 32, 0, 3, 0, 0, none, []), (32, .if_icmp .ne 41, 35, 0, 73, 0, 0, none, []), (35, .aload_n 0, 36, 0, 0, 0, 0, none, [])]),
  (53, [(36, .aload_n 0, 37, 0, 0, 0, 0, none, []), (37, .getfield 94, 40, 0, 12, 9, 0, none, []), (40, .iload_n 2, 41, 0, 2, 0, 0, none, []), (41, .iadd, 42, 0, 0, 0, 0, none, []), (42, .iconst 1, 43, 1, 0, 0, 0, none, []), (43, .iadd, 44, 0, 0, 0, 0, none, []), (44, .invokevirtual 106, 47, 0, 136, 2, 1, none, [(0, 12)]), (47, .iload 4, 49, 0, 4, 0, 0, none, []), (49, .if_icmp .ne 24, 52, 0, 73, 0, 0, none, []), (52, .aload_n 0, 53, 0, 0, 0, 0, none, [])]),
  (70, [(53, .aload_n 0, 54, 0, 0, 0, 0, none, []), (54, .getfield 94, 57, 0, 12, 9, 0, none, []), (57, .iload_n 2, 58, 0, 2, 0, 0, none, []), (58, .iadd, 59, 0, 0, 0, 0, none, []), (59, .iconst 2, 60, 2, 0, 0, 0, none, []), (60, .iadd, 61, 0, 0, 0, 0, none, []), (61, .invokevirtual 106, 64, 0, 136, 2, 1, none, [(0, 12)]), (64, .iload 5, 66, 0, 5, 0, 0, none, []), (66, .if_icmp .ne 7, 69, 0, 73, 0, 0, none, []), (69, .iconst 1, 70, 1, 0, 0, 0, none, [])]),
  (75, [(70, .goto 4, 73, 0, 74, 0, 0, none, []), (73, .iconst 0, 74, 0, 0, 0, 0, none, []), (74, .ireturn, 75, 0, 1, 0, 0, none, [])])]
def zc_M_is : z_C := z_find2 zd_M_is
def zd_M_lineNow : List (Nat × List (Nat × z_I)) := [(18, [(0, .aload_n 0, 1, 0, 0, 0, 0, none, []), (1, .bipush 6, 3, 6, 0, 0, 0, none, []), (3, .iconst 0, 4, 0, 0, 0, 0, none, []), (4, .bipush 109, 6, 109, 0, 0, 0, none, []), (6, .bipush 101, 8, 101, 0, 0, 0, none, []), (8, .bipush 116, 10, 116, 0, 0, 0, none, []), (10, .invokevirtual 110, 13, 0, 137, 6, 1, none, [(0, 12)]), (13, .ifCond .eq 21, 16, 0, 34, 0, 0, none, []), (16, .aload_n 0, 17, 0, 0, 0, 0, none, []), (17, .bipush 6, 19, 6, 0, 0, 0, none, [])]),
  (36, [(19, .iconst 3, 20, 3, 0, 0, 0, none, []), (20, .bipush 104, 22, 104, 0, 0, 0, none, []), (22, .bipush 111, 24, 111, 0, 0, 0, none, []), (24, .bipush 100, 26, 100, 0, 0, 0, none, []), (26, .invokevirtual 110, 29, 0, 137, 6, 1, none, [(0, 12)]), (29, .ifCond .eq 5, 32, 0, 34, 0, 0, none, []), (32, .iconst 0, 33, 0, 0, 0, 0, none, []), (33, .ireturn, 34, 0, 0, 0, 0, none, []), (34, .aload_n 0, 35, 0, 0, 0, 0, some [0], []), (35, .iconst 3, 36, 3, 0, 0, 0, none, [])]),
  (53, [(36, .iconst 0, 37, 0, 0, 0, 0, none, []), (37, .bipush 115, 39, 115, 0, 0, 0, none, []), (39, .bipush 97, 41, 97, 0, 0, 0, none, []), (41, .bipush 121, 43, 121, 0, 0, 0, none, []), (43, .invokevirtual 110, 46, 0, 137, 6, 1, none, [(0, 12)]), (46, .ifCond .eq 5, 49, 0, 51, 0, 0, none, []), (49, .iconst 1, 50, 1, 0, 0, 0, none, []), (50, .ireturn, 51, 0, 0, 0, 0, none, []), (51, .aload_n 0, 52, 0, 0, 0, 0, none, []), (52, .iconst 4, 53, 4, 0, 0, 0, none, [])]),
  (72, [(53, .iconst 0, 54, 0, 0, 0, 0, none, []), (54, .bipush 99, 56, 99, 0, 0, 0, none, []), (56, .bipush 97, 58, 97, 0, 0, 0, none, []), (58, .bipush 108, 60, 108, 0, 0, 0, none, []), (60, .invokevirtual 110, 63, 0, 137, 6, 1, none, [(0, 12)]), (63, .ifCond .eq 20, 66, 0, 83, 0, 0, none, []), (66, .aload_n 0, 67, 0, 0, 0, 0, none, []), (67, .aload_n 0, 68, 0, 0, 0, 0, none, []), (68, .getfield 94, 71, 0, 12, 9, 0, none, []), (71, .iconst 3, 72, 3, 0, 0, 0, none, [])]),
  (87, [(72, .iadd, 73, 0, 0, 0, 0, none, []), (73, .invokevirtual 106, 76, 0, 136, 2, 1, none, [(0, 12)]), (76, .bipush 108, 78, 108, 0, 0, 0, none, []), (78, .if_icmp .ne 5, 81, 0, 83, 0, 0, none, []), (81, .iconst 2, 82, 2, 0, 0, 0, none, []), (82, .ireturn, 83, 0, 0, 0, 0, none, []), (83, .aload_n 0, 84, 0, 0, 0, 0, some [0], []), (84, .iconst 5, 85, 5, 0, 0, 0, none, []), (85, .iconst 0, 86, 0, 0, 0, 0, none, []), (86, .bipush 99, 88, 99, 0, 0, 0, none, [])]),
  (106, [(88, .bipush 108, 90, 108, 0, 0, 0, none, []), (90, .bipush 97, 92, 97, 0, 0, 0, none, []), (92, .invokevirtual 110, 95, 0, 137, 6, 1, none, [(0, 12)]), (95, .ifCond .eq 35, 98, 0, 130, 0, 0, none, []), (98, .aload_n 0, 99, 0, 0, 0, 0, none, []), (99, .aload_n 0, 100, 0, 0, 0, 0, none, []), (100, .getfield 94, 103, 0, 12, 9, 0, none, []), (103, .iconst 3, 104, 3, 0, 0, 0, none, []), (104, .iadd, 105, 0, 0, 0, 0, none, []), (105, .invokevirtual 106, 108, 0, 136, 2, 1, none, [(0, 12)])]),
  (126, [(108, .bipush 115, 110, 115, 0, 0, 0, none, []), (110, .if_icmp .ne 20, 113, 0, 130, 0, 0, none, []), (113, .aload_n 0, 114, 0, 0, 0, 0, none, []), (114, .aload_n 0, 115, 0, 0, 0, 0, none, []), (115, .getfield 94, 118, 0, 12, 9, 0, none, []), (118, .iconst 4, 119, 4, 0, 0, 0, none, []), (119, .iadd, 120, 0, 0, 0, 0, none, []), (120, .invokevirtual 106, 123, 0, 136, 2, 1, none, [(0, 12)]), (123, .bipush 115, 125, 115, 0, 0, 0, none, []), (125, .if_icmp .ne 5, 128, 0, 130, 0, 0, none, [])]),
  (143, [(128, .iconst 3, 129, 3, 0, 0, 0, none, []), (129, .ireturn, 130, 0, 0, 0, 0, none, []), (130, .aload_n 0, 131, 0, 0, 0, 0, some [0], []), (131, .iconst 3, 132, 3, 0, 0, 0, none, []), (132, .iconst 0, 133, 0, 0, 0, 0, none, []), (133, .bipush 104, 135, 104, 0, 0, 0, none, []), (135, .bipush 97, 137, 97, 0, 0, 0, none, []), (137, .bipush 115, 139, 115, 0, 0, 0, none, []), (139, .invokevirtual 110, 142, 0, 137, 6, 1, none, [(0, 12)]), (142, .ifCond .eq 7, 145, 0, 149, 0, 0, none, [])]),
  (162, [(145, .iconst 4, 146, 4, 0, 0, 0, none, []), (146, .goto 39, 149, 0, 185, 0, 0, none, []), (149, .aload_n 0, 150, 0, 0, 0, 0, none, []), (150, .iconst 4, 151, 4, 0, 0, 0, none, []), (151, .iconst 0, 152, 0, 0, 0, 0, none, []), (152, .bipush 116, 154, 116, 0, 0, 0, none, []), (154, .bipush 101, 156, 101, 0, 0, 0, none, []), (156, .bipush 115, 158, 115, 0, 0, 0, none, []), (158, .invokevirtual 110, 161, 0, 137, 6, 1, none, [(0, 12)]), (161, .ifCond .eq 22, 164, 0, 183, 0, 0, none, [])]),
  (181, [(164, .aload_n 0, 165, 0, 0, 0, 0, none, []), (165, .aload_n 0, 166, 0, 0, 0, 0, none, []), (166, .getfield 94, 169, 0, 12, 9, 0, none, []), (169, .iconst 3, 170, 3, 0, 0, 0, none, []), (170, .iadd, 171, 0, 0, 0, 0, none, []), (171, .invokevirtual 106, 174, 0, 136, 2, 1, none, [(0, 12)]), (174, .bipush 116, 176, 116, 0, 0, 0, none, []), (176, .if_icmp .ne 7, 179, 0, 183, 0, 0, none, []), (179, .iconst 5, 180, 5, 0, 0, 0, none, []), (180, .goto 5, 183, 0, 185, 0, 0, none, [])]),
  (186, [(183, .bipush (-4), 185, (-4), 0, 0, 0, none, []), (185, .ireturn, 186, 0, 0, 0, 0, none, [])])]
def zc_M_lineNow : z_C := z_find2 zd_M_lineNow
def zd_M_reads : List (Nat × List (Nat × z_I)) := [(19, [(0, .aload_n 0, 1, 0, 0, 0, 0, none, []), (1, .getfield 91, 4, 0, 12, 12, 0, none, []), (4, .ifCond .le 4, 7, 0, 8, 0, 0, none, []), (7, .return_, 8, 0, 0, 0, 0, none, []), (8, .aload_n 0, 9, 0, 0, 0, 0, some [0], []), (9, .aload_n 0, 10, 0, 0, 0, 0, none, []), (10, .getfield 103, 13, 0, 12, 8, 0, none, []), (13, .invokevirtual 106, 16, 0, 136, 2, 1, none, [(0, 12)]), (16, .bipush 32, 18, 32, 0, 0, 0, none, []), (18, .if_icmp .ne 16, 21, 0, 34, 0, 0, none, [])]),
  (37, [(21, .aload_n 0, 22, 0, 0, 0, 0, none, []), (22, .dup, 23, 0, 0, 0, 0, none, []), (23, .getfield 103, 26, 0, 12, 8, 0, none, []), (26, .iconst 1, 27, 1, 0, 0, 0, none, []), (27, .iadd, 28, 0, 0, 0, 0, none, []), (28, .putfield 103, 31, 0, 12, 8, 4, none, []), (31, .goto (-23), 34, 0, 8, 0, 0, none, []), (34, .aload_n 0, 35, 0, 0, 0, 0, none, []), (35, .aload_n 0, 36, 0, 0, 0, 0, none, []), (36, .getfield 103, 39, 0, 12, 8, 0, none, [])]),
  (57, [(39, .putfield 94, 42, 0, 12, 9, 4, none, []), (42, .aload_n 0, 43, 0, 0, 0, 0, none, []), (43, .aload_n 0, 44, 0, 0, 0, 0, none, []), (44, .getfield 103, 47, 0, 12, 8, 0, none, []), (47, .invokevirtual 106, 50, 0, 136, 2, 1, none, [(0, 12)]), (50, .istore_n 1, 51, 0, 1, 0, 0, none, []), (51, .iload_n 1, 52, 0, 1, 0, 0, none, []), (52, .ifCond .ge 11, 55, 0, 63, 0, 0, none, []), (55, .aload_n 0, 56, 0, 0, 0, 0, none, []), (56, .iconst 0, 57, 0, 0, 0, 0, none, [])]),
  (79, [(57, .putfield 100, 60, 0, 12, 10, 4, none, []), (60, .goto 214, 63, 0, 274, 0, 0, none, []), (63, .iload_n 1, 64, 0, 1, 0, 0, none, []), (64, .i2l, 65, 0, 0, 0, 0, none, []), (65, .ldc2_w 114, 68, 97, 0, 0, 0, none, []), (68, .ldc2_w 116, 71, 122, 0, 0, 0, none, []), (71, .invokestatic 84, 74, 0, 127, 3, 1, none, []), (74, .ifCond .eq 42, 77, 0, 116, 0, 0, none, []), (77, .aload_n 0, 78, 0, 0, 0, 0, none, []), (78, .iconst 1, 79, 1, 0, 0, 0, none, [])]),
  (101, [(79, .putfield 100, 82, 0, 12, 10, 4, none, []), (82, .aload_n 0, 83, 0, 0, 0, 0, some [0], []), (83, .aload_n 0, 84, 0, 0, 0, 0, none, []), (84, .getfield 103, 87, 0, 12, 8, 0, none, []), (87, .invokevirtual 106, 90, 0, 136, 2, 1, none, [(0, 12)]), (90, .i2l, 91, 0, 0, 0, 0, none, []), (91, .ldc2_w 114, 94, 97, 0, 0, 0, none, []), (94, .ldc2_w 116, 97, 122, 0, 0, 0, none, []), (97, .invokestatic 84, 100, 0, 127, 3, 1, none, []), (100, .ifCond .eq 174, 103, 0, 274, 0, 0, none, [])]),
  (119, [(103, .aload_n 0, 104, 0, 0, 0, 0, none, []), (104, .dup, 105, 0, 0, 0, 0, none, []), (105, .getfield 103, 108, 0, 12, 8, 0, none, []), (108, .iconst 1, 109, 1, 0, 0, 0, none, []), (109, .iadd, 110, 0, 0, 0, 0, none, []), (110, .putfield 103, 113, 0, 12, 8, 4, none, []), (113, .goto (-31), 116, 0, 82, 0, 0, none, []), (116, .iload_n 1, 117, 0, 1, 0, 0, none, []), (117, .i2l, 118, 0, 0, 0, 0, none, []), (118, .ldc2_w 118, 121, 48, 0, 0, 0, none, [])]),
  (141, [(121, .ldc2_w 120, 124, 57, 0, 0, 0, none, []), (124, .invokestatic 84, 127, 0, 127, 3, 1, none, []), (127, .ifCond .eq 116, 130, 0, 243, 0, 0, none, []), (130, .aload_n 0, 131, 0, 0, 0, 0, none, []), (131, .iconst 2, 132, 2, 0, 0, 0, none, []), (132, .putfield 100, 135, 0, 12, 10, 4, none, []), (135, .aload_n 0, 136, 0, 0, 0, 0, none, []), (136, .iconst 0, 137, 0, 0, 0, 0, none, []), (137, .putfield 122, 140, 0, 12, 11, 4, none, []), (140, .aload_n 0, 141, 0, 0, 0, 0, some [0], [])]),
  (163, [(141, .aload_n 0, 142, 0, 0, 0, 0, none, []), (142, .getfield 103, 145, 0, 12, 8, 0, none, []), (145, .invokevirtual 106, 148, 0, 136, 2, 1, none, [(0, 12)]), (148, .i2l, 149, 0, 0, 0, 0, none, []), (149, .ldc2_w 118, 152, 48, 0, 0, 0, none, []), (152, .ldc2_w 120, 155, 57, 0, 0, 0, none, []), (155, .invokestatic 84, 158, 0, 127, 3, 1, none, []), (158, .ifCond .eq 59, 161, 0, 217, 0, 0, none, []), (161, .aload_n 0, 162, 0, 0, 0, 0, none, []), (162, .aload_n 0, 163, 0, 0, 0, 0, none, [])]),
  (182, [(163, .getfield 103, 166, 0, 12, 8, 0, none, []), (166, .aload_n 0, 167, 0, 0, 0, 0, none, []), (167, .getfield 94, 170, 0, 12, 9, 0, none, []), (170, .isub, 171, 0, 0, 0, 0, none, []), (171, .iconst 3, 172, 3, 0, 0, 0, none, []), (172, .if_icmp .ge 25, 175, 0, 197, 0, 0, none, []), (175, .bipush 10, 177, 10, 0, 0, 0, none, []), (177, .aload_n 0, 178, 0, 0, 0, 0, none, []), (178, .getfield 122, 181, 0, 12, 11, 0, none, []), (181, .imul, 182, 0, 0, 0, 0, none, [])]),
  (199, [(182, .aload_n 0, 183, 0, 0, 0, 0, none, []), (183, .aload_n 0, 184, 0, 0, 0, 0, none, []), (184, .getfield 103, 187, 0, 12, 8, 0, none, []), (187, .invokevirtual 106, 190, 0, 136, 2, 1, none, [(0, 12)]), (190, .iadd, 191, 0, 0, 0, 0, none, []), (191, .bipush 48, 193, 48, 0, 0, 0, none, []), (193, .isub, 194, 0, 0, 0, 0, none, []), (194, .goto 7, 197, 0, 201, 0, 0, none, []), (197, .aload_n 0, 198, 0, 0, 0, 0, none, []), (198, .getfield 122, 201, 0, 12, 11, 0, none, [])]),
  (219, [(201, .putfield 122, 204, 0, 12, 11, 4, none, []), (204, .aload_n 0, 205, 0, 0, 0, 0, none, []), (205, .dup, 206, 0, 0, 0, 0, none, []), (206, .getfield 103, 209, 0, 12, 8, 0, none, []), (209, .iconst 1, 210, 1, 0, 0, 0, none, []), (210, .iadd, 211, 0, 0, 0, 0, none, []), (211, .putfield 103, 214, 0, 12, 8, 4, none, []), (214, .goto (-74), 217, 0, 140, 0, 0, none, []), (217, .aload_n 0, 218, 0, 0, 0, 0, none, []), (218, .aload_n 0, 219, 0, 0, 0, 0, none, [])]),
  (237, [(219, .getfield 103, 222, 0, 12, 8, 0, none, []), (222, .aload_n 0, 223, 0, 0, 0, 0, none, []), (223, .getfield 94, 226, 0, 12, 9, 0, none, []), (226, .isub, 227, 0, 0, 0, 0, none, []), (227, .iconst 3, 228, 3, 0, 0, 0, none, []), (228, .if_icmp .gt 7, 231, 0, 235, 0, 0, none, []), (231, .iconst 1, 232, 1, 0, 0, 0, none, []), (232, .goto 4, 235, 0, 236, 0, 0, none, []), (235, .iconst 0, 236, 0, 0, 0, 0, none, []), (236, .iconst 1, 237, 1, 0, 0, 0, none, [])]),
  (256, [(237, .invokevirtual 125, 240, 0, 135, 3, 0, none, [(0, 12)]), (240, .goto 34, 243, 0, 274, 0, 0, none, []), (243, .aload_n 0, 244, 0, 0, 0, 0, none, []), (244, .iconst 3, 245, 3, 0, 0, 0, none, []), (245, .putfield 100, 248, 0, 12, 10, 4, none, []), (248, .aload_n 0, 249, 0, 0, 0, 0, none, []), (249, .iload_n 1, 250, 0, 1, 0, 0, none, []), (250, .bipush 59, 252, 59, 0, 0, 0, none, []), (252, .if_icmp .ne 7, 255, 0, 259, 0, 0, none, []), (255, .iconst 1, 256, 1, 0, 0, 0, none, [])]),
  (272, [(256, .goto 4, 259, 0, 260, 0, 0, none, []), (259, .iconst 0, 260, 0, 0, 0, 0, none, []), (260, .iconst 1, 261, 1, 0, 0, 0, none, []), (261, .invokevirtual 125, 264, 0, 135, 3, 0, none, [(0, 12)]), (264, .aload_n 0, 265, 0, 0, 0, 0, none, []), (265, .dup, 266, 0, 0, 0, 0, none, []), (266, .getfield 103, 269, 0, 12, 8, 0, none, []), (269, .iconst 1, 270, 1, 0, 0, 0, none, []), (270, .iadd, 271, 0, 0, 0, 0, none, []), (271, .putfield 103, 274, 0, 12, 8, 4, none, [])]),
  (275, [(274, .return_, 275, 0, 0, 0, 0, none, [])])]
def zc_M_reads : z_C := z_find2 zd_M_reads
def zd_M_readNumber : List (Nat × List (Nat × z_I)) := [(18, [(0, .aload_n 0, 1, 0, 0, 0, 0, none, []), (1, .getfield 91, 4, 0, 12, 12, 0, none, []), (4, .ifCond .ne 21, 7, 0, 25, 0, 0, none, []), (7, .aload_n 0, 8, 0, 0, 0, 0, none, []), (8, .aload_n 0, 9, 0, 0, 0, 0, none, []), (9, .getfield 100, 12, 0, 12, 10, 0, none, []), (12, .iconst 2, 13, 2, 0, 0, 0, none, []), (13, .if_icmp .ne 7, 16, 0, 20, 0, 0, none, []), (16, .iconst 1, 17, 1, 0, 0, 0, none, []), (17, .goto 4, 20, 0, 21, 0, 0, none, [])]),
  (38, [(20, .iconst 0, 21, 0, 0, 0, 0, none, []), (21, .iconst 2, 22, 2, 0, 0, 0, none, []), (22, .invokevirtual 125, 25, 0, 135, 3, 0, none, [(0, 12)]), (25, .aload_n 0, 26, 0, 0, 0, 0, some [0, 1, 2, 3], []), (26, .getfield 91, 29, 0, 12, 12, 0, none, []), (29, .ifCond .ne 36, 32, 0, 65, 0, 0, none, []), (32, .aload_n 0, 33, 0, 0, 0, 0, none, []), (33, .aload_n 0, 34, 0, 0, 0, 0, none, []), (34, .getfield 122, 37, 0, 12, 11, 0, none, []), (37, .i2l, 38, 0, 0, 0, 0, none, [])]),
  (54, [(38, .iload_n 1, 39, 0, 1, 0, 0, none, []), (39, .i2l, 40, 0, 0, 0, 0, none, []), (40, .iload_n 2, 41, 0, 2, 0, 0, none, []), (41, .i2l, 42, 0, 0, 0, 0, none, []), (42, .invokestatic 84, 45, 0, 127, 3, 1, none, []), (45, .ifCond .ne 11, 48, 0, 56, 0, 0, none, []), (48, .aload_n 0, 49, 0, 0, 0, 0, none, []), (49, .getfield 122, 52, 0, 12, 11, 0, none, []), (52, .iload_n 3, 53, 0, 3, 0, 0, none, []), (53, .if_icmp .ne 7, 56, 0, 60, 0, 0, none, [])]),
  (74, [(56, .iconst 1, 57, 1, 0, 0, 0, none, []), (57, .goto 4, 60, 0, 61, 0, 0, none, []), (60, .iconst 0, 61, 0, 0, 0, 0, none, []), (61, .iconst 3, 62, 3, 0, 0, 0, none, []), (62, .invokevirtual 125, 65, 0, 135, 3, 0, none, [(0, 12)]), (65, .aload_n 0, 66, 0, 0, 0, 0, some [0], []), (66, .getfield 91, 69, 0, 12, 12, 0, none, []), (69, .ifCond .ne 10, 72, 0, 79, 0, 0, none, []), (72, .aload_n 0, 73, 0, 0, 0, 0, none, []), (73, .getfield 122, 76, 0, 12, 11, 0, none, [])]),
  (89, [(76, .goto 4, 79, 0, 80, 0, 0, none, []), (79, .iconst 0, 80, 0, 0, 0, 0, none, []), (80, .istore 4, 82, 0, 4, 0, 0, none, []), (82, .aload_n 0, 83, 0, 0, 0, 0, none, []), (83, .invokevirtual 129, 86, 0, 139, 1, 0, none, [(0, 12)]), (86, .iload 4, 88, 0, 4, 0, 0, none, []), (88, .ireturn, 89, 0, 0, 0, 0, none, [])])]
def zc_M_readNumber : z_C := z_find2 zd_M_readNumber
def zd_M_methodNow : List (Nat × List (Nat × z_I)) := [(9, [(0, .aload_n 0, 1, 0, 0, 0, 0, none, []), (1, .getfield 20, 4, 0, 12, 3, 1, none, []), (4, .iconst 0, 5, 0, 0, 0, 0, none, []), (5, .iaload, 6, 0, 0, 0, 0, none, []), (6, .iconst 1, 7, 1, 0, 0, 0, none, []), (7, .isub, 8, 0, 0, 0, 0, none, []), (8, .ireturn, 9, 0, 0, 0, 0, none, [])])]
def zc_M_methodNow : z_C := z_find2 zd_M_methodNow
def zd_M_readNode : List (Nat × List (Nat × z_I)) := [(15, [(0, .aload_n 0, 1, 0, 0, 0, 0, none, []), (1, .invokevirtual 132, 4, 0, 141, 1, 1, none, [(0, 12)]), (4, .istore_n 2, 5, 0, 2, 0, 0, none, []), (5, .iconst 0, 6, 0, 0, 0, 0, none, []), (6, .iload_n 2, 7, 0, 2, 0, 0, none, []), (7, .aload_n 0, 8, 0, 0, 0, 0, none, []), (8, .getfield 20, 11, 0, 12, 3, 1, none, []), (11, .bipush 7, 13, 7, 0, 0, 0, none, []), (13, .iload_n 2, 14, 0, 2, 0, 0, none, []), (14, .iadd, 15, 0, 0, 0, 0, none, [])]),
  (30, [(15, .iaload, 16, 0, 0, 0, 0, none, []), (16, .invokestatic 136, 19, 0, 129, 3, 1, none, []), (19, .istore_n 3, 20, 0, 3, 0, 0, none, []), (20, .aload_n 0, 21, 0, 0, 0, 0, none, []), (21, .getfield 20, 24, 0, 12, 3, 1, none, []), (24, .bipush 7, 26, 7, 0, 0, 0, none, []), (26, .iload_n 2, 27, 0, 2, 0, 0, none, []), (27, .iadd, 28, 0, 0, 0, 0, none, []), (28, .dup2, 29, 0, 0, 0, 0, none, []), (29, .iaload, 30, 0, 0, 0, 0, none, [])]),
  (42, [(30, .iconst 1, 31, 1, 0, 0, 0, none, []), (31, .iadd, 32, 0, 0, 0, 0, none, []), (32, .iastore, 33, 0, 0, 0, 0, none, []), (33, .aload_n 0, 34, 0, 0, 0, 0, none, []), (34, .getfield 20, 37, 0, 12, 3, 1, none, []), (37, .iload_n 3, 38, 0, 3, 0, 0, none, []), (38, .iconst 0, 39, 0, 0, 0, 0, none, []), (39, .iadd, 40, 0, 0, 0, 0, none, []), (40, .iload_n 1, 41, 0, 1, 0, 0, none, []), (41, .iastore, 42, 0, 0, 0, 0, none, [])]),
  (56, [(42, .aload_n 0, 43, 0, 0, 0, 0, none, []), (43, .getfield 20, 46, 0, 12, 3, 1, none, []), (46, .iload_n 3, 47, 0, 3, 0, 0, none, []), (47, .iconst 1, 48, 1, 0, 0, 0, none, []), (48, .iadd, 49, 0, 0, 0, 0, none, []), (49, .aload_n 0, 50, 0, 0, 0, 0, none, []), (50, .iconst 0, 51, 0, 0, 0, 0, none, []), (51, .iload_n 1, 52, 0, 1, 0, 0, none, []), (52, .ifCond .ne 8, 55, 0, 60, 0, 0, none, []), (55, .bipush 9, 57, 9, 0, 0, 0, none, [])]),
  (74, [(57, .goto 4, 60, 0, 61, 0, 0, none, []), (60, .iconst 3, 61, 3, 0, 0, 0, none, []), (61, .bipush (-4), 63, (-4), 0, 0, 0, none, []), (63, .invokevirtual 139, 66, 0, 140, 4, 1, none, [(0, 12)]), (66, .iastore, 67, 0, 0, 0, 0, none, []), (67, .iconst 0, 68, 0, 0, 0, 0, none, []), (68, .istore 4, 70, 0, 4, 0, 0, none, []), (70, .iload 4, 72, 0, 4, 0, 0, some [0, 3, 4], []), (72, .iconst 2, 73, 2, 0, 0, 0, none, []), (73, .if_icmp .ge 56, 76, 0, 129, 0, 0, none, [])]),
  (96, [(76, .aload_n 0, 77, 0, 0, 0, 0, none, []), (77, .getfield 91, 80, 0, 12, 12, 0, none, []), (80, .ifCond .ne 49, 83, 0, 129, 0, 0, none, []), (83, .aload_n 0, 84, 0, 0, 0, 0, none, []), (84, .getfield 100, 87, 0, 12, 10, 0, none, []), (87, .iconst 2, 88, 2, 0, 0, 0, none, []), (88, .if_icmp .ne 41, 91, 0, 129, 0, 0, none, []), (91, .aload_n 0, 92, 0, 0, 0, 0, none, []), (92, .getfield 20, 95, 0, 12, 3, 1, none, []), (95, .iload_n 3, 96, 0, 3, 0, 0, none, [])]),
  (111, [(96, .iconst 3, 97, 3, 0, 0, 0, none, []), (97, .iadd, 98, 0, 0, 0, 0, none, []), (98, .iload 4, 100, 0, 4, 0, 0, none, []), (100, .iadd, 101, 0, 0, 0, 0, none, []), (101, .aload_n 0, 102, 0, 0, 0, 0, none, []), (102, .iconst 0, 103, 0, 0, 0, 0, none, []), (103, .bipush 7, 105, 7, 0, 0, 0, none, []), (105, .bipush 9, 107, 9, 0, 0, 0, none, []), (107, .invokevirtual 139, 110, 0, 140, 4, 1, none, [(0, 12)]), (110, .iastore, 111, 0, 0, 0, 0, none, [])]),
  (123, [(111, .aload_n 0, 112, 0, 0, 0, 0, none, []), (112, .getfield 20, 115, 0, 12, 3, 1, none, []), (115, .iload_n 3, 116, 0, 3, 0, 0, none, []), (116, .iconst 2, 117, 2, 0, 0, 0, none, []), (117, .iadd, 118, 0, 0, 0, 0, none, []), (118, .dup2, 119, 0, 0, 0, 0, none, []), (119, .iaload, 120, 0, 0, 0, 0, none, []), (120, .iconst 1, 121, 1, 0, 0, 0, none, []), (121, .iadd, 122, 0, 0, 0, 0, none, []), (122, .iastore, 123, 0, 0, 0, 0, none, [])]),
  (130, [(123, .iinc 4 1, 126, 1, 4, 0, 0, none, []), (126, .goto (-56), 129, 0, 70, 0, 0, none, []), (129, .return_, 130, 0, 0, 0, 0, none, [])])]
def zc_M_readNode : z_C := z_find2 zd_M_readNode
def zd_M_readClass : List (Nat × List (Nat × z_I)) := [(13, [(0, .aload_n 0, 1, 0, 0, 0, 0, none, []), (1, .iconst 0, 2, 0, 0, 0, 0, none, []), (2, .iconst 3, 3, 3, 0, 0, 0, none, []), (3, .bipush (-4), 5, (-4), 0, 0, 0, none, []), (5, .invokevirtual 139, 8, 0, 140, 4, 1, none, [(0, 12)]), (8, .istore_n 1, 9, 0, 1, 0, 0, none, []), (9, .aload_n 0, 10, 0, 0, 0, 0, none, []), (10, .iload_n 1, 11, 0, 1, 0, 0, none, []), (11, .aload_n 0, 12, 0, 0, 0, 0, none, []), (12, .getfield 75, 15, 0, 12, 4, 0, none, [])]),
  (31, [(15, .if_icmp .le 7, 18, 0, 22, 0, 0, none, []), (18, .iload_n 1, 19, 0, 1, 0, 0, none, []), (19, .goto 7, 22, 0, 26, 0, 0, none, []), (22, .aload_n 0, 23, 0, 0, 0, 0, none, []), (23, .getfield 75, 26, 0, 12, 4, 0, none, []), (26, .putfield 75, 29, 0, 12, 4, 4, none, []), (29, .iload_n 1, 30, 0, 1, 0, 0, none, []), (30, .ireturn, 31, 0, 0, 0, 0, none, [])])]
def zc_M_readClass : z_C := z_find2 zd_M_readClass
def zd_M_readHas : List (Nat × List (Nat × z_I)) := [(15, [(0, .aload_n 0, 1, 0, 0, 0, 0, none, []), (1, .invokevirtual 142, 4, 0, 143, 1, 1, none, [(0, 12)]), (4, .istore_n 1, 5, 0, 1, 0, 0, none, []), (5, .aload_n 0, 6, 0, 0, 0, 0, none, []), (6, .iconst 0, 7, 0, 0, 0, 0, none, []), (7, .iconst 3, 8, 3, 0, 0, 0, none, []), (8, .bipush (-4), 10, (-4), 0, 0, 0, none, []), (10, .invokevirtual 139, 13, 0, 140, 4, 1, none, [(0, 12)]), (13, .istore_n 2, 14, 0, 2, 0, 0, none, []), (14, .aload_n 0, 15, 0, 0, 0, 0, none, [])]),
  (30, [(15, .iconst 0, 16, 0, 0, 0, 0, none, []), (16, .iconst 5, 17, 5, 0, 0, 0, none, []), (17, .bipush (-4), 19, (-4), 0, 0, 0, none, []), (19, .invokevirtual 139, 22, 0, 140, 4, 1, none, [(0, 12)]), (22, .istore_n 3, 23, 0, 3, 0, 0, none, []), (23, .aload_n 0, 24, 0, 0, 0, 0, none, []), (24, .iload_n 3, 25, 0, 3, 0, 0, none, []), (25, .aload_n 0, 26, 0, 0, 0, 0, none, []), (26, .getfield 79, 29, 0, 12, 5, 0, none, []), (29, .if_icmp .le 7, 32, 0, 36, 0, 0, none, [])]),
  (50, [(32, .iload_n 3, 33, 0, 3, 0, 0, none, []), (33, .goto 7, 36, 0, 40, 0, 0, none, []), (36, .aload_n 0, 37, 0, 0, 0, 0, none, []), (37, .getfield 79, 40, 0, 12, 5, 0, none, []), (40, .putfield 79, 43, 0, 12, 5, 4, some [0, 1, 2, 3], []), (43, .aload_n 0, 44, 0, 0, 0, 0, none, []), (44, .getfield 20, 47, 0, 12, 3, 1, none, []), (47, .iconst 0, 48, 0, 0, 0, 0, none, []), (48, .iload_n 1, 49, 0, 1, 0, 0, none, []), (49, .iload_n 2, 50, 0, 2, 0, 0, none, [])]),
  (56, [(50, .invokestatic 71, 53, 0, 130, 3, 1, none, []), (53, .iload_n 3, 54, 0, 3, 0, 0, none, []), (54, .iastore, 55, 0, 0, 0, 0, none, []), (55, .return_, 56, 0, 0, 0, 0, none, [])])]
def zc_M_readHas : z_C := z_find2 zd_M_readHas
def zd_M_readTest : List (Nat × List (Nat × z_I)) := [(14, [(0, .sipush 525, 3, 525, 0, 0, 0, none, []), (3, .iconst 3, 4, 3, 0, 0, 0, none, []), (4, .aload_n 0, 5, 0, 0, 0, 0, none, []), (5, .getfield 20, 8, 0, 12, 3, 1, none, []), (8, .iconst 2, 9, 2, 0, 0, 0, none, []), (9, .iaload, 10, 0, 0, 0, 0, none, []), (10, .imul, 11, 0, 0, 0, 0, none, []), (11, .iadd, 12, 0, 0, 0, 0, none, []), (12, .istore_n 1, 13, 0, 1, 0, 0, none, []), (13, .aload_n 0, 14, 0, 0, 0, 0, none, [])]),
  (28, [(14, .getfield 20, 17, 0, 12, 3, 1, none, []), (17, .iconst 2, 18, 2, 0, 0, 0, none, []), (18, .dup2, 19, 0, 0, 0, 0, none, []), (19, .iaload, 20, 0, 0, 0, 0, none, []), (20, .iconst 1, 21, 1, 0, 0, 0, none, []), (21, .iadd, 22, 0, 0, 0, 0, none, []), (22, .iastore, 23, 0, 0, 0, 0, none, []), (23, .aload_n 0, 24, 0, 0, 0, 0, none, []), (24, .getfield 20, 27, 0, 12, 3, 1, none, []), (27, .iload_n 1, 28, 0, 1, 0, 0, none, [])]),
  (42, [(28, .aload_n 0, 29, 0, 0, 0, 0, none, []), (29, .invokevirtual 142, 32, 0, 143, 1, 1, none, [(0, 12)]), (32, .iastore, 33, 0, 0, 0, 0, none, []), (33, .aload_n 0, 34, 0, 0, 0, 0, none, []), (34, .getfield 20, 37, 0, 12, 3, 1, none, []), (37, .iload_n 1, 38, 0, 1, 0, 0, none, []), (38, .iconst 1, 39, 1, 0, 0, 0, none, []), (39, .iadd, 40, 0, 0, 0, 0, none, []), (40, .aload_n 0, 41, 0, 0, 0, 0, none, []), (41, .iconst 0, 42, 0, 0, 0, 0, none, [])]),
  (59, [(42, .sipush 255, 45, 255, 0, 0, 0, none, []), (45, .bipush (-4), 47, (-4), 0, 0, 0, none, []), (47, .invokevirtual 139, 50, 0, 140, 4, 1, none, [(0, 12)]), (50, .iastore, 51, 0, 0, 0, 0, none, []), (51, .aload_n 0, 52, 0, 0, 0, 0, none, []), (52, .getfield 20, 55, 0, 12, 3, 1, none, []), (55, .iload_n 1, 56, 0, 1, 0, 0, none, []), (56, .iconst 2, 57, 2, 0, 0, 0, none, []), (57, .iadd, 58, 0, 0, 0, 0, none, []), (58, .aload_n 0, 59, 0, 0, 0, 0, none, [])]),
  (69, [(59, .iconst 1, 60, 1, 0, 0, 0, none, []), (60, .bipush 9, 62, 9, 0, 0, 0, none, []), (62, .bipush (-4), 64, (-4), 0, 0, 0, none, []), (64, .invokevirtual 139, 67, 0, 140, 4, 1, none, [(0, 12)]), (67, .iastore, 68, 0, 0, 0, 0, none, []), (68, .return_, 69, 0, 0, 0, 0, none, [])])]
def zc_M_readTest : z_C := z_find2 zd_M_readTest
def zd_M_hasRoom : List (Nat × List (Nat × z_I)) := [(53, [(0, .iload_n 1, 1, 0, 1, 0, 0, none, []), (1, .tableswitch 121 0 5 #[39, 56, 56, 88, 121, 104], 40, 0, 122, 0, 0, none, [(0, 40), (1, 57), (2, 57), (3, 89), (4, 122), (5, 105)]), (40, .aload_n 0, 41, 0, 0, 0, 0, none, []), (41, .getfield 20, 44, 0, 12, 3, 1, none, []), (44, .iconst 0, 45, 0, 0, 0, 0, none, []), (45, .iaload, 46, 0, 0, 0, 0, none, []), (46, .bipush 6, 48, 6, 0, 0, 0, none, []), (48, .if_icmp .ge 7, 51, 0, 55, 0, 0, none, []), (51, .iconst 1, 52, 1, 0, 0, 0, none, []), (52, .goto 4, 55, 0, 56, 0, 0, none, [])]),
  (71, [(55, .iconst 0, 56, 0, 0, 0, 0, none, []), (56, .ireturn, 57, 0, 1, 0, 0, none, []), (57, .aload_n 0, 58, 0, 0, 0, 0, none, []), (58, .getfield 20, 61, 0, 12, 3, 1, none, []), (61, .iconst 0, 62, 0, 0, 0, 0, none, []), (62, .iaload, 63, 0, 0, 0, 0, none, []), (63, .ifCond .le 24, 66, 0, 87, 0, 0, none, []), (66, .aload_n 0, 67, 0, 0, 0, 0, none, []), (67, .getfield 20, 70, 0, 12, 3, 1, none, []), (70, .bipush 7, 72, 7, 0, 0, 0, none, [])]),
  (89, [(72, .aload_n 0, 73, 0, 0, 0, 0, none, []), (73, .invokevirtual 132, 76, 0, 141, 1, 1, none, [(0, 12)]), (76, .iadd, 77, 0, 0, 0, 0, none, []), (77, .iaload, 78, 0, 0, 0, 0, none, []), (78, .bipush 8, 80, 8, 0, 0, 0, none, []), (80, .if_icmp .ge 7, 83, 0, 87, 0, 0, none, []), (83, .iconst 1, 84, 1, 0, 0, 0, none, []), (84, .goto 4, 87, 0, 88, 0, 0, none, []), (87, .iconst 0, 88, 0, 0, 0, 0, none, []), (88, .ireturn, 89, 0, 1, 0, 0, none, [])]),
  (105, [(89, .aload_n 0, 90, 0, 0, 0, 0, none, []), (90, .getfield 20, 93, 0, 12, 3, 1, none, []), (93, .iconst 1, 94, 1, 0, 0, 0, none, []), (94, .iaload, 95, 0, 0, 0, 0, none, []), (95, .iconst 4, 96, 4, 0, 0, 0, none, []), (96, .if_icmp .ge 7, 99, 0, 103, 0, 0, none, []), (99, .iconst 1, 100, 1, 0, 0, 0, none, []), (100, .goto 4, 103, 0, 104, 0, 0, none, []), (103, .iconst 0, 104, 0, 0, 0, 0, none, []), (104, .ireturn, 105, 0, 1, 0, 0, none, [])]),
  (122, [(105, .aload_n 0, 106, 0, 0, 0, 0, none, []), (106, .getfield 20, 109, 0, 12, 3, 1, none, []), (109, .iconst 2, 110, 2, 0, 0, 0, none, []), (110, .iaload, 111, 0, 0, 0, 0, none, []), (111, .bipush 8, 113, 8, 0, 0, 0, none, []), (113, .if_icmp .ge 7, 116, 0, 120, 0, 0, none, []), (116, .iconst 1, 117, 1, 0, 0, 0, none, []), (117, .goto 4, 120, 0, 121, 0, 0, none, []), (120, .iconst 0, 121, 0, 0, 0, 0, none, []), (121, .ireturn, 122, 0, 1, 0, 0, none, [])]),
  (124, [(122, .iconst 1, 123, 1, 0, 0, 0, none, []), (123, .ireturn, 124, 0, 1, 0, 0, none, [])])]
def zc_M_hasRoom : z_C := z_find2 zd_M_hasRoom
def zd_M_readLineOf : List (Nat × List (Nat × z_I)) := [(46, [(0, .iload_n 1, 1, 0, 1, 0, 0, none, []), (1, .tableswitch 106 0 4 #[35, 48, 48, 58, 99], 36, 0, 107, 0, 0, none, [(0, 36), (1, 49), (2, 49), (3, 59), (4, 100)]), (36, .aload_n 0, 37, 0, 0, 0, 0, none, []), (37, .getfield 20, 40, 0, 12, 3, 1, none, []), (40, .iconst 0, 41, 0, 0, 0, 0, none, []), (41, .dup2, 42, 0, 0, 0, 0, none, []), (42, .iaload, 43, 0, 0, 0, 0, none, []), (43, .iconst 1, 44, 1, 0, 0, 0, none, []), (44, .iadd, 45, 0, 0, 0, 0, none, []), (45, .iastore, 46, 0, 0, 0, 0, none, [])]),
  (64, [(46, .goto 65, 49, 0, 111, 0, 0, none, []), (49, .aload_n 0, 50, 0, 0, 0, 0, none, []), (50, .iload_n 1, 51, 0, 1, 0, 0, none, []), (51, .iconst 1, 52, 1, 0, 0, 0, none, []), (52, .isub, 53, 0, 0, 0, 0, none, []), (53, .invokevirtual 145, 56, 0, 142, 2, 0, none, [(0, 12)]), (56, .goto 55, 59, 0, 111, 0, 0, none, []), (59, .aload_n 0, 60, 0, 0, 0, 0, none, []), (60, .getfield 20, 63, 0, 12, 3, 1, none, []), (63, .iconst 3, 64, 3, 0, 0, 0, none, [])]),
  (78, [(64, .aload_n 0, 65, 0, 0, 0, 0, none, []), (65, .getfield 20, 68, 0, 12, 3, 1, none, []), (68, .iconst 1, 69, 1, 0, 0, 0, none, []), (69, .iaload, 70, 0, 0, 0, 0, none, []), (70, .iadd, 71, 0, 0, 0, 0, none, []), (71, .aload_n 0, 72, 0, 0, 0, 0, none, []), (72, .iconst 0, 73, 0, 0, 0, 0, none, []), (73, .aload_n 0, 74, 0, 0, 0, 0, none, []), (74, .getfield 20, 77, 0, 12, 3, 1, none, []), (77, .iconst 1, 78, 1, 0, 0, 0, none, [])]),
  (93, [(78, .iaload, 79, 0, 0, 0, 0, none, []), (79, .iconst 1, 80, 1, 0, 0, 0, none, []), (80, .isub, 81, 0, 0, 0, 0, none, []), (81, .bipush 9, 83, 9, 0, 0, 0, none, []), (83, .invokevirtual 139, 86, 0, 140, 4, 1, none, [(0, 12)]), (86, .iastore, 87, 0, 0, 0, 0, none, []), (87, .aload_n 0, 88, 0, 0, 0, 0, none, []), (88, .getfield 20, 91, 0, 12, 3, 1, none, []), (91, .iconst 1, 92, 1, 0, 0, 0, none, []), (92, .dup2, 93, 0, 0, 0, 0, none, [])]),
  (109, [(93, .iaload, 94, 0, 0, 0, 0, none, []), (94, .iconst 1, 95, 1, 0, 0, 0, none, []), (95, .iadd, 96, 0, 0, 0, 0, none, []), (96, .iastore, 97, 0, 0, 0, 0, none, []), (97, .goto 14, 100, 0, 111, 0, 0, none, []), (100, .aload_n 0, 101, 0, 0, 0, 0, none, []), (101, .invokevirtual 149, 104, 0, 144, 1, 0, none, [(0, 12)]), (104, .goto 7, 107, 0, 111, 0, 0, none, []), (107, .aload_n 0, 108, 0, 0, 0, 0, none, []), (108, .invokevirtual 152, 111, 0, 145, 1, 0, none, [(0, 12)])]),
  (112, [(111, .return_, 112, 0, 0, 0, 0, none, [])])]
def zc_M_readLineOf : z_C := z_find2 zd_M_readLineOf
def zd_M_readLine : List (Nat × List (Nat × z_I)) := [(17, [(0, .aload_n 0, 1, 0, 0, 0, 0, none, []), (1, .invokevirtual 155, 4, 0, 138, 1, 1, none, [(0, 12)]), (4, .istore_n 1, 5, 0, 1, 0, 0, none, []), (5, .aload_n 0, 6, 0, 0, 0, 0, none, []), (6, .iload_n 1, 7, 0, 1, 0, 0, none, []), (7, .bipush (-4), 9, (-4), 0, 0, 0, none, []), (9, .if_icmp .eq 7, 12, 0, 16, 0, 0, none, []), (12, .iconst 1, 13, 1, 0, 0, 0, none, []), (13, .goto 4, 16, 0, 17, 0, 0, none, []), (16, .iconst 0, 17, 0, 0, 0, 0, none, [])]),
  (34, [(17, .iconst 2, 18, 2, 0, 0, 0, some [0, 1], []), (18, .invokevirtual 125, 21, 0, 135, 3, 0, none, [(0, 12)]), (21, .aload_n 0, 22, 0, 0, 0, 0, none, []), (22, .iload_n 1, 23, 0, 1, 0, 0, none, []), (23, .bipush (-4), 25, (-4), 0, 0, 0, none, []), (25, .if_icmp .eq 11, 28, 0, 36, 0, 0, none, []), (28, .aload_n 0, 29, 0, 0, 0, 0, none, []), (29, .iload_n 1, 30, 0, 1, 0, 0, none, []), (30, .invokevirtual 158, 33, 0, 146, 2, 1, none, [(0, 12)]), (33, .ifCond .eq 7, 36, 0, 40, 0, 0, none, [])]),
  (54, [(36, .iconst 1, 37, 1, 0, 0, 0, none, []), (37, .goto 4, 40, 0, 41, 0, 0, none, []), (40, .iconst 0, 41, 0, 0, 0, 0, none, []), (41, .iconst 5, 42, 5, 0, 0, 0, some [0, 1], []), (42, .invokevirtual 125, 45, 0, 135, 3, 0, none, [(0, 12)]), (45, .aload_n 0, 46, 0, 0, 0, 0, none, []), (46, .invokevirtual 129, 49, 0, 139, 1, 0, none, [(0, 12)]), (49, .aload_n 0, 50, 0, 0, 0, 0, none, []), (50, .getfield 91, 53, 0, 12, 12, 0, none, []), (53, .ifCond .le 4, 56, 0, 57, 0, 0, none, [])]),
  (72, [(56, .return_, 57, 0, 0, 0, 0, none, []), (57, .aload_n 0, 58, 0, 0, 0, 0, none, []), (58, .iload_n 1, 59, 0, 1, 0, 0, none, []), (59, .invokevirtual 162, 62, 0, 147, 2, 0, none, [(0, 12)]), (62, .aload_n 0, 63, 0, 0, 0, 0, none, []), (63, .getfield 91, 66, 0, 12, 12, 0, none, []), (66, .ifCond .ne 21, 69, 0, 87, 0, 0, none, []), (69, .aload_n 0, 70, 0, 0, 0, 0, none, []), (70, .aload_n 0, 71, 0, 0, 0, 0, none, []), (71, .getfield 100, 74, 0, 12, 10, 0, none, [])]),
  (92, [(74, .iconst 3, 75, 3, 0, 0, 0, none, []), (75, .if_icmp .ne 7, 78, 0, 82, 0, 0, none, []), (78, .iconst 1, 79, 1, 0, 0, 0, none, []), (79, .goto 4, 82, 0, 83, 0, 0, none, []), (82, .iconst 0, 83, 0, 0, 0, 0, none, []), (83, .iconst 2, 84, 2, 0, 0, 0, some [0], []), (84, .invokevirtual 125, 87, 0, 135, 3, 0, none, [(0, 12)]), (87, .aload_n 0, 88, 0, 0, 0, 0, none, []), (88, .invokevirtual 129, 91, 0, 139, 1, 0, none, [(0, 12)]), (91, .return_, 92, 0, 0, 0, 0, none, [])])]
def zc_M_readLine : z_C := z_find2 zd_M_readLine
def zd_M_isWhole : List (Nat × List (Nat × z_I)) := [(18, [(0, .aload_n 0, 1, 0, 0, 0, 0, none, []), (1, .getfield 75, 4, 0, 12, 4, 0, none, []), (4, .aload_n 0, 5, 0, 0, 0, 0, none, []), (5, .getfield 20, 8, 0, 12, 3, 1, none, []), (8, .iconst 1, 9, 1, 0, 0, 0, none, []), (9, .iaload, 10, 0, 0, 0, 0, none, []), (10, .if_icmp .ge 20, 13, 0, 30, 0, 0, none, []), (13, .aload_n 0, 14, 0, 0, 0, 0, none, []), (14, .getfield 79, 17, 0, 12, 5, 0, none, []), (17, .aload_n 0, 18, 0, 0, 0, 0, none, [])]),
  (34, [(18, .getfield 20, 21, 0, 12, 3, 1, none, []), (21, .iconst 0, 22, 0, 0, 0, 0, none, []), (22, .iaload, 23, 0, 0, 0, 0, none, []), (23, .if_icmp .ge 7, 26, 0, 30, 0, 0, none, []), (26, .iconst 1, 27, 1, 0, 0, 0, none, []), (27, .goto 4, 30, 0, 31, 0, 0, none, []), (30, .iconst 0, 31, 0, 0, 0, 0, none, []), (31, .istore_n 1, 32, 0, 1, 0, 0, none, []), (32, .iconst 0, 33, 0, 0, 0, 0, none, []), (33, .istore_n 2, 34, 0, 2, 0, 0, none, [])]),
  (48, [(34, .iload_n 2, 35, 0, 2, 0, 0, some [0, 1, 2], []), (35, .aload_n 0, 36, 0, 0, 0, 0, none, []), (36, .getfield 20, 39, 0, 12, 3, 1, none, []), (39, .iconst 0, 40, 0, 0, 0, 0, none, []), (40, .iaload, 41, 0, 0, 0, 0, none, []), (41, .if_icmp .ge 112, 44, 0, 153, 0, 0, none, []), (44, .iconst 0, 45, 0, 0, 0, 0, none, []), (45, .istore_n 3, 46, 0, 3, 0, 0, none, []), (46, .iload_n 3, 47, 0, 3, 0, 0, some [0, 1, 2, 3], []), (47, .aload_n 0, 48, 0, 0, 0, 0, none, [])]),
  (63, [(48, .getfield 20, 51, 0, 12, 3, 1, none, []), (51, .bipush 7, 53, 7, 0, 0, 0, none, []), (53, .iload_n 2, 54, 0, 2, 0, 0, none, []), (54, .iadd, 55, 0, 0, 0, 0, none, []), (55, .iaload, 56, 0, 0, 0, 0, none, []), (56, .if_icmp .ge 91, 59, 0, 147, 0, 0, none, []), (59, .iconst 0, 60, 0, 0, 0, 0, none, []), (60, .iload_n 2, 61, 0, 2, 0, 0, none, []), (61, .iload_n 3, 62, 0, 3, 0, 0, none, []), (62, .invokestatic 136, 65, 0, 129, 3, 1, none, [])]),
  (81, [(65, .istore 4, 67, 0, 4, 0, 0, none, []), (67, .iconst 0, 68, 0, 0, 0, 0, none, []), (68, .istore 5, 70, 0, 5, 0, 0, none, []), (70, .iload 5, 72, 0, 5, 0, 0, some [0, 1, 2, 3, 4, 5], []), (72, .aload_n 0, 73, 0, 0, 0, 0, none, []), (73, .getfield 20, 76, 0, 12, 3, 1, none, []), (76, .iload 4, 78, 0, 4, 0, 0, none, []), (78, .iconst 2, 79, 2, 0, 0, 0, none, []), (79, .iadd, 80, 0, 0, 0, 0, none, []), (80, .iaload, 81, 0, 0, 0, 0, none, [])]),
  (99, [(81, .if_icmp .ge 60, 84, 0, 141, 0, 0, none, []), (84, .iload_n 1, 85, 0, 1, 0, 0, none, []), (85, .ifCond .eq 48, 88, 0, 133, 0, 0, none, []), (88, .aload_n 0, 89, 0, 0, 0, 0, none, []), (89, .getfield 20, 92, 0, 12, 3, 1, none, []), (92, .iload 4, 94, 0, 4, 0, 0, none, []), (94, .iconst 3, 95, 3, 0, 0, 0, none, []), (95, .iadd, 96, 0, 0, 0, 0, none, []), (96, .iload 5, 98, 0, 5, 0, 0, none, []), (98, .iadd, 99, 0, 0, 0, 0, none, [])]),
  (116, [(99, .iaload, 100, 0, 0, 0, 0, none, []), (100, .bipush 9, 102, 9, 0, 0, 0, none, []), (102, .if_icmp .eq 27, 105, 0, 129, 0, 0, none, []), (105, .aload_n 0, 106, 0, 0, 0, 0, none, []), (106, .getfield 20, 109, 0, 12, 3, 1, none, []), (109, .iload 4, 111, 0, 4, 0, 0, none, []), (111, .iconst 3, 112, 3, 0, 0, 0, none, []), (112, .iadd, 113, 0, 0, 0, 0, none, []), (113, .iload 5, 115, 0, 5, 0, 0, none, []), (115, .iadd, 116, 0, 0, 0, 0, none, [])]),
  (131, [(116, .iaload, 117, 0, 0, 0, 0, none, []), (117, .aload_n 0, 118, 0, 0, 0, 0, none, []), (118, .getfield 20, 121, 0, 12, 3, 1, none, []), (121, .bipush 7, 123, 7, 0, 0, 0, none, []), (123, .iload_n 2, 124, 0, 2, 0, 0, none, []), (124, .iadd, 125, 0, 0, 0, 0, none, []), (125, .iaload, 126, 0, 0, 0, 0, none, []), (126, .if_icmp .ge 7, 129, 0, 133, 0, 0, none, []), (129, .iconst 1, 130, 1, 0, 0, 0, none, []), (130, .goto 4, 133, 0, 134, 0, 0, none, [])]),
  (155, [(133, .iconst 0, 134, 0, 0, 0, 0, none, []), (134, .istore_n 1, 135, 0, 1, 0, 0, none, []), (135, .iinc 5 1, 138, 1, 5, 0, 0, none, []), (138, .goto (-68), 141, 0, 70, 0, 0, none, []), (141, .iinc 3 1, 144, 1, 3, 0, 0, none, []), (144, .goto (-98), 147, 0, 46, 0, 0, none, []), (147, .iinc 2 1, 150, 1, 2, 0, 0, none, []), (150, .goto (-116), 153, 0, 34, 0, 0, none, []), (153, .iload_n 1, 154, 0, 1, 0, 0, none, []), (154, .ireturn, 155, 0, 1, 0, 0, none, [])])]
def zc_M_isWhole : z_C := z_find2 zd_M_isWhole
def zd_M_text : List (Nat × List (Nat × z_I)) := [(14, [(0, .iconst 0, 1, 0, 0, 0, 0, none, []), (1, .istore_n 1, 2, 0, 1, 0, 0, none, []), (2, .aload_n 0, 3, 0, 0, 0, 0, none, []), (3, .iconst 0, 4, 0, 0, 0, 0, none, []), (4, .putfield 91, 7, 0, 12, 12, 4, none, []), (7, .aload_n 0, 8, 0, 0, 0, 0, none, []), (8, .iconst 0, 9, 0, 0, 0, 0, none, []), (9, .putfield 103, 12, 0, 12, 8, 4, none, []), (12, .aload_n 0, 13, 0, 0, 0, 0, none, []), (13, .invokevirtual 65, 16, 0, 131, 1, 0, none, [(0, 12)])]),
  (36, [(16, .aload_n 0, 17, 0, 0, 0, 0, none, []), (17, .invokevirtual 129, 20, 0, 139, 1, 0, none, [(0, 12)]), (20, .aload_n 0, 21, 0, 0, 0, 0, some [0, 1], []), (21, .getfield 91, 24, 0, 12, 12, 0, none, []), (24, .ifCond .ne 20, 27, 0, 44, 0, 0, none, []), (27, .aload_n 0, 28, 0, 0, 0, 0, none, []), (28, .getfield 100, 31, 0, 12, 10, 0, none, []), (31, .ifCond .eq 13, 34, 0, 44, 0, 0, none, []), (34, .aload_n 0, 35, 0, 0, 0, 0, none, []), (35, .invokevirtual 165, 38, 0, 148, 1, 0, none, [(0, 12)])]),
  (59, [(38, .iinc 1 1, 41, 1, 1, 0, 0, none, []), (41, .goto (-21), 44, 0, 20, 0, 0, none, []), (44, .aload_n 0, 45, 0, 0, 0, 0, some [0, 1], []), (45, .getfield 91, 48, 0, 12, 12, 0, none, []), (48, .ifCond .ne 13, 51, 0, 61, 0, 0, none, []), (51, .aload_n 0, 52, 0, 0, 0, 0, none, []), (52, .aload_n 0, 53, 0, 0, 0, 0, none, []), (53, .invokevirtual 168, 56, 0, 149, 1, 1, none, [(0, 12)]), (56, .bipush 6, 58, 6, 0, 0, 0, none, []), (58, .invokevirtual 125, 61, 0, 135, 3, 0, none, [(0, 12)])]),
  (80, [(61, .aload_n 0, 62, 0, 0, 0, 0, some [0, 1], []), (62, .iconst 0, 63, 0, 0, 0, 0, none, []), (63, .putfield 88, 66, 0, 12, 7, 4, none, []), (66, .aload_n 0, 67, 0, 0, 0, 0, none, []), (67, .getfield 91, 70, 0, 12, 12, 0, none, []), (70, .ifCond .le 11, 73, 0, 81, 0, 0, none, []), (73, .bipush (-10), 75, (-10), 0, 0, 0, none, []), (75, .aload_n 0, 76, 0, 0, 0, 0, none, []), (76, .getfield 97, 79, 0, 12, 13, 0, none, []), (79, .isub, 80, 0, 0, 0, 0, none, [])]),
  (98, [(80, .ireturn, 81, 0, 0, 0, 0, none, []), (81, .iconst 0, 82, 0, 0, 0, 0, none, []), (82, .istore_n 2, 83, 0, 2, 0, 0, none, []), (83, .iload_n 2, 84, 0, 2, 0, 0, some [0, 1, 2], []), (84, .sipush 256, 87, 256, 0, 0, 0, none, []), (87, .if_icmp .ge 28, 90, 0, 115, 0, 0, none, []), (90, .aload_n 0, 91, 0, 0, 0, 0, none, []), (91, .getfield 20, 94, 0, 12, 3, 1, none, []), (94, .sipush 269, 97, 269, 0, 0, 0, none, []), (97, .iload_n 2, 98, 0, 2, 0, 0, none, [])]),
  (113, [(98, .iadd, 99, 0, 0, 0, 0, none, []), (99, .aload_n 0, 100, 0, 0, 0, 0, none, []), (100, .getfield 20, 103, 0, 12, 3, 1, none, []), (103, .bipush 13, 105, 13, 0, 0, 0, none, []), (105, .iload_n 2, 106, 0, 2, 0, 0, none, []), (106, .iadd, 107, 0, 0, 0, 0, none, []), (107, .iaload, 108, 0, 0, 0, 0, none, []), (108, .iastore, 109, 0, 0, 0, 0, none, []), (109, .iinc 2 1, 112, 1, 2, 0, 0, none, []), (112, .goto (-29), 115, 0, 83, 0, 0, none, [])]),
  (121, [(115, .aload_n 0, 116, 0, 0, 0, 0, none, []), (116, .invokevirtual 68, 119, 0, 132, 1, 0, none, [(0, 12)]), (119, .iload_n 1, 120, 0, 1, 0, 0, none, []), (120, .ireturn, 121, 0, 0, 0, 0, none, [])])]
def zc_M_text : z_C := z_find2 zd_M_text
def zd_M_fault : List (Nat × List (Nat × z_I)) := [(5, [(0, .aload_n 0, 1, 0, 0, 0, 0, none, []), (1, .getfield 91, 4, 0, 12, 12, 0, none, []), (4, .ireturn, 5, 0, 0, 0, 0, none, [])])]
def zc_M_fault : z_C := z_find2 zd_M_fault
def zd_M_isMethod : List (Nat × List (Nat × z_I)) := [(12, [(0, .iload_n 1, 1, 0, 1, 0, 0, none, []), (1, .i2l, 2, 0, 0, 0, 0, none, []), (2, .lconst 0, 3, 0, 0, 0, 0, none, []), (3, .aload_n 0, 4, 0, 0, 0, 0, none, []), (4, .getfield 7, 7, 0, 12, 0, 1, none, []), (7, .iconst 0, 8, 0, 0, 0, 0, none, []), (8, .iaload, 9, 0, 0, 0, 0, none, []), (9, .iconst 1, 10, 1, 0, 0, 0, none, []), (10, .isub, 11, 0, 0, 0, 0, none, []), (11, .i2l, 12, 0, 0, 0, 0, none, [])]),
  (16, [(12, .invokestatic 84, 15, 0, 127, 3, 1, none, []), (15, .ireturn, 16, 0, 1, 0, 0, none, [])])]
def zc_M_isMethod : z_C := z_find2 zd_M_isMethod
def zd_M_isNode : List (Nat × List (Nat × z_I)) := [(16, [(0, .aload_n 0, 1, 0, 0, 0, 0, none, []), (1, .iload_n 1, 2, 0, 1, 0, 0, none, []), (2, .invokevirtual 172, 5, 0, 152, 2, 1, none, [(0, 12)]), (5, .ifCond .eq 28, 8, 0, 33, 0, 0, none, []), (8, .iload_n 2, 9, 0, 2, 0, 0, none, []), (9, .i2l, 10, 0, 0, 0, 0, none, []), (10, .lconst 0, 11, 0, 0, 0, 0, none, []), (11, .aload_n 0, 12, 0, 0, 0, 0, none, []), (12, .getfield 7, 15, 0, 12, 0, 1, none, []), (15, .bipush 7, 17, 7, 0, 0, 0, none, [])]),
  (31, [(17, .iload_n 1, 18, 0, 1, 0, 0, none, []), (18, .iadd, 19, 0, 0, 0, 0, none, []), (19, .iaload, 20, 0, 0, 0, 0, none, []), (20, .iconst 1, 21, 1, 0, 0, 0, none, []), (21, .isub, 22, 0, 0, 0, 0, none, []), (22, .i2l, 23, 0, 0, 0, 0, none, []), (23, .invokestatic 84, 26, 0, 127, 3, 1, none, []), (26, .ifCond .eq 7, 29, 0, 33, 0, 0, none, []), (29, .iconst 1, 30, 1, 0, 0, 0, none, []), (30, .goto 4, 33, 0, 34, 0, 0, none, [])]),
  (35, [(33, .iconst 0, 34, 0, 0, 0, 0, none, []), (34, .ireturn, 35, 0, 1, 0, 0, none, [])])]
def zc_M_isNode : z_C := z_find2 zd_M_isNode
def zd_M_isClass : List (Nat × List (Nat × z_I)) := [(12, [(0, .iload_n 1, 1, 0, 1, 0, 0, none, []), (1, .i2l, 2, 0, 0, 0, 0, none, []), (2, .lconst 0, 3, 0, 0, 0, 0, none, []), (3, .aload_n 0, 4, 0, 0, 0, 0, none, []), (4, .getfield 7, 7, 0, 12, 0, 1, none, []), (7, .iconst 1, 8, 1, 0, 0, 0, none, []), (8, .iaload, 9, 0, 0, 0, 0, none, []), (9, .iconst 1, 10, 1, 0, 0, 0, none, []), (10, .isub, 11, 0, 0, 0, 0, none, []), (11, .i2l, 12, 0, 0, 0, 0, none, [])]),
  (16, [(12, .invokestatic 84, 15, 0, 127, 3, 1, none, []), (15, .ireturn, 16, 0, 1, 0, 0, none, [])])]
def zc_M_isClass : z_C := z_find2 zd_M_isClass
def zd_M_isName : List (Nat × List (Nat × z_I)) := [(10, [(0, .iload_n 0, 1, 0, 0, 0, 0, none, []), (1, .i2l, 2, 0, 0, 0, 0, none, []), (2, .lconst 0, 3, 0, 0, 0, 0, none, []), (3, .ldc2_w 175, 6, 3, 0, 0, 0, none, []), (6, .invokestatic 84, 9, 0, 127, 3, 1, none, []), (9, .ireturn, 10, 0, 1, 0, 0, none, [])])]
def zc_M_isName : z_C := z_find2 zd_M_isName
def zd_M_isTest : List (Nat × List (Nat × z_I)) := [(12, [(0, .iload_n 1, 1, 0, 1, 0, 0, none, []), (1, .i2l, 2, 0, 0, 0, 0, none, []), (2, .lconst 0, 3, 0, 0, 0, 0, none, []), (3, .aload_n 0, 4, 0, 0, 0, 0, none, []), (4, .getfield 7, 7, 0, 12, 0, 1, none, []), (7, .iconst 2, 8, 2, 0, 0, 0, none, []), (8, .iaload, 9, 0, 0, 0, 0, none, []), (9, .iconst 1, 10, 1, 0, 0, 0, none, []), (10, .isub, 11, 0, 0, 0, 0, none, []), (11, .i2l, 12, 0, 0, 0, 0, none, [])]),
  (16, [(12, .invokestatic 84, 15, 0, 127, 3, 1, none, []), (15, .ireturn, 16, 0, 1, 0, 0, none, [])])]
def zc_M_isTest : z_C := z_find2 zd_M_isTest
def zd_M_isPart : List (Nat × List (Nat × z_I)) := [(8, [(0, .iload_n 0, 1, 0, 0, 0, 0, none, []), (1, .i2l, 2, 0, 0, 0, 0, none, []), (2, .lconst 0, 3, 0, 0, 0, 0, none, []), (3, .lconst 1, 4, 1, 0, 0, 0, none, []), (4, .invokestatic 84, 7, 0, 127, 3, 1, none, []), (7, .ireturn, 8, 0, 1, 0, 0, none, [])])]
def zc_M_isPart : z_C := z_find2 zd_M_isPart
def zd_M_ofNode : List (Nat × List (Nat × z_I)) := [(15, [(0, .aload_n 0, 1, 0, 0, 0, 0, none, []), (1, .getfield 7, 4, 0, 12, 0, 1, none, []), (4, .iload_n 1, 5, 0, 1, 0, 0, none, []), (5, .iload_n 2, 6, 0, 2, 0, 0, none, []), (6, .iload_n 3, 7, 0, 3, 0, 0, none, []), (7, .invokestatic 136, 10, 0, 129, 3, 1, none, []), (10, .iload 4, 12, 0, 4, 0, 0, none, []), (12, .iadd, 13, 0, 0, 0, 0, none, []), (13, .iaload, 14, 0, 0, 0, 0, none, []), (14, .ireturn, 15, 0, 0, 0, 0, none, [])])]
def zc_M_ofNode : z_C := z_find2 zd_M_ofNode
def zd_M_meantBy : List (Nat × List (Nat × z_I)) := [(18, [(0, .iload_n 2, 1, 0, 2, 0, 0, none, []), (1, .istore 4, 3, 0, 4, 0, 0, none, []), (3, .iload 4, 5, 0, 4, 0, 0, some [0, 1, 3, 4], []), (5, .bipush 9, 7, 9, 0, 0, 0, none, []), (7, .if_icmp .eq 34, 10, 0, 41, 0, 0, none, []), (10, .aload_n 0, 11, 0, 0, 0, 0, none, []), (11, .getfield 7, 14, 0, 12, 0, 1, none, []), (14, .iload_n 1, 15, 0, 1, 0, 0, none, []), (15, .iload 4, 17, 0, 4, 0, 0, none, []), (17, .iload_n 3, 18, 0, 3, 0, 0, none, [])]),
  (36, [(18, .invokestatic 71, 21, 0, 130, 3, 1, none, []), (21, .iaload, 22, 0, 0, 0, 0, none, []), (22, .bipush (-4), 24, (-4), 0, 0, 0, none, []), (24, .if_icmp .ne 17, 27, 0, 41, 0, 0, none, []), (27, .aload_n 0, 28, 0, 0, 0, 0, none, []), (28, .getfield 7, 31, 0, 12, 0, 1, none, []), (31, .iconst 3, 32, 3, 0, 0, 0, none, []), (32, .iload 4, 34, 0, 4, 0, 0, none, []), (34, .iadd, 35, 0, 0, 0, 0, none, []), (35, .iaload, 36, 0, 0, 0, 0, none, [])]),
  (58, [(36, .istore 4, 38, 0, 4, 0, 0, none, []), (38, .goto (-35), 41, 0, 3, 0, 0, none, []), (41, .iload 4, 43, 0, 4, 0, 0, some [0, 1, 3, 4], []), (43, .bipush 9, 45, 9, 0, 0, 0, none, []), (45, .if_icmp .ne 8, 48, 0, 53, 0, 0, none, []), (48, .bipush (-4), 50, (-4), 0, 0, 0, none, []), (50, .goto 15, 53, 0, 65, 0, 0, none, []), (53, .aload_n 0, 54, 0, 0, 0, 0, none, []), (54, .getfield 7, 57, 0, 12, 0, 1, none, []), (57, .iload_n 1, 58, 0, 1, 0, 0, none, [])]),
  (66, [(58, .iload 4, 60, 0, 4, 0, 0, none, []), (60, .iload_n 3, 61, 0, 3, 0, 0, none, []), (61, .invokestatic 71, 64, 0, 130, 3, 1, none, []), (64, .iaload, 65, 0, 0, 0, 0, none, []), (65, .ireturn, 66, 0, 0, 0, 0, none, [])])]
def zc_M_meantBy : z_C := z_find2 zd_M_meantBy
def zd_M_says : List (Nat × List (Nat × z_I)) := [(14, [(0, .aload_n 0, 1, 0, 0, 0, 0, none, []), (1, .bipush 31, 3, 31, 0, 0, 0, none, []), (3, .aload_n 0, 4, 0, 0, 0, 0, none, []), (4, .getfield 177, 7, 0, 12, 19, 0, none, []), (7, .imul, 8, 0, 0, 0, 0, none, []), (8, .iload_n 1, 9, 0, 1, 0, 0, none, []), (9, .iadd, 10, 0, 0, 0, 0, none, []), (10, .putfield 177, 13, 0, 12, 19, 4, none, []), (13, .return_, 14, 0, 0, 0, 0, none, [])])]
def zc_M_says : z_C := z_find2 zd_M_says
def zd_M_goesTo : List (Nat × List (Nat × z_I)) := [(17, [(0, .aload_n 0, 1, 0, 0, 0, 0, none, []), (1, .getfield 180, 4, 0, 12, 18, 0, none, []), (4, .bipush 60, 6, 60, 0, 0, 0, none, []), (6, .if_icmp .ne 9, 9, 0, 15, 0, 0, none, []), (9, .aload_n 0, 10, 0, 0, 0, 0, none, []), (10, .iconst 1, 11, 1, 0, 0, 0, none, []), (11, .putfield 183, 14, 0, 12, 21, 3, none, []), (14, .return_, 15, 0, 0, 0, 0, none, []), (15, .aload_n 0, 16, 0, 0, 0, 0, none, []), (16, .getfield 26, 19, 0, 12, 14, 1, none, [])]),
  (33, [(19, .aload_n 0, 20, 0, 0, 0, 0, none, []), (20, .getfield 187, 23, 0, 12, 17, 0, none, []), (23, .iconst 1, 24, 1, 0, 0, 0, none, []), (24, .isub, 25, 0, 0, 0, 0, none, []), (25, .iaload, 26, 0, 0, 0, 0, none, []), (26, .istore_n 3, 27, 0, 3, 0, 0, none, []), (27, .aload_n 0, 28, 0, 0, 0, 0, none, []), (28, .dup, 29, 0, 0, 0, 0, none, []), (29, .getfield 180, 32, 0, 12, 18, 0, none, []), (32, .iconst 1, 33, 1, 0, 0, 0, none, [])]),
  (49, [(33, .iadd, 34, 0, 0, 0, 0, none, []), (34, .putfield 180, 37, 0, 12, 18, 4, none, []), (37, .aload_n 0, 38, 0, 0, 0, 0, none, []), (38, .getfield 29, 41, 0, 12, 15, 1, none, []), (41, .aload_n 0, 42, 0, 0, 0, 0, none, []), (42, .getfield 187, 45, 0, 12, 17, 0, none, []), (45, .iconst 1, 46, 1, 0, 0, 0, none, []), (46, .isub, 47, 0, 0, 0, 0, none, []), (47, .iload_n 2, 48, 0, 2, 0, 0, none, []), (48, .iastore, 49, 0, 0, 0, 0, none, [])]),
  (61, [(49, .aload_n 0, 50, 0, 0, 0, 0, none, []), (50, .aload_n 0, 51, 0, 0, 0, 0, none, []), (51, .iload_n 1, 52, 0, 1, 0, 0, none, []), (52, .iload_n 3, 53, 0, 3, 0, 0, none, []), (53, .iload_n 2, 54, 0, 2, 0, 0, none, []), (54, .iconst 1, 55, 1, 0, 0, 0, none, []), (55, .invokevirtual 190, 58, 0, 158, 5, 1, none, [(0, 12)]), (58, .aload_n 0, 59, 0, 0, 0, 0, none, []), (59, .iload_n 1, 60, 0, 1, 0, 0, none, []), (60, .iload_n 3, 61, 0, 3, 0, 0, none, [])]),
  (80, [(61, .iload_n 2, 62, 0, 2, 0, 0, none, []), (62, .iconst 0, 63, 0, 0, 0, 0, none, []), (63, .invokevirtual 190, 66, 0, 158, 5, 1, none, [(0, 12)]), (66, .ifCond .ne 7, 69, 0, 73, 0, 0, none, []), (69, .iconst 1, 70, 1, 0, 0, 0, none, []), (70, .goto 5, 73, 0, 75, 0, 0, none, []), (73, .bipush 11, 75, 11, 0, 0, 0, none, []), (75, .iadd, 76, 0, 0, 0, 0, none, []), (76, .invokevirtual 194, 79, 0, 160, 2, 0, none, [(0, 12)]), (79, .return_, 80, 0, 0, 0, 0, none, [])])]
def zc_M_goesTo : z_C := z_find2 zd_M_goesTo
def zd_M_comesBack : List (Nat × List (Nat × z_I)) := [(16, [(0, .aload_n 0, 1, 0, 0, 0, 0, none, []), (1, .dup, 2, 0, 0, 0, 0, none, []), (2, .getfield 187, 5, 0, 12, 17, 0, none, []), (5, .iconst 1, 6, 1, 0, 0, 0, none, []), (6, .isub, 7, 0, 0, 0, 0, none, []), (7, .putfield 187, 10, 0, 12, 17, 4, none, []), (10, .aload_n 0, 11, 0, 0, 0, 0, none, []), (11, .aload_n 0, 12, 0, 0, 0, 0, none, []), (12, .getfield 187, 15, 0, 12, 17, 0, none, []), (15, .ifCond .ne 7, 18, 0, 22, 0, 0, none, [])]),
  (27, [(18, .iconst 1, 19, 1, 0, 0, 0, none, []), (19, .goto 4, 22, 0, 23, 0, 0, none, []), (22, .iconst 0, 23, 0, 0, 0, 0, none, []), (23, .putfield 183, 26, 0, 12, 21, 3, none, []), (26, .return_, 27, 0, 0, 0, 0, none, [])])]
def zc_M_comesBack : z_C := z_find2 zd_M_comesBack
def zd_M_enters : List (Nat × List (Nat × z_I)) := [(13, [(0, .aload_n 0, 1, 0, 0, 0, 0, none, []), (1, .getfield 32, 4, 0, 12, 16, 1, none, []), (4, .bipush 100, 6, 100, 0, 0, 0, none, []), (6, .iload_n 2, 7, 0, 2, 0, 0, none, []), (7, .iadd, 8, 0, 0, 0, 0, none, []), (8, .iconst 1, 9, 1, 0, 0, 0, none, []), (9, .bastore, 10, 0, 0, 0, 0, none, []), (10, .aload_n 0, 11, 0, 0, 0, 0, none, []), (11, .iload_n 2, 12, 0, 2, 0, 0, none, []), (12, .bipush 101, 14, 101, 0, 0, 0, none, [])]),
  (30, [(14, .iadd, 15, 0, 0, 0, 0, none, []), (15, .invokevirtual 194, 18, 0, 160, 2, 0, none, [(0, 12)]), (18, .aload_n 0, 19, 0, 0, 0, 0, none, []), (19, .getfield 26, 22, 0, 12, 14, 1, none, []), (22, .aload_n 0, 23, 0, 0, 0, 0, none, []), (23, .getfield 187, 26, 0, 12, 17, 0, none, []), (26, .iload_n 2, 27, 0, 2, 0, 0, none, []), (27, .iastore, 28, 0, 0, 0, 0, none, []), (28, .aload_n 0, 29, 0, 0, 0, 0, none, []), (29, .dup, 30, 0, 0, 0, 0, none, [])]),
  (47, [(30, .getfield 187, 33, 0, 12, 17, 0, none, []), (33, .iconst 1, 34, 1, 0, 0, 0, none, []), (34, .iadd, 35, 0, 0, 0, 0, none, []), (35, .putfield 187, 38, 0, 12, 17, 4, none, []), (38, .aload_n 0, 39, 0, 0, 0, 0, none, []), (39, .getfield 7, 42, 0, 12, 0, 1, none, []), (42, .bipush 7, 44, 7, 0, 0, 0, none, []), (44, .iload_n 2, 45, 0, 2, 0, 0, none, []), (45, .iadd, 46, 0, 0, 0, 0, none, []), (46, .iaload, 47, 0, 0, 0, 0, none, [])]),
  (63, [(47, .ifCond .ne 9, 50, 0, 56, 0, 0, none, []), (50, .aload_n 0, 51, 0, 0, 0, 0, none, []), (51, .invokevirtual 197, 54, 0, 162, 1, 0, none, [(0, 12)]), (54, .iconst 0, 55, 0, 0, 0, 0, none, []), (55, .ireturn, 56, 0, 1, 0, 0, none, []), (56, .aload_n 0, 57, 0, 0, 0, 0, none, []), (57, .iload_n 1, 58, 0, 1, 0, 0, none, []), (58, .iconst 0, 59, 0, 0, 0, 0, none, []), (59, .invokevirtual 200, 62, 0, 161, 3, 0, none, [(0, 12)]), (62, .iconst 1, 63, 1, 0, 0, 0, none, [])]),
  (64, [(63, .ireturn, 64, 0, 1, 0, 0, none, [])])]
def zc_M_enters : z_C := z_find2 zd_M_enters
def zd_M_goesOn : List (Nat × List (Nat × z_I)) := [(18, [(0, .iconst 1, 1, 1, 0, 0, 0, none, []), (1, .istore_n 3, 2, 0, 3, 0, 0, none, []), (2, .iload_n 3, 3, 0, 3, 0, 0, some [0, 1, 2, 3], []), (3, .ifCond .eq 171, 6, 0, 174, 0, 0, none, []), (6, .aload_n 0, 7, 0, 0, 0, 0, none, []), (7, .getfield 183, 10, 0, 12, 21, 0, none, []), (10, .ifCond .ne 164, 13, 0, 174, 0, 0, none, []), (13, .aload_n 0, 14, 0, 0, 0, 0, none, []), (14, .getfield 26, 17, 0, 12, 14, 1, none, []), (17, .aload_n 0, 18, 0, 0, 0, 0, none, [])]),
  (35, [(18, .getfield 187, 21, 0, 12, 17, 0, none, []), (21, .iconst 1, 22, 1, 0, 0, 0, none, []), (22, .isub, 23, 0, 0, 0, 0, none, []), (23, .iaload, 24, 0, 0, 0, 0, none, []), (24, .istore 4, 26, 0, 4, 0, 0, none, []), (26, .aload_n 0, 27, 0, 0, 0, 0, none, []), (27, .getfield 29, 30, 0, 12, 15, 1, none, []), (30, .aload_n 0, 31, 0, 0, 0, 0, none, []), (31, .getfield 187, 34, 0, 12, 17, 0, none, []), (34, .iconst 1, 35, 1, 0, 0, 0, none, [])]),
  (50, [(35, .isub, 36, 0, 0, 0, 0, none, []), (36, .iaload, 37, 0, 0, 0, 0, none, []), (37, .istore 5, 39, 0, 5, 0, 0, none, []), (39, .aload_n 0, 40, 0, 0, 0, 0, none, []), (40, .iload_n 1, 41, 0, 1, 0, 0, none, []), (41, .iload 4, 43, 0, 4, 0, 0, none, []), (43, .iload 5, 45, 0, 5, 0, 0, none, []), (45, .iconst 2, 46, 2, 0, 0, 0, none, []), (46, .invokevirtual 190, 49, 0, 158, 5, 1, none, [(0, 12)]), (49, .istore 6, 51, 0, 6, 0, 0, none, [])]),
  (71, [(51, .bipush 9, 53, 9, 0, 0, 0, none, []), (53, .istore 7, 55, 0, 7, 0, 0, none, []), (55, .iload 6, 57, 0, 6, 0, 0, none, []), (57, .ifCond .le 83, 60, 0, 140, 0, 0, none, []), (60, .iload 6, 62, 0, 6, 0, 0, none, []), (62, .iconst 1, 63, 1, 0, 0, 0, none, []), (63, .if_icmp .ne 7, 66, 0, 70, 0, 0, none, []), (66, .iconst 0, 67, 0, 0, 0, 0, none, []), (67, .goto 14, 70, 0, 81, 0, 0, none, []), (70, .iload_n 2, 71, 0, 2, 0, 0, none, [])]),
  (85, [(71, .aload_n 0, 72, 0, 0, 0, 0, none, []), (72, .getfield 204, 75, 0, 12, 20, 0, none, []), (75, .bipush 8, 77, 8, 0, 0, 0, none, []), (77, .irem, 78, 0, 0, 0, 0, none, []), (78, .ishr, 79, 0, 0, 0, 0, none, []), (79, .iconst 1, 80, 1, 0, 0, 0, none, []), (80, .iand, 81, 0, 0, 0, 0, none, []), (81, .istore 8, 83, 0, 8, 0, 0, some [0, 1, 2, 4, 5, 6], []), (83, .aload_n 0, 84, 0, 0, 0, 0, none, []), (84, .dup, 85, 0, 0, 0, 0, none, [])]),
  (104, [(85, .getfield 204, 88, 0, 12, 20, 0, none, []), (88, .iload 6, 90, 0, 6, 0, 0, none, []), (90, .iconst 2, 91, 2, 0, 0, 0, none, []), (91, .if_icmp .ne 7, 94, 0, 98, 0, 0, none, []), (94, .iconst 1, 95, 1, 0, 0, 0, none, []), (95, .goto 4, 98, 0, 99, 0, 0, none, []), (98, .iconst 0, 99, 0, 0, 0, 0, none, []), (99, .invokestatic 207, 102, 0, 128, 1, 1, some [0, 1, 2, 4, 5, 8], []), (102, .iadd, 103, 0, 0, 0, 0, none, []), (103, .putfield 204, 106, 0, 12, 20, 4, none, [])]),
  (122, [(106, .aload_n 0, 107, 0, 0, 0, 0, none, []), (107, .iload_n 1, 108, 0, 1, 0, 0, none, []), (108, .iload 4, 110, 0, 4, 0, 0, none, []), (110, .iload 5, 112, 0, 5, 0, 0, none, []), (112, .iconst 3, 113, 3, 0, 0, 0, none, []), (113, .iload 8, 115, 0, 8, 0, 0, none, []), (115, .iadd, 116, 0, 0, 0, 0, none, []), (116, .invokevirtual 190, 119, 0, 158, 5, 1, none, [(0, 12)]), (119, .istore 7, 121, 0, 7, 0, 0, none, []), (121, .aload_n 0, 122, 0, 0, 0, 0, none, [])]),
  (138, [(122, .getfield 32, 125, 0, 12, 16, 1, none, []), (125, .bipush 16, 127, 16, 0, 0, 0, none, []), (127, .iload 4, 129, 0, 4, 0, 0, none, []), (129, .imul, 130, 0, 0, 0, 0, none, []), (130, .iconst 2, 131, 2, 0, 0, 0, none, []), (131, .iload 5, 133, 0, 5, 0, 0, none, []), (133, .imul, 134, 0, 0, 0, 0, none, []), (134, .iadd, 135, 0, 0, 0, 0, none, []), (135, .iload 8, 137, 0, 8, 0, 0, none, []), (137, .iadd, 138, 0, 0, 0, 0, none, [])]),
  (154, [(138, .iconst 1, 139, 1, 0, 0, 0, none, []), (139, .bastore, 140, 0, 0, 0, 0, none, []), (140, .iload 7, 142, 0, 7, 0, 0, some [0, 1, 2, 7], []), (142, .bipush 9, 144, 9, 0, 0, 0, none, []), (144, .if_icmp .ne 7, 147, 0, 151, 0, 0, none, []), (147, .iconst 1, 148, 1, 0, 0, 0, none, []), (148, .goto 4, 151, 0, 152, 0, 0, none, []), (151, .iconst 0, 152, 0, 0, 0, 0, none, []), (152, .istore_n 3, 153, 0, 3, 0, 0, some [0, 1, 2, 7], []), (153, .iload_n 3, 154, 0, 3, 0, 0, none, [])]),
  (175, [(154, .ifCond .eq 10, 157, 0, 164, 0, 0, none, []), (157, .aload_n 0, 158, 0, 0, 0, 0, none, []), (158, .invokevirtual 197, 161, 0, 162, 1, 0, none, [(0, 12)]), (161, .goto 10, 164, 0, 171, 0, 0, none, []), (164, .aload_n 0, 165, 0, 0, 0, 0, none, []), (165, .iload_n 1, 166, 0, 1, 0, 0, none, []), (166, .iload 7, 168, 0, 7, 0, 0, none, []), (168, .invokevirtual 200, 171, 0, 161, 3, 0, none, [(0, 12)]), (171, .goto (-169), 174, 0, 2, 0, 0, none, []), (174, .return_, 175, 0, 0, 0, 0, none, [])])]
def zc_M_goesOn : z_C := z_find2 zd_M_goesOn
def zd_M_callsIn : List (Nat × List (Nat × z_I)) := [(14, [(0, .aload_n 0, 1, 0, 0, 0, 0, none, []), (1, .getfield 26, 4, 0, 12, 14, 1, none, []), (4, .aload_n 0, 5, 0, 0, 0, 0, none, []), (5, .getfield 187, 8, 0, 12, 17, 0, none, []), (8, .iconst 1, 9, 1, 0, 0, 0, none, []), (9, .isub, 10, 0, 0, 0, 0, none, []), (10, .iaload, 11, 0, 0, 0, 0, none, []), (11, .istore_n 3, 12, 0, 3, 0, 0, none, []), (12, .aload_n 0, 13, 0, 0, 0, 0, none, []), (13, .getfield 29, 16, 0, 12, 15, 1, none, [])]),
  (29, [(16, .aload_n 0, 17, 0, 0, 0, 0, none, []), (17, .getfield 187, 20, 0, 12, 17, 0, none, []), (20, .iconst 1, 21, 1, 0, 0, 0, none, []), (21, .isub, 22, 0, 0, 0, 0, none, []), (22, .iaload, 23, 0, 0, 0, 0, none, []), (23, .istore 4, 25, 0, 4, 0, 0, none, []), (25, .aload_n 0, 26, 0, 0, 0, 0, none, []), (26, .iload_n 1, 27, 0, 1, 0, 0, none, []), (27, .iload_n 3, 28, 0, 3, 0, 0, none, []), (28, .iload 4, 30, 0, 4, 0, 0, none, [])]),
  (45, [(30, .iconst 0, 31, 0, 0, 0, 0, none, []), (31, .invokevirtual 190, 34, 0, 158, 5, 1, none, [(0, 12)]), (34, .ifCond .ne 5, 37, 0, 39, 0, 0, none, []), (37, .iconst 0, 38, 0, 0, 0, 0, none, []), (38, .ireturn, 39, 0, 1, 0, 0, none, []), (39, .aload_n 0, 40, 0, 0, 0, 0, none, []), (40, .iload_n 1, 41, 0, 1, 0, 0, none, []), (41, .iload_n 3, 42, 0, 3, 0, 0, none, []), (42, .iload 4, 44, 0, 4, 0, 0, none, []), (44, .iconst 1, 45, 1, 0, 0, 0, none, [])]),
  (62, [(45, .invokevirtual 190, 48, 0, 158, 5, 1, none, [(0, 12)]), (48, .istore 5, 50, 0, 5, 0, 0, none, []), (50, .aload_n 0, 51, 0, 0, 0, 0, none, []), (51, .getfield 32, 54, 0, 12, 16, 1, none, []), (54, .sipush 200, 57, 200, 0, 0, 0, none, []), (57, .iconst 4, 58, 4, 0, 0, 0, none, []), (58, .iload_n 2, 59, 0, 2, 0, 0, none, []), (59, .imul, 60, 0, 0, 0, 0, none, []), (60, .iadd, 61, 0, 0, 0, 0, none, []), (61, .iload 5, 63, 0, 5, 0, 0, none, [])]),
  (77, [(63, .iadd, 64, 0, 0, 0, 0, none, []), (64, .iconst 1, 65, 1, 0, 0, 0, none, []), (65, .bastore, 66, 0, 0, 0, 0, none, []), (66, .aload_n 0, 67, 0, 0, 0, 0, none, []), (67, .iload_n 1, 68, 0, 1, 0, 0, none, []), (68, .iload_n 2, 69, 0, 2, 0, 0, none, []), (69, .iload 5, 71, 0, 5, 0, 0, none, []), (71, .invokevirtual 211, 74, 0, 159, 4, 1, none, [(0, 12)]), (74, .istore 6, 76, 0, 6, 0, 0, none, []), (76, .iload 6, 78, 0, 6, 0, 0, none, [])]),
  (96, [(78, .bipush (-4), 80, (-4), 0, 0, 0, none, []), (80, .if_icmp .eq 25, 83, 0, 105, 0, 0, none, []), (83, .aload_n 0, 84, 0, 0, 0, 0, none, []), (84, .getfield 187, 87, 0, 12, 17, 0, none, []), (87, .iconst 4, 88, 4, 0, 0, 0, none, []), (88, .if_icmp .gt 17, 91, 0, 105, 0, 0, none, []), (91, .aload_n 0, 92, 0, 0, 0, 0, none, []), (92, .iload_n 1, 93, 0, 1, 0, 0, none, []), (93, .iload 6, 95, 0, 6, 0, 0, none, []), (95, .invokevirtual 214, 98, 0, 163, 3, 1, none, [(0, 12)])]),
  (107, [(98, .ifCond .eq 7, 101, 0, 105, 0, 0, none, []), (101, .iconst 1, 102, 1, 0, 0, 0, none, []), (102, .goto 4, 105, 0, 106, 0, 0, none, []), (105, .iconst 0, 106, 0, 0, 0, 0, none, []), (106, .ireturn, 107, 0, 1, 0, 0, none, [])])]
def zc_M_callsIn : z_C := z_find2 zd_M_callsIn
def zd_M_runs : List (Nat × List (Nat × z_I)) := [(19, [(0, .iconst 0, 1, 0, 0, 0, 0, none, []), (1, .istore 4, 3, 0, 4, 0, 0, none, []), (3, .iload 4, 5, 0, 4, 0, 0, some [0, 1, 2, 3, 4], []), (5, .sipush 216, 8, 216, 0, 0, 0, none, []), (8, .if_icmp .ge 17, 11, 0, 25, 0, 0, none, []), (11, .aload_n 0, 12, 0, 0, 0, 0, none, []), (12, .getfield 32, 15, 0, 12, 16, 1, none, []), (15, .iload 4, 17, 0, 4, 0, 0, none, []), (17, .iconst 0, 18, 0, 0, 0, 0, none, []), (18, .bastore, 19, 0, 0, 0, 0, none, [])]),
  (37, [(19, .iinc 4 1, 22, 1, 4, 0, 0, none, []), (22, .goto (-19), 25, 0, 3, 0, 0, none, []), (25, .aload_n 0, 26, 0, 0, 0, 0, none, []), (26, .iconst 0, 27, 0, 0, 0, 0, none, []), (27, .putfield 187, 30, 0, 12, 17, 4, none, []), (30, .aload_n 0, 31, 0, 0, 0, 0, none, []), (31, .iconst 0, 32, 0, 0, 0, 0, none, []), (32, .putfield 180, 35, 0, 12, 18, 4, none, []), (35, .aload_n 0, 36, 0, 0, 0, 0, none, []), (36, .iconst 0, 37, 0, 0, 0, 0, none, [])]),
  (53, [(37, .putfield 177, 40, 0, 12, 19, 4, none, []), (40, .aload_n 0, 41, 0, 0, 0, 0, none, []), (41, .iconst 0, 42, 0, 0, 0, 0, none, []), (42, .putfield 204, 45, 0, 12, 20, 4, none, []), (45, .aload_n 0, 46, 0, 0, 0, 0, none, []), (46, .aload_n 0, 47, 0, 0, 0, 0, none, []), (47, .getfield 7, 50, 0, 12, 0, 1, none, []), (50, .iconst 0, 51, 0, 0, 0, 0, none, []), (51, .iaload, 52, 0, 0, 0, 0, none, []), (52, .ifCond .ne 7, 55, 0, 59, 0, 0, none, [])]),
  (73, [(55, .iconst 1, 56, 1, 0, 0, 0, none, []), (56, .goto 4, 59, 0, 60, 0, 0, none, []), (59, .iconst 0, 60, 0, 0, 0, 0, none, []), (60, .putfield 183, 63, 0, 12, 21, 3, some [0, 1, 2, 3], []), (63, .aload_n 0, 64, 0, 0, 0, 0, none, []), (64, .getfield 183, 67, 0, 12, 21, 0, none, []), (67, .ifCond .ne 10, 70, 0, 77, 0, 0, none, []), (70, .aload_n 0, 71, 0, 0, 0, 0, none, []), (71, .iload_n 1, 72, 0, 1, 0, 0, none, []), (72, .iconst 0, 73, 0, 0, 0, 0, none, [])]),
  (91, [(73, .invokevirtual 214, 76, 0, 163, 3, 1, none, [(0, 12)]), (76, .pop, 77, 0, 0, 0, 0, none, []), (77, .aload_n 0, 78, 0, 0, 0, 0, some [0, 1, 2, 3], []), (78, .getfield 183, 81, 0, 12, 21, 0, none, []), (81, .ifCond .ne 21, 84, 0, 102, 0, 0, none, []), (84, .aload_n 0, 85, 0, 0, 0, 0, none, []), (85, .iload_n 1, 86, 0, 1, 0, 0, none, []), (86, .iload_n 2, 87, 0, 2, 0, 0, none, []), (87, .invokevirtual 218, 90, 0, 165, 3, 1, none, [(0, 12)]), (90, .ifCond .ne (-13), 93, 0, 77, 0, 0, none, [])]),
  (103, [(93, .aload_n 0, 94, 0, 0, 0, 0, none, []), (94, .iload_n 1, 95, 0, 1, 0, 0, none, []), (95, .iload_n 3, 96, 0, 3, 0, 0, none, []), (96, .invokevirtual 221, 99, 0, 164, 3, 0, none, [(0, 12)]), (99, .goto (-22), 102, 0, 77, 0, 0, none, []), (102, .return_, 103, 0, 0, 0, 0, none, [])])]
def zc_M_runs : z_C := z_find2 zd_M_runs
def zd_M_ofTest : List (Nat × List (Nat × z_I)) := [(14, [(0, .aload_n 0, 1, 0, 0, 0, 0, none, []), (1, .getfield 7, 4, 0, 12, 0, 1, none, []), (4, .sipush 525, 7, 525, 0, 0, 0, none, []), (7, .iconst 3, 8, 3, 0, 0, 0, none, []), (8, .iload_n 1, 9, 0, 1, 0, 0, none, []), (9, .imul, 10, 0, 0, 0, 0, none, []), (10, .iadd, 11, 0, 0, 0, 0, none, []), (11, .iload_n 2, 12, 0, 2, 0, 0, none, []), (12, .iadd, 13, 0, 0, 0, 0, none, []), (13, .iaload, 14, 0, 0, 0, 0, none, [])]),
  (15, [(14, .ireturn, 15, 0, 0, 0, 0, none, [])])]
def zc_M_ofTest : z_C := z_find2 zd_M_ofTest
def zd_M_runsTest : List (Nat × List (Nat × z_I)) := [(12, [(0, .aload_n 0, 1, 0, 0, 0, 0, none, []), (1, .iload_n 1, 2, 0, 1, 0, 0, none, []), (2, .aload_n 0, 3, 0, 0, 0, 0, none, []), (3, .iload_n 2, 4, 0, 2, 0, 0, none, []), (4, .iconst 0, 5, 0, 0, 0, 0, none, []), (5, .invokevirtual 224, 8, 0, 167, 3, 1, none, [(0, 12)]), (8, .aload_n 0, 9, 0, 0, 0, 0, none, []), (9, .iload_n 2, 10, 0, 2, 0, 0, none, []), (10, .iconst 1, 11, 1, 0, 0, 0, none, []), (11, .invokevirtual 224, 14, 0, 167, 3, 1, none, [(0, 12)])]),
  (18, [(14, .invokevirtual 228, 17, 0, 166, 4, 0, none, [(0, 12)]), (17, .return_, 18, 0, 0, 0, 0, none, [])])]
def zc_M_runsTest : z_C := z_find2 zd_M_runsTest
def zd_M_areAlike : List (Nat × List (Nat × z_I)) := [(18, [(0, .iconst 1, 1, 1, 0, 0, 0, none, []), (1, .istore 4, 3, 0, 4, 0, 0, none, []), (3, .iconst 0, 4, 0, 0, 0, 0, none, []), (4, .istore 5, 6, 0, 5, 0, 0, none, []), (6, .iload 5, 8, 0, 5, 0, 0, some [0, 1, 2, 3, 4, 5], []), (8, .iconst 2, 9, 2, 0, 0, 0, none, []), (9, .if_icmp .gt 42, 12, 0, 51, 0, 0, none, []), (12, .iload 4, 14, 0, 4, 0, 0, none, []), (14, .ifCond .eq 28, 17, 0, 42, 0, 0, none, []), (17, .aload_n 0, 18, 0, 0, 0, 0, none, [])]),
  (31, [(18, .iconst 0, 19, 0, 0, 0, 0, none, []), (19, .iload_n 1, 20, 0, 1, 0, 0, none, []), (20, .iload_n 2, 21, 0, 2, 0, 0, none, []), (21, .iload 5, 23, 0, 5, 0, 0, none, []), (23, .invokevirtual 190, 26, 0, 158, 5, 1, none, [(0, 12)]), (26, .aload_n 0, 27, 0, 0, 0, 0, none, []), (27, .iconst 1, 28, 1, 0, 0, 0, none, []), (28, .iload_n 1, 29, 0, 1, 0, 0, none, []), (29, .iload_n 3, 30, 0, 3, 0, 0, none, []), (30, .iload 5, 32, 0, 5, 0, 0, none, [])]),
  (54, [(32, .invokevirtual 190, 35, 0, 158, 5, 1, none, [(0, 12)]), (35, .if_icmp .ne 7, 38, 0, 42, 0, 0, none, []), (38, .iconst 1, 39, 1, 0, 0, 0, none, []), (39, .goto 4, 42, 0, 43, 0, 0, none, []), (42, .iconst 0, 43, 0, 0, 0, 0, none, []), (43, .istore 4, 45, 0, 4, 0, 0, none, []), (45, .iinc 5 1, 48, 1, 5, 0, 0, none, []), (48, .goto (-42), 51, 0, 6, 0, 0, none, []), (51, .iload 4, 53, 0, 4, 0, 0, none, []), (53, .ireturn, 54, 0, 1, 0, 0, none, [])])]
def zc_M_areAlike : z_C := z_find2 zd_M_areAlike
def zd_M_pairsOn : List (Nat × List (Nat × z_I)) := [(13, [(0, .iconst 0, 1, 0, 0, 0, 0, none, []), (1, .istore 4, 3, 0, 4, 0, 0, none, []), (3, .iconst 0, 4, 0, 0, 0, 0, none, []), (4, .istore 5, 6, 0, 5, 0, 0, none, []), (6, .iload 5, 8, 0, 5, 0, 0, some [0, 1, 2, 3, 4, 5], []), (8, .aload_n 0, 9, 0, 0, 0, 0, none, []), (9, .iconst 0, 10, 0, 0, 0, 0, none, []), (10, .iload_n 1, 11, 0, 1, 0, 0, none, []), (11, .iload_n 2, 12, 0, 2, 0, 0, none, []), (12, .iconst 2, 13, 2, 0, 0, 0, none, [])]),
  (28, [(13, .invokevirtual 190, 16, 0, 158, 5, 1, none, [(0, 12)]), (16, .if_icmp .ge 147, 19, 0, 163, 0, 0, none, []), (19, .aload_n 0, 20, 0, 0, 0, 0, none, []), (20, .iconst 0, 21, 0, 0, 0, 0, none, []), (21, .iload_n 1, 22, 0, 1, 0, 0, none, []), (22, .iload_n 2, 23, 0, 2, 0, 0, none, []), (23, .iconst 3, 24, 3, 0, 0, 0, none, []), (24, .iload 5, 26, 0, 5, 0, 0, none, []), (26, .iadd, 27, 0, 0, 0, 0, none, []), (27, .invokevirtual 190, 30, 0, 158, 5, 1, none, [(0, 12)])]),
  (44, [(30, .istore 6, 32, 0, 6, 0, 0, none, []), (32, .aload_n 0, 33, 0, 0, 0, 0, none, []), (33, .iconst 1, 34, 1, 0, 0, 0, none, []), (34, .iload_n 1, 35, 0, 1, 0, 0, none, []), (35, .iload_n 3, 36, 0, 3, 0, 0, none, []), (36, .iconst 3, 37, 3, 0, 0, 0, none, []), (37, .iload 5, 39, 0, 5, 0, 0, none, []), (39, .iadd, 40, 0, 0, 0, 0, none, []), (40, .invokevirtual 190, 43, 0, 158, 5, 1, none, [(0, 12)]), (43, .istore 7, 45, 0, 7, 0, 0, none, [])]),
  (65, [(45, .iload 6, 47, 0, 6, 0, 0, none, []), (47, .bipush 9, 49, 9, 0, 0, 0, none, []), (49, .if_icmp .eq 14, 52, 0, 63, 0, 0, none, []), (52, .iload 7, 54, 0, 7, 0, 0, none, []), (54, .bipush 9, 56, 9, 0, 0, 0, none, []), (56, .if_icmp .eq 7, 59, 0, 63, 0, 0, none, []), (59, .iconst 1, 60, 1, 0, 0, 0, none, []), (60, .goto 4, 63, 0, 64, 0, 0, none, []), (63, .iconst 0, 64, 0, 0, 0, 0, none, []), (64, .istore 8, 66, 0, 8, 0, 0, some [0, 1, 2, 3, 4, 5, 6, 7], [])]),
  (86, [(66, .iload 8, 68, 0, 8, 0, 0, none, []), (68, .ifCond .eq 60, 71, 0, 128, 0, 0, none, []), (71, .aload_n 0, 72, 0, 0, 0, 0, none, []), (72, .iload_n 1, 73, 0, 1, 0, 0, none, []), (73, .iload 6, 75, 0, 6, 0, 0, none, []), (75, .iload 7, 77, 0, 7, 0, 0, none, []), (77, .invokevirtual 232, 80, 0, 169, 4, 1, none, [(0, 12)]), (80, .ifCond .eq 48, 83, 0, 128, 0, 0, none, []), (83, .iload 4, 85, 0, 4, 0, 0, none, []), (85, .ifCond .ne 19, 88, 0, 104, 0, 0, none, [])]),
  (105, [(88, .aload_n 0, 89, 0, 0, 0, 0, none, []), (89, .getfield 38, 92, 0, 12, 23, 1, none, []), (92, .bipush 8, 94, 8, 0, 0, 0, none, []), (94, .iload 6, 96, 0, 6, 0, 0, none, []), (96, .imul, 97, 0, 0, 0, 0, none, []), (97, .iload 7, 99, 0, 7, 0, 0, none, []), (99, .iadd, 100, 0, 0, 0, 0, none, []), (100, .baload, 101, 0, 0, 0, 0, none, []), (101, .ifCond .ne 7, 104, 0, 108, 0, 0, none, []), (104, .iconst 1, 105, 1, 0, 0, 0, none, [])]),
  (123, [(105, .goto 4, 108, 0, 109, 0, 0, none, []), (108, .iconst 0, 109, 0, 0, 0, 0, none, []), (109, .istore 4, 111, 0, 4, 0, 0, some [0, 1, 2, 3, 5, 6, 7], []), (111, .aload_n 0, 112, 0, 0, 0, 0, none, []), (112, .getfield 38, 115, 0, 12, 23, 1, none, []), (115, .bipush 8, 117, 8, 0, 0, 0, none, []), (117, .iload 6, 119, 0, 6, 0, 0, none, []), (119, .imul, 120, 0, 0, 0, 0, none, []), (120, .iload 7, 122, 0, 7, 0, 0, none, []), (122, .iadd, 123, 0, 0, 0, 0, none, [])]),
  (142, [(123, .iconst 1, 124, 1, 0, 0, 0, none, []), (124, .bastore, 125, 0, 0, 0, 0, none, []), (125, .goto 32, 128, 0, 157, 0, 0, none, []), (128, .iload 8, 130, 0, 8, 0, 0, some [0, 1, 2, 3, 4, 5, 6, 7, 8], []), (130, .ifCond .ne 10, 133, 0, 140, 0, 0, none, []), (133, .iload 6, 135, 0, 6, 0, 0, none, []), (135, .iload 7, 137, 0, 7, 0, 0, none, []), (137, .if_icmp .eq 20, 140, 0, 157, 0, 0, none, []), (140, .aload_n 0, 141, 0, 0, 0, 0, some [0, 1, 2, 3, 4, 5], []), (141, .getfield 35, 144, 0, 12, 22, 1, none, [])]),
  (156, [(144, .bipush 16, 146, 16, 0, 0, 0, none, []), (146, .iload_n 1, 147, 0, 1, 0, 0, none, []), (147, .imul, 148, 0, 0, 0, 0, none, []), (148, .iconst 2, 149, 2, 0, 0, 0, none, []), (149, .iload_n 2, 150, 0, 2, 0, 0, none, []), (150, .imul, 151, 0, 0, 0, 0, none, []), (151, .iadd, 152, 0, 0, 0, 0, none, []), (152, .iload 5, 154, 0, 5, 0, 0, none, []), (154, .iadd, 155, 0, 0, 0, 0, none, []), (155, .iconst 1, 156, 1, 0, 0, 0, none, [])]),
  (166, [(156, .bastore, 157, 0, 0, 0, 0, none, []), (157, .iinc 5 1, 160, 1, 5, 0, 0, none, []), (160, .goto (-154), 163, 0, 6, 0, 0, none, []), (163, .iload 4, 165, 0, 4, 0, 0, none, []), (165, .ireturn, 166, 0, 1, 0, 0, none, [])])]
def zc_M_pairsOn : z_C := z_find2 zd_M_pairsOn
def zd_M_findPairs : List (Nat × List (Nat × z_I)) := [(15, [(0, .iconst 0, 1, 0, 0, 0, 0, none, []), (1, .istore_n 2, 2, 0, 2, 0, 0, none, []), (2, .iload_n 2, 3, 0, 2, 0, 0, some [0, 1, 2], []), (3, .bipush 64, 5, 64, 0, 0, 0, none, []), (5, .if_icmp .ge 16, 8, 0, 21, 0, 0, none, []), (8, .aload_n 0, 9, 0, 0, 0, 0, none, []), (9, .getfield 38, 12, 0, 12, 23, 1, none, []), (12, .iload_n 2, 13, 0, 2, 0, 0, none, []), (13, .iconst 0, 14, 0, 0, 0, 0, none, []), (14, .bastore, 15, 0, 0, 0, 0, none, [])]),
  (33, [(15, .iinc 2 1, 18, 1, 2, 0, 0, none, []), (18, .goto (-16), 21, 0, 2, 0, 0, none, []), (21, .aload_n 0, 22, 0, 0, 0, 0, none, []), (22, .iload_n 1, 23, 0, 1, 0, 0, none, []), (23, .iconst 0, 24, 0, 0, 0, 0, none, []), (24, .iconst 0, 25, 0, 0, 0, 0, none, []), (25, .invokevirtual 232, 28, 0, 169, 4, 1, none, [(0, 12)]), (28, .ifCond .ne 14, 31, 0, 42, 0, 0, none, []), (31, .aload_n 0, 32, 0, 0, 0, 0, none, []), (32, .getfield 35, 35, 0, 12, 22, 1, none, [])]),
  (48, [(35, .bipush 100, 37, 100, 0, 0, 0, none, []), (37, .iload_n 1, 38, 0, 1, 0, 0, none, []), (38, .iadd, 39, 0, 0, 0, 0, none, []), (39, .iconst 1, 40, 1, 0, 0, 0, none, []), (40, .bastore, 41, 0, 0, 0, 0, none, []), (41, .return_, 42, 0, 0, 0, 0, none, []), (42, .aload_n 0, 43, 0, 0, 0, 0, none, []), (43, .getfield 38, 46, 0, 12, 23, 1, none, []), (46, .iconst 0, 47, 0, 0, 0, 0, none, []), (47, .iconst 1, 48, 1, 0, 0, 0, none, [])]),
  (60, [(48, .bastore, 49, 0, 0, 0, 0, none, []), (49, .iconst 1, 50, 1, 0, 0, 0, none, []), (50, .istore_n 2, 51, 0, 2, 0, 0, none, []), (51, .iload_n 2, 52, 0, 2, 0, 0, some [0, 1, 2], []), (52, .ifCond .eq 57, 55, 0, 109, 0, 0, none, []), (55, .iconst 0, 56, 0, 0, 0, 0, none, []), (56, .istore_n 2, 57, 0, 2, 0, 0, none, []), (57, .iconst 0, 58, 0, 0, 0, 0, none, []), (58, .istore_n 3, 59, 0, 3, 0, 0, none, []), (59, .iload_n 3, 60, 0, 3, 0, 0, some [0, 1, 2, 3], [])]),
  (77, [(60, .bipush 64, 62, 64, 0, 0, 0, none, []), (62, .if_icmp .ge 44, 65, 0, 106, 0, 0, none, []), (65, .aload_n 0, 66, 0, 0, 0, 0, none, []), (66, .getfield 38, 69, 0, 12, 23, 1, none, []), (69, .iload_n 3, 70, 0, 3, 0, 0, none, []), (70, .baload, 71, 0, 0, 0, 0, none, []), (71, .ifCond .eq 19, 74, 0, 90, 0, 0, none, []), (74, .aload_n 0, 75, 0, 0, 0, 0, none, []), (75, .iload_n 1, 76, 0, 1, 0, 0, none, []), (76, .iload_n 3, 77, 0, 3, 0, 0, none, [])]),
  (95, [(77, .bipush 8, 79, 8, 0, 0, 0, none, []), (79, .idiv, 80, 0, 0, 0, 0, none, []), (80, .iload_n 3, 81, 0, 3, 0, 0, none, []), (81, .bipush 8, 83, 8, 0, 0, 0, none, []), (83, .irem, 84, 0, 0, 0, 0, none, []), (84, .invokevirtual 236, 87, 0, 170, 4, 1, none, [(0, 12)]), (87, .ifCond .ne 7, 90, 0, 94, 0, 0, none, []), (90, .iload_n 2, 91, 0, 2, 0, 0, some [0, 1, 2, 3], []), (91, .ifCond .eq 7, 94, 0, 98, 0, 0, none, []), (94, .iconst 1, 95, 1, 0, 0, 0, none, [])]),
  (110, [(95, .goto 4, 98, 0, 99, 0, 0, none, []), (98, .iconst 0, 99, 0, 0, 0, 0, none, []), (99, .istore_n 2, 100, 0, 2, 0, 0, none, []), (100, .iinc 3 1, 103, 1, 3, 0, 0, none, []), (103, .goto (-44), 106, 0, 59, 0, 0, none, []), (106, .goto (-55), 109, 0, 51, 0, 0, none, []), (109, .return_, 110, 0, 0, 0, 0, none, [])])]
def zc_M_findPairs : z_C := z_find2 zd_M_findPairs
def zd_M_findDanger : List (Nat × List (Nat × z_I)) := [(16, [(0, .iconst 0, 1, 0, 0, 0, 0, none, []), (1, .istore_n 1, 2, 0, 1, 0, 0, none, []), (2, .iload_n 1, 3, 0, 1, 0, 0, some [0, 1], []), (3, .sipush 216, 6, 216, 0, 0, 0, none, []), (6, .if_icmp .ge 16, 9, 0, 22, 0, 0, none, []), (9, .aload_n 0, 10, 0, 0, 0, 0, none, []), (10, .getfield 35, 13, 0, 12, 22, 1, none, []), (13, .iload_n 1, 14, 0, 1, 0, 0, none, []), (14, .iconst 0, 15, 0, 0, 0, 0, none, []), (15, .bastore, 16, 0, 0, 0, 0, none, [])]),
  (32, [(16, .iinc 1 1, 19, 1, 1, 0, 0, none, []), (19, .goto (-17), 22, 0, 2, 0, 0, none, []), (22, .iconst 0, 23, 0, 0, 0, 0, none, []), (23, .istore_n 1, 24, 0, 1, 0, 0, none, []), (24, .iload_n 1, 25, 0, 1, 0, 0, some [0, 1], []), (25, .aload_n 0, 26, 0, 0, 0, 0, none, []), (26, .getfield 7, 29, 0, 12, 0, 1, none, []), (29, .iconst 0, 30, 0, 0, 0, 0, none, []), (30, .iaload, 31, 0, 0, 0, 0, none, []), (31, .if_icmp .ge 26, 34, 0, 57, 0, 0, none, [])]),
  (49, [(34, .aload_n 0, 35, 0, 0, 0, 0, none, []), (35, .getfield 7, 38, 0, 12, 0, 1, none, []), (38, .bipush 7, 40, 7, 0, 0, 0, none, []), (40, .iload_n 1, 41, 0, 1, 0, 0, none, []), (41, .iadd, 42, 0, 0, 0, 0, none, []), (42, .iaload, 43, 0, 0, 0, 0, none, []), (43, .ifCond .le 8, 46, 0, 51, 0, 0, none, []), (46, .aload_n 0, 47, 0, 0, 0, 0, none, []), (47, .iload_n 1, 48, 0, 1, 0, 0, none, []), (48, .invokevirtual 239, 51, 0, 171, 2, 0, none, [(0, 12)])]),
  (67, [(51, .iinc 1 1, 54, 1, 1, 0, 0, none, []), (54, .goto (-30), 57, 0, 24, 0, 0, none, []), (57, .iconst 0, 58, 0, 0, 0, 0, none, []), (58, .istore_n 1, 59, 0, 1, 0, 0, none, []), (59, .iload_n 1, 60, 0, 1, 0, 0, some [0, 1], []), (60, .aload_n 0, 61, 0, 0, 0, 0, none, []), (61, .getfield 7, 64, 0, 12, 0, 1, none, []), (64, .iconst 1, 65, 1, 0, 0, 0, none, []), (65, .iaload, 66, 0, 0, 0, 0, none, []), (66, .if_icmp .ge 58, 69, 0, 124, 0, 0, none, [])]),
  (85, [(69, .iconst 0, 70, 0, 0, 0, 0, none, []), (70, .istore_n 2, 71, 0, 2, 0, 0, none, []), (71, .iload_n 2, 72, 0, 2, 0, 0, some [0, 1, 2], []), (72, .iconst 4, 73, 4, 0, 0, 0, none, []), (73, .if_icmp .ge 45, 76, 0, 118, 0, 0, none, []), (76, .aload_n 0, 77, 0, 0, 0, 0, none, []), (77, .getfield 35, 80, 0, 12, 22, 1, none, []), (80, .sipush 200, 83, 200, 0, 0, 0, none, []), (83, .iconst 4, 84, 4, 0, 0, 0, none, []), (84, .iload_n 1, 85, 0, 1, 0, 0, none, [])]),
  (97, [(85, .imul, 86, 0, 0, 0, 0, none, []), (86, .iadd, 87, 0, 0, 0, 0, none, []), (87, .iload_n 2, 88, 0, 2, 0, 0, none, []), (88, .iadd, 89, 0, 0, 0, 0, none, []), (89, .aload_n 0, 90, 0, 0, 0, 0, none, []), (90, .iconst 0, 91, 0, 0, 0, 0, none, []), (91, .iload_n 1, 92, 0, 1, 0, 0, none, []), (92, .iload_n 2, 93, 0, 2, 0, 0, none, []), (93, .invokevirtual 211, 96, 0, 159, 4, 1, none, [(0, 12)]), (96, .aload_n 0, 97, 0, 0, 0, 0, none, [])]),
  (113, [(97, .iconst 1, 98, 1, 0, 0, 0, none, []), (98, .iload_n 1, 99, 0, 1, 0, 0, none, []), (99, .iload_n 2, 100, 0, 2, 0, 0, none, []), (100, .invokevirtual 211, 103, 0, 159, 4, 1, none, [(0, 12)]), (103, .if_icmp .eq 7, 106, 0, 110, 0, 0, none, []), (106, .iconst 1, 107, 1, 0, 0, 0, none, []), (107, .goto 4, 110, 0, 111, 0, 0, none, []), (110, .iconst 0, 111, 0, 0, 0, 0, none, []), (111, .bastore, 112, 0, 0, 0, 0, none, []), (112, .iinc 2 1, 115, 1, 2, 0, 0, none, [])]),
  (125, [(115, .goto (-44), 118, 0, 71, 0, 0, none, []), (118, .iinc 1 1, 121, 1, 1, 0, 0, none, []), (121, .goto (-62), 124, 0, 59, 0, 0, none, []), (124, .return_, 125, 0, 0, 0, 0, none, [])])]
def zc_M_findDanger : z_C := z_find2 zd_M_findDanger
def zd_M_dangers : List (Nat × List (Nat × z_I)) := [(16, [(0, .aload_n 0, 1, 0, 0, 0, 0, none, []), (1, .invokevirtual 242, 4, 0, 172, 1, 0, none, [(0, 12)]), (4, .iconst 0, 5, 0, 0, 0, 0, none, []), (5, .istore_n 1, 6, 0, 1, 0, 0, none, []), (6, .iconst 0, 7, 0, 0, 0, 0, none, []), (7, .istore_n 2, 8, 0, 2, 0, 0, none, []), (8, .iload_n 2, 9, 0, 2, 0, 0, some [0, 1, 2], []), (9, .sipush 216, 12, 216, 0, 0, 0, none, []), (12, .if_icmp .ge 21, 15, 0, 33, 0, 0, none, []), (15, .iload_n 1, 16, 0, 1, 0, 0, none, [])]),
  (34, [(16, .aload_n 0, 17, 0, 0, 0, 0, none, []), (17, .getfield 35, 20, 0, 12, 22, 1, none, []), (20, .iload_n 2, 21, 0, 2, 0, 0, none, []), (21, .baload, 22, 0, 0, 0, 0, none, []), (22, .invokestatic 207, 25, 0, 128, 1, 1, none, []), (25, .iadd, 26, 0, 0, 0, 0, none, []), (26, .istore_n 1, 27, 0, 1, 0, 0, none, []), (27, .iinc 2 1, 30, 1, 2, 0, 0, none, []), (30, .goto (-22), 33, 0, 8, 0, 0, none, []), (33, .iload_n 1, 34, 0, 1, 0, 0, none, [])]),
  (35, [(34, .ireturn, 35, 0, 0, 0, 0, none, [])])]
def zc_M_dangers : z_C := z_find2 zd_M_dangers
def zd_M_dangersOf : List (Nat × List (Nat × z_I)) := [(14, [(0, .aload_n 0, 1, 0, 0, 0, 0, none, []), (1, .iconst 0, 2, 0, 0, 0, 0, none, []), (2, .iload_n 1, 3, 0, 1, 0, 0, none, []), (3, .invokevirtual 245, 6, 0, 168, 3, 0, none, [(0, 12)]), (6, .iconst 0, 7, 0, 0, 0, 0, none, []), (7, .istore_n 3, 8, 0, 3, 0, 0, none, []), (8, .iconst 0, 9, 0, 0, 0, 0, none, []), (9, .istore 4, 11, 0, 4, 0, 0, none, []), (11, .iload 4, 13, 0, 4, 0, 0, some [0, 2, 3, 4], []), (13, .sipush 216, 16, 216, 0, 0, 0, none, [])]),
  (35, [(16, .if_icmp .ge 54, 19, 0, 70, 0, 0, none, []), (19, .iload_n 3, 20, 0, 3, 0, 0, none, []), (20, .aload_n 0, 21, 0, 0, 0, 0, none, []), (21, .getfield 32, 24, 0, 12, 16, 1, none, []), (24, .iload 4, 26, 0, 4, 0, 0, none, []), (26, .baload, 27, 0, 0, 0, 0, none, []), (27, .ifCond .eq 31, 30, 0, 58, 0, 0, none, []), (30, .aload_n 0, 31, 0, 0, 0, 0, none, []), (31, .getfield 35, 34, 0, 12, 22, 1, none, []), (34, .iload 4, 36, 0, 4, 0, 0, none, [])]),
  (55, [(36, .baload, 37, 0, 0, 0, 0, none, []), (37, .ifCond .eq 21, 40, 0, 58, 0, 0, none, []), (40, .iload_n 2, 41, 0, 2, 0, 0, none, []), (41, .ifCond .eq 13, 44, 0, 54, 0, 0, none, []), (44, .aload_n 0, 45, 0, 0, 0, 0, none, []), (45, .getfield 41, 48, 0, 12, 24, 1, none, []), (48, .iload 4, 50, 0, 4, 0, 0, none, []), (50, .baload, 51, 0, 0, 0, 0, none, []), (51, .ifCond .ne 7, 54, 0, 58, 0, 0, none, []), (54, .iconst 1, 55, 1, 0, 0, 0, none, [])]),
  (72, [(55, .goto 4, 58, 0, 59, 0, 0, none, []), (58, .iconst 0, 59, 0, 0, 0, 0, none, []), (59, .invokestatic 207, 62, 0, 128, 1, 1, none, []), (62, .iadd, 63, 0, 0, 0, 0, none, []), (63, .istore_n 3, 64, 0, 3, 0, 0, none, []), (64, .iinc 4 1, 67, 1, 4, 0, 0, none, []), (67, .goto (-56), 70, 0, 11, 0, 0, none, []), (70, .iload_n 3, 71, 0, 3, 0, 0, none, []), (71, .ireturn, 72, 0, 0, 0, 0, none, [])])]
def zc_M_dangersOf : z_C := z_find2 zd_M_dangersOf
def zd_M_findOrder : List (Nat × List (Nat × z_I)) := [(18, [(0, .aload_n 0, 1, 0, 0, 0, 0, none, []), (1, .invokevirtual 242, 4, 0, 172, 1, 0, none, [(0, 12)]), (4, .iconst 0, 5, 0, 0, 0, 0, none, []), (5, .istore_n 1, 6, 0, 1, 0, 0, none, []), (6, .iload_n 1, 7, 0, 1, 0, 0, some [0, 1], []), (7, .sipush 216, 10, 216, 0, 0, 0, none, []), (10, .if_icmp .ge 16, 13, 0, 26, 0, 0, none, []), (13, .aload_n 0, 14, 0, 0, 0, 0, none, []), (14, .getfield 41, 17, 0, 12, 24, 1, none, []), (17, .iload_n 1, 18, 0, 1, 0, 0, none, [])]),
  (35, [(18, .iconst 0, 19, 0, 0, 0, 0, none, []), (19, .bastore, 20, 0, 0, 0, 0, none, []), (20, .iinc 1 1, 23, 1, 1, 0, 0, none, []), (23, .goto (-17), 26, 0, 6, 0, 0, none, []), (26, .iconst 0, 27, 0, 0, 0, 0, none, []), (27, .istore_n 1, 28, 0, 1, 0, 0, none, []), (28, .iload_n 1, 29, 0, 1, 0, 0, some [0, 1], []), (29, .bipush 8, 31, 8, 0, 0, 0, none, []), (31, .if_icmp .ge 16, 34, 0, 47, 0, 0, none, []), (34, .aload_n 0, 35, 0, 0, 0, 0, none, [])]),
  (53, [(35, .getfield 44, 38, 0, 12, 25, 1, none, []), (38, .iload_n 1, 39, 0, 1, 0, 0, none, []), (39, .iconst 0, 40, 0, 0, 0, 0, none, []), (40, .bastore, 41, 0, 0, 0, 0, none, []), (41, .iinc 1 1, 44, 1, 1, 0, 0, none, []), (44, .goto (-16), 47, 0, 28, 0, 0, none, []), (47, .aload_n 0, 48, 0, 0, 0, 0, none, []), (48, .iconst 0, 49, 0, 0, 0, 0, none, []), (49, .putfield 248, 52, 0, 12, 28, 4, none, []), (52, .iconst 1, 53, 1, 0, 0, 0, none, [])]),
  (67, [(53, .istore_n 1, 54, 0, 1, 0, 0, none, []), (54, .iload_n 1, 55, 0, 1, 0, 0, some [0, 1], []), (55, .ifCond .eq 115, 58, 0, 170, 0, 0, none, []), (58, .bipush (-4), 60, (-4), 0, 0, 0, none, []), (60, .istore_n 2, 61, 0, 2, 0, 0, none, []), (61, .iconst 0, 62, 0, 0, 0, 0, none, []), (62, .istore_n 3, 63, 0, 3, 0, 0, none, []), (63, .iconst 0, 64, 0, 0, 0, 0, none, []), (64, .istore 4, 66, 0, 4, 0, 0, none, []), (66, .iload 4, 68, 0, 4, 0, 0, some [0, 2, 3, 4], [])]),
  (85, [(68, .aload_n 0, 69, 0, 0, 0, 0, none, []), (69, .getfield 7, 72, 0, 12, 0, 1, none, []), (72, .iconst 2, 73, 2, 0, 0, 0, none, []), (73, .iaload, 74, 0, 0, 0, 0, none, []), (74, .if_icmp .ge 71, 77, 0, 145, 0, 0, none, []), (77, .aload_n 0, 78, 0, 0, 0, 0, none, []), (78, .getfield 44, 81, 0, 12, 25, 1, none, []), (81, .iload 4, 83, 0, 4, 0, 0, none, []), (83, .baload, 84, 0, 0, 0, 0, none, []), (84, .ifCond .ne 55, 87, 0, 139, 0, 0, none, [])]),
  (105, [(87, .aload_n 0, 88, 0, 0, 0, 0, none, []), (88, .iload 4, 90, 0, 4, 0, 0, none, []), (90, .iconst 0, 91, 0, 0, 0, 0, none, []), (91, .invokevirtual 251, 94, 0, 174, 3, 1, none, [(0, 12)]), (94, .ifCond .le 45, 97, 0, 139, 0, 0, none, []), (97, .aload_n 0, 98, 0, 0, 0, 0, none, []), (98, .iload 4, 100, 0, 4, 0, 0, none, []), (100, .iconst 1, 101, 1, 0, 0, 0, none, []), (101, .invokevirtual 251, 104, 0, 174, 3, 1, none, [(0, 12)]), (104, .istore 5, 106, 0, 5, 0, 0, none, [])]),
  (122, [(106, .iload_n 2, 107, 0, 2, 0, 0, none, []), (107, .bipush (-4), 109, (-4), 0, 0, 0, none, []), (109, .if_icmp .eq 24, 112, 0, 133, 0, 0, none, []), (112, .iload 5, 114, 0, 5, 0, 0, none, []), (114, .aload_n 0, 115, 0, 0, 0, 0, none, []), (115, .iload_n 2, 116, 0, 2, 0, 0, none, []), (116, .iconst 2, 117, 2, 0, 0, 0, none, []), (117, .invokevirtual 224, 120, 0, 167, 3, 1, none, [(0, 12)]), (120, .imul, 121, 0, 0, 0, 0, none, []), (121, .iload_n 3, 122, 0, 3, 0, 0, none, [])]),
  (139, [(122, .aload_n 0, 123, 0, 0, 0, 0, none, []), (123, .iload 4, 125, 0, 4, 0, 0, none, []), (125, .iconst 2, 126, 2, 0, 0, 0, none, []), (126, .invokevirtual 224, 129, 0, 167, 3, 1, none, [(0, 12)]), (129, .imul, 130, 0, 0, 0, 0, none, []), (130, .if_icmp .le 9, 133, 0, 139, 0, 0, none, []), (133, .iload 4, 135, 0, 4, 0, 0, none, []), (135, .istore_n 2, 136, 0, 2, 0, 0, none, []), (136, .iload 5, 138, 0, 5, 0, 0, none, []), (138, .istore_n 3, 139, 0, 3, 0, 0, none, [])]),
  (158, [(139, .iinc 4 1, 142, 1, 4, 0, 0, none, []), (142, .goto (-76), 145, 0, 66, 0, 0, none, []), (145, .iload_n 2, 146, 0, 2, 0, 0, none, []), (146, .bipush (-4), 148, (-4), 0, 0, 0, none, []), (148, .if_icmp .eq 7, 151, 0, 155, 0, 0, none, []), (151, .iconst 1, 152, 1, 0, 0, 0, none, []), (152, .goto 4, 155, 0, 156, 0, 0, none, []), (155, .iconst 0, 156, 0, 0, 0, 0, none, []), (156, .istore_n 1, 157, 0, 1, 0, 0, some [0, 2, 3], []), (157, .iload_n 1, 158, 0, 1, 0, 0, none, [])]),
  (171, [(158, .ifCond .eq 9, 161, 0, 167, 0, 0, none, []), (161, .aload_n 0, 162, 0, 0, 0, 0, none, []), (162, .iload_n 2, 163, 0, 2, 0, 0, none, []), (163, .iload_n 3, 164, 0, 3, 0, 0, none, []), (164, .invokevirtual 255, 167, 0, 176, 3, 0, none, [(0, 12)]), (167, .goto (-113), 170, 0, 54, 0, 0, none, []), (170, .return_, 171, 0, 0, 0, 0, none, [])])]
def zc_M_findOrder : z_C := z_find2 zd_M_findOrder
def zd_M_comesNext : List (Nat × List (Nat × z_I)) := [(16, [(0, .aload_n 0, 1, 0, 0, 0, 0, none, []), (1, .getfield 47, 4, 0, 12, 26, 1, none, []), (4, .aload_n 0, 5, 0, 0, 0, 0, none, []), (5, .getfield 248, 8, 0, 12, 28, 0, none, []), (8, .iload_n 1, 9, 0, 1, 0, 0, none, []), (9, .iastore, 10, 0, 0, 0, 0, none, []), (10, .aload_n 0, 11, 0, 0, 0, 0, none, []), (11, .getfield 50, 14, 0, 12, 27, 1, none, []), (14, .aload_n 0, 15, 0, 0, 0, 0, none, []), (15, .getfield 248, 18, 0, 12, 28, 0, none, [])]),
  (32, [(18, .iload_n 2, 19, 0, 2, 0, 0, none, []), (19, .iastore, 20, 0, 0, 0, 0, none, []), (20, .aload_n 0, 21, 0, 0, 0, 0, none, []), (21, .dup, 22, 0, 0, 0, 0, none, []), (22, .getfield 248, 25, 0, 12, 28, 0, none, []), (25, .iconst 1, 26, 1, 0, 0, 0, none, []), (26, .iadd, 27, 0, 0, 0, 0, none, []), (27, .putfield 248, 30, 0, 12, 28, 4, none, []), (30, .aload_n 0, 31, 0, 0, 0, 0, none, []), (31, .getfield 44, 34, 0, 12, 25, 1, none, [])]),
  (46, [(34, .iload_n 1, 35, 0, 1, 0, 0, none, []), (35, .iconst 1, 36, 1, 0, 0, 0, none, []), (36, .bastore, 37, 0, 0, 0, 0, none, []), (37, .aload_n 0, 38, 0, 0, 0, 0, none, []), (38, .iconst 0, 39, 0, 0, 0, 0, none, []), (39, .iload_n 1, 40, 0, 1, 0, 0, none, []), (40, .invokevirtual 245, 43, 0, 168, 3, 0, none, [(0, 12)]), (43, .iconst 0, 44, 0, 0, 0, 0, none, []), (44, .istore_n 3, 45, 0, 3, 0, 0, none, []), (45, .iload_n 3, 46, 0, 3, 0, 0, some [0, 3], [])]),
  (64, [(46, .sipush 216, 49, 216, 0, 0, 0, none, []), (49, .if_icmp .ge 47, 52, 0, 96, 0, 0, none, []), (52, .aload_n 0, 53, 0, 0, 0, 0, none, []), (53, .getfield 41, 56, 0, 12, 24, 1, none, []), (56, .iload_n 3, 57, 0, 3, 0, 0, none, []), (57, .aload_n 0, 58, 0, 0, 0, 0, none, []), (58, .getfield 41, 61, 0, 12, 24, 1, none, []), (61, .iload_n 3, 62, 0, 3, 0, 0, none, []), (62, .baload, 63, 0, 0, 0, 0, none, []), (63, .ifCond .ne 21, 66, 0, 84, 0, 0, none, [])]),
  (82, [(66, .aload_n 0, 67, 0, 0, 0, 0, none, []), (67, .getfield 32, 70, 0, 12, 16, 1, none, []), (70, .iload_n 3, 71, 0, 3, 0, 0, none, []), (71, .baload, 72, 0, 0, 0, 0, none, []), (72, .ifCond .eq 16, 75, 0, 88, 0, 0, none, []), (75, .aload_n 0, 76, 0, 0, 0, 0, none, []), (76, .getfield 35, 79, 0, 12, 22, 1, none, []), (79, .iload_n 3, 80, 0, 3, 0, 0, none, []), (80, .baload, 81, 0, 0, 0, 0, none, []), (81, .ifCond .eq 7, 84, 0, 88, 0, 0, none, [])]),
  (97, [(84, .iconst 1, 85, 1, 0, 0, 0, none, []), (85, .goto 4, 88, 0, 89, 0, 0, none, []), (88, .iconst 0, 89, 0, 0, 0, 0, none, []), (89, .bastore, 90, 0, 0, 0, 0, none, []), (90, .iinc 3 1, 93, 1, 3, 0, 0, none, []), (93, .goto (-48), 96, 0, 45, 0, 0, none, []), (96, .return_, 97, 0, 0, 0, 0, none, [])])]
def zc_M_comesNext : z_C := z_find2 zd_M_comesNext
def zd_M_rankOf : List (Nat × List (Nat × z_I)) := [(16, [(0, .iconst 0, 1, 0, 0, 0, 0, none, []), (1, .istore_n 2, 2, 0, 2, 0, 0, none, []), (2, .iload_n 2, 3, 0, 2, 0, 0, some [0, 1, 2], []), (3, .aload_n 0, 4, 0, 0, 0, 0, none, []), (4, .getfield 248, 7, 0, 12, 28, 0, none, []), (7, .if_icmp .ge 21, 10, 0, 28, 0, 0, none, []), (10, .aload_n 0, 11, 0, 0, 0, 0, none, []), (11, .getfield 47, 14, 0, 12, 26, 1, none, []), (14, .iload_n 2, 15, 0, 2, 0, 0, none, []), (15, .iaload, 16, 0, 0, 0, 0, none, [])]),
  (31, [(16, .iload_n 1, 17, 0, 1, 0, 0, none, []), (17, .if_icmp .ne 5, 20, 0, 22, 0, 0, none, []), (20, .iload_n 2, 21, 0, 2, 0, 0, none, []), (21, .ireturn, 22, 0, 0, 0, 0, none, []), (22, .iinc 2 1, 25, 1, 2, 0, 0, none, []), (25, .goto (-23), 28, 0, 2, 0, 0, none, []), (28, .bipush (-4), 30, (-4), 0, 0, 0, none, []), (30, .ireturn, 31, 0, 0, 0, 0, none, [])])]
def zc_M_rankOf : z_C := z_find2 zd_M_rankOf
def zd_M_nodesOfAll : List (Nat × List (Nat × z_I)) := [(12, [(0, .iconst 0, 1, 0, 0, 0, 0, none, []), (1, .istore_n 1, 2, 0, 1, 0, 0, none, []), (2, .iconst 0, 3, 0, 0, 0, 0, none, []), (3, .istore_n 2, 4, 0, 2, 0, 0, none, []), (4, .iload_n 2, 5, 0, 2, 0, 0, some [0, 1, 2], []), (5, .aload_n 0, 6, 0, 0, 0, 0, none, []), (6, .getfield 7, 9, 0, 12, 0, 1, none, []), (9, .iconst 0, 10, 0, 0, 0, 0, none, []), (10, .iaload, 11, 0, 0, 0, 0, none, []), (11, .if_icmp .ge 21, 14, 0, 32, 0, 0, none, [])]),
  (27, [(14, .iload_n 1, 15, 0, 1, 0, 0, none, []), (15, .aload_n 0, 16, 0, 0, 0, 0, none, []), (16, .getfield 7, 19, 0, 12, 0, 1, none, []), (19, .bipush 7, 21, 7, 0, 0, 0, none, []), (21, .iload_n 2, 22, 0, 2, 0, 0, none, []), (22, .iadd, 23, 0, 0, 0, 0, none, []), (23, .iaload, 24, 0, 0, 0, 0, none, []), (24, .iadd, 25, 0, 0, 0, 0, none, []), (25, .istore_n 1, 26, 0, 1, 0, 0, none, []), (26, .iinc 2 1, 29, 1, 2, 0, 0, none, [])]),
  (34, [(29, .goto (-25), 32, 0, 4, 0, 0, none, []), (32, .iload_n 1, 33, 0, 1, 0, 0, none, []), (33, .ireturn, 34, 0, 0, 0, 0, none, [])])]
def zc_M_nodesOfAll : z_C := z_find2 zd_M_nodesOfAll
def zd_M_costsChosen : List (Nat × List (Nat × z_I)) := [(14, [(0, .aload_n 0, 1, 0, 0, 0, 0, none, []), (1, .invokevirtual 258, 4, 0, 175, 1, 0, none, [(0, 12)]), (4, .iconst 0, 5, 0, 0, 0, 0, none, []), (5, .istore_n 1, 6, 0, 1, 0, 0, none, []), (6, .iconst 0, 7, 0, 0, 0, 0, none, []), (7, .istore_n 2, 8, 0, 2, 0, 0, none, []), (8, .iload_n 2, 9, 0, 2, 0, 0, some [0, 1, 2], []), (9, .aload_n 0, 10, 0, 0, 0, 0, none, []), (10, .getfield 248, 13, 0, 12, 28, 0, none, []), (13, .if_icmp .ge 23, 16, 0, 36, 0, 0, none, [])]),
  (30, [(16, .iload_n 1, 17, 0, 1, 0, 0, none, []), (17, .aload_n 0, 18, 0, 0, 0, 0, none, []), (18, .aload_n 0, 19, 0, 0, 0, 0, none, []), (19, .getfield 47, 22, 0, 12, 26, 1, none, []), (22, .iload_n 2, 23, 0, 2, 0, 0, none, []), (23, .iaload, 24, 0, 0, 0, 0, none, []), (24, .iconst 2, 25, 2, 0, 0, 0, none, []), (25, .invokevirtual 224, 28, 0, 167, 3, 1, none, [(0, 12)]), (28, .iadd, 29, 0, 0, 0, 0, none, []), (29, .istore_n 1, 30, 0, 1, 0, 0, none, [])]),
  (38, [(30, .iinc 2 1, 33, 1, 2, 0, 0, none, []), (33, .goto (-25), 36, 0, 8, 0, 0, none, []), (36, .iload_n 1, 37, 0, 1, 0, 0, none, []), (37, .ireturn, 38, 0, 0, 0, 0, none, [])])]
def zc_M_costsChosen : z_C := z_find2 zd_M_costsChosen
def zd_M_chosen : List (Nat × List (Nat × z_I)) := [(9, [(0, .aload_n 0, 1, 0, 0, 0, 0, none, []), (1, .invokevirtual 258, 4, 0, 175, 1, 0, none, [(0, 12)]), (4, .aload_n 0, 5, 0, 0, 0, 0, none, []), (5, .getfield 248, 8, 0, 12, 28, 0, none, []), (8, .ireturn, 9, 0, 0, 0, 0, none, [])])]
def zc_M_chosen : z_C := z_find2 zd_M_chosen
def zd_M_areSame : List (Nat × List (Nat × z_I)) := [(14, [(0, .aload_n 0, 1, 0, 0, 0, 0, none, []), (1, .iconst 0, 2, 0, 0, 0, 0, none, []), (2, .iload_n 1, 3, 0, 1, 0, 0, none, []), (3, .iload_n 2, 4, 0, 2, 0, 0, none, []), (4, .invokevirtual 228, 7, 0, 166, 4, 0, none, [(0, 12)]), (7, .aload_n 0, 8, 0, 0, 0, 0, none, []), (8, .getfield 177, 11, 0, 12, 19, 0, none, []), (11, .istore_n 3, 12, 0, 3, 0, 0, none, []), (12, .aload_n 0, 13, 0, 0, 0, 0, none, []), (13, .iconst 1, 14, 1, 0, 0, 0, none, [])]),
  (32, [(14, .iload_n 1, 15, 0, 1, 0, 0, none, []), (15, .iload_n 2, 16, 0, 2, 0, 0, none, []), (16, .invokevirtual 228, 19, 0, 166, 4, 0, none, [(0, 12)]), (19, .iload_n 3, 20, 0, 3, 0, 0, none, []), (20, .aload_n 0, 21, 0, 0, 0, 0, none, []), (21, .getfield 177, 24, 0, 12, 19, 0, none, []), (24, .if_icmp .ne 7, 27, 0, 31, 0, 0, none, []), (27, .iconst 1, 28, 1, 0, 0, 0, none, []), (28, .goto 4, 31, 0, 32, 0, 0, none, []), (31, .iconst 0, 32, 0, 0, 0, 0, none, [])]),
  (33, [(32, .ireturn, 33, 0, 1, 0, 0, none, [])])]
def zc_M_areSame : z_C := z_find2 zd_M_areSame
def zd_M_others : List (Nat × List (Nat × z_I)) := [(12, [(0, .iconst 0, 1, 0, 0, 0, 0, none, []), (1, .istore_n 1, 2, 0, 1, 0, 0, none, []), (2, .iconst 0, 3, 0, 0, 0, 0, none, []), (3, .istore_n 2, 4, 0, 2, 0, 0, none, []), (4, .iload_n 2, 5, 0, 2, 0, 0, some [0, 1, 2], []), (5, .aload_n 0, 6, 0, 0, 0, 0, none, []), (6, .getfield 7, 9, 0, 12, 0, 1, none, []), (9, .iconst 2, 10, 2, 0, 0, 0, none, []), (10, .iaload, 11, 0, 0, 0, 0, none, []), (11, .if_icmp .ge 39, 14, 0, 50, 0, 0, none, [])]),
  (26, [(14, .iload_n 1, 15, 0, 1, 0, 0, none, []), (15, .aload_n 0, 16, 0, 0, 0, 0, none, []), (16, .aload_n 0, 17, 0, 0, 0, 0, none, []), (17, .iload_n 2, 18, 0, 2, 0, 0, none, []), (18, .iconst 0, 19, 0, 0, 0, 0, none, []), (19, .invokevirtual 224, 22, 0, 167, 3, 1, none, [(0, 12)]), (22, .aload_n 0, 23, 0, 0, 0, 0, none, []), (23, .iload_n 2, 24, 0, 2, 0, 0, none, []), (24, .iconst 1, 25, 1, 0, 0, 0, none, []), (25, .invokevirtual 224, 28, 0, 167, 3, 1, none, [(0, 12)])]),
  (48, [(28, .invokevirtual 261, 31, 0, 181, 3, 1, none, [(0, 12)]), (31, .ifCond .ne 7, 34, 0, 38, 0, 0, none, []), (34, .iconst 1, 35, 1, 0, 0, 0, none, []), (35, .goto 4, 38, 0, 39, 0, 0, none, []), (38, .iconst 0, 39, 0, 0, 0, 0, none, []), (39, .invokestatic 207, 42, 0, 128, 1, 1, none, []), (42, .iadd, 43, 0, 0, 0, 0, none, []), (43, .istore_n 1, 44, 0, 1, 0, 0, none, []), (44, .iinc 2 1, 47, 1, 2, 0, 0, none, []), (47, .goto (-43), 50, 0, 4, 0, 0, none, [])]),
  (52, [(50, .iload_n 1, 51, 0, 1, 0, 0, none, []), (51, .ireturn, 52, 0, 0, 0, 0, none, [])])]
def zc_M_others : z_C := z_find2 zd_M_others
def zd_M_rule : List (Nat × List (Nat × z_I)) := [(60, [(0, .iload_n 1, 1, 0, 1, 0, 0, none, []), (1, .tableswitch 93 0 7 #[47, 54, 59, 66, 73, 78, 83, 88], 48, 0, 94, 0, 0, none, [(0, 48), (1, 55), (2, 60), (3, 67), (4, 74), (5, 79), (6, 84), (7, 89)]), (48, .aload_n 0, 49, 0, 0, 0, 0, none, []), (49, .getfield 7, 52, 0, 12, 0, 1, none, []), (52, .iconst 0, 53, 0, 0, 0, 0, none, []), (53, .iaload, 54, 0, 0, 0, 0, none, []), (54, .ireturn, 55, 0, 0, 0, 0, none, []), (55, .aload_n 0, 56, 0, 0, 0, 0, none, []), (56, .invokevirtual 264, 59, 0, 178, 1, 1, none, [(0, 12)]), (59, .ireturn, 60, 0, 0, 0, 0, none, [])]),
  (74, [(60, .aload_n 0, 61, 0, 0, 0, 0, none, []), (61, .getfield 7, 64, 0, 12, 0, 1, none, []), (64, .iconst 1, 65, 1, 0, 0, 0, none, []), (65, .iaload, 66, 0, 0, 0, 0, none, []), (66, .ireturn, 67, 0, 0, 0, 0, none, []), (67, .aload_n 0, 68, 0, 0, 0, 0, none, []), (68, .getfield 7, 71, 0, 12, 0, 1, none, []), (71, .iconst 2, 72, 2, 0, 0, 0, none, []), (72, .iaload, 73, 0, 0, 0, 0, none, []), (73, .ireturn, 74, 0, 0, 0, 0, none, [])]),
  (90, [(74, .aload_n 0, 75, 0, 0, 0, 0, none, []), (75, .invokevirtual 267, 78, 0, 173, 1, 1, none, [(0, 12)]), (78, .ireturn, 79, 0, 0, 0, 0, none, []), (79, .aload_n 0, 80, 0, 0, 0, 0, none, []), (80, .invokevirtual 270, 83, 0, 180, 1, 1, none, [(0, 12)]), (83, .ireturn, 84, 0, 0, 0, 0, none, []), (84, .aload_n 0, 85, 0, 0, 0, 0, none, []), (85, .invokevirtual 273, 88, 0, 179, 1, 1, none, [(0, 12)]), (88, .ireturn, 89, 0, 0, 0, 0, none, []), (89, .aload_n 0, 90, 0, 0, 0, 0, none, [])]),
  (96, [(90, .invokevirtual 276, 93, 0, 182, 1, 1, none, [(0, 12)]), (93, .ireturn, 94, 0, 0, 0, 0, none, []), (94, .iconst (-1), 95, (-1), 0, 0, 0, none, []), (95, .ireturn, 96, 0, 0, 0, 0, none, [])])]
def zc_M_rule : z_C := z_find2 zd_M_rule
def zd_M_node : List (Nat × List (Nat × z_I)) := [(16, [(0, .iload_n 3, 1, 0, 3, 0, 0, none, []), (1, .bipush 10, 3, 10, 0, 0, 0, none, []), (3, .irem, 4, 0, 0, 0, 0, none, []), (4, .istore 4, 6, 0, 4, 0, 0, none, []), (6, .aload_n 0, 7, 0, 0, 0, 0, none, []), (7, .iload_n 1, 8, 0, 1, 0, 0, none, []), (8, .iload_n 2, 9, 0, 2, 0, 0, none, []), (9, .invokevirtual 279, 12, 0, 153, 3, 1, none, [(0, 12)]), (12, .ifCond .eq 21, 15, 0, 33, 0, 0, none, []), (15, .iload_n 3, 16, 0, 3, 0, 0, none, [])]),
  (35, [(16, .i2l, 17, 0, 0, 0, 0, none, []), (17, .lconst 0, 18, 0, 0, 0, 0, none, []), (18, .ldc2_w 282, 21, 14, 0, 0, 0, none, []), (21, .invokestatic 84, 24, 0, 127, 3, 1, none, []), (24, .ifCond .eq 9, 27, 0, 33, 0, 0, none, []), (27, .iload 4, 29, 0, 4, 0, 0, none, []), (29, .iconst 4, 30, 4, 0, 0, 0, none, []), (30, .if_icmp .le 5, 33, 0, 35, 0, 0, none, []), (33, .iconst (-1), 34, (-1), 0, 0, 0, none, []), (34, .ireturn, 35, 0, 0, 0, 0, none, [])]),
  (51, [(35, .iload_n 3, 36, 0, 3, 0, 0, none, []), (36, .bipush 10, 38, 10, 0, 0, 0, none, []), (38, .idiv, 39, 0, 0, 0, 0, none, []), (39, .istore 5, 41, 0, 5, 0, 0, none, []), (41, .iload 4, 43, 0, 4, 0, 0, none, []), (43, .iconst 3, 44, 3, 0, 0, 0, none, []), (44, .if_icmp .ge 14, 47, 0, 58, 0, 0, none, []), (47, .aload_n 0, 48, 0, 0, 0, 0, none, []), (48, .iload 5, 50, 0, 5, 0, 0, none, []), (50, .iload_n 1, 51, 0, 1, 0, 0, none, [])]),
  (66, [(51, .iload_n 2, 52, 0, 2, 0, 0, none, []), (52, .iload 4, 54, 0, 4, 0, 0, none, []), (54, .invokevirtual 190, 57, 0, 158, 5, 1, none, [(0, 12)]), (57, .ireturn, 58, 0, 0, 0, 0, none, []), (58, .iload 4, 60, 0, 4, 0, 0, none, []), (60, .iconst 3, 61, 3, 0, 0, 0, none, []), (61, .isub, 62, 0, 0, 0, 0, none, []), (62, .aload_n 0, 63, 0, 0, 0, 0, none, []), (63, .iload 5, 65, 0, 5, 0, 0, none, []), (65, .iload_n 1, 66, 0, 1, 0, 0, none, [])]),
  (82, [(66, .iload_n 2, 67, 0, 2, 0, 0, none, []), (67, .iconst 2, 68, 2, 0, 0, 0, none, []), (68, .invokevirtual 190, 71, 0, 158, 5, 1, none, [(0, 12)]), (71, .if_icmp .ge 16, 74, 0, 87, 0, 0, none, []), (74, .aload_n 0, 75, 0, 0, 0, 0, none, []), (75, .iload 5, 77, 0, 5, 0, 0, none, []), (77, .iload_n 1, 78, 0, 1, 0, 0, none, []), (78, .iload_n 2, 79, 0, 2, 0, 0, none, []), (79, .iload 4, 81, 0, 4, 0, 0, none, []), (81, .invokevirtual 190, 84, 0, 158, 5, 1, none, [(0, 12)])]),
  (90, [(84, .goto 5, 87, 0, 89, 0, 0, none, []), (87, .bipush (-4), 89, (-4), 0, 0, 0, none, []), (89, .ireturn, 90, 0, 0, 0, 0, none, [])])]
def zc_M_node : z_C := z_find2 zd_M_node
def zd_M_meant : List (Nat × List (Nat × z_I)) := [(20, [(0, .aload_n 0, 1, 0, 0, 0, 0, none, []), (1, .iload_n 1, 2, 0, 1, 0, 0, none, []), (2, .invokevirtual 284, 5, 0, 154, 2, 1, none, [(0, 12)]), (5, .ifCond .eq 27, 8, 0, 32, 0, 0, none, []), (8, .iload_n 2, 9, 0, 2, 0, 0, none, []), (9, .invokestatic 287, 12, 0, 155, 1, 1, none, []), (12, .ifCond .eq 20, 15, 0, 32, 0, 0, none, []), (15, .iload_n 3, 16, 0, 3, 0, 0, none, []), (16, .invokestatic 290, 19, 0, 157, 1, 1, none, []), (19, .ifCond .eq 13, 22, 0, 32, 0, 0, none, [])]),
  (34, [(22, .aload_n 0, 23, 0, 0, 0, 0, none, []), (23, .iload_n 3, 24, 0, 3, 0, 0, none, []), (24, .iload_n 1, 25, 0, 1, 0, 0, none, []), (25, .iload_n 2, 26, 0, 2, 0, 0, none, []), (26, .invokevirtual 211, 29, 0, 159, 4, 1, none, [(0, 12)]), (29, .goto 4, 32, 0, 33, 0, 0, none, []), (32, .iconst (-1), 33, (-1), 0, 0, 0, none, []), (33, .ireturn, 34, 0, 0, 0, 0, none, [])])]
def zc_M_meant : z_C := z_find2 zd_M_meant
def zd_M_coveredMany : List (Nat × List (Nat × z_I)) := [(14, [(0, .iconst 0, 1, 0, 0, 0, 0, none, []), (1, .istore_n 1, 2, 0, 1, 0, 0, none, []), (2, .iconst 0, 3, 0, 0, 0, 0, none, []), (3, .istore_n 2, 4, 0, 2, 0, 0, none, []), (4, .iload_n 2, 5, 0, 2, 0, 0, some [0, 1, 2], []), (5, .sipush 216, 8, 216, 0, 0, 0, none, []), (8, .if_icmp .ge 21, 11, 0, 29, 0, 0, none, []), (11, .iload_n 1, 12, 0, 1, 0, 0, none, []), (12, .aload_n 0, 13, 0, 0, 0, 0, none, []), (13, .getfield 32, 16, 0, 12, 16, 1, none, [])]),
  (31, [(16, .iload_n 2, 17, 0, 2, 0, 0, none, []), (17, .baload, 18, 0, 0, 0, 0, none, []), (18, .invokestatic 207, 21, 0, 128, 1, 1, none, []), (21, .iadd, 22, 0, 0, 0, 0, none, []), (22, .istore_n 1, 23, 0, 1, 0, 0, none, []), (23, .iinc 2 1, 26, 1, 2, 0, 0, none, []), (26, .goto (-22), 29, 0, 4, 0, 0, none, []), (29, .iload_n 1, 30, 0, 1, 0, 0, none, []), (30, .ireturn, 31, 0, 0, 0, 0, none, [])])]
def zc_M_coveredMany : z_C := z_find2 zd_M_coveredMany
def zd_M_nodesRun : List (Nat × List (Nat × z_I)) := [(11, [(0, .aload_n 0, 1, 0, 0, 0, 0, none, []), (1, .iload_n 1, 2, 0, 1, 0, 0, none, []), (2, .iload_n 2, 3, 0, 2, 0, 0, none, []), (3, .invokevirtual 245, 6, 0, 168, 3, 0, none, [(0, 12)]), (6, .aload_n 0, 7, 0, 0, 0, 0, none, []), (7, .getfield 180, 10, 0, 12, 18, 0, none, []), (10, .ireturn, 11, 0, 0, 0, 0, none, [])])]
def zc_M_nodesRun : z_C := z_find2 zd_M_nodesRun
def zd_M_coveredBy : List (Nat × List (Nat × z_I)) := [(11, [(0, .aload_n 0, 1, 0, 0, 0, 0, none, []), (1, .iconst 0, 2, 0, 0, 0, 0, none, []), (2, .iload_n 1, 3, 0, 1, 0, 0, none, []), (3, .invokevirtual 245, 6, 0, 168, 3, 0, none, [(0, 12)]), (6, .aload_n 0, 7, 0, 0, 0, 0, none, []), (7, .invokevirtual 293, 10, 0, 186, 1, 1, none, [(0, 12)]), (10, .ireturn, 11, 0, 0, 0, 0, none, [])])]
def zc_M_coveredBy : z_C := z_find2 zd_M_coveredBy
def zd_M_dangersBy : List (Nat × List (Nat × z_I)) := [(11, [(0, .aload_n 0, 1, 0, 0, 0, 0, none, []), (1, .invokevirtual 242, 4, 0, 172, 1, 0, none, [(0, 12)]), (4, .aload_n 0, 5, 0, 0, 0, 0, none, []), (5, .iload_n 1, 6, 0, 1, 0, 0, none, []), (6, .iconst 0, 7, 0, 0, 0, 0, none, []), (7, .invokevirtual 251, 10, 0, 174, 3, 1, none, [(0, 12)]), (10, .ireturn, 11, 0, 0, 0, 0, none, [])])]
def zc_M_dangersBy : z_C := z_find2 zd_M_dangersBy
def zd_M_test : List (Nat × List (Nat × z_I)) := [(62, [(0, .aload_n 0, 1, 0, 0, 0, 0, none, []), (1, .iload_n 1, 2, 0, 1, 0, 0, none, []), (2, .invokevirtual 296, 5, 0, 156, 2, 1, none, [(0, 12)]), (5, .ifCond .ne 5, 8, 0, 10, 0, 0, none, []), (8, .iconst (-1), 9, (-1), 0, 0, 0, none, []), (9, .ireturn, 10, 0, 0, 0, 0, none, []), (10, .iload_n 2, 11, 0, 2, 0, 0, none, []), (11, .tableswitch 104 0 8 #[49, 49, 49, 56, 56, 65, 82, 92, 98], 60, 0, 115, 0, 0, none, [(0, 60), (1, 60), (2, 60), (3, 67), (4, 67), (5, 76), (6, 93), (7, 103), (8, 109)]), (60, .aload_n 0, 61, 0, 0, 0, 0, none, []), (61, .iload_n 1, 62, 0, 1, 0, 0, none, [])]),
  (76, [(62, .iload_n 2, 63, 0, 2, 0, 0, none, []), (63, .invokevirtual 224, 66, 0, 167, 3, 1, none, [(0, 12)]), (66, .ireturn, 67, 0, 0, 0, 0, none, []), (67, .aload_n 0, 68, 0, 0, 0, 0, none, []), (68, .iload_n 2, 69, 0, 2, 0, 0, none, []), (69, .iconst 3, 70, 3, 0, 0, 0, none, []), (70, .isub, 71, 0, 0, 0, 0, none, []), (71, .iload_n 1, 72, 0, 1, 0, 0, none, []), (72, .invokevirtual 299, 75, 0, 187, 3, 1, none, [(0, 12)]), (75, .ireturn, 76, 0, 0, 0, 0, none, [])]),
  (94, [(76, .aload_n 0, 77, 0, 0, 0, 0, none, []), (77, .iload_n 1, 78, 0, 1, 0, 0, none, []), (78, .invokevirtual 302, 81, 0, 189, 2, 1, none, [(0, 12)]), (81, .ifCond .le 7, 84, 0, 88, 0, 0, none, []), (84, .iconst 1, 85, 1, 0, 0, 0, none, []), (85, .goto 4, 88, 0, 89, 0, 0, none, []), (88, .iconst 0, 89, 0, 0, 0, 0, none, []), (89, .invokestatic 207, 92, 0, 128, 1, 1, none, []), (92, .ireturn, 93, 0, 0, 0, 0, none, []), (93, .aload_n 0, 94, 0, 0, 0, 0, none, [])]),
  (110, [(94, .invokevirtual 258, 97, 0, 175, 1, 0, none, [(0, 12)]), (97, .aload_n 0, 98, 0, 0, 0, 0, none, []), (98, .iload_n 1, 99, 0, 1, 0, 0, none, []), (99, .invokevirtual 305, 102, 0, 177, 2, 1, none, [(0, 12)]), (102, .ireturn, 103, 0, 0, 0, 0, none, []), (103, .aload_n 0, 104, 0, 0, 0, 0, none, []), (104, .iload_n 1, 105, 0, 1, 0, 0, none, []), (105, .invokevirtual 308, 108, 0, 188, 2, 1, none, [(0, 12)]), (108, .ireturn, 109, 0, 0, 0, 0, none, []), (109, .aload_n 0, 110, 0, 0, 0, 0, none, [])]),
  (117, [(110, .iload_n 1, 111, 0, 1, 0, 0, none, []), (111, .invokevirtual 302, 114, 0, 189, 2, 1, none, [(0, 12)]), (114, .ireturn, 115, 0, 0, 0, 0, none, []), (115, .iconst (-1), 116, (-1), 0, 0, 0, none, []), (116, .ireturn, 117, 0, 0, 0, 0, none, [])])]
def zc_M_test : z_C := z_find2 zd_M_test
def zd_M_said : List (Nat × List (Nat × z_I)) := [(18, [(0, .aload_n 0, 1, 0, 0, 0, 0, none, []), (1, .iload_n 1, 2, 0, 1, 0, 0, none, []), (2, .invokevirtual 296, 5, 0, 156, 2, 1, none, [(0, 12)]), (5, .ifCond .eq 10, 8, 0, 15, 0, 0, none, []), (8, .iload_n 2, 9, 0, 2, 0, 0, none, []), (9, .invokestatic 290, 12, 0, 157, 1, 1, none, []), (12, .ifCond .ne 5, 15, 0, 17, 0, 0, none, []), (15, .iconst 0, 16, 0, 0, 0, 0, none, []), (16, .ireturn, 17, 0, 0, 0, 0, none, []), (17, .aload_n 0, 18, 0, 0, 0, 0, none, [])]),
  (28, [(18, .iload_n 2, 19, 0, 2, 0, 0, none, []), (19, .iload_n 1, 20, 0, 1, 0, 0, none, []), (20, .invokevirtual 245, 23, 0, 168, 3, 0, none, [(0, 12)]), (23, .aload_n 0, 24, 0, 0, 0, 0, none, []), (24, .getfield 177, 27, 0, 12, 19, 0, none, []), (27, .ireturn, 28, 0, 0, 0, 0, none, [])])]
def zc_M_said : z_C := z_find2 zd_M_said
def zd_M_isEdge : List (Nat × List (Nat × z_I)) := [(17, [(0, .iload_n 1, 1, 0, 1, 0, 0, none, []), (1, .i2l, 2, 0, 0, 0, 0, none, []), (2, .lconst 0, 3, 0, 0, 0, 0, none, []), (3, .ldc2_w 311, 6, 95, 0, 0, 0, none, []), (6, .invokestatic 84, 9, 0, 127, 3, 1, none, []), (9, .ifCond .eq 44, 12, 0, 53, 0, 0, none, []), (12, .iload_n 1, 13, 0, 1, 0, 0, none, []), (13, .bipush 16, 15, 16, 0, 0, 0, none, []), (15, .idiv, 16, 0, 0, 0, 0, none, []), (16, .istore_n 2, 17, 0, 2, 0, 0, none, [])]),
  (28, [(17, .iload_n 1, 18, 0, 1, 0, 0, none, []), (18, .bipush 16, 20, 16, 0, 0, 0, none, []), (20, .irem, 21, 0, 0, 0, 0, none, []), (21, .iconst 2, 22, 2, 0, 0, 0, none, []), (22, .idiv, 23, 0, 0, 0, 0, none, []), (23, .istore_n 3, 24, 0, 3, 0, 0, none, []), (24, .aload_n 0, 25, 0, 0, 0, 0, none, []), (25, .iload_n 2, 26, 0, 2, 0, 0, none, []), (26, .iload_n 3, 27, 0, 3, 0, 0, none, []), (27, .invokevirtual 279, 30, 0, 153, 3, 1, none, [(0, 12)])]),
  (42, [(30, .ifCond .eq 21, 33, 0, 51, 0, 0, none, []), (33, .iload_n 1, 34, 0, 1, 0, 0, none, []), (34, .iconst 2, 35, 2, 0, 0, 0, none, []), (35, .irem, 36, 0, 0, 0, 0, none, []), (36, .aload_n 0, 37, 0, 0, 0, 0, none, []), (37, .iconst 0, 38, 0, 0, 0, 0, none, []), (38, .iload_n 2, 39, 0, 2, 0, 0, none, []), (39, .iload_n 3, 40, 0, 3, 0, 0, none, []), (40, .iconst 2, 41, 2, 0, 0, 0, none, []), (41, .invokevirtual 190, 44, 0, 158, 5, 1, none, [(0, 12)])]),
  (62, [(44, .if_icmp .ge 7, 47, 0, 51, 0, 0, none, []), (47, .iconst 1, 48, 1, 0, 0, 0, none, []), (48, .goto 4, 51, 0, 52, 0, 0, none, []), (51, .iconst 0, 52, 0, 0, 0, 0, none, []), (52, .ireturn, 53, 0, 1, 0, 0, none, []), (53, .iload_n 1, 54, 0, 1, 0, 0, none, []), (54, .i2l, 55, 0, 0, 0, 0, none, []), (55, .ldc2_w 313, 58, 100, 0, 0, 0, none, []), (58, .ldc2_w 315, 61, 105, 0, 0, 0, none, []), (61, .invokestatic 84, 64, 0, 127, 3, 1, none, [])]),
  (81, [(64, .ifCond .eq 14, 67, 0, 78, 0, 0, none, []), (67, .aload_n 0, 68, 0, 0, 0, 0, none, []), (68, .iload_n 1, 69, 0, 1, 0, 0, none, []), (69, .bipush 100, 71, 100, 0, 0, 0, none, []), (71, .isub, 72, 0, 0, 0, 0, none, []), (72, .invokevirtual 172, 75, 0, 152, 2, 1, none, [(0, 12)]), (75, .ifCond .ne 31, 78, 0, 106, 0, 0, none, []), (78, .iload_n 1, 79, 0, 1, 0, 0, some [0, 1], []), (79, .i2l, 80, 0, 0, 0, 0, none, []), (80, .ldc2_w 317, 83, 200, 0, 0, 0, none, [])]),
  (101, [(83, .ldc2_w 319, 86, 215, 0, 0, 0, none, []), (86, .invokestatic 84, 89, 0, 127, 3, 1, none, []), (89, .ifCond .eq 21, 92, 0, 110, 0, 0, none, []), (92, .aload_n 0, 93, 0, 0, 0, 0, none, []), (93, .iload_n 1, 94, 0, 1, 0, 0, none, []), (94, .sipush 200, 97, 200, 0, 0, 0, none, []), (97, .isub, 98, 0, 0, 0, 0, none, []), (98, .iconst 4, 99, 4, 0, 0, 0, none, []), (99, .idiv, 100, 0, 0, 0, 0, none, []), (100, .invokevirtual 284, 103, 0, 154, 2, 1, none, [(0, 12)])]),
  (112, [(103, .ifCond .eq 7, 106, 0, 110, 0, 0, none, []), (106, .iconst 1, 107, 1, 0, 0, 0, none, []), (107, .goto 4, 110, 0, 111, 0, 0, none, []), (110, .iconst 0, 111, 0, 0, 0, 0, none, []), (111, .ireturn, 112, 0, 1, 0, 0, none, [])])]
def zc_M_isEdge : z_C := z_find2 zd_M_isEdge
def zd_M_testsOver : List (Nat × List (Nat × z_I)) := [(12, [(0, .iconst 0, 1, 0, 0, 0, 0, none, []), (1, .istore_n 2, 2, 0, 2, 0, 0, none, []), (2, .iconst 0, 3, 0, 0, 0, 0, none, []), (3, .istore_n 3, 4, 0, 3, 0, 0, none, []), (4, .iload_n 3, 5, 0, 3, 0, 0, some [0, 1, 2, 3], []), (5, .aload_n 0, 6, 0, 0, 0, 0, none, []), (6, .getfield 7, 9, 0, 12, 0, 1, none, []), (9, .iconst 2, 10, 2, 0, 0, 0, none, []), (10, .iaload, 11, 0, 0, 0, 0, none, []), (11, .if_icmp .ge 27, 14, 0, 38, 0, 0, none, [])]),
  (28, [(14, .aload_n 0, 15, 0, 0, 0, 0, none, []), (15, .iconst 0, 16, 0, 0, 0, 0, none, []), (16, .iload_n 3, 17, 0, 3, 0, 0, none, []), (17, .invokevirtual 245, 20, 0, 168, 3, 0, none, [(0, 12)]), (20, .iload_n 2, 21, 0, 2, 0, 0, none, []), (21, .aload_n 0, 22, 0, 0, 0, 0, none, []), (22, .getfield 32, 25, 0, 12, 16, 1, none, []), (25, .iload_n 1, 26, 0, 1, 0, 0, none, []), (26, .baload, 27, 0, 0, 0, 0, none, []), (27, .invokestatic 207, 30, 0, 128, 1, 1, none, [])]),
  (40, [(30, .iadd, 31, 0, 0, 0, 0, none, []), (31, .istore_n 2, 32, 0, 2, 0, 0, none, []), (32, .iinc 3 1, 35, 1, 3, 0, 0, none, []), (35, .goto (-31), 38, 0, 4, 0, 0, none, []), (38, .iload_n 2, 39, 0, 2, 0, 0, none, []), (39, .ireturn, 40, 0, 0, 0, 0, none, [])])]
def zc_M_testsOver : z_C := z_find2 zd_M_testsOver
def zd_M_edge : List (Nat × List (Nat × z_I)) := [(18, [(0, .aload_n 0, 1, 0, 0, 0, 0, none, []), (1, .iload_n 1, 2, 0, 1, 0, 0, none, []), (2, .invokevirtual 321, 5, 0, 192, 2, 1, none, [(0, 12)]), (5, .ifCond .eq 10, 8, 0, 15, 0, 0, none, []), (8, .iload_n 2, 9, 0, 2, 0, 0, none, []), (9, .invokestatic 290, 12, 0, 157, 1, 1, none, []), (12, .ifCond .ne 5, 15, 0, 17, 0, 0, none, []), (15, .iconst (-1), 16, (-1), 0, 0, 0, none, []), (16, .ireturn, 17, 0, 0, 0, 0, none, []), (17, .iload_n 2, 18, 0, 2, 0, 0, none, [])]),
  (34, [(18, .iconst 1, 19, 1, 0, 0, 0, none, []), (19, .if_icmp .ne 9, 22, 0, 28, 0, 0, none, []), (22, .aload_n 0, 23, 0, 0, 0, 0, none, []), (23, .iload_n 1, 24, 0, 1, 0, 0, none, []), (24, .invokevirtual 324, 27, 0, 193, 2, 1, none, [(0, 12)]), (27, .ireturn, 28, 0, 0, 0, 0, none, []), (28, .aload_n 0, 29, 0, 0, 0, 0, none, []), (29, .invokevirtual 242, 32, 0, 172, 1, 0, none, [(0, 12)]), (32, .aload_n 0, 33, 0, 0, 0, 0, none, []), (33, .getfield 35, 36, 0, 12, 22, 1, none, [])]),
  (42, [(36, .iload_n 1, 37, 0, 1, 0, 0, none, []), (37, .baload, 38, 0, 0, 0, 0, none, []), (38, .invokestatic 207, 41, 0, 128, 1, 1, none, []), (41, .ireturn, 42, 0, 0, 0, 0, none, [])])]
def zc_M_edge : z_C := z_find2 zd_M_edge
def zd_M_covers : List (Nat × List (Nat × z_I)) := [(18, [(0, .aload_n 0, 1, 0, 0, 0, 0, none, []), (1, .iload_n 1, 2, 0, 1, 0, 0, none, []), (2, .invokevirtual 296, 5, 0, 156, 2, 1, none, [(0, 12)]), (5, .ifCond .eq 11, 8, 0, 16, 0, 0, none, []), (8, .aload_n 0, 9, 0, 0, 0, 0, none, []), (9, .iload_n 2, 10, 0, 2, 0, 0, none, []), (10, .invokevirtual 321, 13, 0, 192, 2, 1, none, [(0, 12)]), (13, .ifCond .ne 5, 16, 0, 18, 0, 0, none, []), (16, .iconst (-1), 17, (-1), 0, 0, 0, none, []), (17, .ireturn, 18, 0, 0, 0, 0, none, [])]),
  (34, [(18, .aload_n 0, 19, 0, 0, 0, 0, none, []), (19, .iconst 0, 20, 0, 0, 0, 0, none, []), (20, .iload_n 1, 21, 0, 1, 0, 0, none, []), (21, .invokevirtual 245, 24, 0, 168, 3, 0, none, [(0, 12)]), (24, .aload_n 0, 25, 0, 0, 0, 0, none, []), (25, .getfield 32, 28, 0, 12, 16, 1, none, []), (28, .iload_n 2, 29, 0, 2, 0, 0, none, []), (29, .baload, 30, 0, 0, 0, 0, none, []), (30, .invokestatic 207, 33, 0, 128, 1, 1, none, []), (33, .ireturn, 34, 0, 0, 0, 0, none, [])])]
def zc_M_covers : z_C := z_find2 zd_M_covers
def zd_M_order : List (Nat × List (Nat × z_I)) := [(18, [(0, .iload_n 1, 1, 0, 1, 0, 0, none, []), (1, .ifCond .lt 10, 4, 0, 11, 0, 0, none, []), (4, .iload_n 2, 5, 0, 2, 0, 0, none, []), (5, .invokestatic 290, 8, 0, 157, 1, 1, none, []), (8, .ifCond .ne 5, 11, 0, 13, 0, 0, none, []), (11, .iconst (-1), 12, (-1), 0, 0, 0, none, []), (12, .ireturn, 13, 0, 0, 0, 0, none, []), (13, .aload_n 0, 14, 0, 0, 0, 0, none, []), (14, .invokevirtual 258, 17, 0, 175, 1, 0, none, [(0, 12)]), (17, .iload_n 1, 18, 0, 1, 0, 0, none, [])]),
  (39, [(18, .aload_n 0, 19, 0, 0, 0, 0, none, []), (19, .getfield 248, 22, 0, 12, 28, 0, none, []), (22, .if_icmp .lt 8, 25, 0, 30, 0, 0, none, []), (25, .bipush (-4), 27, (-4), 0, 0, 0, none, []), (27, .goto 22, 30, 0, 49, 0, 0, none, []), (30, .iload_n 2, 31, 0, 2, 0, 0, none, []), (31, .ifCond .ne 12, 34, 0, 43, 0, 0, none, []), (34, .aload_n 0, 35, 0, 0, 0, 0, none, []), (35, .getfield 47, 38, 0, 12, 26, 1, none, []), (38, .iload_n 1, 39, 0, 1, 0, 0, none, [])]),
  (50, [(39, .iaload, 40, 0, 0, 0, 0, none, []), (40, .goto 9, 43, 0, 49, 0, 0, none, []), (43, .aload_n 0, 44, 0, 0, 0, 0, none, []), (44, .getfield 50, 47, 0, 12, 27, 1, none, []), (47, .iload_n 1, 48, 0, 1, 0, 0, none, []), (48, .iaload, 49, 0, 0, 0, 0, none, []), (49, .ireturn, 50, 0, 0, 0, 0, none, [])])]
def zc_M_order : z_C := z_find2 zd_M_order
def zd_M_same : List (Nat × List (Nat × z_I)) := [(14, [(0, .aload_n 0, 1, 0, 0, 0, 0, none, []), (1, .iload_n 1, 2, 0, 1, 0, 0, none, []), (2, .invokevirtual 284, 5, 0, 154, 2, 1, none, [(0, 12)]), (5, .ifCond .ne 5, 8, 0, 10, 0, 0, none, []), (8, .iconst (-1), 9, (-1), 0, 0, 0, none, []), (9, .ireturn, 10, 0, 0, 0, 0, none, []), (10, .iconst 0, 11, 0, 0, 0, 0, none, []), (11, .istore_n 2, 12, 0, 2, 0, 0, none, []), (12, .iconst 0, 13, 0, 0, 0, 0, none, []), (13, .istore_n 3, 14, 0, 3, 0, 0, none, [])]),
  (32, [(14, .iload_n 3, 15, 0, 3, 0, 0, some [0, 1, 2, 3], []), (15, .sipush 256, 18, 256, 0, 0, 0, none, []), (18, .if_icmp .ge 21, 21, 0, 39, 0, 0, none, []), (21, .iload_n 2, 22, 0, 2, 0, 0, none, []), (22, .aload_n 0, 23, 0, 0, 0, 0, none, []), (23, .iload_n 1, 24, 0, 1, 0, 0, none, []), (24, .iload_n 3, 25, 0, 3, 0, 0, none, []), (25, .invokevirtual 261, 28, 0, 181, 3, 1, none, [(0, 12)]), (28, .invokestatic 207, 31, 0, 128, 1, 1, none, []), (31, .iadd, 32, 0, 0, 0, 0, none, [])]),
  (41, [(32, .istore_n 2, 33, 0, 2, 0, 0, none, []), (33, .iinc 3 1, 36, 1, 3, 0, 0, none, []), (36, .goto (-22), 39, 0, 14, 0, 0, none, []), (39, .iload_n 2, 40, 0, 2, 0, 0, none, []), (40, .ireturn, 41, 0, 0, 0, 0, none, [])])]
def zc_M_same : z_C := z_find2 zd_M_same
def zd_M_say : List (Nat × List (Nat × z_I)) := [(19, [(0, .aload_n 0, 1, 0, 0, 0, 0, none, []), (1, .iload_n 1, 2, 0, 1, 0, 0, none, []), (2, .iload_n 2, 3, 0, 2, 0, 0, none, []), (3, .invokevirtual 279, 6, 0, 153, 3, 1, none, [(0, 12)]), (6, .ifCond .eq 33, 9, 0, 39, 0, 0, none, []), (9, .iload_n 3, 10, 0, 3, 0, 0, none, []), (10, .invokestatic 290, 13, 0, 157, 1, 1, none, []), (13, .ifCond .eq 26, 16, 0, 39, 0, 0, none, []), (16, .iload 4, 18, 0, 4, 0, 0, none, []), (18, .i2l, 19, 0, 0, 0, 0, none, [])]),
  (41, [(19, .lconst 0, 20, 0, 0, 0, 0, none, []), (20, .iload_n 3, 21, 0, 3, 0, 0, none, []), (21, .ifCond .ne 9, 24, 0, 30, 0, 0, none, []), (24, .ldc2_w 327, 27, 9, 0, 0, 0, none, []), (27, .goto 6, 30, 0, 33, 0, 0, none, []), (30, .ldc2_w 175, 33, 3, 0, 0, 0, none, []), (33, .invokestatic 84, 36, 0, 127, 3, 1, some [0, 1, 2, 3, 4], []), (36, .ifCond .ne 5, 39, 0, 41, 0, 0, none, []), (39, .iconst (-1), 40, (-1), 0, 0, 0, none, []), (40, .ireturn, 41, 0, 0, 0, 0, none, [])]),
  (58, [(41, .iconst 1, 42, 1, 0, 0, 0, none, []), (42, .iload_n 1, 43, 0, 1, 0, 0, none, []), (43, .iload_n 2, 44, 0, 2, 0, 0, none, []), (44, .invokestatic 136, 47, 0, 129, 3, 1, none, []), (47, .istore 5, 49, 0, 5, 0, 0, none, []), (49, .bipush 10, 51, 10, 0, 0, 0, none, []), (51, .aload_n 0, 52, 0, 0, 0, 0, none, []), (52, .getfield 7, 55, 0, 12, 0, 1, none, []), (55, .iload 5, 57, 0, 5, 0, 0, none, []), (57, .iconst 0, 58, 0, 0, 0, 0, none, [])]),
  (71, [(58, .iadd, 59, 0, 0, 0, 0, none, []), (59, .iaload, 60, 0, 0, 0, 0, none, []), (60, .imul, 61, 0, 0, 0, 0, none, []), (61, .aload_n 0, 62, 0, 0, 0, 0, none, []), (62, .getfield 7, 65, 0, 12, 0, 1, none, []), (65, .iload 5, 67, 0, 5, 0, 0, none, []), (67, .iconst 1, 68, 1, 0, 0, 0, none, []), (68, .iadd, 69, 0, 0, 0, 0, none, []), (69, .iaload, 70, 0, 0, 0, 0, none, []), (70, .iadd, 71, 0, 0, 0, 0, none, [])]),
  (85, [(71, .istore 6, 73, 0, 6, 0, 0, none, []), (73, .aload_n 0, 74, 0, 0, 0, 0, none, []), (74, .getfield 7, 77, 0, 12, 0, 1, none, []), (77, .iload 5, 79, 0, 5, 0, 0, none, []), (79, .iconst 0, 80, 0, 0, 0, 0, none, []), (80, .iadd, 81, 0, 0, 0, 0, none, []), (81, .iload_n 3, 82, 0, 3, 0, 0, none, []), (82, .iastore, 83, 0, 0, 0, 0, none, []), (83, .aload_n 0, 84, 0, 0, 0, 0, none, []), (84, .getfield 7, 87, 0, 12, 0, 1, none, [])]),
  (97, [(87, .iload 5, 89, 0, 5, 0, 0, none, []), (89, .iconst 1, 90, 1, 0, 0, 0, none, []), (90, .iadd, 91, 0, 0, 0, 0, none, []), (91, .iload 4, 93, 0, 4, 0, 0, none, []), (93, .iastore, 94, 0, 0, 0, 0, none, []), (94, .iload 6, 96, 0, 6, 0, 0, none, []), (96, .ireturn, 97, 0, 0, 0, 0, none, [])])]
def zc_M_say : z_C := z_find2 zd_M_say
def zd_M_lead : List (Nat × List (Nat × z_I)) := [(14, [(0, .aload_n 0, 1, 0, 0, 0, 0, none, []), (1, .iload_n 1, 2, 0, 1, 0, 0, none, []), (2, .iload_n 2, 3, 0, 2, 0, 0, none, []), (3, .invokevirtual 279, 6, 0, 153, 3, 1, none, [(0, 12)]), (6, .ifCond .eq 40, 9, 0, 46, 0, 0, none, []), (9, .iload_n 3, 10, 0, 3, 0, 0, none, []), (10, .i2l, 11, 0, 0, 0, 0, none, []), (11, .lconst 0, 12, 0, 0, 0, 0, none, []), (12, .aload_n 0, 13, 0, 0, 0, 0, none, []), (13, .iconst 1, 14, 1, 0, 0, 0, none, [])]),
  (30, [(14, .iload_n 1, 15, 0, 1, 0, 0, none, []), (15, .iload_n 2, 16, 0, 2, 0, 0, none, []), (16, .iconst 2, 17, 2, 0, 0, 0, none, []), (17, .invokevirtual 190, 20, 0, 158, 5, 1, none, [(0, 12)]), (20, .iconst 1, 21, 1, 0, 0, 0, none, []), (21, .isub, 22, 0, 0, 0, 0, none, []), (22, .i2l, 23, 0, 0, 0, 0, none, []), (23, .invokestatic 84, 26, 0, 127, 3, 1, none, []), (26, .ifCond .eq 20, 29, 0, 46, 0, 0, none, []), (29, .iload 4, 31, 0, 4, 0, 0, none, [])]),
  (49, [(31, .bipush 9, 33, 9, 0, 0, 0, none, []), (33, .if_icmp .eq 15, 36, 0, 48, 0, 0, none, []), (36, .aload_n 0, 37, 0, 0, 0, 0, none, []), (37, .iload_n 1, 38, 0, 1, 0, 0, none, []), (38, .iload 4, 40, 0, 4, 0, 0, none, []), (40, .invokevirtual 279, 43, 0, 153, 3, 1, none, [(0, 12)]), (43, .ifCond .ne 5, 46, 0, 48, 0, 0, none, []), (46, .iconst (-1), 47, (-1), 0, 0, 0, none, []), (47, .ireturn, 48, 0, 0, 0, 0, none, []), (48, .iconst 1, 49, 1, 0, 0, 0, some [0, 1, 2, 3, 4], [])]),
  (62, [(49, .iload_n 1, 50, 0, 1, 0, 0, none, []), (50, .iload_n 2, 51, 0, 2, 0, 0, none, []), (51, .invokestatic 136, 54, 0, 129, 3, 1, none, []), (54, .iconst 3, 55, 3, 0, 0, 0, none, []), (55, .iadd, 56, 0, 0, 0, 0, none, []), (56, .iload_n 3, 57, 0, 3, 0, 0, none, []), (57, .iadd, 58, 0, 0, 0, 0, none, []), (58, .istore 5, 60, 0, 5, 0, 0, none, []), (60, .aload_n 0, 61, 0, 0, 0, 0, none, []), (61, .getfield 7, 64, 0, 12, 0, 1, none, [])]),
  (81, [(64, .iload 5, 66, 0, 5, 0, 0, none, []), (66, .iaload, 67, 0, 0, 0, 0, none, []), (67, .istore 6, 69, 0, 6, 0, 0, none, []), (69, .aload_n 0, 70, 0, 0, 0, 0, none, []), (70, .getfield 7, 73, 0, 12, 0, 1, none, []), (73, .iload 5, 75, 0, 5, 0, 0, none, []), (75, .iload 4, 77, 0, 4, 0, 0, none, []), (77, .iastore, 78, 0, 0, 0, 0, none, []), (78, .iload 6, 80, 0, 6, 0, 0, none, []), (80, .ireturn, 81, 0, 0, 0, 0, none, [])])]
def zc_M_lead : z_C := z_find2 zd_M_lead
def zd_M_nexts : List (Nat × List (Nat × z_I)) := [(16, [(0, .aload_n 0, 1, 0, 0, 0, 0, none, []), (1, .iload_n 1, 2, 0, 1, 0, 0, none, []), (2, .iload_n 2, 3, 0, 2, 0, 0, none, []), (3, .invokevirtual 279, 6, 0, 153, 3, 1, none, [(0, 12)]), (6, .ifCond .eq 15, 9, 0, 21, 0, 0, none, []), (9, .iload_n 3, 10, 0, 3, 0, 0, none, []), (10, .i2l, 11, 0, 0, 0, 0, none, []), (11, .lconst 0, 12, 0, 0, 0, 0, none, []), (12, .ldc2_w 329, 15, 2, 0, 0, 0, none, []), (15, .invokestatic 84, 18, 0, 127, 3, 1, none, [])]),
  (33, [(18, .ifCond .ne 5, 21, 0, 23, 0, 0, none, []), (21, .iconst (-1), 22, (-1), 0, 0, 0, none, []), (22, .ireturn, 23, 0, 0, 0, 0, none, []), (23, .iconst 1, 24, 1, 0, 0, 0, none, []), (24, .iload_n 1, 25, 0, 1, 0, 0, none, []), (25, .iload_n 2, 26, 0, 2, 0, 0, none, []), (26, .invokestatic 136, 29, 0, 129, 3, 1, none, []), (29, .istore 4, 31, 0, 4, 0, 0, none, []), (31, .aload_n 0, 32, 0, 0, 0, 0, none, []), (32, .getfield 7, 35, 0, 12, 0, 1, none, [])]),
  (50, [(35, .iload 4, 37, 0, 4, 0, 0, none, []), (37, .iconst 2, 38, 2, 0, 0, 0, none, []), (38, .iadd, 39, 0, 0, 0, 0, none, []), (39, .iaload, 40, 0, 0, 0, 0, none, []), (40, .istore 5, 42, 0, 5, 0, 0, none, []), (42, .iload 5, 44, 0, 5, 0, 0, none, []), (44, .istore 6, 46, 0, 6, 0, 0, none, []), (46, .iload 6, 48, 0, 6, 0, 0, some [0, 3, 4, 5, 6], []), (48, .iload_n 3, 49, 0, 3, 0, 0, none, []), (49, .if_icmp .ge 23, 52, 0, 72, 0, 0, none, [])]),
  (67, [(52, .aload_n 0, 53, 0, 0, 0, 0, none, []), (53, .getfield 7, 56, 0, 12, 0, 1, none, []), (56, .iload 4, 58, 0, 4, 0, 0, none, []), (58, .iconst 3, 59, 3, 0, 0, 0, none, []), (59, .iadd, 60, 0, 0, 0, 0, none, []), (60, .iload 6, 62, 0, 6, 0, 0, none, []), (62, .iadd, 63, 0, 0, 0, 0, none, []), (63, .bipush 9, 65, 9, 0, 0, 0, none, []), (65, .iastore, 66, 0, 0, 0, 0, none, []), (66, .iinc 6 1, 69, 1, 6, 0, 0, none, [])]),
  (88, [(69, .goto (-23), 72, 0, 46, 0, 0, none, []), (72, .iload_n 3, 73, 0, 3, 0, 0, none, []), (73, .istore 6, 75, 0, 6, 0, 0, none, []), (75, .iload 6, 77, 0, 6, 0, 0, some [0, 3, 4, 5, 6], []), (77, .iconst 2, 78, 2, 0, 0, 0, none, []), (78, .if_icmp .ge 22, 81, 0, 100, 0, 0, none, []), (81, .aload_n 0, 82, 0, 0, 0, 0, none, []), (82, .getfield 7, 85, 0, 12, 0, 1, none, []), (85, .iload 4, 87, 0, 4, 0, 0, none, []), (87, .iconst 3, 88, 3, 0, 0, 0, none, [])]),
  (105, [(88, .iadd, 89, 0, 0, 0, 0, none, []), (89, .iload 6, 91, 0, 6, 0, 0, none, []), (91, .iadd, 92, 0, 0, 0, 0, none, []), (92, .iconst 0, 93, 0, 0, 0, 0, none, []), (93, .iastore, 94, 0, 0, 0, 0, none, []), (94, .iinc 6 1, 97, 1, 6, 0, 0, none, []), (97, .goto (-22), 100, 0, 75, 0, 0, none, []), (100, .aload_n 0, 101, 0, 0, 0, 0, none, []), (101, .getfield 7, 104, 0, 12, 0, 1, none, []), (104, .iload 4, 106, 0, 4, 0, 0, none, [])]),
  (113, [(106, .iconst 2, 107, 2, 0, 0, 0, none, []), (107, .iadd, 108, 0, 0, 0, 0, none, []), (108, .iload_n 3, 109, 0, 3, 0, 0, none, []), (109, .iastore, 110, 0, 0, 0, 0, none, []), (110, .iload 5, 112, 0, 5, 0, 0, none, []), (112, .ireturn, 113, 0, 0, 0, 0, none, [])])]
def zc_M_nexts : z_C := z_find2 zd_M_nexts
def zd_M_has : List (Nat × List (Nat × z_I)) := [(19, [(0, .aload_n 0, 1, 0, 0, 0, 0, none, []), (1, .iload_n 1, 2, 0, 1, 0, 0, none, []), (2, .invokevirtual 284, 5, 0, 154, 2, 1, none, [(0, 12)]), (5, .ifCond .eq 24, 8, 0, 29, 0, 0, none, []), (8, .iload_n 2, 9, 0, 2, 0, 0, none, []), (9, .invokestatic 287, 12, 0, 155, 1, 1, none, []), (12, .ifCond .eq 17, 15, 0, 29, 0, 0, none, []), (15, .iload_n 3, 16, 0, 3, 0, 0, none, []), (16, .bipush (-4), 18, (-4), 0, 0, 0, none, []), (18, .if_icmp .eq 13, 21, 0, 31, 0, 0, none, [])]),
  (35, [(21, .aload_n 0, 22, 0, 0, 0, 0, none, []), (22, .iload_n 3, 23, 0, 3, 0, 0, none, []), (23, .invokevirtual 172, 26, 0, 152, 2, 1, none, [(0, 12)]), (26, .ifCond .ne 5, 29, 0, 31, 0, 0, none, []), (29, .iconst (-1), 30, (-1), 0, 0, 0, none, []), (30, .ireturn, 31, 0, 0, 0, 0, none, []), (31, .iconst 1, 32, 1, 0, 0, 0, some [0, 1, 2, 3], []), (32, .iload_n 1, 33, 0, 1, 0, 0, none, []), (33, .iload_n 2, 34, 0, 2, 0, 0, none, []), (34, .invokestatic 71, 37, 0, 130, 3, 1, none, [])]),
  (55, [(37, .istore 4, 39, 0, 4, 0, 0, none, []), (39, .aload_n 0, 40, 0, 0, 0, 0, none, []), (40, .getfield 7, 43, 0, 12, 0, 1, none, []), (43, .iload 4, 45, 0, 4, 0, 0, none, []), (45, .iaload, 46, 0, 0, 0, 0, none, []), (46, .istore 5, 48, 0, 5, 0, 0, none, []), (48, .aload_n 0, 49, 0, 0, 0, 0, none, []), (49, .getfield 7, 52, 0, 12, 0, 1, none, []), (52, .iload 4, 54, 0, 4, 0, 0, none, []), (54, .iload_n 3, 55, 0, 3, 0, 0, none, [])]),
  (59, [(55, .iastore, 56, 0, 0, 0, 0, none, []), (56, .iload 5, 58, 0, 5, 0, 0, none, []), (58, .ireturn, 59, 0, 0, 0, 0, none, [])])]
def zc_M_has : z_C := z_find2 zd_M_has
def zd_M_becomes : List (Nat × List (Nat × z_I)) := [(18, [(0, .aload_n 0, 1, 0, 0, 0, 0, none, []), (1, .invokevirtual 267, 4, 0, 173, 1, 1, none, [(0, 12)]), (4, .istore_n 3, 5, 0, 3, 0, 0, none, []), (5, .iconst 0, 6, 0, 0, 0, 0, none, []), (6, .istore 4, 8, 0, 4, 0, 0, none, []), (8, .iload 4, 10, 0, 4, 0, 0, some [0, 1, 2, 3, 4], []), (10, .sipush 256, 13, 256, 0, 0, 0, none, []), (13, .if_icmp .ge 41, 16, 0, 54, 0, 0, none, []), (16, .aload_n 0, 17, 0, 0, 0, 0, none, []), (17, .getfield 7, 20, 0, 12, 0, 1, none, [])]),
  (36, [(20, .bipush 13, 22, 13, 0, 0, 0, none, []), (22, .sipush 256, 25, 256, 0, 0, 0, none, []), (25, .iload_n 1, 26, 0, 1, 0, 0, none, []), (26, .imul, 27, 0, 0, 0, 0, none, []), (27, .iadd, 28, 0, 0, 0, 0, none, []), (28, .iload 4, 30, 0, 4, 0, 0, none, []), (30, .iadd, 31, 0, 0, 0, 0, none, []), (31, .aload_n 0, 32, 0, 0, 0, 0, none, []), (32, .getfield 7, 35, 0, 12, 0, 1, none, []), (35, .bipush 13, 37, 13, 0, 0, 0, none, [])]),
  (52, [(37, .sipush 256, 40, 256, 0, 0, 0, none, []), (40, .iload_n 2, 41, 0, 2, 0, 0, none, []), (41, .imul, 42, 0, 0, 0, 0, none, []), (42, .iadd, 43, 0, 0, 0, 0, none, []), (43, .iload 4, 45, 0, 4, 0, 0, none, []), (45, .iadd, 46, 0, 0, 0, 0, none, []), (46, .iaload, 47, 0, 0, 0, 0, none, []), (47, .iastore, 48, 0, 0, 0, 0, none, []), (48, .iinc 4 1, 51, 1, 4, 0, 0, none, []), (51, .goto (-43), 54, 0, 8, 0, 0, none, [])]),
  (56, [(54, .iload_n 3, 55, 0, 3, 0, 0, none, []), (55, .ireturn, 56, 0, 0, 0, 0, none, [])])]
def zc_M_becomes : z_C := z_find2 zd_M_becomes
def zd_M_take : List (Nat × List (Nat × z_I)) := [(7, [(0, .aload_n 0, 1, 0, 0, 0, 0, none, []), (1, .iconst 0, 2, 0, 0, 0, 0, none, []), (2, .iconst 1, 3, 1, 0, 0, 0, none, []), (3, .invokevirtual 331, 6, 0, 202, 3, 1, none, [(0, 12)]), (6, .ireturn, 7, 0, 0, 0, 0, none, [])])]
def zc_M_take : z_C := z_find2 zd_M_take
def zd_M_leave : List (Nat × List (Nat × z_I)) := [(7, [(0, .aload_n 0, 1, 0, 0, 0, 0, none, []), (1, .iconst 1, 2, 1, 0, 0, 0, none, []), (2, .iconst 0, 3, 0, 0, 0, 0, none, []), (3, .invokevirtual 331, 6, 0, 202, 3, 1, none, [(0, 12)]), (6, .ireturn, 7, 0, 0, 0, 0, none, [])])]
def zc_M_leave : z_C := z_find2 zd_M_leave
def zd_M_comes : List (Nat × List (Nat × z_I)) := [(15, [(0, .sipush 525, 3, 525, 0, 0, 0, none, []), (3, .iconst 3, 4, 3, 0, 0, 0, none, []), (4, .aload_n 0, 5, 0, 0, 0, 0, none, []), (5, .getfield 7, 8, 0, 12, 0, 1, none, []), (8, .iconst 2, 9, 2, 0, 0, 0, none, []), (9, .iaload, 10, 0, 0, 0, 0, none, []), (10, .imul, 11, 0, 0, 0, 0, none, []), (11, .iadd, 12, 0, 0, 0, 0, none, []), (12, .istore 4, 14, 0, 4, 0, 0, none, []), (14, .aload_n 0, 15, 0, 0, 0, 0, none, [])]),
  (31, [(15, .getfield 7, 18, 0, 12, 0, 1, none, []), (18, .iload 4, 20, 0, 4, 0, 0, none, []), (20, .iload_n 1, 21, 0, 1, 0, 0, none, []), (21, .iastore, 22, 0, 0, 0, 0, none, []), (22, .aload_n 0, 23, 0, 0, 0, 0, none, []), (23, .getfield 7, 26, 0, 12, 0, 1, none, []), (26, .iload 4, 28, 0, 4, 0, 0, none, []), (28, .iconst 1, 29, 1, 0, 0, 0, none, []), (29, .iadd, 30, 0, 0, 0, 0, none, []), (30, .iload_n 2, 31, 0, 2, 0, 0, none, [])]),
  (44, [(31, .iastore, 32, 0, 0, 0, 0, none, []), (32, .aload_n 0, 33, 0, 0, 0, 0, none, []), (33, .getfield 7, 36, 0, 12, 0, 1, none, []), (36, .iload 4, 38, 0, 4, 0, 0, none, []), (38, .iconst 2, 39, 2, 0, 0, 0, none, []), (39, .iadd, 40, 0, 0, 0, 0, none, []), (40, .iload_n 3, 41, 0, 3, 0, 0, none, []), (41, .iastore, 42, 0, 0, 0, 0, none, []), (42, .aload_n 0, 43, 0, 0, 0, 0, none, []), (43, .getfield 7, 46, 0, 12, 0, 1, none, [])]),
  (53, [(46, .iconst 2, 47, 2, 0, 0, 0, none, []), (47, .dup2, 48, 0, 0, 0, 0, none, []), (48, .iaload, 49, 0, 0, 0, 0, none, []), (49, .iconst 1, 50, 1, 0, 0, 0, none, []), (50, .iadd, 51, 0, 0, 0, 0, none, []), (51, .iastore, 52, 0, 0, 0, 0, none, []), (52, .return_, 53, 0, 0, 0, 0, none, [])])]
def zc_M_comes : z_C := z_find2 zd_M_comes
def zd_M_add : List (Nat × List (Nat × z_I)) := [(18, [(0, .aload_n 0, 1, 0, 0, 0, 0, none, []), (1, .iload_n 1, 2, 0, 1, 0, 0, none, []), (2, .invokevirtual 284, 5, 0, 154, 2, 1, none, [(0, 12)]), (5, .ifCond .eq 27, 8, 0, 32, 0, 0, none, []), (8, .iload_n 2, 9, 0, 2, 0, 0, none, []), (9, .i2l, 10, 0, 0, 0, 0, none, []), (10, .lconst 0, 11, 0, 0, 0, 0, none, []), (11, .ldc2_w 334, 14, 255, 0, 0, 0, none, []), (14, .invokestatic 84, 17, 0, 127, 3, 1, none, []), (17, .ifCond .eq 15, 20, 0, 32, 0, 0, none, [])]),
  (36, [(20, .iload_n 3, 21, 0, 3, 0, 0, none, []), (21, .i2l, 22, 0, 0, 0, 0, none, []), (22, .lconst 1, 23, 1, 0, 0, 0, none, []), (23, .ldc2_w 327, 26, 9, 0, 0, 0, none, []), (26, .invokestatic 84, 29, 0, 127, 3, 1, none, []), (29, .ifCond .ne 5, 32, 0, 34, 0, 0, none, []), (32, .iconst (-1), 33, (-1), 0, 0, 0, none, []), (33, .ireturn, 34, 0, 0, 0, 0, none, []), (34, .aload_n 0, 35, 0, 0, 0, 0, none, []), (35, .getfield 7, 38, 0, 12, 0, 1, none, [])]),
  (52, [(38, .iconst 2, 39, 2, 0, 0, 0, none, []), (39, .iaload, 40, 0, 0, 0, 0, none, []), (40, .bipush 8, 42, 8, 0, 0, 0, none, []), (42, .if_icmp .ne 6, 45, 0, 48, 0, 0, none, []), (45, .bipush (-3), 47, (-3), 0, 0, 0, none, []), (47, .ireturn, 48, 0, 0, 0, 0, none, []), (48, .aload_n 0, 49, 0, 0, 0, 0, none, []), (49, .iload_n 1, 50, 0, 1, 0, 0, none, []), (50, .iload_n 2, 51, 0, 2, 0, 0, none, []), (51, .iload_n 3, 52, 0, 3, 0, 0, none, [])]),
  (62, [(52, .invokevirtual 336, 55, 0, 205, 4, 0, none, [(0, 12)]), (55, .aload_n 0, 56, 0, 0, 0, 0, none, []), (56, .getfield 7, 59, 0, 12, 0, 1, none, []), (59, .iconst 2, 60, 2, 0, 0, 0, none, []), (60, .iaload, 61, 0, 0, 0, 0, none, []), (61, .ireturn, 62, 0, 0, 0, 0, none, [])])]
def zc_M_add : z_C := z_find2 zd_M_add
def zd_M_drop : List (Nat × List (Nat × z_I)) := [(16, [(0, .aload_n 0, 1, 0, 0, 0, 0, none, []), (1, .iload_n 1, 2, 0, 1, 0, 0, none, []), (2, .invokevirtual 296, 5, 0, 156, 2, 1, none, [(0, 12)]), (5, .ifCond .ne 5, 8, 0, 10, 0, 0, none, []), (8, .iconst (-1), 9, (-1), 0, 0, 0, none, []), (9, .ireturn, 10, 0, 0, 0, 0, none, []), (10, .sipush 525, 13, 525, 0, 0, 0, none, []), (13, .iconst 3, 14, 3, 0, 0, 0, none, []), (14, .iload_n 1, 15, 0, 1, 0, 0, none, []), (15, .imul, 16, 0, 0, 0, 0, none, [])]),
  (30, [(16, .iadd, 17, 0, 0, 0, 0, none, []), (17, .istore_n 2, 18, 0, 2, 0, 0, none, []), (18, .iload_n 2, 19, 0, 2, 0, 0, some [0, 2], []), (19, .sipush 525, 22, 525, 0, 0, 0, none, []), (22, .iconst 3, 23, 3, 0, 0, 0, none, []), (23, .aload_n 0, 24, 0, 0, 0, 0, none, []), (24, .getfield 7, 27, 0, 12, 0, 1, none, []), (27, .iconst 2, 28, 2, 0, 0, 0, none, []), (28, .iaload, 29, 0, 0, 0, 0, none, []), (29, .iconst 1, 30, 1, 0, 0, 0, none, [])]),
  (46, [(30, .isub, 31, 0, 0, 0, 0, none, []), (31, .imul, 32, 0, 0, 0, 0, none, []), (32, .iadd, 33, 0, 0, 0, 0, none, []), (33, .if_icmp .ge 23, 36, 0, 56, 0, 0, none, []), (36, .aload_n 0, 37, 0, 0, 0, 0, none, []), (37, .getfield 7, 40, 0, 12, 0, 1, none, []), (40, .iload_n 2, 41, 0, 2, 0, 0, none, []), (41, .aload_n 0, 42, 0, 0, 0, 0, none, []), (42, .getfield 7, 45, 0, 12, 0, 1, none, []), (45, .iload_n 2, 46, 0, 2, 0, 0, none, [])]),
  (62, [(46, .iconst 3, 47, 3, 0, 0, 0, none, []), (47, .iadd, 48, 0, 0, 0, 0, none, []), (48, .iaload, 49, 0, 0, 0, 0, none, []), (49, .iastore, 50, 0, 0, 0, 0, none, []), (50, .iinc 2 1, 53, 1, 2, 0, 0, none, []), (53, .goto (-35), 56, 0, 18, 0, 0, none, []), (56, .aload_n 0, 57, 0, 0, 0, 0, none, []), (57, .getfield 7, 60, 0, 12, 0, 1, none, []), (60, .iconst 2, 61, 2, 0, 0, 0, none, []), (61, .dup2, 62, 0, 0, 0, 0, none, [])]),
  (73, [(62, .iaload, 63, 0, 0, 0, 0, none, []), (63, .iconst 1, 64, 1, 0, 0, 0, none, []), (64, .isub, 65, 0, 0, 0, 0, none, []), (65, .iastore, 66, 0, 0, 0, 0, none, []), (66, .aload_n 0, 67, 0, 0, 0, 0, none, []), (67, .getfield 7, 70, 0, 12, 0, 1, none, []), (70, .iconst 2, 71, 2, 0, 0, 0, none, []), (71, .iaload, 72, 0, 0, 0, 0, none, []), (72, .ireturn, 73, 0, 0, 0, 0, none, [])])]
def zc_M_drop : z_C := z_find2 zd_M_drop
def zd_M_draw : List (Nat × List (Nat × z_I)) := [(16, [(0, .iload_n 2, 1, 0, 2, 0, 0, none, []), (1, .i2l, 2, 0, 0, 0, 0, none, []), (2, .lconst 1, 3, 1, 0, 0, 0, none, []), (3, .ldc2_w 339, 6, 8, 0, 0, 0, none, []), (6, .invokestatic 84, 9, 0, 127, 3, 1, none, []), (9, .ifCond .ne 5, 12, 0, 14, 0, 0, none, []), (12, .iconst (-1), 13, (-1), 0, 0, 0, none, []), (13, .ireturn, 14, 0, 0, 0, 0, none, []), (14, .aload_n 0, 15, 0, 0, 0, 0, none, []), (15, .getfield 7, 18, 0, 12, 0, 1, none, [])]),
  (32, [(18, .iconst 1, 19, 1, 0, 0, 0, none, []), (19, .iaload, 20, 0, 0, 0, 0, none, []), (20, .ifCond .ne 6, 23, 0, 26, 0, 0, none, []), (23, .bipush (-2), 25, (-2), 0, 0, 0, none, []), (25, .ireturn, 26, 0, 0, 0, 0, none, []), (26, .iload_n 1, 27, 0, 1, 0, 0, none, []), (27, .istore_n 3, 28, 0, 3, 0, 0, none, []), (28, .iconst 0, 29, 0, 0, 0, 0, none, []), (29, .istore 4, 31, 0, 4, 0, 0, none, []), (31, .iload 4, 33, 0, 4, 0, 0, some [0, 2, 3, 4], [])]),
  (50, [(33, .iload_n 2, 34, 0, 2, 0, 0, none, []), (34, .if_icmp .ge 72, 37, 0, 106, 0, 0, none, []), (37, .aload_n 0, 38, 0, 0, 0, 0, none, []), (38, .getfield 7, 41, 0, 12, 0, 1, none, []), (41, .iconst 2, 42, 2, 0, 0, 0, none, []), (42, .iaload, 43, 0, 0, 0, 0, none, []), (43, .bipush 8, 45, 8, 0, 0, 0, none, []), (45, .if_icmp .ge 61, 48, 0, 106, 0, 0, none, []), (48, .iload_n 3, 49, 0, 3, 0, 0, none, []), (49, .ldc_w 341, 52, 1103515245, 0, 0, 0, none, [])]),
  (67, [(52, .imul, 53, 0, 0, 0, 0, none, []), (53, .sipush 12345, 56, 12345, 0, 0, 0, none, []), (56, .iadd, 57, 0, 0, 0, 0, none, []), (57, .istore_n 3, 58, 0, 3, 0, 0, none, []), (58, .iload_n 3, 59, 0, 3, 0, 0, none, []), (59, .bipush 16, 61, 16, 0, 0, 0, none, []), (61, .ishr, 62, 0, 0, 0, 0, none, []), (62, .sipush 32767, 65, 32767, 0, 0, 0, none, []), (65, .iand, 66, 0, 0, 0, 0, none, []), (66, .istore 5, 68, 0, 5, 0, 0, none, [])]),
  (82, [(68, .aload_n 0, 69, 0, 0, 0, 0, none, []), (69, .iload 5, 71, 0, 5, 0, 0, none, []), (71, .aload_n 0, 72, 0, 0, 0, 0, none, []), (72, .getfield 7, 75, 0, 12, 0, 1, none, []), (75, .iconst 1, 76, 1, 0, 0, 0, none, []), (76, .iaload, 77, 0, 0, 0, 0, none, []), (77, .irem, 78, 0, 0, 0, 0, none, []), (78, .iload 5, 80, 0, 5, 0, 0, none, []), (80, .iconst 4, 81, 4, 0, 0, 0, none, []), (81, .idiv, 82, 0, 0, 0, 0, none, [])]),
  (98, [(82, .sipush 256, 85, 256, 0, 0, 0, none, []), (85, .irem, 86, 0, 0, 0, 0, none, []), (86, .iload 5, 88, 0, 5, 0, 0, none, []), (88, .sipush 1024, 91, 1024, 0, 0, 0, none, []), (91, .idiv, 92, 0, 0, 0, 0, none, []), (92, .bipush 9, 94, 9, 0, 0, 0, none, []), (94, .irem, 95, 0, 0, 0, 0, none, []), (95, .iconst 1, 96, 1, 0, 0, 0, none, []), (96, .iadd, 97, 0, 0, 0, 0, none, []), (97, .invokevirtual 336, 100, 0, 205, 4, 0, none, [(0, 12)])]),
  (109, [(100, .iinc 4 1, 103, 1, 4, 0, 0, none, []), (103, .goto (-72), 106, 0, 31, 0, 0, none, []), (106, .iload 4, 108, 0, 4, 0, 0, none, []), (108, .ireturn, 109, 0, 0, 0, 0, none, [])])]
def zc_M_draw : z_C := z_find2 zd_M_draw
def zd_M_keep : List (Nat × List (Nat × z_I)) := [(14, [(0, .iload_n 1, 1, 0, 1, 0, 0, none, []), (1, .i2l, 2, 0, 0, 0, 0, none, []), (2, .lconst 0, 3, 0, 0, 0, 0, none, []), (3, .lconst 1, 4, 1, 0, 0, 0, none, []), (4, .invokestatic 84, 7, 0, 127, 3, 1, none, []), (7, .ifCond .ne 5, 10, 0, 12, 0, 0, none, []), (10, .iconst (-1), 11, (-1), 0, 0, 0, none, []), (11, .ireturn, 12, 0, 0, 0, 0, none, []), (12, .aload_n 0, 13, 0, 0, 0, 0, none, []), (13, .getfield 16, 16, 0, 12, 2, 1, none, [])]),
  (30, [(16, .iload_n 1, 17, 0, 1, 0, 0, none, []), (17, .baload, 18, 0, 0, 0, 0, none, []), (18, .invokestatic 207, 21, 0, 128, 1, 1, none, []), (21, .istore_n 2, 22, 0, 2, 0, 0, none, []), (22, .aload_n 0, 23, 0, 0, 0, 0, none, []), (23, .getfield 16, 26, 0, 12, 2, 1, none, []), (26, .iload_n 1, 27, 0, 1, 0, 0, none, []), (27, .iconst 1, 28, 1, 0, 0, 0, none, []), (28, .bastore, 29, 0, 0, 0, 0, none, []), (29, .iconst 0, 30, 0, 0, 0, 0, none, [])]),
  (48, [(30, .istore_n 3, 31, 0, 3, 0, 0, none, []), (31, .iload_n 3, 32, 0, 3, 0, 0, some [0, 1, 2, 3], []), (32, .sipush 549, 35, 549, 0, 0, 0, none, []), (35, .if_icmp .ge 27, 38, 0, 62, 0, 0, none, []), (38, .aload_n 0, 39, 0, 0, 0, 0, none, []), (39, .getfield 13, 42, 0, 12, 1, 1, none, []), (42, .sipush 549, 45, 549, 0, 0, 0, none, []), (45, .iload_n 1, 46, 0, 1, 0, 0, none, []), (46, .imul, 47, 0, 0, 0, 0, none, []), (47, .iload_n 3, 48, 0, 3, 0, 0, none, [])]),
  (64, [(48, .iadd, 49, 0, 0, 0, 0, none, []), (49, .aload_n 0, 50, 0, 0, 0, 0, none, []), (50, .getfield 7, 53, 0, 12, 0, 1, none, []), (53, .iload_n 3, 54, 0, 3, 0, 0, none, []), (54, .iaload, 55, 0, 0, 0, 0, none, []), (55, .iastore, 56, 0, 0, 0, 0, none, []), (56, .iinc 3 1, 59, 1, 3, 0, 0, none, []), (59, .goto (-28), 62, 0, 31, 0, 0, none, []), (62, .iload_n 2, 63, 0, 2, 0, 0, none, []), (63, .ireturn, 64, 0, 0, 0, 0, none, [])])]
def zc_M_keep : z_C := z_find2 zd_M_keep
def zd_M_back : List (Nat × List (Nat × z_I)) := [(14, [(0, .iload_n 1, 1, 0, 1, 0, 0, none, []), (1, .i2l, 2, 0, 0, 0, 0, none, []), (2, .lconst 0, 3, 0, 0, 0, 0, none, []), (3, .lconst 1, 4, 1, 0, 0, 0, none, []), (4, .invokestatic 84, 7, 0, 127, 3, 1, none, []), (7, .ifCond .ne 5, 10, 0, 12, 0, 0, none, []), (10, .iconst (-1), 11, (-1), 0, 0, 0, none, []), (11, .ireturn, 12, 0, 0, 0, 0, none, []), (12, .aload_n 0, 13, 0, 0, 0, 0, none, []), (13, .getfield 16, 16, 0, 12, 2, 1, none, [])]),
  (31, [(16, .iload_n 1, 17, 0, 1, 0, 0, none, []), (17, .baload, 18, 0, 0, 0, 0, none, []), (18, .ifCond .ne 6, 21, 0, 24, 0, 0, none, []), (21, .bipush (-2), 23, (-2), 0, 0, 0, none, []), (23, .ireturn, 24, 0, 0, 0, 0, none, []), (24, .iconst 0, 25, 0, 0, 0, 0, none, []), (25, .istore_n 2, 26, 0, 2, 0, 0, none, []), (26, .iload_n 2, 27, 0, 2, 0, 0, some [0, 1, 2], []), (27, .sipush 549, 30, 549, 0, 0, 0, none, []), (30, .if_icmp .ge 27, 33, 0, 57, 0, 0, none, [])]),
  (49, [(33, .aload_n 0, 34, 0, 0, 0, 0, none, []), (34, .getfield 7, 37, 0, 12, 0, 1, none, []), (37, .iload_n 2, 38, 0, 2, 0, 0, none, []), (38, .aload_n 0, 39, 0, 0, 0, 0, none, []), (39, .getfield 13, 42, 0, 12, 1, 1, none, []), (42, .sipush 549, 45, 549, 0, 0, 0, none, []), (45, .iload_n 1, 46, 0, 1, 0, 0, none, []), (46, .imul, 47, 0, 0, 0, 0, none, []), (47, .iload_n 2, 48, 0, 2, 0, 0, none, []), (48, .iadd, 49, 0, 0, 0, 0, none, [])]),
  (64, [(49, .iaload, 50, 0, 0, 0, 0, none, []), (50, .iastore, 51, 0, 0, 0, 0, none, []), (51, .iinc 2 1, 54, 1, 2, 0, 0, none, []), (54, .goto (-28), 57, 0, 26, 0, 0, none, []), (57, .aload_n 0, 58, 0, 0, 0, 0, none, []), (58, .getfield 7, 61, 0, 12, 0, 1, none, []), (61, .iconst 2, 62, 2, 0, 0, 0, none, []), (62, .iaload, 63, 0, 0, 0, 0, none, []), (63, .ireturn, 64, 0, 0, 0, 0, none, [])])]
def zc_M_back : z_C := z_find2 zd_M_back
def zd_M_isSheet : List (Nat × List (Nat × z_I)) := [(16, [(0, .iload_n 0, 1, 0, 0, 0, 0, none, []), (1, .i2l, 2, 0, 0, 0, 0, none, []), (2, .lconst 0, 3, 0, 0, 0, 0, none, []), (3, .ldc2_w 175, 6, 3, 0, 0, 0, none, []), (6, .invokestatic 84, 9, 0, 127, 3, 1, none, []), (9, .ifCond .eq 19, 12, 0, 28, 0, 0, none, []), (12, .iload_n 1, 13, 0, 1, 0, 0, none, []), (13, .i2l, 14, 0, 0, 0, 0, none, []), (14, .lconst 0, 15, 0, 0, 0, 0, none, []), (15, .ldc2_w 329, 18, 2, 0, 0, 0, none, [])]),
  (30, [(18, .invokestatic 84, 21, 0, 127, 3, 1, none, []), (21, .ifCond .eq 7, 24, 0, 28, 0, 0, none, []), (24, .iconst 1, 25, 1, 0, 0, 0, none, []), (25, .goto 4, 28, 0, 29, 0, 0, none, []), (28, .iconst 0, 29, 0, 0, 0, 0, none, []), (29, .ireturn, 30, 0, 1, 0, 0, none, [])])]
def zc_M_isSheet : z_C := z_find2 zd_M_isSheet
def zd_M_sheet : List (Nat × List (Nat × z_I)) := [(17, [(0, .iload_n 1, 1, 0, 1, 0, 0, none, []), (1, .iload_n 2, 2, 0, 2, 0, 0, none, []), (2, .invokestatic 342, 5, 0, 211, 2, 1, none, []), (5, .ifCond .eq 9, 8, 0, 14, 0, 0, none, []), (8, .iload_n 3, 9, 0, 3, 0, 0, none, []), (9, .bipush 40, 11, 40, 0, 0, 0, none, []), (11, .if_icmp .le 5, 14, 0, 16, 0, 0, none, []), (14, .iconst (-1), 15, (-1), 0, 0, 0, none, []), (15, .ireturn, 16, 0, 0, 0, 0, none, []), (16, .iload_n 3, 17, 0, 3, 0, 0, none, [])]),
  (32, [(17, .ifCond .ge 6, 20, 0, 23, 0, 0, none, []), (20, .bipush (-14), 22, (-14), 0, 0, 0, none, []), (22, .ireturn, 23, 0, 0, 0, 0, none, []), (23, .aload_n 0, 24, 0, 0, 0, 0, none, []), (24, .getfield 53, 27, 0, 12, 29, 1, none, []), (27, .iload_n 1, 28, 0, 1, 0, 0, none, []), (28, .iload_n 2, 29, 0, 2, 0, 0, none, []), (29, .iastore, 30, 0, 0, 0, 0, none, []), (30, .aload_n 0, 31, 0, 0, 0, 0, none, []), (31, .getfield 56, 34, 0, 12, 30, 1, none, [])]),
  (49, [(34, .iload_n 1, 35, 0, 1, 0, 0, none, []), (35, .iload_n 3, 36, 0, 3, 0, 0, none, []), (36, .iastore, 37, 0, 0, 0, 0, none, []), (37, .iconst 0, 38, 0, 0, 0, 0, none, []), (38, .istore 4, 40, 0, 4, 0, 0, none, []), (40, .iload 4, 42, 0, 4, 0, 0, some [0, 1, 4], []), (42, .bipush 40, 44, 40, 0, 0, 0, none, []), (44, .if_icmp .ge 22, 47, 0, 66, 0, 0, none, []), (47, .aload_n 0, 48, 0, 0, 0, 0, none, []), (48, .getfield 59, 51, 0, 12, 31, 1, none, [])]),
  (67, [(51, .bipush 40, 53, 40, 0, 0, 0, none, []), (53, .iload_n 1, 54, 0, 1, 0, 0, none, []), (54, .imul, 55, 0, 0, 0, 0, none, []), (55, .iload 4, 57, 0, 4, 0, 0, none, []), (57, .iadd, 58, 0, 0, 0, 0, none, []), (58, .iconst 0, 59, 0, 0, 0, 0, none, []), (59, .iastore, 60, 0, 0, 0, 0, none, []), (60, .iinc 4 1, 63, 1, 4, 0, 0, none, []), (63, .goto (-23), 66, 0, 40, 0, 0, none, []), (66, .iconst 1, 67, 1, 0, 0, 0, none, [])]),
  (68, [(67, .ireturn, 68, 0, 0, 0, 0, none, [])])]
def zc_M_sheet : z_C := z_find2 zd_M_sheet
def zd_M_lay : List (Nat × List (Nat × z_I)) := [(16, [(0, .iload_n 1, 1, 0, 1, 0, 0, none, []), (1, .iconst 0, 2, 0, 0, 0, 0, none, []), (2, .invokestatic 342, 5, 0, 211, 2, 1, none, []), (5, .ifCond .ne 5, 8, 0, 10, 0, 0, none, []), (8, .iconst (-1), 9, (-1), 0, 0, 0, none, []), (9, .ireturn, 10, 0, 0, 0, 0, none, []), (10, .aload_n 0, 11, 0, 0, 0, 0, none, []), (11, .getfield 53, 14, 0, 12, 29, 1, none, []), (14, .iload_n 1, 15, 0, 1, 0, 0, none, []), (15, .iaload, 16, 0, 0, 0, 0, none, [])]),
  (32, [(16, .bipush (-4), 18, (-4), 0, 0, 0, none, []), (18, .if_icmp .ne 6, 21, 0, 24, 0, 0, none, []), (21, .bipush (-11), 23, (-11), 0, 0, 0, none, []), (23, .ireturn, 24, 0, 0, 0, 0, none, []), (24, .iload_n 2, 25, 0, 2, 0, 0, none, []), (25, .i2l, 26, 0, 0, 0, 0, none, []), (26, .lconst 0, 27, 0, 0, 0, 0, none, []), (27, .aload_n 0, 28, 0, 0, 0, 0, none, []), (28, .getfield 56, 31, 0, 12, 30, 1, none, []), (31, .iload_n 1, 32, 0, 1, 0, 0, none, [])]),
  (47, [(32, .iaload, 33, 0, 0, 0, 0, none, []), (33, .iconst 1, 34, 1, 0, 0, 0, none, []), (34, .isub, 35, 0, 0, 0, 0, none, []), (35, .i2l, 36, 0, 0, 0, 0, none, []), (36, .invokestatic 84, 39, 0, 127, 3, 1, none, []), (39, .ifCond .ne 6, 42, 0, 45, 0, 0, none, []), (42, .bipush (-12), 44, (-12), 0, 0, 0, none, []), (44, .ireturn, 45, 0, 0, 0, 0, none, []), (45, .aload_n 0, 46, 0, 0, 0, 0, none, []), (46, .getfield 59, 49, 0, 12, 31, 1, none, [])]),
  (62, [(49, .bipush 40, 51, 40, 0, 0, 0, none, []), (51, .iload_n 1, 52, 0, 1, 0, 0, none, []), (52, .imul, 53, 0, 0, 0, 0, none, []), (53, .iload_n 2, 54, 0, 2, 0, 0, none, []), (54, .iadd, 55, 0, 0, 0, 0, none, []), (55, .aload_n 0, 56, 0, 0, 0, 0, none, []), (56, .getfield 53, 59, 0, 12, 29, 1, none, []), (59, .iload_n 1, 60, 0, 1, 0, 0, none, []), (60, .iaload, 61, 0, 0, 0, 0, none, []), (61, .ifCond .ne 8, 64, 0, 69, 0, 0, none, [])]),
  (80, [(64, .iload_n 3, 65, 0, 3, 0, 0, none, []), (65, .i2b, 66, 0, 0, 0, 0, none, []), (66, .goto 19, 69, 0, 85, 0, 0, none, []), (69, .aload_n 0, 70, 0, 0, 0, 0, none, []), (70, .getfield 53, 73, 0, 12, 29, 1, none, []), (73, .iload_n 1, 74, 0, 1, 0, 0, none, []), (74, .iaload, 75, 0, 0, 0, 0, none, []), (75, .iconst 1, 76, 1, 0, 0, 0, none, []), (76, .if_icmp .ne 8, 79, 0, 84, 0, 0, none, []), (79, .iload_n 3, 80, 0, 3, 0, 0, none, [])]),
  (88, [(80, .i2s, 81, 0, 0, 0, 0, none, []), (81, .goto 4, 84, 0, 85, 0, 0, none, []), (84, .iload_n 3, 85, 0, 3, 0, 0, none, []), (85, .iastore, 86, 0, 0, 0, 0, none, []), (86, .iconst 1, 87, 1, 0, 0, 0, none, []), (87, .ireturn, 88, 0, 0, 0, 0, none, [])])]
def zc_M_lay : z_C := z_find2 zd_M_lay
def zd_M_read : List (Nat × List (Nat × z_I)) := [(19, [(0, .iload_n 1, 1, 0, 1, 0, 0, none, []), (1, .iload_n 2, 2, 0, 2, 0, 0, none, []), (2, .invokestatic 342, 5, 0, 211, 2, 1, none, []), (5, .ifCond .eq 16, 8, 0, 21, 0, 0, none, []), (8, .iload 4, 10, 0, 4, 0, 0, none, []), (10, .i2l, 11, 0, 0, 0, 0, none, []), (11, .lconst 0, 12, 0, 0, 0, 0, none, []), (12, .ldc2_w 345, 15, 10, 0, 0, 0, none, []), (15, .invokestatic 84, 18, 0, 127, 3, 1, none, []), (18, .ifCond .ne 5, 21, 0, 23, 0, 0, none, [])]),
  (39, [(21, .iconst (-1), 22, (-1), 0, 0, 0, none, []), (22, .ireturn, 23, 0, 0, 0, 0, none, []), (23, .iconst 0, 24, 0, 0, 0, 0, none, []), (24, .istore 5, 26, 0, 5, 0, 0, none, []), (26, .iload 5, 28, 0, 5, 0, 0, some [0, 1, 2, 3, 4, 5], []), (28, .sipush 549, 31, 549, 0, 0, 0, none, []), (31, .if_icmp .ge 23, 34, 0, 54, 0, 0, none, []), (34, .aload_n 0, 35, 0, 0, 0, 0, none, []), (35, .getfield 62, 38, 0, 12, 32, 1, none, []), (38, .iload 5, 40, 0, 5, 0, 0, none, [])]),
  (58, [(40, .aload_n 0, 41, 0, 0, 0, 0, none, []), (41, .getfield 7, 44, 0, 12, 0, 1, none, []), (44, .iload 5, 46, 0, 5, 0, 0, none, []), (46, .iaload, 47, 0, 0, 0, 0, none, []), (47, .iastore, 48, 0, 0, 0, 0, none, []), (48, .iinc 5 1, 51, 1, 5, 0, 0, none, []), (51, .goto (-25), 54, 0, 26, 0, 0, none, []), (54, .iconst 0, 55, 0, 0, 0, 0, none, []), (55, .istore 5, 57, 0, 5, 0, 0, none, []), (57, .iconst 0, 58, 0, 0, 0, 0, none, [])]),
  (77, [(58, .istore 6, 60, 0, 6, 0, 0, none, []), (60, .iconst 0, 61, 0, 0, 0, 0, none, []), (61, .istore 7, 63, 0, 7, 0, 0, none, []), (63, .iload 7, 65, 0, 7, 0, 0, some [0, 1, 2, 3, 4, 5, 6, 7], []), (65, .iload 4, 67, 0, 4, 0, 0, none, []), (67, .if_icmp .ge 203, 70, 0, 270, 0, 0, none, []), (70, .iload 5, 72, 0, 5, 0, 0, none, []), (72, .ifCond .ne 198, 75, 0, 270, 0, 0, none, []), (75, .iconst 0, 76, 0, 0, 0, 0, none, []), (76, .istore 8, 78, 0, 8, 0, 0, none, [])]),
  (95, [(78, .iload 8, 80, 0, 8, 0, 0, some [0, 1, 2, 3, 4, 5, 6, 7, 8], []), (80, .iconst 4, 81, 4, 0, 0, 0, none, []), (81, .if_icmp .ge 84, 84, 0, 165, 0, 0, none, []), (84, .iload 5, 86, 0, 5, 0, 0, none, []), (86, .ifCond .ne 79, 89, 0, 165, 0, 0, none, []), (89, .iload_n 3, 90, 0, 3, 0, 0, none, []), (90, .i2l, 91, 0, 0, 0, 0, none, []), (91, .iconst 4, 92, 4, 0, 0, 0, none, []), (92, .iload 7, 94, 0, 7, 0, 0, none, []), (94, .imul, 95, 0, 0, 0, 0, none, [])]),
  (109, [(95, .i2l, 96, 0, 0, 0, 0, none, []), (96, .ladd, 97, 0, 0, 0, 0, none, []), (97, .iload 8, 99, 0, 8, 0, 0, none, []), (99, .i2l, 100, 0, 0, 0, 0, none, []), (100, .ladd, 101, 0, 0, 0, 0, none, []), (101, .lstore 9, 103, 0, 9, 0, 0, none, []), (103, .aload_n 0, 104, 0, 0, 0, 0, none, []), (104, .getfield 53, 107, 0, 12, 29, 1, none, []), (107, .iload_n 1, 108, 0, 1, 0, 0, none, []), (108, .iaload, 109, 0, 0, 0, 0, none, [])]),
  (126, [(109, .bipush (-4), 111, (-4), 0, 0, 0, none, []), (111, .if_icmp .ne 7, 114, 0, 118, 0, 0, none, []), (114, .iconst 1, 115, 1, 0, 0, 0, none, []), (115, .goto 42, 118, 0, 157, 0, 0, none, []), (118, .aload_n 0, 119, 0, 0, 0, 0, none, []), (119, .getfield 53, 122, 0, 12, 29, 1, none, []), (122, .iload_n 1, 123, 0, 1, 0, 0, none, []), (123, .iaload, 124, 0, 0, 0, 0, none, []), (124, .iload_n 2, 125, 0, 2, 0, 0, none, []), (125, .if_icmp .eq 7, 128, 0, 132, 0, 0, none, [])]),
  (146, [(128, .iconst 3, 129, 3, 0, 0, 0, none, []), (129, .goto 28, 132, 0, 157, 0, 0, none, []), (132, .lload 9, 134, 0, 9, 0, 0, none, []), (134, .lconst 0, 135, 0, 0, 0, 0, none, []), (135, .lcmp, 136, 0, 0, 0, 0, none, []), (136, .ifCond .lt 16, 139, 0, 152, 0, 0, none, []), (139, .lload 9, 141, 0, 9, 0, 0, none, []), (141, .aload_n 0, 142, 0, 0, 0, 0, none, []), (142, .getfield 56, 145, 0, 12, 30, 1, none, []), (145, .iload_n 1, 146, 0, 1, 0, 0, none, [])]),
  (163, [(146, .iaload, 147, 0, 0, 0, 0, none, []), (147, .i2l, 148, 0, 0, 0, 0, none, []), (148, .lcmp, 149, 0, 0, 0, 0, none, []), (149, .ifCond .lt 7, 152, 0, 156, 0, 0, none, []), (152, .iconst 2, 153, 2, 0, 0, 0, none, []), (153, .goto 4, 156, 0, 157, 0, 0, none, []), (156, .iconst 0, 157, 0, 0, 0, 0, none, []), (157, .istore 5, 159, 0, 5, 0, 0, none, []), (159, .iinc 8 1, 162, 1, 8, 0, 0, none, []), (162, .goto (-84), 165, 0, 78, 0, 0, none, [])]),
  (180, [(165, .iload 5, 167, 0, 5, 0, 0, some [0, 1, 2, 3, 4, 5, 6, 7], []), (167, .ifCond .ne 97, 170, 0, 264, 0, 0, none, []), (170, .bipush 40, 172, 40, 0, 0, 0, none, []), (172, .iload_n 1, 173, 0, 1, 0, 0, none, []), (173, .imul, 174, 0, 0, 0, 0, none, []), (174, .iload_n 3, 175, 0, 3, 0, 0, none, []), (175, .iadd, 176, 0, 0, 0, 0, none, []), (176, .iconst 4, 177, 4, 0, 0, 0, none, []), (177, .iload 7, 179, 0, 7, 0, 0, none, []), (179, .imul, 180, 0, 0, 0, 0, none, [])]),
  (196, [(180, .iadd, 181, 0, 0, 0, 0, none, []), (181, .istore 8, 183, 0, 8, 0, 0, none, []), (183, .aload_n 0, 184, 0, 0, 0, 0, none, []), (184, .aload_n 0, 185, 0, 0, 0, 0, none, []), (185, .getfield 59, 188, 0, 12, 31, 1, none, []), (188, .iload 8, 190, 0, 8, 0, 0, none, []), (190, .iaload, 191, 0, 0, 0, 0, none, []), (191, .aload_n 0, 192, 0, 0, 0, 0, none, []), (192, .getfield 59, 195, 0, 12, 31, 1, none, []), (195, .iload 8, 197, 0, 8, 0, 0, none, [])]),
  (210, [(197, .iconst 1, 198, 1, 0, 0, 0, none, []), (198, .iadd, 199, 0, 0, 0, 0, none, []), (199, .iaload, 200, 0, 0, 0, 0, none, []), (200, .aload_n 0, 201, 0, 0, 0, 0, none, []), (201, .getfield 59, 204, 0, 12, 31, 1, none, []), (204, .iload 8, 206, 0, 8, 0, 0, none, []), (206, .iconst 2, 207, 2, 0, 0, 0, none, []), (207, .iadd, 208, 0, 0, 0, 0, none, []), (208, .iaload, 209, 0, 0, 0, 0, none, []), (209, .aload_n 0, 210, 0, 0, 0, 0, none, [])]),
  (228, [(210, .getfield 59, 213, 0, 12, 31, 1, none, []), (213, .iload 8, 215, 0, 8, 0, 0, none, []), (215, .iconst 3, 216, 3, 0, 0, 0, none, []), (216, .iadd, 217, 0, 0, 0, 0, none, []), (217, .iaload, 218, 0, 0, 0, 0, none, []), (218, .invokevirtual 347, 221, 0, 199, 5, 1, none, [(0, 12)]), (221, .ifCond .ge 40, 224, 0, 261, 0, 0, none, []), (224, .iconst 0, 225, 0, 0, 0, 0, none, []), (225, .istore 9, 227, 0, 9, 0, 0, none, []), (227, .iload 9, 229, 0, 9, 0, 0, some [0, 7, 9], [])]),
  (249, [(229, .sipush 549, 232, 549, 0, 0, 0, none, []), (232, .if_icmp .ge 23, 235, 0, 255, 0, 0, none, []), (235, .aload_n 0, 236, 0, 0, 0, 0, none, []), (236, .getfield 7, 239, 0, 12, 0, 1, none, []), (239, .iload 9, 241, 0, 9, 0, 0, none, []), (241, .aload_n 0, 242, 0, 0, 0, 0, none, []), (242, .getfield 62, 245, 0, 12, 32, 1, none, []), (245, .iload 9, 247, 0, 9, 0, 0, none, []), (247, .iaload, 248, 0, 0, 0, 0, none, []), (248, .iastore, 249, 0, 0, 0, 0, none, [])]),
  (271, [(249, .iinc 9 1, 252, 1, 9, 0, 0, none, []), (252, .goto (-25), 255, 0, 227, 0, 0, none, []), (255, .bipush (-20), 257, (-20), 0, 0, 0, none, []), (257, .iload 7, 259, 0, 7, 0, 0, none, []), (259, .isub, 260, 0, 0, 0, 0, none, []), (260, .ireturn, 261, 0, 0, 0, 0, none, []), (261, .iinc 6 1, 264, 1, 6, 0, 0, none, []), (264, .iinc 7 1, 267, 1, 7, 0, 0, none, []), (267, .goto (-204), 270, 0, 63, 0, 0, none, []), (270, .aload_n 0, 271, 0, 0, 0, 0, none, [])]),
  (279, [(271, .iload 5, 273, 0, 5, 0, 0, none, []), (273, .putfield 350, 276, 0, 12, 33, 4, none, []), (276, .iload 6, 278, 0, 6, 0, 0, none, []), (278, .ireturn, 279, 0, 0, 0, 0, none, [])])]
def zc_M_read : z_C := z_find2 zd_M_read
def zd_M_torn : List (Nat × List (Nat × z_I)) := [(5, [(0, .aload_n 0, 1, 0, 0, 0, 0, none, []), (1, .getfield 350, 4, 0, 12, 33, 0, none, []), (4, .ireturn, 5, 0, 0, 0, 0, none, [])])]
def zc_M_torn : z_C := z_find2 zd_M_torn
def zd_M_callsOld : List (Nat × List (Nat × z_I)) := [(12, [(0, .iconst 0, 1, 0, 0, 0, 0, none, []), (1, .istore_n 1, 2, 0, 1, 0, 0, none, []), (2, .iconst 0, 3, 0, 0, 0, 0, none, []), (3, .istore_n 2, 4, 0, 2, 0, 0, none, []), (4, .iload_n 2, 5, 0, 2, 0, 0, some [0, 1, 2], []), (5, .aload_n 0, 6, 0, 0, 0, 0, none, []), (6, .getfield 7, 9, 0, 12, 0, 1, none, []), (9, .iconst 0, 10, 0, 0, 0, 0, none, []), (10, .iaload, 11, 0, 0, 0, 0, none, []), (11, .if_icmp .ge 41, 14, 0, 52, 0, 0, none, [])]),
  (27, [(14, .iconst 0, 15, 0, 0, 0, 0, none, []), (15, .istore_n 3, 16, 0, 3, 0, 0, none, []), (16, .iload_n 3, 17, 0, 3, 0, 0, some [0, 1, 2, 3], []), (17, .aload_n 0, 18, 0, 0, 0, 0, none, []), (18, .getfield 7, 21, 0, 12, 0, 1, none, []), (21, .bipush 7, 23, 7, 0, 0, 0, none, []), (23, .iload_n 2, 24, 0, 2, 0, 0, none, []), (24, .iadd, 25, 0, 0, 0, 0, none, []), (25, .iaload, 26, 0, 0, 0, 0, none, []), (26, .if_icmp .ge 20, 29, 0, 46, 0, 0, none, [])]),
  (41, [(29, .iload_n 1, 30, 0, 1, 0, 0, none, []), (30, .aload_n 0, 31, 0, 0, 0, 0, none, []), (31, .iconst 0, 32, 0, 0, 0, 0, none, []), (32, .iload_n 2, 33, 0, 2, 0, 0, none, []), (33, .iload_n 3, 34, 0, 3, 0, 0, none, []), (34, .iconst 0, 35, 0, 0, 0, 0, none, []), (35, .invokevirtual 190, 38, 0, 158, 5, 1, none, [(0, 12)]), (38, .iadd, 39, 0, 0, 0, 0, none, []), (39, .istore_n 1, 40, 0, 1, 0, 0, none, []), (40, .iinc 3 1, 43, 1, 3, 0, 0, none, [])]),
  (54, [(43, .goto (-27), 46, 0, 16, 0, 0, none, []), (46, .iinc 2 1, 49, 1, 2, 0, 0, none, []), (49, .goto (-45), 52, 0, 4, 0, 0, none, []), (52, .iload_n 1, 53, 0, 1, 0, 0, none, []), (53, .ireturn, 54, 0, 0, 0, 0, none, [])])]
def zc_M_callsOld : z_C := z_find2 zd_M_callsOld
def zd_M_isOther : List (Nat × List (Nat × z_I)) := [(16, [(0, .aload_n 0, 1, 0, 0, 0, 0, none, []), (1, .iload_n 1, 2, 0, 1, 0, 0, none, []), (2, .iload_n 2, 3, 0, 2, 0, 0, none, []), (3, .iload_n 2, 4, 0, 2, 0, 0, none, []), (4, .invokevirtual 232, 7, 0, 169, 4, 1, none, [(0, 12)]), (7, .ifCond .ne 7, 10, 0, 14, 0, 0, none, []), (10, .iconst 1, 11, 1, 0, 0, 0, none, []), (11, .goto 4, 14, 0, 15, 0, 0, none, []), (14, .iconst 0, 15, 0, 0, 0, 0, none, []), (15, .istore_n 3, 16, 0, 3, 0, 0, none, [])]),
  (30, [(16, .iconst 0, 17, 0, 0, 0, 0, none, []), (17, .istore 4, 19, 0, 4, 0, 0, none, []), (19, .iload 4, 21, 0, 4, 0, 0, some [0, 1, 2, 3, 4], []), (21, .aload_n 0, 22, 0, 0, 0, 0, none, []), (22, .iconst 0, 23, 0, 0, 0, 0, none, []), (23, .iload_n 1, 24, 0, 1, 0, 0, none, []), (24, .iload_n 2, 25, 0, 2, 0, 0, none, []), (25, .iconst 2, 26, 2, 0, 0, 0, none, []), (26, .invokevirtual 190, 29, 0, 158, 5, 1, none, [(0, 12)]), (29, .if_icmp .ge 44, 32, 0, 73, 0, 0, none, [])]),
  (45, [(32, .iload_n 3, 33, 0, 3, 0, 0, none, []), (33, .ifCond .ne 28, 36, 0, 61, 0, 0, none, []), (36, .aload_n 0, 37, 0, 0, 0, 0, none, []), (37, .iconst 0, 38, 0, 0, 0, 0, none, []), (38, .iload_n 1, 39, 0, 1, 0, 0, none, []), (39, .iload_n 2, 40, 0, 2, 0, 0, none, []), (40, .iconst 3, 41, 3, 0, 0, 0, none, []), (41, .iload 4, 43, 0, 4, 0, 0, none, []), (43, .iadd, 44, 0, 0, 0, 0, none, []), (44, .invokevirtual 190, 47, 0, 158, 5, 1, none, [(0, 12)])]),
  (62, [(47, .aload_n 0, 48, 0, 0, 0, 0, none, []), (48, .iconst 1, 49, 1, 0, 0, 0, none, []), (49, .iload_n 1, 50, 0, 1, 0, 0, none, []), (50, .iload_n 2, 51, 0, 2, 0, 0, none, []), (51, .iconst 3, 52, 3, 0, 0, 0, none, []), (52, .iload 4, 54, 0, 4, 0, 0, none, []), (54, .iadd, 55, 0, 0, 0, 0, none, []), (55, .invokevirtual 190, 58, 0, 158, 5, 1, none, [(0, 12)]), (58, .if_icmp .eq 7, 61, 0, 65, 0, 0, none, []), (61, .iconst 1, 62, 1, 0, 0, 0, none, [])]),
  (75, [(62, .goto 4, 65, 0, 66, 0, 0, none, []), (65, .iconst 0, 66, 0, 0, 0, 0, none, []), (66, .istore_n 3, 67, 0, 3, 0, 0, none, []), (67, .iinc 4 1, 70, 1, 4, 0, 0, none, []), (70, .goto (-51), 73, 0, 19, 0, 0, none, []), (73, .iload_n 3, 74, 0, 3, 0, 0, none, []), (74, .ireturn, 75, 0, 1, 0, 0, none, [])])]
def zc_M_isOther : z_C := z_find2 zd_M_isOther
def zd_M_nodesOther : List (Nat × List (Nat × z_I)) := [(12, [(0, .iconst 0, 1, 0, 0, 0, 0, none, []), (1, .istore_n 1, 2, 0, 1, 0, 0, none, []), (2, .iconst 0, 3, 0, 0, 0, 0, none, []), (3, .istore_n 2, 4, 0, 2, 0, 0, none, []), (4, .iload_n 2, 5, 0, 2, 0, 0, some [0, 1, 2], []), (5, .aload_n 0, 6, 0, 0, 0, 0, none, []), (6, .getfield 7, 9, 0, 12, 0, 1, none, []), (9, .iconst 0, 10, 0, 0, 0, 0, none, []), (10, .iaload, 11, 0, 0, 0, 0, none, []), (11, .if_icmp .ge 42, 14, 0, 53, 0, 0, none, [])]),
  (27, [(14, .iconst 0, 15, 0, 0, 0, 0, none, []), (15, .istore_n 3, 16, 0, 3, 0, 0, none, []), (16, .iload_n 3, 17, 0, 3, 0, 0, some [0, 1, 2, 3], []), (17, .aload_n 0, 18, 0, 0, 0, 0, none, []), (18, .getfield 7, 21, 0, 12, 0, 1, none, []), (21, .bipush 7, 23, 7, 0, 0, 0, none, []), (23, .iload_n 2, 24, 0, 2, 0, 0, none, []), (24, .iadd, 25, 0, 0, 0, 0, none, []), (25, .iaload, 26, 0, 0, 0, 0, none, []), (26, .if_icmp .ge 21, 29, 0, 47, 0, 0, none, [])]),
  (45, [(29, .iload_n 1, 30, 0, 1, 0, 0, none, []), (30, .aload_n 0, 31, 0, 0, 0, 0, none, []), (31, .iload_n 2, 32, 0, 2, 0, 0, none, []), (32, .iload_n 3, 33, 0, 3, 0, 0, none, []), (33, .invokevirtual 353, 36, 0, 217, 3, 1, none, [(0, 12)]), (36, .invokestatic 207, 39, 0, 128, 1, 1, none, []), (39, .iadd, 40, 0, 0, 0, 0, none, []), (40, .istore_n 1, 41, 0, 1, 0, 0, none, []), (41, .iinc 3 1, 44, 1, 3, 0, 0, none, []), (44, .goto (-28), 47, 0, 16, 0, 0, none, [])]),
  (55, [(47, .iinc 2 1, 50, 1, 2, 0, 0, none, []), (50, .goto (-46), 53, 0, 4, 0, 0, none, []), (53, .iload_n 1, 54, 0, 1, 0, 0, none, []), (54, .ireturn, 55, 0, 0, 0, 0, none, [])])]
def zc_M_nodesOther : z_C := z_find2 zd_M_nodesOther
def zd_M_edgesOver : List (Nat × List (Nat × z_I)) := [(16, [(0, .iconst 0, 1, 0, 0, 0, 0, none, []), (1, .istore_n 1, 2, 0, 1, 0, 0, none, []), (2, .iload_n 1, 3, 0, 1, 0, 0, some [0, 1], []), (3, .sipush 216, 6, 216, 0, 0, 0, none, []), (6, .if_icmp .ge 16, 9, 0, 22, 0, 0, none, []), (9, .aload_n 0, 10, 0, 0, 0, 0, none, []), (10, .getfield 41, 13, 0, 12, 24, 1, none, []), (13, .iload_n 1, 14, 0, 1, 0, 0, none, []), (14, .iconst 0, 15, 0, 0, 0, 0, none, []), (15, .bastore, 16, 0, 0, 0, 0, none, [])]),
  (32, [(16, .iinc 1 1, 19, 1, 1, 0, 0, none, []), (19, .goto (-17), 22, 0, 2, 0, 0, none, []), (22, .iconst 0, 23, 0, 0, 0, 0, none, []), (23, .istore_n 1, 24, 0, 1, 0, 0, none, []), (24, .iload_n 1, 25, 0, 1, 0, 0, some [0, 1], []), (25, .aload_n 0, 26, 0, 0, 0, 0, none, []), (26, .getfield 7, 29, 0, 12, 0, 1, none, []), (29, .iconst 2, 30, 2, 0, 0, 0, none, []), (30, .iaload, 31, 0, 0, 0, 0, none, []), (31, .if_icmp .ge 59, 34, 0, 90, 0, 0, none, [])]),
  (50, [(34, .aload_n 0, 35, 0, 0, 0, 0, none, []), (35, .iconst 0, 36, 0, 0, 0, 0, none, []), (36, .iload_n 1, 37, 0, 1, 0, 0, none, []), (37, .invokevirtual 245, 40, 0, 168, 3, 0, none, [(0, 12)]), (40, .iconst 0, 41, 0, 0, 0, 0, none, []), (41, .istore_n 2, 42, 0, 2, 0, 0, none, []), (42, .iload_n 2, 43, 0, 2, 0, 0, some [0, 1, 2], []), (43, .sipush 216, 46, 216, 0, 0, 0, none, []), (46, .if_icmp .ge 38, 49, 0, 84, 0, 0, none, []), (49, .aload_n 0, 50, 0, 0, 0, 0, none, [])]),
  (68, [(50, .getfield 41, 53, 0, 12, 24, 1, none, []), (53, .iload_n 2, 54, 0, 2, 0, 0, none, []), (54, .aload_n 0, 55, 0, 0, 0, 0, none, []), (55, .getfield 41, 58, 0, 12, 24, 1, none, []), (58, .iload_n 2, 59, 0, 2, 0, 0, none, []), (59, .baload, 60, 0, 0, 0, 0, none, []), (60, .ifCond .ne 12, 63, 0, 72, 0, 0, none, []), (63, .aload_n 0, 64, 0, 0, 0, 0, none, []), (64, .getfield 32, 67, 0, 12, 16, 1, none, []), (67, .iload_n 2, 68, 0, 2, 0, 0, none, [])]),
  (88, [(68, .baload, 69, 0, 0, 0, 0, none, []), (69, .ifCond .eq 7, 72, 0, 76, 0, 0, none, []), (72, .iconst 1, 73, 1, 0, 0, 0, none, []), (73, .goto 4, 76, 0, 77, 0, 0, none, []), (76, .iconst 0, 77, 0, 0, 0, 0, none, []), (77, .bastore, 78, 0, 0, 0, 0, none, []), (78, .iinc 2 1, 81, 1, 2, 0, 0, none, []), (81, .goto (-39), 84, 0, 42, 0, 0, none, []), (84, .iinc 1 1, 87, 1, 1, 0, 0, none, []), (87, .goto (-63), 90, 0, 24, 0, 0, none, [])]),
  (104, [(90, .iconst 0, 91, 0, 0, 0, 0, none, []), (91, .istore_n 1, 92, 0, 1, 0, 0, none, []), (92, .iconst 0, 93, 0, 0, 0, 0, none, []), (93, .istore_n 2, 94, 0, 2, 0, 0, none, []), (94, .iload_n 2, 95, 0, 2, 0, 0, some [0, 1, 2], []), (95, .sipush 216, 98, 216, 0, 0, 0, none, []), (98, .if_icmp .ge 21, 101, 0, 119, 0, 0, none, []), (101, .iload_n 1, 102, 0, 1, 0, 0, none, []), (102, .aload_n 0, 103, 0, 0, 0, 0, none, []), (103, .getfield 41, 106, 0, 12, 24, 1, none, [])]),
  (121, [(106, .iload_n 2, 107, 0, 2, 0, 0, none, []), (107, .baload, 108, 0, 0, 0, 0, none, []), (108, .invokestatic 207, 111, 0, 128, 1, 1, none, []), (111, .iadd, 112, 0, 0, 0, 0, none, []), (112, .istore_n 1, 113, 0, 1, 0, 0, none, []), (113, .iinc 2 1, 116, 1, 2, 0, 0, none, []), (116, .goto (-22), 119, 0, 94, 0, 0, none, []), (119, .iload_n 1, 120, 0, 1, 0, 0, none, []), (120, .ireturn, 121, 0, 0, 0, 0, none, [])])]
def zc_M_edgesOver : z_C := z_find2 zd_M_edgesOver
def zd_M_count : List (Nat × List (Nat × z_I)) := [(54, [(0, .iload_n 1, 1, 0, 1, 0, 0, none, []), (1, .tableswitch 102 0 5 #[39, 59, 64, 69, 92, 97], 40, 0, 103, 0, 0, none, [(0, 40), (1, 60), (2, 65), (3, 70), (4, 93), (5, 98)]), (40, .aload_n 0, 41, 0, 0, 0, 0, none, []), (41, .getfield 16, 44, 0, 12, 2, 1, none, []), (44, .iconst 0, 45, 0, 0, 0, 0, none, []), (45, .baload, 46, 0, 0, 0, 0, none, []), (46, .invokestatic 207, 49, 0, 128, 1, 1, none, []), (49, .aload_n 0, 50, 0, 0, 0, 0, none, []), (50, .getfield 16, 53, 0, 12, 2, 1, none, []), (53, .iconst 1, 54, 1, 0, 0, 0, none, [])]),
  (70, [(54, .baload, 55, 0, 0, 0, 0, none, []), (55, .invokestatic 207, 58, 0, 128, 1, 1, none, []), (58, .iadd, 59, 0, 0, 0, 0, none, []), (59, .ireturn, 60, 0, 0, 0, 0, none, []), (60, .aload_n 0, 61, 0, 0, 0, 0, none, []), (61, .invokevirtual 356, 64, 0, 216, 1, 1, none, [(0, 12)]), (64, .ireturn, 65, 0, 0, 0, 0, none, []), (65, .aload_n 0, 66, 0, 0, 0, 0, none, []), (66, .getfield 88, 69, 0, 12, 7, 0, none, []), (69, .ireturn, 70, 0, 0, 0, 0, none, [])]),
  (88, [(70, .aload_n 0, 71, 0, 0, 0, 0, none, []), (71, .getfield 53, 74, 0, 12, 29, 1, none, []), (74, .iconst 0, 75, 0, 0, 0, 0, none, []), (75, .iaload, 76, 0, 0, 0, 0, none, []), (76, .bipush (-4), 78, (-4), 0, 0, 0, none, []), (78, .if_icmp .ne 8, 81, 0, 86, 0, 0, none, []), (81, .bipush (-4), 83, (-4), 0, 0, 0, none, []), (83, .goto 9, 86, 0, 92, 0, 0, none, []), (86, .aload_n 0, 87, 0, 0, 0, 0, none, []), (87, .getfield 56, 90, 0, 12, 30, 1, none, [])]),
  (104, [(90, .iconst 0, 91, 0, 0, 0, 0, none, []), (91, .iaload, 92, 0, 0, 0, 0, none, []), (92, .ireturn, 93, 0, 0, 0, 0, none, []), (93, .aload_n 0, 94, 0, 0, 0, 0, none, []), (94, .invokevirtual 359, 97, 0, 219, 1, 1, none, [(0, 12)]), (97, .ireturn, 98, 0, 0, 0, 0, none, []), (98, .aload_n 0, 99, 0, 0, 0, 0, none, []), (99, .invokevirtual 362, 102, 0, 218, 1, 1, none, [(0, 12)]), (102, .ireturn, 103, 0, 0, 0, 0, none, []), (103, .iconst (-1), 104, (-1), 0, 0, 0, none, [])]),
  (105, [(104, .ireturn, 105, 0, 0, 0, 0, none, [])])]
def zc_M_count : z_C := z_find2 zd_M_count
end
section
/-! whole methods by the small machine; what a run of any length comes to, and the equations by which it is reckoned -/
def z_codes : List z_C := [zc_X_feed, zc_X_end, zc_X_text, zc_X_fault, zc_X_rule, zc_X_node, zc_X_meant, zc_X_test, zc_X_said, zc_X_edge, zc_X_covers, zc_X_order, zc_X_same, zc_X_say, zc_X_lead, zc_X_nexts, zc_X_has, zc_X_take, zc_X_leave, zc_X_add, zc_X_drop, zc_X_draw, zc_X_keep, zc_X_back, zc_X_sheet, zc_X_lay, zc_X_read, zc_X_torn, zc_X_count, zc_X_programOf, zc_X_runTest, zc_X_edgesInDanger, zc_X_saysTheSame, zc_X_testsThatSayOther, zc_X_imagesKept, zc_X_firstRefused, zc_X_turnAll, zc_X_isName, zc_X_isNode, zc_X_isImage, zc_X_isSheet, zc_X_isLane, zc_X_placeOf, zc_X_edgeOfNext, zc_X_edgeOfCall, zc_Tp_append, zc_Tp_rewind, zc_Tp_advance, zc_Tp_isWord, zc_Tp_takeWord, zc_Tp_takeNumber, zc_Tp_isLetter, zc_Tp_isFigure, zc_Rd_readAll, zc_Rd_fail, zc_Rd_advance, zc_Rd_readLine, zc_Rd_lineOfWord, zc_Rd_wordOf, zc_Rd_hasRoomFor, zc_Rd_readRest, zc_Rd_leastArguments, zc_Rd_mostArguments, zc_Rd_isWithin, zc_Rd_tell, zc_Rd_tellNode, zc_Rd_tellHas, zc_Rd_tellsWhatIsNotThere, zc_P_clear, zc_P_becomeAs, zc_P_hasMethod, zc_P_hasNode, zc_P_hasNext, zc_P_hasClass, zc_P_hasEdge, zc_P_nextOf, zc_P_mayTurn, zc_P_turn, zc_P_widen, zc_P_meantBy, zc_P_partOf, zc_P_nodesOfAll, zc_P_nodesThatCall, zc_P_nodesOtherThan, zc_P_isNodeAsIn, zc_P_appendMethod, zc_P_appendNode, zc_P_appendNext, zc_P_appendClass, zc_P_leadsOnlyToNodes, zc_Ts_isThere, zc_Ts_isFull, zc_Ts_becomeAs, zc_Ts_append, zc_Ts_remove, zc_Ru_begin, zc_Ru_enter, zc_Ru_visit, zc_Ru_enterMeant, zc_Ru_goOn, zc_Ru_decide, zc_Es_clear, zc_Es_becomeAs, zc_Es_put, zc_Es_putAll, zc_Es_takeOut, zc_Es_holds, zc_Es_size, zc_Es_sizeWithin, zc_Dg_compare, zc_Dg_compareMethod, zc_Dg_compareNexts, zc_Dg_pairUp, zc_Dg_areAlike, zc_Ch_choose, zc_Ch_tellTest, zc_Ch_costOfChosen, zc_Ch_testsOver, zc_Ch_edgesOver, zc_Ch_rankAll, zc_Ch_nextOne, zc_Ch_rank, zc_Sh_renew, zc_Sh_put, zc_Sh_cellAt, zc_Sh_faultAs, zc_Sh_wholeFrom, zc_M_in, zc_M_flag, zc_M_nodeAt, zc_M_hasAt, zc_M_firstDraft, zc_M_keepDraft, zc_M_feed, zc_M_end, zc_M_requires, zc_M_byteAt, zc_M_is, zc_M_lineNow, zc_M_reads, zc_M_readNumber, zc_M_methodNow, zc_M_readNode, zc_M_readClass, zc_M_readHas, zc_M_readTest, zc_M_hasRoom, zc_M_readLineOf, zc_M_readLine, zc_M_isWhole, zc_M_text, zc_M_fault, zc_M_isMethod, zc_M_isNode, zc_M_isClass, zc_M_isName, zc_M_isTest, zc_M_isPart, zc_M_ofNode, zc_M_meantBy, zc_M_says, zc_M_goesTo, zc_M_comesBack, zc_M_enters, zc_M_goesOn, zc_M_callsIn, zc_M_runs, zc_M_ofTest, zc_M_runsTest, zc_M_areAlike, zc_M_pairsOn, zc_M_findPairs, zc_M_findDanger, zc_M_dangers, zc_M_dangersOf, zc_M_findOrder, zc_M_comesNext, zc_M_rankOf, zc_M_nodesOfAll, zc_M_costsChosen, zc_M_chosen, zc_M_areSame, zc_M_others, zc_M_rule, zc_M_node, zc_M_meant, zc_M_coveredMany, zc_M_nodesRun, zc_M_coveredBy, zc_M_dangersBy, zc_M_test, zc_M_said, zc_M_isEdge, zc_M_testsOver, zc_M_edge, zc_M_covers, zc_M_order, zc_M_same, zc_M_say, zc_M_lead, zc_M_nexts, zc_M_has, zc_M_becomes, zc_M_take, zc_M_leave, zc_M_comes, zc_M_add, zc_M_drop, zc_M_draw, zc_M_keep, zc_M_back, zc_M_isSheet, zc_M_sheet, zc_M_lay, zc_M_read, zc_M_torn, zc_M_callsOld, zc_M_isOther, zc_M_nodesOther, zc_M_edgesOver, zc_M_count]
def z_code (id : Nat) : z_C := z_codes.getD id (fun _ => none)
def z_rkT : Nat := 586872707794627578171953644506025093314913397636250163122963564518537233890663292873983940548031054358590376373256374724420619845613646791838180253450528595346849304325640788607199602913489317009097317416803180759920136200482301281400479974788553728900423750400368143728692775225401114215719914056596448513659308396407906325516773810921460840874488012012889564635765665707645502332553643775335564487291600050378776858652505616313882623143342296048040848293219619348058761913894440921234444424914903791754928217717945288860300542210
def z_recs (id : Nat) : Bool := Nat.ble 96 id && Nat.ble id 98
def z_mlT : Nat := 130729281144649194706473935430621995332048367736724773701319659149984750408227812949631600286746429937047109683412490067740230083319240190937355832367230570067663465240563887114621151594629694261869388182630263230527165667060319540394963281165349346072493584811515872382547464267660894733057911566137176340017310603080682725486716941162380341196756934687455782573678347599021859523607122097475992592887841219647452796320909277988610115671142950171302647230041551977990206232814199795269743050317959947539989985162584968671426380546
/-- how many words of locals a method has -/
def z_ml (id : Nat) : Nat := bif Nat.blt id 900 then (z_mlT >>> (8 * id)) % 256 else (match id with | 902 => 4 | 903 => 5 | 904 => 2 | 905 => 2 | 906 => 2 | 907 => 1 | _ => 2)
def z_rk (id : Nat) : Nat := bif Nat.blt id 900 then (z_rkT >>> (8 * id)) % 256 else (bif Nat.blt id 907 then 2 else 8)
def z_lastI : List Value → Nat
  | [] => 0
  | [.int c] => c.toNatClampNeg
  | _ :: r => z_lastI r
/-- how many frames a call of it may need above its own: the room -/
def z_rank (id : Nat) (args : List Value) : Nat := bif z_recs id then z_rk id + 3 * (5 - z_lastI args) else z_rk id
def z_bits (x0 : Int64) : Int32 :=
  let x1 := x0 - (((x0.toUInt64 >>> ((1 : Int32).toInt64.toUInt64 &&& Int64.toUInt64 63)).toInt64) &&& 6148914691236517205)
  let x2 := (x1 &&& 3689348814741910323) + (((x1.toUInt64 >>> ((2 : Int32).toInt64.toUInt64 &&& Int64.toUInt64 63)).toInt64) &&& 3689348814741910323)
  let x3 := (x2 + (x2.toUInt64 >>> ((4 : Int32).toInt64.toUInt64 &&& Int64.toUInt64 63)).toInt64) &&& 1085102592571150095
  let x4 := x3 + (x3.toUInt64 >>> ((8 : Int32).toInt64.toUInt64 &&& Int64.toUInt64 63)).toInt64
  let x5 := x4 + (x4.toUInt64 >>> ((16 : Int32).toInt64.toUInt64 &&& Int64.toUInt64 63)).toInt64
  let x6 := x5 + (x5.toUInt64 >>> ((32 : Int32).toInt64.toUInt64 &&& Int64.toUInt64 63)).toInt64
  x6.toInt32 &&& 127
/-- the text constants' letters -/
def z_txt (s : Nat) : List Int32 := match s with
  | 1000 => [109, 101, 116, 104, 111, 100]
  | 1001 => [115, 97, 121]
  | 1002 => [99, 97, 108, 108]
  | 1003 => [99, 108, 97, 115, 115]
  | 1004 => [104, 97, 115]
  | 1005 => [116, 101, 115, 116]
  | _ => []
def z_fiI (h : z_H) (o : Nat) (x : Int32) : z_H := (fun o' k' => bif Nat.beq o' o then x else h.1 o' k', h.2)
def z_fiL (h : z_H) (o : Nat) (x : Int64) : z_H := (h.1, fun o' k' => bif Nat.beq o' o then x else h.2.1 o' k', h.2.2)
/-- the library's own methods -/
def z_prim (id : Nat) (args : List Value) (h : z_H) : Option z_A := match id, args with
  | 902, [.ref o, .int x] => bif Nat.beq (z_K o) 20 then some (0, z_fiI h o x) else none
  | 903, [.ref o, .long x] => bif Nat.beq (z_K o) 21 then some (0, z_fiL h o x) else none
  | 904, [.int a, .int b] => some (if a < b then b else a, h)
  | 905, [.int a, .int b] => some (if b < a then b else a, h)
  | 906, [.long x] => some (z_bits x, h)
  | 907, [.ref s] => bif Nat.ble 1000 s && Nat.ble s 1005 then some (Int32.ofNat (z_txt s).length, h) else none
  | 908, [.ref s, .int i] => bif Nat.ble 1000 s && Nat.ble s 1005 && z_in i (z_txt s).length then some ((z_txt s).getD i.toNatClampNeg 0, h) else none
  | _, _ => none
def z_ret (c : Nat) (r : Int32) (s : z_S) (h : z_H) : z_S := (s.1, s.2.1, (match c with | 0 => s.2.2.1 | 1 => .int r :: s.2.2.1 | _ => .ref r.toNatClampNeg :: s.2.2.1), h)
def z_run (call : Nat → List Value → z_H → Option z_A) (C : z_C) (ρ : Nat) : Nat → z_S → Option z_A
  | 0, _ => none
  | n + 1, s => match z_step C s with
    | none => none
    | some (.inl s') => z_run call C ρ n s'
    | some (.inr (.inl r)) => some r
    | some (.inr (.inr (id, args, c, s'))) => if z_rank id args < ρ ∧ z_cat args ≤ z_ml id then (match call id args s'.2.2.2 with
      | none => none
      | some (r, h') => z_run call C ρ n (z_ret c r s' h')) else none
def z_ev : Nat → Nat → List Value → z_H → Option z_A
  | 0, _, _, _ => none
  | n + 1, id, args, h => if 900 ≤ id then z_prim id args h else z_run (z_ev n) (z_code id) (z_rank id args) n (0, lv_args 0 args, [], h)
theorem z_run_mono {call call' : Nat → List Value → z_H → Option z_A} (hc : ∀ id a h r, call id a h = some r → call' id a h = some r) {C : z_C} {ρ : Nat} : ∀ (n m : Nat) (s : z_S) (r : z_A), n ≤ m → z_run call C ρ n s = some r → z_run call' C ρ m s = some r := by
  intro n
  induction n with
  | zero => intro m s r _ h; simp [z_run] at h
  | succ n ih =>
    intro m s r hm h
    obtain ⟨m, rfl⟩ : ∃ k, m = k + 1 := ⟨m - 1, by omega⟩
    have hm : n ≤ m := by omega
    unfold z_run at h ⊢
    cases hs : z_step C s with
    | none => rw [hs] at h; simp at h
    | some o =>
      rw [hs] at h
      match o, h with
      | .inl s', h => exact ih m s' r hm h
      | .inr (.inl r'), h => exact h
      | .inr (.inr (id, args, c, s')), h =>
        simp only at h ⊢
        by_cases hr : z_rank id args < ρ ∧ z_cat args ≤ z_ml id
        · rw [if_pos hr] at h ⊢
          cases hq : call id args s'.2.2.2 with
          | none => rw [hq] at h; simp at h
          | some q =>
            obtain ⟨v, h'⟩ := q
            rw [hq] at h
            rw [hc _ _ _ _ hq]
            exact ih m _ r hm h
        · rw [if_neg hr] at h; simp at h
theorem z_ev_mono : ∀ (n m id : Nat) (a : List Value) (h : z_H) (r : z_A), n ≤ m → z_ev n id a h = some r → z_ev m id a h = some r := by
  intro n
  induction n with
  | zero => intro m id a h r _ e; simp [z_ev] at e
  | succ n ih =>
    intro m id a h r hm e
    obtain ⟨m, rfl⟩ : ∃ k, m = k + 1 := ⟨m - 1, by omega⟩
    unfold z_ev at e ⊢
    by_cases hp : 900 ≤ id
    · rw [if_pos hp] at e ⊢; exact e
    · rw [if_neg hp] at e ⊢
      exact z_run_mono (fun id a h r e => ih m id a h r (by omega) e) n m _ r (by omega) e
/-- what a method comes to (none: it doesn't come to an end within the small machine) -/
noncomputable def z_M (id : Nat) (a : List Value) (h : z_H) : Option z_A := by
  classical
  exact if hx : ∃ r, ∃ n, z_ev n id a h = some r then some (Classical.choose hx) else none
noncomputable def z_X (C : z_C) (ρ : Nat) (s : z_S) : Option z_A := by
  classical
  exact if hx : ∃ r, ∃ n, z_run (z_ev n) C ρ n s = some r then some (Classical.choose hx) else none
theorem z_run_det {C : z_C} {ρ : Nat} {s : z_S} {n m : Nat} {r r' : z_A} (h : z_run (z_ev n) C ρ n s = some r) (h' : z_run (z_ev m) C ρ m s = some r') : r = r' := by
  have a := z_run_mono (fun id a h r e => z_ev_mono n (n + m) id a h r (by omega) e) n (n + m) s r (by omega) h
  have b := z_run_mono (fun id a h r e => z_ev_mono m (n + m) id a h r (by omega) e) m (n + m) s r' (by omega) h'
  rw [a] at b
  exact Option.some.inj b
theorem z_ev_det {id : Nat} {a : List Value} {h : z_H} {n m : Nat} {r r' : z_A} (e : z_ev n id a h = some r) (e' : z_ev m id a h = some r') : r = r' := by
  have x := z_ev_mono n (n + m) id a h r (by omega) e
  have y := z_ev_mono m (n + m) id a h r' (by omega) e'
  rw [x] at y
  exact Option.some.inj y
theorem z_M_iff {id : Nat} {a : List Value} {h : z_H} {r : z_A} : z_M id a h = some r ↔ ∃ n, z_ev n id a h = some r := by
  classical
  unfold z_M
  constructor
  · intro e
    by_cases hx : ∃ r, ∃ n, z_ev n id a h = some r
    · rw [dif_pos hx] at e
      obtain ⟨n, hn⟩ := Classical.choose_spec hx
      exact ⟨n, by rw [← Option.some.inj e]; exact hn⟩
    · rw [dif_neg hx] at e; cases e
  · rintro ⟨n, hn⟩
    have hx : ∃ r, ∃ n, z_ev n id a h = some r := ⟨r, n, hn⟩
    rw [dif_pos hx]
    obtain ⟨m, hm⟩ := Classical.choose_spec hx
    rw [z_ev_det hm hn]
theorem z_X_iff {C : z_C} {ρ : Nat} {s : z_S} {r : z_A} : z_X C ρ s = some r ↔ ∃ n, z_run (z_ev n) C ρ n s = some r := by
  classical
  unfold z_X
  constructor
  · intro e
    by_cases hx : ∃ r, ∃ n, z_run (z_ev n) C ρ n s = some r
    · rw [dif_pos hx] at e
      obtain ⟨n, hn⟩ := Classical.choose_spec hx
      exact ⟨n, by rw [← Option.some.inj e]; exact hn⟩
    · rw [dif_neg hx] at e; cases e
  · rintro ⟨n, hn⟩
    have hx : ∃ r, ∃ n, z_run (z_ev n) C ρ n s = some r := ⟨r, n, hn⟩
    rw [dif_pos hx]
    obtain ⟨m, hm⟩ := Classical.choose_spec hx
    rw [z_run_det hm hn]
theorem z_opt_ext {α : Type} {a b : Option α} (h : ∀ r, a = some r ↔ b = some r) : a = b := by
  cases a with
  | none =>
    cases b with
    | none => rfl
    | some x => exact absurd ((h x).mpr rfl) (by simp)
  | some x => exact ((h x).mp rfl).symm
theorem z_X_step {C : z_C} {ρ : Nat} {s s' : z_S} (h : z_step C s = some (.inl s')) : z_X C ρ s = z_X C ρ s' := by
  apply z_opt_ext
  intro r
  rw [z_X_iff, z_X_iff]
  constructor
  · rintro ⟨n, hn⟩
    cases n with
    | zero => simp [z_run] at hn
    | succ n =>
      unfold z_run at hn
      rw [h] at hn
      exact ⟨n + 1, z_run_mono (fun _ _ _ _ e => e) n (n + 1) _ _ (by omega) hn⟩
  · rintro ⟨n, hn⟩
    refine ⟨n + 1, ?_⟩
    unfold z_run
    rw [h]
    exact z_run_mono (fun id a h r e => z_ev_mono n (n + 1) id a h r (by omega) e) n n _ _ (Nat.le_refl _) hn
theorem z_X_ret {C : z_C} {ρ : Nat} {s : z_S} {r : z_A} (h : z_step C s = some (.inr (.inl r))) : z_X C ρ s = some r := by
  rw [z_X_iff]
  exact ⟨1, by unfold z_run; rw [h]⟩
theorem z_X_none {C : z_C} {ρ : Nat} {s : z_S} (h : z_step C s = none) : z_X C ρ s = none := by
  apply z_opt_ext
  intro r
  rw [z_X_iff]
  constructor
  · rintro ⟨n, hn⟩
    cases n with
    | zero => simp [z_run] at hn
    | succ n =>
      unfold z_run at hn
      rw [h] at hn
      simp at hn
  · intro e; cases e
/-- what comes behind a call -/
def z_bd (a : Option z_A) (f : Int32 → z_H → Option z_A) : Option z_A := match a with
  | none => none
  | some (r, h) => f r h
theorem z_bd_some (r : Int32) (h : z_H) (f : Int32 → z_H → Option z_A) : z_bd (some (r, h)) f = f r h := rfl
theorem z_bd_none (f : Int32 → z_H → Option z_A) : z_bd none f = none := rfl
theorem z_X_call {C : z_C} {ρ : Nat} {s s' : z_S} {id c : Nat} {a : List Value} (h : z_step C s = some (.inr (.inr (id, a, c, s')))) (hr : z_rank id a < ρ ∧ z_cat a ≤ z_ml id) : z_X C ρ s = z_bd (z_M id a s'.2.2.2) (fun r h' => z_X C ρ (z_ret c r s' h')) := by
  apply z_opt_ext
  intro r
  rw [z_X_iff]
  constructor
  · rintro ⟨n, hn⟩
    cases n with
    | zero => simp [z_run] at hn
    | succ n =>
      unfold z_run at hn
      rw [h] at hn
      simp only [if_pos hr] at hn
      cases hq : z_ev (n + 1) id a s'.2.2.2 with
      | none => rw [hq] at hn; simp at hn
      | some q =>
        obtain ⟨v, h'⟩ := q
        rw [hq] at hn
        rw [z_M_iff.mpr ⟨n + 1, hq⟩]
        show z_X C ρ (z_ret c v s' h') = some r
        rw [z_X_iff]
        exact ⟨n + 1, z_run_mono (fun _ _ _ _ e => e) n (n + 1) _ _ (by omega) hn⟩
  · intro e
    cases hq : z_M id a s'.2.2.2 with
    | none => rw [hq] at e; cases e
    | some q =>
      obtain ⟨v, h'⟩ := q
      rw [hq] at e
      have e' : z_X C ρ (z_ret c v s' h') = some r := e
      rw [z_X_iff] at e'
      rw [z_M_iff] at hq
      obtain ⟨n, hn⟩ := hq
      obtain ⟨m, hm⟩ := e'
      refine ⟨n + m + 1, ?_⟩
      unfold z_run
      rw [h]
      simp only [if_pos hr]
      rw [z_ev_mono n (n + m + 1) _ _ _ _ (by omega) hn]
      exact z_run_mono (fun id a h r e => z_ev_mono m (n + m + 1) id a h r (by omega) e) m (n + m) _ _ (by omega) hm
theorem z_M_eq {id : Nat} {a : List Value} {h : z_H} (hid : ¬ 900 ≤ id) : z_M id a h = z_X (z_code id) (z_rank id a) (0, lv_args 0 a, [], h) := by
  apply z_opt_ext
  intro r
  rw [z_M_iff, z_X_iff]
  constructor
  · rintro ⟨n, hn⟩
    cases n with
    | zero => simp [z_ev] at hn
    | succ n =>
      unfold z_ev at hn
      rw [if_neg hid] at hn
      exact ⟨n, hn⟩
  · rintro ⟨n, hn⟩
    exact ⟨n + 1, by unfold z_ev; rw [if_neg hid]; exact hn⟩
theorem z_M_prim {id : Nat} {a : List Value} {h : z_H} (hid : 900 ≤ id) : z_M id a h = z_prim id a h := by
  apply z_opt_ext
  intro r
  rw [z_M_iff]
  constructor
  · rintro ⟨n, hn⟩
    cases n with
    | zero => simp [z_ev] at hn
    | succ n =>
      unfold z_ev at hn
      rw [if_pos hid] at hn
      exact hn
  · intro e
    exact ⟨1, by unfold z_ev; rw [if_pos hid]; exact e⟩
def z_steps (C : z_C) : Nat → z_S → Option z_S
  | 0, s => some s
  | k + 1, s => match z_step C s with
    | some (.inl s') => z_steps C k s'
    | _ => none
theorem z_X_steps {C : z_C} {ρ : Nat} (k : Nat) : ∀ {s s' : z_S}, z_steps C k s = some s' → z_X C ρ s = z_X C ρ s' := by
  induction k with
  | zero => intro s s' h; rw [Option.some.inj h]
  | succ k ih =>
    intro s s' h
    unfold z_steps at h
    split at h
    · rename_i s1 e
      rw [z_X_step e]
      exact ih h
    · cases h
theorem z_X_br {C : z_C} {ρ : Nat} {s s1 s2 : z_S} {c : Prop} [Decidable c] (h : z_step C s = some (.inl (if c then s1 else s2))) : z_X C ρ s = if c then z_X C ρ s1 else z_X C ρ s2 := by
  rw [z_X_step h]
  split <;> rfl
theorem z_X_if {C : z_C} {ρ : Nat} {s s' : z_S} {g : Bool} (h : z_step C s = z_if g (some (.inl s'))) : z_X C ρ s = bif g then z_X C ρ s' else none := by
  cases g with
  | true => exact z_X_step h
  | false => exact z_X_none h
theorem z_X_lab {C : z_C} {ρ : Nat} {s s' : z_S} (h : z_step C s = z_step C s') : z_X C ρ s = z_X C ρ s' := by
  apply z_opt_ext
  intro r
  rw [z_X_iff, z_X_iff]
  constructor <;>
  · rintro ⟨n, hn⟩
    refine ⟨n, ?_⟩
    cases n with
    | zero => simp [z_run] at hn
    | succ n =>
      unfold z_run at hn ⊢
      first | rw [h] at hn; exact hn | rw [← h] at hn; exact hn
end
section
/-! the classes of the objects: names, fields, their words -/
def z_F0 : u_T := fun k => match k with
  | 0 => ("TestChoice", "tape", "LTestChoice$Tape;", true)
  | 1 => ("TestChoice", "reader", "LTestChoice$Reader;", true)
  | 2 => ("TestChoice", "old", "LTestChoice$Program;", true)
  | 3 => ("TestChoice", "now", "LTestChoice$Program;", true)
  | 4 => ("TestChoice", "tests", "LTestChoice$Tests;", true)
  | 5 => ("TestChoice", "run", "LTestChoice$Run;", true)
  | 6 => ("TestChoice", "danger", "LTestChoice$Danger;", true)
  | 7 => ("TestChoice", "choice", "LTestChoice$Choice;", true)
  | 8 => ("TestChoice", "images", "[LTestChoice$Image;", true)
  | 9 => ("TestChoice", "sheets", "[LTestChoice$Sheet;", true)
  | 10 => ("TestChoice", "textFault", "I", false)
  | _ => ("TestChoice", "readFault", "I", false)
def z_T0 : Nat → FieldType := fun k => match k with
  | 0 => .object "TestChoice$Tape"
  | 1 => .object "TestChoice$Reader"
  | 2 => .object "TestChoice$Program"
  | 3 => .object "TestChoice$Program"
  | 4 => .object "TestChoice$Tests"
  | 5 => .object "TestChoice$Run"
  | 6 => .object "TestChoice$Danger"
  | 7 => .object "TestChoice$Choice"
  | 8 => .array (.object "TestChoice$Image")
  | 9 => .array (.object "TestChoice$Sheet")
  | 10 => .int
  | _ => .int
def z_F1 : u_T := fun k => match k with
  | 0 => ("TestChoice$Tape", "length", "I", false)
  | 1 => ("TestChoice$Tape", "token", "I", false)
  | 2 => ("TestChoice$Tape", "start", "I", false)
  | 3 => ("TestChoice$Tape", "value", "I", false)
  | 4 => ("TestChoice$Tape", "behind", "I", false)
  | _ => ("TestChoice$Tape", "bytes", "[B", true)
def z_T1 : Nat → FieldType := fun k => match k with
  | 0 => .int
  | 1 => .int
  | 2 => .int
  | 3 => .int
  | 4 => .int
  | _ => .array .byte
def z_F2 : u_T := fun k => match k with
  | 0 => ("TestChoice$Reader", "fault", "I", false)
  | 1 => ("TestChoice$Reader", "place", "I", false)
  | 2 => ("TestChoice$Reader", "lines", "I", false)
  | 3 => ("TestChoice$Reader", "draft", "LTestChoice$Program;", true)
  | 4 => ("TestChoice$Reader", "drafted", "LTestChoice$Tests;", true)
  | 5 => ("TestChoice$Reader", "tape", "LTestChoice$Tape;", true)
  | 6 => ("TestChoice$Reader", "arguments", "[I", true)
  | 7 => ("TestChoice$Reader", "latestClass", "I", false)
  | _ => ("TestChoice$Reader", "latestMethod", "I", false)
def z_T2 : Nat → FieldType := fun k => match k with
  | 0 => .int
  | 1 => .int
  | 2 => .int
  | 3 => .object "TestChoice$Program"
  | 4 => .object "TestChoice$Tests"
  | 5 => .object "TestChoice$Tape"
  | 6 => .array .int
  | 7 => .int
  | _ => .int
def z_F3 : u_T := fun k => match k with
  | 0 => ("TestChoice$Program", "methods", "I", false)
  | 1 => ("TestChoice$Program", "classes", "I", false)
  | 2 => ("TestChoice$Program", "nodes", "[I", true)
  | 3 => ("TestChoice$Program", "kinds", "[I", true)
  | 4 => ("TestChoice$Program", "numbers", "[I", true)
  | 5 => ("TestChoice$Program", "ways", "[I", true)
  | 6 => ("TestChoice$Program", "leads", "[I", true)
  | 7 => ("TestChoice$Program", "under", "[I", true)
  | _ => ("TestChoice$Program", "owned", "[I", true)
def z_T3 : Nat → FieldType := fun k => match k with
  | 0 => .int
  | 1 => .int
  | 2 => .array .int
  | 3 => .array .int
  | 4 => .array .int
  | 5 => .array .int
  | 6 => .array .int
  | 7 => .array .int
  | _ => .array .int
def z_F4 : u_T := fun k => match k with
  | 0 => ("TestChoice$Tests", "size", "I", false)
  | 1 => ("TestChoice$Tests", "classes", "[I", true)
  | 2 => ("TestChoice$Tests", "decisions", "[I", true)
  | _ => ("TestChoice$Tests", "costs", "[I", true)
def z_T4 : Nat → FieldType := fun k => match k with
  | 0 => .int
  | 1 => .array .int
  | 2 => .array .int
  | _ => .array .int
def z_F5 : u_T := fun k => match k with
  | 0 => ("TestChoice$Run", "words", "I", false)
  | 1 => ("TestChoice$Run", "steps", "I", false)
  | 2 => ("TestChoice$Run", "gone", "LTestChoice$EdgeSet;", true)
  | 3 => ("TestChoice$Run", "program", "LTestChoice$Program;", false)
  | 4 => ("TestChoice$Run", "byClass", "I", false)
  | 5 => ("TestChoice$Run", "decisions", "I", false)
  | 6 => ("TestChoice$Run", "asked", "I", false)
  | _ => ("TestChoice$Run", "cutOff", "Z", false)
def z_T5 : Nat → FieldType := fun k => match k with
  | 0 => .int
  | 1 => .int
  | 2 => .object "TestChoice$EdgeSet"
  | 3 => .object "TestChoice$Program"
  | 4 => .int
  | 5 => .int
  | 6 => .int
  | _ => .boolean
def z_F6 : u_T := fun k => match k with
  | _ => ("TestChoice$EdgeSet", "rows", "[J", true)
def z_T6 : Nat → FieldType := fun k => match k with
  | _ => .array .long
def z_F7 : u_T := fun k => match k with
  | 0 => ("TestChoice$Danger", "edges", "LTestChoice$EdgeSet;", true)
  | 1 => ("TestChoice$Danger", "old", "LTestChoice$Program;", true)
  | 2 => ("TestChoice$Danger", "now", "LTestChoice$Program;", true)
  | 3 => ("TestChoice$Danger", "paired", "[I", true)
  | 4 => ("TestChoice$Danger", "pairs", "[I", true)
  | _ => ("TestChoice$Danger", "found", "I", false)
def z_T7 : Nat → FieldType := fun k => match k with
  | 0 => .object "TestChoice$EdgeSet"
  | 1 => .object "TestChoice$Program"
  | 2 => .object "TestChoice$Program"
  | 3 => .array .int
  | 4 => .array .int
  | _ => .int
def z_F8 : u_T := fun k => match k with
  | 0 => ("TestChoice$Choice", "chosen", "I", false)
  | 1 => ("TestChoice$Choice", "ranked", "[I", true)
  | 2 => ("TestChoice$Choice", "gains", "[I", true)
  | 3 => ("TestChoice$Choice", "rankOf", "[I", true)
  | 4 => ("TestChoice$Choice", "covered", "[LTestChoice$EdgeSet;", true)
  | 5 => ("TestChoice$Choice", "left", "LTestChoice$EdgeSet;", true)
  | 6 => ("TestChoice$Choice", "any", "LTestChoice$EdgeSet;", true)
  | 7 => ("TestChoice$Choice", "old", "LTestChoice$Program;", true)
  | 8 => ("TestChoice$Choice", "tests", "LTestChoice$Tests;", true)
  | 9 => ("TestChoice$Choice", "danger", "LTestChoice$Danger;", true)
  | _ => ("TestChoice$Choice", "run", "LTestChoice$Run;", true)
def z_T8 : Nat → FieldType := fun k => match k with
  | 0 => .int
  | 1 => .array .int
  | 2 => .array .int
  | 3 => .array .int
  | 4 => .array (.object "TestChoice$EdgeSet")
  | 5 => .object "TestChoice$EdgeSet"
  | 6 => .object "TestChoice$EdgeSet"
  | 7 => .object "TestChoice$Program"
  | 8 => .object "TestChoice$Tests"
  | 9 => .object "TestChoice$Danger"
  | _ => .object "TestChoice$Run"
def z_F9 : u_T := fun k => match k with
  | 0 => ("TestChoice$Image", "there", "Z", false)
  | 1 => ("TestChoice$Image", "wasOld", "LTestChoice$Program;", true)
  | 2 => ("TestChoice$Image", "wasNow", "LTestChoice$Program;", true)
  | _ => ("TestChoice$Image", "tests", "LTestChoice$Tests;", true)
def z_T9 : Nat → FieldType := fun k => match k with
  | 0 => .boolean
  | 1 => .object "TestChoice$Program"
  | 2 => .object "TestChoice$Program"
  | _ => .object "TestChoice$Tests"
def z_F10 : u_T := fun k => match k with
  | 0 => ("TestChoice$Sheet", "there", "Z", false)
  | 1 => ("TestChoice$Sheet", "size", "I", false)
  | 2 => ("TestChoice$Sheet", "lane", "I", false)
  | _ => ("TestChoice$Sheet", "cells", "[I", true)
def z_T10 : Nat → FieldType := fun k => match k with
  | 0 => .boolean
  | 1 => .int
  | 2 => .int
  | _ => .array .int
def z_F11 : u_T := fun k => match k with
  | 0 => ("TestChoiceModel", "st", "[I", true)
  | 1 => ("TestChoiceModel", "kept", "[I", true)
  | 2 => ("TestChoiceModel", "isKept", "[Z", true)
  | 3 => ("TestChoiceModel", "draft", "[I", true)
  | 4 => ("TestChoiceModel", "highClass", "I", false)
  | 5 => ("TestChoiceModel", "highMethod", "I", false)
  | 6 => ("TestChoiceModel", "tape", "[I", true)
  | 7 => ("TestChoiceModel", "taped", "I", false)
  | 8 => ("TestChoiceModel", "pos", "I", false)
  | 9 => ("TestChoiceModel", "begun", "I", false)
  | 10 => ("TestChoiceModel", "sort", "I", false)
  | 11 => ("TestChoiceModel", "figure", "I", false)
  | 12 => ("TestChoiceModel", "fault", "I", false)
  | 13 => ("TestChoiceModel", "wrongAt", "I", false)
  | 14 => ("TestChoiceModel", "heapMethod", "[I", true)
  | 15 => ("TestChoiceModel", "heapNode", "[I", true)
  | 16 => ("TestChoiceModel", "isCovered", "[Z", true)
  | 17 => ("TestChoiceModel", "heapHigh", "I", false)
  | 18 => ("TestChoiceModel", "runNodes", "I", false)
  | 19 => ("TestChoiceModel", "runSaid", "I", false)
  | 20 => ("TestChoiceModel", "runBits", "I", false)
  | 21 => ("TestChoiceModel", "isOver", "Z", false)
  | 22 => ("TestChoiceModel", "isDanger", "[Z", true)
  | 23 => ("TestChoiceModel", "isPair", "[Z", true)
  | 24 => ("TestChoiceModel", "isMet", "[Z", true)
  | 25 => ("TestChoiceModel", "isOrdered", "[Z", true)
  | 26 => ("TestChoiceModel", "sequence", "[I", true)
  | 27 => ("TestChoiceModel", "sequenceNew", "[I", true)
  | 28 => ("TestChoiceModel", "chosenMany", "I", false)
  | 29 => ("TestChoiceModel", "lanes", "[I", true)
  | 30 => ("TestChoiceModel", "sizes", "[I", true)
  | 31 => ("TestChoiceModel", "cells", "[I", true)
  | 32 => ("TestChoiceModel", "before", "[I", true)
  | _ => ("TestChoiceModel", "torn", "I", false)
def z_T11 : Nat → FieldType := fun k => match k with
  | 0 => .array .int
  | 1 => .array .int
  | 2 => .array .boolean
  | 3 => .array .int
  | 4 => .int
  | 5 => .int
  | 6 => .array .int
  | 7 => .int
  | 8 => .int
  | 9 => .int
  | 10 => .int
  | 11 => .int
  | 12 => .int
  | 13 => .int
  | 14 => .array .int
  | 15 => .array .int
  | 16 => .array .boolean
  | 17 => .int
  | 18 => .int
  | 19 => .int
  | 20 => .int
  | 21 => .boolean
  | 22 => .array .boolean
  | 23 => .array .boolean
  | 24 => .array .boolean
  | 25 => .array .boolean
  | 26 => .array .int
  | 27 => .array .int
  | 28 => .int
  | 29 => .array .int
  | 30 => .array .int
  | 31 => .array .int
  | 32 => .array .int
  | _ => .int
def z_cl : List vw_C := [("TestChoice", z_F0, 12), ("TestChoice$Tape", z_F1, 6), ("TestChoice$Reader", z_F2, 9), ("TestChoice$Program", z_F3, 9), ("TestChoice$Tests", z_F4, 4), ("TestChoice$Run", z_F5, 8), ("TestChoice$EdgeSet", z_F6, 1), ("TestChoice$Danger", z_F7, 6), ("TestChoice$Choice", z_F8, 11), ("TestChoice$Image", z_F9, 4), ("TestChoice$Sheet", z_F10, 4), ("TestChoiceModel", z_F11, 34)]
def z_clT : List (Nat → FieldType) := [z_T0, z_T1, z_T2, z_T3, z_T4, z_T5, z_T6, z_T7, z_T8, z_T9, z_T10, z_T11]
def z_ft (c k : Nat) : Nat := match c with
  | 1 => (349525 >>> (2 * k)) % 4
  | 2 => (1024 >>> (2 * k)) % 4
  | 3 => (5440 >>> (2 * k)) % 4
  | 4 => (87376 >>> (2 * k)) % 4
  | 5 => (84 >>> (2 * k)) % 4
  | 6 => (49296 >>> (2 * k)) % 4
  | 7 => (1 >>> (2 * k)) % 4
  | 8 => (341 >>> (2 * k)) % 4
  | 9 => (1398100 >>> (2 * k)) % 4
  | 10 => (87 >>> (2 * k)) % 4
  | 11 => (67 >>> (2 * k)) % 4
  | 12 => (24523608506622808149 >>> (2 * k)) % 4
  | _ => 0
theorem z_n0 : ∀ a, a < 12 → ∀ b, b < 12 → a ≠ b → (z_F0 a).2.1 ≠ (z_F0 b).2.1 := by decide +kernel
theorem z_t0 : ∀ k, k < 12 → parseFieldDescriptor (z_F0 k).2.2.1 = some (z_T0 k) := by decide +kernel
theorem z_il0 : ∀ w ∈ u_ws "TestChoice" z_F0 12, w ∈ lw_tbl := by decide +kernel
theorem z_n1 : ∀ a, a < 6 → ∀ b, b < 6 → a ≠ b → (z_F1 a).2.1 ≠ (z_F1 b).2.1 := by decide +kernel
theorem z_t1 : ∀ k, k < 6 → parseFieldDescriptor (z_F1 k).2.2.1 = some (z_T1 k) := by decide +kernel
theorem z_il1 : ∀ w ∈ u_ws "TestChoice$Tape" z_F1 6, w ∈ lw_tbl := by decide +kernel
theorem z_n2 : ∀ a, a < 9 → ∀ b, b < 9 → a ≠ b → (z_F2 a).2.1 ≠ (z_F2 b).2.1 := by decide +kernel
theorem z_t2 : ∀ k, k < 9 → parseFieldDescriptor (z_F2 k).2.2.1 = some (z_T2 k) := by decide +kernel
theorem z_il2 : ∀ w ∈ u_ws "TestChoice$Reader" z_F2 9, w ∈ lw_tbl := by decide +kernel
theorem z_n3 : ∀ a, a < 9 → ∀ b, b < 9 → a ≠ b → (z_F3 a).2.1 ≠ (z_F3 b).2.1 := by decide +kernel
theorem z_t3 : ∀ k, k < 9 → parseFieldDescriptor (z_F3 k).2.2.1 = some (z_T3 k) := by decide +kernel
theorem z_il3 : ∀ w ∈ u_ws "TestChoice$Program" z_F3 9, w ∈ lw_tbl := by decide +kernel
theorem z_n4 : ∀ a, a < 4 → ∀ b, b < 4 → a ≠ b → (z_F4 a).2.1 ≠ (z_F4 b).2.1 := by decide +kernel
theorem z_t4 : ∀ k, k < 4 → parseFieldDescriptor (z_F4 k).2.2.1 = some (z_T4 k) := by decide +kernel
theorem z_il4 : ∀ w ∈ u_ws "TestChoice$Tests" z_F4 4, w ∈ lw_tbl := by decide +kernel
theorem z_n5 : ∀ a, a < 8 → ∀ b, b < 8 → a ≠ b → (z_F5 a).2.1 ≠ (z_F5 b).2.1 := by decide +kernel
theorem z_t5 : ∀ k, k < 8 → parseFieldDescriptor (z_F5 k).2.2.1 = some (z_T5 k) := by decide +kernel
theorem z_il5 : ∀ w ∈ u_ws "TestChoice$Run" z_F5 8, w ∈ lw_tbl := by decide +kernel
theorem z_n6 : ∀ a, a < 1 → ∀ b, b < 1 → a ≠ b → (z_F6 a).2.1 ≠ (z_F6 b).2.1 := by decide +kernel
theorem z_t6 : ∀ k, k < 1 → parseFieldDescriptor (z_F6 k).2.2.1 = some (z_T6 k) := by decide +kernel
theorem z_il6 : ∀ w ∈ u_ws "TestChoice$EdgeSet" z_F6 1, w ∈ lw_tbl := by decide +kernel
theorem z_n7 : ∀ a, a < 6 → ∀ b, b < 6 → a ≠ b → (z_F7 a).2.1 ≠ (z_F7 b).2.1 := by decide +kernel
theorem z_t7 : ∀ k, k < 6 → parseFieldDescriptor (z_F7 k).2.2.1 = some (z_T7 k) := by decide +kernel
theorem z_il7 : ∀ w ∈ u_ws "TestChoice$Danger" z_F7 6, w ∈ lw_tbl := by decide +kernel
theorem z_n8 : ∀ a, a < 11 → ∀ b, b < 11 → a ≠ b → (z_F8 a).2.1 ≠ (z_F8 b).2.1 := by decide +kernel
theorem z_t8 : ∀ k, k < 11 → parseFieldDescriptor (z_F8 k).2.2.1 = some (z_T8 k) := by decide +kernel
theorem z_il8 : ∀ w ∈ u_ws "TestChoice$Choice" z_F8 11, w ∈ lw_tbl := by decide +kernel
theorem z_n9 : ∀ a, a < 4 → ∀ b, b < 4 → a ≠ b → (z_F9 a).2.1 ≠ (z_F9 b).2.1 := by decide +kernel
theorem z_t9 : ∀ k, k < 4 → parseFieldDescriptor (z_F9 k).2.2.1 = some (z_T9 k) := by decide +kernel
theorem z_il9 : ∀ w ∈ u_ws "TestChoice$Image" z_F9 4, w ∈ lw_tbl := by decide +kernel
theorem z_n10 : ∀ a, a < 4 → ∀ b, b < 4 → a ≠ b → (z_F10 a).2.1 ≠ (z_F10 b).2.1 := by decide +kernel
theorem z_t10 : ∀ k, k < 4 → parseFieldDescriptor (z_F10 k).2.2.1 = some (z_T10 k) := by decide +kernel
theorem z_il10 : ∀ w ∈ u_ws "TestChoice$Sheet" z_F10 4, w ∈ lw_tbl := by decide +kernel
theorem z_n11 : ∀ a, a < 34 → ∀ b, b < 34 → a ≠ b → (z_F11 a).2.1 ≠ (z_F11 b).2.1 := by decide +kernel
theorem z_t11 : ∀ k, k < 34 → parseFieldDescriptor (z_F11 k).2.2.1 = some (z_T11 k) := by decide +kernel
theorem z_il11 : ∀ w ∈ u_ws "TestChoiceModel" z_F11 34, w ∈ lw_tbl := by decide +kernel
/-! the methods: name, bytes, locals, what they answer -/
abbrev z_Mt : Type := MethodName × ByteArray × Nat × Option FieldType
def z_mts : List z_Mt := [(⟨"TestChoice", "feed", "(I)I"⟩, prog_1_method_2_code, 2, some (.int)),
  (⟨"TestChoice", "end", "(I)I"⟩, prog_1_method_3_code, 3, some (.int)),
  (⟨"TestChoice", "text", "()I"⟩, prog_1_method_4_code, 2, some (.int)),
  (⟨"TestChoice", "fault", "()I"⟩, prog_1_method_5_code, 1, some (.int)),
  (⟨"TestChoice", "rule", "(I)I"⟩, prog_1_method_6_code, 2, some (.int)),
  (⟨"TestChoice", "node", "(III)I"⟩, prog_1_method_7_code, 4, some (.int)),
  (⟨"TestChoice", "meant", "(III)I"⟩, prog_1_method_8_code, 4, some (.int)),
  (⟨"TestChoice", "test", "(II)I"⟩, prog_1_method_9_code, 3, some (.int)),
  (⟨"TestChoice", "said", "(II)I"⟩, prog_1_method_10_code, 3, some (.int)),
  (⟨"TestChoice", "edge", "(II)I"⟩, prog_1_method_11_code, 3, some (.int)),
  (⟨"TestChoice", "covers", "(II)I"⟩, prog_1_method_12_code, 3, some (.int)),
  (⟨"TestChoice", "order", "(II)I"⟩, prog_1_method_13_code, 3, some (.int)),
  (⟨"TestChoice", "same", "(I)I"⟩, prog_1_method_14_code, 4, some (.int)),
  (⟨"TestChoice", "say", "(IIII)I"⟩, prog_1_method_15_code, 7, some (.int)),
  (⟨"TestChoice", "lead", "(IIII)I"⟩, prog_1_method_16_code, 6, some (.int)),
  (⟨"TestChoice", "nexts", "(III)I"⟩, prog_1_method_17_code, 5, some (.int)),
  (⟨"TestChoice", "has", "(III)I"⟩, prog_1_method_18_code, 5, some (.int)),
  (⟨"TestChoice", "take", "()I"⟩, prog_1_method_19_code, 2, some (.int)),
  (⟨"TestChoice", "leave", "()I"⟩, prog_1_method_20_code, 2, some (.int)),
  (⟨"TestChoice", "add", "(III)I"⟩, prog_1_method_21_code, 4, some (.int)),
  (⟨"TestChoice", "drop", "(I)I"⟩, prog_1_method_22_code, 2, some (.int)),
  (⟨"TestChoice", "draw", "(II)I"⟩, prog_1_method_23_code, 6, some (.int)),
  (⟨"TestChoice", "keep", "(I)I"⟩, prog_1_method_24_code, 3, some (.int)),
  (⟨"TestChoice", "back", "(I)I"⟩, prog_1_method_25_code, 2, some (.int)),
  (⟨"TestChoice", "sheet", "(III)I"⟩, prog_1_method_26_code, 4, some (.int)),
  (⟨"TestChoice", "lay", "(III)I"⟩, prog_1_method_27_code, 4, some (.int)),
  (⟨"TestChoice", "read", "(IIII)I"⟩, prog_1_method_28_code, 8, some (.int)),
  (⟨"TestChoice", "torn", "()I"⟩, prog_1_method_29_code, 1, some (.int)),
  (⟨"TestChoice", "count", "(I)I"⟩, prog_1_method_30_code, 2, some (.int)),
  (⟨"TestChoice", "programOf", "(I)LTestChoice$Program;"⟩, prog_1_method_31_code, 2, some (.object "TestChoice$Program")),
  (⟨"TestChoice", "runTest", "(LTestChoice$Program;I)V"⟩, prog_1_method_32_code, 3, none),
  (⟨"TestChoice", "edgesInDanger", "()I"⟩, prog_1_method_33_code, 1, some (.int)),
  (⟨"TestChoice", "saysTheSame", "(II)Z"⟩, prog_1_method_34_code, 4, some (.boolean)),
  (⟨"TestChoice", "testsThatSayOther", "()I"⟩, prog_1_method_35_code, 3, some (.int)),
  (⟨"TestChoice", "imagesKept", "()I"⟩, prog_1_method_36_code, 3, some (.int)),
  (⟨"TestChoice", "firstRefused", "(LTestChoice$Sheet;II)I"⟩, prog_1_method_37_code, 6, some (.int)),
  (⟨"TestChoice", "turnAll", "(LTestChoice$Sheet;II)V"⟩, prog_1_method_38_code, 6, none),
  (⟨"TestChoice", "isName", "(I)Z"⟩, prog_1_method_39_code, 1, some (.boolean)),
  (⟨"TestChoice", "isNode", "(II)Z"⟩, prog_1_method_40_code, 2, some (.boolean)),
  (⟨"TestChoice", "isImage", "(I)Z"⟩, prog_1_method_41_code, 1, some (.boolean)),
  (⟨"TestChoice", "isSheet", "(I)Z"⟩, prog_1_method_42_code, 1, some (.boolean)),
  (⟨"TestChoice", "isLane", "(I)Z"⟩, prog_1_method_43_code, 1, some (.boolean)),
  (⟨"TestChoice", "placeOf", "(II)I"⟩, prog_1_method_44_code, 2, some (.int)),
  (⟨"TestChoice", "edgeOfNext", "(III)I"⟩, prog_1_method_45_code, 3, some (.int)),
  (⟨"TestChoice", "edgeOfCall", "(II)I"⟩, prog_1_method_46_code, 2, some (.int)),
  (⟨"TestChoice$Tape", "append", "(I)V"⟩, prog_10_method_2_code, 2, none),
  (⟨"TestChoice$Tape", "rewind", "()V"⟩, prog_10_method_3_code, 1, none),
  (⟨"TestChoice$Tape", "advance", "()V"⟩, prog_10_method_4_code, 1, none),
  (⟨"TestChoice$Tape", "isWord", "(Ljava/lang/String;)Z"⟩, prog_10_method_5_code, 3, some (.boolean)),
  (⟨"TestChoice$Tape", "takeWord", "()V"⟩, prog_10_method_6_code, 1, none),
  (⟨"TestChoice$Tape", "takeNumber", "()V"⟩, prog_10_method_7_code, 1, none),
  (⟨"TestChoice$Tape", "isLetter", "(I)Z"⟩, prog_10_method_8_code, 1, some (.boolean)),
  (⟨"TestChoice$Tape", "isFigure", "(I)Z"⟩, prog_10_method_9_code, 1, some (.boolean)),
  (⟨"TestChoice$Reader", "readAll", "()V"⟩, prog_7_method_2_code, 2, none),
  (⟨"TestChoice$Reader", "fail", "(I)V"⟩, prog_7_method_3_code, 2, none),
  (⟨"TestChoice$Reader", "advance", "()V"⟩, prog_7_method_4_code, 1, none),
  (⟨"TestChoice$Reader", "readLine", "()V"⟩, prog_7_method_5_code, 2, none),
  (⟨"TestChoice$Reader", "lineOfWord", "()I"⟩, prog_7_method_6_code, 2, some (.int)),
  (⟨"TestChoice$Reader", "wordOf", "(I)Ljava/lang/String;"⟩, prog_7_method_7_code, 1, some (.object "java/lang/String")),
  (⟨"TestChoice$Reader", "hasRoomFor", "(I)Z"⟩, prog_7_method_8_code, 2, some (.boolean)),
  (⟨"TestChoice$Reader", "readRest", "(I)V"⟩, prog_7_method_9_code, 3, none),
  (⟨"TestChoice$Reader", "leastArguments", "(I)I"⟩, prog_7_method_10_code, 1, some (.int)),
  (⟨"TestChoice$Reader", "mostArguments", "(I)I"⟩, prog_7_method_11_code, 1, some (.int)),
  (⟨"TestChoice$Reader", "isWithin", "(III)Z"⟩, prog_7_method_12_code, 4, some (.boolean)),
  (⟨"TestChoice$Reader", "tell", "(II)V"⟩, prog_7_method_13_code, 3, none),
  (⟨"TestChoice$Reader", "tellNode", "(II)V"⟩, prog_7_method_14_code, 4, none),
  (⟨"TestChoice$Reader", "tellHas", "()V"⟩, prog_7_method_15_code, 1, none),
  (⟨"TestChoice$Reader", "tellsWhatIsNotThere", "()Z"⟩, prog_7_method_16_code, 1, some (.boolean)),
  (⟨"TestChoice$Program", "clear", "()V"⟩, prog_6_method_2_code, 1, none),
  (⟨"TestChoice$Program", "becomeAs", "(LTestChoice$Program;)V"⟩, prog_6_method_3_code, 2, none),
  (⟨"TestChoice$Program", "hasMethod", "(I)Z"⟩, prog_6_method_4_code, 2, some (.boolean)),
  (⟨"TestChoice$Program", "hasNode", "(II)Z"⟩, prog_6_method_5_code, 3, some (.boolean)),
  (⟨"TestChoice$Program", "hasNext", "(III)Z"⟩, prog_6_method_6_code, 4, some (.boolean)),
  (⟨"TestChoice$Program", "hasClass", "(I)Z"⟩, prog_6_method_7_code, 2, some (.boolean)),
  (⟨"TestChoice$Program", "hasEdge", "(I)Z"⟩, prog_6_method_8_code, 3, some (.boolean)),
  (⟨"TestChoice$Program", "nextOf", "(III)I"⟩, prog_6_method_9_code, 4, some (.int)),
  (⟨"TestChoice$Program", "mayTurn", "(IIII)Z"⟩, prog_6_method_10_code, 5, some (.boolean)),
  (⟨"TestChoice$Program", "turn", "(IIII)V"⟩, prog_6_method_11_code, 5, none),
  (⟨"TestChoice$Program", "widen", "(III)V"⟩, prog_6_method_12_code, 6, none),
  (⟨"TestChoice$Program", "meantBy", "(II)I"⟩, prog_6_method_13_code, 5, some (.int)),
  (⟨"TestChoice$Program", "partOf", "(III)I"⟩, prog_6_method_14_code, 5, some (.int)),
  (⟨"TestChoice$Program", "nodesOfAll", "()I"⟩, prog_6_method_15_code, 3, some (.int)),
  (⟨"TestChoice$Program", "nodesThatCall", "()I"⟩, prog_6_method_16_code, 4, some (.int)),
  (⟨"TestChoice$Program", "nodesOtherThan", "(LTestChoice$Program;)I"⟩, prog_6_method_17_code, 5, some (.int)),
  (⟨"TestChoice$Program", "isNodeAsIn", "(LTestChoice$Program;II)Z"⟩, prog_6_method_18_code, 5, some (.boolean)),
  (⟨"TestChoice$Program", "appendMethod", "()V"⟩, prog_6_method_19_code, 1, none),
  (⟨"TestChoice$Program", "appendNode", "(II)V"⟩, prog_6_method_20_code, 5, none),
  (⟨"TestChoice$Program", "appendNext", "(I)V"⟩, prog_6_method_21_code, 5, none),
  (⟨"TestChoice$Program", "appendClass", "(I)V"⟩, prog_6_method_22_code, 2, none),
  (⟨"TestChoice$Program", "leadsOnlyToNodes", "()Z"⟩, prog_6_method_23_code, 4, some (.boolean)),
  (⟨"TestChoice$Tests", "isThere", "(I)Z"⟩, prog_11_method_2_code, 2, some (.boolean)),
  (⟨"TestChoice$Tests", "isFull", "()Z"⟩, prog_11_method_3_code, 1, some (.boolean)),
  (⟨"TestChoice$Tests", "becomeAs", "(LTestChoice$Tests;)V"⟩, prog_11_method_4_code, 2, none),
  (⟨"TestChoice$Tests", "append", "(III)V"⟩, prog_11_method_5_code, 4, none),
  (⟨"TestChoice$Tests", "remove", "(I)V"⟩, prog_11_method_6_code, 3, none),
  (⟨"TestChoice$Run", "begin", "(LTestChoice$Program;II)V"⟩, prog_8_method_2_code, 4, none),
  (⟨"TestChoice$Run", "enter", "(II)V"⟩, prog_8_method_3_code, 5, none),
  (⟨"TestChoice$Run", "visit", "(III)I"⟩, prog_8_method_4_code, 6, some (.int)),
  (⟨"TestChoice$Run", "enterMeant", "(II)V"⟩, prog_8_method_5_code, 4, none),
  (⟨"TestChoice$Run", "goOn", "(III)I"⟩, prog_8_method_6_code, 5, some (.int)),
  (⟨"TestChoice$Run", "decide", "()I"⟩, prog_8_method_7_code, 2, some (.int)),
  (⟨"TestChoice$EdgeSet", "clear", "()V"⟩, prog_4_method_2_code, 1, none),
  (⟨"TestChoice$EdgeSet", "becomeAs", "(LTestChoice$EdgeSet;)V"⟩, prog_4_method_3_code, 2, none),
  (⟨"TestChoice$EdgeSet", "put", "(I)V"⟩, prog_4_method_4_code, 2, none),
  (⟨"TestChoice$EdgeSet", "putAll", "(LTestChoice$EdgeSet;)V"⟩, prog_4_method_5_code, 3, none),
  (⟨"TestChoice$EdgeSet", "takeOut", "(LTestChoice$EdgeSet;)V"⟩, prog_4_method_6_code, 3, none),
  (⟨"TestChoice$EdgeSet", "holds", "(I)I"⟩, prog_4_method_7_code, 2, some (.int)),
  (⟨"TestChoice$EdgeSet", "size", "()I"⟩, prog_4_method_8_code, 1, some (.int)),
  (⟨"TestChoice$EdgeSet", "sizeWithin", "(LTestChoice$EdgeSet;)I"⟩, prog_4_method_9_code, 4, some (.int)),
  (⟨"TestChoice$Danger", "compare", "()V"⟩, prog_3_method_2_code, 3, none),
  (⟨"TestChoice$Danger", "compareMethod", "(I)V"⟩, prog_3_method_3_code, 3, none),
  (⟨"TestChoice$Danger", "compareNexts", "(III)V"⟩, prog_3_method_4_code, 9, none),
  (⟨"TestChoice$Danger", "pairUp", "(III)Z"⟩, prog_3_method_5_code, 5, some (.boolean)),
  (⟨"TestChoice$Danger", "areAlike", "(II)Z"⟩, prog_3_method_6_code, 3, some (.boolean)),
  (⟨"TestChoice$Choice", "choose", "()V"⟩, prog_2_method_2_code, 2, none),
  (⟨"TestChoice$Choice", "tellTest", "(II)I"⟩, prog_2_method_3_code, 3, some (.int)),
  (⟨"TestChoice$Choice", "costOfChosen", "()I"⟩, prog_2_method_4_code, 3, some (.int)),
  (⟨"TestChoice$Choice", "testsOver", "(I)I"⟩, prog_2_method_5_code, 4, some (.int)),
  (⟨"TestChoice$Choice", "edgesOver", "()I"⟩, prog_2_method_6_code, 2, some (.int)),
  (⟨"TestChoice$Choice", "rankAll", "()V"⟩, prog_2_method_7_code, 3, none),
  (⟨"TestChoice$Choice", "nextOne", "()I"⟩, prog_2_method_8_code, 5, some (.int)),
  (⟨"TestChoice$Choice", "rank", "(I)V"⟩, prog_2_method_9_code, 2, none),
  (⟨"TestChoice$Sheet", "renew", "(II)V"⟩, prog_9_method_2_code, 3, none),
  (⟨"TestChoice$Sheet", "put", "(II)V"⟩, prog_9_method_3_code, 3, none),
  (⟨"TestChoice$Sheet", "cellAt", "(I)I"⟩, prog_9_method_4_code, 2, some (.int)),
  (⟨"TestChoice$Sheet", "faultAs", "(I)I"⟩, prog_9_method_5_code, 2, some (.int)),
  (⟨"TestChoice$Sheet", "wholeFrom", "(II)I"⟩, prog_9_method_6_code, 3, some (.int)),
  (⟨"TestChoiceModel", "in", "(JJJ)Z"⟩, prog_13_method_3_code, 6, some (.boolean)),
  (⟨"TestChoiceModel", "flag", "(Z)I"⟩, prog_13_method_4_code, 1, some (.int)),
  (⟨"TestChoiceModel", "nodeAt", "(III)I"⟩, prog_13_method_5_code, 3, some (.int)),
  (⟨"TestChoiceModel", "hasAt", "(III)I"⟩, prog_13_method_6_code, 3, some (.int)),
  (⟨"TestChoiceModel", "firstDraft", "()V"⟩, prog_13_method_7_code, 4, none),
  (⟨"TestChoiceModel", "keepDraft", "()V"⟩, prog_13_method_8_code, 2, none),
  (⟨"TestChoiceModel", "feed", "(I)I"⟩, prog_13_method_9_code, 2, some (.int)),
  (⟨"TestChoiceModel", "end", "(I)I"⟩, prog_13_method_10_code, 3, some (.int)),
  (⟨"TestChoiceModel", "requires", "(ZI)V"⟩, prog_13_method_11_code, 3, none),
  (⟨"TestChoiceModel", "byteAt", "(I)I"⟩, prog_13_method_12_code, 2, some (.int)),
  (⟨"TestChoiceModel", "is", "(IIIII)Z"⟩, prog_13_method_13_code, 6, some (.boolean)),
  (⟨"TestChoiceModel", "lineNow", "()I"⟩, prog_13_method_14_code, 1, some (.int)),
  (⟨"TestChoiceModel", "reads", "()V"⟩, prog_13_method_15_code, 2, none),
  (⟨"TestChoiceModel", "readNumber", "(III)I"⟩, prog_13_method_16_code, 5, some (.int)),
  (⟨"TestChoiceModel", "methodNow", "()I"⟩, prog_13_method_17_code, 1, some (.int)),
  (⟨"TestChoiceModel", "readNode", "(I)V"⟩, prog_13_method_18_code, 5, none),
  (⟨"TestChoiceModel", "readClass", "()I"⟩, prog_13_method_19_code, 2, some (.int)),
  (⟨"TestChoiceModel", "readHas", "()V"⟩, prog_13_method_20_code, 4, none),
  (⟨"TestChoiceModel", "readTest", "()V"⟩, prog_13_method_21_code, 2, none),
  (⟨"TestChoiceModel", "hasRoom", "(I)Z"⟩, prog_13_method_22_code, 2, some (.boolean)),
  (⟨"TestChoiceModel", "readLineOf", "(I)V"⟩, prog_13_method_23_code, 2, none),
  (⟨"TestChoiceModel", "readLine", "()V"⟩, prog_13_method_24_code, 2, none),
  (⟨"TestChoiceModel", "isWhole", "()Z"⟩, prog_13_method_25_code, 6, some (.boolean)),
  (⟨"TestChoiceModel", "text", "()I"⟩, prog_13_method_26_code, 3, some (.int)),
  (⟨"TestChoiceModel", "fault", "()I"⟩, prog_13_method_27_code, 1, some (.int)),
  (⟨"TestChoiceModel", "isMethod", "(I)Z"⟩, prog_13_method_28_code, 2, some (.boolean)),
  (⟨"TestChoiceModel", "isNode", "(II)Z"⟩, prog_13_method_29_code, 3, some (.boolean)),
  (⟨"TestChoiceModel", "isClass", "(I)Z"⟩, prog_13_method_30_code, 2, some (.boolean)),
  (⟨"TestChoiceModel", "isName", "(I)Z"⟩, prog_13_method_31_code, 1, some (.boolean)),
  (⟨"TestChoiceModel", "isTest", "(I)Z"⟩, prog_13_method_32_code, 2, some (.boolean)),
  (⟨"TestChoiceModel", "isPart", "(I)Z"⟩, prog_13_method_33_code, 1, some (.boolean)),
  (⟨"TestChoiceModel", "ofNode", "(IIII)I"⟩, prog_13_method_34_code, 5, some (.int)),
  (⟨"TestChoiceModel", "meantBy", "(III)I"⟩, prog_13_method_35_code, 5, some (.int)),
  (⟨"TestChoiceModel", "says", "(I)V"⟩, prog_13_method_36_code, 2, none),
  (⟨"TestChoiceModel", "goesTo", "(II)V"⟩, prog_13_method_37_code, 4, none),
  (⟨"TestChoiceModel", "comesBack", "()V"⟩, prog_13_method_38_code, 1, none),
  (⟨"TestChoiceModel", "enters", "(II)Z"⟩, prog_13_method_39_code, 3, some (.boolean)),
  (⟨"TestChoiceModel", "goesOn", "(II)V"⟩, prog_13_method_40_code, 9, none),
  (⟨"TestChoiceModel", "callsIn", "(II)Z"⟩, prog_13_method_41_code, 7, some (.boolean)),
  (⟨"TestChoiceModel", "runs", "(III)V"⟩, prog_13_method_42_code, 5, none),
  (⟨"TestChoiceModel", "ofTest", "(II)I"⟩, prog_13_method_43_code, 3, some (.int)),
  (⟨"TestChoiceModel", "runsTest", "(II)V"⟩, prog_13_method_44_code, 3, none),
  (⟨"TestChoiceModel", "areAlike", "(III)Z"⟩, prog_13_method_45_code, 6, some (.boolean)),
  (⟨"TestChoiceModel", "pairsOn", "(III)Z"⟩, prog_13_method_46_code, 9, some (.boolean)),
  (⟨"TestChoiceModel", "findPairs", "(I)V"⟩, prog_13_method_47_code, 4, none),
  (⟨"TestChoiceModel", "findDanger", "()V"⟩, prog_13_method_48_code, 3, none),
  (⟨"TestChoiceModel", "dangers", "()I"⟩, prog_13_method_49_code, 3, some (.int)),
  (⟨"TestChoiceModel", "dangersOf", "(IZ)I"⟩, prog_13_method_50_code, 5, some (.int)),
  (⟨"TestChoiceModel", "findOrder", "()V"⟩, prog_13_method_51_code, 6, none),
  (⟨"TestChoiceModel", "comesNext", "(II)V"⟩, prog_13_method_52_code, 4, none),
  (⟨"TestChoiceModel", "rankOf", "(I)I"⟩, prog_13_method_53_code, 3, some (.int)),
  (⟨"TestChoiceModel", "nodesOfAll", "()I"⟩, prog_13_method_54_code, 3, some (.int)),
  (⟨"TestChoiceModel", "costsChosen", "()I"⟩, prog_13_method_55_code, 3, some (.int)),
  (⟨"TestChoiceModel", "chosen", "()I"⟩, prog_13_method_56_code, 1, some (.int)),
  (⟨"TestChoiceModel", "areSame", "(II)Z"⟩, prog_13_method_57_code, 4, some (.boolean)),
  (⟨"TestChoiceModel", "others", "()I"⟩, prog_13_method_58_code, 3, some (.int)),
  (⟨"TestChoiceModel", "rule", "(I)I"⟩, prog_13_method_59_code, 2, some (.int)),
  (⟨"TestChoiceModel", "node", "(III)I"⟩, prog_13_method_60_code, 6, some (.int)),
  (⟨"TestChoiceModel", "meant", "(III)I"⟩, prog_13_method_61_code, 4, some (.int)),
  (⟨"TestChoiceModel", "coveredMany", "()I"⟩, prog_13_method_62_code, 3, some (.int)),
  (⟨"TestChoiceModel", "nodesRun", "(II)I"⟩, prog_13_method_63_code, 3, some (.int)),
  (⟨"TestChoiceModel", "coveredBy", "(I)I"⟩, prog_13_method_64_code, 2, some (.int)),
  (⟨"TestChoiceModel", "dangersBy", "(I)I"⟩, prog_13_method_65_code, 2, some (.int)),
  (⟨"TestChoiceModel", "test", "(II)I"⟩, prog_13_method_66_code, 3, some (.int)),
  (⟨"TestChoiceModel", "said", "(II)I"⟩, prog_13_method_67_code, 3, some (.int)),
  (⟨"TestChoiceModel", "isEdge", "(I)Z"⟩, prog_13_method_68_code, 4, some (.boolean)),
  (⟨"TestChoiceModel", "testsOver", "(I)I"⟩, prog_13_method_69_code, 4, some (.int)),
  (⟨"TestChoiceModel", "edge", "(II)I"⟩, prog_13_method_70_code, 3, some (.int)),
  (⟨"TestChoiceModel", "covers", "(II)I"⟩, prog_13_method_71_code, 3, some (.int)),
  (⟨"TestChoiceModel", "order", "(II)I"⟩, prog_13_method_72_code, 3, some (.int)),
  (⟨"TestChoiceModel", "same", "(I)I"⟩, prog_13_method_73_code, 4, some (.int)),
  (⟨"TestChoiceModel", "say", "(IIII)I"⟩, prog_13_method_74_code, 7, some (.int)),
  (⟨"TestChoiceModel", "lead", "(IIII)I"⟩, prog_13_method_75_code, 7, some (.int)),
  (⟨"TestChoiceModel", "nexts", "(III)I"⟩, prog_13_method_76_code, 7, some (.int)),
  (⟨"TestChoiceModel", "has", "(III)I"⟩, prog_13_method_77_code, 6, some (.int)),
  (⟨"TestChoiceModel", "becomes", "(II)I"⟩, prog_13_method_78_code, 5, some (.int)),
  (⟨"TestChoiceModel", "take", "()I"⟩, prog_13_method_79_code, 1, some (.int)),
  (⟨"TestChoiceModel", "leave", "()I"⟩, prog_13_method_80_code, 1, some (.int)),
  (⟨"TestChoiceModel", "comes", "(III)V"⟩, prog_13_method_81_code, 5, none),
  (⟨"TestChoiceModel", "add", "(III)I"⟩, prog_13_method_82_code, 4, some (.int)),
  (⟨"TestChoiceModel", "drop", "(I)I"⟩, prog_13_method_83_code, 3, some (.int)),
  (⟨"TestChoiceModel", "draw", "(II)I"⟩, prog_13_method_84_code, 6, some (.int)),
  (⟨"TestChoiceModel", "keep", "(I)I"⟩, prog_13_method_85_code, 4, some (.int)),
  (⟨"TestChoiceModel", "back", "(I)I"⟩, prog_13_method_86_code, 3, some (.int)),
  (⟨"TestChoiceModel", "isSheet", "(II)Z"⟩, prog_13_method_87_code, 2, some (.boolean)),
  (⟨"TestChoiceModel", "sheet", "(III)I"⟩, prog_13_method_88_code, 5, some (.int)),
  (⟨"TestChoiceModel", "lay", "(III)I"⟩, prog_13_method_89_code, 4, some (.int)),
  (⟨"TestChoiceModel", "read", "(IIII)I"⟩, prog_13_method_90_code, 11, some (.int)),
  (⟨"TestChoiceModel", "torn", "()I"⟩, prog_13_method_91_code, 1, some (.int)),
  (⟨"TestChoiceModel", "callsOld", "()I"⟩, prog_13_method_92_code, 4, some (.int)),
  (⟨"TestChoiceModel", "isOther", "(II)Z"⟩, prog_13_method_93_code, 5, some (.boolean)),
  (⟨"TestChoiceModel", "nodesOther", "()I"⟩, prog_13_method_94_code, 4, some (.int)),
  (⟨"TestChoiceModel", "edgesOver", "()I"⟩, prog_13_method_95_code, 3, some (.int)),
  (⟨"TestChoiceModel", "count", "(I)I"⟩, prog_13_method_96_code, 2, some (.int))]
def z_mtp : List z_Mt := [(⟨"java/util/Arrays", "fill", "([II)V"⟩, prog_20_method_103_code, 4, none),
  (⟨"java/util/Arrays", "fill", "([JJ)V"⟩, prog_20_method_101_code, 5, none),
  (⟨"java/lang/Math", "max", "(II)I"⟩, prog_15_method_65_code, 2, some (.int)),
  (⟨"java/lang/Math", "min", "(II)I"⟩, prog_15_method_69_code, 2, some (.int)),
  (⟨"java/lang/Long", "bitCount", "(J)I"⟩, prog_14_method_50_code, 2, some (.int)),
  (⟨"java/lang/String", "length", "()I"⟩, prog_16_method_54_code, 1, some (.int)),
  (⟨"java/lang/String", "charAt", "(I)C"⟩, prog_16_method_56_code, 2, some (.char))]
def z_mt0 : z_Mt := (⟨"", "", ""⟩, ⟨#[]⟩, 0, none)
def z_mt (id : Nat) : z_Mt := bif Nat.blt id 900 then z_mts.getD id z_mt0 else z_mtp.getD (id - 902) z_mt0
def z_good : List Cond := lw_tbl.filter goodWord
def z_ws (id : Nat) : List Cond := Cond.code (z_mt id).1 (z_mt id).2.1 (z_mt id).2.2.1 (z_mt id).2.2.2 :: z_good
end
section
/-! WHAT A PICTURE SAYS OF THE HEAP: G holds the address of object 0, the text constants' addresses, the numbers of the classes, of their fields' places, of the row classes -/
abbrev z_G : Type := Nat × (Nat → Nat) × (Nat → ClassId) × (Nat → Nat → Nat) × (Nat → ClassId)
def z_ad (G : z_G) (o : Nat) : Nat := bif Nat.blt o 141 then G.1 + o else G.2.1 o
def z_rv (G : z_G) (o : Nat) : Value := bif Nat.beq o 999 then .null else .ref (z_ad G o)
def z_up (G : z_G) : Value → Value
  | .ref o => z_rv G o
  | v => v
def z_ul (G : z_G) (l : z_L) : List (Nat × Value) := l.map (fun q => (q.1, z_up G q.2))
def z_fv (G : z_G) (h : z_H) (o k : Nat) : Value := match z_ft (z_K o) k with
  | 1 => z_rv G (z_R o k)
  | 2 => z_rv G h.2.2
  | _ => .int (h.1 o k)
def z_av (G : z_G) (h : z_H) (o k : Nat) : Value := bif Nat.beq (z_K o) 21 then .long (h.2.1 o k) else bif Nat.ble 24 (z_K o) then z_rv G (z_R o k) else .int (h.1 o k)
def z_ob (G : z_G) (h : z_H) (H : Heap) (o : Nat) : Prop :=
  (z_K o < 20 → ∃ cell : Cell, H[G.1 + o]? = some cell ∧ cell.cls = G.2.2.1 (z_K o - 1) ∧ cell.vm = .none ∧ ∀ k, k < z_N o → cell.slots[G.2.2.2.1 (z_K o - 1) k]? = some (z_fv G h o k)) ∧
  (20 ≤ z_K o → H[G.1 + o]? = some (arrV (G.2.2.2.2 (z_K o)) (z_N o) (z_av G h o)))
def z_Rep (G : z_G) (h : z_H) (H : Heap) : Prop := ∀ o, o < 141 → z_ob G h H o
def z_tys (G : z_G) : List (ClassId × FieldType) := [(G.2.2.2.2 20, .int), (G.2.2.2.2 21, .long), (G.2.2.2.2 22, .byte), (G.2.2.2.2 23, .boolean), (G.2.2.2.2 24, .object "TestChoice$EdgeSet"), (G.2.2.2.2 25, .object "TestChoice$Image"), (G.2.2.2.2 26, .object "TestChoice$Sheet")]
def z_word (s : Nat) : String := match s with
  | 0 => "method"
  | 1 => "say"
  | 2 => "call"
  | 3 => "class"
  | 4 => "has"
  | _ => "test"
def z_Kn (G : z_G) (U : State) : Prop := va_K (G.2.2.1, G.2.2.2.1) z_cl (z_tys G) U ∧ (∀ (a : String) (i : Nat) (x : MethodName) (h : String), Cond.methodLinkNest a i x h ∈ lw_tbl → va_Nw (.methodLinkNest a i x h) U) ∧ ∀ j, j < 6 → vk_R "TestChoice$Reader" (100 + 2 * j) (z_word j) (G.2.1 (1000 + j)) U
/-- the text constants themselves: old cells -/
def z_St (G : z_G) (U : State) (H : Heap) : Prop := ∃ adV : Nat → Nat, vk_S 6 [6, 3, 4, 5, 3, 4] ((List.range 6).map (fun j => z_txt (1000 + j))) (fun j => G.2.1 (1000 + j)) adV (fun q => G.1 ≤ q) U H ∧ va_Z "java/lang/String" "COMPACT_STRINGS" "Z" (.int 1) (fun q => G.1 ≤ q) U H ∧ va_Zq "jdk/internal/util/Preconditions" "SIOOBE_FORMATTER" "Ljava/util/function/BiFunction;" (fun q => G.1 ≤ q) U H
theorem z_Kn.warm {G : z_G} {s U : State} (hW : s.WarmedH U.vm) (h : z_Kn G s) : z_Kn G U := ⟨va_K.moved hW.alike h.1, fun a i x hh hm => va_Nw.warmM hW (h.2.1 a i x hh hm), fun j hj => vk_R.warm hW (h.2.2 j hj)⟩
theorem z_Kn.same {G : z_G} {s U : State} (hv : U.vm = s.vm) (h : z_Kn G s) : z_Kn G U := ⟨va_K.moved (u := s) (by rw [hv]; exact Vm.Alike.refl _) h.1, fun a i x hh hm => va_Nw.same rfl hv.symm (h.2.1 a i x hh hm), fun j hj => vk_R.same hv (h.2.2 j hj)⟩
theorem z_St.to {G : z_G} {s U : State} {H H1 : Heap} (hvm : s.vm.Alike U.vm) (hq : ∀ a : Nat, a < H.size → ¬ G.1 ≤ a → H1[a]? = H[a]?) (h : z_St G s H) : z_St G U H1 := by
  obtain ⟨adV, h, h2, h3⟩ := h
  exact ⟨adV, (h.kept hq).moved hvm, (h2.kept hq).moved hvm, (h3.kept hq).moved hvm⟩
def z_Fr (G : z_G) (s : State) (H : Heap) (locs : List Loc) : Prop := H.size = s.heap.size ∧ (∀ q, q < G.1 → H[q]? = s.heap[q]?) ∧ ∀ q ∈ locs, G.1 ≤ q.base
theorem z_Fr.put {G : z_G} {s : State} {H H1 : Heap} {locs : List Loc} {o k : Nat} (h : z_Fr G s H locs) (z : H1.size = H.size) (oq : ∀ q, q ≠ G.1 + o → H1[q]? = H[q]?) : z_Fr G s H1 (locs ++ [⟨G.1 + o, k⟩]) := by
  refine ⟨z.trans h.1, fun q hq => (oq q (by omega)).trans (h.2.1 q hq), fun q hq => ?_⟩
  rcases List.mem_append.mp hq with h1 | h1
  · exact h.2.2 q h1
  · rw [List.mem_singleton] at h1
    subst h1
    exact Nat.le_add_right _ _
theorem z_beqF {a b : Nat} (h : a ≠ b) : Nat.beq a b = false := by
  cases hb : Nat.beq a b with
  | false => rfl
  | true => exact absurd (Nat.eq_of_beq_eq_true hb) h
theorem z_beqT (a : Nat) : Nat.beq a a = true := Nat.beq_refl a
theorem z_beq {a b : Nat} (h : Nat.beq a b = true) : a = b := Nat.eq_of_beq_eq_true h
/-! the tables' own facts -/
theorem z_K_lt {o : Nat} (h : ¬ z_K o = 0) : o < 141 := by
  apply Decidable.byContradiction
  intro hn
  apply h
  have h1 : 2 ^ (8 * 141) ≤ 2 ^ (8 * o) := Nat.pow_le_pow_right (by decide) (by omega)
  have h2 : z_KT < 2 ^ (8 * 141) := by decide +kernel
  unfold z_K
  rw [Nat.shiftRight_eq_div_pow, Nat.div_eq_of_lt (Nat.lt_of_lt_of_le h2 h1)]
theorem z_K_cls : ∀ o, o < 141 → z_K o < 20 → 1 ≤ z_K o ∧ z_K o ≤ 12 ∧ z_N o = (z_cl.getD (z_K o - 1) ("", z_F0, 0)).2.2 := by decide +kernel
theorem z_K_row : ∀ o, o < 141 → 20 ≤ z_K o → z_K o ≤ 26 ∧ z_N o < 65536 := by decide +kernel
theorem z_R_ok : ∀ o, o < 141 → 24 ≤ z_K o → ∀ k, k < z_N o → z_R o k < 141 := by decide +kernel
theorem z_wI1 (h : z_H) (o k : Nat) (x : Int32) (o' k' : Nat) : (z_wI h o k x).1 o' k' = if o' = o ∧ k' = k then x else h.1 o' k' := by
  unfold z_wI
  by_cases h1 : o' = o
  · by_cases h2 : k' = k
    · simp [h1, h2]
    · have := z_beqF h2
      simp [h1, h2, this]
  · have := z_beqF h1
    simp [h1, this]
theorem z_wL1 (h : z_H) (o k : Nat) (x : Int64) (o' k' : Nat) : (z_wL h o k x).2.1 o' k' = if o' = o ∧ k' = k then x else h.2.1 o' k' := by
  unfold z_wL
  by_cases h1 : o' = o
  · by_cases h2 : k' = k
    · simp [h1, h2]
    · have := z_beqF h2
      simp [h1, h2, this]
  · have := z_beqF h1
    simp [h1, this]
/-- an object that isn't touched stays -/
theorem z_ob.other {G : z_G} {h h' : z_H} {H H1 : Heap} {o : Nat} (hO : z_ob G h H o) (hq : H1[G.1 + o]? = H[G.1 + o]?) (h1 : ∀ k, h'.1 o k = h.1 o k) (h2 : ∀ k, h'.2.1 o k = h.2.1 o k) (h3 : (∀ k, k < z_N o → z_ft (z_K o) k ≠ 2) ∨ h'.2.2 = h.2.2) : z_ob G h' H1 o := by
  refine ⟨fun hk => ?_, fun hk => ?_⟩
  · obtain ⟨cell, c1, c2, c3, c4⟩ := hO.1 hk
    refine ⟨cell, by rw [hq]; exact c1, c2, c3, fun k hkN => ?_⟩
    rw [c4 k hkN]
    unfold z_fv
    rcases h3 with h3 | h3
    · have := h3 k hkN
      split <;> first | rfl | (rename_i e; exact absurd e this) | (rw [h1])
    · split <;> first | rfl | (rw [h3]) | (rw [h1])
  · rw [hq, hO.2 hk]
    have : z_av G h o = z_av G h' o := by
      funext k
      unfold z_av
      rw [h1, h2]
    rw [this]
/-- an int place of an object is written -/
theorem z_Rep.fld {G : z_G} {h : z_H} {H H1 : Heap} {o k : Nat} {x : Int32} {cell : Cell} (hR : z_Rep G h H) (ho : o < 141) (hK : z_K o < 20) (hft : z_ft (z_K o) k ≠ 1 ∧ z_ft (z_K o) k ≠ 2)
    (hc : H[G.1 + o]? = some cell) (e1 : H1[G.1 + o]? = some (cell.setSlot (G.2.2.2.1 (z_K o - 1) k) (.int x))) (oq : ∀ q, q ≠ G.1 + o → H1[q]? = H[q]?) (hap : ∀ a b, a < z_N o → b < z_N o → a ≠ b → G.2.2.2.1 (z_K o - 1) a ≠ G.2.2.2.1 (z_K o - 1) b) (hk : k < z_N o) : z_Rep G (z_wI h o k x) H1 := by
  intro o' ho'
  by_cases he : o' = o
  · subst he
    refine ⟨fun _ => ?_, fun h20 => absurd h20 (by omega)⟩
    obtain ⟨cell', c1, c2, c3, c4⟩ := (hR o' ho').1 hK
    cases c1.symm.trans hc
    refine ⟨_, e1, c2, c3, fun j hj => ?_⟩
    rw [t_set (V := z_fv G h o') c4 hap hk (.int x) j hj]
    unfold updV z_fv
    by_cases hjk : j = k
    · subst hjk
      rw [if_pos rfl]
      have : (z_wI h o' j x).1 o' j = x := by rw [z_wI1]; simp
      split <;> first | (rename_i e; exact absurd e hft.1) | (rename_i e; exact absurd e hft.2) | (rw [this])
    · rw [if_neg hjk]
      have : (z_wI h o' k x).1 o' j = h.1 o' j := by rw [z_wI1]; simp [hjk]
      split <;> first | rfl | (rw [this])
  · exact (hR o' ho').other (oq _ (by omega)) (fun j => by rw [z_wI1]; simp [he]) (fun _ => rfl) (Or.inr rfl)
theorem z_arrStore (cA : ClassId) (N k : Nat) (f : Nat → Value) (x : Value) : (arrV cA N f).setSlot k x = arrV cA N (updV f k x) := arrV_store cA N k f x
/-- an int place of a row is written -/
theorem z_Rep.row {G : z_G} {h : z_H} {H H1 : Heap} {o k : Nat} {x : Int32} (hR : z_Rep G h H) (ho : o < 141) (hK : z_K o = 20 ∨ z_K o = 22 ∨ z_K o = 23)
    (e1 : H1[G.1 + o]? = some ((arrV (G.2.2.2.2 (z_K o)) (z_N o) (z_av G h o)).setSlot k (.int x))) (oq : ∀ q, q ≠ G.1 + o → H1[q]? = H[q]?) : z_Rep G (z_wI h o k x) H1 := by
  intro o' ho'
  by_cases he : o' = o
  · subst he
    refine ⟨fun h20 => absurd h20 (by omega), fun _ => ?_⟩
    rw [e1, arrV_store]
    have : updV (z_av G h o') k (.int x) = z_av G (z_wI h o' k x) o' := by
      funext j
      unfold updV z_av
      have a1 : Nat.beq (z_K o') 21 = false := z_beqF (by omega)
      have a2 : Nat.ble 24 (z_K o') = false := by
        cases hb : Nat.ble 24 (z_K o') with
        | false => rfl
        | true => have := Nat.le_of_ble_eq_true hb; omega
      rw [a1, a2]
      simp only [cond_false]
      rw [z_wI1]
      by_cases hjk : j = k
      · simp [hjk]
      · simp [hjk]
    rw [this]
  · exact (hR o' ho').other (oq _ (by omega)) (fun j => by rw [z_wI1]; simp [he]) (fun _ => rfl) (Or.inr rfl)
theorem z_Rep.rowL {G : z_G} {h : z_H} {H H1 : Heap} {o k : Nat} {x : Int64} (hR : z_Rep G h H) (ho : o < 141) (hK : z_K o = 21)
    (e1 : H1[G.1 + o]? = some ((arrV (G.2.2.2.2 (z_K o)) (z_N o) (z_av G h o)).setSlot k (.long x))) (oq : ∀ q, q ≠ G.1 + o → H1[q]? = H[q]?) : z_Rep G (z_wL h o k x) H1 := by
  intro o' ho'
  by_cases he : o' = o
  · subst he
    refine ⟨fun h20 => absurd h20 (by omega), fun _ => ?_⟩
    rw [e1, arrV_store]
    have : updV (z_av G h o') k (.long x) = z_av G (z_wL h o' k x) o' := by
      funext j
      unfold updV z_av
      have a1 : Nat.beq (z_K o') 21 = true := by rw [hK]; rfl
      rw [a1]
      simp only [cond_true]
      rw [z_wL1]
      by_cases hjk : j = k
      · simp [hjk]
      · simp [hjk]
    rw [this]
  · exact (hR o' ho').other (oq _ (by omega)) (fun _ => rfl) (fun j => by rw [z_wL1]; simp [he]) (Or.inr rfl)
/-! locals -/
theorem z_up_cat (G : z_G) (v : Value) : (z_up G v).category = v.category := by
  cases v <;> try rfl
  rename_i a
  show (z_rv G a).category = 1
  unfold z_rv
  cases Nat.beq a 999 <;> rfl
theorem z_get_mem {l : z_L} {a : Nat} {v : Value} (h : z_get l a = some v) : (a, v) ∈ l := by
  induction l with
  | nil => cases h
  | cons q r ih =>
    obtain ⟨i, w⟩ := q
    unfold z_get at h
    by_cases hi : i = a
    · subst hi
      rw [z_beqT] at h
      cases h
      exact List.mem_cons_self
    · rw [z_beqF hi] at h
      exact List.mem_cons_of_mem _ (ih h)
theorem z_ul_get {G : z_G} {l : z_L} {a : Nat} {v : Value} (h : z_get l a = some v) : ∃ k : Nat, (z_ul G l)[k]? = some (a, z_up G v) := List.getElem?_of_mem (List.mem_map.mpr ⟨_, z_get_mem h, rfl⟩)
theorem z_ul_put1 (G : z_G) (l : z_L) (i : Nat) (v : Value) : (i, z_up G v) :: (z_ul G l).filter (fun q => !(q.1 == i) && !(q.1 + 1 == i && q.2.category == 2)) = z_ul G (z_put1 l i v) := by
  unfold z_ul z_put1
  rw [List.map_cons, List.filter_map]
  congr 2
  apply List.filter_congr
  intro q _
  simp only [Function.comp, z_up_cat]
theorem z_ul_put2 (G : z_G) (l : z_L) (i : Nat) (v : Value) : (i, z_up G v) :: (z_ul G l).filter (fun q => !(q.1 == i) && (!(q.1 == i + 1) && !(q.1 + 1 == i && q.2.category == 2))) = z_ul G (z_put2 l i v) := by
  unfold z_ul z_put2
  rw [List.map_cons, List.filter_map]
  congr 2
  apply List.filter_congr
  intro q _
  simp only [Function.comp, z_up_cat]
theorem z_norm_has {G : z_G} {ls : Array Slot} {nL : Nat} {lab : Option (List Nat)} {l : z_L} (h : lv_has ls nL (z_ul G l)) : lv_has ls nL (z_ul G (z_norm lab l)) := by
  refine ⟨h.1, h.2.1, fun q hq => ?_⟩
  cases lab with
  | none => exact h.2.2 q hq
  | some L =>
    obtain ⟨w, hw, rfl⟩ := List.mem_map.mp hq
    obtain ⟨i, -, hi⟩ := List.mem_filterMap.mp hw
    cases hg : z_get l i with
    | none => rw [hg] at hi; cases hi
    | some v =>
      rw [hg] at hi
      cases hi
      exact h.2.2 (i, z_up G v) (List.mem_map.mpr ⟨_, z_get_mem hg, rfl⟩)
theorem z_lvargs (G : z_G) (vs : List Value) : ∀ i : Nat, lv_args i (vs.map (z_up G)) = z_ul G (lv_args i vs) := by
  induction vs with
  | nil => intro i; rfl
  | cons v r ih =>
    intro i
    simp only [List.map_cons, lv_args, z_ul, z_up_cat]
    rw [ih]
    rfl
end
section
/-! EACH INSTRUCTION, ONCE: if the small machine goes on from a state, so does the real one -/
def z_Go (p : Program) (l : Launch) (e : Env) (R : Room) (s : State) (m : MethodId) (args : Array Value) (below : List Frame) (meth : Method) (c : Code) (Q : State → Prop) (G : z_G) (nL : Nat) (pc : Nat) (lo : z_L) (st : List Value) (h : z_H) : Prop :=
  ∀ (ls : Array Slot) (H : Heap) (locs : List Loc), lv_has ls nL (z_ul G lo) → z_Rep G h H → z_Fr G s H locs → W p l e R s m args below meth c H locs 0 0 Q (F0 m pc ls (st.map (z_up G)))
theorem z_vin {j : Int32} {n : Nat} (h : z_in j n = true) : ¬ (j < 0 ∨ n ≤ j.toNatClampNeg) ∧ j.toNatClampNeg < n := by
  unfold z_in at h
  simp only [Bool.and_eq_true, Bool.not_eq_true', decide_eq_false_iff_not] at h
  have h2 : j.toNatClampNeg < n := Nat.le_of_ble_eq_true h.2
  exact ⟨fun q => q.elim h.1 (fun q => absurd h2 (by omega)), h2⟩
theorem z_ad_lt {G : z_G} {o : Nat} (h : o < 141) : z_ad G o = G.1 + o := by
  unfold z_ad
  have : Nat.blt o 141 = true := Nat.ble_eq_true_of_le h
  rw [this]; rfl
theorem z_up_ref {G : z_G} {o : Nat} (h : o ≠ 999) : z_up G (.ref o) = .ref (z_ad G o) := by
  show z_rv G o = _
  unfold z_rv
  rw [z_beqF h]; rfl
theorem z_up_obj {G : z_G} {o : Nat} (h : o < 141) : z_up G (.ref o) = .ref (G.1 + o) := by rw [z_up_ref (by omega), z_ad_lt h]
section ZST
variable {p : Program} {l : Launch} {e : Env} {R : Room} {s : State} {m : MethodId} {args : Array Value} {below : List Frame} {meth : Method} {c : Code} {Q : State → Prop}
variable {G : z_G} {nL : Nat} {cc : ByteArray} {pc : Nat} {lo : z_L} {st : List Value} {h : z_H}
theorem z_s_iconst (hx : p.tables.exec = Jvm.exec) (hb : c.code = cc) {n : Int} {v : Int32} (hd : decode cc pc = .ok (.iconst n, 1)) (hv : Int32.ofInt n = v) (k : z_Go p l e R s m args below meth c Q G nL (pc + 1) lo (.int v :: st) h) : z_Go p l e R s m args below meth c Q G nL pc lo st h :=
  fun ls H locs a b d => lv_iconst hx hb hd hv (k ls H locs a b d)
theorem z_s_bipush (hx : p.tables.exec = Jvm.exec) (hb : c.code = cc) {n : Int} {v : Int32} (hd : decode cc pc = .ok (.bipush n, 2)) (hv : (Int8.ofInt n).toInt32 = v) (k : z_Go p l e R s m args below meth c Q G nL (pc + 2) lo (.int v :: st) h) : z_Go p l e R s m args below meth c Q G nL pc lo st h :=
  fun ls H locs a b d => lv_bipush hx hb hd hv (k ls H locs a b d)
theorem z_s_sipush (hx : p.tables.exec = Jvm.exec) (hb : c.code = cc) {n : Int} {v : Int32} (hd : decode cc pc = .ok (.sipush n, 3)) (hv : (Int16.ofInt n).toInt32 = v) (k : z_Go p l e R s m args below meth c Q G nL (pc + 3) lo (.int v :: st) h) : z_Go p l e R s m args below meth c Q G nL pc lo st h :=
  fun ls H locs a b d => lv_sipush hx hb hd hv (k ls H locs a b d)
theorem z_s_lconst (hx : p.tables.exec = Jvm.exec) (hb : c.code = cc) {n : Fin 2} {v : Int64} (hd : decode cc pc = .ok (.lconst n, 1)) (hv : Int64.ofNat (n : Nat) = v) (k : z_Go p l e R s m args below meth c Q G nL (pc + 1) lo (.long v :: st) h) : z_Go p l e R s m args below meth c Q G nL pc lo st h :=
  fun ls H locs a b d => lv_lconst hx hb hd hv (k ls H locs a b d)
theorem z_s_ldc (hx : p.tables.exec = Jvm.exec) (hb : c.code = cc) {own : String} {i : Nat} {v : Int32} (hown : s.vm.findClass own = some m.cls) (hw : (Jvm.Cond.constant own i v).before args s = true) (hd : decode cc pc = .ok (.ldc i, 2)) (k : z_Go p l e R s m args below meth c Q G nL (pc + 2) lo (.int v :: st) h) : z_Go p l e R s m args below meth c Q G nL pc lo st h :=
  fun ls H locs a b d => lv_ldc hx hb hown hw hd (k ls H locs a b d)
theorem z_s_ldcw (hx : p.tables.exec = Jvm.exec) (hb : c.code = cc) {own : String} {i : Nat} {v : Int32} (hown : s.vm.findClass own = some m.cls) (hw : (Jvm.Cond.constant own i v).before args s = true) (hd : decode cc pc = .ok (.ldc_w i, 3)) (k : z_Go p l e R s m args below meth c Q G nL (pc + 3) lo (.int v :: st) h) : z_Go p l e R s m args below meth c Q G nL pc lo st h :=
  fun ls H locs a b d => lv_ldcw hx hb hown hw hd (k ls H locs a b d)
theorem z_s_ldc2 (hx : p.tables.exec = Jvm.exec) (hb : c.code = cc) {own : String} {i : Nat} {v : Int64} (hown : s.vm.findClass own = some m.cls) (hw : (Jvm.Cond.constantLong own i v).before args s = true) (hd : decode cc pc = .ok (.ldc2_w i, 3)) (k : z_Go p l e R s m args below meth c Q G nL (pc + 3) lo (.long v :: st) h) : z_Go p l e R s m args below meth c Q G nL pc lo st h :=
  fun ls H locs a b d => lv_ldc2 hx hb hown hw hd (k ls H locs a b d)
theorem z_s_ldcS (hx : p.tables.exec = Jvm.exec) (hb : c.code = cc) {own : String} {j : Nat} (ho : own = "TestChoice$Reader") (hj : j < 6) (hown : s.vm.findClass own = some m.cls) (hK : z_Kn G s) (hd : decode cc pc = .ok (.ldc (100 + 2 * j), 2)) (k : z_Go p l e R s m args below meth c Q G nL (pc + 2) lo (.ref (1000 + j) :: st) h) : z_Go p l e R s m args below meth c Q G nL pc lo st h := by
  intro ls H locs a b d
  subst ho
  refine va_ldcS hx hb hown (hK.2.2 j hj) hd ?_
  have h2 := k ls H locs a b d
  have e1 : z_up G (.ref (1000 + j)) = .ref (G.2.1 (1000 + j)) := by
    rw [z_up_ref (by omega)]
    unfold z_ad
    have : Nat.blt (1000 + j) 141 = false := by
      cases hb : Nat.blt (1000 + j) 141 with
      | false => rfl
      | true => have := Nat.le_of_ble_eq_true hb; omega
    rw [this]; rfl
  rw [List.map_cons, e1] at h2
  exact h2
theorem z_s_iload (hx : p.tables.exec = Jvm.exec) (hb : c.code = cc) {i : Nat} {x : Int32} (hg : z_get lo i = some (.int x)) (hd : decode cc pc = .ok (.iload i, 2)) (k : z_Go p l e R s m args below meth c Q G nL (pc + 2) lo (.int x :: st) h) : z_Go p l e R s m args below meth c Q G nL pc lo st h := by
  intro ls H locs a b d
  obtain ⟨q, hq⟩ := z_ul_get (G := G) hg
  exact lv_iload hx hb hd (lv_at a q hq) (k ls H locs a b d)
theorem z_s_iload_n (hx : p.tables.exec = Jvm.exec) (hb : c.code = cc) {i : Fin 4} {x : Int32} (hg : z_get lo (i : Nat) = some (.int x)) (hd : decode cc pc = .ok (.iload_n i, 1)) (k : z_Go p l e R s m args below meth c Q G nL (pc + 1) lo (.int x :: st) h) : z_Go p l e R s m args below meth c Q G nL pc lo st h := by
  intro ls H locs a b d
  obtain ⟨q, hq⟩ := z_ul_get (G := G) hg
  exact lv_iload_n hx hb hd rfl (lv_at a q hq) (k ls H locs a b d)
theorem z_s_lload (hx : p.tables.exec = Jvm.exec) (hb : c.code = cc) {i : Nat} {x : Int64} (hg : z_get lo i = some (.long x)) (hd : decode cc pc = .ok (.lload i, 2)) (k : z_Go p l e R s m args below meth c Q G nL (pc + 2) lo (.long x :: st) h) : z_Go p l e R s m args below meth c Q G nL pc lo st h := by
  intro ls H locs a b d
  obtain ⟨q, hq⟩ := z_ul_get (G := G) hg
  exact lv_lload hx hb hd (lv_at a q hq) (k ls H locs a b d)
theorem z_s_lload_n (hx : p.tables.exec = Jvm.exec) (hb : c.code = cc) {i : Fin 4} {x : Int64} (hg : z_get lo (i : Nat) = some (.long x)) (hd : decode cc pc = .ok (.lload_n i, 1)) (k : z_Go p l e R s m args below meth c Q G nL (pc + 1) lo (.long x :: st) h) : z_Go p l e R s m args below meth c Q G nL pc lo st h := by
  intro ls H locs a b d
  obtain ⟨q, hq⟩ := z_ul_get (G := G) hg
  exact lv_lload_n hx hb hd rfl (lv_at a q hq) (k ls H locs a b d)
theorem z_s_aload (hx : p.tables.exec = Jvm.exec) (hb : c.code = cc) {i o : Nat} (ho : o ≠ 999) (hg : z_get lo i = some (.ref o)) (hd : decode cc pc = .ok (.aload i, 2)) (k : z_Go p l e R s m args below meth c Q G nL (pc + 2) lo (.ref o :: st) h) : z_Go p l e R s m args below meth c Q G nL pc lo st h := by
  intro ls H locs a b d
  obtain ⟨q, hq⟩ := z_ul_get (G := G) hg
  have h2 := k ls H locs a b d
  rw [List.map_cons] at h2
  rw [z_up_ref ho] at h2 hq
  exact lv_aload hx hb hd (lv_at a q hq) h2
theorem z_s_aload_n (hx : p.tables.exec = Jvm.exec) (hb : c.code = cc) {i : Fin 4} {o : Nat} (ho : o ≠ 999) (hg : z_get lo (i : Nat) = some (.ref o)) (hd : decode cc pc = .ok (.aload_n i, 1)) (k : z_Go p l e R s m args below meth c Q G nL (pc + 1) lo (.ref o :: st) h) : z_Go p l e R s m args below meth c Q G nL pc lo st h := by
  intro ls H locs a b d
  obtain ⟨q, hq⟩ := z_ul_get (G := G) hg
  have h2 := k ls H locs a b d
  rw [List.map_cons] at h2
  rw [z_up_ref ho] at h2 hq
  exact lv_aload_n hx hb hd rfl (lv_at a q hq) h2
theorem z_s_istore (hx : p.tables.exec = Jvm.exec) (hb : c.code = cc) {i : Nat} {x : Int32} (hi : i < nL) (hd : decode cc pc = .ok (.istore i, 2)) (k : z_Go p l e R s m args below meth c Q G nL (pc + 2) (z_put1 lo i (.int x)) st h) : z_Go p l e R s m args below meth c Q G nL pc lo (.int x :: st) h :=
  fun ls H locs a b d => lv_istore hx hb hd a hi (z_ul_put1 G lo i (.int x)) fun ls' a' => k ls' H locs a' b d
theorem z_s_istore_n (hx : p.tables.exec = Jvm.exec) (hb : c.code = cc) {i : Fin 4} {x : Int32} (hi : (i : Nat) < nL) (hd : decode cc pc = .ok (.istore_n i, 1)) (k : z_Go p l e R s m args below meth c Q G nL (pc + 1) (z_put1 lo (i : Nat) (.int x)) st h) : z_Go p l e R s m args below meth c Q G nL pc lo (.int x :: st) h :=
  fun ls H locs a b d => lv_istore_n hx hb hd rfl a hi (z_ul_put1 G lo i (.int x)) fun ls' a' => k ls' H locs a' b d
theorem z_s_lstore (hx : p.tables.exec = Jvm.exec) (hb : c.code = cc) {i : Nat} {x : Int64} (hi : i + 1 < nL) (hd : decode cc pc = .ok (.lstore i, 2)) (k : z_Go p l e R s m args below meth c Q G nL (pc + 2) (z_put2 lo i (.long x)) st h) : z_Go p l e R s m args below meth c Q G nL pc lo (.long x :: st) h :=
  fun ls H locs a b d => lv_lstore hx hb hd a hi (z_ul_put2 G lo i (.long x)) fun ls' a' => k ls' H locs a' b d
theorem z_s_lstore_n (hx : p.tables.exec = Jvm.exec) (hb : c.code = cc) {i : Fin 4} {x : Int64} (hi : (i : Nat) + 1 < nL) (hd : decode cc pc = .ok (.lstore_n i, 1)) (k : z_Go p l e R s m args below meth c Q G nL (pc + 1) (z_put2 lo (i : Nat) (.long x)) st h) : z_Go p l e R s m args below meth c Q G nL pc lo (.long x :: st) h :=
  fun ls H locs a b d => lv_lstore_n hx hb hd rfl a hi (z_ul_put2 G lo i (.long x)) fun ls' a' => k ls' H locs a' b d
theorem z_s_astore (hx : p.tables.exec = Jvm.exec) (hb : c.code = cc) {i o : Nat} (ho : o ≠ 999) (hi : i < nL) (hd : decode cc pc = .ok (.astore i, 2)) (k : z_Go p l e R s m args below meth c Q G nL (pc + 2) (z_put1 lo i (.ref o)) st h) : z_Go p l e R s m args below meth c Q G nL pc lo (.ref o :: st) h := by
  intro ls H locs a b d
  have e := z_ul_put1 G lo i (.ref o)
  rw [List.map_cons]
  rw [z_up_ref ho] at e ⊢
  exact lv_astore hx hb hd a hi e fun ls' a' => k ls' H locs a' b d
theorem z_s_astore_n (hx : p.tables.exec = Jvm.exec) (hb : c.code = cc) {i : Fin 4} {o : Nat} (ho : o ≠ 999) (hi : (i : Nat) < nL) (hd : decode cc pc = .ok (.astore_n i, 1)) (k : z_Go p l e R s m args below meth c Q G nL (pc + 1) (z_put1 lo (i : Nat) (.ref o)) st h) : z_Go p l e R s m args below meth c Q G nL pc lo (.ref o :: st) h := by
  intro ls H locs a b d
  have e := z_ul_put1 G lo i (.ref o)
  rw [List.map_cons]
  rw [z_up_ref ho] at e ⊢
  exact lv_astore_n hx hb hd rfl a hi e fun ls' a' => k ls' H locs a' b d
theorem z_s_iinc (hx : p.tables.exec = Jvm.exec) (hb : c.code = cc) {i : Nat} {n : Int} {x v : Int32} (hg : z_get lo i = some (.int x)) (hv : Int32.ofInt n = v) (hi : i < nL) (hd : decode cc pc = .ok (.iinc i n, 3)) (k : z_Go p l e R s m args below meth c Q G nL (pc + 3) (z_put1 lo i (.int (x + v))) st h) : z_Go p l e R s m args below meth c Q G nL pc lo st h := by
  intro ls H locs a b d
  obtain ⟨q, hq⟩ := z_ul_get (G := G) hg
  exact lv_iinc hx hb hd a hq (by rw [hv]) hi (z_ul_put1 G lo i (.int (x + v))) fun ls' a' => k ls' H locs a' b d
theorem z_s_pop1 (hx : p.tables.exec = Jvm.exec) (hb : c.code = cc) {v : Value} (hv : v.category = 1) (hd : decode cc pc = .ok (.pop, 1)) (k : z_Go p l e R s m args below meth c Q G nL (pc + 1) lo st h) : z_Go p l e R s m args below meth c Q G nL pc lo (v :: st) h :=
  fun ls H locs a b d => lv_pop hx hb hd (by rw [z_up_cat]; exact hv) (k ls H locs a b d)
theorem z_s_dup (hx : p.tables.exec = Jvm.exec) (hb : c.code = cc) {v : Value} (hv : v.category = 1) (hd : decode cc pc = .ok (.dup, 1)) (k : z_Go p l e R s m args below meth c Q G nL (pc + 1) lo (v :: v :: st) h) : z_Go p l e R s m args below meth c Q G nL pc lo (v :: st) h :=
  fun ls H locs a b d => lv_dup hx hb hd (by rw [z_up_cat]; exact hv) (k ls H locs a b d)
theorem z_s_dup2 (hx : p.tables.exec = Jvm.exec) (hb : c.code = cc) {v w : Value} (hv : v.category = 1) (hw : w.category = 1) (hd : decode cc pc = .ok (.dup2, 1)) (k : z_Go p l e R s m args below meth c Q G nL (pc + 1) lo (v :: w :: v :: w :: st) h) : z_Go p l e R s m args below meth c Q G nL pc lo (v :: w :: st) h :=
  fun ls H locs a b d => lv_dup2_11 hx hb hd (by rw [z_up_cat]; exact hv) (by rw [z_up_cat]; exact hw) (k ls H locs a b d)
theorem z_s_iadd (hx : p.tables.exec = Jvm.exec) (hb : c.code = cc) {x y : Int32} (hd : decode cc pc = .ok (.iadd, 1)) (k : z_Go p l e R s m args below meth c Q G nL (pc + 1) lo (.int (x + y) :: st) h) : z_Go p l e R s m args below meth c Q G nL pc lo (.int y :: .int x :: st) h :=
  fun ls H locs a b d => lv_iadd hx hb hd (k ls H locs a b d)
theorem z_s_isub (hx : p.tables.exec = Jvm.exec) (hb : c.code = cc) {x y : Int32} (hd : decode cc pc = .ok (.isub, 1)) (k : z_Go p l e R s m args below meth c Q G nL (pc + 1) lo (.int (x - y) :: st) h) : z_Go p l e R s m args below meth c Q G nL pc lo (.int y :: .int x :: st) h :=
  fun ls H locs a b d => lv_isub hx hb hd (k ls H locs a b d)
theorem z_s_imul (hx : p.tables.exec = Jvm.exec) (hb : c.code = cc) {x y : Int32} (hd : decode cc pc = .ok (.imul, 1)) (k : z_Go p l e R s m args below meth c Q G nL (pc + 1) lo (.int (x * y) :: st) h) : z_Go p l e R s m args below meth c Q G nL pc lo (.int y :: .int x :: st) h :=
  fun ls H locs a b d => lv_imul hx hb hd (k ls H locs a b d)
theorem z_s_iand (hx : p.tables.exec = Jvm.exec) (hb : c.code = cc) {x y : Int32} (hd : decode cc pc = .ok (.iand, 1)) (k : z_Go p l e R s m args below meth c Q G nL (pc + 1) lo (.int (x &&& y) :: st) h) : z_Go p l e R s m args below meth c Q G nL pc lo (.int y :: .int x :: st) h :=
  fun ls H locs a b d => lv_iand hx hb hd (k ls H locs a b d)
theorem z_s_idiv (hx : p.tables.exec = Jvm.exec) (hb : c.code = cc) {x y : Int32} (hy : ¬ y = 0) (hd : decode cc pc = .ok (.idiv, 1)) (k : z_Go p l e R s m args below meth c Q G nL (pc + 1) lo (.int (x / y) :: st) h) : z_Go p l e R s m args below meth c Q G nL pc lo (.int y :: .int x :: st) h :=
  fun ls H locs a b d => lv_idiv hx hb hd hy (k ls H locs a b d)
theorem z_s_irem (hx : p.tables.exec = Jvm.exec) (hb : c.code = cc) {x y : Int32} (hy : ¬ y = 0) (hd : decode cc pc = .ok (.irem, 1)) (k : z_Go p l e R s m args below meth c Q G nL (pc + 1) lo (.int (x - x / y * y) :: st) h) : z_Go p l e R s m args below meth c Q G nL pc lo (.int y :: .int x :: st) h :=
  fun ls H locs a b d => lv_irem hx hb hd hy (k ls H locs a b d)
theorem z_s_ishr (hx : p.tables.exec = Jvm.exec) (hb : c.code = cc) {x y : Int32} (hd : decode cc pc = .ok (.ishr, 1)) (k : z_Go p l e R s m args below meth c Q G nL (pc + 1) lo (.int (x >>> (y &&& 31)) :: st) h) : z_Go p l e R s m args below meth c Q G nL pc lo (.int y :: .int x :: st) h :=
  fun ls H locs a b d => lv_ishr hx hb hd (k ls H locs a b d)
theorem z_s_iushr (hx : p.tables.exec = Jvm.exec) (hb : c.code = cc) {x y : Int32} (hd : decode cc pc = .ok (.iushr, 1)) (k : z_Go p l e R s m args below meth c Q G nL (pc + 1) lo (.int ((x.toUInt32 >>> (y.toUInt32 &&& Int32.toUInt32 31)).toInt32) :: st) h) : z_Go p l e R s m args below meth c Q G nL pc lo (.int y :: .int x :: st) h :=
  fun ls H locs a b d => lv_iushr hx hb hd rfl (k ls H locs a b d)
theorem z_s_ladd (hx : p.tables.exec = Jvm.exec) (hb : c.code = cc) {x y : Int64} (hd : decode cc pc = .ok (.ladd, 1)) (k : z_Go p l e R s m args below meth c Q G nL (pc + 1) lo (.long (x + y) :: st) h) : z_Go p l e R s m args below meth c Q G nL pc lo (.long y :: .long x :: st) h :=
  fun ls H locs a b d => lv_ladd hx hb hd (k ls H locs a b d)
theorem z_s_land (hx : p.tables.exec = Jvm.exec) (hb : c.code = cc) {x y : Int64} (hd : decode cc pc = .ok (.land, 1)) (k : z_Go p l e R s m args below meth c Q G nL (pc + 1) lo (.long (x &&& y) :: st) h) : z_Go p l e R s m args below meth c Q G nL pc lo (.long y :: .long x :: st) h :=
  fun ls H locs a b d => lv_land hx hb hd (k ls H locs a b d)
theorem z_s_lor (hx : p.tables.exec = Jvm.exec) (hb : c.code = cc) {x y : Int64} (hd : decode cc pc = .ok (.lor, 1)) (k : z_Go p l e R s m args below meth c Q G nL (pc + 1) lo (.long (x ||| y) :: st) h) : z_Go p l e R s m args below meth c Q G nL pc lo (.long y :: .long x :: st) h :=
  fun ls H locs a b d => lv_lor hx hb hd (k ls H locs a b d)
theorem z_s_lxor (hx : p.tables.exec = Jvm.exec) (hb : c.code = cc) {x y : Int64} (hd : decode cc pc = .ok (.lxor, 1)) (k : z_Go p l e R s m args below meth c Q G nL (pc + 1) lo (.long (x ^^^ y) :: st) h) : z_Go p l e R s m args below meth c Q G nL pc lo (.long y :: .long x :: st) h :=
  fun ls H locs a b d => lv_lxor hx hb hd (k ls H locs a b d)
theorem z_s_lcmp (hx : p.tables.exec = Jvm.exec) (hb : c.code = cc) {x y : Int64} (hd : decode cc pc = .ok (.lcmp, 1)) (k : z_Go p l e R s m args below meth c Q G nL (pc + 1) lo (.int (lg_cmp x y) :: st) h) : z_Go p l e R s m args below meth c Q G nL pc lo (.long y :: .long x :: st) h :=
  fun ls H locs a b d => W.lcmp hx hb hd (k ls H locs a b d)
theorem z_s_lshl (hx : p.tables.exec = Jvm.exec) (hb : c.code = cc) {x : Int64} {y : Int32} (hd : decode cc pc = .ok (.lshl, 1)) (k : z_Go p l e R s m args below meth c Q G nL (pc + 1) lo (.long (x <<< (y.toInt64 &&& 63)) :: st) h) : z_Go p l e R s m args below meth c Q G nL pc lo (.int y :: .long x :: st) h :=
  fun ls H locs a b d => lv_lshl hx hb hd rfl (k ls H locs a b d)
theorem z_s_lushr (hx : p.tables.exec = Jvm.exec) (hb : c.code = cc) {x : Int64} {y : Int32} (hd : decode cc pc = .ok (.lushr, 1)) (k : z_Go p l e R s m args below meth c Q G nL (pc + 1) lo (.long ((x.toUInt64 >>> (y.toInt64.toUInt64 &&& Int64.toUInt64 63)).toInt64) :: st) h) : z_Go p l e R s m args below meth c Q G nL pc lo (.int y :: .long x :: st) h :=
  fun ls H locs a b d => lv_lushr hx hb hd rfl (k ls H locs a b d)
theorem z_s_i2l (hx : p.tables.exec = Jvm.exec) (hb : c.code = cc) {x : Int32} (hd : decode cc pc = .ok (.i2l, 1)) (k : z_Go p l e R s m args below meth c Q G nL (pc + 1) lo (.long x.toInt64 :: st) h) : z_Go p l e R s m args below meth c Q G nL pc lo (.int x :: st) h :=
  fun ls H locs a b d => lv_i2l hx hb hd rfl (k ls H locs a b d)
theorem z_s_l2i (hx : p.tables.exec = Jvm.exec) (hb : c.code = cc) {x : Int64} (hd : decode cc pc = .ok (.l2i, 1)) (k : z_Go p l e R s m args below meth c Q G nL (pc + 1) lo (.int x.toInt32 :: st) h) : z_Go p l e R s m args below meth c Q G nL pc lo (.long x :: st) h :=
  fun ls H locs a b d => lv_l2i hx hb hd rfl (k ls H locs a b d)
theorem z_s_i2b (hx : p.tables.exec = Jvm.exec) (hb : c.code = cc) {x : Int32} (hd : decode cc pc = .ok (.i2b, 1)) (k : z_Go p l e R s m args below meth c Q G nL (pc + 1) lo (.int x.toInt8.toInt32 :: st) h) : z_Go p l e R s m args below meth c Q G nL pc lo (.int x :: st) h :=
  fun ls H locs a b d => lv_i2b hx hb hd rfl (k ls H locs a b d)
theorem z_s_i2s (hx : p.tables.exec = Jvm.exec) (hb : c.code = cc) {x : Int32} (hd : decode cc pc = .ok (.i2s, 1)) (k : z_Go p l e R s m args below meth c Q G nL (pc + 1) lo (.int x.toInt16.toInt32 :: st) h) : z_Go p l e R s m args below meth c Q G nL pc lo (.int x :: st) h :=
  fun ls H locs a b d => lv_i2s hx hb hd rfl (k ls H locs a b d)
theorem z_s_goto (hx : p.tables.exec = Jvm.exec) (hb : c.code = cc) {off : Int} {t : Nat} (hd : decode cc pc = .ok (.goto off, 3)) (ht : (pc : Int) + off = (t : Int)) (k : z_Go p l e R s m args below meth c Q G nL t lo st h) : z_Go p l e R s m args below meth c Q G nL pc lo st h :=
  fun ls H locs a b d => lv_goto hx hb hd ht (k ls H locs a b d)
theorem z_Go_ite {P : Prop} [Decidable P] {t n : Nat} (k : ∀ s' : z_S, (if P then ((t, lo, st, h) : z_S) else (n, lo, st, h)) = s' → z_Go p l e R s m args below meth c Q G nL s'.1 s'.2.1 s'.2.2.1 s'.2.2.2) : (P → z_Go p l e R s m args below meth c Q G nL t lo st h) ∧ (¬ P → z_Go p l e R s m args below meth c Q G nL n lo st h) :=
  ⟨fun hp => by have := k _ rfl; rw [if_pos hp] at this; exact this, fun hp => by have := k _ rfl; rw [if_neg hp] at this; exact this⟩
end ZST
end
section
/-! the instructions that look at the heap, that branch, that end -/
def z_q (a : Nat) : vw_C := z_cl.getD (a - 1) ("", z_F0, 0)
def z_qT (a : Nat) : Nat → FieldType := z_clT.getD (a - 1) z_T0
theorem z_q_ok : ∀ a, 1 ≤ a → a ≤ 12 → z_cl[a - 1]? = some (z_q a) ∧ (∀ w ∈ u_ws (z_q a).1 (z_q a).2.1 (z_q a).2.2, w ∈ z_good) ∧ (∀ x, x < (z_q a).2.2 → ∀ y, y < (z_q a).2.2 → x ≠ y → ((z_q a).2.1 x).2.1 ≠ ((z_q a).2.1 y).2.1) ∧ ∀ k, k < (z_q a).2.2 → parseFieldDescriptor ((z_q a).2.1 k).2.2.1 = some (z_qT a k) := by
  have g : ∀ (C : String) (F : u_T) (N : Nat), (∀ w ∈ u_ws C F N, w ∈ lw_tbl) → ∀ w ∈ u_ws C F N, w ∈ z_good := by
    intro C F N hh w hw
    refine List.mem_filter.mpr ⟨hh w hw, ?_⟩
    obtain ⟨k, -, rfl⟩ := List.mem_map.mp hw
    unfold u_lay
    split <;> rfl
  intro a h1 h2
  match a, h1, h2 with
  | 1, _, _ => exact ⟨rfl, g _ _ _ z_il0, z_n0, z_t0⟩
  | 2, _, _ => exact ⟨rfl, g _ _ _ z_il1, z_n1, z_t1⟩
  | 3, _, _ => exact ⟨rfl, g _ _ _ z_il2, z_n2, z_t2⟩
  | 4, _, _ => exact ⟨rfl, g _ _ _ z_il3, z_n3, z_t3⟩
  | 5, _, _ => exact ⟨rfl, g _ _ _ z_il4, z_n4, z_t4⟩
  | 6, _, _ => exact ⟨rfl, g _ _ _ z_il5, z_n5, z_t5⟩
  | 7, _, _ => exact ⟨rfl, g _ _ _ z_il6, z_n6, z_t6⟩
  | 8, _, _ => exact ⟨rfl, g _ _ _ z_il7, z_n7, z_t7⟩
  | 9, _, _ => exact ⟨rfl, g _ _ _ z_il8, z_n8, z_t8⟩
  | 10, _, _ => exact ⟨rfl, g _ _ _ z_il9, z_n9, z_t9⟩
  | 11, _, _ => exact ⟨rfl, g _ _ _ z_il10, z_n10, z_t10⟩
  | 12, _, _ => exact ⟨rfl, g _ _ _ z_il11, z_n11, z_t11⟩
theorem z_K_q {o : Nat} (ho : o < 141) (hK : z_K o < 20) : 1 ≤ z_K o ∧ z_K o ≤ 12 ∧ z_N o = (z_q (z_K o)).2.2 := z_K_cls o ho hK
def z_rowTy (K : Nat) : FieldType := match K with
  | 20 => .int
  | 21 => .long
  | 22 => .byte
  | 23 => .boolean
  | 24 => .object "TestChoice$EdgeSet"
  | 25 => .object "TestChoice$Image"
  | _ => .object "TestChoice$Sheet"
theorem z_rows {G : z_G} {K : Nat} (h1 : 20 ≤ K) (h2 : K ≤ 26) : (z_tys G)[K - 20]? = some (G.2.2.2.2 K, z_rowTy K) := by
  rcases (show K = 20 ∨ K = 21 ∨ K = 22 ∨ K = 23 ∨ K = 24 ∨ K = 25 ∨ K = 26 by omega) with rfl | rfl | rfl | rfl | rfl | rfl | rfl <;> rfl
section ZSH
variable {p : Program} {l : Launch} {e : Env} {R : Room} {s : State} {m : MethodId} {args : Array Value} {below : List Frame} {meth : Method} {c : Code} {Q : State → Prop}
variable {G : z_G} {nL : Nat} {cc : ByteArray} {pc : Nat} {lo : z_L} {st : List Value} {h : z_H}
/-- a row of the picture in the heap -/
theorem z_row_at {H : Heap} {o : Nat} (hK : z_Kn G s) (hR : z_Rep G h H) (h20 : 20 ≤ z_K o) : o < 141 ∧ z_K o ≤ 26 ∧ H[G.1 + o]? = some (arrV (G.2.2.2.2 (z_K o)) (z_N o) (z_av G h o)) ∧ s.isArrayOf (arrV (G.2.2.2.2 (z_K o)) (z_N o) (z_av G h o)) (z_rowTy (z_K o)) := by
  have ho : o < 141 := z_K_lt (by omega)
  obtain ⟨h26, -⟩ := z_K_row o ho h20
  exact ⟨ho, h26, (hR o ho).2 h20, (hK.1.2 (z_K o - 20) _ (z_rows h20 h26)).1 (z_N o) (z_av G h o)⟩
theorem z_av_int {o k : Nat} (hK : z_K o = 20 ∨ z_K o = 22 ∨ z_K o = 23) : z_av G h o k = .int (h.1 o k) := by
  unfold z_av
  have a2 : Nat.ble 24 (z_K o) = false := by
    cases hb : Nat.ble 24 (z_K o) with
    | false => rfl
    | true => have := Nat.le_of_ble_eq_true hb; omega
  rw [z_beqF (by omega), a2]
  rfl
theorem z_s_iaload (hx : p.tables.exec = Jvm.exec) (hb : c.code = cc) (hK : z_Kn G s) {o : Nat} {j : Int32} (hk : z_K o = 20) (hj : z_in j (z_N o) = true) (hd : decode cc pc = .ok (.iaload, 1)) (k : z_Go p l e R s m args below meth c Q G nL (pc + 1) lo (.int (h.1 o j.toNatClampNeg) :: st) h) : z_Go p l e R s m args below meth c Q G nL pc lo (.int j :: .ref o :: st) h := by
  intro ls H locs a b d
  obtain ⟨ho, -, hc, ha⟩ := z_row_at (h := h) hK b (o := o) (by omega)
  obtain ⟨hi1, hi2⟩ := z_vin hj
  simp only [List.map_cons]
  rw [z_up_obj ho]
  rw [hk] at ha
  refine W.iald hx hb (v := .int (h.1 o j.toNatClampNeg)) hc (by rw [hk]; exact ha) (fun q => by cases q) (by rw [arrV_size]; exact hi1) (by rw [arrV_read _ _ hi2, z_av_int (Or.inl hk)]) rfl rfl hd (k ls H locs a b d)
theorem z_s_laload (hx : p.tables.exec = Jvm.exec) (hb : c.code = cc) (hK : z_Kn G s) {o : Nat} {j : Int32} (hk : z_K o = 21) (hj : z_in j (z_N o) = true) (hd : decode cc pc = .ok (.laload, 1)) (k : z_Go p l e R s m args below meth c Q G nL (pc + 1) lo (.long (h.2.1 o j.toNatClampNeg) :: st) h) : z_Go p l e R s m args below meth c Q G nL pc lo (.int j :: .ref o :: st) h := by
  intro ls H locs a b d
  obtain ⟨ho, -, hc, ha⟩ := z_row_at (h := h) hK b (o := o) (by omega)
  obtain ⟨hi1, hi2⟩ := z_vin hj
  simp only [List.map_cons]
  rw [z_up_obj ho]
  rw [hk] at ha
  refine W.lald hx hb (v := .long (h.2.1 o j.toNatClampNeg)) hc (by rw [hk]; exact ha) (fun q => by cases q) (by rw [arrV_size]; exact hi1) (by rw [arrV_read _ _ hi2]; unfold z_av; rw [hk]; rfl) rfl rfl hd (k ls H locs a b d)
theorem z_s_baload (hx : p.tables.exec = Jvm.exec) (hb : c.code = cc) (hK : z_Kn G s) {o : Nat} {j : Int32} (hk : z_K o = 22 ∨ z_K o = 23) (hj : z_in j (z_N o) = true) (hd : decode cc pc = .ok (.baload, 1)) (k : z_Go p l e R s m args below meth c Q G nL (pc + 1) lo (.int (h.1 o j.toNatClampNeg) :: st) h) : z_Go p l e R s m args below meth c Q G nL pc lo (.int j :: .ref o :: st) h := by
  intro ls H locs a b d
  obtain ⟨ho, -, hc, ha⟩ := z_row_at (h := h) hK b (o := o) (by omega)
  obtain ⟨hi1, hi2⟩ := z_vin hj
  simp only [List.map_cons]
  rw [z_up_obj ho]
  rcases hk with hk | hk
  · rw [hk] at ha
    refine W.bald hx hb (v := .int (h.1 o j.toNatClampNeg)) hc (by rw [hk]; exact ha) (fun q => by cases q) (by rw [arrV_size]; exact hi1) (by rw [arrV_read _ _ hi2, z_av_int (Or.inr (Or.inl hk))]) rfl rfl hd (k ls H locs a b d)
  · rw [hk] at ha
    refine W.zald hx hb (v := .int (h.1 o j.toNatClampNeg)) hc (by rw [hk]; exact ha) (fun q => by cases q) (by rw [arrV_size]; exact hi1) (by rw [arrV_read _ _ hi2, z_av_int (Or.inr (Or.inr hk))]) rfl rfl hd (k ls H locs a b d)
theorem z_s_aaload (hx : p.tables.exec = Jvm.exec) (hb : c.code = cc) (hK : z_Kn G s) {o : Nat} {j : Int32} (hk : 24 ≤ z_K o) (hj : z_in j (z_N o) = true) (hd : decode cc pc = .ok (.aaload, 1)) (k : z_Go p l e R s m args below meth c Q G nL (pc + 1) lo (.ref (z_R o j.toNatClampNeg) :: st) h) : z_Go p l e R s m args below meth c Q G nL pc lo (.int j :: .ref o :: st) h := by
  intro ls H locs a b d
  obtain ⟨ho, h26, hc, ha⟩ := z_row_at (h := h) hK b (o := o) (by omega)
  obtain ⟨hi1, hi2⟩ := z_vin hj
  simp only [List.map_cons]
  rw [z_up_obj ho]
  have hty : (z_rowTy (z_K o)).isReference = true := by
    rcases (show z_K o = 24 ∨ z_K o = 25 ∨ z_K o = 26 by omega) with q | q | q <;> rw [q] <;> rfl
  refine W.aald hx hb (v := z_rv G (z_R o j.toNatClampNeg)) hc ha hty (fun q => by cases q) (by rw [arrV_size]; exact hi1) ?_ rfl rfl hd (k ls H locs a b d)
  rw [arrV_read _ _ hi2]
  unfold z_av
  rw [z_beqF (by omega), Nat.ble_eq_true_of_le hk]
  rfl
theorem z_s_alen (hx : p.tables.exec = Jvm.exec) (hb : c.code = cc) (hK : z_Kn G s) {o : Nat} (hk : 20 ≤ z_K o) (hd : decode cc pc = .ok (.arraylength, 1)) (k : z_Go p l e R s m args below meth c Q G nL (pc + 1) lo (.int (Int32.ofNat (z_N o)) :: st) h) : z_Go p l e R s m args below meth c Q G nL pc lo (.ref o :: st) h := by
  intro ls H locs a b d
  obtain ⟨ho, h26, hc, ha⟩ := z_row_at (h := h) hK b (o := o) hk
  simp only [List.map_cons]
  rw [z_up_obj ho]
  exact W.alen hx hb hc ha (by rw [arrV_size]) rfl rfl hd (k ls H locs a b d)
theorem z_s_iastore (hx : p.tables.exec = Jvm.exec) (hb : c.code = cc) (hK : z_Kn G s) {o : Nat} {j x : Int32} (hk : z_K o = 20) (hj : z_in j (z_N o) = true) (hd : decode cc pc = .ok (.iastore, 1)) (k : z_Go p l e R s m args below meth c Q G nL (pc + 1) lo st (z_wI h o j.toNatClampNeg x)) : z_Go p l e R s m args below meth c Q G nL pc lo (.int x :: .int j :: .ref o :: st) h := by
  intro ls H locs a b d
  obtain ⟨ho, -, hc, ha⟩ := z_row_at (h := h) hK b (o := o) (by omega)
  obtain ⟨hi1, hi2⟩ := z_vin hj
  simp only [List.map_cons]
  rw [z_up_obj ho]
  rw [hk] at ha
  refine W.iast hx hb hc (by rw [hk]; exact ha) (fun q => by cases q) (by rw [arrV_size]; exact hi1) rfl rfl hd (fun H' e1 e2 e3 => ?_)
  exact k ls H' _ a (b.row ho (Or.inl hk) e1 e3) (d.put e2 e3)
theorem z_s_bastore (hx : p.tables.exec = Jvm.exec) (hb : c.code = cc) (hK : z_Kn G s) {o : Nat} {j x : Int32} (hk : z_K o = 22 ∨ z_K o = 23) (hj : z_in j (z_N o) = true) (hd : decode cc pc = .ok (.bastore, 1)) (k : z_Go p l e R s m args below meth c Q G nL (pc + 1) lo st (z_wI h o j.toNatClampNeg (bif Nat.beq (z_K o) 22 then x.toInt8.toInt32 else x &&& 1))) : z_Go p l e R s m args below meth c Q G nL pc lo (.int x :: .int j :: .ref o :: st) h := by
  intro ls H locs a b d
  obtain ⟨ho, -, hc, ha⟩ := z_row_at (h := h) hK b (o := o) (by omega)
  obtain ⟨hi1, hi2⟩ := z_vin hj
  simp only [List.map_cons]
  rw [z_up_obj ho]
  rcases hk with hk | hk
  · rw [hk] at ha
    refine W.bast hx hb hc (by rw [hk]; exact ha) (fun q => by cases q) (by rw [arrV_size]; exact hi1) rfl rfl hd (fun H' e1 e2 e3 => ?_)
    refine k ls H' _ a (b.row ho (Or.inr (Or.inl hk)) ?_ e3) (d.put e2 e3)
    rw [e1, hk]; rfl
  · rw [hk] at ha
    refine W.zast hx hb hc (by rw [hk]; exact ha) (fun q => by cases q) (by rw [arrV_size]; exact hi1) rfl rfl hd (fun H' e1 e2 e3 => ?_)
    refine k ls H' _ a (b.row ho (Or.inr (Or.inr hk)) ?_ e3) (d.put e2 e3)
    rw [e1, hk]; rfl
theorem z_s_lastore (hx : p.tables.exec = Jvm.exec) (hb : c.code = cc) (hK : z_Kn G s) {o : Nat} {j : Int32} {x : Int64} (hk : z_K o = 21) (hj : z_in j (z_N o) = true) (hd : decode cc pc = .ok (.lastore, 1)) (k : z_Go p l e R s m args below meth c Q G nL (pc + 1) lo st (z_wL h o j.toNatClampNeg x)) : z_Go p l e R s m args below meth c Q G nL pc lo (.long x :: .int j :: .ref o :: st) h := by
  intro ls H locs a b d
  obtain ⟨ho, -, hc, ha⟩ := z_row_at (h := h) hK b (o := o) (by omega)
  obtain ⟨hi1, hi2⟩ := z_vin hj
  simp only [List.map_cons]
  rw [z_up_obj ho]
  rw [hk] at ha
  refine W.last hx hb hc (by rw [hk]; exact ha) (fun q => by cases q) (by rw [arrV_size]; exact hi1) rfl rfl hd (fun H' e1 e2 e3 => ?_)
  exact k ls H' _ a (b.rowL ho hk e1 e3) (d.put e2 e3)
/-- an object of the picture in the heap, and one of its fields -/
theorem z_fld_at {H : Heap} {o k : Nat} (hts : ∀ w ∈ z_good, w.before args s = true) (hK : z_Kn G s) (hR : z_Rep G h H) (h1 : 1 ≤ z_K o) (h12 : z_K o ≤ 12) (hk : k < (z_q (z_K o)).2.2) : o < 141 ∧ k < z_N o ∧
    ∃ (cell : Cell) (cf : Nat) (kf : Class) (fi : Nat) (f : Field) (cC : ClassId) (kC : Class), H[G.1 + o]? = some cell ∧ cell.cls = G.2.2.1 (z_K o - 1) ∧ cell.vm = .none ∧ (∀ j, j < z_N o → cell.slots[G.2.2.2.1 (z_K o - 1) j]? = some (z_fv G h o j)) ∧
      s.fieldFound? ((z_q (z_K o)).2.1 k).1 ((z_q (z_K o)).2.1 k).2.1 ((z_q (z_K o)).2.1 k).2.2.1 = some (cf, kf, fi, f) ∧ f.slot = G.2.2.2.1 (z_K o - 1) k ∧ f.isStatic = false ∧ s.vm.findClass (z_q (z_K o)).1 = some (G.2.2.1 (z_K o - 1)) ∧ s.vm.classes[G.2.2.1 (z_K o - 1)]? = some kC ∧ kC.kind = .ordinary := by
  have ho : o < 141 := z_K_lt (by omega)
  obtain ⟨-, -, hN⟩ := z_K_q ho (by omega)
  obtain ⟨q1, q2, q3, q4⟩ := z_q_ok (z_K o) h1 h12
  obtain ⟨cell, c1, c2, c3, c4⟩ := (hR o ho).1 (by omega)
  obtain ⟨hS, hfc, kC, hkC, hkind⟩ := hK.1.1 (z_K o - 1) _ q1
  obtain ⟨cf, kf, fi, f, hi, hsl⟩ := hS k hk
  exact ⟨ho, by rw [hN]; exact hk, cell, cf, kf, fi, f, G.2.2.1 (z_K o - 1), kC, c1, c2, c3, c4, hi, hsl, (u_facts hfc hkC (u_lays hts q2 hk) hi).1, hfc, hkC, hkind⟩
theorem z_s_getfield (hx : p.tables.exec = Jvm.exec) (hb : c.code = cc) {own : String} {i : Nat} (hown : s.vm.findClass own = some m.cls) (hts : ∀ w ∈ z_good, w.before args s = true) (hK : z_Kn G s) {o a b : Nat} (h1 : 1 ≤ a) (h12 : a ≤ 12) (hko : z_K o = a) (hk : b < (z_q a).2.2) (hC : ((z_q a).2.1 b).1 = (z_q a).1)
    (hw : Cond.fieldLink own i (z_q a).1 ((z_q a).2.1 b).2.1 ((z_q a).2.1 b).2.2.1 ∈ z_good) (hd : decode cc pc = .ok (.getfield i, 3)) {v : Value} (hv : z_up G v = z_fv G h o b) (k : z_Go p l e R s m args below meth c Q G nL (pc + 3) lo (v :: st) h) : z_Go p l e R s m args below meth c Q G nL pc lo (.ref o :: st) h := by
  intro ls H locs x y z
  subst hko
  obtain ⟨ho, hkN, cell, cf, kf, fi, f, -, kC, c1, c2, c3, c4, hi, hsl, hst, -⟩ := z_fld_at hts hK y h1 h12 hk
  simp only [List.map_cons]
  rw [z_up_obj ho]
  have h3 := k ls H locs x y z
  rw [List.map_cons, hv] at h3
  exact W.getf hx hb hown (hts _ hw) (by rw [← hC]; exact hi) hst c1 (by rw [c3]; exact fun h => by cases h) (v := z_fv G h o b) (by rw [hsl]; exact c4 b hkN) rfl rfl hd h3
theorem z_apart {a : Nat} (hts : ∀ w ∈ z_good, w.before args s = true) (hK : z_Kn G s) (h1 : 1 ≤ a) (h12 : a ≤ 12) : ∀ x y, x < (z_q a).2.2 → y < (z_q a).2.2 → x ≠ y → G.2.2.2.1 (a - 1) x ≠ G.2.2.2.1 (a - 1) y := by
  obtain ⟨q1, q2, q3, q4⟩ := z_q_ok a h1 h12
  exact va_apart (own := "") (D := (G.2.2.1, G.2.2.2.1)) hts q2 (z_qT a) q4 q3 hK.1 q1
/-- a field that isn't final is written -/
theorem z_put_at (hx : p.tables.exec = Jvm.exec) (hb : c.code = cc) {own : String} {i : Nat} (hown : s.vm.findClass own = some m.cls) (hts : ∀ w ∈ z_good, w.before args s = true) (hK : z_Kn G s) {o a b : Nat} (h1 : 1 ≤ a) (h12 : a ≤ 12) (hko : z_K o = a) (hk : b < (z_q a).2.2) (hC : ((z_q a).2.1 b).1 = (z_q a).1) (hfin : ((z_q a).2.1 b).2.2.2 = false)
    (hw : Cond.fieldLink own i (z_q a).1 ((z_q a).2.1 b).2.1 ((z_q a).2.1 b).2.2.1 ∈ z_good) (hd : decode cc pc = .ok (.putfield i, 3)) {v : Value} (hn : narrow (z_qT a b) v = v) (hf : fits (z_qT a b) v = true) {ls : Array Slot} {H : Heap} {locs : List Loc} (y : z_Rep G h H) {st : List Value}
    (k : ∀ (H1 : Heap) (cell : Cell), o < 141 → H[G.1 + o]? = some cell → H1[G.1 + o]? = some (cell.setSlot (G.2.2.2.1 (z_K o - 1) b) v) → H1.size = H.size → (∀ q, q ≠ G.1 + o → H1[q]? = H[q]?) → W p l e R s m args below meth c H1 (locs ++ [⟨G.1 + o, G.2.2.2.1 (z_K o - 1) b⟩]) 0 0 Q (F0 m (pc + 3) ls st)) : W p l e R s m args below meth c H locs 0 0 Q (F0 m pc ls (v :: .ref (G.1 + o) :: st)) := by
  subst hko
  obtain ⟨q1, q2, q3, q4⟩ := z_q_ok (z_K o) h1 h12
  obtain ⟨ho, hkN, cell, cf, kf, fi, f, -, kC, c1, c2, c3, c4, hi, hsl, hst, hfc, hkC, hkind⟩ := z_fld_at hts hK y h1 h12 hk
  have hlay := hts _ (q2 _ (u_in_lay hk))
  unfold u_lay at hlay
  rw [if_neg (by rw [hfin]; decide)] at hlay
  have h6 := u_store hfc hkC hkind hlay hi (q4 b hk) hn hf
  refine W.putK hx hb (f := f) ⟨hown, hts _ hw, ⟨_, _, _, by rw [← hC]; exact hi⟩, hst⟩ (by rw [c2]; exact h6) c1 c3 (by rw [hsl]; exact k2_hasslot (c4 b hkN)) rfl rfl hd fun H' e1 e2 e3 => ?_
  rw [hsl] at e1 ⊢
  exact k H' cell ho c1 e1 e2 e3
theorem z_s_putI (hx : p.tables.exec = Jvm.exec) (hb : c.code = cc) {own : String} {i : Nat} (hown : s.vm.findClass own = some m.cls) (hts : ∀ w ∈ z_good, w.before args s = true) (hK : z_Kn G s) {o a b : Nat} (h1 : 1 ≤ a) (h12 : a ≤ 12) (hko : z_K o = a) (hk : b < (z_q a).2.2) (hC : ((z_q a).2.1 b).1 = (z_q a).1) (hfin : ((z_q a).2.1 b).2.2.2 = false)
    (hw : Cond.fieldLink own i (z_q a).1 ((z_q a).2.1 b).2.1 ((z_q a).2.1 b).2.2.1 ∈ z_good) (hd : decode cc pc = .ok (.putfield i, 3)) {x : Int32} (hn : narrow (z_qT a b) (.int x) = .int x) (hf : fits (z_qT a b) (.int x) = true) (hft : z_ft a b ≠ 1 ∧ z_ft a b ≠ 2)
    (k : z_Go p l e R s m args below meth c Q G nL (pc + 3) lo st (z_wI h o b x)) : z_Go p l e R s m args below meth c Q G nL pc lo (.int x :: .ref o :: st) h := by
  intro ls H locs x1 y z
  have ho : o < 141 := z_K_lt (by omega)
  simp only [List.map_cons]
  rw [z_up_obj ho]
  refine z_put_at hx hb hown hts hK h1 h12 hko hk hC hfin hw hd hn hf y (fun H1 cell ho c1 e1 e2 e3 => ?_)
  subst hko
  obtain ⟨-, -, hN⟩ := z_K_q ho (by omega)
  exact k ls H1 _ x1 (y.fld ho (by omega) hft c1 e1 e3 (by rw [hN]; exact z_apart hts hK h1 h12) (by rw [hN]; exact hk)) (z.put e2 e3)
theorem z_ft2 : ∀ o, o < 141 → ∀ k, k < z_N o → z_ft (z_K o) k = 2 → o = 37 ∧ k = 3 := by decide +kernel
theorem z_s_putD (hx : p.tables.exec = Jvm.exec) (hb : c.code = cc) {own : String} {i : Nat} (hown : s.vm.findClass own = some m.cls) (hts : ∀ w ∈ z_good, w.before args s = true) (hK : z_Kn G s) {o a b x : Nat} (h1 : 1 ≤ a) (h12 : a ≤ 12) (hko : z_K o = a) (hk : b < (z_q a).2.2) (hC : ((z_q a).2.1 b).1 = (z_q a).1) (hfin : ((z_q a).2.1 b).2.2.2 = false)
    (hw : Cond.fieldLink own i (z_q a).1 ((z_q a).2.1 b).2.1 ((z_q a).2.1 b).2.2.1 ∈ z_good) (hd : decode cc pc = .ok (.putfield i, 3)) (hty : ∃ n, z_qT a b = .object n) (hx1 : x < 141) (hft : z_ft a b = 2)
    (k : z_Go p l e R s m args below meth c Q G nL (pc + 3) lo st (z_wD h x)) : z_Go p l e R s m args below meth c Q G nL pc lo (.ref x :: .ref o :: st) h := by
  intro ls H locs x2 y z
  have ho : o < 141 := z_K_lt (by omega)
  simp only [List.map_cons]
  rw [z_up_obj ho]
  obtain ⟨n, hn⟩ := hty
  rw [z_up_obj hx1]
  refine z_put_at hx hb hown hts hK h1 h12 hko hk hC hfin hw hd (by rw [hn]; rfl) (by rw [hn]; rfl) y (fun H1 cell ho c1 e1 e2 e3 => ?_)
  subst hko
  obtain ⟨-, -, hN⟩ := z_K_q ho (by omega)
  have hkN : b < z_N o := by rw [hN]; exact hk
  have hob := z_ft2 o ho b hkN hft
  refine k ls H1 _ x2 (fun o' ho' => ?_) (z.put e2 e3)
  by_cases he : o' = o
  · subst he
    refine ⟨fun h20 => ?_, fun h20 => absurd h20 (by omega)⟩
    obtain ⟨cell', d1, d2, d3, d4⟩ := (y o' ho').1 h20
    cases d1.symm.trans c1
    refine ⟨_, e1, d2, d3, fun j hj => ?_⟩
    rw [t_set (V := z_fv G h o') d4 (by rw [hN]; exact z_apart hts hK h1 h12) hkN (.ref (G.1 + x)) j hj]
    unfold updV z_fv
    by_cases hjb : j = b
    · subst hjb
      rw [if_pos rfl, hft]
      show _ = some (z_rv G x)
      have := z_up_obj (G := G) hx1
      rw [← this]; rfl
    · rw [if_neg hjb]
      split
      · rfl
      · rename_i e
        exact absurd ((z_ft2 o' ho' j hj e).2.trans hob.2.symm) hjb
      · rfl
  · refine (y o' ho').other (e3 _ (by omega)) (fun _ => rfl) (fun _ => rfl) (Or.inl fun j hj e => ?_)
    exact he ((z_ft2 o' ho' j hj e).1.trans hob.1.symm)
end ZSH
end
section
/-! switches, branches, copies, ends, calls -/
def z_swt (d : Nat) (x : Int32) : List (Int32 × Nat) → Nat
  | [] => d
  | (k, t) :: r => if x = k then t else z_swt d x r
theorem z_sw_eq (d : Nat) (l : z_L) (st : List Value) (h : z_H) (x : Int32) (L : List (Int32 × Nat)) : z_sw (d, l, st, h) x (fun t => (t, l, st, h)) L = (z_swt d x L, l, st, h) := by
  induction L with
  | nil => rfl
  | cons q r ih =>
    obtain ⟨k, t⟩ := q
    unfold z_sw z_swt
    split
    · rfl
    · exact ih
theorem z_swt_in {d : Nat} {x : Int32} {v : Nat} {L : List (Int32 × Nat)} (h1 : ∀ q ∈ L, q.1 = x → q.2 = v) (h2 : ∃ q ∈ L, q.1 = x) : z_swt d x L = v := by
  induction L with
  | nil => obtain ⟨q, hq, -⟩ := h2; cases hq
  | cons q r ih =>
    obtain ⟨k, t⟩ := q
    unfold z_swt
    by_cases hk : x = k
    · rw [if_pos hk]; exact h1 _ List.mem_cons_self hk.symm
    · rw [if_neg hk]
      refine ih (fun q hq => h1 q (List.mem_cons_of_mem _ hq)) ?_
      obtain ⟨q, hq, e⟩ := h2
      rcases List.mem_cons.mp hq with rfl | hq
      · exact absurd e.symm hk
      · exact ⟨q, hq, e⟩
theorem z_swt_out {d : Nat} {x : Int32} {L : List (Int32 × Nat)} (h : ∀ q ∈ L, q.1 ≠ x) : z_swt d x L = d := by
  induction L with
  | nil => rfl
  | cons q r ih =>
    obtain ⟨k, t⟩ := q
    unfold z_swt
    rw [if_neg (fun e => h (k, t) List.mem_cons_self e.symm)]
    exact ih (fun q hq => h q (List.mem_cons_of_mem _ hq))
theorem z_ofInt {k : Int} (h1 : -2147483648 ≤ k) (h2 : k < 2147483648) : (Int32.ofInt k).toInt = k := Int32.toInt_ofInt_of_le (by simpa using h1) (by simpa using h2)
theorem z_ofInt_eq {k : Int} (h1 : -2147483648 ≤ k) (h2 : k < 2147483648) (x : Int32) : Int32.ofInt k = x ↔ k = x.toInt := by
  constructor
  · intro e; rw [← e, z_ofInt h1 h2]
  · intro e; apply Int32.toInt_inj.mp; rw [z_ofInt h1 h2, e]
def z_swTab (pc : Nat) (lo : Int) (offs : Array Int) : List (Int32 × Nat) := (List.range offs.size).map (fun (j : Nat) => (Int32.ofInt (lo + (j : Int)), ((pc : Int) + offs.getD j 0).toNat))
theorem z_cpI1 (h : z_H) (so sp d dp n o' k' : Nat) : (z_cpI h so sp d dp n).1 o' k' = if o' = d then va_cpy (h.1 so) (h.1 d) sp dp n k' else h.1 o' k' := by
  unfold z_cpI
  by_cases h1 : o' = d
  · simp [h1]
  · simp [h1, z_beqF h1]
theorem z_cpL1 (h : z_H) (so sp d dp n o' k' : Nat) : (z_cpL h so sp d dp n).2.1 o' k' = if o' = d then va_cpy (h.2.1 so) (h.2.1 d) sp dp n k' else h.2.1 o' k' := by
  unfold z_cpL
  by_cases h1 : o' = d
  · simp [h1]
  · simp [h1, z_beqF h1]
def z_swLk (pc : Nat) (ps : Array (Int × Int)) : List (Int32 × Nat) := ps.toList.map (fun q => (Int32.ofInt q.1, ((pc : Int) + q.2).toNat))
section ZSC
variable {p : Program} {l : Launch} {e : Env} {R : Room} {s : State} {m : MethodId} {args : Array Value} {below : List Frame} {meth : Method} {c : Code} {Q : State → Prop}
variable {G : z_G} {nL : Nat} {cc : ByteArray} {pc : Nat} {lo : z_L} {st : List Value} {h : z_H}
theorem z_s_table (hx : p.tables.exec = Jvm.exec) (hb : c.code = cc) {d low hi : Int} {offs : Array Int} {len a : Nat} {x : Int32} (hd : decode cc pc = .ok (.tableswitch d low hi offs, len)) (ha : (pc : Int) + d = (a : Int)) (h1 : -1000 ≤ low) (h2 : hi = low + offs.size - 1) (h3 : hi ≤ 1000) (h4 : ∀ o ∈ offs, 0 ≤ (pc : Int) + o)
    (k : z_Go p l e R s m args below meth c Q G nL (z_swt a x (z_swTab pc low offs)) lo st h) : z_Go p l e R s m args below meth c Q G nL pc lo (.int x :: st) h := by
  intro ls H locs u v w
  by_cases hin : low ≤ x.toInt ∧ x.toInt ≤ hi
  · have hj : (x.toInt - low).toNat < offs.size := by omega
    have hget : offs[(x.toInt - low).toNat]? = some offs[(x.toInt - low).toNat] := Array.getElem?_eq_getElem hj
    have hpos := h4 _ (Array.getElem_mem hj)
    refine lv_tableIn hx hb hd (by omega) (by omega) hget (tgt := ((pc : Int) + offs[(x.toInt - low).toNat]).toNat) (by omega) ?_
    have e1 : z_swt a x (z_swTab pc low offs) = ((pc : Int) + offs[(x.toInt - low).toNat]).toNat := by
      refine z_swt_in (fun q hq e => ?_) ⟨(Int32.ofInt (low + ((x.toInt - low).toNat : Nat)), _), List.mem_map.mpr ⟨(x.toInt - low).toNat, List.mem_range.mpr hj, rfl⟩, ?_⟩
      · obtain ⟨j, hj2, rfl⟩ := List.mem_map.mp hq
        have hj3 := List.mem_range.mp hj2
        have e2 := (z_ofInt_eq (by omega) (by omega) x).mp e
        have e3 : (x.toInt - low).toNat = j := by omega
        subst e3
        show ((pc : Int) + offs.getD _ 0).toNat = _
        rw [Array.getD_eq_getD_getElem?, hget]
        rfl
      · exact (z_ofInt_eq (by omega) (by omega) x).mpr (by omega)
    rw [← e1]
    exact k ls H locs u v w
  · refine lv_tableOut hx hb hd (by omega) ha ?_
    have e1 : z_swt a x (z_swTab pc low offs) = a := by
      refine z_swt_out (fun q hq e => ?_)
      obtain ⟨j, hj2, rfl⟩ := List.mem_map.mp hq
      have hj3 := List.mem_range.mp hj2
      have e2 := (z_ofInt_eq (by omega) (by omega) x).mp e
      omega
    rw [← e1]
    exact k ls H locs u v w
theorem z_lk {a : Nat} {x : Int32} {d : Int} : ∀ (L : List (Int × Int)), (pc : Int) + d = (a : Int) → (∀ q ∈ L, 0 ≤ (pc : Int) + q.2 ∧ -1000 ≤ q.1 ∧ q.1 ≤ 1000) → (pc : Int) + Op.lookupswitch.offset L d x.toInt = (z_swt a x (L.map (fun q => (Int32.ofInt q.1, ((pc : Int) + q.2).toNat))) : Nat) := by
  intro L ha
  induction L with
  | nil => intro _; exact ha
  | cons q r ih =>
    intro hq
    obtain ⟨k, o⟩ := q
    have h0 := hq (k, o) List.mem_cons_self
    rw [Op.lookupswitch.offset_cons]
    simp only [List.map_cons, z_swt]
    by_cases hk : k = x.toInt
    · rw [if_pos hk, if_pos ((z_ofInt_eq (by omega) (by omega) x).mpr hk).symm]
      have := h0.1
      simp only at this
      omega
    · rw [if_neg hk, if_neg (fun e => hk ((z_ofInt_eq (by omega) (by omega) x).mp e.symm))]
      exact ih (fun q hq2 => hq q (List.mem_cons_of_mem _ hq2))
theorem z_s_lookup (hx : p.tables.exec = Jvm.exec) (hb : c.code = cc) {d : Int} {ps : Array (Int × Int)} {len a : Nat} {x : Int32} (hd : decode cc pc = .ok (.lookupswitch d ps, len)) (ha : (pc : Int) + d = (a : Int)) (hp : (ps.toList.zip (ps.toList.drop 1)).all (fun (a, next) => a.1 < next.1) = true) (hq : ∀ q ∈ ps.toList, 0 ≤ (pc : Int) + q.2 ∧ -1000 ≤ q.1 ∧ q.1 ≤ 1000)
    (k : z_Go p l e R s m args below meth c Q G nL (z_swt a x (z_swLk pc ps)) lo st h) : z_Go p l e R s m args below meth c Q G nL pc lo (.int x :: st) h :=
  fun ls H locs u v w => lv_lookup hx hb hd hp rfl (z_lk ps.toList ha hq) (k ls H locs u v w)
/-- a row of numbers is copied -/
theorem z_Rep.cpI {h : z_H} {H H1 : Heap} {so sp d dp n : Nat} (hR : z_Rep G h H) (hd : d < 141) (hk : z_K d = 20) (e1 : H1[G.1 + d]? = some (arrV (G.2.2.2.2 20) (z_N d) (fun j => .int (va_cpy (h.1 so) (h.1 d) sp dp n j)))) (oq : ∀ q, q ≠ G.1 + d → H1[q]? = H[q]?) : z_Rep G (z_cpI h so sp d dp n) H1 := by
  intro o' ho'
  by_cases he : o' = d
  · subst he
    refine ⟨fun h20 => absurd h20 (by omega), fun _ => ?_⟩
    rw [e1, hk]
    have : z_av G (z_cpI h so sp o' dp n) o' = fun j => Value.int (va_cpy (h.1 so) (h.1 o') sp dp n j) := by
      funext j
      rw [z_av_int (Or.inl hk), z_cpI1, if_pos rfl]
    rw [this]
  · refine (hR o' ho').other (oq _ (by omega)) (fun j => ?_) (fun _ => rfl) (Or.inr rfl)
    rw [z_cpI1, if_neg he]
theorem z_Rep.cpL {h : z_H} {H H1 : Heap} {so sp d dp n : Nat} (hR : z_Rep G h H) (hd : d < 141) (hk : z_K d = 21) (e1 : H1[G.1 + d]? = some (arrV (G.2.2.2.2 21) (z_N d) (fun j => .long (va_cpy (h.2.1 so) (h.2.1 d) sp dp n j)))) (oq : ∀ q, q ≠ G.1 + d → H1[q]? = H[q]?) : z_Rep G (z_cpL h so sp d dp n) H1 := by
  intro o' ho'
  by_cases he : o' = d
  · subst he
    refine ⟨fun h20 => absurd h20 (by omega), fun _ => ?_⟩
    rw [e1, hk]
    have : z_av G (z_cpL h so sp o' dp n) o' = fun j => Value.long (va_cpy (h.2.1 so) (h.2.1 o') sp dp n j) := by
      funext j
      unfold z_av
      rw [hk, z_cpL1, if_pos rfl]
      rfl
    rw [this]
  · refine (hR o' ho').other (oq _ (by omega)) (fun _ => rfl) (fun j => ?_) (Or.inr rfl)
    rw [z_cpL1, if_neg he]
theorem z_cat_up (G : z_G) (st : List Value) : ((st.map (z_up G)).map fun v => v.category).sum = z_cat st := by
  rw [List.map_map]
  have : (fun v : Value => v.category) ∘ z_up G = fun v => v.category := funext fun v => z_up_cat G v
  rw [this]
  rfl
theorem z_copy {α : Type} (mk : α → Value) (hx : p.tables.exec = Jvm.exec) (hb : c.code = cc) {ls : Array Slot} (hml : c.maxLocals = ls.size) {own : String} {i : Nat} (hown : s.vm.findClass own = some m.cls) (hw1 : (Cond.methodLink own i arraycopyName).before args s = true) (hw2 : (Cond.native arraycopyName).before args s = true) (hw3 : (Cond.static arraycopyName).before args s = true) (hw4 : (Cond.initialized "java/lang/System").before args s = true)
    (hr1 : 1 ≤ R.frames) (hr2 : 60 ≤ R.locals) {H : Heap} {locs : List Loc} {a0 a1 : Nat} {cA : ClassId} {ty : FieldType} (hA : ArrOfT s cA ty) (hty : refKind ty = false) (hfit : ∀ v : α, fits ty (mk v) = true) (htk : ∀ (U : State) (v : α) (comp : ClassId), U.takes comp (mk v)) {n0 n1 : Nat} {f g : Nat → α} (hc0 : H[a0]? = some (arrV cA n0 (fun j => mk (f j)))) (hc1 : H[a1]? = some (arrV cA n1 (fun j => mk (g j))))
    {sp dp n : Int32} (h1 : ¬ sp < 0) (h2 : ¬ dp < 0) (h3 : ¬ n < 0) (h4 : sp.toNatClampNeg + n.toNatClampNeg ≤ n0) (h5 : dp.toNatClampNeg + n.toNatClampNeg ≤ n1) {st : List Value} (hcat : (st.map fun v => v.category).sum ≤ 8)
    (hd : decode cc pc = .ok (.invokestatic i, 3)) (k : ∀ (H1 : Heap) (L : List Loc), H1[a1]? = some (arrV cA n1 (fun j => mk (va_cpy f g sp.toNatClampNeg dp.toNatClampNeg n.toNatClampNeg j))) → H1.size = H.size → (∀ q, q ≠ a1 → H1[q]? = H[q]?) → (∀ q ∈ L, q.base = a1) → W p l e R s m args below meth c H1 (locs ++ L) 0 0 Q (F0 m (pc + 3) ls st)) : W p l e R s m args below meth c H locs 0 0 Q (F0 m pc ls (.int n :: .int dp :: .ref a1 :: .int sp :: .ref a0 :: st)) := by
  have nn : ∀ z : Int32, ¬ z < 0 → z.toInt = (z.toNatClampNeg : Int) := by
    intro z hz
    have hz0 : (0 : Int) ≤ z.toInt := by
      have := Int32.not_lt.mp hz
      simpa using Int32.le_iff_toInt_le.mp this
    show z.toInt = ((z.toInt.toNat : Nat) : Int)
    omega
  intro T hT X
  obtain ⟨-, k0, hk0, cm0, hkk0⟩ := hA n0 (fun j => mk (f j))
  obtain ⟨-, k1, hk1, cm1, hkk1⟩ := hA n1 (fun j => mk (g j))
  have hw : nativeFrameWords "java/lang/System" "arraycopy" 5 = 7 := by decide +kernel
  obtain ⟨vm', X', step⟩ := X.arraycopy hx hown hw1 hw2 hw3 hw4 (src := a0) (dst := a1) (cs := arrV cA n0 (fun j => mk (f j))) (cd := arrV cA n1 (fun j => mk (g j))) (srcPos := sp) (destPos := dp) (n := n) (by rw [hT]; exact hc0) (by rw [hT]; exact hc1)
    (fun _ h => by cases h) (fun _ h => by cases h) (fun h => by cases h) (fun h => by cases h) hk0 hk1 hkk0 hkk1 (by simp [hty]) h1 h2 h3
    (by rw [nn sp h1, nn n h3, arrV_size]; omega)
    (by rw [nn dp h2, nn n h3, arrV_size]; omega)
    (fun vm₁ _ i hi => by
      have e : (arrV cA n0 (fun j => mk (f j))).slots.getD (sp.toNatClampNeg + i) .null = mk (f (sp.toNatClampNeg + i)) := by
        rw [Array.getD_eq_getD_getElem?, arrV_read _ _ (by omega)]
        rfl
      rw [e]
      exact ⟨hfit _, htk _ _ _⟩)
    (g := F0 m pc ls (.int n :: .int dp :: .ref a1 :: .int sp :: .ref a0 :: st)) rfl (by rw [hml]) (rest := st) rfl (by rw [hb]; exact hd) hr1 (by show 2 * 0 + _ + _ ≤ _; omega)
  have e1 : copied (arrV cA n0 (fun j => mk (f j))) (arrV cA n1 (fun j => mk (g j))) sp dp n = arrV cA n1 (fun j => mk (va_cpy f g sp.toNatClampNeg dp.toNatClampNeg n.toNatClampNeg j)) := va_copied mk cA cA f g h4
  rw [e1] at X' step
  have hl : a1 < H.size := (Array.getElem?_eq_some_iff.mp hc1).1
  have hheap : ((T.setVm vm').setCell a1 (arrV cA n1 (fun j => mk (va_cpy f g sp.toNatClampNeg dp.toNatClampNeg n.toNatClampNeg j)))).heap = H.setIfInBounds a1 (arrV cA n1 (fun j => mk (va_cpy f g sp.toNatClampNeg dp.toNatClampNeg n.toNatClampNeg j))) := by rw [← hT]; rfl
  obtain ⟨t, b1, b2⟩ := k _ _ (show (H.setIfInBounds a1 _)[a1]? = some _ by simp [Array.getElem?_setIfInBounds, hl]) (by simp) (fun q hq => by simp [Array.getElem?_setIfInBounds, Ne.symm hq]) (fun q hq => by
      obtain ⟨z, -, hz⟩ := List.mem_map.mp hq
      rw [← hz]) _ hheap X'
  exact ⟨t, step t b1, b2⟩
theorem z_s_cpI (hx : p.tables.exec = Jvm.exec) (hb : c.code = cc) (hml : c.maxLocals = nL) {own : String} {i : Nat} (hown : s.vm.findClass own = some m.cls) (hw1 : (Cond.methodLink own i arraycopyName).before args s = true) (hw2 : (Cond.native arraycopyName).before args s = true) (hw3 : (Cond.static arraycopyName).before args s = true) (hw4 : (Cond.initialized "java/lang/System").before args s = true)
    (hr1 : 1 ≤ R.frames) (hr2 : 60 ≤ R.locals) (hK : z_Kn G s) {so d : Nat} {sp dp n : Int32} (ks : z_K so = 20) (kd : z_K d = 20) (h1 : ¬ sp < 0) (h2 : ¬ dp < 0) (h3 : ¬ n < 0) (h4 : sp.toNatClampNeg + n.toNatClampNeg ≤ z_N so) (h5 : dp.toNatClampNeg + n.toNatClampNeg ≤ z_N d) (hcat : z_cat st ≤ 8)
    (hd : decode cc pc = .ok (.invokestatic i, 3)) (k : z_Go p l e R s m args below meth c Q G nL (pc + 3) lo st (z_cpI h so sp.toNatClampNeg d dp.toNatClampNeg n.toNatClampNeg)) : z_Go p l e R s m args below meth c Q G nL pc lo (.int n :: .int dp :: .ref d :: .int sp :: .ref so :: st) h := by
  intro ls H locs x y z
  obtain ⟨ho, -, hc, -⟩ := z_row_at (h := h) hK y (o := so) (by omega)
  obtain ⟨ho2, -, hc2, -⟩ := z_row_at (h := h) hK y (o := d) (by omega)
  rw [ks] at hc
  rw [kd] at hc2
  have f1 : z_av G h so = fun j => Value.int (h.1 so j) := funext fun j => z_av_int (Or.inl ks)
  have f2 : z_av G h d = fun j => Value.int (h.1 d j) := funext fun j => z_av_int (Or.inl kd)
  rw [f1] at hc
  rw [f2] at hc2
  simp only [List.map_cons]
  rw [z_up_obj ho, z_up_obj ho2]
  refine z_copy (fun v => .int v) hx hb (hml.trans x.1.symm) hown hw1 hw2 hw3 hw4 hr1 hr2 (hK.1.2 0 _ rfl).1 rfl (fun _ => rfl) (fun _ _ _ => trivial) hc hc2 h1 h2 h3 h4 h5 (by rw [z_cat_up]; exact hcat) hd (fun H1 L e1 e2 e3 e4 => ?_)
  refine k ls H1 _ x (y.cpI ho2 kd e1 e3) ⟨e2.trans z.1, fun q hq => (e3 q (by omega)).trans (z.2.1 q hq), fun q hq => ?_⟩
  rcases List.mem_append.mp hq with hq | hq
  · exact z.2.2 q hq
  · rw [e4 q hq]; exact Nat.le_add_right _ _
theorem z_s_cpL (hx : p.tables.exec = Jvm.exec) (hb : c.code = cc) (hml : c.maxLocals = nL) {own : String} {i : Nat} (hown : s.vm.findClass own = some m.cls) (hw1 : (Cond.methodLink own i arraycopyName).before args s = true) (hw2 : (Cond.native arraycopyName).before args s = true) (hw3 : (Cond.static arraycopyName).before args s = true) (hw4 : (Cond.initialized "java/lang/System").before args s = true)
    (hr1 : 1 ≤ R.frames) (hr2 : 60 ≤ R.locals) (hK : z_Kn G s) {so d : Nat} {sp dp n : Int32} (ks : z_K so = 21) (kd : z_K d = 21) (h1 : ¬ sp < 0) (h2 : ¬ dp < 0) (h3 : ¬ n < 0) (h4 : sp.toNatClampNeg + n.toNatClampNeg ≤ z_N so) (h5 : dp.toNatClampNeg + n.toNatClampNeg ≤ z_N d) (hcat : z_cat st ≤ 8)
    (hd : decode cc pc = .ok (.invokestatic i, 3)) (k : z_Go p l e R s m args below meth c Q G nL (pc + 3) lo st (z_cpL h so sp.toNatClampNeg d dp.toNatClampNeg n.toNatClampNeg)) : z_Go p l e R s m args below meth c Q G nL pc lo (.int n :: .int dp :: .ref d :: .int sp :: .ref so :: st) h := by
  intro ls H locs x y z
  obtain ⟨ho, -, hc, -⟩ := z_row_at (h := h) hK y (o := so) (by omega)
  obtain ⟨ho2, -, hc2, -⟩ := z_row_at (h := h) hK y (o := d) (by omega)
  have f1 : z_av G h so = fun j => Value.long (h.2.1 so j) := funext fun j => by unfold z_av; rw [ks]; rfl
  have f2 : z_av G h d = fun j => Value.long (h.2.1 d j) := funext fun j => by unfold z_av; rw [kd]; rfl
  rw [ks, f1] at hc
  rw [kd, f2] at hc2
  simp only [List.map_cons]
  rw [z_up_obj ho, z_up_obj ho2]
  refine z_copy (fun v => .long v) hx hb (hml.trans x.1.symm) hown hw1 hw2 hw3 hw4 hr1 hr2 (hK.1.2 1 _ rfl).1 rfl (fun _ => rfl) (fun _ _ _ => trivial) hc hc2 h1 h2 h3 h4 h5 (by rw [z_cat_up]; exact hcat) hd (fun H1 L e1 e2 e3 e4 => ?_)
  refine k ls H1 _ x (y.cpL ho2 kd e1 e3) ⟨e2.trans z.1, fun q hq => (e3 q (by omega)).trans (z.2.1 q hq), fun q hq => ?_⟩
  rcases List.mem_append.mp hq with hq | hq
  · exact z.2.2 q hq
  · rw [e4 q hq]; exact Nat.le_add_right _ _
theorem z_s_mmax (hx : p.tables.exec = Jvm.exec) (hb : c.code = cc) (hml : c.maxLocals = nL) {own : String} {i : Nat} (hown : s.vm.findClass own = some m.cls) (hw1 : (Cond.methodLink own i Lib.Math.max.name).before args s = true) (hw2 : (Cond.static Lib.Math.max.name).before args s = true) (hw3 : (Cond.initialized "java/lang/Math").before args s = true) (hw4 : (Cond.code Lib.Math.max.name Lib.Math.max.code 2 (some .int)).before args s = true)
    (hr1 : 1 ≤ R.frames) (hr2 : 60 ≤ R.locals) {x y : Int32} (hcat : z_cat st ≤ 8) (hd : decode cc pc = .ok (.invokestatic i, 3)) (k : z_Go p l e R s m args below meth c Q G nL (pc + 3) lo (.int (if x < y then y else x) :: st) h) : z_Go p l e R s m args below meth c Q G nL pc lo (.int y :: .int x :: st) h := by
  intro ls H locs u v w
  refine va_mmax hx hb (hml.trans u.1.symm) hown hw1 hw2 hw3 hw4 hr1 ?_ (Nat.zero_le _) (Nat.zero_le _) hd (k ls H locs u v w)
  rw [z_cat_up]
  omega
theorem z_s_mmin (hx : p.tables.exec = Jvm.exec) (hb : c.code = cc) (hml : c.maxLocals = nL) {own : String} {i : Nat} (hown : s.vm.findClass own = some m.cls) (hw1 : (Cond.methodLink own i Lib.Math.min.name).before args s = true) (hw2 : (Cond.static Lib.Math.min.name).before args s = true) (hw3 : (Cond.initialized "java/lang/Math").before args s = true) (hw4 : (Cond.code Lib.Math.min.name Lib.Math.min.code 2 (some .int)).before args s = true)
    (hr1 : 1 ≤ R.frames) (hr2 : 60 ≤ R.locals) {x y : Int32} (hcat : z_cat st ≤ 8) (hd : decode cc pc = .ok (.invokestatic i, 3)) (k : z_Go p l e R s m args below meth c Q G nL (pc + 3) lo (.int (if y < x then y else x) :: st) h) : z_Go p l e R s m args below meth c Q G nL pc lo (.int y :: .int x :: st) h := by
  intro ls H locs u v w
  refine va_mmin hx hb (hml.trans u.1.symm) hown hw1 hw2 hw3 hw4 hr1 ?_ (Nat.zero_le _) (Nat.zero_le _) hd (k ls H locs u v w)
  rw [z_cat_up]
  omega
end ZSC
end
section
/-! WHAT IS ASKED OF EACH ENTRY OF THE CODE TABLES (decided by reckoning), and that it is enough -/
/-- of a method: static, how many parameters, the kind of its receiver -/
def z_sgs : List (Bool × Nat × Nat) := [(false, 1, 1), (false, 1, 1), (false, 0, 1), (false, 0, 1), (false, 1, 1), (false, 3, 1), (false, 3, 1), (false, 2, 1), (false, 2, 1), (false, 2, 1), (false, 2, 1), (false, 2, 1), (false, 1, 1), (false, 4, 1), (false, 4, 1), (false, 3, 1), (false, 3, 1), (false, 0, 1), (false, 0, 1), (false, 3, 1), (false, 1, 1), (false, 2, 1), (false, 1, 1), (false, 1, 1), (false, 3, 1), (false, 3, 1), (false, 4, 1), (false, 0, 1), (false, 1, 1), (false, 1, 1), (false, 2, 1), (false, 0, 1), (false, 2, 1), (false, 0, 1), (false, 0, 1), (false, 3, 1), (false, 3, 1), (true, 1, 0), (true, 2, 0), (true, 1, 0), (true, 1, 0), (true, 1, 0), (true, 2, 0), (true, 3, 0), (true, 2, 0), (false, 1, 2), (false, 0, 2), (false, 0, 2), (false, 1, 2), (false, 0, 2), (false, 0, 2), (true, 1, 0), (true, 1, 0), (false, 0, 3), (false, 1, 3), (false, 0, 3), (false, 0, 3), (false, 0, 3), (true, 1, 0), (false, 1, 3), (false, 1, 3), (true, 1, 0), (true, 1, 0), (false, 3, 3), (false, 2, 3), (false, 2, 3), (false, 0, 3), (false, 0, 3), (false, 0, 4), (false, 1, 4), (false, 1, 4), (false, 2, 4), (false, 3, 4), (false, 1, 4), (false, 1, 4), (false, 3, 4), (false, 4, 4), (false, 4, 4), (false, 3, 4), (false, 2, 4), (false, 3, 4), (false, 0, 4), (false, 0, 4), (false, 1, 4), (false, 3, 4), (false, 0, 4), (false, 2, 4), (false, 1, 4), (false, 1, 4), (false, 0, 4), (false, 1, 5), (false, 0, 5), (false, 1, 5), (false, 3, 5), (false, 1, 5), (false, 3, 6), (false, 2, 6), (false, 3, 6), (false, 2, 6), (false, 3, 6), (false, 0, 6), (false, 0, 7), (false, 1, 7), (false, 1, 7), (false, 1, 7), (false, 1, 7), (false, 1, 7), (false, 0, 7), (false, 1, 7), (false, 0, 8), (false, 1, 8), (false, 3, 8), (false, 3, 8), (false, 2, 8), (false, 0, 9), (false, 2, 9), (false, 0, 9), (false, 1, 9), (false, 0, 9), (false, 0, 9), (false, 0, 9), (false, 1, 9), (false, 2, 11), (false, 2, 11), (false, 1, 11), (false, 1, 11), (false, 2, 11), (true, 3, 0), (true, 1, 0), (true, 3, 0), (true, 3, 0), (false, 0, 12), (false, 0, 12), (false, 1, 12), (false, 1, 12), (false, 2, 12), (false, 1, 12), (false, 5, 12), (false, 0, 12), (false, 0, 12), (false, 3, 12), (false, 0, 12), (false, 1, 12), (false, 0, 12), (false, 0, 12), (false, 0, 12), (false, 1, 12), (false, 1, 12), (false, 0, 12), (false, 0, 12), (false, 0, 12), (false, 0, 12), (false, 1, 12), (false, 2, 12), (false, 1, 12), (true, 1, 0), (false, 1, 12), (true, 1, 0), (false, 4, 12), (false, 3, 12), (false, 1, 12), (false, 2, 12), (false, 0, 12), (false, 2, 12), (false, 2, 12), (false, 2, 12), (false, 3, 12), (false, 2, 12), (false, 2, 12), (false, 3, 12), (false, 3, 12), (false, 1, 12), (false, 0, 12), (false, 0, 12), (false, 2, 12), (false, 0, 12), (false, 2, 12), (false, 1, 12), (false, 0, 12), (false, 0, 12), (false, 0, 12), (false, 2, 12), (false, 0, 12), (false, 1, 12), (false, 3, 12), (false, 3, 12), (false, 0, 12), (false, 2, 12), (false, 1, 12), (false, 1, 12), (false, 2, 12), (false, 2, 12), (false, 1, 12), (false, 1, 12), (false, 2, 12), (false, 2, 12), (false, 2, 12), (false, 1, 12), (false, 4, 12), (false, 4, 12), (false, 3, 12), (false, 3, 12), (false, 2, 12), (false, 0, 12), (false, 0, 12), (false, 3, 12), (false, 3, 12), (false, 1, 12), (false, 2, 12), (false, 1, 12), (false, 1, 12), (true, 2, 0), (false, 3, 12), (false, 3, 12), (false, 4, 12), (false, 0, 12), (false, 0, 12), (false, 2, 12), (false, 0, 12), (false, 0, 12), (false, 1, 12)]
def z_sgp : List (Bool × Nat × Nat) := [(true, 2, 0), (true, 2, 0), (true, 2, 0), (true, 2, 0), (true, 1, 0), (false, 0, 100), (false, 1, 100)]
def z_sg (id : Nat) : Bool × Nat × Nat := bif Nat.blt id 900 then z_sgs.getD id (true, 0, 0) else z_sgp.getD (id - 902) (true, 0, 0)
def z_dk (id pc : Nat) (ins : Instr) (n L : Nat) : Bool := decide (decode (z_mt id).2.1 pc = .ok (ins, L)) && Nat.beq n (pc + L)
def z_wd (pl : Nat) (w : Cond) : Bool := decide (lw_tbl[pl]? = some w)
def z_rc (id : Nat) : Nat := match (z_mt id).2.2.2 with
  | none => 0
  | some (.object _) => 2
  | some _ => 1
/-- a field's entry: own class, pool index, place of its word, class and place of the field -/
def z_fk (own : String) (i pl a b : Nat) : Bool := Nat.ble 1 a && Nat.ble a 12 && Nat.blt b (z_q a).2.2 && decide (((z_q a).2.1 b).1 = (z_q a).1) && z_wd pl (.fieldLink own i (z_q a).1 ((z_q a).2.1 b).2.1 ((z_q a).2.1 b).2.2.1)
def z_ck (own : String) (i pl a b c : Nat) (virt : Bool) : Bool := (Nat.blt a 221 || (Nat.ble 902 a && Nat.ble a 908 && !Nat.beq a 904 && !Nat.beq a 905)) && (z_wd pl (.methodLink own i (z_mt a).1) || z_wd pl (.methodLinkNest own i (z_mt a).1 "TestChoice")) && Nat.beq c (z_rc a) && (match virt with
  | true => !(z_sg a).1 && Nat.beq b ((z_sg a).2.1 + 1)
  | false => (z_sg a).1 && Nat.beq b (z_sg a).2.1)
def z_chk (id pc pl : Nat) (ins : Instr) (n : Nat) (v : Int32) (a b c : Nat) (sw : List (Int32 × Nat)) : Bool := match ins with
  | .iconst k => z_dk id pc ins n 1 && decide (Int32.ofInt k = v)
  | .bipush k => z_dk id pc ins n 2 && decide ((Int8.ofInt k).toInt32 = v)
  | .sipush k => z_dk id pc ins n 3 && decide ((Int16.ofInt k).toInt32 = v)
  | .ldc k => z_dk id pc ins n 2 && (match Nat.beq a 0 with
    | true => z_wd pl (.constant (z_mt id).1.cls k v)
    | false => decide ((z_mt id).1.cls = "TestChoice$Reader") && Nat.ble 1000 a && Nat.blt a 1006 && Nat.beq k (100 + 2 * (a - 1000)))
  | .ldc_w k => z_dk id pc ins n 3 && z_wd pl (.constant (z_mt id).1.cls k v)
  | .lconst k => z_dk id pc ins n 1 && decide (Int64.ofNat (k : Nat) = v.toInt64)
  | .ldc2_w k => z_dk id pc ins n 3 && z_wd pl (.constantLong (z_mt id).1.cls k v.toInt64)
  | .iload k => z_dk id pc ins n 2 && Nat.beq a k
  | .lload k => z_dk id pc ins n 2 && Nat.beq a k
  | .aload k => z_dk id pc ins n 2 && Nat.beq a k
  | .iload_n k => z_dk id pc ins n 1 && Nat.beq a k
  | .lload_n k => z_dk id pc ins n 1 && Nat.beq a k
  | .aload_n k => z_dk id pc ins n 1 && Nat.beq a k
  | .istore k => z_dk id pc ins n 2 && Nat.beq a k && Nat.blt a (z_mt id).2.2.1
  | .astore k => z_dk id pc ins n 2 && Nat.beq a k && Nat.blt a (z_mt id).2.2.1
  | .lstore k => z_dk id pc ins n 2 && Nat.beq a k && Nat.blt (a + 1) (z_mt id).2.2.1
  | .istore_n k => z_dk id pc ins n 1 && Nat.beq a k && Nat.blt a (z_mt id).2.2.1
  | .astore_n k => z_dk id pc ins n 1 && Nat.beq a k && Nat.blt a (z_mt id).2.2.1
  | .lstore_n k => z_dk id pc ins n 1 && Nat.beq a k && Nat.blt (a + 1) (z_mt id).2.2.1
  | .iinc k q => z_dk id pc ins n 3 && Nat.beq a k && decide (Int32.ofInt q = v) && Nat.blt a (z_mt id).2.2.1
  | .iaload | .laload | .baload | .aaload | .iastore | .bastore | .lastore | .arraylength | .pop | .dup | .dup2 | .iadd | .isub | .imul | .iand | .idiv | .irem | .ishr | .iushr | .ladd | .land | .lor | .lxor | .lcmp | .lshl | .lushr | .i2l | .l2i | .i2b | .i2s => z_dk id pc ins n 1
  | .getfield i => z_dk id pc ins n 3 && z_fk (z_mt id).1.cls i pl a b && Nat.beq c (match z_ft a b with | 1 => 1 | 2 => 2 | _ => 0)
  | .putfield i => z_dk id pc ins n 3 && z_fk (z_mt id).1.cls i pl a b && !((z_q a).2.1 b).2.2.2 && (match c, z_ft a b, z_qT a b with
    | 4, 0, .int => true
    | 3, 3, .boolean => true
    | 2, 2, .object _ => true
    | _, _, _ => false)
  | .ifCond _ off => z_dk id pc ins n 3 && decide ((pc : Int) + off = (a : Int))
  | .if_icmp _ off => z_dk id pc ins n 3 && decide ((pc : Int) + off = (a : Int))
  | .goto off => z_dk id pc ins n 3 && decide ((pc : Int) + off = (a : Int))
  | .tableswitch d low hi offs => z_dk id pc ins n (n - pc) && decide ((pc : Int) + d = (a : Int)) && decide (-1000 ≤ low) && decide (hi = low + offs.size - 1) && decide (hi ≤ 1000) && decide (∀ o ∈ offs, 0 ≤ (pc : Int) + o) && decide (sw = z_swTab pc low offs)
  | .lookupswitch d ps => z_dk id pc ins n (n - pc) && decide ((pc : Int) + d = (a : Int)) && (ps.toList.zip (ps.toList.drop 1)).all (fun (a, next) => a.1 < next.1) && decide (∀ q ∈ ps.toList, 0 ≤ (pc : Int) + q.2 ∧ -1000 ≤ q.1 ∧ q.1 ≤ 1000) && decide (sw = z_swLk pc ps)
  | .ireturn => z_dk id pc ins n 1 && (match (z_mt id).2.2.2, a with
    | some .int, 0 => true
    | some .boolean, 1 => true
    | _, _ => false)
  | .areturn => z_dk id pc ins n 1 && (match (z_mt id).2.2.2 with
    | some (.object _) => true
    | _ => false)
  | .return_ => z_dk id pc ins n 1 && (match (z_mt id).2.2.2 with
    | none => true
    | _ => false)
  | .invokevirtual i => z_dk id pc ins n 3 && z_ck (z_mt id).1.cls i pl a b c true && (match sw with
    | (_, k) :: _ => Nat.beq k (z_sg a).2.2
    | _ => false)
  | .invokestatic i => z_dk id pc ins n 3 && (match a with
    | 900 => z_wd pl (.methodLink (z_mt id).1.cls i arraycopyName)
    | 901 => z_wd pl (.methodLink (z_mt id).1.cls i arraycopyName)
    | 904 => z_wd pl (.methodLink (z_mt id).1.cls i Lib.Math.max.name)
    | 905 => z_wd pl (.methodLink (z_mt id).1.cls i Lib.Math.min.name)
    | _ => z_ck (z_mt id).1.cls i pl a b c false)
  | _ => false
def z_idok (id : Nat) : Prop := id < 221 ∨ (902 ≤ id ∧ id ≤ 908 ∧ id ≠ 904 ∧ id ≠ 905)
theorem z_dk_inv {id pc : Nat} {ins : Instr} {n L : Nat} (h : z_dk id pc ins n L = true) : decode (z_mt id).2.1 pc = .ok (ins, L) ∧ n = pc + L := by
  unfold z_dk at h
  simp only [Bool.and_eq_true, decide_eq_true_eq] at h
  exact ⟨h.1, z_beq h.2⟩
theorem z_wd_inv {pl : Nat} {w : Cond} (h : z_wd pl w = true) : w ∈ lw_tbl := by
  unfold z_wd at h
  exact List.mem_of_getElem? (of_decide_eq_true h)
theorem z_wd_good {pl : Nat} {w : Cond} (h : z_wd pl w = true) (g : goodWord w = true) : w ∈ z_good := List.mem_filter.mpr ⟨z_wd_inv h, g⟩
theorem z_fk_inv {own : String} {i pl a b : Nat} (h : z_fk own i pl a b = true) : 1 ≤ a ∧ a ≤ 12 ∧ b < (z_q a).2.2 ∧ ((z_q a).2.1 b).1 = (z_q a).1 ∧ Cond.fieldLink own i (z_q a).1 ((z_q a).2.1 b).2.1 ((z_q a).2.1 b).2.2.1 ∈ z_good := by
  unfold z_fk at h
  simp only [Bool.and_eq_true, decide_eq_true_eq] at h
  obtain ⟨⟨⟨⟨h1, h2⟩, h3⟩, h4⟩, h5⟩ := h
  exact ⟨Nat.le_of_ble_eq_true h1, Nat.le_of_ble_eq_true h2, Nat.le_of_ble_eq_true h3, h4, z_wd_good h5 rfl⟩
theorem z_nx_inv {pc : Nat} {l : z_L} {st : List Value} {h : z_H} {s' : z_S} (e : z_nx pc l st h = some (.inl s')) : s' = (pc, l, st, h) := (Sum.inl.inj (Option.some.inj e)).symm
theorem z_if_inv {g : Bool} {x : Option z_O} {o : z_O} (e : z_if g x = some o) : g = true ∧ x = some o := by
  cases g with
  | true => exact ⟨rfl, e⟩
  | false => cases e
theorem z_i1_inv {st : List Value} {f : Int32 → List Value → Option z_O} {o : z_O} (e : z_i1 st f = some o) : ∃ x r, st = .int x :: r ∧ f x r = some o := by
  unfold z_i1 at e
  split at e
  · exact ⟨_, _, rfl, e⟩
  · cases e
theorem z_i2_inv {st : List Value} {f : Int32 → Int32 → List Value → Option z_O} {o : z_O} (e : z_i2 st f = some o) : ∃ x y r, st = .int y :: .int x :: r ∧ f x y r = some o := by
  unfold z_i2 at e
  split at e
  · exact ⟨_, _, _, rfl, e⟩
  · cases e
theorem z_l1_inv {st : List Value} {f : Int64 → List Value → Option z_O} {o : z_O} (e : z_l1 st f = some o) : ∃ x r, st = .long x :: r ∧ f x r = some o := by
  unfold z_l1 at e
  split at e
  · exact ⟨_, _, rfl, e⟩
  · cases e
theorem z_l2_inv {st : List Value} {f : Int64 → Int64 → List Value → Option z_O} {o : z_O} (e : z_l2 st f = some o) : ∃ x y r, st = .long y :: .long x :: r ∧ f x y r = some o := by
  unfold z_l2 at e
  split at e
  · exact ⟨_, _, _, rfl, e⟩
  · cases e
theorem z_li_inv {st : List Value} {f : Int64 → Int32 → List Value → Option z_O} {o : z_O} (e : z_li st f = some o) : ∃ x y r, st = .int y :: .long x :: r ∧ f x y r = some o := by
  unfold z_li at e
  split at e
  · exact ⟨_, _, _, rfl, e⟩
  · cases e
theorem z_r1_inv {st : List Value} {f : Nat → List Value → Option z_O} {o : z_O} (e : z_r1 st f = some o) : ∃ x r, st = .ref x :: r ∧ f x r = some o := by
  unfold z_r1 at e
  split at e
  · exact ⟨_, _, rfl, e⟩
  · cases e
theorem z_ri_inv {st : List Value} {f : Nat → Int32 → List Value → Option z_O} {o : z_O} (e : z_ri st f = some o) : ∃ a j r, st = .int j :: .ref a :: r ∧ f a j r = some o := by
  unfold z_ri at e
  split at e
  · exact ⟨_, _, _, rfl, e⟩
  · cases e
theorem z_rii_inv {st : List Value} {f : Nat → Int32 → Int32 → List Value → Option z_O} {o : z_O} (e : z_rii st f = some o) : ∃ a j x r, st = .int x :: .int j :: .ref a :: r ∧ f a j x r = some o := by
  unfold z_rii at e
  split at e
  · exact ⟨_, _, _, _, rfl, e⟩
  · cases e
theorem z_ril_inv {st : List Value} {f : Nat → Int32 → Int64 → List Value → Option z_O} {o : z_O} (e : z_ril st f = some o) : ∃ a j x r, st = .long x :: .int j :: .ref a :: r ∧ f a j x r = some o := by
  unfold z_ril at e
  split at e
  · exact ⟨_, _, _, _, rfl, e⟩
  · cases e
theorem z_rr_inv {st : List Value} {f : Nat → Nat → List Value → Option z_O} {o : z_O} (e : z_rr st f = some o) : ∃ a x r, st = .ref x :: .ref a :: r ∧ f a x r = some o := by
  unfold z_rr at e
  split at e
  · exact ⟨_, _, _, rfl, e⟩
  · cases e
theorem z_cp_inv {st : List Value} {f : Nat → Int32 → Nat → Int32 → Int32 → List Value → Option z_O} {o : z_O} (e : z_cp st f = some o) : ∃ a sp d dp n r, st = .int n :: .int dp :: .ref d :: .int sp :: .ref a :: r ∧ f a sp d dp n r = some o := by
  unfold z_cp at e
  split at e
  · exact ⟨_, _, _, _, _, _, rfl, e⟩
  · cases e
theorem z_vi_inv {v : Option Value} {f : Int32 → Option z_O} {o : z_O} (e : z_vi v f = some o) : ∃ x, v = some (.int x) ∧ f x = some o := by
  unfold z_vi at e
  split at e
  · exact ⟨_, rfl, e⟩
  · cases e
theorem z_vl_inv {v : Option Value} {f : Int64 → Option z_O} {o : z_O} (e : z_vl v f = some o) : ∃ x, v = some (.long x) ∧ f x = some o := by
  unfold z_vl at e
  split at e
  · exact ⟨_, rfl, e⟩
  · cases e
theorem z_vr_inv {v : Option Value} {f : Nat → Option z_O} {o : z_O} (e : z_vr v f = some o) : ∃ x, v = some (.ref x) ∧ f x = some o := by
  unfold z_vr at e
  split at e
  · exact ⟨_, rfl, e⟩
  · cases e
theorem z_no999 {o : Nat} (h : (!Nat.beq o 999) = true) : o ≠ 999 := by
  intro e
  subst e
  cases h
theorem z_ck_id {o : String} {x y z w : Nat} {i : Nat} {vv : Bool} (hh : z_ck o x y i z w vv = true) : z_idok i := by
  unfold z_ck at hh
  simp only [Bool.and_eq_true, Bool.or_eq_true] at hh
  rcases hh.1.1.1 with q | q
  · exact Or.inl (Nat.le_of_ble_eq_true q)
  · refine Or.inr ⟨Nat.le_of_ble_eq_true q.1.1.1, Nat.le_of_ble_eq_true q.1.1.2, fun e => ?_, fun e => ?_⟩
    · subst e; exact absurd q.1.2 (by decide)
    · subst e; exact absurd q.2 (by decide)
end
section
theorem z_fv_c {G : z_G} {h : z_H} {o a b c : Nat} (hK : z_K o = a) (hc : c = (match z_ft a b with | 1 => 1 | 2 => 2 | _ => 0)) : z_up G (match (generalizing := false) c with | 1 => .ref (z_R o b) | 2 => .ref h.2.2 | _ => .int (h.1 o b)) = z_fv G h o b := by
  unfold z_fv
  subst hK
  subst hc
  generalize z_ft (z_K o) b = t
  match t with
  | 0 => rfl
  | 1 => rfl
  | 2 => rfl
  | t + 3 => rfl
theorem z_w_nat : Cond.native arraycopyName ∈ z_good := List.mem_filter.mpr ⟨List.mem_of_getElem? (i := 697) (by decide +kernel), rfl⟩
theorem z_w_sta : Cond.static arraycopyName ∈ z_good := List.mem_filter.mpr ⟨List.mem_of_getElem? (i := 696) (by decide +kernel), rfl⟩
theorem z_w_ini : Cond.initialized "java/lang/System" ∈ z_good := List.mem_filter.mpr ⟨List.mem_of_getElem? (i := 111) (by decide +kernel), rfl⟩
theorem z_exec_stat {i n : Nat} {v : Int32} {a b c : Nat} {sw : List (Int32 × Nat)} {l : z_L} {st : List Value} {h : z_H} (h0 : a ≠ 900) (h1 : a ≠ 901) (h2 : a ≠ 904) (h3 : a ≠ 905) : z_exec (.invokestatic i) n v a b c sw l st h = z_if (Nat.ble b st.length && Nat.ble (z_cat (st.drop b)) 8) (some (.inr (.inr (a, (st.take b).reverse, c, (n, l, st.drop b, h))))) := by
  show (match a with
    | 900 => _
    | 901 => _
    | 904 => _
    | 905 => _
    | _ => _) = _
  split
  · exact absurd rfl h0
  · exact absurd rfl h1
  · exact absurd rfl h2
  · exact absurd rfl h3
  · rfl
theorem z_w_smax : Cond.static Lib.Math.max.name ∈ z_good := List.mem_filter.mpr ⟨List.mem_of_getElem? (i := 672) (by decide +kernel), rfl⟩
theorem z_w_smin : Cond.static Lib.Math.min.name ∈ z_good := List.mem_filter.mpr ⟨List.mem_of_getElem? (i := 1041) (by decide +kernel), rfl⟩
theorem z_w_cmax : Cond.code Lib.Math.max.name Lib.Math.max.code 2 (some .int) ∈ z_good := List.mem_filter.mpr ⟨List.mem_of_getElem? (i := 673) (by decide +kernel), rfl⟩
theorem z_w_cmin : Cond.code Lib.Math.min.name Lib.Math.min.code 2 (some .int) ∈ z_good := List.mem_filter.mpr ⟨List.mem_of_getElem? (i := 1042) (by decide +kernel), rfl⟩
theorem z_w_im : Cond.initialized "java/lang/Math" ∈ z_good := List.mem_filter.mpr ⟨List.mem_of_getElem? (i := 110) (by decide +kernel), rfl⟩
/-! THE STEP: if the small machine goes on from a state, so does the real one -/
set_option maxHeartbeats 2000000 in
theorem z_sound_step {p : Program} {l : Launch} {e : Env} {R : Room} {s : State} {m : MethodId} {args : Array Value} {below : List Frame} {meth : Method} {c : Code} {Q : State → Prop} {G : z_G} {id pc pl : Nat} {lo : z_L} {st : List Value} {h : z_H}
    (hx : p.tables.exec = Jvm.exec) (hb : c.code = (z_mt id).2.1) (hml : c.maxLocals = (z_mt id).2.2.1) (hown : s.vm.findClass (z_mt id).1.cls = some m.cls) (hts : ∀ w ∈ z_good, w.before args s = true) (hK : z_Kn G s) (hr1 : 1 ≤ R.frames) (hr2 : 60 ≤ R.locals)
    {ins : Instr} {n : Nat} {v : Int32} {a b c' : Nat} {sw : List (Int32 × Nat)} {s' : z_S} (hc : z_chk id pc pl ins n v a b c' sw = true) (he : z_exec ins n v a b c' sw lo st h = some (.inl s'))
    (k : z_Go p l e R s m args below meth c Q G (z_mt id).2.2.1 s'.1 s'.2.1 s'.2.2.1 s'.2.2.2) : z_Go p l e R s m args below meth c Q G (z_mt id).2.2.1 pc lo st h := by
  cases ins
  all_goals first | exact absurd hc Bool.false_ne_true | skip
  case iconst q =>
    simp only [z_chk, Bool.and_eq_true, decide_eq_true_eq] at hc
    obtain ⟨h1, h2⟩ := hc
    obtain ⟨hd, rfl⟩ := z_dk_inv h1
    have hs := z_nx_inv (show z_nx _ _ _ _ = _ from he)
    subst hs
    exact z_s_iconst hx hb hd h2 k
  case bipush q =>
    simp only [z_chk, Bool.and_eq_true, decide_eq_true_eq] at hc
    obtain ⟨h1, h2⟩ := hc
    obtain ⟨hd, rfl⟩ := z_dk_inv h1
    have hs := z_nx_inv (show z_nx _ _ _ _ = _ from he)
    subst hs
    exact z_s_bipush hx hb hd h2 k
  case sipush q =>
    simp only [z_chk, Bool.and_eq_true, decide_eq_true_eq] at hc
    obtain ⟨h1, h2⟩ := hc
    obtain ⟨hd, rfl⟩ := z_dk_inv h1
    have hs := z_nx_inv (show z_nx _ _ _ _ = _ from he)
    subst hs
    exact z_s_sipush hx hb hd h2 k
  case lconst q =>
    simp only [z_chk, Bool.and_eq_true, decide_eq_true_eq] at hc
    obtain ⟨h1, h2⟩ := hc
    obtain ⟨hd, rfl⟩ := z_dk_inv h1
    have hs := z_nx_inv (show z_nx _ _ _ _ = _ from he)
    subst hs
    exact z_s_lconst hx hb hd h2 k
  case ldc q =>
    simp only [z_chk, Bool.and_eq_true] at hc
    obtain ⟨h1, h2⟩ := hc
    obtain ⟨hd, rfl⟩ := z_dk_inv h1
    have hs := z_nx_inv (show z_nx _ _ _ _ = _ from he)
    subst hs
    by_cases ha : a = 0
    · subst ha
      exact z_s_ldc hx hb hown (hts _ (z_wd_good (show z_wd pl (.constant (z_mt id).1.cls q v) = true from h2) rfl)) hd k
    · rw [z_beqF ha] at h2
      simp only [Bool.and_eq_true, decide_eq_true_eq] at h2
      obtain ⟨⟨⟨g1, g2⟩, g3⟩, g4⟩ := h2
      have g2 : 1000 ≤ a := Nat.le_of_ble_eq_true g2
      have g3 : a < 1006 := Nat.le_of_ble_eq_true g3
      have g4 := z_beq g4
      have k2 : z_Go p l e R s m args below meth c Q G (z_mt id).2.2.1 (pc + 2) lo (.ref a :: st) h := by
        have := k
        simp only [z_beqF ha, cond_false] at this
        exact this
      obtain ⟨j, hj⟩ : ∃ j, a = 1000 + j := ⟨a - 1000, by omega⟩
      have g5 : q = 100 + 2 * j := by rw [g4]; omega
      rw [g5] at hd
      rw [hj] at k2
      exact z_s_ldcS hx hb g1 (by omega) hown hK hd k2
  case ldc_w q =>
    simp only [z_chk, Bool.and_eq_true] at hc
    obtain ⟨h1, h2⟩ := hc
    obtain ⟨hd, rfl⟩ := z_dk_inv h1
    have hs := z_nx_inv (show z_nx _ _ _ _ = _ from he)
    subst hs
    exact z_s_ldcw hx hb hown (hts _ (z_wd_good h2 rfl)) hd k
  case ldc2_w q =>
    simp only [z_chk, Bool.and_eq_true] at hc
    obtain ⟨h1, h2⟩ := hc
    obtain ⟨hd, rfl⟩ := z_dk_inv h1
    have hs := z_nx_inv (show z_nx _ _ _ _ = _ from he)
    subst hs
    exact z_s_ldc2 hx hb hown (hts _ (z_wd_good h2 rfl)) hd k
  case iload q =>
    simp only [z_chk, Bool.and_eq_true] at hc
    obtain ⟨h1, h2⟩ := hc
    obtain ⟨hd, rfl⟩ := z_dk_inv h1
    have h2 := z_beq h2
    subst h2
    obtain ⟨x, g1, g2⟩ := z_vi_inv (show z_vi _ _ = _ from he)
    have hs := z_nx_inv g2
    subst hs
    exact z_s_iload hx hb g1 hd k
  case lload q =>
    simp only [z_chk, Bool.and_eq_true] at hc
    obtain ⟨h1, h2⟩ := hc
    obtain ⟨hd, rfl⟩ := z_dk_inv h1
    have h2 := z_beq h2
    subst h2
    obtain ⟨x, g1, g2⟩ := z_vl_inv (show z_vl _ _ = _ from he)
    have hs := z_nx_inv g2
    subst hs
    exact z_s_lload hx hb g1 hd k
  case iload_n q =>
    simp only [z_chk, Bool.and_eq_true] at hc
    obtain ⟨h1, h2⟩ := hc
    obtain ⟨hd, rfl⟩ := z_dk_inv h1
    have h2 := z_beq h2
    subst h2
    obtain ⟨x, g1, g2⟩ := z_vi_inv (show z_vi _ _ = _ from he)
    have hs := z_nx_inv g2
    subst hs
    exact z_s_iload_n hx hb g1 hd k
  case lload_n q =>
    simp only [z_chk, Bool.and_eq_true] at hc
    obtain ⟨h1, h2⟩ := hc
    obtain ⟨hd, rfl⟩ := z_dk_inv h1
    have h2 := z_beq h2
    subst h2
    obtain ⟨x, g1, g2⟩ := z_vl_inv (show z_vl _ _ = _ from he)
    have hs := z_nx_inv g2
    subst hs
    exact z_s_lload_n hx hb g1 hd k
  case aload q =>
    simp only [z_chk, Bool.and_eq_true] at hc
    obtain ⟨h1, h2⟩ := hc
    obtain ⟨hd, rfl⟩ := z_dk_inv h1
    have h2 := z_beq h2
    subst h2
    obtain ⟨x, g1, g2⟩ := z_vr_inv (show z_vr _ _ = _ from he)
    obtain ⟨g3, g4⟩ := z_if_inv g2
    have hs := z_nx_inv g4
    subst hs
    exact z_s_aload hx hb (z_no999 g3) g1 hd k
  case aload_n q =>
    simp only [z_chk, Bool.and_eq_true] at hc
    obtain ⟨h1, h2⟩ := hc
    obtain ⟨hd, rfl⟩ := z_dk_inv h1
    have h2 := z_beq h2
    subst h2
    obtain ⟨x, g1, g2⟩ := z_vr_inv (show z_vr _ _ = _ from he)
    obtain ⟨g3, g4⟩ := z_if_inv g2
    have hs := z_nx_inv g4
    subst hs
    exact z_s_aload_n hx hb (z_no999 g3) g1 hd k
  case istore q =>
    simp only [z_chk, Bool.and_eq_true] at hc
    obtain ⟨⟨h1, h2⟩, h3⟩ := hc
    obtain ⟨hd, rfl⟩ := z_dk_inv h1
    have h2 := z_beq h2
    subst h2
    obtain ⟨x, r, rfl, g2⟩ := z_i1_inv (show z_i1 _ _ = _ from he)
    have hs := z_nx_inv g2
    subst hs
    exact z_s_istore hx hb (Nat.le_of_ble_eq_true h3) hd k
  case istore_n q =>
    simp only [z_chk, Bool.and_eq_true] at hc
    obtain ⟨⟨h1, h2⟩, h3⟩ := hc
    obtain ⟨hd, rfl⟩ := z_dk_inv h1
    have h2 := z_beq h2
    subst h2
    obtain ⟨x, r, rfl, g2⟩ := z_i1_inv (show z_i1 _ _ = _ from he)
    have hs := z_nx_inv g2
    subst hs
    exact z_s_istore_n hx hb (Nat.le_of_ble_eq_true h3) hd k
  case lstore q =>
    simp only [z_chk, Bool.and_eq_true] at hc
    obtain ⟨⟨h1, h2⟩, h3⟩ := hc
    obtain ⟨hd, rfl⟩ := z_dk_inv h1
    have h2 := z_beq h2
    subst h2
    obtain ⟨x, r, rfl, g2⟩ := z_l1_inv (show z_l1 _ _ = _ from he)
    have hs := z_nx_inv g2
    subst hs
    exact z_s_lstore hx hb (Nat.le_of_ble_eq_true h3) hd k
  case lstore_n q =>
    simp only [z_chk, Bool.and_eq_true] at hc
    obtain ⟨⟨h1, h2⟩, h3⟩ := hc
    obtain ⟨hd, rfl⟩ := z_dk_inv h1
    have h2 := z_beq h2
    subst h2
    obtain ⟨x, r, rfl, g2⟩ := z_l1_inv (show z_l1 _ _ = _ from he)
    have hs := z_nx_inv g2
    subst hs
    exact z_s_lstore_n hx hb (Nat.le_of_ble_eq_true h3) hd k
  case astore q =>
    simp only [z_chk, Bool.and_eq_true] at hc
    obtain ⟨⟨h1, h2⟩, h3⟩ := hc
    obtain ⟨hd, rfl⟩ := z_dk_inv h1
    have h2 := z_beq h2
    subst h2
    obtain ⟨x, r, rfl, g2⟩ := z_r1_inv (show z_r1 _ _ = _ from he)
    obtain ⟨g3, g4⟩ := z_if_inv g2
    have hs := z_nx_inv g4
    subst hs
    exact z_s_astore hx hb (z_no999 g3) (Nat.le_of_ble_eq_true h3) hd k
  case astore_n q =>
    simp only [z_chk, Bool.and_eq_true] at hc
    obtain ⟨⟨h1, h2⟩, h3⟩ := hc
    obtain ⟨hd, rfl⟩ := z_dk_inv h1
    have h2 := z_beq h2
    subst h2
    obtain ⟨x, r, rfl, g2⟩ := z_r1_inv (show z_r1 _ _ = _ from he)
    obtain ⟨g3, g4⟩ := z_if_inv g2
    have hs := z_nx_inv g4
    subst hs
    exact z_s_astore_n hx hb (z_no999 g3) (Nat.le_of_ble_eq_true h3) hd k
  case iinc q w =>
    simp only [z_chk, Bool.and_eq_true, decide_eq_true_eq] at hc
    obtain ⟨⟨⟨h1, h2⟩, h3⟩, h4⟩ := hc
    obtain ⟨hd, rfl⟩ := z_dk_inv h1
    have h2 := z_beq h2
    subst h2
    obtain ⟨x, g1, g2⟩ := z_vi_inv (show z_vi _ _ = _ from he)
    have hs := z_nx_inv g2
    subst hs
    exact z_s_iinc hx hb g1 h3 (Nat.le_of_ble_eq_true h4) hd k
  case iadd  =>
    obtain ⟨hd, rfl⟩ := z_dk_inv (show z_dk _ _ _ _ 1 = true from hc)
    obtain ⟨x, y, r, rfl, g⟩ := z_i2_inv (show z_i2 _ _ = _ from he)
    have hs := z_nx_inv g
    subst hs
    exact z_s_iadd hx hb hd k
  case isub  =>
    obtain ⟨hd, rfl⟩ := z_dk_inv (show z_dk _ _ _ _ 1 = true from hc)
    obtain ⟨x, y, r, rfl, g⟩ := z_i2_inv (show z_i2 _ _ = _ from he)
    have hs := z_nx_inv g
    subst hs
    exact z_s_isub hx hb hd k
  case imul  =>
    obtain ⟨hd, rfl⟩ := z_dk_inv (show z_dk _ _ _ _ 1 = true from hc)
    obtain ⟨x, y, r, rfl, g⟩ := z_i2_inv (show z_i2 _ _ = _ from he)
    have hs := z_nx_inv g
    subst hs
    exact z_s_imul hx hb hd k
  case iand  =>
    obtain ⟨hd, rfl⟩ := z_dk_inv (show z_dk _ _ _ _ 1 = true from hc)
    obtain ⟨x, y, r, rfl, g⟩ := z_i2_inv (show z_i2 _ _ = _ from he)
    have hs := z_nx_inv g
    subst hs
    exact z_s_iand hx hb hd k
  case ishr  =>
    obtain ⟨hd, rfl⟩ := z_dk_inv (show z_dk _ _ _ _ 1 = true from hc)
    obtain ⟨x, y, r, rfl, g⟩ := z_i2_inv (show z_i2 _ _ = _ from he)
    have hs := z_nx_inv g
    subst hs
    exact z_s_ishr hx hb hd k
  case iushr  =>
    obtain ⟨hd, rfl⟩ := z_dk_inv (show z_dk _ _ _ _ 1 = true from hc)
    obtain ⟨x, y, r, rfl, g⟩ := z_i2_inv (show z_i2 _ _ = _ from he)
    have hs := z_nx_inv g
    subst hs
    exact z_s_iushr hx hb hd k
  case idiv  =>
    obtain ⟨hd, rfl⟩ := z_dk_inv (show z_dk _ _ _ _ 1 = true from hc)
    obtain ⟨x, y, r, rfl, g⟩ := z_i2_inv (show z_i2 _ _ = _ from he)
    obtain ⟨g1, g2⟩ := z_if_inv g
    have hs := z_nx_inv g2
    subst hs
    exact z_s_idiv hx hb (by simpa using g1) hd k
  case irem  =>
    obtain ⟨hd, rfl⟩ := z_dk_inv (show z_dk _ _ _ _ 1 = true from hc)
    obtain ⟨x, y, r, rfl, g⟩ := z_i2_inv (show z_i2 _ _ = _ from he)
    obtain ⟨g1, g2⟩ := z_if_inv g
    have hs := z_nx_inv g2
    subst hs
    exact z_s_irem hx hb (by simpa using g1) hd k
  case ladd  =>
    obtain ⟨hd, rfl⟩ := z_dk_inv (show z_dk _ _ _ _ 1 = true from hc)
    obtain ⟨x, y, r, rfl, g⟩ := z_l2_inv (show z_l2 _ _ = _ from he)
    have hs := z_nx_inv g
    subst hs
    exact z_s_ladd hx hb hd k
  case land  =>
    obtain ⟨hd, rfl⟩ := z_dk_inv (show z_dk _ _ _ _ 1 = true from hc)
    obtain ⟨x, y, r, rfl, g⟩ := z_l2_inv (show z_l2 _ _ = _ from he)
    have hs := z_nx_inv g
    subst hs
    exact z_s_land hx hb hd k
  case lor  =>
    obtain ⟨hd, rfl⟩ := z_dk_inv (show z_dk _ _ _ _ 1 = true from hc)
    obtain ⟨x, y, r, rfl, g⟩ := z_l2_inv (show z_l2 _ _ = _ from he)
    have hs := z_nx_inv g
    subst hs
    exact z_s_lor hx hb hd k
  case lxor  =>
    obtain ⟨hd, rfl⟩ := z_dk_inv (show z_dk _ _ _ _ 1 = true from hc)
    obtain ⟨x, y, r, rfl, g⟩ := z_l2_inv (show z_l2 _ _ = _ from he)
    have hs := z_nx_inv g
    subst hs
    exact z_s_lxor hx hb hd k
  case lcmp  =>
    obtain ⟨hd, rfl⟩ := z_dk_inv (show z_dk _ _ _ _ 1 = true from hc)
    obtain ⟨x, y, r, rfl, g⟩ := z_l2_inv (show z_l2 _ _ = _ from he)
    have hs := z_nx_inv g
    subst hs
    exact z_s_lcmp hx hb hd k
  case lshl  =>
    obtain ⟨hd, rfl⟩ := z_dk_inv (show z_dk _ _ _ _ 1 = true from hc)
    obtain ⟨x, y, r, rfl, g⟩ := z_li_inv (show z_li _ _ = _ from he)
    have hs := z_nx_inv g
    subst hs
    exact z_s_lshl hx hb hd k
  case lushr  =>
    obtain ⟨hd, rfl⟩ := z_dk_inv (show z_dk _ _ _ _ 1 = true from hc)
    obtain ⟨x, y, r, rfl, g⟩ := z_li_inv (show z_li _ _ = _ from he)
    have hs := z_nx_inv g
    subst hs
    exact z_s_lushr hx hb hd k
  case i2l  =>
    obtain ⟨hd, rfl⟩ := z_dk_inv (show z_dk _ _ _ _ 1 = true from hc)
    obtain ⟨x, r, rfl, g⟩ := z_i1_inv (show z_i1 _ _ = _ from he)
    have hs := z_nx_inv g
    subst hs
    exact z_s_i2l hx hb hd k
  case l2i  =>
    obtain ⟨hd, rfl⟩ := z_dk_inv (show z_dk _ _ _ _ 1 = true from hc)
    obtain ⟨x, r, rfl, g⟩ := z_l1_inv (show z_l1 _ _ = _ from he)
    have hs := z_nx_inv g
    subst hs
    exact z_s_l2i hx hb hd k
  case i2b  =>
    obtain ⟨hd, rfl⟩ := z_dk_inv (show z_dk _ _ _ _ 1 = true from hc)
    obtain ⟨x, r, rfl, g⟩ := z_i1_inv (show z_i1 _ _ = _ from he)
    have hs := z_nx_inv g
    subst hs
    exact z_s_i2b hx hb hd k
  case i2s  =>
    obtain ⟨hd, rfl⟩ := z_dk_inv (show z_dk _ _ _ _ 1 = true from hc)
    obtain ⟨x, r, rfl, g⟩ := z_i1_inv (show z_i1 _ _ = _ from he)
    have hs := z_nx_inv g
    subst hs
    exact z_s_i2s hx hb hd k
  case pop  =>
    obtain ⟨hd, rfl⟩ := z_dk_inv (show z_dk _ _ _ _ 1 = true from hc)
    match st, he with
    | .int _ :: r, he =>
      have hs := z_nx_inv (show z_nx _ _ _ _ = _ from he)
      subst hs
      exact z_s_pop1 hx hb rfl hd k
    | .ref _ :: r, he =>
      have hs := z_nx_inv (show z_nx _ _ _ _ = _ from he)
      subst hs
      exact z_s_pop1 hx hb rfl hd k
  case dup  =>
    obtain ⟨hd, rfl⟩ := z_dk_inv (show z_dk _ _ _ _ 1 = true from hc)
    match st, he with
    | .int _ :: r, he =>
      have hs := z_nx_inv (show z_nx _ _ _ _ = _ from he)
      subst hs
      exact z_s_dup hx hb rfl hd k
    | .ref _ :: r, he =>
      have hs := z_nx_inv (show z_nx _ _ _ _ = _ from he)
      subst hs
      exact z_s_dup hx hb rfl hd k
  case dup2  =>
    obtain ⟨hd, rfl⟩ := z_dk_inv (show z_dk _ _ _ _ 1 = true from hc)
    obtain ⟨o, j, r, rfl, g⟩ := z_ri_inv (show z_ri _ _ = _ from he)
    have hs := z_nx_inv g
    subst hs
    exact z_s_dup2 hx hb rfl rfl hd k
  case iaload  =>
    obtain ⟨hd, rfl⟩ := z_dk_inv (show z_dk _ _ _ _ 1 = true from hc)
    obtain ⟨o, j, r, rfl, g⟩ := z_ri_inv (show z_ri _ _ = _ from he)
    obtain ⟨g1, g2⟩ := z_if_inv g
    obtain ⟨g3, g4⟩ := z_if_inv g2
    have hs := z_nx_inv g4
    subst hs
    exact z_s_iaload hx hb hK (z_beq g1) g3 hd k
  case laload  =>
    obtain ⟨hd, rfl⟩ := z_dk_inv (show z_dk _ _ _ _ 1 = true from hc)
    obtain ⟨o, j, r, rfl, g⟩ := z_ri_inv (show z_ri _ _ = _ from he)
    obtain ⟨g1, g2⟩ := z_if_inv g
    obtain ⟨g3, g4⟩ := z_if_inv g2
    have hs := z_nx_inv g4
    subst hs
    exact z_s_laload hx hb hK (z_beq g1) g3 hd k
  case baload  =>
    obtain ⟨hd, rfl⟩ := z_dk_inv (show z_dk _ _ _ _ 1 = true from hc)
    obtain ⟨o, j, r, rfl, g⟩ := z_ri_inv (show z_ri _ _ = _ from he)
    obtain ⟨g1, g2⟩ := z_if_inv g
    obtain ⟨g3, g4⟩ := z_if_inv g2
    have hs := z_nx_inv g4
    subst hs
    have g1 : z_K o = 22 ∨ z_K o = 23 := by
      simp only [Bool.or_eq_true] at g1
      exact g1.imp z_beq z_beq
    exact z_s_baload hx hb hK g1 g3 hd k
  case aaload  =>
    obtain ⟨hd, rfl⟩ := z_dk_inv (show z_dk _ _ _ _ 1 = true from hc)
    obtain ⟨o, j, r, rfl, g⟩ := z_ri_inv (show z_ri _ _ = _ from he)
    obtain ⟨g1, g2⟩ := z_if_inv g
    obtain ⟨g3, g4⟩ := z_if_inv g2
    have hs := z_nx_inv g4
    subst hs
    simp only [Bool.and_eq_true] at g1
    exact z_s_aaload hx hb hK (Nat.le_of_ble_eq_true g1.1) g3 hd k
  case iastore  =>
    obtain ⟨hd, rfl⟩ := z_dk_inv (show z_dk _ _ _ _ 1 = true from hc)
    obtain ⟨o, j, x, r, rfl, g⟩ := z_rii_inv (show z_rii _ _ = _ from he)
    obtain ⟨g1, g2⟩ := z_if_inv g
    obtain ⟨g3, g4⟩ := z_if_inv g2
    have hs := z_nx_inv g4
    subst hs
    exact z_s_iastore hx hb hK (z_beq g1) g3 hd k
  case bastore  =>
    obtain ⟨hd, rfl⟩ := z_dk_inv (show z_dk _ _ _ _ 1 = true from hc)
    obtain ⟨o, j, x, r, rfl, g⟩ := z_rii_inv (show z_rii _ _ = _ from he)
    obtain ⟨g1, g2⟩ := z_if_inv g
    obtain ⟨g3, g4⟩ := z_if_inv g2
    have hs := z_nx_inv g4
    subst hs
    have g1 : z_K o = 22 ∨ z_K o = 23 := by
      simp only [Bool.or_eq_true] at g1
      exact g1.imp z_beq z_beq
    exact z_s_bastore hx hb hK g1 g3 hd k
  case lastore  =>
    obtain ⟨hd, rfl⟩ := z_dk_inv (show z_dk _ _ _ _ 1 = true from hc)
    obtain ⟨o, j, x, r, rfl, g⟩ := z_ril_inv (show z_ril _ _ = _ from he)
    obtain ⟨g1, g2⟩ := z_if_inv g
    obtain ⟨g3, g4⟩ := z_if_inv g2
    have hs := z_nx_inv g4
    subst hs
    exact z_s_lastore hx hb hK (z_beq g1) g3 hd k
  case arraylength  =>
    obtain ⟨hd, rfl⟩ := z_dk_inv (show z_dk _ _ _ _ 1 = true from hc)
    obtain ⟨o, r, rfl, g⟩ := z_r1_inv (show z_r1 _ _ = _ from he)
    obtain ⟨g1, g2⟩ := z_if_inv g
    have hs := z_nx_inv g2
    subst hs
    simp only [Bool.and_eq_true] at g1
    exact z_s_alen hx hb hK (Nat.le_of_ble_eq_true g1.1) hd k
  case getfield q =>
    simp only [z_chk, Bool.and_eq_true] at hc
    obtain ⟨⟨h1, h2⟩, h3⟩ := hc
    obtain ⟨hd, rfl⟩ := z_dk_inv h1
    obtain ⟨f1, f2, f3, f4, f5⟩ := z_fk_inv h2
    have h3 := z_beq h3
    obtain ⟨o, r, rfl, g⟩ := z_r1_inv (show z_r1 _ _ = _ from he)
    obtain ⟨g1, g2⟩ := z_if_inv g
    have hs := z_nx_inv g2
    subst hs
    have g1 := z_beq g1
    exact z_s_getfield hx hb hown hts hK f1 f2 g1 f3 f4 f5 hd (z_fv_c g1 h3) k
  case putfield q =>
    simp only [z_chk, Bool.and_eq_true] at hc
    obtain ⟨⟨⟨h1, h2⟩, hfin⟩, h3⟩ := hc
    obtain ⟨hd, rfl⟩ := z_dk_inv h1
    obtain ⟨f1, f2, f3, f4, f5⟩ := z_fk_inv h2
    have hfin : ((z_q a).2.1 b).2.2.2 = false := by simpa using hfin
    split at h3
    · rename_i e1 e2 e3
      match st, he with
      | .int x :: .ref o :: r, he =>
        obtain ⟨g1, g2⟩ := z_if_inv (show z_if _ _ = _ from he)
        have hs := z_nx_inv g2
        subst hs
        exact z_s_putI hx hb hown hts hK f1 f2 (z_beq g1) f3 f4 hfin f5 hd (by rw [e3]; rfl) (by rw [e3]; rfl) (by rw [e2]; decide) k
    · rename_i e1 e2 e3
      match st, he with
      | .int x :: .ref o :: r, he =>
        obtain ⟨g1, g2⟩ := z_if_inv (show z_if _ _ = _ from he)
        have hs := z_nx_inv g2
        subst hs
        simp only [Bool.and_eq_true, Bool.or_eq_true, decide_eq_true_eq] at g1
        obtain ⟨g1, g3⟩ := g1
        exact z_s_putI hx hb hown hts hK f1 f2 (z_beq g1) f3 f4 hfin f5 hd (by rw [e3]; rcases g3 with rfl | rfl <;> rfl) (by rw [e3]; rcases g3 with rfl | rfl <;> rfl) (by rw [e2]; decide) k
    · rename_i e1 e2 e3
      obtain ⟨o, x, r, rfl, g⟩ := z_rr_inv (show z_rr _ _ = _ from he)
      obtain ⟨g1, g2⟩ := z_if_inv g
      have hs := z_nx_inv g2
      subst hs
      simp only [Bool.and_eq_true] at g1
      exact z_s_putD hx hb hown hts hK f1 f2 (z_beq g1.1) f3 f4 hfin f5 hd ⟨_, e3⟩ (Nat.le_of_ble_eq_true g1.2) e2 k
    · cases h3
  case goto q =>
    simp only [z_chk, Bool.and_eq_true, decide_eq_true_eq] at hc
    obtain ⟨h1, h2⟩ := hc
    obtain ⟨hd, -⟩ := z_dk_inv h1
    have hs := z_nx_inv (show z_nx _ _ _ _ = _ from he)
    subst hs
    exact z_s_goto hx hb hd h2 k
  case ifCond cnd q =>
    simp only [z_chk, Bool.and_eq_true, decide_eq_true_eq] at hc
    obtain ⟨h1, h2⟩ := hc
    obtain ⟨hd, rfl⟩ := z_dk_inv h1
    cases cnd
    · obtain ⟨x, r, rfl, g⟩ := z_i1_inv (show z_i1 _ _ = _ from he)
      have hs := Sum.inl.inj (Option.some.inj g)
      obtain ⟨kt, kf⟩ := z_Go_ite (p := p) (l := l) (e := e) (R := R) (s := s) (m := m) (args := args) (below := below) (meth := meth) (c := c) (Q := Q) (G := G) (nL := (z_mt id).2.2.1) (fun s2 e2 => by rw [← e2, hs]; exact k)
      exact fun ls H locs u w z => lv_if_eq hx hb hd h2 (fun hp => kt hp ls H locs u w z) (fun hp => kf hp ls H locs u w z)
    · obtain ⟨x, r, rfl, g⟩ := z_i1_inv (show z_i1 _ _ = _ from he)
      have hs := Sum.inl.inj (Option.some.inj g)
      obtain ⟨kt, kf⟩ := z_Go_ite (p := p) (l := l) (e := e) (R := R) (s := s) (m := m) (args := args) (below := below) (meth := meth) (c := c) (Q := Q) (G := G) (nL := (z_mt id).2.2.1) (fun s2 e2 => by rw [← e2, hs]; exact k)
      exact fun ls H locs u w z => lv_if_ne hx hb hd h2 (fun hp => kt hp ls H locs u w z) (fun hp => kf (fun q => q hp) ls H locs u w z)
    · obtain ⟨x, r, rfl, g⟩ := z_i1_inv (show z_i1 _ _ = _ from he)
      have hs := Sum.inl.inj (Option.some.inj g)
      obtain ⟨kt, kf⟩ := z_Go_ite (p := p) (l := l) (e := e) (R := R) (s := s) (m := m) (args := args) (below := below) (meth := meth) (c := c) (Q := Q) (G := G) (nL := (z_mt id).2.2.1) (fun s2 e2 => by rw [← e2, hs]; exact k)
      exact fun ls H locs u w z => lv_if_lt hx hb hd h2 (fun hp => kt hp ls H locs u w z) (fun hp => kf hp ls H locs u w z)
    · obtain ⟨x, r, rfl, g⟩ := z_i1_inv (show z_i1 _ _ = _ from he)
      have hs := Sum.inl.inj (Option.some.inj g)
      obtain ⟨kt, kf⟩ := z_Go_ite (p := p) (l := l) (e := e) (R := R) (s := s) (m := m) (args := args) (below := below) (meth := meth) (c := c) (Q := Q) (G := G) (nL := (z_mt id).2.2.1) (fun s2 e2 => by rw [← e2, hs]; exact k)
      exact fun ls H locs u w z => lv_if_ge hx hb hd h2 (fun hp => kt hp ls H locs u w z) (fun hp => kf hp ls H locs u w z)
    · obtain ⟨x, r, rfl, g⟩ := z_i1_inv (show z_i1 _ _ = _ from he)
      have hs := Sum.inl.inj (Option.some.inj g)
      obtain ⟨kt, kf⟩ := z_Go_ite (p := p) (l := l) (e := e) (R := R) (s := s) (m := m) (args := args) (below := below) (meth := meth) (c := c) (Q := Q) (G := G) (nL := (z_mt id).2.2.1) (fun s2 e2 => by rw [← e2, hs]; exact k)
      exact fun ls H locs u w z => lv_if_gt hx hb hd h2 (fun hp => kt hp ls H locs u w z) (fun hp => kf hp ls H locs u w z)
    · obtain ⟨x, r, rfl, g⟩ := z_i1_inv (show z_i1 _ _ = _ from he)
      have hs := Sum.inl.inj (Option.some.inj g)
      obtain ⟨kt, kf⟩ := z_Go_ite (p := p) (l := l) (e := e) (R := R) (s := s) (m := m) (args := args) (below := below) (meth := meth) (c := c) (Q := Q) (G := G) (nL := (z_mt id).2.2.1) (fun s2 e2 => by rw [← e2, hs]; exact k)
      exact fun ls H locs u w z => lv_if_le hx hb hd h2 (fun hp => kt hp ls H locs u w z) (fun hp => kf hp ls H locs u w z)
  case if_icmp cnd q =>
    simp only [z_chk, Bool.and_eq_true, decide_eq_true_eq] at hc
    obtain ⟨h1, h2⟩ := hc
    obtain ⟨hd, rfl⟩ := z_dk_inv h1
    cases cnd
    · obtain ⟨x, y, r, rfl, g⟩ := z_i2_inv (show z_i2 _ _ = _ from he)
      have hs := Sum.inl.inj (Option.some.inj g)
      obtain ⟨kt, kf⟩ := z_Go_ite (p := p) (l := l) (e := e) (R := R) (s := s) (m := m) (args := args) (below := below) (meth := meth) (c := c) (Q := Q) (G := G) (nL := (z_mt id).2.2.1) (fun s2 e2 => by rw [← e2, hs]; exact k)
      exact fun ls H locs u w z => lv_icmp_eq hx hb hd h2 (fun hp => kt hp ls H locs u w z) (fun hp => kf hp ls H locs u w z)
    · obtain ⟨x, y, r, rfl, g⟩ := z_i2_inv (show z_i2 _ _ = _ from he)
      have hs := Sum.inl.inj (Option.some.inj g)
      obtain ⟨kt, kf⟩ := z_Go_ite (p := p) (l := l) (e := e) (R := R) (s := s) (m := m) (args := args) (below := below) (meth := meth) (c := c) (Q := Q) (G := G) (nL := (z_mt id).2.2.1) (fun s2 e2 => by rw [← e2, hs]; exact k)
      exact fun ls H locs u w z => lv_icmp_ne hx hb hd h2 (fun hp => kt hp ls H locs u w z) (fun hp => kf (fun q => q hp) ls H locs u w z)
    · obtain ⟨x, y, r, rfl, g⟩ := z_i2_inv (show z_i2 _ _ = _ from he)
      have hs := Sum.inl.inj (Option.some.inj g)
      obtain ⟨kt, kf⟩ := z_Go_ite (p := p) (l := l) (e := e) (R := R) (s := s) (m := m) (args := args) (below := below) (meth := meth) (c := c) (Q := Q) (G := G) (nL := (z_mt id).2.2.1) (fun s2 e2 => by rw [← e2, hs]; exact k)
      exact fun ls H locs u w z => lv_icmp_lt hx hb hd h2 (fun hp => kt hp ls H locs u w z) (fun hp => kf hp ls H locs u w z)
    · obtain ⟨x, y, r, rfl, g⟩ := z_i2_inv (show z_i2 _ _ = _ from he)
      have hs := Sum.inl.inj (Option.some.inj g)
      obtain ⟨kt, kf⟩ := z_Go_ite (p := p) (l := l) (e := e) (R := R) (s := s) (m := m) (args := args) (below := below) (meth := meth) (c := c) (Q := Q) (G := G) (nL := (z_mt id).2.2.1) (fun s2 e2 => by rw [← e2, hs]; exact k)
      exact fun ls H locs u w z => lv_icmp_ge hx hb hd h2 (fun hp => kt hp ls H locs u w z) (fun hp => kf hp ls H locs u w z)
    · obtain ⟨x, y, r, rfl, g⟩ := z_i2_inv (show z_i2 _ _ = _ from he)
      have hs := Sum.inl.inj (Option.some.inj g)
      obtain ⟨kt, kf⟩ := z_Go_ite (p := p) (l := l) (e := e) (R := R) (s := s) (m := m) (args := args) (below := below) (meth := meth) (c := c) (Q := Q) (G := G) (nL := (z_mt id).2.2.1) (fun s2 e2 => by rw [← e2, hs]; exact k)
      exact fun ls H locs u w z => lv_icmp_gt hx hb hd h2 (fun hp => kt hp ls H locs u w z) (fun hp => kf hp ls H locs u w z)
    · obtain ⟨x, y, r, rfl, g⟩ := z_i2_inv (show z_i2 _ _ = _ from he)
      have hs := Sum.inl.inj (Option.some.inj g)
      obtain ⟨kt, kf⟩ := z_Go_ite (p := p) (l := l) (e := e) (R := R) (s := s) (m := m) (args := args) (below := below) (meth := meth) (c := c) (Q := Q) (G := G) (nL := (z_mt id).2.2.1) (fun s2 e2 => by rw [← e2, hs]; exact k)
      exact fun ls H locs u w z => lv_icmp_le hx hb hd h2 (fun hp => kt hp ls H locs u w z) (fun hp => kf hp ls H locs u w z)
  case tableswitch d low hi offs =>
    simp only [z_chk, Bool.and_eq_true, decide_eq_true_eq] at hc
    obtain ⟨⟨⟨⟨⟨⟨h1, h2⟩, h3⟩, h4⟩, h5⟩, h6⟩, h7⟩ := hc
    obtain ⟨hd, -⟩ := z_dk_inv h1
    obtain ⟨x, r, rfl, g⟩ := z_i1_inv (show z_i1 _ _ = _ from he)
    have hs := Sum.inl.inj (Option.some.inj g)
    rw [z_sw_eq] at hs
    subst hs
    subst h7
    exact z_s_table hx hb hd h2 h3 h4 h5 h6 k
  case lookupswitch d ps =>
    simp only [z_chk, Bool.and_eq_true, decide_eq_true_eq] at hc
    obtain ⟨⟨⟨⟨h1, h2⟩, h3⟩, h4⟩, h5⟩ := hc
    obtain ⟨hd, -⟩ := z_dk_inv h1
    obtain ⟨x, r, rfl, g⟩ := z_i1_inv (show z_i1 _ _ = _ from he)
    have hs := Sum.inl.inj (Option.some.inj g)
    rw [z_sw_eq] at hs
    subst hs
    subst h5
    exact z_s_lookup hx hb hd h2 h3 h4 k
  case ireturn  =>
    obtain ⟨x, r, rfl, g⟩ := z_i1_inv (show z_i1 _ _ = _ from he)
    cases g
  case areturn  =>
    obtain ⟨x, r, rfl, g⟩ := z_r1_inv (show z_r1 _ _ = _ from he)
    obtain ⟨g1, g2⟩ := z_if_inv g
    cases g2
  case return_  =>
    cases (show some (Sum.inr (Sum.inl ((0 : Int32), h))) = some (Sum.inl s') from he)
  case invokevirtual q =>
    obtain ⟨g1, g2⟩ := z_if_inv (show z_if _ _ = _ from he)
    cases g2
  case invokestatic q =>
    simp only [z_chk, Bool.and_eq_true] at hc
    obtain ⟨h1, h2⟩ := hc
    obtain ⟨hd, rfl⟩ := z_dk_inv h1
    have hw2 : (Cond.native arraycopyName).before args s = true := hts _ z_w_nat
    have hw3 : (Cond.static arraycopyName).before args s = true := hts _ z_w_sta
    have hw4 : (Cond.initialized "java/lang/System").before args s = true := hts _ z_w_ini
    by_cases ha900 : a = 900
    · subst ha900
      obtain ⟨so, sp, d, dp, n, r, rfl, g⟩ := z_cp_inv (show z_cp _ _ = _ from he)
      obtain ⟨g1, g2⟩ := z_if_inv g
      have hs := z_nx_inv g2
      subst hs
      simp only [Bool.and_eq_true, Bool.not_eq_true', decide_eq_false_iff_not] at g1
      obtain ⟨⟨⟨⟨⟨⟨⟨⟨a1, a2⟩, a3⟩, a4⟩, a5⟩, a6⟩, a7⟩, a8⟩, a9⟩ := g1
      exact z_s_cpI hx hb hml hown (hts _ (z_wd_good (show z_wd pl (.methodLink (z_mt id).1.cls q arraycopyName) = true from h2) rfl)) hw2 hw3 hw4 hr1 hr2 hK (z_beq a1) (z_beq a2) a4 a5 a6 (Nat.le_of_ble_eq_true a7) (Nat.le_of_ble_eq_true a8) (Nat.le_of_ble_eq_true a9) hd k
    by_cases ha901 : a = 901
    · subst ha901
      obtain ⟨so, sp, d, dp, n, r, rfl, g⟩ := z_cp_inv (show z_cp _ _ = _ from he)
      obtain ⟨g1, g2⟩ := z_if_inv g
      have hs := z_nx_inv g2
      subst hs
      simp only [Bool.and_eq_true, Bool.not_eq_true', decide_eq_false_iff_not] at g1
      obtain ⟨⟨⟨⟨⟨⟨⟨⟨a1, a2⟩, a3⟩, a4⟩, a5⟩, a6⟩, a7⟩, a8⟩, a9⟩ := g1
      exact z_s_cpL hx hb hml hown (hts _ (z_wd_good (show z_wd pl (.methodLink (z_mt id).1.cls q arraycopyName) = true from h2) rfl)) hw2 hw3 hw4 hr1 hr2 hK (z_beq a1) (z_beq a2) a4 a5 a6 (Nat.le_of_ble_eq_true a7) (Nat.le_of_ble_eq_true a8) (Nat.le_of_ble_eq_true a9) hd k
    by_cases ha904 : a = 904
    · subst ha904
      obtain ⟨x, y, r, rfl, g⟩ := z_i2_inv (show z_i2 _ _ = _ from he)
      obtain ⟨g1, g2⟩ := z_if_inv g
      have hs := z_nx_inv g2
      subst hs
      exact z_s_mmax hx hb hml hown (hts _ (z_wd_good (show z_wd pl (.methodLink (z_mt id).1.cls q Lib.Math.max.name) = true from h2) rfl)) (hts _ z_w_smax) (hts _ z_w_im) (hts _ z_w_cmax) hr1 hr2 (Nat.le_of_ble_eq_true g1) hd k
    by_cases ha905 : a = 905
    · subst ha905
      obtain ⟨x, y, r, rfl, g⟩ := z_i2_inv (show z_i2 _ _ = _ from he)
      obtain ⟨g1, g2⟩ := z_if_inv g
      have hs := z_nx_inv g2
      subst hs
      exact z_s_mmin hx hb hml hown (hts _ (z_wd_good (show z_wd pl (.methodLink (z_mt id).1.cls q Lib.Math.min.name) = true from h2) rfl)) (hts _ z_w_smin) (hts _ z_w_im) (hts _ z_w_cmin) hr1 hr2 (Nat.le_of_ble_eq_true g1) hd k
    rw [z_exec_stat ha900 ha901 ha904 ha905] at he
    obtain ⟨g1, g2⟩ := z_if_inv he
    cases g2
end
section
/-! CONTRACTS OUT OF THE SMALL MACHINE -/
def z_rval (G : z_G) (rt : Option FieldType) (r : Int32) : Option Value := match rt with
  | none => none
  | some (.object _) => some (z_rv G r.toNatClampNeg)
  | some _ => some (.int r)
def z_Qc (G : z_G) (rt : Option FieldType) (r : z_A) : Array Value → State → Outcome → State → Prop := fun _ st o t => o = .returned (z_rval G rt r.1) ∧ z_Rep G r.2 t.heap ∧ t.heap.size = st.heap.size ∧ ∀ q, q < G.1 → t.heap[q]? = st.heap[q]?
def z_Pc (G : z_G) (a : List Value) (h : z_H) : Array Value → State → Prop := fun v U => v = (a.map (z_up G)).toArray ∧ z_Kn G U ∧ z_St G U U.heap ∧ z_Rep G h U.heap
def z_rm (n : Nat) : Room := { frames := n, cells := 0, slots := 0, locals := 80 * n }
def z_Met (l : Launch) (G : z_G) (id : Nat) (a : List Value) (h : z_H) (r : z_A) : Prop :=
  Met l (z_mt id).1 (z_ws id) (z_rm (z_rank id a)) (z_Pc G a h) (z_Qc G (z_mt id).2.2.2 r) 0 0 (fun q => G.1 ≤ q)
theorem z_blind (G : z_G) (a : List Value) (h : z_H) : FrameBlind (z_Pc G a h) := fun _ U g mk q => ⟨q.1, z_Kn.same (s := U) rfl q.2.1, z_St.to (s := U) (Vm.Alike.refl _) (fun _ _ _ => rfl) q.2.2.1, q.2.2.2⟩
/-- what the tables say of a method -/
def z_mok (id : Nat) : Prop := Cond.code (z_mt id).1 (z_mt id).2.1 (z_mt id).2.2.1 (z_mt id).2.2.2 ∈ z_good ∧ Cond.initialized (z_mt id).1.cls ∈ z_good ∧ ((z_mt id).1.cls ≠ "java/lang/invoke/MethodHandle" ∧ (z_mt id).1.cls ≠ "java/lang/invoke/VarHandle") ∧ (parseMethodDescriptor (z_mt id).1.desc).map (fun d => d.parameters.length) = some (z_sg id).2.1 ∧
  (match (z_sg id).1 with
  | true => Cond.static (z_mt id).1 ∈ z_good
  | false => Cond.instanceMethod (z_mt id).1 ∈ z_good ∧ Cond.selects (z_mt id).1.cls (z_mt id).1 (z_mt id).1 ∈ z_good ∧ ((1 ≤ (z_sg id).2.2 ∧ (z_sg id).2.2 ≤ 12 ∧ (z_q (z_sg id).2.2).1 = (z_mt id).1.cls) ∨ ((z_sg id).2.2 = 100 ∧ (z_mt id).1.cls = "java/lang/String"))) ∧
  (z_mt id).2.2.1 = z_ml id ∧ z_ml id ≤ 60 ∧ plainName (z_mt id).1.cls = true ∧ 1 ≤ z_rk id
theorem z_goodIn {own id : Nat} (hm : z_mok id) : GoodIn (z_ws own) (z_ws id) := by
  have key : ∀ w ∈ z_good, w ∈ z_ws own ∧ ((w.onTables && w.keeps) = true ∨ ∃ ty, w = .arrayClass ty) := fun w hw => ⟨List.mem_cons_of_mem _ hw, good_of_word (List.mem_filter.mp hw).2⟩
  intro w hw
  rcases List.mem_cons.mp hw with rfl | hw
  · exact key _ hm.1
  · exact key w hw
section ZCL
variable {p : Program} {l : Launch} {e : Env} {R : Room} {s : State} {m : MethodId} {args : Array Value} {below : List Frame} {meth : Method} {c : Code} {Q : State → Prop}
variable {G : z_G} {nL : Nat} {cc : ByteArray} {pc : Nat} {lo : z_L} {st : List Value} {h : z_H}
/-- the receiver's cell -/
theorem z_recv {H : Heap} {locs : List Loc} {id o k : Nat} (hm : z_mok id) (hv : (z_sg id).1 = false) (hk : k = (z_sg id).2.2) (hr : (bif Nat.beq k 100 then Nat.ble 1000 o && Nat.ble o 1005 else Nat.beq (z_K o) k) = true) (hK : z_Kn G s) (hSt : z_St G s s.heap) (hR : z_Rep G h H) (hF : z_Fr G s H locs) :
    z_up G (.ref o) = .ref (z_ad G o) ∧ ∃ cellB : Cell, H[z_ad G o]? = some cellB ∧ cellB.vm.isStatics = false ∧ s.vm.findClass (z_mt id).1.cls = some cellB.cls := by
  obtain ⟨-, -, -, -, hm5, -⟩ := hm
  rw [hv] at hm5
  obtain ⟨-, -, hm5⟩ := hm5
  subst hk
  rcases hm5 with ⟨h1, h2, h3⟩ | ⟨h1, h2⟩
  · rw [z_beqF (by omega)] at hr
    have hk : z_K o = (z_sg id).2.2 := z_beq hr
    have ho : o < 141 := z_K_lt (by omega)
    refine ⟨z_up_ref (by omega), ?_⟩
    rw [z_ad_lt ho]
    obtain ⟨cell, c1, c2, c3, -⟩ := (hR o ho).1 (by omega)
    refine ⟨cell, c1, by rw [c3]; rfl, ?_⟩
    obtain ⟨q1, -⟩ := z_q_ok _ h1 h2
    obtain ⟨-, hfc, -⟩ := hK.1.1 _ _ q1
    rw [c2, hk, ← h3]
    exact hfc
  · rw [h1] at hr
    simp only [Nat.beq_refl, cond_true, Bool.and_eq_true] at hr
    have b1 : 1000 ≤ o := Nat.le_of_ble_eq_true hr.1
    have b2 : o ≤ 1005 := Nat.le_of_ble_eq_true hr.2
    refine ⟨z_up_ref (by omega), ?_⟩
    obtain ⟨adV, hS, -, -⟩ := hSt
    obtain ⟨cell, g1, g2, g3, g4⟩ := (hS.1 (o - 1000) (by omega)).1
    have e1 : z_ad G o = G.2.1 (1000 + (o - 1000)) := by
      unfold z_ad
      have : Nat.blt o 141 = false := by
        cases hb : Nat.blt o 141 with
        | false => rfl
        | true => have := Nat.le_of_ble_eq_true hb; omega
      rw [this, show 1000 + (o - 1000) = o by omega]; rfl
    rw [e1, h2]
    refine ⟨cell, ?_, g2, g3⟩
    rw [hF.2.1 _ (by simpa using g4)]
    exact g1
/-- behind a call -/
theorem z_back {H : Heap} {ls : Array Slot} {locs : List Loc} {rest st0 : List Value} {rt : Option FieldType} {r : z_A} {a : Array Value} {n : Nat} (hr : va_Run p l e R s m args below meth c H locs 0 0 0 0 (F0 m pc ls st0) rest (z_Qc G rt r a) (fun q => G.1 ≤ q)) (hF : z_Fr G s H locs) (hn : n = pc + 3)
    (k : ∀ (H1 : Heap) (locs1 : List Loc), z_Rep G r.2 H1 → z_Fr G s H1 locs1 → W p l e R s m args below meth c H1 locs1 0 0 Q (F0 m n ls ((z_rval G rt r.1).toList ++ rest))) : W p l e R s m args below meth c H locs 0 0 Q (F0 m pc ls st0) := by
  subst hn
  intro T hT X
  obtain ⟨v, st₀, t, T', L, h0, X', hL, e1, e2, ⟨hv, hR, hz, hq⟩, st⟩ := hr T hT X
  cases hv
  rw [h0] at hz hq
  obtain ⟨t2, a1, b1⟩ := k T'.heap (locs ++ L) (by rw [e1]; exact hR) ⟨by rw [e1, hz]; exact hF.1, fun q h1 => by rw [e1, hq q h1]; exact hF.2.1 q h1, fun q hq => by
      rcases List.mem_append.mp hq with h | h
      · exact hF.2.2 q h
      · exact hL q h⟩ T' rfl X'
  exact ⟨t2, st t2 a1, b1⟩
theorem z_rets {id c' : Nat} (hc : c' = z_rc id) (r : Int32) (st : List Value) : (z_rval G (z_mt id).2.2.2 r).toList ++ st.map (z_up G) = (match (generalizing := false) c' with | 0 => st | 1 => .int r :: st | _ => .ref r.toNatClampNeg :: st).map (z_up G) := by
  unfold z_rc at hc
  unfold z_rval
  generalize (z_mt id).2.2.2 = rt at hc ⊢
  cases rt with
  | none => subst hc; rfl
  | some q => cases q <;> (subst hc; rfl)
theorem z_s_call {own id : Nat} (hx : p.tables.exec = Jvm.exec) (hb : c.code = cc) (hml : c.maxLocals = nL) (hown : s.vm.findClass (z_mt own).1.cls = some m.cls) (hts : ∀ w ∈ z_ws own, w.before args s = true) (hK : z_Kn G s) (hSt : z_St G s s.heap) (hm : z_mok id) {a rest : List Value} {r : z_A} {c' n i pl b : Nat} {virt : Bool} (hM : z_Met l G id a h r)
    (hst : st = a.reverse ++ rest) (hab : a.length = b) (hcat : z_cat rest ≤ 8) (hrk : z_rank id a + 1 ≤ R.frames ∧ 80 * (z_rank id a) + 80 ≤ R.locals) (hck : z_ck (z_mt own).1.cls i pl id b c' virt = true) (hn : n = pc + 3)
    (hrcv : virt = true → ∃ o As, a = .ref o :: As ∧ (bif Nat.beq (z_sg id).2.2 100 then Nat.ble 1000 o && Nat.ble o 1005 else Nat.beq (z_K o) (z_sg id).2.2) = true)
    (hd : decode cc pc = .ok (bif virt then .invokevirtual i else .invokestatic i, 3))
    (k : z_Go p l e R s m args below meth c Q G nL n lo (match (generalizing := false) c' with | 0 => rest | 1 => .int r.1 :: rest | _ => .ref r.1.toNatClampNeg :: rest) r.2) : z_Go p l e R s m args below meth c Q G nL pc lo st h := by
  intro ls H locs x y z
  unfold z_ck at hck
  simp only [Bool.and_eq_true, Bool.or_eq_true] at hck
  obtain ⟨⟨⟨-, hlk⟩, hc⟩, hvb⟩ := hck
  have hc := z_beq hc
  have hm0 := hm
  obtain ⟨m1, m2, m3, m4, m5, m6, m7, m8, -⟩ := hm
  have hgood : ∀ w ∈ z_good, w.before args s = true := fun w hw => hts w (List.mem_cons_of_mem _ hw)
  have hfix : CallFix p m c cc nL s args (z_ws own) (z_mt own).1.cls := ⟨hx, hb, hml, hown, hts⟩
  have hW : 2 * (F0 m pc ls (st.map (z_up G))).monitorRoom + ((rest.map (z_up G)).map fun v => v.category).sum ≤ 8 := by
    show 2 * 0 + _ ≤ 8
    rw [z_cat_up]
    omega
  have hPc : ∀ U : State, U.heap = H → s.WarmedH U.vm → z_Pc G a h (a.map (z_up G)).toArray U := fun U hU hW => ⟨rfl, z_Kn.warm hW hK, by
    rw [hU]
    exact hSt.to hW.alike (fun q _ h2 => z.2.1 q (by omega)), by rw [hU]; exact y⟩
  have hlen : ∀ sig, parseMethodDescriptor (z_mt id).1.desc = some sig → (z_sg id).2.1 = sig.parameters.length := fun sig hs => by
    rw [hs] at m4
    exact (Option.some.inj m4).symm
  have hroom : (z_rm (z_rank id a)).frames + 1 ≤ R.frames ∧ 8 + ((z_mt id).2.2.1 + 11) + (z_rm (z_rank id a)).locals ≤ R.locals := by
    refine ⟨hrk.1, ?_⟩
    show 8 + (_ + 11) + 80 * _ ≤ _
    rw [m6]
    omega
  have hpay := pay_in hts (z_goodIn (own := own) hm0)
  have hbase : (z_rm (z_rank id a)).cells = 0 ∧ (z_rm (z_rank id a)).slots = 0 ∧ (z_rm (z_rank id a)).frames + 1 ≤ R.frames ∧ 8 + ((z_mt id).2.2.1 + 11) + (z_rm (z_rank id a)).locals ≤ R.locals ∧ (∀ w ∈ z_ws id, ∀ (a' : Array Value) (U : State), s.WarmedH U.vm → w.before a' U = true) ∧ Cond.code (z_mt id).1 (z_mt id).2.1 (z_mt id).2.2.1 (z_mt id).2.2.2 ∈ z_ws id := ⟨rfl, rfl, hroom.1, hroom.2, hpay, List.mem_cons_self⟩
  refine z_back (G := G) (rt := (z_mt id).2.2.2) (r := r) (a := (a.map (z_up G)).toArray) (rest := rest.map (z_up G)) ?_ z hn (fun H1 locs1 hR hF => by
    rw [z_rets hc]
    exact k ls H1 locs1 x hR hF)
  cases virt with
  | true =>
    simp only [Bool.and_eq_true, Bool.not_eq_true'] at hvb
    obtain ⟨hv1, hv2⟩ := hvb
    have hv2 := z_beq hv2
    obtain ⟨o, As, rfl, hr⟩ := hrcv rfl
    obtain ⟨hup, hcell⟩ := z_recv hm0 hv1 rfl hr hK hSt y z
    rw [hv1] at m5
    obtain ⟨m5a, m5b, -⟩ := m5
    have hstk : (F0 m pc ls (st.map (z_up G))).stack = (As.map (z_up G)).reverse ++ .ref (z_ad G o) :: rest.map (z_up G) := by
      show st.map (z_up G) = _
      rw [hst]
      simp [hup]
    have hpre : PreV s H (z_mt id).1.cls (z_ad G o) (z_Pc G (.ref o :: As) h) (As.map (z_up G)) := ⟨z_blind G _ h, hcell, fun U hU hW => by
      have := hPc U hU hW
      rw [List.map_cons, hup] at this
      exact this⟩
    have hAl : (As.map (z_up G)).length = (z_sg id).2.1 := by
      rw [List.length_map]
      rw [List.length_cons] at hab
      omega
    rcases hlk with hlk | hlk
    · have := va_runV (R := R) (p := p) (l := l) (e := e) (below := below) (meth := meth) (cells := 0) (slots := 0) (locs := locs) hfix hM (cw := ⟨⟨hbase.1, hbase.2.1, hbase.2.2.1, hbase.2.2.2.1, hbase.2.2.2.2.1, hbase.2.2.2.2.2, hgood _ m1, hgood _ m2, m3, hlen, hgood _ (z_wd_good hlk rfl)⟩, hgood _ m5a, hgood _ m5b⟩) hpre (g := F0 m pc ls (st.map (z_up G))) rfl hAl x.1 hstk hW hd ⟨Nat.zero_le _, Nat.zero_le _⟩
      rw [List.map_cons, hup]
      exact this
    · have := va_runVN (R := R) (p := p) (l := l) (e := e) (below := below) (meth := meth) (cells := 0) (slots := 0) (locs := locs) (C := (z_mt id).1.cls) (host := "TestChoice") hfix hM (cw := ⟨⟨⟨hbase.1, hbase.2.1, hbase.2.2.1, hbase.2.2.2.1, hbase.2.2.2.2.1, hbase.2.2.2.2.2⟩, hgood _ m1, hgood _ m2, m3, hlen, va_Nw.use rfl (hK.2.1 _ _ _ _ (z_wd_inv hlk))⟩, hgood _ m5a, hgood _ m5b⟩) hpre (g := F0 m pc ls (st.map (z_up G))) rfl hAl x.1 hstk hW hd ⟨Nat.zero_le _, Nat.zero_le _⟩
      rw [List.map_cons, hup]
      exact this
  | false =>
    simp only [Bool.and_eq_true] at hvb
    obtain ⟨hv1, hv2⟩ := hvb
    have hv2 := z_beq hv2
    rw [hv1] at m5
    have hstk : (F0 m pc ls (st.map (z_up G))).stack = (a.map (z_up G)).reverse ++ rest.map (z_up G) := by
      show st.map (z_up G) = _
      rw [hst]
      simp
    have hpre : PreS s H (z_Pc G a h) (a.map (z_up G)) := ⟨z_blind G _ h, hPc⟩
    have hAl : (a.map (z_up G)).length = (z_sg id).2.1 := by
      rw [List.length_map]
      omega
    rcases hlk with hlk | hlk
    · exact va_runS (R := R) (p := p) (l := l) (e := e) (below := below) (meth := meth) (cells := 0) (slots := 0) (locs := locs) hfix hM (cw := ⟨⟨hbase.1, hbase.2.1, hbase.2.2.1, hbase.2.2.2.1, hbase.2.2.2.2.1, hbase.2.2.2.2.2, hgood _ m1, hgood _ m2, m3, hlen, hgood _ (z_wd_good hlk rfl)⟩, hgood _ m5⟩) hpre (g := F0 m pc ls (st.map (z_up G))) rfl hAl x.1 hstk hW hd ⟨Nat.zero_le _, Nat.zero_le _⟩
    · exact va_runSN (R := R) (p := p) (l := l) (e := e) (below := below) (meth := meth) (cells := 0) (slots := 0) (locs := locs) (host := "TestChoice") hfix hM (cw := ⟨⟨⟨hbase.1, hbase.2.1, hbase.2.2.1, hbase.2.2.2.1, hbase.2.2.2.2.1, hbase.2.2.2.2.2⟩, hgood _ m1, hgood _ m2, m3, hlen, va_Nw.use rfl (hK.2.1 _ _ _ _ (z_wd_inv hlk))⟩, hgood _ m5, trivial⟩) hpre (g := F0 m pc ls (st.map (z_up G))) rfl hAl x.1 hstk hW hd ⟨Nat.zero_le _, Nat.zero_le _⟩
/-! ends -/
theorem z_zret {free : Addr → Prop} {Qc : Array Value → State → Outcome → State → Prop} {v : Int32} {ty : FieldType} {H : Heap} {locs : List Loc} {cells slots : Nat} (hexec : p.tables.exec = Jvm.exec) (hb : c.code = cc) (hr : meth.sig.returnType = some ty) (hty : ty = .boolean)
    (hq : ∀ t : State, t.heap = H → s.WarmedH t.vm → Qc args s (.returned (some (.int (v &&& 1)))) t) (hf : ∀ q ∈ locs, free q.base)
    {ls : Array Slot} {stk : List Value} (hdg : decode cc pc = .ok (.ireturn, 1)) (hlocks : meth.locks = false) : W p l e R s m args below meth c H locs cells slots (MQ below Qc args s cells slots free) (F0 m pc ls (.int v :: stk)) := by
  subst hty
  intro T hT X
  obtain ⟨fs, hret, hrun, hended, hW, hframe⟩ := X.leave (v := some (.int (v &&& 1))) (fun h => by rw [hr] at h; cases h)
  have hmeth' : T.vm.method? m = some meth := X.method'
  refine ⟨T.setFrames fs, ?_, .returned (some (.int (v &&& 1))), hrun, hended, hq _ hT hW, locs, ⟨⟨_, rfl⟩, hW, hframe⟩, hf⟩
  jvm_step X.here [X.here.top, hexec, hb, hdg, hmeth', hr, narrow]
  (try refine ⟨rfl, ?_⟩); (try refine ⟨rfl, ?_⟩)
  first | (intro acts; rw [hret _ acts rfl rfl rfl]) | rw [hret _ _ rfl rfl rfl]
  exact Steps.refl _
end ZCL
end
section
/-! THE SMALL MACHINE IS RIGHT: what a method comes to, it comes to on the real machine -/
theorem z_nx_no {pc : Nat} {l : z_L} {st : List Value} {h : z_H} {q : z_A ⊕ (Nat × List Value × Nat × z_S)} : z_nx pc l st h ≠ some (.inr q) := fun e => by cases e
theorem z_if_no {g : Bool} {x : Option z_O} {o : z_O} (hx : x ≠ some o) : z_if g x ≠ some o := fun e => hx (z_if_inv e).2
theorem z_i1_no {st : List Value} {f : Int32 → List Value → Option z_O} {o : z_O} (hf : ∀ x r, f x r ≠ some o) : z_i1 st f ≠ some o := fun e => by
  obtain ⟨x, r, -, g⟩ := z_i1_inv e
  exact hf _ _ g
theorem z_i2_no {st : List Value} {f : Int32 → Int32 → List Value → Option z_O} {o : z_O} (hf : ∀ x y r, f x y r ≠ some o) : z_i2 st f ≠ some o := fun e => by
  obtain ⟨x, y, r, -, g⟩ := z_i2_inv e
  exact hf _ _ _ g
theorem z_l1_no {st : List Value} {f : Int64 → List Value → Option z_O} {o : z_O} (hf : ∀ x r, f x r ≠ some o) : z_l1 st f ≠ some o := fun e => by
  obtain ⟨x, r, -, g⟩ := z_l1_inv e
  exact hf _ _ g
theorem z_l2_no {st : List Value} {f : Int64 → Int64 → List Value → Option z_O} {o : z_O} (hf : ∀ x y r, f x y r ≠ some o) : z_l2 st f ≠ some o := fun e => by
  obtain ⟨x, y, r, -, g⟩ := z_l2_inv e
  exact hf _ _ _ g
theorem z_li_no {st : List Value} {f : Int64 → Int32 → List Value → Option z_O} {o : z_O} (hf : ∀ x y r, f x y r ≠ some o) : z_li st f ≠ some o := fun e => by
  obtain ⟨x, y, r, -, g⟩ := z_li_inv e
  exact hf _ _ _ g
theorem z_r1_no {st : List Value} {f : Nat → List Value → Option z_O} {o : z_O} (hf : ∀ x r, f x r ≠ some o) : z_r1 st f ≠ some o := fun e => by
  obtain ⟨x, r, -, g⟩ := z_r1_inv e
  exact hf _ _ g
theorem z_ri_no {st : List Value} {f : Nat → Int32 → List Value → Option z_O} {o : z_O} (hf : ∀ x y r, f x y r ≠ some o) : z_ri st f ≠ some o := fun e => by
  obtain ⟨x, y, r, -, g⟩ := z_ri_inv e
  exact hf _ _ _ g
theorem z_rii_no {st : List Value} {f : Nat → Int32 → Int32 → List Value → Option z_O} {o : z_O} (hf : ∀ x y z r, f x y z r ≠ some o) : z_rii st f ≠ some o := fun e => by
  obtain ⟨x, y, z, r, -, g⟩ := z_rii_inv e
  exact hf _ _ _ _ g
theorem z_ril_no {st : List Value} {f : Nat → Int32 → Int64 → List Value → Option z_O} {o : z_O} (hf : ∀ x y z r, f x y z r ≠ some o) : z_ril st f ≠ some o := fun e => by
  obtain ⟨x, y, z, r, -, g⟩ := z_ril_inv e
  exact hf _ _ _ _ g
theorem z_rr_no {st : List Value} {f : Nat → Nat → List Value → Option z_O} {o : z_O} (hf : ∀ x y r, f x y r ≠ some o) : z_rr st f ≠ some o := fun e => by
  obtain ⟨x, y, r, -, g⟩ := z_rr_inv e
  exact hf _ _ _ g
theorem z_vi_no {v : Option Value} {f : Int32 → Option z_O} {o : z_O} (hf : ∀ x, f x ≠ some o) : z_vi v f ≠ some o := fun e => by
  obtain ⟨x, -, g⟩ := z_vi_inv e
  exact hf _ g
theorem z_vl_no {v : Option Value} {f : Int64 → Option z_O} {o : z_O} (hf : ∀ x, f x ≠ some o) : z_vl v f ≠ some o := fun e => by
  obtain ⟨x, -, g⟩ := z_vl_inv e
  exact hf _ g
theorem z_vr_no {v : Option Value} {f : Nat → Option z_O} {o : z_O} (hf : ∀ x, f x ≠ some o) : z_vr v f ≠ some o := fun e => by
  obtain ⟨x, -, g⟩ := z_vr_inv e
  exact hf _ g
theorem z_br_no {c : Prop} [Decidable c] {t n : Nat} {l : z_L} {st : List Value} {h : z_H} {q : z_A ⊕ (Nat × List Value × Nat × z_S)} : z_br c t n l st h ≠ some (.inr q) := fun e => by cases e
theorem z_sw_no {s : z_S} {q : z_A ⊕ (Nat × List Value × Nat × z_S)} : (some (Sum.inl s) : Option z_O) ≠ some (.inr q) := fun e => by cases e
set_option maxHeartbeats 1000000 in
theorem z_exec_inr {id pc pl : Nat} {ins : Instr} {n : Nat} {v : Int32} {a b c' : Nat} {sw : List (Int32 × Nat)} {l : z_L} {st : List Value} {h : z_H} {q : z_A ⊕ (Nat × List Value × Nat × z_S)} (hc : z_chk id pc pl ins n v a b c' sw = true) (he : z_exec ins n v a b c' sw l st h = some (.inr q)) :
    ins = .ireturn ∨ ins = .areturn ∨ ins = .return_ ∨ (∃ i, ins = .invokevirtual i) ∨ ∃ i, ins = .invokestatic i := by
  cases ins
  case ireturn => exact Or.inl rfl
  case areturn => exact Or.inr (Or.inl rfl)
  case return_ => exact Or.inr (Or.inr (Or.inl rfl))
  case invokevirtual i => exact Or.inr (Or.inr (Or.inr (Or.inl ⟨i, rfl⟩)))
  case invokestatic i => exact Or.inr (Or.inr (Or.inr (Or.inr ⟨i, rfl⟩)))
  case ifCond cnd off => cases cnd <;> exact absurd he (z_i1_no fun _ _ => z_br_no)
  case if_icmp cnd off => cases cnd <;> exact absurd he (z_i2_no fun _ _ _ => z_br_no)
  case pop =>
    match st, he with
    | .int _ :: r, he => exact absurd he z_nx_no
    | .ref _ :: r, he => exact absurd he z_nx_no
  case dup =>
    match st, he with
    | .int _ :: r, he => exact absurd he z_nx_no
    | .ref _ :: r, he => exact absurd he z_nx_no
  case putfield i =>
    simp only [z_chk, Bool.and_eq_true] at hc
    obtain ⟨-, h3⟩ := hc
    split at h3
    · match st, he with
      | .int x :: .ref o :: r, he => exact absurd he (z_if_no z_nx_no)
    · match st, he with
      | .int x :: .ref o :: r, he => exact absurd he (z_if_no z_nx_no)
    · exact absurd he (z_rr_no fun _ _ _ => z_if_no z_nx_no)
    · cases h3
  case tableswitch => exact absurd he (z_i1_no fun _ _ => z_sw_no)
  case lookupswitch => exact absurd he (z_i1_no fun _ _ => z_sw_no)
  all_goals first
    | exact absurd hc Bool.false_ne_true
    | exact absurd he z_nx_no
    | exact absurd he (z_vi_no fun _ => z_nx_no)
    | exact absurd he (z_vl_no fun _ => z_nx_no)
    | exact absurd he (z_vr_no fun _ => z_if_no z_nx_no)
    | exact absurd he (z_i1_no fun _ _ => z_nx_no)
    | exact absurd he (z_i2_no fun _ _ _ => z_nx_no)
    | exact absurd he (z_i2_no fun _ _ _ => z_if_no z_nx_no)
    | exact absurd he (z_l1_no fun _ _ => z_nx_no)
    | exact absurd he (z_l2_no fun _ _ _ => z_nx_no)
    | exact absurd he (z_li_no fun _ _ _ => z_nx_no)
    | exact absurd he (z_r1_no fun _ _ => z_if_no z_nx_no)
    | exact absurd he (z_ri_no fun _ _ _ => z_nx_no)
    | exact absurd he (z_ri_no fun _ _ _ => z_if_no (z_if_no z_nx_no))
    | exact absurd he (z_rii_no fun _ _ _ _ => z_if_no (z_if_no z_nx_no))
    | exact absurd he (z_ril_no fun _ _ _ _ => z_if_no (z_if_no z_nx_no))
section ZMN
variable {p : Program} {l : Launch} {e : Env} {R : Room} {s : State} {m : MethodId} {args : Array Value} {below : List Frame} {meth : Method} {c : Code} {Q : State → Prop}
variable {G : z_G} {nL : Nat} {cc : ByteArray} {pc : Nat} {lo : z_L} {st : List Value} {h : z_H}
theorem z_iret {free : Addr → Prop} {Qc : Array Value → State → Outcome → State → Prop} {v : Int32} {H : Heap} {locs : List Loc} {cells slots : Nat} (hexec : p.tables.exec = Jvm.exec) (hb : c.code = cc) (hr : meth.sig.returnType = some .int)
    (hq : ∀ t : State, t.heap = H → s.WarmedH t.vm → Qc args s (.returned (some (.int v))) t) (hf : ∀ q ∈ locs, free q.base)
    {ls : Array Slot} {stk : List Value} (hdg : decode cc pc = .ok (.ireturn, 1)) (hlocks : meth.locks = false) : W p l e R s m args below meth c H locs cells slots (MQ below Qc args s cells slots free) (F0 m pc ls (.int v :: stk)) := by
  intro T hT X
  obtain ⟨fs, hret, hrun, hended, hW, hframe⟩ := X.leave (v := some (.int v)) (fun h => by rw [hr] at h; cases h)
  have hmeth' : T.vm.method? m = some meth := X.method'
  refine ⟨T.setFrames fs, ?_, .returned (some (.int v)), hrun, hended, hq _ hT hW, locs, ⟨⟨_, rfl⟩, hW, hframe⟩, hf⟩
  jvm_step X.here [X.here.top, hexec, hb, hdg, hmeth', hr, narrow]
  (try refine ⟨rfl, ?_⟩); (try refine ⟨rfl, ?_⟩)
  first | (intro acts; rw [hret _ acts rfl rfl rfl]) | rw [hret _ _ rfl rfl rfl]
  exact Steps.refl _
theorem z_vret {free : Addr → Prop} {Qc : Array Value → State → Outcome → State → Prop} {H : Heap} {locs : List Loc} {cells slots : Nat} (hexec : p.tables.exec = Jvm.exec) (hb : c.code = cc) (hr : meth.sig.returnType = none)
    (hq : ∀ t : State, t.heap = H → s.WarmedH t.vm → Qc args s (.returned none) t) (hf : ∀ q ∈ locs, free q.base)
    {ls : Array Slot} {stk : List Value} (hdg : decode cc pc = .ok (.return_, 1)) (hlocks : meth.locks = false) : W p l e R s m args below meth c H locs cells slots (MQ below Qc args s cells slots free) (F0 m pc ls stk) := by
  intro T hT X
  obtain ⟨fs, hret, hrun, hended, hW, hframe⟩ := X.leave (v := none) (fun _ => rfl)
  have hmeth' : T.vm.method? m = some meth := X.method'
  refine ⟨T.setFrames fs, ?_, .returned none, hrun, hended, hq _ hT hW, locs, ⟨⟨_, rfl⟩, hW, hframe⟩, hf⟩
  jvm_step X.here [X.here.top, hexec, hb, hdg, hmeth', hr]
  (try refine ⟨rfl, ?_⟩); (try refine ⟨rfl, ?_⟩)
  first | (intro acts; rw [hret _ acts rfl rfl rfl]) | rw [hret _ _ rfl rfl rfl]
  exact Steps.refl _
theorem z_aret {free : Addr → Prop} {Qc : Array Value → State → Outcome → State → Prop} {v : Nat} {n : String} {H : Heap} {locs : List Loc} {cells slots : Nat} (hexec : p.tables.exec = Jvm.exec) (hb : c.code = cc) (hr : meth.sig.returnType = some (.object n))
    (hq : ∀ t : State, t.heap = H → s.WarmedH t.vm → Qc args s (.returned (some (.ref v))) t) (hf : ∀ q ∈ locs, free q.base)
    {ls : Array Slot} {stk : List Value} (hdg : decode cc pc = .ok (.areturn, 1)) (hlocks : meth.locks = false) : W p l e R s m args below meth c H locs cells slots (MQ below Qc args s cells slots free) (F0 m pc ls (.ref v :: stk)) := by
  intro T hT X
  obtain ⟨fs, hret, hrun, hended, hW, hframe⟩ := X.leave (v := some (.ref v)) (fun h => by rw [hr] at h; cases h)
  have hmeth' : T.vm.method? m = some meth := X.method'
  refine ⟨T.setFrames fs, ?_, .returned (some (.ref v)), hrun, hended, hq _ hT hW, locs, ⟨⟨_, rfl⟩, hW, hframe⟩, hf⟩
  jvm_step X.here [X.here.top, hexec, hb, hdg, hmeth', hr]
  (try refine ⟨rfl, ?_⟩); (try refine ⟨rfl, ?_⟩)
  first | (intro acts; rw [hret _ acts rfl rfl rfl]) | rw [hret _ _ rfl rfl rfl]
  exact Steps.refl _
/-- the end of a method -/
theorem z_sound_ret {id pl : Nat} {ins : Instr} {n : Nat} {v : Int32} {a b c' : Nat} {sw : List (Int32 × Nat)} {r : z_A} (hx : p.tables.exec = Jvm.exec) (hb : c.code = (z_mt id).2.1) (hr : meth.sig.returnType = (z_mt id).2.2.2) (hlocks : meth.locks = false) (hc : z_chk id pc pl ins n v a b c' sw = true) (he : z_exec ins n v a b c' sw lo st h = some (.inr (.inl r))) :
    z_Go p l e R s m args below meth c (MQ below (z_Qc G (z_mt id).2.2.2 r) args s 0 0 (fun q => G.1 ≤ q)) G nL pc lo st h := by
  intro ls H locs x y z
  have hq : ∀ (o : Outcome) (t : State), o = .returned (z_rval G (z_mt id).2.2.2 r.1) → r.2 = h → t.heap = H → z_Qc G (z_mt id).2.2.2 r args s o t := fun o t h1 h2 h3 => ⟨h1, by rw [h3, h2]; exact y, by rw [h3]; exact z.1, fun q h4 => by rw [h3]; exact z.2.1 q h4⟩
  rcases z_exec_inr hc he with rfl | rfl | rfl | ⟨i, rfl⟩ | ⟨i, rfl⟩
  · simp only [z_chk, Bool.and_eq_true] at hc
    obtain ⟨h1, h2⟩ := hc
    obtain ⟨hd, -⟩ := z_dk_inv h1
    obtain ⟨x0, r0, rfl, g⟩ := z_i1_inv (show z_i1 _ _ = _ from he)
    have g := Sum.inl.inj (Sum.inr.inj (Option.some.inj g))
    split at h2
    · rename_i q1 q2
      rw [q1] at hr
      refine z_iret hx hb hr (fun t ht _ => hq _ t ?_ (by rw [← g]) ht) z.2.2 hd hlocks
      rw [q1, ← g]; rfl
    · rename_i q1 q2
      rw [q1] at hr
      refine z_zret hx hb hr rfl (fun t ht _ => hq _ t ?_ (by rw [← g]) ht) z.2.2 hd hlocks
      rw [q1, ← g]; rfl
    · cases h2
  · simp only [z_chk, Bool.and_eq_true] at hc
    obtain ⟨h1, h2⟩ := hc
    obtain ⟨hd, -⟩ := z_dk_inv h1
    obtain ⟨x0, r0, rfl, g⟩ := z_r1_inv (show z_r1 _ _ = _ from he)
    obtain ⟨g1, g2⟩ := z_if_inv g
    have g := Sum.inl.inj (Sum.inr.inj (Option.some.inj g2))
    simp only [Bool.and_eq_true] at g1
    have g3 : x0 < 2000 := Nat.le_of_ble_eq_true g1.1
    split at h2
    · rename_i nm q1
      rw [q1] at hr
      simp only [List.map_cons]
      rw [z_up_ref (z_no999 g1.2)]
      refine z_aret hx hb hr (fun t ht _ => hq _ t ?_ (by rw [← g]) ht) z.2.2 hd hlocks
      rw [q1, ← g]
      show _ = Outcome.returned (some (z_rv G (Int32.ofNat x0).toNatClampNeg))
      rw [clamp_of rfl (Nat.lt_trans g3 (by decide))]
      rw [show z_rv G x0 = z_up G (.ref x0) from rfl, z_up_ref (z_no999 g1.2)]
    · cases h2
  · simp only [z_chk, Bool.and_eq_true] at hc
    obtain ⟨h1, h2⟩ := hc
    obtain ⟨hd, -⟩ := z_dk_inv h1
    have g := Sum.inl.inj (Sum.inr.inj (Option.some.inj (show some (Sum.inr (Sum.inl ((0 : Int32), h))) = _ from he)))
    split at h2
    · rename_i q1
      rw [q1] at hr
      refine z_vret hx hb hr (fun t ht _ => hq _ t ?_ (by rw [← g]) ht) z.2.2 hd hlocks
      rw [q1]; rfl
    · cases h2
  · obtain ⟨g1, g2⟩ := z_if_inv (show z_if _ _ = _ from he)
    cases g2
  · by_cases ha0 : a = 900
    · subst ha0
      obtain ⟨so, sp, d, dp, n, r, rfl, g⟩ := z_cp_inv (show z_cp _ _ = _ from he)
      exact absurd (z_if_inv g).2 z_nx_no
    by_cases ha1 : a = 901
    · subst ha1
      obtain ⟨so, sp, d, dp, n, r, rfl, g⟩ := z_cp_inv (show z_cp _ _ = _ from he)
      exact absurd (z_if_inv g).2 z_nx_no
    by_cases ha4 : a = 904
    · subst ha4
      obtain ⟨x, y, r, rfl, g⟩ := z_i2_inv (show z_i2 _ _ = _ from he)
      exact absurd (z_if_inv g).2 z_nx_no
    by_cases ha5 : a = 905
    · subst ha5
      obtain ⟨x, y, r, rfl, g⟩ := z_i2_inv (show z_i2 _ _ = _ from he)
      exact absurd (z_if_inv g).2 z_nx_no
    rw [z_exec_stat ha0 ha1 ha4 ha5] at he
    cases (z_if_inv he).2
/-- a call -/
theorem z_sound_call {own pl : Nat} {ins : Instr} {n : Nat} {v : Int32} {a b c' : Nat} {sw : List (Int32 × Nat)} {id cr : Nat} {as : List Value} {s' : z_S} {r : z_A} (hx : p.tables.exec = Jvm.exec) (hb : c.code = (z_mt own).2.1) (hml : c.maxLocals = nL) (hown : s.vm.findClass (z_mt own).1.cls = some m.cls) (hts : ∀ w ∈ z_ws own, w.before args s = true) (hK : z_Kn G s) (hSt : z_St G s s.heap)
    (hmo : ∀ i, z_idok i → z_mok i) (hc : z_chk own pc pl ins n v a b c' sw = true) (he : z_exec ins n v a b c' sw lo st h = some (.inr (.inr (id, as, cr, s')))) (hrk : z_rank id as + 1 ≤ R.frames ∧ 80 * (z_rank id as) + 80 ≤ R.locals)
    (hM : z_idok id → z_Met l G id as s'.2.2.2 r)
    (k : z_Go p l e R s m args below meth c Q G nL (z_ret cr r.1 s' r.2).1 (z_ret cr r.1 s' r.2).2.1 (z_ret cr r.1 s' r.2).2.2.1 (z_ret cr r.1 s' r.2).2.2.2) : z_Go p l e R s m args below meth c Q G nL pc lo st h := by
  rcases z_exec_inr hc he with rfl | rfl | rfl | ⟨i, rfl⟩ | ⟨i, rfl⟩
  · obtain ⟨x0, r0, rfl, g⟩ := z_i1_inv (show z_i1 _ _ = _ from he)
    cases g
  · obtain ⟨x0, r0, rfl, g⟩ := z_r1_inv (show z_r1 _ _ = _ from he)
    cases (z_if_inv g).2
  · cases (show some (Sum.inr (Sum.inl ((0 : Int32), h))) = some (Sum.inr (Sum.inr (id, as, cr, s'))) from he)
  · simp only [z_chk, Bool.and_eq_true] at hc
    obtain ⟨⟨h1, h2⟩, h3⟩ := hc
    obtain ⟨hd, hn⟩ := z_dk_inv h1
    obtain ⟨g1, g2⟩ := z_if_inv (show z_if _ _ = _ from he)
    simp only [Bool.and_eq_true] at g1
    obtain ⟨⟨g3, g4⟩, g5⟩ := g1
    cases g2
    have g3 : b ≤ st.length := Nat.le_of_ble_eq_true g3
    refine z_s_call (virt := true) hx hb hml hown hts hK hSt (hmo _ (z_ck_id h2)) (hM (z_ck_id h2)) (rest := st.drop b) (by rw [List.reverse_reverse, List.take_append_drop]) (by rw [List.length_reverse, List.length_take]; omega) (Nat.le_of_ble_eq_true g4) hrk h2 hn (fun _ => ?_) hd k
    match sw, h3, g5 with
    | (_, kk) :: _, h3, g5 =>
      have h3 := z_beq h3
      subst h3
      unfold z_rcv at g5
      split at g5
      · rename_i q1 q2
        cases q1
        exact ⟨_, _, q2, g5⟩
      · cases g5
  · simp only [z_chk, Bool.and_eq_true] at hc
    obtain ⟨h1, h2⟩ := hc
    obtain ⟨hd, hn⟩ := z_dk_inv h1
    by_cases ha0 : a = 900
    · subst ha0
      obtain ⟨so, sp, d, dp, n, r, rfl, g⟩ := z_cp_inv (show z_cp _ _ = _ from he)
      exact absurd (z_if_inv g).2 z_nx_no
    by_cases ha1 : a = 901
    · subst ha1
      obtain ⟨so, sp, d, dp, n, r, rfl, g⟩ := z_cp_inv (show z_cp _ _ = _ from he)
      exact absurd (z_if_inv g).2 z_nx_no
    by_cases ha4 : a = 904
    · subst ha4
      obtain ⟨x, y, r, rfl, g⟩ := z_i2_inv (show z_i2 _ _ = _ from he)
      exact absurd (z_if_inv g).2 z_nx_no
    by_cases ha5 : a = 905
    · subst ha5
      obtain ⟨x, y, r, rfl, g⟩ := z_i2_inv (show z_i2 _ _ = _ from he)
      exact absurd (z_if_inv g).2 z_nx_no
    rw [z_exec_stat ha0 ha1 ha4 ha5] at he
    have h2 : z_ck (z_mt own).1.cls i pl a b c' false = true := by
      split at h2
      · exact absurd rfl ha0
      · exact absurd rfl ha1
      · exact absurd rfl ha4
      · exact absurd rfl ha5
      · exact h2
    obtain ⟨g1, g2⟩ := z_if_inv he
    simp only [Bool.and_eq_true] at g1
    obtain ⟨g3, g4⟩ := g1
    cases g2
    have g3 : b ≤ st.length := Nat.le_of_ble_eq_true g3
    exact z_s_call (virt := false) hx hb hml hown hts hK hSt (hmo _ (z_ck_id h2)) (hM (z_ck_id h2)) (rest := st.drop b) (by rw [List.reverse_reverse, List.take_append_drop]) (by rw [List.length_reverse, List.length_take]; omega) (Nat.le_of_ble_eq_true g4) hrk h2 hn (fun q => by cases q) hd k
end ZMN
/-- what is decided of the tables: each entry of each method is in order -/
def z_allok : Prop := ∀ id pc i, id < 221 → z_code id pc = some i → ∃ pl, z_chk id pc pl i.1 i.2.1 i.2.2.1 i.2.2.2.1 i.2.2.2.2.1 i.2.2.2.2.2.1 i.2.2.2.2.2.2.2 = true
theorem z_lgsl (vs : List Value) : (lg_sl vs).length = z_cat vs := by
  induction vs with
  | nil => rfl
  | cons v r ih =>
    have h1 : lg_sl (v :: r) = (if v.category = 2 then [Slot.val v, .second] else [.val v]) ++ lg_sl r := rfl
    have h2 : z_cat (v :: r) = v.category + z_cat r := rfl
    rw [h1, h2, List.length_append, ih]
    rcases lv_cat v with q | q <;> rw [q] <;> rfl
theorem z_sound (l : Launch) (G : z_G) (hmo : ∀ i, z_idok i → z_mok i) (hok : z_allok) (hpr : ∀ id a h r, 902 ≤ id → z_idok id → z_cat a ≤ z_ml id → z_prim id a h = some r → z_Met l G id a h r) :
    ∀ (n id : Nat) (a : List Value) (h : z_H) (r : z_A), z_ev n id a h = some r → z_cat a ≤ z_ml id → z_idok id → z_Met l G id a h r := by
  intro n
  induction n with
  | zero => intro id a h r e; simp [z_ev] at e
  | succ n ih =>
    intro id a h r hev hcat hid
    unfold z_ev at hev
    by_cases hp : 900 ≤ id
    · rw [if_pos hp] at hev
      exact hpr id a h r (by have := hid; unfold z_idok at this; omega) hid hcat hev
    · rw [if_neg hp] at hev
      have hid2 : id < 221 := by have := hid; unfold z_idok at this; omega
      have hm := hmo id hid
      unfold z_Met
      refine Met.ofW (cc := (z_mt id).2.1) (maxL := (z_mt id).2.2.1) (ret := (z_mt id).2.2.2) hm.2.2.2.2.2.2.2.1 rfl ?_
      intro p e s m args below meth c s₁ B hml hv
      obtain ⟨rfl, hK, hSt, hR⟩ := hv
      have hts := atoms_spec (ws := z_ws id) B.pre
      have hown : s.vm.findClass (z_mt id).1.cls = some m.cls := findClass_of_methodNamed B.named
      have hgood : ∀ w ∈ z_good, w.before (a.map (z_up G)).toArray s = true := fun w hw => hts w (List.mem_cons_of_mem _ hw)
      have hrk : 1 ≤ z_rank id a := by
        have := hm.2.2.2.2.2.2.2.2
        unfold z_rank
        cases z_recs id with
        | true => simp only [cond_true]; omega
        | false => exact this
      have hr1 : 1 ≤ (headSpec (z_ws id) (z_rm (z_rank id a))).room.frames := hrk
      have hr2 : 60 ≤ (headSpec (z_ws id) (z_rm (z_rank id a))).room.locals := by
        show 60 ≤ 80 * z_rank id a
        omega
      have key : ∀ (k : Nat) (t : z_S), z_run (z_ev n) (z_code id) (z_rank id a) k t = some r → z_Go p l e (headSpec (z_ws id) (z_rm (z_rank id a))).room s m (a.map (z_up G)).toArray below meth c (MQ below (z_Qc G (z_mt id).2.2.2 r) (a.map (z_up G)).toArray s 0 0 (fun q => G.1 ≤ q)) G (z_mt id).2.2.1 t.1 t.2.1 t.2.2.1 t.2.2.2 := by
        intro k
        induction k with
        | zero => intro t ht; simp [z_run] at ht
        | succ k ihk =>
          intro t ht
          unfold z_run at ht
          cases hs : z_step (z_code id) t with
          | none => rw [hs] at ht; simp at ht
          | some o =>
            rw [hs] at ht
            unfold z_step at hs
            cases hcode : z_code id t.1 with
            | none => rw [hcode] at hs; cases hs
            | some i =>
              rw [hcode] at hs
              obtain ⟨pl, hchk⟩ := hok id t.1 i hid2 hcode
              intro ls H locs x y z
              have x := z_norm_has (lab := i.2.2.2.2.2.2.1) x
              revert ls H locs
              match o, hs, ht with
              | .inl s', hs, ht =>
                intro ls H locs x0 y z x
                exact z_sound_step B.exec B.bytes hml hown hgood hK hr1 hr2 hchk hs (ihk s' ht) ls H locs x y z
              | .inr (.inl r'), hs, ht =>
                intro ls H locs x0 y z x
                cases ht
                exact z_sound_ret B.exec B.bytes B.returns B.notSynchronized hchk hs ls H locs x y z
              | .inr (.inr (id', a', c', s')), hs, ht =>
                intro ls H locs x0 y z x
                simp only at ht
                by_cases hrk' : z_rank id' a' < z_rank id a ∧ z_cat a' ≤ z_ml id'
                · rw [if_pos hrk'] at ht
                  cases hcl : z_ev n id' a' s'.2.2.2 with
                  | none => rw [hcl] at ht; simp at ht
                  | some q =>
                    obtain ⟨v, h'⟩ := q
                    rw [hcl] at ht
                    refine z_sound_call (R := (headSpec (z_ws id) (z_rm (z_rank id a))).room) B.exec B.bytes hml hown hts hK hSt hmo hchk hs (r := (v, h')) ⟨hrk'.1, ?_⟩ (fun hid' => ih id' a' _ _ hcl hrk'.2 hid') (ihk _ ht) ls H locs x y z
                    show 80 * _ + 80 ≤ 80 * z_rank id a
                    have := hrk'.1
                    omega
                · rw [if_neg hrk'] at ht; simp at ht
      have hent := lv_entry (a.map (z_up G)) (n := (z_mt id).2.2.1) (by
        rw [z_lgsl, hm.2.2.2.2.2.1]
        have : z_cat (a.map (z_up G)) = z_cat a := z_cat_up G a
        omega)
      rw [lg_entry_eq]
      rw [z_lvargs] at hent
      exact key n (0, lv_args 0 a, [], h) hev _ s.heap [] hent hR ⟨rfl, fun _ _ => rfl, fun _ hq => by cases hq⟩
end
section
/-! THE TABLES ARE IN ORDER (decided) -/
def z_ent (id : Nat) (zd : List (Nat × List (Nat × z_I))) (ps : List Nat) : Bool := Nat.ble (zd.flatMap (fun q => q.2)).length ps.length && ((zd.flatMap (fun q => q.2)).zip ps).all (fun q => z_chk id q.1.1 q.2 q.1.2.1 q.1.2.2.1 q.1.2.2.2.1 q.1.2.2.2.2.1 q.1.2.2.2.2.2.1 q.1.2.2.2.2.2.2.1 q.1.2.2.2.2.2.2.2.2)
theorem z_find_mem {L : List (Nat × z_I)} {pc : Nat} {i : z_I} (h : z_find L pc = some i) : (pc, i) ∈ L := by
  induction L with
  | nil => cases h
  | cons q r ih =>
    obtain ⟨k, j⟩ := q
    unfold z_find at h
    by_cases hk : k = pc
    · subst hk
      rw [z_beqT] at h
      cases h
      exact List.mem_cons_self
    · rw [z_beqF hk] at h
      exact List.mem_cons_of_mem _ (ih h)
theorem z_find2_mem {L : List (Nat × List (Nat × z_I))} {pc : Nat} {i : z_I} (h : z_find2 L pc = some i) : (pc, i) ∈ L.flatMap (fun q => q.2) := by
  induction L with
  | nil => cases h
  | cons q r ih =>
    obtain ⟨k, j⟩ := q
    unfold z_find2 at h
    rw [List.flatMap_cons]
    cases hb : Nat.blt pc k with
    | true =>
      rw [hb] at h
      exact List.mem_append_left _ (z_find_mem h)
    | false =>
      rw [hb] at h
      exact List.mem_append_right _ (ih h)
theorem z_ent_ok {id : Nat} {zd : List (Nat × List (Nat × z_I))} {ps : List Nat} (h : z_ent id zd ps = true) {pc : Nat} {i : z_I} (hf : z_find2 zd pc = some i) : ∃ pl, z_chk id pc pl i.1 i.2.1 i.2.2.1 i.2.2.2.1 i.2.2.2.2.1 i.2.2.2.2.2.1 i.2.2.2.2.2.2.2 = true := by
  unfold z_ent at h
  simp only [Bool.and_eq_true] at h
  have hm := z_find2_mem hf
  obtain ⟨k, hk⟩ := List.getElem?_of_mem hm
  have hl : k < (zd.flatMap (fun q => q.2)).length := (List.getElem?_eq_some_iff.mp hk).1
  have hl2 : k < ps.length := Nat.lt_of_lt_of_le hl (Nat.le_of_ble_eq_true h.1)
  have hz : ((pc, i), ps[k]) ∈ (zd.flatMap (fun q => q.2)).zip ps := List.mem_of_getElem? (i := k) (by
    rw [List.getElem?_zip_eq_some]
    exact ⟨hk, List.getElem?_eq_getElem hl2⟩)
  exact ⟨_, List.all_eq_true.mp h.2 _ hz⟩
def z_mchk (id p1 p2 p3 p4 : Nat) : Bool := z_wd p1 (.code (z_mt id).1 (z_mt id).2.1 (z_mt id).2.2.1 (z_mt id).2.2.2) && z_wd p2 (.initialized (z_mt id).1.cls) && (decide ((z_mt id).1.cls ≠ "java/lang/invoke/MethodHandle") && decide ((z_mt id).1.cls ≠ "java/lang/invoke/VarHandle")) && decide ((parseMethodDescriptor (z_mt id).1.desc).map (fun d => d.parameters.length) = some (z_sg id).2.1) &&
  (match (z_sg id).1 with
  | true => z_wd p3 (.static (z_mt id).1)
  | false => z_wd p3 (.instanceMethod (z_mt id).1) && z_wd p4 (.selects (z_mt id).1.cls (z_mt id).1 (z_mt id).1) && ((Nat.ble 1 (z_sg id).2.2 && Nat.ble (z_sg id).2.2 12 && decide ((z_q (z_sg id).2.2).1 = (z_mt id).1.cls)) || (Nat.beq (z_sg id).2.2 100 && decide ((z_mt id).1.cls = "java/lang/String")))) &&
  Nat.beq (z_mt id).2.2.1 (z_ml id) && Nat.ble (z_ml id) 60 && plainName (z_mt id).1.cls && Nat.ble 1 (z_rk id)
theorem z_mchk_ok {id p1 p2 p3 p4 : Nat} (h : z_mchk id p1 p2 p3 p4 = true) : z_mok id := by
  unfold z_mchk at h
  simp only [Bool.and_eq_true, decide_eq_true_eq] at h
  obtain ⟨⟨⟨⟨⟨⟨⟨⟨h1, h2⟩, h3⟩, h4⟩, h5⟩, h6⟩, h7⟩, h8⟩, h9⟩ := h
  refine ⟨z_wd_good h1 rfl, z_wd_good h2 rfl, h3, h4, ?_, z_beq h6, Nat.le_of_ble_eq_true h7, h8, Nat.le_of_ble_eq_true h9⟩
  cases hs : (z_sg id).1 with
  | true =>
    rw [hs] at h5
    exact z_wd_good h5 rfl
  | false =>
    rw [hs] at h5
    simp only [Bool.and_eq_true, Bool.or_eq_true, decide_eq_true_eq] at h5
    obtain ⟨⟨g1, g2⟩, g3⟩ := h5
    exact ⟨z_wd_good g1 rfl, z_wd_good g2 rfl, g3.imp (fun q => ⟨Nat.le_of_ble_eq_true q.1.1, Nat.le_of_ble_eq_true q.1.2, q.2⟩) (fun q => ⟨z_beq q.1, q.2⟩)⟩
def z_mall (L : List (Nat × Nat × Nat × Nat × Nat)) : Bool := L.all (fun q => z_mchk q.1 q.2.1 q.2.2.1 q.2.2.2.1 q.2.2.2.2)
theorem z_mall_ok {L : List (Nat × Nat × Nat × Nat × Nat)} (h : z_mall L = true) {id : Nat} (hi : id ∈ L.map (fun q => q.1)) : z_mok id := by
  obtain ⟨q, hq, rfl⟩ := List.mem_map.mp hi
  exact z_mchk_ok (List.all_eq_true.mp h q hq)
theorem z_mk0 : z_mall [(0, 489, 93, 487, 488), (1, 497, 93, 495, 496), (2, 501, 93, 499, 500), (3, 706, 93, 704, 705), (4, 710, 93, 708, 709), (5, 850, 93, 848, 849), (6, 866, 93, 864, 865), (7, 880, 93, 878, 879), (8, 897, 93, 895, 896), (9, 901, 93, 899, 900), (10, 924, 93, 922, 923), (11, 928, 93, 926, 927), (12, 932, 93, 930, 931), (13, 936, 93, 934, 935), (14, 944, 93, 942, 943), (15, 957, 93, 955, 956), (16, 965, 93, 963, 964), (17, 970, 93, 968, 969), (18, 974, 93, 972, 973), (19, 978, 93, 976, 977), (20, 984, 93, 982, 983), (21, 992, 93, 990, 991), (22, 997, 93, 995, 996), (23, 1004, 93, 1002, 1003), (24, 1008, 93, 1006, 1007)] = true := by decide +kernel
theorem z_mk1 : z_mall [(25, 1023, 93, 1021, 1022), (26, 1031, 93, 1029, 1030), (27, 1058, 93, 1056, 1057), (28, 1062, 93, 1060, 1061), (29, 875, 93, 874, 28), (30, 888, 93, 887, 29), (31, 718, 93, 717, 13), (32, 845, 93, 844, 27), (33, 841, 93, 840, 26), (34, 1066, 93, 1065, 32), (35, 1046, 93, 1045, 30), (36, 1054, 93, 1053, 31), (37, 633, 93, 632, 0), (38, 939, 93, 938, 0), (39, 1000, 93, 999, 0), (40, 1011, 93, 1010, 0), (41, 1014, 93, 1013, 0), (42, 655, 93, 654, 0), (43, 662, 93, 661, 0), (44, 760, 93, 759, 0), (45, 493, 94, 491, 492), (46, 516, 94, 514, 515), (47, 524, 94, 522, 523), (48, 563, 94, 561, 562), (49, 531, 94, 530, 1)] = true := by decide +kernel
theorem z_mk2 : z_mall [(50, 538, 94, 537, 2), (51, 527, 94, 526, 0), (52, 534, 94, 533, 0), (53, 505, 95, 503, 504), (54, 542, 95, 541, 3), (55, 520, 95, 519, 0), (56, 546, 95, 545, 4), (57, 550, 95, 549, 5), (58, 553, 95, 552, 0), (59, 615, 95, 614, 6), (60, 623, 95, 622, 7), (61, 636, 95, 635, 0), (62, 626, 95, 625, 0), (63, 630, 95, 629, 8), (64, 640, 95, 639, 9), (65, 648, 95, 647, 10), (66, 670, 95, 669, 11), (67, 682, 95, 681, 12), (68, 509, 96, 507, 508), (69, 694, 96, 692, 693), (70, 858, 96, 856, 857), (71, 854, 96, 852, 853), (72, 909, 96, 907, 908), (73, 870, 96, 868, 869), (74, 905, 96, 903, 904)] = true := by decide +kernel
theorem z_mk3 : z_mall [(75, 690, 96, 688, 689), (76, 948, 96, 946, 947), (77, 953, 96, 951, 952), (78, 961, 96, 959, 960), (79, 757, 96, 755, 756), (80, 862, 96, 860, 861), (81, 714, 96, 712, 713), (82, 1070, 96, 1068, 1069), (83, 1083, 96, 1081, 1082), (84, 1087, 96, 1086, 33), (85, 644, 96, 642, 643), (86, 652, 96, 650, 651), (87, 659, 96, 657, 658), (88, 666, 96, 664, 665), (89, 686, 96, 684, 685), (90, 884, 97, 882, 883), (91, 619, 97, 617, 618), (92, 701, 97, 699, 700), (93, 677, 97, 675, 676), (94, 988, 97, 986, 987), (95, 783, 98, 781, 782), (96, 788, 98, 787, 18), (97, 793, 98, 792, 19), (98, 798, 98, 797, 20), (99, 804, 98, 803, 21)] = true := by decide +kernel
theorem z_mk4 : z_mall [(100, 808, 98, 807, 22), (101, 726, 99, 724, 725), (102, 813, 99, 811, 812), (103, 747, 99, 745, 746), (104, 1079, 99, 1077, 1078), (105, 832, 99, 830, 831), (106, 915, 99, 913, 914), (107, 764, 99, 762, 763), (108, 768, 99, 766, 767), (109, 722, 100, 720, 721), (110, 733, 100, 732, 14), (111, 751, 100, 750, 17), (112, 738, 100, 737, 15), (113, 743, 100, 742, 16), (114, 778, 101, 776, 777), (115, 892, 101, 890, 891), (116, 837, 101, 835, 836), (117, 919, 101, 917, 918), (118, 1074, 101, 1072, 1073), (119, 818, 101, 817, 23), (120, 823, 101, 822, 24), (121, 828, 101, 827, 25), (122, 1018, 103, 1016, 1017), (123, 1027, 103, 1025, 1026), (124, 1050, 103, 1048, 1049)] = true := by decide +kernel
theorem z_mk5 : z_mall [(125, 1035, 103, 1033, 1034), (126, 1039, 103, 1037, 1038), (127, 1217, 104, 1216, 0), (128, 1335, 104, 1334, 0), (129, 1272, 104, 1271, 0), (130, 1101, 104, 1100, 0), (131, 1098, 104, 1097, 34), (132, 1105, 104, 1104, 35), (133, 1213, 104, 1211, 1212), (134, 1221, 104, 1219, 1220), (135, 1241, 104, 1240, 38), (136, 1233, 104, 1232, 37), (137, 1253, 104, 1252, 41), (138, 1249, 104, 1248, 40), (139, 1229, 104, 1228, 36), (140, 1276, 104, 1275, 46), (141, 1261, 104, 1260, 43), (142, 1269, 104, 1268, 45), (143, 1284, 104, 1283, 48), (144, 1280, 104, 1279, 47), (145, 1288, 104, 1287, 49), (146, 1257, 104, 1256, 42), (147, 1265, 104, 1264, 44), (148, 1245, 104, 1244, 39), (149, 1292, 104, 1291, 50)] = true := by decide +kernel
theorem z_mk6 : z_mall [(150, 1225, 104, 1223, 1224), (151, 1296, 104, 1294, 1295), (152, 1411, 104, 1410, 76), (153, 1407, 104, 1406, 75), (154, 1420, 104, 1419, 77), (155, 1423, 104, 1422, 0), (156, 1435, 104, 1434, 78), (157, 1427, 104, 1426, 0), (158, 1324, 104, 1323, 56), (159, 1332, 104, 1331, 58), (160, 1367, 104, 1366, 66), (161, 1375, 104, 1374, 68), (162, 1371, 104, 1370, 67), (163, 1363, 104, 1362, 65), (164, 1383, 104, 1382, 70), (165, 1379, 104, 1378, 69), (166, 1359, 104, 1358, 64), (167, 1355, 104, 1354, 63), (168, 1351, 104, 1350, 62), (169, 1320, 104, 1319, 55), (170, 1328, 104, 1327, 57), (171, 1316, 104, 1315, 54), (172, 1312, 104, 1311, 53), (173, 1308, 104, 1307, 52), (174, 1347, 104, 1346, 61)] = true := by decide +kernel
theorem z_mk7 : z_mall [(175, 1343, 104, 1342, 60), (176, 1387, 104, 1386, 71), (177, 1447, 104, 1446, 81), (178, 1304, 104, 1303, 51), (179, 1391, 104, 1390, 72), (180, 1339, 104, 1338, 59), (181, 1399, 104, 1398, 74), (182, 1395, 104, 1394, 73), (183, 1300, 104, 1298, 1299), (184, 1403, 104, 1401, 1402), (185, 1416, 104, 1414, 1415), (186, 1455, 104, 1454, 83), (187, 1439, 104, 1438, 79), (188, 1451, 104, 1450, 82), (189, 1443, 104, 1442, 80), (190, 1431, 104, 1429, 1430), (191, 1459, 104, 1457, 1458), (192, 1467, 104, 1466, 84), (193, 1476, 104, 1475, 85), (194, 1463, 104, 1461, 1462), (195, 1480, 104, 1478, 1479), (196, 1484, 104, 1482, 1483), (197, 1488, 104, 1486, 1487), (198, 1492, 104, 1490, 1491), (199, 1497, 104, 1495, 1496)] = true := by decide +kernel
theorem z_mk8 : z_mall [(200, 1501, 104, 1499, 1500), (201, 1506, 104, 1504, 1505), (202, 1514, 104, 1513, 86), (203, 1510, 104, 1508, 1509), (204, 1518, 104, 1516, 1517), (205, 1527, 104, 1526, 87), (206, 1522, 104, 1520, 1521), (207, 1531, 104, 1529, 1530), (208, 1535, 104, 1533, 1534), (209, 1541, 104, 1539, 1540), (210, 1545, 104, 1543, 1544), (211, 1552, 104, 1551, 0), (212, 1549, 104, 1547, 1548), (213, 1556, 104, 1554, 1555), (214, 1560, 104, 1558, 1559), (215, 1566, 104, 1564, 1565), (216, 1574, 104, 1573, 88), (217, 1586, 104, 1585, 91), (218, 1582, 104, 1581, 90), (219, 1578, 104, 1577, 89), (220, 1570, 104, 1568, 1569), (902, 512, 105, 511, 0), (903, 729, 105, 728, 0), (906, 771, 112, 770, 0), (907, 567, 106, 565, 566)] = true := by decide +kernel
theorem z_mk9 : z_mall [(908, 577, 106, 575, 576)] = true := by decide +kernel
theorem z_moks : ∀ i, z_idok i → z_mok i := by
  intro i hi
  have hb : ∀ (L : List (Nat × Nat × Nat × Nat × Nat)), z_mall L = true → (L.map (fun q => q.1)).contains i = true → z_mok i := fun L h1 h2 => z_mall_ok h1 (List.contains_iff_mem.mp h2)
  have hall : ∀ j, j < 909 → (j < 221 ∨ (902 ≤ j ∧ j ≤ 908 ∧ j ≠ 904 ∧ j ≠ 905)) → ([0, 1, 2, 3, 4, 5, 6, 7, 8, 9, 10, 11, 12, 13, 14, 15, 16, 17, 18, 19, 20, 21, 22, 23, 24] : List Nat).contains j = true ∨ ([25, 26, 27, 28, 29, 30, 31, 32, 33, 34, 35, 36, 37, 38, 39, 40, 41, 42, 43, 44, 45, 46, 47, 48, 49] : List Nat).contains j = true ∨ ([50, 51, 52, 53, 54, 55, 56, 57, 58, 59, 60, 61, 62, 63, 64, 65, 66, 67, 68, 69, 70, 71, 72, 73, 74] : List Nat).contains j = true ∨ ([75, 76, 77, 78, 79, 80, 81, 82, 83, 84, 85, 86, 87, 88, 89, 90, 91, 92, 93, 94, 95, 96, 97, 98, 99] : List Nat).contains j = true ∨ ([100, 101, 102, 103, 104, 105, 106, 107, 108, 109, 110, 111, 112, 113, 114, 115, 116, 117, 118, 119, 120, 121, 122, 123, 124] : List Nat).contains j = true ∨ ([125, 126, 127, 128, 129, 130, 131, 132, 133, 134, 135, 136, 137, 138, 139, 140, 141, 142, 143, 144, 145, 146, 147, 148, 149] : List Nat).contains j = true ∨ ([150, 151, 152, 153, 154, 155, 156, 157, 158, 159, 160, 161, 162, 163, 164, 165, 166, 167, 168, 169, 170, 171, 172, 173, 174] : List Nat).contains j = true ∨ ([175, 176, 177, 178, 179, 180, 181, 182, 183, 184, 185, 186, 187, 188, 189, 190, 191, 192, 193, 194, 195, 196, 197, 198, 199] : List Nat).contains j = true ∨ ([200, 201, 202, 203, 204, 205, 206, 207, 208, 209, 210, 211, 212, 213, 214, 215, 216, 217, 218, 219, 220, 902, 903, 906, 907] : List Nat).contains j = true ∨ ([908] : List Nat).contains j = true := by decide +kernel
  rcases hall i (by unfold z_idok at hi; omega) hi with h | h | h | h | h | h | h | h | h | h
  · exact hb _ z_mk0 h
  · exact hb _ z_mk1 h
  · exact hb _ z_mk2 h
  · exact hb _ z_mk3 h
  · exact hb _ z_mk4 h
  · exact hb _ z_mk5 h
  · exact hb _ z_mk6 h
  · exact hb _ z_mk7 h
  · exact hb _ z_mk8 h
  · exact hb _ z_mk9 h
end
section
/-! the entries of the methods 0 to 54 -/
theorem z_e0 : z_ent 0 zd_X_feed [0, 0, 0, 0, 0, 0, 0, 0, 449, 128, 0, 0, 0, 0, 0, 449, 0, 490, 0, 449, 128, 0] = true := by decide +kernel
theorem z_e1 : z_ent 1 zd_X_end [0, 0, 0, 0, 449, 128, 0, 0, 0, 0, 449, 128, 0, 0, 449, 0, 128, 0, 0] = true := by decide +kernel
theorem z_e2 : z_ent 2 zd_X_text [0, 450, 502, 0, 449, 0, 128, 0, 0, 450, 243, 459, 0, 450, 243, 0, 0, 0, 450, 245, 0, 0, 0, 451, 0, 450, 249, 691, 0, 452, 0, 450, 249, 691, 0, 453, 0, 450, 251, 698, 0, 0, 0, 0, 0, 0, 457, 0, 0, 0, 413, 0, 0, 0, 450, 247, 0] = true := by decide +kernel
theorem z_e3 : z_ent 3 zd_X_fault [0, 459, 0] = true := by decide +kernel
theorem z_e4 : z_ent 4 zd_X_rule [0, 0, 0, 451, 166, 0, 0, 451, 711, 0, 0, 451, 170, 0, 0, 453, 223, 0, 0, 715, 0, 0, 456, 775, 0, 456, 364, 0, 0, 456, 775, 0, 456, 834, 0, 0, 838, 0, 0, 0] = true := by decide +kernel
theorem z_e5 : z_ent 5 zd_X_node [0, 451, 0, 0, 851, 0, 0, 0, 0, 0, 0, 0, 0, 0, 451, 0, 0, 0, 859, 0, 0, 0, 0, 0, 0, 0, 0, 452, 0, 0, 0, 0, 0, 859, 0, 0, 0] = true := by decide +kernel
theorem z_e6 : z_ent 6 zd_X_meant [0, 451, 0, 867, 0, 0, 871, 0, 0, 0, 0, 0, 0, 0, 0, 0, 0, 872, 0, 0, 876, 0] = true := by decide +kernel
theorem z_e7 : z_ent 7 zd_X_test [0, 453, 0, 881, 0, 0, 0, 0, 0, 0, 453, 226, 0, 0, 0, 0, 453, 229, 0, 0, 0, 0, 453, 232, 0, 0, 0, 0, 0, 451, 0, 885, 0, 454, 299, 0, 0, 0, 452, 0, 885, 0, 454, 299, 0, 0, 456, 775, 0, 456, 0, 0, 889, 0, 0, 0] = true := by decide +kernel
theorem z_e8 : z_ent 8 zd_X_said [0, 453, 0, 881, 0, 0, 0, 0, 0, 0, 0, 0, 0, 0, 0, 872, 0, 885, 0, 454, 297, 0] = true := by decide +kernel
theorem z_e9 : z_ent 9 zd_X_edge [0, 451, 0, 902, 0, 0, 0, 0, 0, 0, 0, 0, 0, 456, 775, 0, 0, 0, 455, 335, 0, 912, 0, 0, 456, 0, 916, 0] = true := by decide +kernel
theorem z_e10 : z_ent 10 zd_X_covers [0, 453, 0, 881, 0, 0, 451, 0, 902, 0, 0, 0, 0, 0, 451, 0, 885, 0, 454, 302, 0, 912, 0] = true := by decide +kernel
theorem z_e11 : z_ent 11 zd_X_order [0, 0, 0, 0, 0, 0, 0, 0, 0, 0, 456, 775, 0, 0, 456, 364, 0, 0, 0, 0, 0, 0, 456, 366, 0, 0, 0, 0, 456, 368, 0, 0, 0] = true := by decide +kernel
theorem z_e12 : z_ent 12 zd_X_same [0, 451, 0, 867, 0, 0, 0, 0, 0, 0, 0, 0, 0, 0, 0, 0, 0, 842, 0, 0, 0, 0, 0, 0] = true := by decide +kernel
theorem z_e13 : z_ent 13 zd_X_say [0, 452, 0, 0, 851, 0, 0, 0, 937, 0, 0, 0, 0, 0, 940, 0, 0, 0, 452, 179, 0, 0, 0, 0, 452, 183, 0, 0, 0, 0, 0, 452, 179, 0, 0, 0, 0, 452, 183, 0, 0, 0, 0, 0] = true := by decide +kernel
theorem z_e14 : z_ent 14 zd_X_lead [0, 452, 0, 0, 0, 0, 945, 0, 0, 0, 0, 452, 0, 0, 0, 949, 0, 0, 452, 0, 0, 0, 0, 950, 0, 0] = true := by decide +kernel
theorem z_e15 : z_ent 15 zd_X_nexts [0, 452, 0, 0, 851, 0, 0, 0, 0, 0, 0, 0, 0, 0, 452, 187, 0, 0, 940, 0, 0, 0, 452, 0, 0, 0, 958, 0, 0] = true := by decide +kernel
theorem z_e16 : z_ent 16 zd_X_has [0, 452, 0, 867, 0, 0, 871, 0, 0, 0, 0, 0, 452, 0, 966, 0, 0, 0, 0, 452, 193, 0, 0, 0, 0, 0, 0, 0, 0, 452, 193, 0, 0, 0, 0, 0, 0, 0, 0, 0] = true := by decide +kernel
theorem z_e17 : z_ent 17 zd_X_take [0, 715, 0, 0, 451, 0, 452, 691, 0, 0] = true := by decide +kernel
theorem z_e18 : z_ent 18 zd_X_leave [0, 715, 0, 0, 452, 0, 451, 691, 0, 0] = true := by decide +kernel
theorem z_e19 : z_ent 19 zd_X_add [0, 451, 0, 867, 0, 0, 0, 0, 0, 0, 0, 0, 0, 0, 0, 0, 0, 0, 0, 453, 979, 0, 0, 0, 0, 453, 0, 0, 0, 980, 0, 453, 223, 0] = true := by decide +kernel
theorem z_e20 : z_ent 20 zd_X_drop [0, 453, 0, 881, 0, 0, 0, 0, 453, 0, 985, 0, 453, 223, 0] = true := by decide +kernel
theorem z_e21 : z_ent 21 zd_X_draw [0, 0, 0, 0, 0, 0, 0, 0, 0, 451, 170, 0, 0, 0, 0, 0, 0, 0, 0, 0, 0, 0, 0, 453, 979, 0, 0, 993, 0, 0, 0, 0, 0, 0, 0, 0, 0, 0, 0, 453, 0, 0, 451, 170, 0, 0, 0, 0, 0, 0, 0, 0, 0, 0, 0, 0, 0, 980, 0, 0, 0, 0] = true := by decide +kernel
theorem z_e22 : z_ent 22 zd_X_keep [0, 998, 0, 0, 0, 0, 457, 0, 0, 413, 0, 0, 0, 0, 0, 0, 457, 0, 0, 0, 413, 0, 457, 0, 0, 415, 0, 451, 691, 0, 457, 0, 0, 417, 0, 452, 691, 0, 457, 0, 0, 419, 0, 453, 698, 0, 0] = true := by decide +kernel
theorem z_e23 : z_ent 23 zd_X_back [0, 998, 0, 0, 0, 0, 457, 0, 0, 413, 0, 0, 0, 0, 451, 0, 457, 0, 0, 415, 691, 0, 452, 0, 457, 0, 0, 417, 691, 0, 453, 0, 457, 0, 0, 419, 698, 0, 453, 223, 0] = true := by decide +kernel
theorem z_e24 : z_ent 24 zd_X_sheet [0, 1009, 0, 0, 1012, 0, 0, 0, 0, 0, 0, 0, 0, 0, 0, 0, 458, 0, 0, 0, 0, 1015, 0, 0] = true := by decide +kernel
theorem z_e25 : z_ent 25 zd_X_lay [0, 1009, 0, 0, 0, 0, 458, 0, 0, 435, 0, 0, 0, 0, 0, 0, 0, 458, 0, 0, 437, 0, 0, 0, 0, 458, 0, 0, 0, 0, 1024, 0, 0] = true := by decide +kernel
theorem z_e26 : z_ent 26 zd_X_read [0, 1009, 0, 0, 1012, 0, 0, 0, 0, 0, 0, 0, 0, 0, 0, 0, 0, 0, 458, 0, 0, 0, 1032, 0, 0, 0, 0, 0, 0, 458, 0, 0, 0, 0, 1036, 0, 0, 0, 458, 0, 0, 0, 0, 1043, 0, 0, 0, 0, 0, 0, 0, 0, 0, 0, 458, 0, 0, 0, 0, 1051, 0, 0, 0, 0, 0, 0, 0, 0, 0, 460, 0, 0] = true := by decide +kernel
theorem z_e27 : z_ent 27 zd_X_torn [0, 460, 0] = true := by decide +kernel
theorem z_e28 : z_ent 28 zd_X_count [0, 0, 0, 1063, 0, 0, 451, 1067, 0, 0, 449, 128, 0, 0, 458, 0, 0, 435, 0, 0, 458, 0, 0, 437, 0, 0, 0, 0, 456, 775, 0, 456, 1071, 0, 0, 452, 0, 451, 1080, 0, 0, 0] = true := by decide +kernel
theorem z_e29 : z_ent 29 zd_X_programOf [0, 0, 0, 451, 0, 0, 452, 0] = true := by decide +kernel
theorem z_e30 : z_ent 30 zd_X_runTest [0, 454, 0, 0, 453, 226, 0, 0, 0, 453, 229, 0, 0, 846, 0] = true := by decide +kernel
theorem z_e31 : z_ent 31 zd_X_edgesInDanger [0, 455, 719, 0, 455, 335, 761, 0] = true := by decide +kernel
theorem z_e32 : z_ent 32 zd_X_saysTheSame [0, 454, 0, 451, 0, 0, 846, 0, 454, 297, 0, 0, 454, 0, 452, 0, 0, 846, 0, 0, 454, 297, 0, 0, 0, 0, 0] = true := by decide +kernel
theorem z_e33 : z_ent 33 zd_X_testsThatSayOther [0, 0, 0, 0, 0, 0, 453, 223, 0, 0, 0, 453, 226, 0, 0, 0, 453, 229, 0, 0, 842, 0, 0, 0, 0, 0, 0] = true := by decide +kernel
theorem z_e34 : z_ent 34 zd_X_imagesKept [0, 0, 0, 0, 0, 0, 0, 0, 457, 0, 0, 413, 0, 0, 0, 0, 0, 0] = true := by decide +kernel
theorem z_e35 : z_ent 35 zd_X_firstRefused [0, 0, 0, 0, 0, 0, 0, 0, 0, 0, 0, 0, 452, 0, 0, 1047, 0, 0, 0, 0, 1047, 0, 0, 0, 0, 1047, 0, 0, 0, 0, 1047, 945, 0, 0, 0, 0, 0, 0, 0] = true := by decide +kernel
theorem z_e36 : z_ent 36 zd_X_turnAll [0, 0, 0, 0, 0, 0, 0, 0, 0, 0, 0, 0, 452, 0, 0, 1047, 0, 0, 0, 0, 1047, 0, 0, 0, 0, 1047, 0, 0, 0, 0, 1047, 950, 0, 0, 0] = true := by decide +kernel
theorem z_e37 : z_ent 37 zd_X_isName [0, 0, 0, 0, 0, 0, 0, 0, 0] = true := by decide +kernel
theorem z_e38 : z_ent 38 zd_X_isNode [0, 0, 0, 0, 0, 0, 0, 0, 0, 0, 0, 871, 0, 0, 0, 0, 0] = true := by decide +kernel
theorem z_e39 : z_ent 39 zd_X_isImage [0, 0, 0, 0, 0, 0, 0, 0, 0] = true := by decide +kernel
theorem z_e40 : z_ent 40 zd_X_isSheet [0, 0, 0, 0, 0, 0, 0, 0, 0] = true := by decide +kernel
theorem z_e41 : z_ent 41 zd_X_isLane [0, 0, 0, 0, 0, 0, 0, 0, 0] = true := by decide +kernel
theorem z_e42 : z_ent 42 zd_X_placeOf [0, 0, 0, 0, 0, 0] = true := by decide +kernel
theorem z_e43 : z_ent 43 zd_X_edgeOfNext [0, 0, 0, 0, 0, 0, 0, 0, 0, 0] = true := by decide +kernel
theorem z_e44 : z_ent 44 zd_X_edgeOfCall [0, 0, 0, 0, 0, 0, 0, 0] = true := by decide +kernel
theorem z_e45 : z_ent 45 zd_Tp_append [0, 127, 0, 0, 0, 136, 0, 127, 0, 0, 0, 0, 0, 127, 0, 0, 127, 0] = true := by decide +kernel
theorem z_e46 : z_ent 46 zd_Tp_rewind [0, 0, 135, 0] = true := by decide +kernel
theorem z_e47 : z_ent 47 zd_Tp_advance [0, 0, 135, 132, 0, 132, 0, 127, 0, 0, 136, 0, 132, 0, 0, 0, 0, 0, 132, 0, 0, 132, 0, 0, 0, 132, 135, 0, 132, 0, 127, 0, 0, 0, 130, 0, 0, 136, 0, 132, 0, 0, 0, 0, 0, 130, 0, 0, 132, 0, 0, 135, 0, 0, 136, 0, 132, 0, 525, 0, 0, 528, 0, 0, 136, 0, 132, 0, 532, 0, 0, 535, 0, 0, 0, 130, 0] = true := by decide +kernel
theorem z_e48 : z_ent 48 zd_Tp_isWord [0, 130, 0, 0, 0, 135, 0, 132, 0, 0, 564, 0, 0, 0, 0, 0, 0, 0, 564, 0, 0, 136, 0, 132, 0, 0, 0, 0, 0, 574, 0, 0, 0, 0, 0, 0, 0] = true := by decide +kernel
theorem z_e49 : z_ent 49 zd_Tp_takeWord [0, 0, 130, 0, 135, 0, 127, 0, 0, 136, 0, 135, 0, 525, 0, 0, 0, 135, 0, 0, 135, 0, 0] = true := by decide +kernel
theorem z_e50 : z_ent 50 zd_Tp_takeNumber [0, 0, 133, 0, 135, 0, 127, 0, 0, 136, 0, 135, 0, 532, 0, 0, 0, 0, 133, 0, 0, 136, 0, 135, 0, 0, 0, 0, 133, 0, 0, 135, 0, 0, 135, 0, 0, 0, 135, 0, 132, 0, 0, 0, 0, 0, 0, 130, 0] = true := by decide +kernel
theorem z_e51 : z_ent 51 zd_Tp_isLetter [0, 0, 0, 0, 0, 0, 0, 0, 0, 0] = true := by decide +kernel
theorem z_e52 : z_ent 52 zd_Tp_isFigure [0, 0, 0, 0, 0, 0, 0, 0, 0, 0] = true := by decide +kernel
theorem z_e53 : z_ent 53 zd_Rd_readAll [0, 0, 242, 0, 0, 246, 0, 0, 254, 0, 0, 255, 0, 248, 506, 0, 250, 0, 222, 0, 252, 513, 0, 517, 0, 0, 0, 0, 0, 0, 242, 0, 0, 252, 129, 0, 0, 0, 543, 0, 0, 0, 242, 0, 0, 679, 0, 0, 0, 539, 0] = true := by decide +kernel
theorem z_e54 : z_ent 54 zd_Rd_fail [0, 0, 242, 0, 0, 252, 131, 244, 0] = true := by decide +kernel
end
section
/-! the entries of the methods 55 to 109 -/
theorem z_e55 : z_ent 55 zd_Rd_advance [0, 252, 521, 0, 252, 129, 0, 0, 0, 539, 0] = true := by decide +kernel
theorem z_e56 : z_ent 56 zd_Rd_readLine [0, 547, 0, 0, 0, 0, 0, 0, 539, 0, 0, 0, 612, 0, 0, 0, 539, 0, 0, 0, 620, 0] = true := by decide +kernel
theorem z_e57 : z_ent 57 zd_Rd_lineOfWord [0, 0, 0, 0, 0, 0, 252, 0, 551, 560, 0, 0, 0, 0, 0, 0, 0] = true := by decide +kernel
theorem z_e58 : z_ent 58 zd_Rd_wordOf [0, 0, 554, 0, 555, 0, 556, 0, 557, 0, 558, 0, 559, 0] = true := by decide +kernel
theorem z_e59 : z_ent 59 zd_Rd_hasRoomFor [0, 0, 0, 248, 167, 0, 0, 0, 0, 0, 0, 0, 248, 167, 0, 0, 248, 175, 0, 248, 167, 0, 0, 0, 0, 0, 0, 0, 0, 0, 0, 248, 171, 0, 0, 0, 0, 0, 0, 0, 250, 616, 0, 0, 0, 0, 0, 0, 0] = true := by decide +kernel
theorem z_e60 : z_ent 60 zd_Rd_readRest [0, 0, 0, 517, 0, 242, 0, 0, 0, 624, 0, 0, 252, 129, 0, 0, 0, 0, 0, 0, 252, 134, 627, 0, 0, 0, 539, 0, 0, 253, 0, 0, 252, 134, 0, 0, 0, 517, 0, 0, 242, 0, 0, 0, 634, 0, 0, 252, 129, 0, 0, 0, 0, 539, 0, 242, 0, 0, 0, 0, 637, 0, 0, 246, 0, 0, 246, 0, 517, 0] = true := by decide +kernel
theorem z_e61 : z_ent 61 zd_Rd_leastArguments [0, 0, 0, 0, 0, 0, 0, 0] = true := by decide +kernel
theorem z_e62 : z_ent 62 zd_Rd_mostArguments [0, 0, 0, 0, 0, 0, 0, 0] = true := by decide +kernel
theorem z_e63 : z_ent 63 zd_Rd_isWithin [0, 0, 0, 0, 0, 0, 0, 0, 0, 0, 0, 0, 0, 0, 0, 0, 0, 0, 0, 0, 0, 0, 0, 0, 631, 0, 0, 0, 0, 0, 0, 0, 0, 0, 0, 0, 0, 0, 248, 171, 0, 0, 0, 0, 0, 0, 0, 0, 0, 0, 0, 0, 0, 0, 0, 0, 0, 0, 0, 0, 0, 631, 0, 0, 0, 0, 0, 0, 0, 0, 0, 0, 0, 0, 0, 0, 0, 0, 0, 0, 0, 0, 0, 0, 0, 0, 0, 0, 0, 0, 0, 0, 0, 0, 0, 0, 0, 0, 0] = true := by decide +kernel
theorem z_e64 : z_ent 64 zd_Rd_tell [0, 0, 0, 248, 641, 0, 0, 0, 0, 645, 0, 0, 0, 0, 645, 0, 0, 248, 0, 253, 0, 0, 663, 0, 0, 667, 0, 0, 0, 254, 0, 253, 0, 0, 671, 254, 0, 250, 0, 253, 0, 0, 0, 253, 0, 0, 0, 253, 0, 0, 674, 0] = true := by decide +kernel
theorem z_e65 : z_ent 65 zd_Rd_tellNode [0, 248, 0, 0, 253, 0, 0, 649, 0, 0, 0, 0, 0, 0, 248, 0, 253, 0, 0, 656, 0, 0, 0] = true := by decide +kernel
theorem z_e66 : z_ent 66 zd_Rd_tellHas [0, 0, 254, 0, 253, 0, 0, 671, 254, 0, 0, 255, 0, 253, 0, 0, 671, 255, 0, 248, 192, 0, 0, 253, 0, 0, 0, 0, 253, 0, 0, 0, 0, 253, 0, 0, 0, 0] = true := by decide +kernel
theorem z_e67 : z_ent 67 zd_Rd_tellsWhatIsNotThere [0, 254, 0, 248, 171, 0, 0, 255, 0, 248, 167, 0, 0, 248, 683, 0, 0, 0, 0, 0] = true := by decide +kernel
theorem z_e68 : z_ent 68 zd_P_clear [0, 0, 163, 0, 0, 168, 0, 188, 0, 510, 0, 191, 0, 510, 0] = true := by decide +kernel
theorem z_e69 : z_ent 69 zd_P_becomeAs [0, 0, 163, 163, 0, 0, 168, 168, 0, 172, 0, 0, 172, 0, 0, 172, 0, 695, 0, 176, 0, 0, 176, 0, 0, 176, 0, 695, 0, 180, 0, 0, 180, 0, 0, 180, 0, 695, 0, 184, 0, 0, 184, 0, 0, 184, 0, 695, 0, 188, 0, 0, 188, 0, 0, 188, 0, 695, 0, 190, 0, 0, 190, 0, 0, 190, 0, 695, 0, 191, 0, 0, 191, 0, 0, 191, 0, 695, 0] = true := by decide +kernel
theorem z_e70 : z_ent 70 zd_P_hasMethod [0, 0, 0, 0, 163, 0, 0, 0, 0, 0] = true := by decide +kernel
theorem z_e71 : z_ent 71 zd_P_hasNode [0, 0, 855, 0, 0, 0, 0, 0, 172, 0, 0, 0, 0, 0, 0, 0] = true := by decide +kernel
theorem z_e72 : z_ent 72 zd_P_hasNext [0, 0, 0, 910, 0, 0, 0, 0, 0, 184, 0, 0, 653, 0, 0, 0, 0, 0, 0] = true := by decide +kernel
theorem z_e73 : z_ent 73 zd_P_hasClass [0, 0, 0, 0, 168, 0, 0, 0, 0, 0] = true := by decide +kernel
theorem z_e74 : z_ent 74 zd_P_hasEdge [0, 0, 0, 0, 0, 0, 0, 0, 0, 0, 0, 0, 0, 0, 0, 0, 0, 0, 0, 0, 0, 906, 0, 0, 0, 0, 0, 0, 0, 0, 855, 0, 0, 0, 0, 0, 0, 0, 911, 0] = true := by decide +kernel
theorem z_e75 : z_ent 75 zd_P_nextOf [0, 188, 0, 0, 0, 660, 0, 0] = true := by decide +kernel
theorem z_e76 : z_ent 76 zd_P_mayTurn [0, 0, 0, 0, 906, 0, 0, 0, 0, 0, 0, 0, 910, 0, 0, 0, 0, 0] = true := by decide +kernel
theorem z_e77 : z_ent 77 zd_P_turn [0, 0, 0, 0, 906, 0, 0, 188, 0, 0, 0, 660, 0, 0, 0] = true := by decide +kernel
theorem z_e78 : z_ent 78 zd_P_widen [0, 0, 653, 0, 0, 0, 0, 0, 0, 0, 0, 0, 0, 188, 0, 0, 0, 660, 0, 0, 0, 0, 0, 184, 0, 0, 0, 0, 188, 0, 0, 0, 660, 0, 0, 0, 0, 0, 184, 0, 0, 0, 0] = true := by decide +kernel
theorem z_e79 : z_ent 79 zd_P_meantBy [0, 0, 0, 0, 0, 0, 0, 0, 0, 0, 0, 168, 0, 0, 191, 0, 0, 0, 0, 0, 0, 0, 0, 0, 191, 0, 0, 0, 0, 0, 0, 0, 0, 190, 0, 0, 0, 0, 0, 0, 0] = true := by decide +kernel
theorem z_e80 : z_ent 80 zd_P_partOf [0, 0, 653, 0, 0, 0, 0, 176, 0, 0, 0, 0, 180, 0, 0, 0, 0, 184, 0, 0, 0, 0, 0, 0, 0, 687, 0, 0, 0, 0, 0, 687, 0] = true := by decide +kernel
theorem z_e81 : z_ent 81 zd_P_nodesOfAll [0, 0, 0, 0, 0, 0, 163, 0, 0, 0, 172, 0, 0, 0, 0, 0, 0, 0, 0] = true := by decide +kernel
theorem z_e82 : z_ent 82 zd_P_nodesThatCall [0, 0, 0, 0, 0, 0, 163, 0, 0, 0, 0, 0, 172, 0, 0, 0, 0, 176, 0, 0, 653, 0, 0, 0, 0, 0, 0, 0, 0, 0, 0] = true := by decide +kernel
theorem z_e83 : z_ent 83 zd_P_nodesOtherThan [0, 0, 0, 0, 0, 0, 163, 0, 0, 0, 0, 0, 172, 0, 0, 0, 0, 0, 0, 0, 1084, 0, 0, 0, 0, 0, 0, 0, 0] = true := by decide +kernel
theorem z_e84 : z_ent 84 zd_P_isNodeAsIn [0, 0, 0, 0, 0, 0, 0, 0, 0, 1088, 0, 0, 0, 0, 1088, 0, 0, 0, 0, 0, 0, 0] = true := by decide +kernel
theorem z_e85 : z_ent 85 zd_P_appendMethod [0, 163, 0, 0, 0, 172, 0, 163, 0, 0, 0, 0, 163, 0, 0, 163, 0] = true := by decide +kernel
theorem z_e86 : z_ent 86 zd_P_appendNode [0, 163, 0, 0, 0, 0, 0, 0, 172, 0, 0, 0, 0, 0, 0, 172, 0, 0, 653, 0, 0, 176, 0, 0, 0, 0, 180, 0, 0, 0, 0, 184, 0, 0, 0, 0, 172, 0, 0, 0, 0, 0, 0, 0] = true := by decide +kernel
theorem z_e87 : z_ent 87 zd_P_appendNext [0, 163, 0, 0, 0, 0, 0, 0, 172, 0, 0, 0, 0, 172, 0, 0, 0, 0, 0, 0, 0, 653, 0, 0, 184, 0, 0, 0, 0, 0, 188, 0, 0, 0, 184, 0, 0, 660, 0, 0, 0, 184, 0, 0, 0, 0, 0, 0, 0] = true := by decide +kernel
theorem z_e88 : z_ent 88 zd_P_appendClass [0, 168, 0, 0, 0, 190, 0, 168, 0, 0, 0, 0, 168, 0, 0, 168, 0] = true := by decide +kernel
theorem z_e89 : z_ent 89 zd_P_leadsOnlyToNodes [0, 0, 0, 0, 163, 0, 0, 0, 0, 0, 172, 0, 0, 0, 0, 0, 0, 0, 184, 0, 0, 653, 0, 0, 0, 0, 0, 0, 687, 0, 0, 0, 0, 0, 0, 687, 0, 172, 0, 0, 0, 0, 0, 0, 0, 0, 0, 0, 0, 0, 0] = true := by decide +kernel
theorem z_e90 : z_ent 90 zd_Ts_isThere [0, 0, 0, 0, 220, 0, 0, 0, 0, 0] = true := by decide +kernel
theorem z_e91 : z_ent 91 zd_Ts_isFull [0, 220, 0, 0, 0, 0, 0, 0] = true := by decide +kernel
theorem z_e92 : z_ent 92 zd_Ts_becomeAs [0, 0, 220, 220, 0, 224, 0, 0, 224, 0, 0, 702, 0, 227, 0, 0, 227, 0, 0, 702, 0, 230, 0, 0, 230, 0, 0, 702, 0] = true := by decide +kernel
theorem z_e93 : z_ent 93 zd_Ts_append [0, 678, 0, 0, 224, 0, 220, 0, 0, 0, 227, 0, 220, 0, 0, 0, 230, 0, 220, 0, 0, 0, 0, 220, 0, 0, 220, 0] = true := by decide +kernel
theorem z_e94 : z_ent 94 zd_Ts_remove [0, 0, 0, 0, 0, 0, 220, 0, 0, 224, 0, 0, 224, 0, 0, 0, 0, 0, 0, 227, 0, 0, 227, 0, 0, 0, 0, 0, 0, 230, 0, 0, 230, 0, 0, 0, 0, 0, 0, 0, 0, 0, 220, 0, 0, 220, 0] = true := by decide +kernel
theorem z_e95 : z_ent 95 zd_Ru_begin [0, 0, 303, 0, 0, 304, 0, 0, 305, 0, 0, 296, 0, 0, 298, 0, 0, 306, 0, 0, 307, 0, 300, 784, 0, 303, 165, 0, 0, 0, 0, 785, 0] = true := by decide +kernel
theorem z_e96 : z_ent 96 zd_Ru_enter [0, 0, 0, 296, 0, 0, 0, 0, 0, 296, 0, 300, 0, 0, 0, 789, 0, 303, 174, 0, 0, 0, 0, 0, 0, 0, 0, 0, 0, 0, 0, 0, 0, 0, 0, 0, 0, 0, 790, 0, 0, 0, 0] = true := by decide +kernel
theorem z_e97 : z_ent 97 zd_Ru_visit [0, 298, 0, 0, 0, 0, 307, 0, 0, 0, 0, 298, 0, 0, 298, 0, 0, 794, 0, 0, 303, 181, 0, 0, 0, 0, 303, 177, 0, 0, 0, 0, 0, 0, 0, 296, 0, 0, 0, 0, 0, 296, 0, 0, 0, 795, 0, 0, 0, 0, 296, 0, 0, 0, 0, 0, 296, 0, 307, 0, 0, 0, 0, 0, 0, 0, 303, 186, 0, 0, 801, 0] = true := by decide +kernel
theorem z_e98 : z_ent 98 zd_Ru_enterMeant [0, 300, 0, 304, 0, 799, 789, 0, 303, 0, 304, 0, 800, 0, 0, 0, 0, 0, 0, 0, 0, 0, 0, 0, 0, 785, 0] = true := by decide +kernel
theorem z_e99 : z_ent 99 zd_Ru_goOn [0, 0, 0, 0, 0, 0, 0, 0, 0, 0, 0, 0, 805, 809, 0, 0, 300, 0, 789, 0, 303, 189, 0, 0, 0] = true := by decide +kernel
theorem z_e100 : z_ent 100 zd_Ru_decide [0, 305, 0, 306, 0, 0, 0, 0, 0, 0, 0, 0, 306, 0, 0, 306, 0, 0] = true := by decide +kernel
theorem z_e101 : z_ent 101 zd_Es_clear [0, 291, 0, 727, 0] = true := by decide +kernel
theorem z_e102 : z_ent 102 zd_Es_becomeAs [0, 291, 0, 0, 291, 0, 0, 814, 0] = true := by decide +kernel
theorem z_e103 : z_ent 103 zd_Es_put [0, 0, 0, 0, 0, 0, 291, 0, 0, 0, 0, 0, 0, 0, 0, 0, 0, 0, 0, 0] = true := by decide +kernel
theorem z_e104 : z_ent 104 zd_Es_putAll [0, 0, 0, 0, 0, 0, 291, 0, 0, 0, 0, 291, 0, 0, 0, 0, 0, 0, 0] = true := by decide +kernel
theorem z_e105 : z_ent 105 zd_Es_takeOut [0, 0, 0, 0, 0, 0, 291, 0, 0, 0, 0, 291, 0, 0, 833, 0, 0, 0, 0, 0, 0] = true := by decide +kernel
theorem z_e106 : z_ent 106 zd_Es_holds [0, 0, 0, 0, 0, 0, 291, 0, 0, 0, 0, 0, 0, 0, 0, 0, 0, 0, 0, 0, 0] = true := by decide +kernel
theorem z_e107 : z_ent 107 zd_Es_size [0, 0, 765, 0] = true := by decide +kernel
theorem z_e108 : z_ent 108 zd_Es_sizeWithin [0, 0, 0, 0, 0, 0, 0, 0, 0, 291, 0, 0, 0, 291, 0, 0, 0, 769, 0, 0, 0, 0, 0, 0] = true := by decide +kernel
theorem z_e109 : z_ent 109 zd_Dg_compare [0, 333, 723, 0, 0, 0, 0, 336, 164, 0, 0, 0, 730, 0, 0, 0, 0, 0, 0, 336, 169, 0, 0, 0, 0, 0, 0, 0, 336, 0, 0, 754, 0, 337, 0, 0, 754, 0, 0, 333, 0, 0, 758, 744, 0, 0, 0, 0, 0] = true := by decide +kernel
end
section
/-! the entries of the methods 110 to 164 -/
theorem z_e110 : z_ent 110 zd_Dg_compareMethod [0, 0, 340, 0, 338, 0, 734, 0, 336, 173, 0, 0, 0, 0, 0, 0, 0, 0, 735, 0, 0, 333, 0, 0, 0, 744, 0, 0, 0, 0, 340, 0, 0, 0, 0, 0, 0, 0, 339, 0, 0, 0, 0, 0, 339, 0, 0, 0, 0, 748, 0, 0, 0] = true := by decide +kernel
theorem z_e111 : z_ent 111 zd_Dg_compareNexts [0, 0, 0, 0, 336, 185, 0, 0, 739, 0, 0, 0, 336, 0, 0, 0, 752, 0, 0, 337, 0, 0, 0, 752, 0, 0, 0, 0, 0, 0, 0, 0, 0, 0, 0, 0, 0, 0, 0, 0, 0, 0, 0, 0, 0, 0, 0, 0, 0, 0, 0, 0, 0, 735, 0, 0, 333, 0, 0, 0, 753, 744, 0, 0, 0] = true := by decide +kernel
theorem z_e112 : z_ent 112 zd_Dg_pairUp [0, 0, 0, 739, 0, 0, 739, 740, 0, 0, 0, 0, 0, 0, 0, 0, 0, 0, 338, 0, 0, 0, 0, 340, 0, 0, 0, 338, 0, 0, 0, 0, 339, 0, 340, 0, 0, 0, 0, 340, 0, 0, 340, 0, 0] = true := by decide +kernel
theorem z_e113 : z_ent 113 zd_Dg_areAlike [0, 336, 178, 0, 0, 0, 337, 178, 0, 0, 0, 0, 336, 182, 0, 0, 0, 337, 182, 0, 0, 0, 0, 336, 185, 0, 0, 0, 337, 185, 0, 0, 0, 0, 0, 0, 0] = true := by decide +kernel
theorem z_e114 : z_ent 114 zd_Ch_choose [0, 375, 779, 0, 0, 0, 0, 374, 221, 0, 0, 376, 0, 373, 0, 374, 225, 0, 0, 0, 374, 228, 0, 0, 780, 0, 370, 0, 0, 0, 376, 301, 810, 0, 0, 0, 815, 0] = true := by decide +kernel
theorem z_e115 : z_ent 115 zd_Ch_tellTest [0, 0, 0, 369, 0, 0, 0, 0, 0, 0, 0, 0, 0, 369, 0, 0, 0, 0, 370, 0, 0, 893, 0, 0, 370, 0, 0, 0, 375, 334, 824, 0] = true := by decide +kernel
theorem z_e116 : z_ent 116 zd_Ch_costOfChosen [0, 0, 0, 0, 0, 0, 363, 0, 0, 0, 374, 231, 0, 365, 0, 0, 0, 0, 0, 0, 0, 0, 0] = true := by decide +kernel
theorem z_e117 : z_ent 117 zd_Ch_testsOver [0, 0, 0, 0, 0, 0, 374, 221, 0, 0, 0, 370, 0, 0, 0, 920, 0, 0, 0, 0, 0, 0] = true := by decide +kernel
theorem z_e118 : z_ent 118 zd_Ch_edgesOver [0, 372, 1075, 0, 0, 0, 0, 374, 221, 0, 0, 372, 0, 370, 0, 0, 1076, 0, 0, 0, 372, 893, 0] = true := by decide +kernel
theorem z_e119 : z_ent 119 zd_Ch_rankAll [0, 0, 363, 0, 369, 0, 819, 0, 371, 0, 375, 334, 810, 0, 0, 0, 0, 374, 221, 0, 0, 820, 0, 0, 0, 0, 0, 0, 0, 825, 0, 0, 0] = true := by decide +kernel
theorem z_e120 : z_ent 120 zd_Ch_nextOne [0, 0, 0, 0, 0, 0, 0, 0, 374, 221, 0, 0, 369, 0, 0, 0, 0, 0, 370, 0, 0, 0, 375, 334, 824, 0, 0, 370, 0, 0, 0, 371, 824, 0, 0, 0, 0, 0, 0, 374, 231, 0, 0, 0, 0, 0, 374, 231, 0, 0, 0, 0, 0, 0, 0, 0, 0, 0, 0, 0] = true := by decide +kernel
theorem z_e121 : z_ent 121 zd_Ch_rank [0, 365, 0, 363, 0, 0, 0, 367, 0, 363, 0, 370, 0, 0, 0, 371, 824, 0, 0, 369, 0, 0, 363, 0, 0, 0, 363, 0, 0, 363, 0, 371, 0, 370, 0, 0, 829, 0] = true := by decide +kernel
theorem z_e122 : z_ent 122 zd_Sh_renew [0, 0, 434, 0, 0, 438, 0, 0, 436, 0, 439, 0, 1019, 0] = true := by decide +kernel
theorem z_e123 : z_ent 123 zd_Sh_put [0, 438, 0, 0, 439, 0, 0, 0, 0, 0, 0, 438, 0, 0, 0, 439, 0, 0, 0, 0, 0, 0, 439, 0, 0, 0, 0] = true := by decide +kernel
theorem z_e124 : z_ent 124 zd_Sh_cellAt [0, 0, 0, 0, 436, 0, 0, 439, 0, 0, 0, 0, 0] = true := by decide +kernel
theorem z_e125 : z_ent 125 zd_Sh_faultAs [0, 434, 0, 0, 0, 0, 438, 0, 0, 0, 0, 0, 0] = true := by decide +kernel
theorem z_e126 : z_ent 126 zd_Sh_wholeFrom [0, 0, 0, 0, 436, 0, 0, 0, 0, 0, 436, 0, 0, 0, 0, 1040, 0] = true := by decide +kernel
theorem z_e127 : z_ent 127 zd_M_in [0, 0, 0, 0, 0, 0, 0, 0, 0, 0, 0, 0] = true := by decide +kernel
theorem z_e128 : z_ent 128 zd_M_flag [0, 0, 0, 0, 0, 0] = true := by decide +kernel
theorem z_e129 : z_ent 129 zd_M_nodeAt [0, 0, 0, 0, 0, 0, 0, 0, 0, 0, 0, 0, 0, 0] = true := by decide +kernel
theorem z_e130 : z_ent 130 zd_M_hasAt [0, 0, 0, 0, 0, 0, 0, 0, 0, 0, 0, 0, 0, 0] = true := by decide +kernel
theorem z_e131 : z_ent 131 zd_M_firstDraft [0, 0, 0, 0, 0, 0, 1109, 0, 0, 0, 0, 0, 0, 0, 0, 0, 0, 0, 0, 0, 0, 0, 0, 0, 0, 0, 0, 0, 1109, 0, 0, 0, 1099, 0, 0, 0, 0, 0, 0, 0, 0, 0, 0, 1110, 0, 0, 1111, 0] = true := by decide +kernel
theorem z_e132 : z_ent 132 zd_M_keepDraft [0, 0, 0, 0, 0, 0, 1106, 0, 0, 1109, 0, 0, 0, 0, 0, 0, 1108, 0, 0, 0, 0, 1108, 0, 0, 0, 0] = true := by decide +kernel
theorem z_e133 : z_ent 133 zd_M_feed [0, 0, 0, 1214, 1215, 0, 0, 0, 0, 1113, 0, 0, 0, 0, 0, 1112, 0, 1113, 0, 0, 0, 0, 1113, 0, 0, 1113, 0, 1113, 0] = true := by decide +kernel
theorem z_e134 : z_ent 134 zd_M_end [0, 0, 0, 0, 1113, 0, 1215, 0, 0, 0, 0, 1113, 0, 0, 0, 1113, 0, 0] = true := by decide +kernel
theorem z_e135 : z_ent 135 zd_M_requires [0, 0, 0, 1118, 0, 0, 0, 1118, 0, 0, 1115, 1119, 0] = true := by decide +kernel
theorem z_e136 : z_ent 136 zd_M_byteAt [0, 0, 1113, 0, 0, 1112, 0, 0, 0, 0, 0] = true := by decide +kernel
theorem z_e137 : z_ent 137 zd_M_is [0, 1116, 0, 0, 0, 1114, 0, 1115, 0, 0, 0, 0, 0, 1115, 0, 0, 1230, 0, 0, 0, 0, 1115, 0, 0, 0, 0, 1230, 0, 0, 0, 0, 1115, 0, 0, 0, 0, 1230, 0, 0, 0, 0, 0, 0] = true := by decide +kernel
theorem z_e138 : z_ent 138 zd_M_lineNow [0, 0, 0, 0, 0, 0, 1250, 0, 0, 0, 0, 0, 0, 0, 1250, 0, 0, 0, 0, 0, 0, 0, 0, 0, 1250, 0, 0, 0, 0, 0, 0, 0, 0, 0, 1250, 0, 0, 0, 1115, 0, 0, 1230, 0, 0, 0, 0, 0, 0, 0, 0, 0, 0, 1250, 0, 0, 0, 1115, 0, 0, 1230, 0, 0, 0, 0, 1115, 0, 0, 1230, 0, 0, 0, 0, 0, 0, 0, 0, 0, 0, 1250, 0, 0, 0, 0, 0, 0, 0, 0, 0, 1250, 0, 0, 0, 1115, 0, 0, 1230, 0, 0, 0, 0, 0, 0] = true := by decide +kernel
theorem z_e139 : z_ent 139 zd_M_reads [0, 1118, 0, 0, 0, 0, 1114, 1230, 0, 0, 0, 0, 1114, 0, 0, 1114, 0, 0, 0, 1114, 1115, 0, 0, 1114, 1230, 0, 0, 0, 0, 0, 1116, 0, 0, 0, 1234, 1235, 1215, 0, 0, 0, 1116, 0, 0, 1114, 1230, 0, 1234, 1235, 1215, 0, 0, 0, 1114, 0, 0, 1114, 0, 0, 0, 1236, 1237, 1215, 0, 0, 0, 1116, 0, 0, 1117, 0, 0, 1114, 1230, 0, 1236, 1237, 1215, 0, 0, 0, 1114, 0, 1115, 0, 0, 0, 0, 0, 1117, 0, 0, 0, 1114, 1230, 0, 0, 0, 0, 0, 1117, 1117, 0, 0, 1114, 0, 0, 1114, 0, 0, 0, 1114, 0, 1115, 0, 0, 0, 0, 0, 0, 0, 1238, 0, 0, 0, 1116, 0, 0, 0, 0, 0, 0, 0, 0, 1238, 0, 0, 1114, 0, 0, 1114, 0] = true := by decide +kernel
theorem z_e140 : z_ent 140 zd_M_readNumber [0, 1118, 0, 0, 0, 1116, 0, 0, 0, 0, 0, 0, 1238, 0, 1118, 0, 0, 0, 1117, 0, 0, 0, 0, 0, 1215, 0, 0, 1117, 0, 0, 0, 0, 0, 0, 1238, 0, 1118, 0, 0, 1117, 0, 0, 0, 0, 1226, 0, 0] = true := by decide +kernel
theorem z_e141 : z_ent 141 zd_M_methodNow [0, 1109, 0, 0, 0, 0, 0] = true := by decide +kernel
theorem z_e142 : z_ent 142 zd_M_readNode [0, 1258, 0, 0, 0, 0, 1109, 0, 0, 0, 0, 1270, 0, 0, 1109, 0, 0, 0, 0, 0, 0, 0, 0, 0, 1109, 0, 0, 0, 0, 0, 0, 1109, 0, 0, 0, 0, 0, 0, 0, 0, 0, 0, 0, 1273, 0, 0, 0, 0, 0, 0, 0, 1118, 0, 0, 1116, 0, 0, 0, 1109, 0, 0, 0, 0, 0, 0, 0, 0, 0, 1273, 0, 0, 1109, 0, 0, 0, 0, 0, 0, 0, 0, 0, 0, 0] = true := by decide +kernel
theorem z_e143 : z_ent 143 zd_M_readClass [0, 0, 0, 0, 1273, 0, 0, 0, 0, 1110, 0, 0, 0, 0, 1110, 1110, 0, 0] = true := by decide +kernel
theorem z_e144 : z_ent 144 zd_M_readHas [0, 1281, 0, 0, 0, 0, 0, 1273, 0, 0, 0, 0, 0, 1273, 0, 0, 0, 0, 1111, 0, 0, 0, 0, 1111, 1111, 0, 1109, 0, 0, 0, 1099, 0, 0, 0] = true := by decide +kernel
theorem z_e145 : z_ent 145 zd_M_readTest [0, 0, 0, 1109, 0, 0, 0, 0, 0, 0, 1109, 0, 0, 0, 0, 0, 0, 0, 1109, 0, 0, 1281, 0, 0, 1109, 0, 0, 0, 0, 0, 0, 0, 1273, 0, 0, 1109, 0, 0, 0, 0, 0, 0, 0, 1273, 0, 0] = true := by decide +kernel
theorem z_e146 : z_ent 146 zd_M_hasRoom [0, 0, 0, 1109, 0, 0, 0, 0, 0, 0, 0, 0, 0, 1109, 0, 0, 0, 0, 1109, 0, 0, 1258, 0, 0, 0, 0, 0, 0, 0, 0, 0, 1109, 0, 0, 0, 0, 0, 0, 0, 0, 0, 1109, 0, 0, 0, 0, 0, 0, 0, 0, 0, 0] = true := by decide +kernel
theorem z_e147 : z_ent 147 zd_M_readLineOf [0, 0, 0, 1109, 0, 0, 0, 0, 0, 0, 0, 0, 0, 0, 0, 1266, 0, 0, 1109, 0, 0, 1109, 0, 0, 0, 0, 0, 0, 1109, 0, 0, 0, 0, 0, 1273, 0, 0, 1109, 0, 0, 0, 0, 0, 0, 0, 0, 1277, 0, 0, 1285, 0] = true := by decide +kernel
theorem z_e148 : z_ent 148 zd_M_readLine [0, 1246, 0, 0, 0, 0, 0, 0, 0, 0, 0, 1238, 0, 0, 0, 0, 0, 0, 1254, 0, 0, 0, 0, 0, 1238, 0, 1226, 0, 1118, 0, 0, 0, 0, 1262, 0, 1118, 0, 0, 0, 1116, 0, 0, 0, 0, 0, 0, 1238, 0, 1226, 0] = true := by decide +kernel
theorem z_e149 : z_ent 149 zd_M_isWhole [0, 1110, 0, 1109, 0, 0, 0, 0, 1111, 0, 1109, 0, 0, 0, 0, 0, 0, 0, 0, 0, 0, 0, 1109, 0, 0, 0, 0, 0, 0, 0, 1109, 0, 0, 0, 0, 0, 0, 0, 0, 1270, 0, 0, 0, 0, 0, 1109, 0, 0, 0, 0, 0, 0, 0, 0, 1109, 0, 0, 0, 0, 0, 0, 0, 0, 0, 1109, 0, 0, 0, 0, 0, 0, 0, 1109, 0, 0, 0, 0, 0, 0, 0, 0, 0, 0, 0, 0, 0, 0, 0, 0, 0] = true := by decide +kernel
theorem z_e150 : z_ent 150 zd_M_text [0, 0, 0, 0, 1118, 0, 0, 1114, 0, 1095, 0, 1226, 0, 1118, 0, 0, 1116, 0, 0, 1242, 0, 0, 0, 1118, 0, 0, 0, 1289, 0, 1238, 0, 0, 1113, 0, 1118, 0, 0, 0, 1119, 0, 0, 0, 0, 0, 0, 0, 0, 1109, 0, 0, 0, 0, 1109, 0, 0, 0, 0, 0, 0, 0, 0, 1102, 0, 0] = true := by decide +kernel
theorem z_e151 : z_ent 151 zd_M_fault [0, 1118, 0] = true := by decide +kernel
theorem z_e152 : z_ent 152 zd_M_isMethod [0, 0, 0, 0, 1106, 0, 0, 0, 0, 0, 1215, 0] = true := by decide +kernel
theorem z_e153 : z_ent 153 zd_M_isNode [0, 0, 1408, 0, 0, 0, 0, 0, 1106, 0, 0, 0, 0, 0, 0, 0, 1215, 0, 0, 0, 0, 0] = true := by decide +kernel
theorem z_e154 : z_ent 154 zd_M_isClass [0, 0, 0, 0, 1106, 0, 0, 0, 0, 0, 1215, 0] = true := by decide +kernel
theorem z_e155 : z_ent 155 zd_M_isName [0, 0, 0, 1424, 1215, 0] = true := by decide +kernel
theorem z_e156 : z_ent 156 zd_M_isTest [0, 0, 0, 0, 1106, 0, 0, 0, 0, 0, 1215, 0] = true := by decide +kernel
theorem z_e157 : z_ent 157 zd_M_isPart [0, 0, 0, 0, 1215, 0] = true := by decide +kernel
theorem z_e158 : z_ent 158 zd_M_ofNode [0, 1106, 0, 0, 0, 1270, 0, 0, 0, 0] = true := by decide +kernel
theorem z_e159 : z_ent 159 zd_M_meantBy [0, 0, 0, 0, 0, 0, 1106, 0, 0, 0, 1099, 0, 0, 0, 0, 1106, 0, 0, 0, 0, 0, 0, 0, 0, 0, 0, 0, 0, 1106, 0, 0, 0, 1099, 0, 0] = true := by decide +kernel
theorem z_e160 : z_ent 160 zd_M_says [0, 0, 0, 1125, 0, 0, 0, 1125, 0] = true := by decide +kernel
theorem z_e161 : z_ent 161 zd_M_goesTo [0, 1124, 0, 0, 0, 0, 1127, 0, 0, 1120, 0, 1123, 0, 0, 0, 0, 0, 0, 1124, 0, 0, 1124, 0, 1121, 0, 1123, 0, 0, 0, 0, 0, 0, 0, 0, 0, 0, 1321, 0, 0, 0, 0, 0, 1321, 0, 0, 0, 0, 0, 1364, 0] = true := by decide +kernel
theorem z_e162 : z_ent 162 zd_M_comesBack [0, 0, 1123, 0, 0, 1123, 0, 0, 1123, 0, 0, 0, 0, 1127, 0] = true := by decide +kernel
theorem z_e163 : z_ent 163 zd_M_enters [0, 1122, 0, 0, 0, 0, 0, 0, 0, 0, 0, 1364, 0, 1120, 0, 1123, 0, 0, 0, 0, 1123, 0, 0, 1123, 0, 1106, 0, 0, 0, 0, 0, 0, 1368, 0, 0, 0, 0, 0, 1372, 0, 0] = true := by decide +kernel
theorem z_e164 : z_ent 164 zd_M_goesOn [0, 0, 0, 0, 0, 1127, 0, 0, 1120, 0, 1123, 0, 0, 0, 0, 0, 1121, 0, 1123, 0, 0, 0, 0, 0, 0, 0, 0, 0, 1321, 0, 0, 0, 0, 0, 0, 0, 0, 0, 0, 0, 0, 1126, 0, 0, 0, 0, 0, 0, 0, 0, 1126, 0, 0, 0, 0, 0, 0, 1333, 0, 1126, 0, 0, 0, 0, 0, 0, 0, 1321, 0, 0, 1122, 0, 0, 0, 0, 0, 0, 0, 0, 0, 0, 0, 0, 0, 0, 0, 0, 0, 0, 0, 0, 0, 1368, 0, 0, 0, 0, 1372, 0, 0] = true := by decide +kernel
end
section
/-! the entries of the methods 165 to 220 -/
theorem z_e165 : z_ent 165 zd_M_callsIn [0, 1120, 0, 1123, 0, 0, 0, 0, 0, 1121, 0, 1123, 0, 0, 0, 0, 0, 0, 0, 0, 0, 1321, 0, 0, 0, 0, 0, 0, 0, 0, 1321, 0, 0, 1122, 0, 0, 0, 0, 0, 0, 0, 0, 0, 0, 0, 0, 0, 1329, 0, 0, 0, 0, 0, 1123, 0, 0, 0, 0, 0, 1360, 0, 0, 0, 0, 0] = true := by decide +kernel
theorem z_e166 : z_ent 166 zd_M_runs [0, 0, 0, 0, 0, 0, 1122, 0, 0, 0, 0, 0, 0, 0, 1123, 0, 0, 1124, 0, 0, 1125, 0, 0, 1126, 0, 0, 1106, 0, 0, 0, 0, 0, 0, 1127, 0, 1127, 0, 0, 0, 0, 1360, 0, 0, 1127, 0, 0, 0, 0, 1376, 0, 0, 0, 0, 1380, 0, 0] = true := by decide +kernel
theorem z_e167 : z_ent 167 zd_M_ofTest [0, 1106, 0, 0, 0, 0, 0, 0, 0, 0, 0] = true := by decide +kernel
theorem z_e168 : z_ent 168 zd_M_runsTest [0, 0, 0, 0, 0, 1352, 0, 0, 0, 1352, 1356, 0] = true := by decide +kernel
theorem z_e169 : z_ent 169 zd_M_areAlike [0, 0, 0, 0, 0, 0, 0, 0, 0, 0, 0, 0, 0, 0, 1321, 0, 0, 0, 0, 0, 1321, 0, 0, 0, 0, 0, 0, 0, 0, 0] = true := by decide +kernel
theorem z_e170 : z_ent 170 zd_M_pairsOn [0, 0, 0, 0, 0, 0, 0, 0, 0, 0, 1321, 0, 0, 0, 0, 0, 0, 0, 0, 1321, 0, 0, 0, 0, 0, 0, 0, 0, 1321, 0, 0, 0, 0, 0, 0, 0, 0, 0, 0, 0, 0, 0, 0, 0, 0, 0, 1317, 0, 0, 0, 0, 1129, 0, 0, 0, 0, 0, 0, 0, 0, 0, 0, 0, 0, 1129, 0, 0, 0, 0, 0, 0, 0, 0, 0, 0, 0, 0, 0, 0, 1128, 0, 0, 0, 0, 0, 0, 0, 0, 0, 0, 0, 0, 0, 0, 0] = true := by decide +kernel
theorem z_e171 : z_ent 171 zd_M_findPairs [0, 0, 0, 0, 0, 0, 1129, 0, 0, 0, 0, 0, 0, 0, 0, 0, 1317, 0, 0, 1128, 0, 0, 0, 0, 0, 0, 0, 1129, 0, 0, 0, 0, 0, 0, 0, 0, 0, 0, 0, 0, 0, 0, 0, 1129, 0, 0, 0, 0, 0, 0, 0, 0, 0, 0, 0, 1325, 0, 0, 0, 0, 0, 0, 0, 0, 0, 0, 0] = true := by decide +kernel
theorem z_e172 : z_ent 172 zd_M_findDanger [0, 0, 0, 0, 0, 0, 1128, 0, 0, 0, 0, 0, 0, 0, 0, 0, 1106, 0, 0, 0, 0, 1106, 0, 0, 0, 0, 0, 0, 0, 1313, 0, 0, 0, 0, 0, 0, 1106, 0, 0, 0, 0, 0, 0, 0, 0, 0, 1128, 0, 0, 0, 0, 0, 0, 0, 0, 0, 0, 0, 1329, 0, 0, 0, 0, 1329, 0, 0, 0, 0, 0, 0, 0, 0, 0, 0] = true := by decide +kernel
theorem z_e173 : z_ent 173 zd_M_dangers [0, 1309, 0, 0, 0, 0, 0, 0, 0, 0, 0, 1128, 0, 0, 1333, 0, 0, 0, 0, 0, 0] = true := by decide +kernel
theorem z_e174 : z_ent 174 zd_M_dangersOf [0, 0, 0, 1348, 0, 0, 0, 0, 0, 0, 0, 0, 0, 1122, 0, 0, 0, 0, 1128, 0, 0, 0, 0, 0, 0, 1130, 0, 0, 0, 0, 0, 0, 1333, 0, 0, 0, 0, 0, 0] = true := by decide +kernel
theorem z_e175 : z_ent 175 zd_M_findOrder [0, 1309, 0, 0, 0, 0, 0, 0, 1130, 0, 0, 0, 0, 0, 0, 0, 0, 0, 0, 0, 1131, 0, 0, 0, 0, 0, 0, 0, 1134, 0, 0, 0, 0, 0, 0, 0, 0, 0, 0, 0, 0, 1106, 0, 0, 0, 0, 1131, 0, 0, 0, 0, 0, 0, 1344, 0, 0, 0, 0, 1344, 0, 0, 0, 0, 0, 0, 0, 0, 1352, 0, 0, 0, 0, 0, 1352, 0, 0, 0, 0, 0, 0, 0, 0, 0, 0, 0, 0, 0, 0, 0, 0, 0, 0, 0, 0, 1384, 0, 0] = true := by decide +kernel
theorem z_e176 : z_ent 176 zd_M_comesNext [0, 1132, 0, 1134, 0, 0, 0, 1133, 0, 1134, 0, 0, 0, 0, 1134, 0, 0, 1134, 0, 1131, 0, 0, 0, 0, 0, 0, 1348, 0, 0, 0, 0, 0, 0, 1130, 0, 0, 1130, 0, 0, 0, 0, 1122, 0, 0, 0, 0, 1128, 0, 0, 0, 0, 0, 0, 0, 0, 0, 0] = true := by decide +kernel
theorem z_e177 : z_ent 177 zd_M_rankOf [0, 0, 0, 0, 1134, 0, 0, 1132, 0, 0, 0, 0, 0, 0, 0, 0, 0, 0] = true := by decide +kernel
theorem z_e178 : z_ent 178 zd_M_nodesOfAll [0, 0, 0, 0, 0, 0, 1106, 0, 0, 0, 0, 0, 1106, 0, 0, 0, 0, 0, 0, 0, 0, 0, 0] = true := by decide +kernel
theorem z_e179 : z_ent 179 zd_M_costsChosen [0, 1340, 0, 0, 0, 0, 0, 0, 1134, 0, 0, 0, 0, 1132, 0, 0, 0, 1352, 0, 0, 0, 0, 0, 0] = true := by decide +kernel
theorem z_e180 : z_ent 180 zd_M_chosen [0, 1340, 0, 1134, 0] = true := by decide +kernel
theorem z_e181 : z_ent 181 zd_M_areSame [0, 0, 0, 0, 1356, 0, 1125, 0, 0, 0, 0, 0, 1356, 0, 0, 1125, 0, 0, 0, 0, 0] = true := by decide +kernel
theorem z_e182 : z_ent 182 zd_M_others [0, 0, 0, 0, 0, 0, 1106, 0, 0, 0, 0, 0, 0, 0, 0, 1352, 0, 0, 0, 1352, 1396, 0, 0, 0, 0, 1333, 0, 0, 0, 0, 0, 0] = true := by decide +kernel
theorem z_e183 : z_ent 183 zd_M_rule [0, 0, 0, 1106, 0, 0, 0, 0, 1301, 0, 0, 1106, 0, 0, 0, 0, 1106, 0, 0, 0, 0, 1305, 0, 0, 1336, 0, 0, 1388, 0, 0, 1392, 0, 0, 0] = true := by decide +kernel
theorem z_e184 : z_ent 184 zd_M_node [0, 0, 0, 0, 0, 0, 0, 1404, 0, 0, 0, 0, 1412, 1215, 0, 0, 0, 0, 0, 0, 0, 0, 0, 0, 0, 0, 0, 0, 0, 0, 0, 0, 1321, 0, 0, 0, 0, 0, 0, 0, 0, 0, 1321, 0, 0, 0, 0, 0, 0, 1321, 0, 0, 0] = true := by decide +kernel
theorem z_e185 : z_ent 185 zd_M_meant [0, 0, 1417, 0, 0, 1421, 0, 0, 1425, 0, 0, 0, 0, 0, 1329, 0, 0, 0] = true := by decide +kernel
theorem z_e186 : z_ent 186 zd_M_coveredMany [0, 0, 0, 0, 0, 0, 0, 0, 0, 1122, 0, 0, 1333, 0, 0, 0, 0, 0, 0] = true := by decide +kernel
theorem z_e187 : z_ent 187 zd_M_nodesRun [0, 0, 0, 1348, 0, 1124, 0] = true := by decide +kernel
theorem z_e188 : z_ent 188 zd_M_coveredBy [0, 0, 0, 1348, 0, 1452, 0] = true := by decide +kernel
theorem z_e189 : z_ent 189 zd_M_dangersBy [0, 1309, 0, 0, 0, 1344, 0] = true := by decide +kernel
theorem z_e190 : z_ent 190 zd_M_test [0, 0, 1432, 0, 0, 0, 0, 0, 0, 0, 0, 1352, 0, 0, 0, 0, 0, 0, 1436, 0, 0, 0, 1440, 0, 0, 0, 0, 1333, 0, 0, 1340, 0, 0, 1444, 0, 0, 0, 1448, 0, 0, 0, 1440, 0, 0, 0] = true := by decide +kernel
theorem z_e191 : z_ent 191 zd_M_said [0, 0, 1432, 0, 0, 1425, 0, 0, 0, 0, 0, 0, 1348, 0, 1125, 0] = true := by decide +kernel
theorem z_e192 : z_ent 192 zd_M_isEdge [0, 0, 0, 1468, 1215, 0, 0, 0, 0, 0, 0, 0, 0, 0, 0, 0, 0, 0, 0, 1404, 0, 0, 0, 0, 0, 0, 0, 0, 0, 1321, 0, 0, 0, 0, 0, 0, 0, 1469, 1470, 1215, 0, 0, 0, 0, 0, 1408, 0, 0, 0, 1471, 1472, 1215, 0, 0, 0, 0, 0, 0, 0, 1417, 0, 0, 0, 0, 0] = true := by decide +kernel
theorem z_e193 : z_ent 193 zd_M_testsOver [0, 0, 0, 0, 0, 0, 1106, 0, 0, 0, 0, 0, 0, 1348, 0, 0, 1122, 0, 0, 1333, 0, 0, 0, 0, 0, 0] = true := by decide +kernel
theorem z_e194 : z_ent 194 zd_M_edge [0, 0, 1464, 0, 0, 1425, 0, 0, 0, 0, 0, 0, 0, 0, 1473, 0, 0, 1309, 0, 1128, 0, 0, 1333, 0] = true := by decide +kernel
theorem z_e195 : z_ent 195 zd_M_covers [0, 0, 1432, 0, 0, 0, 1464, 0, 0, 0, 0, 0, 0, 1348, 0, 1122, 0, 0, 1333, 0] = true := by decide +kernel
theorem z_e196 : z_ent 196 zd_M_order [0, 0, 0, 1425, 0, 0, 0, 0, 1340, 0, 0, 1134, 0, 0, 0, 0, 0, 0, 1132, 0, 0, 0, 0, 1133, 0, 0, 0] = true := by decide +kernel
theorem z_e197 : z_ent 197 zd_M_same [0, 0, 1417, 0, 0, 0, 0, 0, 0, 0, 0, 0, 0, 0, 0, 0, 0, 1396, 1333, 0, 0, 0, 0, 0, 0] = true := by decide +kernel
theorem z_e198 : z_ent 198 zd_M_say [0, 0, 0, 1404, 0, 0, 1425, 0, 0, 0, 0, 0, 0, 1493, 0, 1424, 1215, 0, 0, 0, 0, 0, 0, 1270, 0, 0, 0, 1106, 0, 0, 0, 0, 0, 0, 1106, 0, 0, 0, 0, 0, 0, 0, 1106, 0, 0, 0, 0, 0, 0, 1106, 0, 0, 0, 0, 0, 0, 0] = true := by decide +kernel
theorem z_e199 : z_ent 199 zd_M_lead [0, 0, 0, 1404, 0, 0, 0, 0, 0, 0, 0, 0, 0, 1321, 0, 0, 0, 1215, 0, 0, 0, 0, 0, 0, 0, 1404, 0, 0, 0, 0, 0, 0, 1270, 0, 0, 0, 0, 0, 0, 1106, 0, 0, 0, 0, 1106, 0, 0, 0, 0, 0] = true := by decide +kernel
theorem z_e200 : z_ent 200 zd_M_nexts [0, 0, 0, 1404, 0, 0, 0, 0, 1502, 1215, 0, 0, 0, 0, 0, 0, 1270, 0, 0, 1106, 0, 0, 0, 0, 0, 0, 0, 0, 0, 0, 0, 1106, 0, 0, 0, 0, 0, 0, 0, 0, 0, 0, 0, 0, 0, 0, 0, 1106, 0, 0, 0, 0, 0, 0, 0, 0, 0, 0, 1106, 0, 0, 0, 0, 0, 0, 0] = true := by decide +kernel
theorem z_e201 : z_ent 201 zd_M_has [0, 0, 1417, 0, 0, 1421, 0, 0, 0, 0, 0, 0, 1408, 0, 0, 0, 0, 0, 0, 1099, 0, 0, 1106, 0, 0, 0, 0, 1106, 0, 0, 0, 0, 0] = true := by decide +kernel
theorem z_e202 : z_ent 202 zd_M_becomes [0, 1305, 0, 0, 0, 0, 0, 0, 0, 1106, 0, 0, 0, 0, 0, 0, 0, 0, 1106, 0, 0, 0, 0, 0, 0, 0, 0, 0, 0, 0, 0, 0] = true := by decide +kernel
theorem z_e203 : z_ent 203 zd_M_take [0, 0, 0, 1511, 0] = true := by decide +kernel
theorem z_e204 : z_ent 204 zd_M_leave [0, 0, 0, 1511, 0] = true := by decide +kernel
theorem z_e205 : z_ent 205 zd_M_comes [0, 0, 0, 1106, 0, 0, 0, 0, 0, 0, 1106, 0, 0, 0, 0, 1106, 0, 0, 0, 0, 0, 0, 1106, 0, 0, 0, 0, 0, 0, 1106, 0, 0, 0, 0, 0, 0, 0] = true := by decide +kernel
theorem z_e206 : z_ent 206 zd_M_add [0, 0, 1417, 0, 0, 0, 0, 1523, 1215, 0, 0, 0, 0, 1493, 1215, 0, 0, 0, 0, 1106, 0, 0, 0, 0, 0, 0, 0, 0, 0, 0, 1524, 0, 1106, 0, 0, 0] = true := by decide +kernel
theorem z_e207 : z_ent 207 zd_M_drop [0, 0, 1432, 0, 0, 0, 0, 0, 0, 0, 0, 0, 0, 0, 0, 0, 1106, 0, 0, 0, 0, 0, 0, 0, 0, 1106, 0, 0, 1106, 0, 0, 0, 0, 0, 0, 0, 0, 1106, 0, 0, 0, 0, 0, 0, 0, 1106, 0, 0, 0] = true := by decide +kernel
theorem z_e208 : z_ent 208 zd_M_draw [0, 0, 0, 1536, 1215, 0, 0, 0, 0, 1106, 0, 0, 0, 0, 0, 0, 0, 0, 0, 0, 0, 0, 0, 1106, 0, 0, 0, 0, 0, 1537, 0, 0, 0, 0, 0, 0, 0, 0, 0, 0, 0, 0, 0, 1106, 0, 0, 0, 0, 0, 0, 0, 0, 0, 0, 0, 0, 0, 0, 0, 1524, 0, 0, 0, 0] = true := by decide +kernel
theorem z_e209 : z_ent 209 zd_M_keep [0, 0, 0, 0, 1215, 0, 0, 0, 0, 1108, 0, 0, 1333, 0, 0, 1108, 0, 0, 0, 0, 0, 0, 0, 0, 0, 1107, 0, 0, 0, 0, 0, 0, 1106, 0, 0, 0, 0, 0, 0, 0] = true := by decide +kernel
theorem z_e210 : z_ent 210 zd_M_back [0, 0, 0, 0, 1215, 0, 0, 0, 0, 1108, 0, 0, 0, 0, 0, 0, 0, 0, 0, 0, 0, 1106, 0, 0, 1107, 0, 0, 0, 0, 0, 0, 0, 0, 0, 0, 1106, 0, 0, 0] = true := by decide +kernel
theorem z_e211 : z_ent 211 zd_M_isSheet [0, 0, 0, 1424, 1215, 0, 0, 0, 0, 1502, 1215, 0, 0, 0, 0, 0] = true := by decide +kernel
theorem z_e212 : z_ent 212 zd_M_sheet [0, 0, 1550, 0, 0, 0, 0, 0, 0, 0, 0, 0, 0, 0, 1135, 0, 0, 0, 0, 1136, 0, 0, 0, 0, 0, 0, 0, 0, 0, 1137, 0, 0, 0, 0, 0, 0, 0, 0, 0, 0, 0] = true := by decide +kernel
theorem z_e213 : z_ent 213 zd_M_lay [0, 0, 1550, 0, 0, 0, 0, 1135, 0, 0, 0, 0, 0, 0, 0, 0, 0, 0, 1136, 0, 0, 0, 0, 0, 1215, 0, 0, 0, 0, 1137, 0, 0, 0, 0, 0, 0, 1135, 0, 0, 0, 0, 0, 0, 0, 1135, 0, 0, 0, 0, 0, 0, 0, 0, 0, 0, 0] = true := by decide +kernel
theorem z_e214 : z_ent 214 zd_M_read [0, 0, 1550, 0, 0, 0, 0, 1561, 1215, 0, 0, 0, 0, 0, 0, 0, 0, 0, 1138, 0, 0, 1106, 0, 0, 0, 0, 0, 0, 0, 0, 0, 0, 0, 0, 0, 0, 0, 0, 0, 0, 0, 0, 0, 0, 0, 0, 0, 0, 0, 0, 0, 0, 0, 0, 0, 0, 0, 1135, 0, 0, 0, 0, 0, 0, 0, 1135, 0, 0, 0, 0, 0, 0, 0, 0, 0, 0, 0, 0, 1136, 0, 0, 0, 0, 0, 0, 0, 0, 0, 0, 0, 0, 0, 0, 0, 0, 0, 0, 0, 0, 0, 0, 0, 0, 0, 1137, 0, 0, 0, 1137, 0, 0, 0, 0, 0, 1137, 0, 0, 0, 0, 0, 1137, 0, 0, 0, 0, 1562, 0, 0, 0, 0, 0, 0, 0, 1106, 0, 0, 1138, 0, 0, 0, 0, 0, 0, 0, 0, 0, 0, 0, 0, 0, 0, 1139, 0, 0] = true := by decide +kernel
theorem z_e215 : z_ent 215 zd_M_torn [0, 1139, 0] = true := by decide +kernel
theorem z_e216 : z_ent 216 zd_M_callsOld [0, 0, 0, 0, 0, 0, 1106, 0, 0, 0, 0, 0, 0, 0, 1106, 0, 0, 0, 0, 0, 0, 0, 0, 0, 0, 0, 1321, 0, 0, 0, 0, 0, 0, 0, 0] = true := by decide +kernel
theorem z_e217 : z_ent 217 zd_M_isOther [0, 0, 0, 0, 1317, 0, 0, 0, 0, 0, 0, 0, 0, 0, 0, 0, 0, 0, 1321, 0, 0, 0, 0, 0, 0, 0, 0, 0, 0, 1321, 0, 0, 0, 0, 0, 0, 0, 1321, 0, 0, 0, 0, 0, 0, 0, 0, 0] = true := by decide +kernel
theorem z_e218 : z_ent 218 zd_M_nodesOther [0, 0, 0, 0, 0, 0, 1106, 0, 0, 0, 0, 0, 0, 0, 1106, 0, 0, 0, 0, 0, 0, 0, 0, 0, 1583, 1333, 0, 0, 0, 0, 0, 0, 0, 0] = true := by decide +kernel
theorem z_e219 : z_ent 219 zd_M_edgesOver [0, 0, 0, 0, 0, 0, 1130, 0, 0, 0, 0, 0, 0, 0, 0, 0, 1106, 0, 0, 0, 0, 0, 0, 1348, 0, 0, 0, 0, 0, 0, 1130, 0, 0, 1130, 0, 0, 0, 0, 1122, 0, 0, 0, 0, 0, 0, 0, 0, 0, 0, 0, 0, 0, 0, 0, 0, 0, 0, 0, 0, 1130, 0, 0, 1333, 0, 0, 0, 0, 0, 0] = true := by decide +kernel
theorem z_e220 : z_ent 220 zd_M_count [0, 0, 0, 1108, 0, 0, 1333, 0, 1108, 0, 0, 1333, 0, 0, 0, 1571, 0, 0, 1113, 0, 0, 1135, 0, 0, 0, 0, 0, 0, 0, 1136, 0, 0, 0, 0, 1575, 0, 0, 1579, 0, 0, 0] = true := by decide +kernel
def z_Pid (id : Nat) : Prop := ∃ zd ps, z_code id = z_find2 zd ∧ z_ent id zd ps = true
theorem z_p0 : z_Pid 0 := ⟨zd_X_feed, _, rfl, z_e0⟩
theorem z_p1 : z_Pid 1 := ⟨zd_X_end, _, rfl, z_e1⟩
theorem z_p2 : z_Pid 2 := ⟨zd_X_text, _, rfl, z_e2⟩
theorem z_p3 : z_Pid 3 := ⟨zd_X_fault, _, rfl, z_e3⟩
theorem z_p4 : z_Pid 4 := ⟨zd_X_rule, _, rfl, z_e4⟩
theorem z_p5 : z_Pid 5 := ⟨zd_X_node, _, rfl, z_e5⟩
theorem z_p6 : z_Pid 6 := ⟨zd_X_meant, _, rfl, z_e6⟩
theorem z_p7 : z_Pid 7 := ⟨zd_X_test, _, rfl, z_e7⟩
theorem z_p8 : z_Pid 8 := ⟨zd_X_said, _, rfl, z_e8⟩
theorem z_p9 : z_Pid 9 := ⟨zd_X_edge, _, rfl, z_e9⟩
theorem z_p10 : z_Pid 10 := ⟨zd_X_covers, _, rfl, z_e10⟩
theorem z_p11 : z_Pid 11 := ⟨zd_X_order, _, rfl, z_e11⟩
theorem z_p12 : z_Pid 12 := ⟨zd_X_same, _, rfl, z_e12⟩
theorem z_p13 : z_Pid 13 := ⟨zd_X_say, _, rfl, z_e13⟩
theorem z_p14 : z_Pid 14 := ⟨zd_X_lead, _, rfl, z_e14⟩
theorem z_p15 : z_Pid 15 := ⟨zd_X_nexts, _, rfl, z_e15⟩
theorem z_p16 : z_Pid 16 := ⟨zd_X_has, _, rfl, z_e16⟩
theorem z_p17 : z_Pid 17 := ⟨zd_X_take, _, rfl, z_e17⟩
theorem z_p18 : z_Pid 18 := ⟨zd_X_leave, _, rfl, z_e18⟩
theorem z_p19 : z_Pid 19 := ⟨zd_X_add, _, rfl, z_e19⟩
theorem z_p20 : z_Pid 20 := ⟨zd_X_drop, _, rfl, z_e20⟩
theorem z_p21 : z_Pid 21 := ⟨zd_X_draw, _, rfl, z_e21⟩
theorem z_p22 : z_Pid 22 := ⟨zd_X_keep, _, rfl, z_e22⟩
theorem z_p23 : z_Pid 23 := ⟨zd_X_back, _, rfl, z_e23⟩
theorem z_p24 : z_Pid 24 := ⟨zd_X_sheet, _, rfl, z_e24⟩
theorem z_p25 : z_Pid 25 := ⟨zd_X_lay, _, rfl, z_e25⟩
theorem z_p26 : z_Pid 26 := ⟨zd_X_read, _, rfl, z_e26⟩
theorem z_p27 : z_Pid 27 := ⟨zd_X_torn, _, rfl, z_e27⟩
theorem z_p28 : z_Pid 28 := ⟨zd_X_count, _, rfl, z_e28⟩
theorem z_p29 : z_Pid 29 := ⟨zd_X_programOf, _, rfl, z_e29⟩
theorem z_p30 : z_Pid 30 := ⟨zd_X_runTest, _, rfl, z_e30⟩
theorem z_p31 : z_Pid 31 := ⟨zd_X_edgesInDanger, _, rfl, z_e31⟩
theorem z_p32 : z_Pid 32 := ⟨zd_X_saysTheSame, _, rfl, z_e32⟩
theorem z_p33 : z_Pid 33 := ⟨zd_X_testsThatSayOther, _, rfl, z_e33⟩
theorem z_p34 : z_Pid 34 := ⟨zd_X_imagesKept, _, rfl, z_e34⟩
theorem z_p35 : z_Pid 35 := ⟨zd_X_firstRefused, _, rfl, z_e35⟩
theorem z_p36 : z_Pid 36 := ⟨zd_X_turnAll, _, rfl, z_e36⟩
theorem z_p37 : z_Pid 37 := ⟨zd_X_isName, _, rfl, z_e37⟩
theorem z_p38 : z_Pid 38 := ⟨zd_X_isNode, _, rfl, z_e38⟩
theorem z_p39 : z_Pid 39 := ⟨zd_X_isImage, _, rfl, z_e39⟩
theorem z_p40 : z_Pid 40 := ⟨zd_X_isSheet, _, rfl, z_e40⟩
theorem z_p41 : z_Pid 41 := ⟨zd_X_isLane, _, rfl, z_e41⟩
theorem z_p42 : z_Pid 42 := ⟨zd_X_placeOf, _, rfl, z_e42⟩
theorem z_p43 : z_Pid 43 := ⟨zd_X_edgeOfNext, _, rfl, z_e43⟩
theorem z_p44 : z_Pid 44 := ⟨zd_X_edgeOfCall, _, rfl, z_e44⟩
theorem z_p45 : z_Pid 45 := ⟨zd_Tp_append, _, rfl, z_e45⟩
theorem z_p46 : z_Pid 46 := ⟨zd_Tp_rewind, _, rfl, z_e46⟩
theorem z_p47 : z_Pid 47 := ⟨zd_Tp_advance, _, rfl, z_e47⟩
theorem z_p48 : z_Pid 48 := ⟨zd_Tp_isWord, _, rfl, z_e48⟩
theorem z_p49 : z_Pid 49 := ⟨zd_Tp_takeWord, _, rfl, z_e49⟩
theorem z_p50 : z_Pid 50 := ⟨zd_Tp_takeNumber, _, rfl, z_e50⟩
theorem z_p51 : z_Pid 51 := ⟨zd_Tp_isLetter, _, rfl, z_e51⟩
theorem z_p52 : z_Pid 52 := ⟨zd_Tp_isFigure, _, rfl, z_e52⟩
theorem z_p53 : z_Pid 53 := ⟨zd_Rd_readAll, _, rfl, z_e53⟩
theorem z_p54 : z_Pid 54 := ⟨zd_Rd_fail, _, rfl, z_e54⟩
theorem z_p55 : z_Pid 55 := ⟨zd_Rd_advance, _, rfl, z_e55⟩
theorem z_p56 : z_Pid 56 := ⟨zd_Rd_readLine, _, rfl, z_e56⟩
theorem z_p57 : z_Pid 57 := ⟨zd_Rd_lineOfWord, _, rfl, z_e57⟩
theorem z_p58 : z_Pid 58 := ⟨zd_Rd_wordOf, _, rfl, z_e58⟩
theorem z_p59 : z_Pid 59 := ⟨zd_Rd_hasRoomFor, _, rfl, z_e59⟩
theorem z_p60 : z_Pid 60 := ⟨zd_Rd_readRest, _, rfl, z_e60⟩
theorem z_p61 : z_Pid 61 := ⟨zd_Rd_leastArguments, _, rfl, z_e61⟩
theorem z_p62 : z_Pid 62 := ⟨zd_Rd_mostArguments, _, rfl, z_e62⟩
theorem z_p63 : z_Pid 63 := ⟨zd_Rd_isWithin, _, rfl, z_e63⟩
theorem z_p64 : z_Pid 64 := ⟨zd_Rd_tell, _, rfl, z_e64⟩
theorem z_p65 : z_Pid 65 := ⟨zd_Rd_tellNode, _, rfl, z_e65⟩
theorem z_p66 : z_Pid 66 := ⟨zd_Rd_tellHas, _, rfl, z_e66⟩
theorem z_p67 : z_Pid 67 := ⟨zd_Rd_tellsWhatIsNotThere, _, rfl, z_e67⟩
theorem z_p68 : z_Pid 68 := ⟨zd_P_clear, _, rfl, z_e68⟩
theorem z_p69 : z_Pid 69 := ⟨zd_P_becomeAs, _, rfl, z_e69⟩
theorem z_p70 : z_Pid 70 := ⟨zd_P_hasMethod, _, rfl, z_e70⟩
theorem z_p71 : z_Pid 71 := ⟨zd_P_hasNode, _, rfl, z_e71⟩
theorem z_p72 : z_Pid 72 := ⟨zd_P_hasNext, _, rfl, z_e72⟩
theorem z_p73 : z_Pid 73 := ⟨zd_P_hasClass, _, rfl, z_e73⟩
theorem z_p74 : z_Pid 74 := ⟨zd_P_hasEdge, _, rfl, z_e74⟩
theorem z_p75 : z_Pid 75 := ⟨zd_P_nextOf, _, rfl, z_e75⟩
theorem z_p76 : z_Pid 76 := ⟨zd_P_mayTurn, _, rfl, z_e76⟩
theorem z_p77 : z_Pid 77 := ⟨zd_P_turn, _, rfl, z_e77⟩
theorem z_p78 : z_Pid 78 := ⟨zd_P_widen, _, rfl, z_e78⟩
theorem z_p79 : z_Pid 79 := ⟨zd_P_meantBy, _, rfl, z_e79⟩
theorem z_p80 : z_Pid 80 := ⟨zd_P_partOf, _, rfl, z_e80⟩
theorem z_p81 : z_Pid 81 := ⟨zd_P_nodesOfAll, _, rfl, z_e81⟩
theorem z_p82 : z_Pid 82 := ⟨zd_P_nodesThatCall, _, rfl, z_e82⟩
theorem z_p83 : z_Pid 83 := ⟨zd_P_nodesOtherThan, _, rfl, z_e83⟩
theorem z_p84 : z_Pid 84 := ⟨zd_P_isNodeAsIn, _, rfl, z_e84⟩
theorem z_p85 : z_Pid 85 := ⟨zd_P_appendMethod, _, rfl, z_e85⟩
theorem z_p86 : z_Pid 86 := ⟨zd_P_appendNode, _, rfl, z_e86⟩
theorem z_p87 : z_Pid 87 := ⟨zd_P_appendNext, _, rfl, z_e87⟩
theorem z_p88 : z_Pid 88 := ⟨zd_P_appendClass, _, rfl, z_e88⟩
theorem z_p89 : z_Pid 89 := ⟨zd_P_leadsOnlyToNodes, _, rfl, z_e89⟩
theorem z_p90 : z_Pid 90 := ⟨zd_Ts_isThere, _, rfl, z_e90⟩
theorem z_p91 : z_Pid 91 := ⟨zd_Ts_isFull, _, rfl, z_e91⟩
theorem z_p92 : z_Pid 92 := ⟨zd_Ts_becomeAs, _, rfl, z_e92⟩
theorem z_p93 : z_Pid 93 := ⟨zd_Ts_append, _, rfl, z_e93⟩
theorem z_p94 : z_Pid 94 := ⟨zd_Ts_remove, _, rfl, z_e94⟩
theorem z_p95 : z_Pid 95 := ⟨zd_Ru_begin, _, rfl, z_e95⟩
theorem z_p96 : z_Pid 96 := ⟨zd_Ru_enter, _, rfl, z_e96⟩
theorem z_p97 : z_Pid 97 := ⟨zd_Ru_visit, _, rfl, z_e97⟩
theorem z_p98 : z_Pid 98 := ⟨zd_Ru_enterMeant, _, rfl, z_e98⟩
theorem z_p99 : z_Pid 99 := ⟨zd_Ru_goOn, _, rfl, z_e99⟩
theorem z_p100 : z_Pid 100 := ⟨zd_Ru_decide, _, rfl, z_e100⟩
theorem z_p101 : z_Pid 101 := ⟨zd_Es_clear, _, rfl, z_e101⟩
theorem z_p102 : z_Pid 102 := ⟨zd_Es_becomeAs, _, rfl, z_e102⟩
theorem z_p103 : z_Pid 103 := ⟨zd_Es_put, _, rfl, z_e103⟩
theorem z_p104 : z_Pid 104 := ⟨zd_Es_putAll, _, rfl, z_e104⟩
theorem z_p105 : z_Pid 105 := ⟨zd_Es_takeOut, _, rfl, z_e105⟩
theorem z_p106 : z_Pid 106 := ⟨zd_Es_holds, _, rfl, z_e106⟩
theorem z_p107 : z_Pid 107 := ⟨zd_Es_size, _, rfl, z_e107⟩
theorem z_p108 : z_Pid 108 := ⟨zd_Es_sizeWithin, _, rfl, z_e108⟩
theorem z_p109 : z_Pid 109 := ⟨zd_Dg_compare, _, rfl, z_e109⟩
theorem z_p110 : z_Pid 110 := ⟨zd_Dg_compareMethod, _, rfl, z_e110⟩
theorem z_p111 : z_Pid 111 := ⟨zd_Dg_compareNexts, _, rfl, z_e111⟩
theorem z_p112 : z_Pid 112 := ⟨zd_Dg_pairUp, _, rfl, z_e112⟩
theorem z_p113 : z_Pid 113 := ⟨zd_Dg_areAlike, _, rfl, z_e113⟩
theorem z_p114 : z_Pid 114 := ⟨zd_Ch_choose, _, rfl, z_e114⟩
theorem z_p115 : z_Pid 115 := ⟨zd_Ch_tellTest, _, rfl, z_e115⟩
theorem z_p116 : z_Pid 116 := ⟨zd_Ch_costOfChosen, _, rfl, z_e116⟩
theorem z_p117 : z_Pid 117 := ⟨zd_Ch_testsOver, _, rfl, z_e117⟩
theorem z_p118 : z_Pid 118 := ⟨zd_Ch_edgesOver, _, rfl, z_e118⟩
theorem z_p119 : z_Pid 119 := ⟨zd_Ch_rankAll, _, rfl, z_e119⟩
theorem z_p120 : z_Pid 120 := ⟨zd_Ch_nextOne, _, rfl, z_e120⟩
theorem z_p121 : z_Pid 121 := ⟨zd_Ch_rank, _, rfl, z_e121⟩
theorem z_p122 : z_Pid 122 := ⟨zd_Sh_renew, _, rfl, z_e122⟩
theorem z_p123 : z_Pid 123 := ⟨zd_Sh_put, _, rfl, z_e123⟩
theorem z_p124 : z_Pid 124 := ⟨zd_Sh_cellAt, _, rfl, z_e124⟩
theorem z_p125 : z_Pid 125 := ⟨zd_Sh_faultAs, _, rfl, z_e125⟩
theorem z_p126 : z_Pid 126 := ⟨zd_Sh_wholeFrom, _, rfl, z_e126⟩
theorem z_p127 : z_Pid 127 := ⟨zd_M_in, _, rfl, z_e127⟩
theorem z_p128 : z_Pid 128 := ⟨zd_M_flag, _, rfl, z_e128⟩
theorem z_p129 : z_Pid 129 := ⟨zd_M_nodeAt, _, rfl, z_e129⟩
theorem z_p130 : z_Pid 130 := ⟨zd_M_hasAt, _, rfl, z_e130⟩
theorem z_p131 : z_Pid 131 := ⟨zd_M_firstDraft, _, rfl, z_e131⟩
theorem z_p132 : z_Pid 132 := ⟨zd_M_keepDraft, _, rfl, z_e132⟩
theorem z_p133 : z_Pid 133 := ⟨zd_M_feed, _, rfl, z_e133⟩
theorem z_p134 : z_Pid 134 := ⟨zd_M_end, _, rfl, z_e134⟩
theorem z_p135 : z_Pid 135 := ⟨zd_M_requires, _, rfl, z_e135⟩
theorem z_p136 : z_Pid 136 := ⟨zd_M_byteAt, _, rfl, z_e136⟩
theorem z_p137 : z_Pid 137 := ⟨zd_M_is, _, rfl, z_e137⟩
theorem z_p138 : z_Pid 138 := ⟨zd_M_lineNow, _, rfl, z_e138⟩
theorem z_p139 : z_Pid 139 := ⟨zd_M_reads, _, rfl, z_e139⟩
theorem z_p140 : z_Pid 140 := ⟨zd_M_readNumber, _, rfl, z_e140⟩
theorem z_p141 : z_Pid 141 := ⟨zd_M_methodNow, _, rfl, z_e141⟩
theorem z_p142 : z_Pid 142 := ⟨zd_M_readNode, _, rfl, z_e142⟩
theorem z_p143 : z_Pid 143 := ⟨zd_M_readClass, _, rfl, z_e143⟩
theorem z_p144 : z_Pid 144 := ⟨zd_M_readHas, _, rfl, z_e144⟩
theorem z_p145 : z_Pid 145 := ⟨zd_M_readTest, _, rfl, z_e145⟩
theorem z_p146 : z_Pid 146 := ⟨zd_M_hasRoom, _, rfl, z_e146⟩
theorem z_p147 : z_Pid 147 := ⟨zd_M_readLineOf, _, rfl, z_e147⟩
theorem z_p148 : z_Pid 148 := ⟨zd_M_readLine, _, rfl, z_e148⟩
theorem z_p149 : z_Pid 149 := ⟨zd_M_isWhole, _, rfl, z_e149⟩
theorem z_p150 : z_Pid 150 := ⟨zd_M_text, _, rfl, z_e150⟩
theorem z_p151 : z_Pid 151 := ⟨zd_M_fault, _, rfl, z_e151⟩
theorem z_p152 : z_Pid 152 := ⟨zd_M_isMethod, _, rfl, z_e152⟩
theorem z_p153 : z_Pid 153 := ⟨zd_M_isNode, _, rfl, z_e153⟩
theorem z_p154 : z_Pid 154 := ⟨zd_M_isClass, _, rfl, z_e154⟩
theorem z_p155 : z_Pid 155 := ⟨zd_M_isName, _, rfl, z_e155⟩
theorem z_p156 : z_Pid 156 := ⟨zd_M_isTest, _, rfl, z_e156⟩
theorem z_p157 : z_Pid 157 := ⟨zd_M_isPart, _, rfl, z_e157⟩
theorem z_p158 : z_Pid 158 := ⟨zd_M_ofNode, _, rfl, z_e158⟩
theorem z_p159 : z_Pid 159 := ⟨zd_M_meantBy, _, rfl, z_e159⟩
theorem z_p160 : z_Pid 160 := ⟨zd_M_says, _, rfl, z_e160⟩
theorem z_p161 : z_Pid 161 := ⟨zd_M_goesTo, _, rfl, z_e161⟩
theorem z_p162 : z_Pid 162 := ⟨zd_M_comesBack, _, rfl, z_e162⟩
theorem z_p163 : z_Pid 163 := ⟨zd_M_enters, _, rfl, z_e163⟩
theorem z_p164 : z_Pid 164 := ⟨zd_M_goesOn, _, rfl, z_e164⟩
theorem z_p165 : z_Pid 165 := ⟨zd_M_callsIn, _, rfl, z_e165⟩
theorem z_p166 : z_Pid 166 := ⟨zd_M_runs, _, rfl, z_e166⟩
theorem z_p167 : z_Pid 167 := ⟨zd_M_ofTest, _, rfl, z_e167⟩
theorem z_p168 : z_Pid 168 := ⟨zd_M_runsTest, _, rfl, z_e168⟩
theorem z_p169 : z_Pid 169 := ⟨zd_M_areAlike, _, rfl, z_e169⟩
theorem z_p170 : z_Pid 170 := ⟨zd_M_pairsOn, _, rfl, z_e170⟩
theorem z_p171 : z_Pid 171 := ⟨zd_M_findPairs, _, rfl, z_e171⟩
theorem z_p172 : z_Pid 172 := ⟨zd_M_findDanger, _, rfl, z_e172⟩
theorem z_p173 : z_Pid 173 := ⟨zd_M_dangers, _, rfl, z_e173⟩
theorem z_p174 : z_Pid 174 := ⟨zd_M_dangersOf, _, rfl, z_e174⟩
theorem z_p175 : z_Pid 175 := ⟨zd_M_findOrder, _, rfl, z_e175⟩
theorem z_p176 : z_Pid 176 := ⟨zd_M_comesNext, _, rfl, z_e176⟩
theorem z_p177 : z_Pid 177 := ⟨zd_M_rankOf, _, rfl, z_e177⟩
theorem z_p178 : z_Pid 178 := ⟨zd_M_nodesOfAll, _, rfl, z_e178⟩
theorem z_p179 : z_Pid 179 := ⟨zd_M_costsChosen, _, rfl, z_e179⟩
theorem z_p180 : z_Pid 180 := ⟨zd_M_chosen, _, rfl, z_e180⟩
theorem z_p181 : z_Pid 181 := ⟨zd_M_areSame, _, rfl, z_e181⟩
theorem z_p182 : z_Pid 182 := ⟨zd_M_others, _, rfl, z_e182⟩
theorem z_p183 : z_Pid 183 := ⟨zd_M_rule, _, rfl, z_e183⟩
theorem z_p184 : z_Pid 184 := ⟨zd_M_node, _, rfl, z_e184⟩
theorem z_p185 : z_Pid 185 := ⟨zd_M_meant, _, rfl, z_e185⟩
theorem z_p186 : z_Pid 186 := ⟨zd_M_coveredMany, _, rfl, z_e186⟩
theorem z_p187 : z_Pid 187 := ⟨zd_M_nodesRun, _, rfl, z_e187⟩
theorem z_p188 : z_Pid 188 := ⟨zd_M_coveredBy, _, rfl, z_e188⟩
theorem z_p189 : z_Pid 189 := ⟨zd_M_dangersBy, _, rfl, z_e189⟩
theorem z_p190 : z_Pid 190 := ⟨zd_M_test, _, rfl, z_e190⟩
theorem z_p191 : z_Pid 191 := ⟨zd_M_said, _, rfl, z_e191⟩
theorem z_p192 : z_Pid 192 := ⟨zd_M_isEdge, _, rfl, z_e192⟩
theorem z_p193 : z_Pid 193 := ⟨zd_M_testsOver, _, rfl, z_e193⟩
theorem z_p194 : z_Pid 194 := ⟨zd_M_edge, _, rfl, z_e194⟩
theorem z_p195 : z_Pid 195 := ⟨zd_M_covers, _, rfl, z_e195⟩
theorem z_p196 : z_Pid 196 := ⟨zd_M_order, _, rfl, z_e196⟩
theorem z_p197 : z_Pid 197 := ⟨zd_M_same, _, rfl, z_e197⟩
theorem z_p198 : z_Pid 198 := ⟨zd_M_say, _, rfl, z_e198⟩
theorem z_p199 : z_Pid 199 := ⟨zd_M_lead, _, rfl, z_e199⟩
theorem z_p200 : z_Pid 200 := ⟨zd_M_nexts, _, rfl, z_e200⟩
theorem z_p201 : z_Pid 201 := ⟨zd_M_has, _, rfl, z_e201⟩
theorem z_p202 : z_Pid 202 := ⟨zd_M_becomes, _, rfl, z_e202⟩
theorem z_p203 : z_Pid 203 := ⟨zd_M_take, _, rfl, z_e203⟩
theorem z_p204 : z_Pid 204 := ⟨zd_M_leave, _, rfl, z_e204⟩
theorem z_p205 : z_Pid 205 := ⟨zd_M_comes, _, rfl, z_e205⟩
theorem z_p206 : z_Pid 206 := ⟨zd_M_add, _, rfl, z_e206⟩
theorem z_p207 : z_Pid 207 := ⟨zd_M_drop, _, rfl, z_e207⟩
theorem z_p208 : z_Pid 208 := ⟨zd_M_draw, _, rfl, z_e208⟩
theorem z_p209 : z_Pid 209 := ⟨zd_M_keep, _, rfl, z_e209⟩
theorem z_p210 : z_Pid 210 := ⟨zd_M_back, _, rfl, z_e210⟩
theorem z_p211 : z_Pid 211 := ⟨zd_M_isSheet, _, rfl, z_e211⟩
theorem z_p212 : z_Pid 212 := ⟨zd_M_sheet, _, rfl, z_e212⟩
theorem z_p213 : z_Pid 213 := ⟨zd_M_lay, _, rfl, z_e213⟩
theorem z_p214 : z_Pid 214 := ⟨zd_M_read, _, rfl, z_e214⟩
theorem z_p215 : z_Pid 215 := ⟨zd_M_torn, _, rfl, z_e215⟩
theorem z_p216 : z_Pid 216 := ⟨zd_M_callsOld, _, rfl, z_e216⟩
theorem z_p217 : z_Pid 217 := ⟨zd_M_isOther, _, rfl, z_e217⟩
theorem z_p218 : z_Pid 218 := ⟨zd_M_nodesOther, _, rfl, z_e218⟩
theorem z_p219 : z_Pid 219 := ⟨zd_M_edgesOver, _, rfl, z_e219⟩
theorem z_p220 : z_Pid 220 := ⟨zd_M_count, _, rfl, z_e220⟩
theorem z_pl0 : ∀ id, id < 20 → z_Pid id := lt_s (lt_s (lt_s (lt_s (lt_s (lt_s (lt_s (lt_s (lt_s (lt_s (lt_s (lt_s (lt_s (lt_s (lt_s (lt_s (lt_s (lt_s (lt_s (lt_s (lt_0) z_p0) z_p1) z_p2) z_p3) z_p4) z_p5) z_p6) z_p7) z_p8) z_p9) z_p10) z_p11) z_p12) z_p13) z_p14) z_p15) z_p16) z_p17) z_p18) z_p19
theorem z_pl20 : ∀ id, id < 40 → z_Pid id := lt_s (lt_s (lt_s (lt_s (lt_s (lt_s (lt_s (lt_s (lt_s (lt_s (lt_s (lt_s (lt_s (lt_s (lt_s (lt_s (lt_s (lt_s (lt_s (lt_s (z_pl0) z_p20) z_p21) z_p22) z_p23) z_p24) z_p25) z_p26) z_p27) z_p28) z_p29) z_p30) z_p31) z_p32) z_p33) z_p34) z_p35) z_p36) z_p37) z_p38) z_p39
theorem z_pl40 : ∀ id, id < 60 → z_Pid id := lt_s (lt_s (lt_s (lt_s (lt_s (lt_s (lt_s (lt_s (lt_s (lt_s (lt_s (lt_s (lt_s (lt_s (lt_s (lt_s (lt_s (lt_s (lt_s (lt_s (z_pl20) z_p40) z_p41) z_p42) z_p43) z_p44) z_p45) z_p46) z_p47) z_p48) z_p49) z_p50) z_p51) z_p52) z_p53) z_p54) z_p55) z_p56) z_p57) z_p58) z_p59
theorem z_pl60 : ∀ id, id < 80 → z_Pid id := lt_s (lt_s (lt_s (lt_s (lt_s (lt_s (lt_s (lt_s (lt_s (lt_s (lt_s (lt_s (lt_s (lt_s (lt_s (lt_s (lt_s (lt_s (lt_s (lt_s (z_pl40) z_p60) z_p61) z_p62) z_p63) z_p64) z_p65) z_p66) z_p67) z_p68) z_p69) z_p70) z_p71) z_p72) z_p73) z_p74) z_p75) z_p76) z_p77) z_p78) z_p79
theorem z_pl80 : ∀ id, id < 100 → z_Pid id := lt_s (lt_s (lt_s (lt_s (lt_s (lt_s (lt_s (lt_s (lt_s (lt_s (lt_s (lt_s (lt_s (lt_s (lt_s (lt_s (lt_s (lt_s (lt_s (lt_s (z_pl60) z_p80) z_p81) z_p82) z_p83) z_p84) z_p85) z_p86) z_p87) z_p88) z_p89) z_p90) z_p91) z_p92) z_p93) z_p94) z_p95) z_p96) z_p97) z_p98) z_p99
theorem z_pl100 : ∀ id, id < 120 → z_Pid id := lt_s (lt_s (lt_s (lt_s (lt_s (lt_s (lt_s (lt_s (lt_s (lt_s (lt_s (lt_s (lt_s (lt_s (lt_s (lt_s (lt_s (lt_s (lt_s (lt_s (z_pl80) z_p100) z_p101) z_p102) z_p103) z_p104) z_p105) z_p106) z_p107) z_p108) z_p109) z_p110) z_p111) z_p112) z_p113) z_p114) z_p115) z_p116) z_p117) z_p118) z_p119
theorem z_pl120 : ∀ id, id < 140 → z_Pid id := lt_s (lt_s (lt_s (lt_s (lt_s (lt_s (lt_s (lt_s (lt_s (lt_s (lt_s (lt_s (lt_s (lt_s (lt_s (lt_s (lt_s (lt_s (lt_s (lt_s (z_pl100) z_p120) z_p121) z_p122) z_p123) z_p124) z_p125) z_p126) z_p127) z_p128) z_p129) z_p130) z_p131) z_p132) z_p133) z_p134) z_p135) z_p136) z_p137) z_p138) z_p139
theorem z_pl140 : ∀ id, id < 160 → z_Pid id := lt_s (lt_s (lt_s (lt_s (lt_s (lt_s (lt_s (lt_s (lt_s (lt_s (lt_s (lt_s (lt_s (lt_s (lt_s (lt_s (lt_s (lt_s (lt_s (lt_s (z_pl120) z_p140) z_p141) z_p142) z_p143) z_p144) z_p145) z_p146) z_p147) z_p148) z_p149) z_p150) z_p151) z_p152) z_p153) z_p154) z_p155) z_p156) z_p157) z_p158) z_p159
theorem z_pl160 : ∀ id, id < 180 → z_Pid id := lt_s (lt_s (lt_s (lt_s (lt_s (lt_s (lt_s (lt_s (lt_s (lt_s (lt_s (lt_s (lt_s (lt_s (lt_s (lt_s (lt_s (lt_s (lt_s (lt_s (z_pl140) z_p160) z_p161) z_p162) z_p163) z_p164) z_p165) z_p166) z_p167) z_p168) z_p169) z_p170) z_p171) z_p172) z_p173) z_p174) z_p175) z_p176) z_p177) z_p178) z_p179
theorem z_pl180 : ∀ id, id < 200 → z_Pid id := lt_s (lt_s (lt_s (lt_s (lt_s (lt_s (lt_s (lt_s (lt_s (lt_s (lt_s (lt_s (lt_s (lt_s (lt_s (lt_s (lt_s (lt_s (lt_s (lt_s (z_pl160) z_p180) z_p181) z_p182) z_p183) z_p184) z_p185) z_p186) z_p187) z_p188) z_p189) z_p190) z_p191) z_p192) z_p193) z_p194) z_p195) z_p196) z_p197) z_p198) z_p199
theorem z_pl200 : ∀ id, id < 220 → z_Pid id := lt_s (lt_s (lt_s (lt_s (lt_s (lt_s (lt_s (lt_s (lt_s (lt_s (lt_s (lt_s (lt_s (lt_s (lt_s (lt_s (lt_s (lt_s (lt_s (lt_s (z_pl180) z_p200) z_p201) z_p202) z_p203) z_p204) z_p205) z_p206) z_p207) z_p208) z_p209) z_p210) z_p211) z_p212) z_p213) z_p214) z_p215) z_p216) z_p217) z_p218) z_p219
theorem z_pl220 : ∀ id, id < 221 → z_Pid id := lt_s (z_pl200) z_p220
theorem z_allok_ok : z_allok := by
  intro id pc i hid hc
  obtain ⟨zd, ps, h1, h2⟩ := z_pl220 id hid
  rw [h1] at hc
  exact z_ent_ok h2 hc
end
section
/-! the law, decoded -/
theorem z_ld0 : decode code 0 = .ok (.new 7, 3) := by decide +kernel
theorem z_ld1 : decode code 3 = .ok (.dup, 1) := by decide +kernel
theorem z_ld2 : decode code 4 = .ok (.invokespecial 9, 3) := by decide +kernel
theorem z_ld3 : decode code 7 = .ok (.astore_n 1, 1) := by decide +kernel
theorem z_ld4 : decode code 8 = .ok (.new 10, 3) := by decide +kernel
theorem z_ld5 : decode code 11 = .ok (.dup, 1) := by decide +kernel
theorem z_ld6 : decode code 12 = .ok (.invokespecial 12, 3) := by decide +kernel
theorem z_ld7 : decode code 15 = .ok (.astore_n 2, 1) := by decide +kernel
theorem z_ld8 : decode code 16 = .ok (.iconst 0, 1) := by decide +kernel
theorem z_ld9 : decode code 17 = .ok (.istore_n 3, 1) := by decide +kernel
theorem z_ld10 : decode code 18 = .ok (.iload_n 3, 1) := by decide +kernel
theorem z_ld11 : decode code 19 = .ok (.aload_n 0, 1) := by decide +kernel
theorem z_ld12 : decode code 20 = .ok (.arraylength, 1) := by decide +kernel
theorem z_ld13 : decode code 21 = .ok (.iconst 5, 1) := by decide +kernel
theorem z_ld14 : decode code 22 = .ok (.isub, 1) := by decide +kernel
theorem z_ld15 : decode code 23 = .ok (.if_icmp .gt 1054, 3) := by decide +kernel
theorem z_ld16 : decode code 26 = .ok (.aload_n 0, 1) := by decide +kernel
theorem z_ld17 : decode code 27 = .ok (.iload_n 3, 1) := by decide +kernel
theorem z_ld18 : decode code 28 = .ok (.iaload, 1) := by decide +kernel
theorem z_ld19 : decode code 29 = .ok (.bipush 31, 2) := by decide +kernel
theorem z_ld20 : decode code 31 = .ok (.iand, 1) := by decide +kernel
theorem z_ld21 : decode code 32 = .ok (.tableswitch 1039 0 28 #[132, 155, 178, 191, 204, 227, 270, 313, 346, 379, 412, 445, 478, 501, 554, 607, 650, 693, 706, 719, 762, 785, 818, 841, 864, 907, 950, 1003, 1016], 132) := by decide +kernel
theorem z_ld22 : decode code 164 = .ok (.aload_n 1, 1) := by decide +kernel
theorem z_ld23 : decode code 165 = .ok (.aload_n 0, 1) := by decide +kernel
theorem z_ld24 : decode code 166 = .ok (.iload_n 3, 1) := by decide +kernel
theorem z_ld25 : decode code 167 = .ok (.iconst 1, 1) := by decide +kernel
theorem z_ld26 : decode code 168 = .ok (.iadd, 1) := by decide +kernel
theorem z_ld27 : decode code 169 = .ok (.iaload, 1) := by decide +kernel
theorem z_ld28 : decode code 170 = .ok (.invokevirtual 13, 3) := by decide +kernel
theorem z_ld29 : decode code 173 = .ok (.aload_n 2, 1) := by decide +kernel
theorem z_ld30 : decode code 174 = .ok (.aload_n 0, 1) := by decide +kernel
theorem z_ld31 : decode code 175 = .ok (.iload_n 3, 1) := by decide +kernel
theorem z_ld32 : decode code 176 = .ok (.iconst 1, 1) := by decide +kernel
theorem z_ld33 : decode code 177 = .ok (.iadd, 1) := by decide +kernel
theorem z_ld34 : decode code 178 = .ok (.iaload, 1) := by decide +kernel
theorem z_ld35 : decode code 179 = .ok (.invokevirtual 17, 3) := by decide +kernel
theorem z_ld36 : decode code 182 = .ok (.if_icmp .eq 889, 3) := by decide +kernel
theorem z_ld37 : decode code 185 = .ok (.iconst 0, 1) := by decide +kernel
theorem z_ld38 : decode code 186 = .ok (.ireturn, 1) := by decide +kernel
theorem z_ld39 : decode code 187 = .ok (.aload_n 1, 1) := by decide +kernel
theorem z_ld40 : decode code 188 = .ok (.aload_n 0, 1) := by decide +kernel
theorem z_ld41 : decode code 189 = .ok (.iload_n 3, 1) := by decide +kernel
theorem z_ld42 : decode code 190 = .ok (.iconst 1, 1) := by decide +kernel
theorem z_ld43 : decode code 191 = .ok (.iadd, 1) := by decide +kernel
theorem z_ld44 : decode code 192 = .ok (.iaload, 1) := by decide +kernel
theorem z_ld45 : decode code 193 = .ok (.invokevirtual 18, 3) := by decide +kernel
theorem z_ld46 : decode code 196 = .ok (.aload_n 2, 1) := by decide +kernel
theorem z_ld47 : decode code 197 = .ok (.aload_n 0, 1) := by decide +kernel
theorem z_ld48 : decode code 198 = .ok (.iload_n 3, 1) := by decide +kernel
theorem z_ld49 : decode code 199 = .ok (.iconst 1, 1) := by decide +kernel
theorem z_ld50 : decode code 200 = .ok (.iadd, 1) := by decide +kernel
theorem z_ld51 : decode code 201 = .ok (.iaload, 1) := by decide +kernel
theorem z_ld52 : decode code 202 = .ok (.invokevirtual 21, 3) := by decide +kernel
theorem z_ld53 : decode code 205 = .ok (.if_icmp .eq 866, 3) := by decide +kernel
theorem z_ld54 : decode code 208 = .ok (.iconst 0, 1) := by decide +kernel
theorem z_ld55 : decode code 209 = .ok (.ireturn, 1) := by decide +kernel
theorem z_ld56 : decode code 210 = .ok (.aload_n 1, 1) := by decide +kernel
theorem z_ld57 : decode code 211 = .ok (.invokevirtual 22, 3) := by decide +kernel
theorem z_ld58 : decode code 214 = .ok (.aload_n 2, 1) := by decide +kernel
theorem z_ld59 : decode code 215 = .ok (.invokevirtual 26, 3) := by decide +kernel
theorem z_ld60 : decode code 218 = .ok (.if_icmp .eq 853, 3) := by decide +kernel
theorem z_ld61 : decode code 221 = .ok (.iconst 0, 1) := by decide +kernel
theorem z_ld62 : decode code 222 = .ok (.ireturn, 1) := by decide +kernel
theorem z_ld63 : decode code 223 = .ok (.aload_n 1, 1) := by decide +kernel
theorem z_ld64 : decode code 224 = .ok (.invokevirtual 27, 3) := by decide +kernel
theorem z_ld65 : decode code 227 = .ok (.aload_n 2, 1) := by decide +kernel
theorem z_ld66 : decode code 228 = .ok (.invokevirtual 30, 3) := by decide +kernel
theorem z_ld67 : decode code 231 = .ok (.if_icmp .eq 840, 3) := by decide +kernel
theorem z_ld68 : decode code 234 = .ok (.iconst 0, 1) := by decide +kernel
theorem z_ld69 : decode code 235 = .ok (.ireturn, 1) := by decide +kernel
end
section
/-! the law, decoded -/
theorem z_ld70 : decode code 236 = .ok (.aload_n 1, 1) := by decide +kernel
theorem z_ld71 : decode code 237 = .ok (.aload_n 0, 1) := by decide +kernel
theorem z_ld72 : decode code 238 = .ok (.iload_n 3, 1) := by decide +kernel
theorem z_ld73 : decode code 239 = .ok (.iconst 1, 1) := by decide +kernel
theorem z_ld74 : decode code 240 = .ok (.iadd, 1) := by decide +kernel
theorem z_ld75 : decode code 241 = .ok (.iaload, 1) := by decide +kernel
theorem z_ld76 : decode code 242 = .ok (.invokevirtual 31, 3) := by decide +kernel
theorem z_ld77 : decode code 245 = .ok (.aload_n 2, 1) := by decide +kernel
theorem z_ld78 : decode code 246 = .ok (.aload_n 0, 1) := by decide +kernel
theorem z_ld79 : decode code 247 = .ok (.iload_n 3, 1) := by decide +kernel
theorem z_ld80 : decode code 248 = .ok (.iconst 1, 1) := by decide +kernel
theorem z_ld81 : decode code 249 = .ok (.iadd, 1) := by decide +kernel
theorem z_ld82 : decode code 250 = .ok (.iaload, 1) := by decide +kernel
theorem z_ld83 : decode code 251 = .ok (.invokevirtual 34, 3) := by decide +kernel
theorem z_ld84 : decode code 254 = .ok (.if_icmp .eq 817, 3) := by decide +kernel
theorem z_ld85 : decode code 257 = .ok (.iconst 0, 1) := by decide +kernel
theorem z_ld86 : decode code 258 = .ok (.ireturn, 1) := by decide +kernel
theorem z_ld87 : decode code 259 = .ok (.aload_n 1, 1) := by decide +kernel
theorem z_ld88 : decode code 260 = .ok (.aload_n 0, 1) := by decide +kernel
theorem z_ld89 : decode code 261 = .ok (.iload_n 3, 1) := by decide +kernel
theorem z_ld90 : decode code 262 = .ok (.iconst 1, 1) := by decide +kernel
theorem z_ld91 : decode code 263 = .ok (.iadd, 1) := by decide +kernel
theorem z_ld92 : decode code 264 = .ok (.iaload, 1) := by decide +kernel
theorem z_ld93 : decode code 265 = .ok (.aload_n 0, 1) := by decide +kernel
theorem z_ld94 : decode code 266 = .ok (.iload_n 3, 1) := by decide +kernel
theorem z_ld95 : decode code 267 = .ok (.iconst 2, 1) := by decide +kernel
theorem z_ld96 : decode code 268 = .ok (.iadd, 1) := by decide +kernel
theorem z_ld97 : decode code 269 = .ok (.iaload, 1) := by decide +kernel
theorem z_ld98 : decode code 270 = .ok (.aload_n 0, 1) := by decide +kernel
theorem z_ld99 : decode code 271 = .ok (.iload_n 3, 1) := by decide +kernel
theorem z_ld100 : decode code 272 = .ok (.iconst 3, 1) := by decide +kernel
theorem z_ld101 : decode code 273 = .ok (.iadd, 1) := by decide +kernel
theorem z_ld102 : decode code 274 = .ok (.iaload, 1) := by decide +kernel
theorem z_ld103 : decode code 275 = .ok (.invokevirtual 35, 3) := by decide +kernel
theorem z_ld104 : decode code 278 = .ok (.aload_n 2, 1) := by decide +kernel
theorem z_ld105 : decode code 279 = .ok (.aload_n 0, 1) := by decide +kernel
theorem z_ld106 : decode code 280 = .ok (.iload_n 3, 1) := by decide +kernel
theorem z_ld107 : decode code 281 = .ok (.iconst 1, 1) := by decide +kernel
theorem z_ld108 : decode code 282 = .ok (.iadd, 1) := by decide +kernel
theorem z_ld109 : decode code 283 = .ok (.iaload, 1) := by decide +kernel
theorem z_ld110 : decode code 284 = .ok (.aload_n 0, 1) := by decide +kernel
theorem z_ld111 : decode code 285 = .ok (.iload_n 3, 1) := by decide +kernel
theorem z_ld112 : decode code 286 = .ok (.iconst 2, 1) := by decide +kernel
theorem z_ld113 : decode code 287 = .ok (.iadd, 1) := by decide +kernel
theorem z_ld114 : decode code 288 = .ok (.iaload, 1) := by decide +kernel
theorem z_ld115 : decode code 289 = .ok (.aload_n 0, 1) := by decide +kernel
theorem z_ld116 : decode code 290 = .ok (.iload_n 3, 1) := by decide +kernel
theorem z_ld117 : decode code 291 = .ok (.iconst 3, 1) := by decide +kernel
theorem z_ld118 : decode code 292 = .ok (.iadd, 1) := by decide +kernel
theorem z_ld119 : decode code 293 = .ok (.iaload, 1) := by decide +kernel
theorem z_ld120 : decode code 294 = .ok (.invokevirtual 39, 3) := by decide +kernel
theorem z_ld121 : decode code 297 = .ok (.if_icmp .eq 774, 3) := by decide +kernel
theorem z_ld122 : decode code 300 = .ok (.iconst 0, 1) := by decide +kernel
theorem z_ld123 : decode code 301 = .ok (.ireturn, 1) := by decide +kernel
theorem z_ld124 : decode code 302 = .ok (.aload_n 1, 1) := by decide +kernel
theorem z_ld125 : decode code 303 = .ok (.aload_n 0, 1) := by decide +kernel
theorem z_ld126 : decode code 304 = .ok (.iload_n 3, 1) := by decide +kernel
theorem z_ld127 : decode code 305 = .ok (.iconst 1, 1) := by decide +kernel
theorem z_ld128 : decode code 306 = .ok (.iadd, 1) := by decide +kernel
theorem z_ld129 : decode code 307 = .ok (.iaload, 1) := by decide +kernel
theorem z_ld130 : decode code 308 = .ok (.aload_n 0, 1) := by decide +kernel
theorem z_ld131 : decode code 309 = .ok (.iload_n 3, 1) := by decide +kernel
theorem z_ld132 : decode code 310 = .ok (.iconst 2, 1) := by decide +kernel
theorem z_ld133 : decode code 311 = .ok (.iadd, 1) := by decide +kernel
theorem z_ld134 : decode code 312 = .ok (.iaload, 1) := by decide +kernel
theorem z_ld135 : decode code 313 = .ok (.aload_n 0, 1) := by decide +kernel
theorem z_ld136 : decode code 314 = .ok (.iload_n 3, 1) := by decide +kernel
theorem z_ld137 : decode code 315 = .ok (.iconst 3, 1) := by decide +kernel
theorem z_ld138 : decode code 316 = .ok (.iadd, 1) := by decide +kernel
theorem z_ld139 : decode code 317 = .ok (.iaload, 1) := by decide +kernel
end
section
/-! the law, decoded -/
theorem z_ld140 : decode code 318 = .ok (.invokevirtual 40, 3) := by decide +kernel
theorem z_ld141 : decode code 321 = .ok (.aload_n 2, 1) := by decide +kernel
theorem z_ld142 : decode code 322 = .ok (.aload_n 0, 1) := by decide +kernel
theorem z_ld143 : decode code 323 = .ok (.iload_n 3, 1) := by decide +kernel
theorem z_ld144 : decode code 324 = .ok (.iconst 1, 1) := by decide +kernel
theorem z_ld145 : decode code 325 = .ok (.iadd, 1) := by decide +kernel
theorem z_ld146 : decode code 326 = .ok (.iaload, 1) := by decide +kernel
theorem z_ld147 : decode code 327 = .ok (.aload_n 0, 1) := by decide +kernel
theorem z_ld148 : decode code 328 = .ok (.iload_n 3, 1) := by decide +kernel
theorem z_ld149 : decode code 329 = .ok (.iconst 2, 1) := by decide +kernel
theorem z_ld150 : decode code 330 = .ok (.iadd, 1) := by decide +kernel
theorem z_ld151 : decode code 331 = .ok (.iaload, 1) := by decide +kernel
theorem z_ld152 : decode code 332 = .ok (.aload_n 0, 1) := by decide +kernel
theorem z_ld153 : decode code 333 = .ok (.iload_n 3, 1) := by decide +kernel
theorem z_ld154 : decode code 334 = .ok (.iconst 3, 1) := by decide +kernel
theorem z_ld155 : decode code 335 = .ok (.iadd, 1) := by decide +kernel
theorem z_ld156 : decode code 336 = .ok (.iaload, 1) := by decide +kernel
theorem z_ld157 : decode code 337 = .ok (.invokevirtual 43, 3) := by decide +kernel
theorem z_ld158 : decode code 340 = .ok (.if_icmp .eq 731, 3) := by decide +kernel
theorem z_ld159 : decode code 343 = .ok (.iconst 0, 1) := by decide +kernel
theorem z_ld160 : decode code 344 = .ok (.ireturn, 1) := by decide +kernel
theorem z_ld161 : decode code 345 = .ok (.aload_n 1, 1) := by decide +kernel
theorem z_ld162 : decode code 346 = .ok (.aload_n 0, 1) := by decide +kernel
theorem z_ld163 : decode code 347 = .ok (.iload_n 3, 1) := by decide +kernel
theorem z_ld164 : decode code 348 = .ok (.iconst 1, 1) := by decide +kernel
theorem z_ld165 : decode code 349 = .ok (.iadd, 1) := by decide +kernel
theorem z_ld166 : decode code 350 = .ok (.iaload, 1) := by decide +kernel
theorem z_ld167 : decode code 351 = .ok (.aload_n 0, 1) := by decide +kernel
theorem z_ld168 : decode code 352 = .ok (.iload_n 3, 1) := by decide +kernel
theorem z_ld169 : decode code 353 = .ok (.iconst 2, 1) := by decide +kernel
theorem z_ld170 : decode code 354 = .ok (.iadd, 1) := by decide +kernel
theorem z_ld171 : decode code 355 = .ok (.iaload, 1) := by decide +kernel
theorem z_ld172 : decode code 356 = .ok (.invokevirtual 44, 3) := by decide +kernel
theorem z_ld173 : decode code 359 = .ok (.aload_n 2, 1) := by decide +kernel
theorem z_ld174 : decode code 360 = .ok (.aload_n 0, 1) := by decide +kernel
theorem z_ld175 : decode code 361 = .ok (.iload_n 3, 1) := by decide +kernel
theorem z_ld176 : decode code 362 = .ok (.iconst 1, 1) := by decide +kernel
theorem z_ld177 : decode code 363 = .ok (.iadd, 1) := by decide +kernel
theorem z_ld178 : decode code 364 = .ok (.iaload, 1) := by decide +kernel
theorem z_ld179 : decode code 365 = .ok (.aload_n 0, 1) := by decide +kernel
theorem z_ld180 : decode code 366 = .ok (.iload_n 3, 1) := by decide +kernel
theorem z_ld181 : decode code 367 = .ok (.iconst 2, 1) := by decide +kernel
theorem z_ld182 : decode code 368 = .ok (.iadd, 1) := by decide +kernel
theorem z_ld183 : decode code 369 = .ok (.iaload, 1) := by decide +kernel
theorem z_ld184 : decode code 370 = .ok (.invokevirtual 48, 3) := by decide +kernel
theorem z_ld185 : decode code 373 = .ok (.if_icmp .eq 698, 3) := by decide +kernel
theorem z_ld186 : decode code 376 = .ok (.iconst 0, 1) := by decide +kernel
theorem z_ld187 : decode code 377 = .ok (.ireturn, 1) := by decide +kernel
theorem z_ld188 : decode code 378 = .ok (.aload_n 1, 1) := by decide +kernel
theorem z_ld189 : decode code 379 = .ok (.aload_n 0, 1) := by decide +kernel
theorem z_ld190 : decode code 380 = .ok (.iload_n 3, 1) := by decide +kernel
theorem z_ld191 : decode code 381 = .ok (.iconst 1, 1) := by decide +kernel
theorem z_ld192 : decode code 382 = .ok (.iadd, 1) := by decide +kernel
theorem z_ld193 : decode code 383 = .ok (.iaload, 1) := by decide +kernel
theorem z_ld194 : decode code 384 = .ok (.aload_n 0, 1) := by decide +kernel
theorem z_ld195 : decode code 385 = .ok (.iload_n 3, 1) := by decide +kernel
theorem z_ld196 : decode code 386 = .ok (.iconst 2, 1) := by decide +kernel
theorem z_ld197 : decode code 387 = .ok (.iadd, 1) := by decide +kernel
theorem z_ld198 : decode code 388 = .ok (.iaload, 1) := by decide +kernel
theorem z_ld199 : decode code 389 = .ok (.invokevirtual 49, 3) := by decide +kernel
theorem z_ld200 : decode code 392 = .ok (.aload_n 2, 1) := by decide +kernel
theorem z_ld201 : decode code 393 = .ok (.aload_n 0, 1) := by decide +kernel
theorem z_ld202 : decode code 394 = .ok (.iload_n 3, 1) := by decide +kernel
theorem z_ld203 : decode code 395 = .ok (.iconst 1, 1) := by decide +kernel
theorem z_ld204 : decode code 396 = .ok (.iadd, 1) := by decide +kernel
theorem z_ld205 : decode code 397 = .ok (.iaload, 1) := by decide +kernel
theorem z_ld206 : decode code 398 = .ok (.aload_n 0, 1) := by decide +kernel
theorem z_ld207 : decode code 399 = .ok (.iload_n 3, 1) := by decide +kernel
theorem z_ld208 : decode code 400 = .ok (.iconst 2, 1) := by decide +kernel
theorem z_ld209 : decode code 401 = .ok (.iadd, 1) := by decide +kernel
end
section
/-! the law, decoded -/
theorem z_ld210 : decode code 402 = .ok (.iaload, 1) := by decide +kernel
theorem z_ld211 : decode code 403 = .ok (.invokevirtual 52, 3) := by decide +kernel
theorem z_ld212 : decode code 406 = .ok (.if_icmp .eq 665, 3) := by decide +kernel
theorem z_ld213 : decode code 409 = .ok (.iconst 0, 1) := by decide +kernel
theorem z_ld214 : decode code 410 = .ok (.ireturn, 1) := by decide +kernel
theorem z_ld215 : decode code 411 = .ok (.aload_n 1, 1) := by decide +kernel
theorem z_ld216 : decode code 412 = .ok (.aload_n 0, 1) := by decide +kernel
theorem z_ld217 : decode code 413 = .ok (.iload_n 3, 1) := by decide +kernel
theorem z_ld218 : decode code 414 = .ok (.iconst 1, 1) := by decide +kernel
theorem z_ld219 : decode code 415 = .ok (.iadd, 1) := by decide +kernel
theorem z_ld220 : decode code 416 = .ok (.iaload, 1) := by decide +kernel
theorem z_ld221 : decode code 417 = .ok (.aload_n 0, 1) := by decide +kernel
theorem z_ld222 : decode code 418 = .ok (.iload_n 3, 1) := by decide +kernel
theorem z_ld223 : decode code 419 = .ok (.iconst 2, 1) := by decide +kernel
theorem z_ld224 : decode code 420 = .ok (.iadd, 1) := by decide +kernel
theorem z_ld225 : decode code 421 = .ok (.iaload, 1) := by decide +kernel
theorem z_ld226 : decode code 422 = .ok (.invokevirtual 53, 3) := by decide +kernel
theorem z_ld227 : decode code 425 = .ok (.aload_n 2, 1) := by decide +kernel
theorem z_ld228 : decode code 426 = .ok (.aload_n 0, 1) := by decide +kernel
theorem z_ld229 : decode code 427 = .ok (.iload_n 3, 1) := by decide +kernel
theorem z_ld230 : decode code 428 = .ok (.iconst 1, 1) := by decide +kernel
theorem z_ld231 : decode code 429 = .ok (.iadd, 1) := by decide +kernel
theorem z_ld232 : decode code 430 = .ok (.iaload, 1) := by decide +kernel
theorem z_ld233 : decode code 431 = .ok (.aload_n 0, 1) := by decide +kernel
theorem z_ld234 : decode code 432 = .ok (.iload_n 3, 1) := by decide +kernel
theorem z_ld235 : decode code 433 = .ok (.iconst 2, 1) := by decide +kernel
theorem z_ld236 : decode code 434 = .ok (.iadd, 1) := by decide +kernel
theorem z_ld237 : decode code 435 = .ok (.iaload, 1) := by decide +kernel
theorem z_ld238 : decode code 436 = .ok (.invokevirtual 56, 3) := by decide +kernel
theorem z_ld239 : decode code 439 = .ok (.if_icmp .eq 632, 3) := by decide +kernel
theorem z_ld240 : decode code 442 = .ok (.iconst 0, 1) := by decide +kernel
theorem z_ld241 : decode code 443 = .ok (.ireturn, 1) := by decide +kernel
theorem z_ld242 : decode code 444 = .ok (.aload_n 1, 1) := by decide +kernel
theorem z_ld243 : decode code 445 = .ok (.aload_n 0, 1) := by decide +kernel
theorem z_ld244 : decode code 446 = .ok (.iload_n 3, 1) := by decide +kernel
theorem z_ld245 : decode code 447 = .ok (.iconst 1, 1) := by decide +kernel
theorem z_ld246 : decode code 448 = .ok (.iadd, 1) := by decide +kernel
theorem z_ld247 : decode code 449 = .ok (.iaload, 1) := by decide +kernel
theorem z_ld248 : decode code 450 = .ok (.aload_n 0, 1) := by decide +kernel
theorem z_ld249 : decode code 451 = .ok (.iload_n 3, 1) := by decide +kernel
theorem z_ld250 : decode code 452 = .ok (.iconst 2, 1) := by decide +kernel
theorem z_ld251 : decode code 453 = .ok (.iadd, 1) := by decide +kernel
theorem z_ld252 : decode code 454 = .ok (.iaload, 1) := by decide +kernel
theorem z_ld253 : decode code 455 = .ok (.invokevirtual 57, 3) := by decide +kernel
theorem z_ld254 : decode code 458 = .ok (.aload_n 2, 1) := by decide +kernel
theorem z_ld255 : decode code 459 = .ok (.aload_n 0, 1) := by decide +kernel
theorem z_ld256 : decode code 460 = .ok (.iload_n 3, 1) := by decide +kernel
theorem z_ld257 : decode code 461 = .ok (.iconst 1, 1) := by decide +kernel
theorem z_ld258 : decode code 462 = .ok (.iadd, 1) := by decide +kernel
theorem z_ld259 : decode code 463 = .ok (.iaload, 1) := by decide +kernel
theorem z_ld260 : decode code 464 = .ok (.aload_n 0, 1) := by decide +kernel
theorem z_ld261 : decode code 465 = .ok (.iload_n 3, 1) := by decide +kernel
theorem z_ld262 : decode code 466 = .ok (.iconst 2, 1) := by decide +kernel
theorem z_ld263 : decode code 467 = .ok (.iadd, 1) := by decide +kernel
theorem z_ld264 : decode code 468 = .ok (.iaload, 1) := by decide +kernel
theorem z_ld265 : decode code 469 = .ok (.invokevirtual 60, 3) := by decide +kernel
theorem z_ld266 : decode code 472 = .ok (.if_icmp .eq 599, 3) := by decide +kernel
theorem z_ld267 : decode code 475 = .ok (.iconst 0, 1) := by decide +kernel
theorem z_ld268 : decode code 476 = .ok (.ireturn, 1) := by decide +kernel
theorem z_ld269 : decode code 477 = .ok (.aload_n 1, 1) := by decide +kernel
theorem z_ld270 : decode code 478 = .ok (.aload_n 0, 1) := by decide +kernel
theorem z_ld271 : decode code 479 = .ok (.iload_n 3, 1) := by decide +kernel
theorem z_ld272 : decode code 480 = .ok (.iconst 1, 1) := by decide +kernel
theorem z_ld273 : decode code 481 = .ok (.iadd, 1) := by decide +kernel
theorem z_ld274 : decode code 482 = .ok (.iaload, 1) := by decide +kernel
theorem z_ld275 : decode code 483 = .ok (.aload_n 0, 1) := by decide +kernel
theorem z_ld276 : decode code 484 = .ok (.iload_n 3, 1) := by decide +kernel
theorem z_ld277 : decode code 485 = .ok (.iconst 2, 1) := by decide +kernel
theorem z_ld278 : decode code 486 = .ok (.iadd, 1) := by decide +kernel
theorem z_ld279 : decode code 487 = .ok (.iaload, 1) := by decide +kernel
end
section
/-! the law, decoded -/
theorem z_ld280 : decode code 488 = .ok (.invokevirtual 61, 3) := by decide +kernel
theorem z_ld281 : decode code 491 = .ok (.aload_n 2, 1) := by decide +kernel
theorem z_ld282 : decode code 492 = .ok (.aload_n 0, 1) := by decide +kernel
theorem z_ld283 : decode code 493 = .ok (.iload_n 3, 1) := by decide +kernel
theorem z_ld284 : decode code 494 = .ok (.iconst 1, 1) := by decide +kernel
theorem z_ld285 : decode code 495 = .ok (.iadd, 1) := by decide +kernel
theorem z_ld286 : decode code 496 = .ok (.iaload, 1) := by decide +kernel
theorem z_ld287 : decode code 497 = .ok (.aload_n 0, 1) := by decide +kernel
theorem z_ld288 : decode code 498 = .ok (.iload_n 3, 1) := by decide +kernel
theorem z_ld289 : decode code 499 = .ok (.iconst 2, 1) := by decide +kernel
theorem z_ld290 : decode code 500 = .ok (.iadd, 1) := by decide +kernel
theorem z_ld291 : decode code 501 = .ok (.iaload, 1) := by decide +kernel
theorem z_ld292 : decode code 502 = .ok (.invokevirtual 64, 3) := by decide +kernel
theorem z_ld293 : decode code 505 = .ok (.if_icmp .eq 566, 3) := by decide +kernel
theorem z_ld294 : decode code 508 = .ok (.iconst 0, 1) := by decide +kernel
theorem z_ld295 : decode code 509 = .ok (.ireturn, 1) := by decide +kernel
theorem z_ld296 : decode code 510 = .ok (.aload_n 1, 1) := by decide +kernel
theorem z_ld297 : decode code 511 = .ok (.aload_n 0, 1) := by decide +kernel
theorem z_ld298 : decode code 512 = .ok (.iload_n 3, 1) := by decide +kernel
theorem z_ld299 : decode code 513 = .ok (.iconst 1, 1) := by decide +kernel
theorem z_ld300 : decode code 514 = .ok (.iadd, 1) := by decide +kernel
theorem z_ld301 : decode code 515 = .ok (.iaload, 1) := by decide +kernel
theorem z_ld302 : decode code 516 = .ok (.invokevirtual 65, 3) := by decide +kernel
theorem z_ld303 : decode code 519 = .ok (.aload_n 2, 1) := by decide +kernel
theorem z_ld304 : decode code 520 = .ok (.aload_n 0, 1) := by decide +kernel
theorem z_ld305 : decode code 521 = .ok (.iload_n 3, 1) := by decide +kernel
theorem z_ld306 : decode code 522 = .ok (.iconst 1, 1) := by decide +kernel
theorem z_ld307 : decode code 523 = .ok (.iadd, 1) := by decide +kernel
theorem z_ld308 : decode code 524 = .ok (.iaload, 1) := by decide +kernel
theorem z_ld309 : decode code 525 = .ok (.invokevirtual 68, 3) := by decide +kernel
theorem z_ld310 : decode code 528 = .ok (.if_icmp .eq 543, 3) := by decide +kernel
theorem z_ld311 : decode code 531 = .ok (.iconst 0, 1) := by decide +kernel
theorem z_ld312 : decode code 532 = .ok (.ireturn, 1) := by decide +kernel
theorem z_ld313 : decode code 533 = .ok (.aload_n 1, 1) := by decide +kernel
theorem z_ld314 : decode code 534 = .ok (.aload_n 0, 1) := by decide +kernel
theorem z_ld315 : decode code 535 = .ok (.iload_n 3, 1) := by decide +kernel
theorem z_ld316 : decode code 536 = .ok (.iconst 1, 1) := by decide +kernel
theorem z_ld317 : decode code 537 = .ok (.iadd, 1) := by decide +kernel
theorem z_ld318 : decode code 538 = .ok (.iaload, 1) := by decide +kernel
theorem z_ld319 : decode code 539 = .ok (.aload_n 0, 1) := by decide +kernel
theorem z_ld320 : decode code 540 = .ok (.iload_n 3, 1) := by decide +kernel
theorem z_ld321 : decode code 541 = .ok (.iconst 2, 1) := by decide +kernel
theorem z_ld322 : decode code 542 = .ok (.iadd, 1) := by decide +kernel
theorem z_ld323 : decode code 543 = .ok (.iaload, 1) := by decide +kernel
theorem z_ld324 : decode code 544 = .ok (.aload_n 0, 1) := by decide +kernel
theorem z_ld325 : decode code 545 = .ok (.iload_n 3, 1) := by decide +kernel
theorem z_ld326 : decode code 546 = .ok (.iconst 3, 1) := by decide +kernel
theorem z_ld327 : decode code 547 = .ok (.iadd, 1) := by decide +kernel
theorem z_ld328 : decode code 548 = .ok (.iaload, 1) := by decide +kernel
theorem z_ld329 : decode code 549 = .ok (.aload_n 0, 1) := by decide +kernel
theorem z_ld330 : decode code 550 = .ok (.iload_n 3, 1) := by decide +kernel
theorem z_ld331 : decode code 551 = .ok (.iconst 4, 1) := by decide +kernel
theorem z_ld332 : decode code 552 = .ok (.iadd, 1) := by decide +kernel
theorem z_ld333 : decode code 553 = .ok (.iaload, 1) := by decide +kernel
theorem z_ld334 : decode code 554 = .ok (.invokevirtual 69, 3) := by decide +kernel
theorem z_ld335 : decode code 557 = .ok (.aload_n 2, 1) := by decide +kernel
theorem z_ld336 : decode code 558 = .ok (.aload_n 0, 1) := by decide +kernel
theorem z_ld337 : decode code 559 = .ok (.iload_n 3, 1) := by decide +kernel
theorem z_ld338 : decode code 560 = .ok (.iconst 1, 1) := by decide +kernel
theorem z_ld339 : decode code 561 = .ok (.iadd, 1) := by decide +kernel
theorem z_ld340 : decode code 562 = .ok (.iaload, 1) := by decide +kernel
theorem z_ld341 : decode code 563 = .ok (.aload_n 0, 1) := by decide +kernel
theorem z_ld342 : decode code 564 = .ok (.iload_n 3, 1) := by decide +kernel
theorem z_ld343 : decode code 565 = .ok (.iconst 2, 1) := by decide +kernel
theorem z_ld344 : decode code 566 = .ok (.iadd, 1) := by decide +kernel
theorem z_ld345 : decode code 567 = .ok (.iaload, 1) := by decide +kernel
theorem z_ld346 : decode code 568 = .ok (.aload_n 0, 1) := by decide +kernel
theorem z_ld347 : decode code 569 = .ok (.iload_n 3, 1) := by decide +kernel
theorem z_ld348 : decode code 570 = .ok (.iconst 3, 1) := by decide +kernel
theorem z_ld349 : decode code 571 = .ok (.iadd, 1) := by decide +kernel
end
section
/-! the law, decoded -/
theorem z_ld350 : decode code 572 = .ok (.iaload, 1) := by decide +kernel
theorem z_ld351 : decode code 573 = .ok (.aload_n 0, 1) := by decide +kernel
theorem z_ld352 : decode code 574 = .ok (.iload_n 3, 1) := by decide +kernel
theorem z_ld353 : decode code 575 = .ok (.iconst 4, 1) := by decide +kernel
theorem z_ld354 : decode code 576 = .ok (.iadd, 1) := by decide +kernel
theorem z_ld355 : decode code 577 = .ok (.iaload, 1) := by decide +kernel
theorem z_ld356 : decode code 578 = .ok (.invokevirtual 73, 3) := by decide +kernel
theorem z_ld357 : decode code 581 = .ok (.if_icmp .eq 490, 3) := by decide +kernel
theorem z_ld358 : decode code 584 = .ok (.iconst 0, 1) := by decide +kernel
theorem z_ld359 : decode code 585 = .ok (.ireturn, 1) := by decide +kernel
theorem z_ld360 : decode code 586 = .ok (.aload_n 1, 1) := by decide +kernel
theorem z_ld361 : decode code 587 = .ok (.aload_n 0, 1) := by decide +kernel
theorem z_ld362 : decode code 588 = .ok (.iload_n 3, 1) := by decide +kernel
theorem z_ld363 : decode code 589 = .ok (.iconst 1, 1) := by decide +kernel
theorem z_ld364 : decode code 590 = .ok (.iadd, 1) := by decide +kernel
theorem z_ld365 : decode code 591 = .ok (.iaload, 1) := by decide +kernel
theorem z_ld366 : decode code 592 = .ok (.aload_n 0, 1) := by decide +kernel
theorem z_ld367 : decode code 593 = .ok (.iload_n 3, 1) := by decide +kernel
theorem z_ld368 : decode code 594 = .ok (.iconst 2, 1) := by decide +kernel
theorem z_ld369 : decode code 595 = .ok (.iadd, 1) := by decide +kernel
theorem z_ld370 : decode code 596 = .ok (.iaload, 1) := by decide +kernel
theorem z_ld371 : decode code 597 = .ok (.aload_n 0, 1) := by decide +kernel
theorem z_ld372 : decode code 598 = .ok (.iload_n 3, 1) := by decide +kernel
theorem z_ld373 : decode code 599 = .ok (.iconst 3, 1) := by decide +kernel
theorem z_ld374 : decode code 600 = .ok (.iadd, 1) := by decide +kernel
theorem z_ld375 : decode code 601 = .ok (.iaload, 1) := by decide +kernel
theorem z_ld376 : decode code 602 = .ok (.aload_n 0, 1) := by decide +kernel
theorem z_ld377 : decode code 603 = .ok (.iload_n 3, 1) := by decide +kernel
theorem z_ld378 : decode code 604 = .ok (.iconst 4, 1) := by decide +kernel
theorem z_ld379 : decode code 605 = .ok (.iadd, 1) := by decide +kernel
theorem z_ld380 : decode code 606 = .ok (.iaload, 1) := by decide +kernel
theorem z_ld381 : decode code 607 = .ok (.invokevirtual 74, 3) := by decide +kernel
theorem z_ld382 : decode code 610 = .ok (.aload_n 2, 1) := by decide +kernel
theorem z_ld383 : decode code 611 = .ok (.aload_n 0, 1) := by decide +kernel
theorem z_ld384 : decode code 612 = .ok (.iload_n 3, 1) := by decide +kernel
theorem z_ld385 : decode code 613 = .ok (.iconst 1, 1) := by decide +kernel
theorem z_ld386 : decode code 614 = .ok (.iadd, 1) := by decide +kernel
theorem z_ld387 : decode code 615 = .ok (.iaload, 1) := by decide +kernel
theorem z_ld388 : decode code 616 = .ok (.aload_n 0, 1) := by decide +kernel
theorem z_ld389 : decode code 617 = .ok (.iload_n 3, 1) := by decide +kernel
theorem z_ld390 : decode code 618 = .ok (.iconst 2, 1) := by decide +kernel
theorem z_ld391 : decode code 619 = .ok (.iadd, 1) := by decide +kernel
theorem z_ld392 : decode code 620 = .ok (.iaload, 1) := by decide +kernel
theorem z_ld393 : decode code 621 = .ok (.aload_n 0, 1) := by decide +kernel
theorem z_ld394 : decode code 622 = .ok (.iload_n 3, 1) := by decide +kernel
theorem z_ld395 : decode code 623 = .ok (.iconst 3, 1) := by decide +kernel
theorem z_ld396 : decode code 624 = .ok (.iadd, 1) := by decide +kernel
theorem z_ld397 : decode code 625 = .ok (.iaload, 1) := by decide +kernel
theorem z_ld398 : decode code 626 = .ok (.aload_n 0, 1) := by decide +kernel
theorem z_ld399 : decode code 627 = .ok (.iload_n 3, 1) := by decide +kernel
theorem z_ld400 : decode code 628 = .ok (.iconst 4, 1) := by decide +kernel
theorem z_ld401 : decode code 629 = .ok (.iadd, 1) := by decide +kernel
theorem z_ld402 : decode code 630 = .ok (.iaload, 1) := by decide +kernel
theorem z_ld403 : decode code 631 = .ok (.invokevirtual 77, 3) := by decide +kernel
theorem z_ld404 : decode code 634 = .ok (.if_icmp .eq 437, 3) := by decide +kernel
theorem z_ld405 : decode code 637 = .ok (.iconst 0, 1) := by decide +kernel
theorem z_ld406 : decode code 638 = .ok (.ireturn, 1) := by decide +kernel
theorem z_ld407 : decode code 639 = .ok (.aload_n 1, 1) := by decide +kernel
theorem z_ld408 : decode code 640 = .ok (.aload_n 0, 1) := by decide +kernel
theorem z_ld409 : decode code 641 = .ok (.iload_n 3, 1) := by decide +kernel
theorem z_ld410 : decode code 642 = .ok (.iconst 1, 1) := by decide +kernel
theorem z_ld411 : decode code 643 = .ok (.iadd, 1) := by decide +kernel
theorem z_ld412 : decode code 644 = .ok (.iaload, 1) := by decide +kernel
theorem z_ld413 : decode code 645 = .ok (.aload_n 0, 1) := by decide +kernel
theorem z_ld414 : decode code 646 = .ok (.iload_n 3, 1) := by decide +kernel
theorem z_ld415 : decode code 647 = .ok (.iconst 2, 1) := by decide +kernel
theorem z_ld416 : decode code 648 = .ok (.iadd, 1) := by decide +kernel
theorem z_ld417 : decode code 649 = .ok (.iaload, 1) := by decide +kernel
theorem z_ld418 : decode code 650 = .ok (.aload_n 0, 1) := by decide +kernel
theorem z_ld419 : decode code 651 = .ok (.iload_n 3, 1) := by decide +kernel
end
section
/-! the law, decoded -/
theorem z_ld420 : decode code 652 = .ok (.iconst 3, 1) := by decide +kernel
theorem z_ld421 : decode code 653 = .ok (.iadd, 1) := by decide +kernel
theorem z_ld422 : decode code 654 = .ok (.iaload, 1) := by decide +kernel
theorem z_ld423 : decode code 655 = .ok (.invokevirtual 78, 3) := by decide +kernel
theorem z_ld424 : decode code 658 = .ok (.aload_n 2, 1) := by decide +kernel
theorem z_ld425 : decode code 659 = .ok (.aload_n 0, 1) := by decide +kernel
theorem z_ld426 : decode code 660 = .ok (.iload_n 3, 1) := by decide +kernel
theorem z_ld427 : decode code 661 = .ok (.iconst 1, 1) := by decide +kernel
theorem z_ld428 : decode code 662 = .ok (.iadd, 1) := by decide +kernel
theorem z_ld429 : decode code 663 = .ok (.iaload, 1) := by decide +kernel
theorem z_ld430 : decode code 664 = .ok (.aload_n 0, 1) := by decide +kernel
theorem z_ld431 : decode code 665 = .ok (.iload_n 3, 1) := by decide +kernel
theorem z_ld432 : decode code 666 = .ok (.iconst 2, 1) := by decide +kernel
theorem z_ld433 : decode code 667 = .ok (.iadd, 1) := by decide +kernel
theorem z_ld434 : decode code 668 = .ok (.iaload, 1) := by decide +kernel
theorem z_ld435 : decode code 669 = .ok (.aload_n 0, 1) := by decide +kernel
theorem z_ld436 : decode code 670 = .ok (.iload_n 3, 1) := by decide +kernel
theorem z_ld437 : decode code 671 = .ok (.iconst 3, 1) := by decide +kernel
theorem z_ld438 : decode code 672 = .ok (.iadd, 1) := by decide +kernel
theorem z_ld439 : decode code 673 = .ok (.iaload, 1) := by decide +kernel
theorem z_ld440 : decode code 674 = .ok (.invokevirtual 81, 3) := by decide +kernel
theorem z_ld441 : decode code 677 = .ok (.if_icmp .eq 394, 3) := by decide +kernel
theorem z_ld442 : decode code 680 = .ok (.iconst 0, 1) := by decide +kernel
theorem z_ld443 : decode code 681 = .ok (.ireturn, 1) := by decide +kernel
theorem z_ld444 : decode code 682 = .ok (.aload_n 1, 1) := by decide +kernel
theorem z_ld445 : decode code 683 = .ok (.aload_n 0, 1) := by decide +kernel
theorem z_ld446 : decode code 684 = .ok (.iload_n 3, 1) := by decide +kernel
theorem z_ld447 : decode code 685 = .ok (.iconst 1, 1) := by decide +kernel
theorem z_ld448 : decode code 686 = .ok (.iadd, 1) := by decide +kernel
theorem z_ld449 : decode code 687 = .ok (.iaload, 1) := by decide +kernel
theorem z_ld450 : decode code 688 = .ok (.aload_n 0, 1) := by decide +kernel
theorem z_ld451 : decode code 689 = .ok (.iload_n 3, 1) := by decide +kernel
theorem z_ld452 : decode code 690 = .ok (.iconst 2, 1) := by decide +kernel
theorem z_ld453 : decode code 691 = .ok (.iadd, 1) := by decide +kernel
theorem z_ld454 : decode code 692 = .ok (.iaload, 1) := by decide +kernel
theorem z_ld455 : decode code 693 = .ok (.aload_n 0, 1) := by decide +kernel
theorem z_ld456 : decode code 694 = .ok (.iload_n 3, 1) := by decide +kernel
theorem z_ld457 : decode code 695 = .ok (.iconst 3, 1) := by decide +kernel
theorem z_ld458 : decode code 696 = .ok (.iadd, 1) := by decide +kernel
theorem z_ld459 : decode code 697 = .ok (.iaload, 1) := by decide +kernel
theorem z_ld460 : decode code 698 = .ok (.invokevirtual 82, 3) := by decide +kernel
theorem z_ld461 : decode code 701 = .ok (.aload_n 2, 1) := by decide +kernel
theorem z_ld462 : decode code 702 = .ok (.aload_n 0, 1) := by decide +kernel
theorem z_ld463 : decode code 703 = .ok (.iload_n 3, 1) := by decide +kernel
theorem z_ld464 : decode code 704 = .ok (.iconst 1, 1) := by decide +kernel
theorem z_ld465 : decode code 705 = .ok (.iadd, 1) := by decide +kernel
theorem z_ld466 : decode code 706 = .ok (.iaload, 1) := by decide +kernel
theorem z_ld467 : decode code 707 = .ok (.aload_n 0, 1) := by decide +kernel
theorem z_ld468 : decode code 708 = .ok (.iload_n 3, 1) := by decide +kernel
theorem z_ld469 : decode code 709 = .ok (.iconst 2, 1) := by decide +kernel
theorem z_ld470 : decode code 710 = .ok (.iadd, 1) := by decide +kernel
theorem z_ld471 : decode code 711 = .ok (.iaload, 1) := by decide +kernel
theorem z_ld472 : decode code 712 = .ok (.aload_n 0, 1) := by decide +kernel
theorem z_ld473 : decode code 713 = .ok (.iload_n 3, 1) := by decide +kernel
theorem z_ld474 : decode code 714 = .ok (.iconst 3, 1) := by decide +kernel
theorem z_ld475 : decode code 715 = .ok (.iadd, 1) := by decide +kernel
theorem z_ld476 : decode code 716 = .ok (.iaload, 1) := by decide +kernel
theorem z_ld477 : decode code 717 = .ok (.invokevirtual 85, 3) := by decide +kernel
theorem z_ld478 : decode code 720 = .ok (.if_icmp .eq 351, 3) := by decide +kernel
theorem z_ld479 : decode code 723 = .ok (.iconst 0, 1) := by decide +kernel
theorem z_ld480 : decode code 724 = .ok (.ireturn, 1) := by decide +kernel
theorem z_ld481 : decode code 725 = .ok (.aload_n 1, 1) := by decide +kernel
theorem z_ld482 : decode code 726 = .ok (.invokevirtual 86, 3) := by decide +kernel
theorem z_ld483 : decode code 729 = .ok (.aload_n 2, 1) := by decide +kernel
theorem z_ld484 : decode code 730 = .ok (.invokevirtual 89, 3) := by decide +kernel
theorem z_ld485 : decode code 733 = .ok (.if_icmp .eq 338, 3) := by decide +kernel
theorem z_ld486 : decode code 736 = .ok (.iconst 0, 1) := by decide +kernel
theorem z_ld487 : decode code 737 = .ok (.ireturn, 1) := by decide +kernel
theorem z_ld488 : decode code 738 = .ok (.aload_n 1, 1) := by decide +kernel
theorem z_ld489 : decode code 739 = .ok (.invokevirtual 90, 3) := by decide +kernel
end
section
/-! the law, decoded -/
theorem z_ld490 : decode code 742 = .ok (.aload_n 2, 1) := by decide +kernel
theorem z_ld491 : decode code 743 = .ok (.invokevirtual 93, 3) := by decide +kernel
theorem z_ld492 : decode code 746 = .ok (.if_icmp .eq 325, 3) := by decide +kernel
theorem z_ld493 : decode code 749 = .ok (.iconst 0, 1) := by decide +kernel
theorem z_ld494 : decode code 750 = .ok (.ireturn, 1) := by decide +kernel
theorem z_ld495 : decode code 751 = .ok (.aload_n 1, 1) := by decide +kernel
theorem z_ld496 : decode code 752 = .ok (.aload_n 0, 1) := by decide +kernel
theorem z_ld497 : decode code 753 = .ok (.iload_n 3, 1) := by decide +kernel
theorem z_ld498 : decode code 754 = .ok (.iconst 1, 1) := by decide +kernel
theorem z_ld499 : decode code 755 = .ok (.iadd, 1) := by decide +kernel
theorem z_ld500 : decode code 756 = .ok (.iaload, 1) := by decide +kernel
theorem z_ld501 : decode code 757 = .ok (.aload_n 0, 1) := by decide +kernel
theorem z_ld502 : decode code 758 = .ok (.iload_n 3, 1) := by decide +kernel
theorem z_ld503 : decode code 759 = .ok (.iconst 2, 1) := by decide +kernel
theorem z_ld504 : decode code 760 = .ok (.iadd, 1) := by decide +kernel
theorem z_ld505 : decode code 761 = .ok (.iaload, 1) := by decide +kernel
theorem z_ld506 : decode code 762 = .ok (.aload_n 0, 1) := by decide +kernel
theorem z_ld507 : decode code 763 = .ok (.iload_n 3, 1) := by decide +kernel
theorem z_ld508 : decode code 764 = .ok (.iconst 3, 1) := by decide +kernel
theorem z_ld509 : decode code 765 = .ok (.iadd, 1) := by decide +kernel
theorem z_ld510 : decode code 766 = .ok (.iaload, 1) := by decide +kernel
theorem z_ld511 : decode code 767 = .ok (.invokevirtual 94, 3) := by decide +kernel
theorem z_ld512 : decode code 770 = .ok (.aload_n 2, 1) := by decide +kernel
theorem z_ld513 : decode code 771 = .ok (.aload_n 0, 1) := by decide +kernel
theorem z_ld514 : decode code 772 = .ok (.iload_n 3, 1) := by decide +kernel
theorem z_ld515 : decode code 773 = .ok (.iconst 1, 1) := by decide +kernel
theorem z_ld516 : decode code 774 = .ok (.iadd, 1) := by decide +kernel
theorem z_ld517 : decode code 775 = .ok (.iaload, 1) := by decide +kernel
theorem z_ld518 : decode code 776 = .ok (.aload_n 0, 1) := by decide +kernel
theorem z_ld519 : decode code 777 = .ok (.iload_n 3, 1) := by decide +kernel
theorem z_ld520 : decode code 778 = .ok (.iconst 2, 1) := by decide +kernel
theorem z_ld521 : decode code 779 = .ok (.iadd, 1) := by decide +kernel
theorem z_ld522 : decode code 780 = .ok (.iaload, 1) := by decide +kernel
theorem z_ld523 : decode code 781 = .ok (.aload_n 0, 1) := by decide +kernel
theorem z_ld524 : decode code 782 = .ok (.iload_n 3, 1) := by decide +kernel
theorem z_ld525 : decode code 783 = .ok (.iconst 3, 1) := by decide +kernel
theorem z_ld526 : decode code 784 = .ok (.iadd, 1) := by decide +kernel
theorem z_ld527 : decode code 785 = .ok (.iaload, 1) := by decide +kernel
theorem z_ld528 : decode code 786 = .ok (.invokevirtual 97, 3) := by decide +kernel
theorem z_ld529 : decode code 789 = .ok (.if_icmp .eq 282, 3) := by decide +kernel
theorem z_ld530 : decode code 792 = .ok (.iconst 0, 1) := by decide +kernel
theorem z_ld531 : decode code 793 = .ok (.ireturn, 1) := by decide +kernel
theorem z_ld532 : decode code 794 = .ok (.aload_n 1, 1) := by decide +kernel
theorem z_ld533 : decode code 795 = .ok (.aload_n 0, 1) := by decide +kernel
theorem z_ld534 : decode code 796 = .ok (.iload_n 3, 1) := by decide +kernel
theorem z_ld535 : decode code 797 = .ok (.iconst 1, 1) := by decide +kernel
theorem z_ld536 : decode code 798 = .ok (.iadd, 1) := by decide +kernel
theorem z_ld537 : decode code 799 = .ok (.iaload, 1) := by decide +kernel
theorem z_ld538 : decode code 800 = .ok (.invokevirtual 98, 3) := by decide +kernel
theorem z_ld539 : decode code 803 = .ok (.aload_n 2, 1) := by decide +kernel
theorem z_ld540 : decode code 804 = .ok (.aload_n 0, 1) := by decide +kernel
theorem z_ld541 : decode code 805 = .ok (.iload_n 3, 1) := by decide +kernel
theorem z_ld542 : decode code 806 = .ok (.iconst 1, 1) := by decide +kernel
theorem z_ld543 : decode code 807 = .ok (.iadd, 1) := by decide +kernel
theorem z_ld544 : decode code 808 = .ok (.iaload, 1) := by decide +kernel
theorem z_ld545 : decode code 809 = .ok (.invokevirtual 101, 3) := by decide +kernel
theorem z_ld546 : decode code 812 = .ok (.if_icmp .eq 259, 3) := by decide +kernel
theorem z_ld547 : decode code 815 = .ok (.iconst 0, 1) := by decide +kernel
theorem z_ld548 : decode code 816 = .ok (.ireturn, 1) := by decide +kernel
theorem z_ld549 : decode code 817 = .ok (.aload_n 1, 1) := by decide +kernel
theorem z_ld550 : decode code 818 = .ok (.aload_n 0, 1) := by decide +kernel
theorem z_ld551 : decode code 819 = .ok (.iload_n 3, 1) := by decide +kernel
theorem z_ld552 : decode code 820 = .ok (.iconst 1, 1) := by decide +kernel
theorem z_ld553 : decode code 821 = .ok (.iadd, 1) := by decide +kernel
theorem z_ld554 : decode code 822 = .ok (.iaload, 1) := by decide +kernel
theorem z_ld555 : decode code 823 = .ok (.aload_n 0, 1) := by decide +kernel
theorem z_ld556 : decode code 824 = .ok (.iload_n 3, 1) := by decide +kernel
theorem z_ld557 : decode code 825 = .ok (.iconst 2, 1) := by decide +kernel
theorem z_ld558 : decode code 826 = .ok (.iadd, 1) := by decide +kernel
theorem z_ld559 : decode code 827 = .ok (.iaload, 1) := by decide +kernel
end
section
/-! the law, decoded -/
theorem z_ld560 : decode code 828 = .ok (.invokevirtual 102, 3) := by decide +kernel
theorem z_ld561 : decode code 831 = .ok (.aload_n 2, 1) := by decide +kernel
theorem z_ld562 : decode code 832 = .ok (.aload_n 0, 1) := by decide +kernel
theorem z_ld563 : decode code 833 = .ok (.iload_n 3, 1) := by decide +kernel
theorem z_ld564 : decode code 834 = .ok (.iconst 1, 1) := by decide +kernel
theorem z_ld565 : decode code 835 = .ok (.iadd, 1) := by decide +kernel
theorem z_ld566 : decode code 836 = .ok (.iaload, 1) := by decide +kernel
theorem z_ld567 : decode code 837 = .ok (.aload_n 0, 1) := by decide +kernel
theorem z_ld568 : decode code 838 = .ok (.iload_n 3, 1) := by decide +kernel
theorem z_ld569 : decode code 839 = .ok (.iconst 2, 1) := by decide +kernel
theorem z_ld570 : decode code 840 = .ok (.iadd, 1) := by decide +kernel
theorem z_ld571 : decode code 841 = .ok (.iaload, 1) := by decide +kernel
theorem z_ld572 : decode code 842 = .ok (.invokevirtual 105, 3) := by decide +kernel
theorem z_ld573 : decode code 845 = .ok (.if_icmp .eq 226, 3) := by decide +kernel
theorem z_ld574 : decode code 848 = .ok (.iconst 0, 1) := by decide +kernel
theorem z_ld575 : decode code 849 = .ok (.ireturn, 1) := by decide +kernel
theorem z_ld576 : decode code 850 = .ok (.aload_n 1, 1) := by decide +kernel
theorem z_ld577 : decode code 851 = .ok (.aload_n 0, 1) := by decide +kernel
theorem z_ld578 : decode code 852 = .ok (.iload_n 3, 1) := by decide +kernel
theorem z_ld579 : decode code 853 = .ok (.iconst 1, 1) := by decide +kernel
theorem z_ld580 : decode code 854 = .ok (.iadd, 1) := by decide +kernel
theorem z_ld581 : decode code 855 = .ok (.iaload, 1) := by decide +kernel
theorem z_ld582 : decode code 856 = .ok (.invokevirtual 106, 3) := by decide +kernel
theorem z_ld583 : decode code 859 = .ok (.aload_n 2, 1) := by decide +kernel
theorem z_ld584 : decode code 860 = .ok (.aload_n 0, 1) := by decide +kernel
theorem z_ld585 : decode code 861 = .ok (.iload_n 3, 1) := by decide +kernel
theorem z_ld586 : decode code 862 = .ok (.iconst 1, 1) := by decide +kernel
theorem z_ld587 : decode code 863 = .ok (.iadd, 1) := by decide +kernel
theorem z_ld588 : decode code 864 = .ok (.iaload, 1) := by decide +kernel
theorem z_ld589 : decode code 865 = .ok (.invokevirtual 109, 3) := by decide +kernel
theorem z_ld590 : decode code 868 = .ok (.if_icmp .eq 203, 3) := by decide +kernel
theorem z_ld591 : decode code 871 = .ok (.iconst 0, 1) := by decide +kernel
theorem z_ld592 : decode code 872 = .ok (.ireturn, 1) := by decide +kernel
theorem z_ld593 : decode code 873 = .ok (.aload_n 1, 1) := by decide +kernel
theorem z_ld594 : decode code 874 = .ok (.aload_n 0, 1) := by decide +kernel
theorem z_ld595 : decode code 875 = .ok (.iload_n 3, 1) := by decide +kernel
theorem z_ld596 : decode code 876 = .ok (.iconst 1, 1) := by decide +kernel
theorem z_ld597 : decode code 877 = .ok (.iadd, 1) := by decide +kernel
theorem z_ld598 : decode code 878 = .ok (.iaload, 1) := by decide +kernel
theorem z_ld599 : decode code 879 = .ok (.invokevirtual 110, 3) := by decide +kernel
theorem z_ld600 : decode code 882 = .ok (.aload_n 2, 1) := by decide +kernel
theorem z_ld601 : decode code 883 = .ok (.aload_n 0, 1) := by decide +kernel
theorem z_ld602 : decode code 884 = .ok (.iload_n 3, 1) := by decide +kernel
theorem z_ld603 : decode code 885 = .ok (.iconst 1, 1) := by decide +kernel
theorem z_ld604 : decode code 886 = .ok (.iadd, 1) := by decide +kernel
theorem z_ld605 : decode code 887 = .ok (.iaload, 1) := by decide +kernel
theorem z_ld606 : decode code 888 = .ok (.invokevirtual 113, 3) := by decide +kernel
theorem z_ld607 : decode code 891 = .ok (.if_icmp .eq 180, 3) := by decide +kernel
theorem z_ld608 : decode code 894 = .ok (.iconst 0, 1) := by decide +kernel
theorem z_ld609 : decode code 895 = .ok (.ireturn, 1) := by decide +kernel
theorem z_ld610 : decode code 896 = .ok (.aload_n 1, 1) := by decide +kernel
theorem z_ld611 : decode code 897 = .ok (.aload_n 0, 1) := by decide +kernel
theorem z_ld612 : decode code 898 = .ok (.iload_n 3, 1) := by decide +kernel
theorem z_ld613 : decode code 899 = .ok (.iconst 1, 1) := by decide +kernel
theorem z_ld614 : decode code 900 = .ok (.iadd, 1) := by decide +kernel
theorem z_ld615 : decode code 901 = .ok (.iaload, 1) := by decide +kernel
theorem z_ld616 : decode code 902 = .ok (.aload_n 0, 1) := by decide +kernel
theorem z_ld617 : decode code 903 = .ok (.iload_n 3, 1) := by decide +kernel
theorem z_ld618 : decode code 904 = .ok (.iconst 2, 1) := by decide +kernel
theorem z_ld619 : decode code 905 = .ok (.iadd, 1) := by decide +kernel
theorem z_ld620 : decode code 906 = .ok (.iaload, 1) := by decide +kernel
theorem z_ld621 : decode code 907 = .ok (.aload_n 0, 1) := by decide +kernel
theorem z_ld622 : decode code 908 = .ok (.iload_n 3, 1) := by decide +kernel
theorem z_ld623 : decode code 909 = .ok (.iconst 3, 1) := by decide +kernel
theorem z_ld624 : decode code 910 = .ok (.iadd, 1) := by decide +kernel
theorem z_ld625 : decode code 911 = .ok (.iaload, 1) := by decide +kernel
theorem z_ld626 : decode code 912 = .ok (.invokevirtual 114, 3) := by decide +kernel
theorem z_ld627 : decode code 915 = .ok (.aload_n 2, 1) := by decide +kernel
theorem z_ld628 : decode code 916 = .ok (.aload_n 0, 1) := by decide +kernel
theorem z_ld629 : decode code 917 = .ok (.iload_n 3, 1) := by decide +kernel
end
section
/-! the law, decoded -/
theorem z_ld630 : decode code 918 = .ok (.iconst 1, 1) := by decide +kernel
theorem z_ld631 : decode code 919 = .ok (.iadd, 1) := by decide +kernel
theorem z_ld632 : decode code 920 = .ok (.iaload, 1) := by decide +kernel
theorem z_ld633 : decode code 921 = .ok (.aload_n 0, 1) := by decide +kernel
theorem z_ld634 : decode code 922 = .ok (.iload_n 3, 1) := by decide +kernel
theorem z_ld635 : decode code 923 = .ok (.iconst 2, 1) := by decide +kernel
theorem z_ld636 : decode code 924 = .ok (.iadd, 1) := by decide +kernel
theorem z_ld637 : decode code 925 = .ok (.iaload, 1) := by decide +kernel
theorem z_ld638 : decode code 926 = .ok (.aload_n 0, 1) := by decide +kernel
theorem z_ld639 : decode code 927 = .ok (.iload_n 3, 1) := by decide +kernel
theorem z_ld640 : decode code 928 = .ok (.iconst 3, 1) := by decide +kernel
theorem z_ld641 : decode code 929 = .ok (.iadd, 1) := by decide +kernel
theorem z_ld642 : decode code 930 = .ok (.iaload, 1) := by decide +kernel
theorem z_ld643 : decode code 931 = .ok (.invokevirtual 117, 3) := by decide +kernel
theorem z_ld644 : decode code 934 = .ok (.if_icmp .eq 137, 3) := by decide +kernel
theorem z_ld645 : decode code 937 = .ok (.iconst 0, 1) := by decide +kernel
theorem z_ld646 : decode code 938 = .ok (.ireturn, 1) := by decide +kernel
theorem z_ld647 : decode code 939 = .ok (.aload_n 1, 1) := by decide +kernel
theorem z_ld648 : decode code 940 = .ok (.aload_n 0, 1) := by decide +kernel
theorem z_ld649 : decode code 941 = .ok (.iload_n 3, 1) := by decide +kernel
theorem z_ld650 : decode code 942 = .ok (.iconst 1, 1) := by decide +kernel
theorem z_ld651 : decode code 943 = .ok (.iadd, 1) := by decide +kernel
theorem z_ld652 : decode code 944 = .ok (.iaload, 1) := by decide +kernel
theorem z_ld653 : decode code 945 = .ok (.aload_n 0, 1) := by decide +kernel
theorem z_ld654 : decode code 946 = .ok (.iload_n 3, 1) := by decide +kernel
theorem z_ld655 : decode code 947 = .ok (.iconst 2, 1) := by decide +kernel
theorem z_ld656 : decode code 948 = .ok (.iadd, 1) := by decide +kernel
theorem z_ld657 : decode code 949 = .ok (.iaload, 1) := by decide +kernel
theorem z_ld658 : decode code 950 = .ok (.aload_n 0, 1) := by decide +kernel
theorem z_ld659 : decode code 951 = .ok (.iload_n 3, 1) := by decide +kernel
theorem z_ld660 : decode code 952 = .ok (.iconst 3, 1) := by decide +kernel
theorem z_ld661 : decode code 953 = .ok (.iadd, 1) := by decide +kernel
theorem z_ld662 : decode code 954 = .ok (.iaload, 1) := by decide +kernel
theorem z_ld663 : decode code 955 = .ok (.invokevirtual 118, 3) := by decide +kernel
theorem z_ld664 : decode code 958 = .ok (.aload_n 2, 1) := by decide +kernel
theorem z_ld665 : decode code 959 = .ok (.aload_n 0, 1) := by decide +kernel
theorem z_ld666 : decode code 960 = .ok (.iload_n 3, 1) := by decide +kernel
theorem z_ld667 : decode code 961 = .ok (.iconst 1, 1) := by decide +kernel
theorem z_ld668 : decode code 962 = .ok (.iadd, 1) := by decide +kernel
theorem z_ld669 : decode code 963 = .ok (.iaload, 1) := by decide +kernel
theorem z_ld670 : decode code 964 = .ok (.aload_n 0, 1) := by decide +kernel
theorem z_ld671 : decode code 965 = .ok (.iload_n 3, 1) := by decide +kernel
theorem z_ld672 : decode code 966 = .ok (.iconst 2, 1) := by decide +kernel
theorem z_ld673 : decode code 967 = .ok (.iadd, 1) := by decide +kernel
theorem z_ld674 : decode code 968 = .ok (.iaload, 1) := by decide +kernel
theorem z_ld675 : decode code 969 = .ok (.aload_n 0, 1) := by decide +kernel
theorem z_ld676 : decode code 970 = .ok (.iload_n 3, 1) := by decide +kernel
theorem z_ld677 : decode code 971 = .ok (.iconst 3, 1) := by decide +kernel
theorem z_ld678 : decode code 972 = .ok (.iadd, 1) := by decide +kernel
theorem z_ld679 : decode code 973 = .ok (.iaload, 1) := by decide +kernel
theorem z_ld680 : decode code 974 = .ok (.invokevirtual 121, 3) := by decide +kernel
theorem z_ld681 : decode code 977 = .ok (.if_icmp .eq 94, 3) := by decide +kernel
theorem z_ld682 : decode code 980 = .ok (.iconst 0, 1) := by decide +kernel
theorem z_ld683 : decode code 981 = .ok (.ireturn, 1) := by decide +kernel
theorem z_ld684 : decode code 982 = .ok (.aload_n 1, 1) := by decide +kernel
theorem z_ld685 : decode code 983 = .ok (.aload_n 0, 1) := by decide +kernel
theorem z_ld686 : decode code 984 = .ok (.iload_n 3, 1) := by decide +kernel
theorem z_ld687 : decode code 985 = .ok (.iconst 1, 1) := by decide +kernel
theorem z_ld688 : decode code 986 = .ok (.iadd, 1) := by decide +kernel
theorem z_ld689 : decode code 987 = .ok (.iaload, 1) := by decide +kernel
theorem z_ld690 : decode code 988 = .ok (.aload_n 0, 1) := by decide +kernel
theorem z_ld691 : decode code 989 = .ok (.iload_n 3, 1) := by decide +kernel
theorem z_ld692 : decode code 990 = .ok (.iconst 2, 1) := by decide +kernel
theorem z_ld693 : decode code 991 = .ok (.iadd, 1) := by decide +kernel
theorem z_ld694 : decode code 992 = .ok (.iaload, 1) := by decide +kernel
theorem z_ld695 : decode code 993 = .ok (.aload_n 0, 1) := by decide +kernel
theorem z_ld696 : decode code 994 = .ok (.iload_n 3, 1) := by decide +kernel
theorem z_ld697 : decode code 995 = .ok (.iconst 3, 1) := by decide +kernel
theorem z_ld698 : decode code 996 = .ok (.iadd, 1) := by decide +kernel
theorem z_ld699 : decode code 997 = .ok (.iaload, 1) := by decide +kernel
end
section
/-! the law, decoded -/
theorem z_ld700 : decode code 998 = .ok (.aload_n 0, 1) := by decide +kernel
theorem z_ld701 : decode code 999 = .ok (.iload_n 3, 1) := by decide +kernel
theorem z_ld702 : decode code 1000 = .ok (.iconst 4, 1) := by decide +kernel
theorem z_ld703 : decode code 1001 = .ok (.iadd, 1) := by decide +kernel
theorem z_ld704 : decode code 1002 = .ok (.iaload, 1) := by decide +kernel
theorem z_ld705 : decode code 1003 = .ok (.invokevirtual 122, 3) := by decide +kernel
theorem z_ld706 : decode code 1006 = .ok (.aload_n 2, 1) := by decide +kernel
theorem z_ld707 : decode code 1007 = .ok (.aload_n 0, 1) := by decide +kernel
theorem z_ld708 : decode code 1008 = .ok (.iload_n 3, 1) := by decide +kernel
theorem z_ld709 : decode code 1009 = .ok (.iconst 1, 1) := by decide +kernel
theorem z_ld710 : decode code 1010 = .ok (.iadd, 1) := by decide +kernel
theorem z_ld711 : decode code 1011 = .ok (.iaload, 1) := by decide +kernel
theorem z_ld712 : decode code 1012 = .ok (.aload_n 0, 1) := by decide +kernel
theorem z_ld713 : decode code 1013 = .ok (.iload_n 3, 1) := by decide +kernel
theorem z_ld714 : decode code 1014 = .ok (.iconst 2, 1) := by decide +kernel
theorem z_ld715 : decode code 1015 = .ok (.iadd, 1) := by decide +kernel
theorem z_ld716 : decode code 1016 = .ok (.iaload, 1) := by decide +kernel
theorem z_ld717 : decode code 1017 = .ok (.aload_n 0, 1) := by decide +kernel
theorem z_ld718 : decode code 1018 = .ok (.iload_n 3, 1) := by decide +kernel
theorem z_ld719 : decode code 1019 = .ok (.iconst 3, 1) := by decide +kernel
theorem z_ld720 : decode code 1020 = .ok (.iadd, 1) := by decide +kernel
theorem z_ld721 : decode code 1021 = .ok (.iaload, 1) := by decide +kernel
theorem z_ld722 : decode code 1022 = .ok (.aload_n 0, 1) := by decide +kernel
theorem z_ld723 : decode code 1023 = .ok (.iload_n 3, 1) := by decide +kernel
theorem z_ld724 : decode code 1024 = .ok (.iconst 4, 1) := by decide +kernel
theorem z_ld725 : decode code 1025 = .ok (.iadd, 1) := by decide +kernel
theorem z_ld726 : decode code 1026 = .ok (.iaload, 1) := by decide +kernel
theorem z_ld727 : decode code 1027 = .ok (.invokevirtual 125, 3) := by decide +kernel
theorem z_ld728 : decode code 1030 = .ok (.if_icmp .eq 41, 3) := by decide +kernel
theorem z_ld729 : decode code 1033 = .ok (.iconst 0, 1) := by decide +kernel
theorem z_ld730 : decode code 1034 = .ok (.ireturn, 1) := by decide +kernel
theorem z_ld731 : decode code 1035 = .ok (.aload_n 1, 1) := by decide +kernel
theorem z_ld732 : decode code 1036 = .ok (.invokevirtual 126, 3) := by decide +kernel
theorem z_ld733 : decode code 1039 = .ok (.aload_n 2, 1) := by decide +kernel
theorem z_ld734 : decode code 1040 = .ok (.invokevirtual 129, 3) := by decide +kernel
theorem z_ld735 : decode code 1043 = .ok (.if_icmp .eq 28, 3) := by decide +kernel
theorem z_ld736 : decode code 1046 = .ok (.iconst 0, 1) := by decide +kernel
theorem z_ld737 : decode code 1047 = .ok (.ireturn, 1) := by decide +kernel
theorem z_ld738 : decode code 1048 = .ok (.aload_n 1, 1) := by decide +kernel
theorem z_ld739 : decode code 1049 = .ok (.aload_n 0, 1) := by decide +kernel
theorem z_ld740 : decode code 1050 = .ok (.iload_n 3, 1) := by decide +kernel
theorem z_ld741 : decode code 1051 = .ok (.iconst 1, 1) := by decide +kernel
theorem z_ld742 : decode code 1052 = .ok (.iadd, 1) := by decide +kernel
theorem z_ld743 : decode code 1053 = .ok (.iaload, 1) := by decide +kernel
theorem z_ld744 : decode code 1054 = .ok (.invokevirtual 130, 3) := by decide +kernel
theorem z_ld745 : decode code 1057 = .ok (.aload_n 2, 1) := by decide +kernel
theorem z_ld746 : decode code 1058 = .ok (.aload_n 0, 1) := by decide +kernel
theorem z_ld747 : decode code 1059 = .ok (.iload_n 3, 1) := by decide +kernel
theorem z_ld748 : decode code 1060 = .ok (.iconst 1, 1) := by decide +kernel
theorem z_ld749 : decode code 1061 = .ok (.iadd, 1) := by decide +kernel
theorem z_ld750 : decode code 1062 = .ok (.iaload, 1) := by decide +kernel
theorem z_ld751 : decode code 1063 = .ok (.invokevirtual 133, 3) := by decide +kernel
theorem z_ld752 : decode code 1066 = .ok (.if_icmp .eq 5, 3) := by decide +kernel
theorem z_ld753 : decode code 1069 = .ok (.iconst 0, 1) := by decide +kernel
theorem z_ld754 : decode code 1070 = .ok (.ireturn, 1) := by decide +kernel
theorem z_ld755 : decode code 1071 = .ok (.iinc 3 5, 3) := by decide +kernel
theorem z_ld756 : decode code 1074 = .ok (.goto (-1056), 3) := by decide +kernel
theorem z_ld757 : decode code 1077 = .ok (.iconst 1, 1) := by decide +kernel
theorem z_ld758 : decode code 1078 = .ok (.ireturn, 1) := by decide +kernel
end
section
/-! THE CLAIM OUT OF ONE WALK OF THE LAW'S BODY. Your part is whole_start (and what it stands on); all else here is the same for every law, but numbers. -/
def R_law : String := "TestChoiceLaw"
def lw_P (b : Addr) (xs : List Int32) (args : Array Value) (s : State) : Prop := args = #[.ref b] ∧ s.IntsAt b xs ∧ xs.length ≤ 2560 ∧ (Jvm.Cond.and given_1 narrow_1).before args s = true
def lw_Q (_ : Array Value) (s : State) (o : Outcome) (t : State) : Prop := o = .returned (some (.int 1)) ∧ Framed s o t [] 600000 7302250
def lw_Z (below : List Frame) (a : Array Value) (s : State) : State → Prop := fun t => ∃ o, t.status = .running ∧ Ended t below o ∧ lw_Q a s o t
/-- the law's own end, with 1 on the stack, nothing written that was there before, its room as the claim has it -/
theorem lw_ret {p : Program} {l : Launch} {e : Env} {s : State} {m : MethodId} {below : List Frame} {meth : Method} {c : Code} {b : Nat} (hx : p.tables.exec = Jvm.exec) (hb : c.code = code) (hr : meth.sig.returnType = ret) (hlocks : meth.locks = false) {pc : Nat} {H : Heap} {ls : Array Slot} (hdg : decode code pc = .ok (.ireturn, 1)) : W p l e room_1 s m #[Value.ref b] below meth c H [] 600000 7302250 (lw_Z below #[Value.ref b] s) (F0 m pc ls [.int 1]) := by
  intro T hT X
  obtain ⟨fs, hret, hrun, hended, hW, hframe⟩ := X.leave (v := some (.int 1)) (hlocks := hlocks) (fun h => by rw [hr] at h; cases h)
  have hmeth' : T.vm.method? m = some meth := X.method'
  refine ⟨T.setFrames fs, ?_, .returned (some (.int 1)), hrun, hended, rfl, ⟨_, rfl⟩, hW, hframe⟩
  jvm_step X.here [X.here.top, hx, hb, hdg, hmeth', hr, ret, narrow_b1]
  (try refine ⟨rfl, ?_⟩); (try refine ⟨rfl, ?_⟩)
  first | (intro acts; rw [hret _ acts rfl rfl rfl]) | rw [hret _ _ rfl rfl rfl]
  exact Steps.refl _
/-- what holds at the law's entry: the machine, the code, the tables' words (any of lw_tbl by 'hts w (by decide +kernel)'), the script of L ints xs at the cell b, what the Statement gives of the start (any of its parts by flat_of_before) -/
def lw_At (p : Program) (s : State) (m : MethodId) (meth : Method) (c : Code) (b L : Nat) (xs : Nat → Int32) : Prop :=
  p.tables.exec = Jvm.exec ∧ c.code = code ∧ meth.sig.returnType = ret ∧ c.maxLocals = 4 ∧ s.vm.findClass R_law = some m.cls ∧ (∀ w ∈ lw_tbl, w.before #[Value.ref b] s = true) ∧ va_X b L xs s s.heap ∧ b < s.heap.size ∧ meth.locks = false ∧ (Jvm.Cond.and given_1 narrow_1).before #[Value.ref b] s = true

/-- of a call of the law's: what the class answers, the reference answers, and the invariant holds again -/
def z_opok (Inv : z_H → Prop) (cid mid n : Nat) : Prop := ∀ h, Inv h → ∀ as : List Int32, as.length = n → ∃ (r : Int32) (h1 h2 : z_H), z_M cid (.ref 0 :: as.map Value.int) h = some (r, h1) ∧ z_M mid (.ref 122 :: as.map Value.int) h1 = some (r, h2) ∧ Inv h2
section ZLAW
variable {p : Program} {l : Launch} {e : Env} {s : State} {m : MethodId} {below : List Frame} {meth : Method} {c : Code} {Q : State → Prop} {b L : Nat} {xs : Nat → Int32} {G : z_G} {cells slots : Nat} {H : Heap} {locs : List Loc} {ls : Array Slot} {pc : Nat} {rest : List Value} {h : z_H}
theorem z_lcat : ∀ (As : List Value), z_cat (As.map (z_up G)) = z_cat As := fun As => z_cat_up G As
theorem z_lcall (C0 : lw_At p s m meth c b L xs) (hG : G.1 = s.heap.size) (hK : z_Kn G s) (hSt : z_St G s s.heap) {id i o : Nat} {As : List Value} {r : z_A} (hm : z_mok id) (hv : (z_sg id).1 = false) (hn : As.length = (z_sg id).2.1) (ho : o < 141) (hk : z_K o = (z_sg id).2.2) (h12 : 1 ≤ (z_sg id).2.2 ∧ (z_sg id).2.2 ≤ 12 ∧ (z_q (z_sg id).2.2).1 = (z_mt id).1.cls) (hM : z_Met l G id (.ref o :: As) h r) (hlk : Cond.methodLink "TestChoiceLaw" i (z_mt id).1 ∈ z_good) (hrt : (z_mt id).2.2.2 = some .int) (hrk : z_rank id (.ref o :: As) ≤ 100)
    (hd : decode code pc = .ok (.invokevirtual i, 3)) (hls : ls.size = 4) (hrest : (rest.map fun v => v.category).sum ≤ 8) (hcl : cells ≤ room_1.cells ∧ slots ≤ room_1.slots) (hR : z_Rep G h H) (hS : va_S (fun q : Nat => s.heap.size ≤ q) s.heap H locs)
    (k : ∀ (H1 : Heap) (locs1 : List Loc), z_Rep G r.2 H1 → va_S (fun q : Nat => s.heap.size ≤ q) s.heap H1 locs1 → W p l e room_1 s m #[Value.ref b] below meth c H1 locs1 cells slots Q (F0 m (pc + 3) ls (.int r.1 :: rest))) : W p l e room_1 s m #[Value.ref b] below meth c H locs cells slots Q (F0 m pc ls ((As.map (z_up G)).reverse ++ .ref (G.1 + o) :: rest)) := by
  obtain ⟨hx, hb, hr, hml, hown, hts, -⟩ := C0
  have hgood : ∀ w ∈ z_good, w.before #[Value.ref b] s = true := fun w hw => hts w (List.mem_filter.mp hw).1
  have hm0 := hm
  obtain ⟨m1, m2, m3, m4, m5, m6, m7, m8, -⟩ := hm
  rw [hv] at m5
  obtain ⟨m5a, m5b, -⟩ := m5
  have hup : z_up G (.ref o) = .ref (G.1 + o) := z_up_obj ho
  have hcell : ∃ cellB : Cell, H[G.1 + o]? = some cellB ∧ cellB.vm.isStatics = false ∧ s.vm.findClass (z_mt id).1.cls = some cellB.cls := by
    obtain ⟨cell, c1, c2, c3, -⟩ := (hR o ho).1 (by omega)
    refine ⟨cell, c1, by rw [c3]; rfl, ?_⟩
    obtain ⟨q1, -⟩ := z_q_ok _ h12.1 h12.2.1
    obtain ⟨-, hfc, -⟩ := hK.1.1 _ _ q1
    rw [c2, hk, ← h12.2.2]
    exact hfc
  have hPc : ∀ U : State, U.heap = H → s.WarmedH U.vm → z_Pc G (.ref o :: As) h (Value.ref (G.1 + o) :: As.map (z_up G)).toArray U := fun U hU hW => ⟨by rw [List.map_cons, hup], z_Kn.warm hW hK, by
    rw [hU]
    exact hSt.to hW.alike (fun q h1 h2 => hS.2.1 q h1 (by rw [← hG]; exact h2)), by rw [hU]; exact hR⟩
  have hlen : ∀ sig, parseMethodDescriptor (z_mt id).1.desc = some sig → (z_sg id).2.1 = sig.parameters.length := fun sig hs => by
    rw [hs] at m4
    exact (Option.some.inj m4).symm
  have hgi : GoodIn lw_tbl (z_ws id) := by
    intro w hw
    have key : ∀ w ∈ z_good, w ∈ lw_tbl ∧ ((w.onTables && w.keeps) = true ∨ ∃ ty, w = .arrayClass ty) := fun w hw => ⟨(List.mem_filter.mp hw).1, good_of_word (List.mem_filter.mp hw).2⟩
    rcases List.mem_cons.mp hw with rfl | hw
    · exact key _ m1
    · exact key w hw
  have hfr : room_1.frames = 2048 ∧ room_1.locals = 84000 := ⟨rfl, rfl⟩
  have hrun := va_runV (R := room_1) (p := p) (l := l) (e := e) (below := below) (meth := meth) (cells := cells) (slots := slots) (locs := locs) (C := (z_mt id).1.cls) (Ts := lw_tbl) (own := R_law) (index := i) (cc := code) (nL := 4) ⟨hx, hb, hml, hown, hts⟩ hM (cw := ⟨⟨rfl, rfl, by rw [hfr.1]; show z_rank id _ + 1 ≤ _; omega, by rw [hfr.2, m6]; show 8 + (_ + 11) + 80 * _ ≤ _; omega, pay_in hts hgi, List.mem_cons_self, hgood _ m1, hgood _ m2, m3, hlen, hgood _ hlk⟩, hgood _ m5a, hgood _ m5b⟩) (b := G.1 + o) (As := As.map (z_up G)) (rest := rest) ⟨z_blind G _ h, hcell, hPc⟩ (g := F0 m pc ls ((As.map (z_up G)).reverse ++ .ref (G.1 + o) :: rest)) rfl (by rw [List.length_map]; exact hn) hls rfl (by show 2 * 0 + _ ≤ 8; omega) hd ⟨hcl.1, hcl.2⟩
  intro T hT X
  obtain ⟨v, st₀, t, T', LL, h0, X', hL, e1, e2, ⟨hv, hR1, hz, hq⟩, st⟩ := hrun T hT X
  rw [hrt] at hv
  cases hv
  rw [h0] at hz hq
  obtain ⟨t2, a1, b1⟩ := k T'.heap (locs ++ LL) (by rw [e1]; exact hR1) ⟨by rw [e1, hz]; exact hS.1, fun q h1 h2 => by rw [e1, hq q (by rw [hG]; exact h1)]; exact hS.2.1 q h1 h2, fun q hq => by
      rcases List.mem_append.mp hq with h | h
      · exact hS.2.2 q h
      · rw [← hG]; exact hL q h⟩ T' rfl X'
  exact ⟨t2, st t2 a1, b1⟩
/-- an int of the script is laid on the stack -/
theorem z_larg (C0 : lw_At p s m meth c b L xs) (hS : va_S (fun q : Nat => s.heap.size ≤ q) s.heap H locs) {i j : Nat} (hi : i + 5 ≤ L) (hj : j < 5) (hL : L ≤ 2560) {x1 x2 : Nat} (hl : lv_has ls 4 [(0, .ref b), (1, .ref x1), (2, .ref x2), (3, .int (nI i))]) {jj : Int} (hjj : Int32.ofInt jj = nI j) (d0 : decode code pc = .ok (.aload_n 0, 1)) (d1 : decode code (pc + 1) = .ok (.iload_n 3, 1)) (d2 : decode code (pc + 2) = .ok (.iconst jj, 1)) (d3 : decode code (pc + 3) = .ok (.iadd, 1)) (d4 : decode code (pc + 4) = .ok (.iaload, 1))
    (k : W p l e room_1 s m #[Value.ref b] below meth c H locs cells slots Q (F0 m (pc + 5) ls (.int (xs (i + j)) :: rest))) : W p l e room_1 s m #[Value.ref b] below meth c H locs cells slots Q (F0 m pc ls rest) := by
  obtain ⟨hx, hb, hr, hml, hown, hts, hX, hbl, hlocks, hgv⟩ := C0
  have hbA : ¬ (fun q : Nat => s.heap.size ≤ q) b := Nat.not_le.mpr hbl
  refine lv_aload_n hx hb d0 rfl (lv_at hl 0 rfl) ?_
  refine lv_iload_n hx hb d1 rfl (lv_at hl 3 rfl) ?_
  refine lv_iconst hx hb d2 hjj ?_
  refine lv_iadd hx hb d3 ?_
  have e1 : nI i + nI j = nI (i + j) := nI_add i j
  rw [e1]
  refine va_sld hx hb hX hbl hbA hS (vp_in_nI (by omega) (by omega)) d4 ?_
  rw [nI_clamp (by omega)]
  exact k
end ZLAW
set_option maxRecDepth 8000 in
set_option maxHeartbeats 1000000 in
theorem z_law_0 {p : Program} {l : Launch} {e : Env} {s : State} {m : MethodId} {below : List Frame} {meth : Method} {c : Code} {Q : State → Prop} {b L : Nat} {xs : Nat → Int32} {G : z_G} {cells slots : Nat} {H : Heap} {locs : List Loc} {ls : Array Slot} {h : z_H} {Inv : z_H → Prop} (C0 : lw_At p s m meth c b L xs) (hL : L ≤ 2560) (hG : G.1 = s.heap.size) (hK : z_Kn G s) (hSt : z_St G s s.heap) (hmo : ∀ i, z_idok i → z_mok i) (hmet : ∀ id a h r, id < 221 → z_cat a ≤ z_ml id → z_M id a h = some r → z_Met l G id a h r) (hop : z_opok Inv 0 133 1) (hcl : cells ≤ room_1.cells ∧ slots ≤ room_1.slots)
    {i : Nat} (hi : i + 5 ≤ L) (hl : lv_has ls 4 [(0, .ref b), (1, .ref (G.1 + 0)), (2, .ref (G.1 + 122)), (3, .int (nI i))]) (hI : Inv h) (hR : z_Rep G h H) (hS : va_S (fun q : Nat => s.heap.size ≤ q) s.heap H locs)
    (k : ∀ (h2 : z_H) (H : Heap) (locs : List Loc), Inv h2 → z_Rep G h2 H → va_S (fun q : Nat => s.heap.size ≤ q) s.heap H locs → W p l e room_1 s m #[Value.ref b] below meth c H locs cells slots Q (F0 m 1071 ls [])) : W p l e room_1 s m #[Value.ref b] below meth c H locs cells slots Q (F0 m 164 ls []) := by
  obtain ⟨hx, hb, -⟩ := id C0
  obtain ⟨r, h1, h2, e1, e2, hI2⟩ := hop h hI [xs (i + 1)] rfl
  refine lv_aload_n hx hb z_ld22 rfl (lv_at hl 1 rfl) ?_
  refine z_larg C0 hS hi (j := 1) (by decide) hL hl rfl z_ld23 z_ld24 z_ld25 z_ld26 z_ld27 ?_
  refine z_lcall (As := [.int (xs (i + 1))]) (rest := []) (o := 0) C0 hG hK hSt (hmo 0 (Or.inl (by decide))) rfl rfl (by decide) (by decide +kernel) ⟨by decide, by decide, by decide +kernel⟩ (hmet 0 _ _ _ (by decide) (Nat.le_of_ble_eq_true rfl) e1) (z_wd_good (pl := 486) (by decide +kernel) rfl) rfl (Nat.le_of_ble_eq_true rfl) z_ld28 hl.1 (Nat.le_of_ble_eq_true rfl) hcl hR hS (fun H locs hR hS => ?_)
  refine lv_aload_n hx hb z_ld29 rfl (lv_at hl 2 rfl) ?_
  refine z_larg C0 hS hi (j := 1) (by decide) hL hl rfl z_ld30 z_ld31 z_ld32 z_ld33 z_ld34 ?_
  refine z_lcall (As := [.int (xs (i + 1))]) (rest := [.int r]) (o := 122) C0 hG hK hSt (hmo 133 (Or.inl (by decide))) rfl rfl (by decide) (by decide +kernel) ⟨by decide, by decide, by decide +kernel⟩ (hmet 133 _ _ _ (by decide) (Nat.le_of_ble_eq_true rfl) e2) (z_wd_good (pl := 1210) (by decide +kernel) rfl) rfl (Nat.le_of_ble_eq_true rfl) z_ld35 hl.1 (Nat.le_of_ble_eq_true rfl) hcl hR hS (fun H locs hR hS => ?_)
  refine lv_icmp_eq (tgt := 1071) hx hb z_ld36 (by decide) (fun _ => ?_) (fun q => absurd rfl q)
  exact k h2 H locs hI2 hR hS
set_option maxRecDepth 8000 in
set_option maxHeartbeats 1000000 in
theorem z_law_1 {p : Program} {l : Launch} {e : Env} {s : State} {m : MethodId} {below : List Frame} {meth : Method} {c : Code} {Q : State → Prop} {b L : Nat} {xs : Nat → Int32} {G : z_G} {cells slots : Nat} {H : Heap} {locs : List Loc} {ls : Array Slot} {h : z_H} {Inv : z_H → Prop} (C0 : lw_At p s m meth c b L xs) (hL : L ≤ 2560) (hG : G.1 = s.heap.size) (hK : z_Kn G s) (hSt : z_St G s s.heap) (hmo : ∀ i, z_idok i → z_mok i) (hmet : ∀ id a h r, id < 221 → z_cat a ≤ z_ml id → z_M id a h = some r → z_Met l G id a h r) (hop : z_opok Inv 1 134 1) (hcl : cells ≤ room_1.cells ∧ slots ≤ room_1.slots)
    {i : Nat} (hi : i + 5 ≤ L) (hl : lv_has ls 4 [(0, .ref b), (1, .ref (G.1 + 0)), (2, .ref (G.1 + 122)), (3, .int (nI i))]) (hI : Inv h) (hR : z_Rep G h H) (hS : va_S (fun q : Nat => s.heap.size ≤ q) s.heap H locs)
    (k : ∀ (h2 : z_H) (H : Heap) (locs : List Loc), Inv h2 → z_Rep G h2 H → va_S (fun q : Nat => s.heap.size ≤ q) s.heap H locs → W p l e room_1 s m #[Value.ref b] below meth c H locs cells slots Q (F0 m 1071 ls [])) : W p l e room_1 s m #[Value.ref b] below meth c H locs cells slots Q (F0 m 187 ls []) := by
  obtain ⟨hx, hb, -⟩ := id C0
  obtain ⟨r, h1, h2, e1, e2, hI2⟩ := hop h hI [xs (i + 1)] rfl
  refine lv_aload_n hx hb z_ld39 rfl (lv_at hl 1 rfl) ?_
  refine z_larg C0 hS hi (j := 1) (by decide) hL hl rfl z_ld40 z_ld41 z_ld42 z_ld43 z_ld44 ?_
  refine z_lcall (As := [.int (xs (i + 1))]) (rest := []) (o := 0) C0 hG hK hSt (hmo 1 (Or.inl (by decide))) rfl rfl (by decide) (by decide +kernel) ⟨by decide, by decide, by decide +kernel⟩ (hmet 1 _ _ _ (by decide) (Nat.le_of_ble_eq_true rfl) e1) (z_wd_good (pl := 494) (by decide +kernel) rfl) rfl (Nat.le_of_ble_eq_true rfl) z_ld45 hl.1 (Nat.le_of_ble_eq_true rfl) hcl hR hS (fun H locs hR hS => ?_)
  refine lv_aload_n hx hb z_ld46 rfl (lv_at hl 2 rfl) ?_
  refine z_larg C0 hS hi (j := 1) (by decide) hL hl rfl z_ld47 z_ld48 z_ld49 z_ld50 z_ld51 ?_
  refine z_lcall (As := [.int (xs (i + 1))]) (rest := [.int r]) (o := 122) C0 hG hK hSt (hmo 134 (Or.inl (by decide))) rfl rfl (by decide) (by decide +kernel) ⟨by decide, by decide, by decide +kernel⟩ (hmet 134 _ _ _ (by decide) (Nat.le_of_ble_eq_true rfl) e2) (z_wd_good (pl := 1218) (by decide +kernel) rfl) rfl (Nat.le_of_ble_eq_true rfl) z_ld52 hl.1 (Nat.le_of_ble_eq_true rfl) hcl hR hS (fun H locs hR hS => ?_)
  refine lv_icmp_eq (tgt := 1071) hx hb z_ld53 (by decide) (fun _ => ?_) (fun q => absurd rfl q)
  exact k h2 H locs hI2 hR hS
set_option maxRecDepth 8000 in
set_option maxHeartbeats 1000000 in
theorem z_law_2 {p : Program} {l : Launch} {e : Env} {s : State} {m : MethodId} {below : List Frame} {meth : Method} {c : Code} {Q : State → Prop} {b L : Nat} {xs : Nat → Int32} {G : z_G} {cells slots : Nat} {H : Heap} {locs : List Loc} {ls : Array Slot} {h : z_H} {Inv : z_H → Prop} (C0 : lw_At p s m meth c b L xs) (hL : L ≤ 2560) (hG : G.1 = s.heap.size) (hK : z_Kn G s) (hSt : z_St G s s.heap) (hmo : ∀ i, z_idok i → z_mok i) (hmet : ∀ id a h r, id < 221 → z_cat a ≤ z_ml id → z_M id a h = some r → z_Met l G id a h r) (hop : z_opok Inv 2 150 0) (hcl : cells ≤ room_1.cells ∧ slots ≤ room_1.slots)
    {i : Nat} (hi : i + 5 ≤ L) (hl : lv_has ls 4 [(0, .ref b), (1, .ref (G.1 + 0)), (2, .ref (G.1 + 122)), (3, .int (nI i))]) (hI : Inv h) (hR : z_Rep G h H) (hS : va_S (fun q : Nat => s.heap.size ≤ q) s.heap H locs)
    (k : ∀ (h2 : z_H) (H : Heap) (locs : List Loc), Inv h2 → z_Rep G h2 H → va_S (fun q : Nat => s.heap.size ≤ q) s.heap H locs → W p l e room_1 s m #[Value.ref b] below meth c H locs cells slots Q (F0 m 1071 ls [])) : W p l e room_1 s m #[Value.ref b] below meth c H locs cells slots Q (F0 m 210 ls []) := by
  obtain ⟨hx, hb, -⟩ := id C0
  obtain ⟨r, h1, h2, e1, e2, hI2⟩ := hop h hI [] rfl
  refine lv_aload_n hx hb z_ld56 rfl (lv_at hl 1 rfl) ?_
  refine z_lcall (As := []) (rest := []) (o := 0) C0 hG hK hSt (hmo 2 (Or.inl (by decide))) rfl rfl (by decide) (by decide +kernel) ⟨by decide, by decide, by decide +kernel⟩ (hmet 2 _ _ _ (by decide) (Nat.le_of_ble_eq_true rfl) e1) (z_wd_good (pl := 498) (by decide +kernel) rfl) rfl (Nat.le_of_ble_eq_true rfl) z_ld57 hl.1 (Nat.le_of_ble_eq_true rfl) hcl hR hS (fun H locs hR hS => ?_)
  refine lv_aload_n hx hb z_ld58 rfl (lv_at hl 2 rfl) ?_
  refine z_lcall (As := []) (rest := [.int r]) (o := 122) C0 hG hK hSt (hmo 150 (Or.inl (by decide))) rfl rfl (by decide) (by decide +kernel) ⟨by decide, by decide, by decide +kernel⟩ (hmet 150 _ _ _ (by decide) (Nat.le_of_ble_eq_true rfl) e2) (z_wd_good (pl := 1222) (by decide +kernel) rfl) rfl (Nat.le_of_ble_eq_true rfl) z_ld59 hl.1 (Nat.le_of_ble_eq_true rfl) hcl hR hS (fun H locs hR hS => ?_)
  refine lv_icmp_eq (tgt := 1071) hx hb z_ld60 (by decide) (fun _ => ?_) (fun q => absurd rfl q)
  exact k h2 H locs hI2 hR hS
set_option maxRecDepth 8000 in
set_option maxHeartbeats 1000000 in
theorem z_law_3 {p : Program} {l : Launch} {e : Env} {s : State} {m : MethodId} {below : List Frame} {meth : Method} {c : Code} {Q : State → Prop} {b L : Nat} {xs : Nat → Int32} {G : z_G} {cells slots : Nat} {H : Heap} {locs : List Loc} {ls : Array Slot} {h : z_H} {Inv : z_H → Prop} (C0 : lw_At p s m meth c b L xs) (hL : L ≤ 2560) (hG : G.1 = s.heap.size) (hK : z_Kn G s) (hSt : z_St G s s.heap) (hmo : ∀ i, z_idok i → z_mok i) (hmet : ∀ id a h r, id < 221 → z_cat a ≤ z_ml id → z_M id a h = some r → z_Met l G id a h r) (hop : z_opok Inv 3 151 0) (hcl : cells ≤ room_1.cells ∧ slots ≤ room_1.slots)
    {i : Nat} (hi : i + 5 ≤ L) (hl : lv_has ls 4 [(0, .ref b), (1, .ref (G.1 + 0)), (2, .ref (G.1 + 122)), (3, .int (nI i))]) (hI : Inv h) (hR : z_Rep G h H) (hS : va_S (fun q : Nat => s.heap.size ≤ q) s.heap H locs)
    (k : ∀ (h2 : z_H) (H : Heap) (locs : List Loc), Inv h2 → z_Rep G h2 H → va_S (fun q : Nat => s.heap.size ≤ q) s.heap H locs → W p l e room_1 s m #[Value.ref b] below meth c H locs cells slots Q (F0 m 1071 ls [])) : W p l e room_1 s m #[Value.ref b] below meth c H locs cells slots Q (F0 m 223 ls []) := by
  obtain ⟨hx, hb, -⟩ := id C0
  obtain ⟨r, h1, h2, e1, e2, hI2⟩ := hop h hI [] rfl
  refine lv_aload_n hx hb z_ld63 rfl (lv_at hl 1 rfl) ?_
  refine z_lcall (As := []) (rest := []) (o := 0) C0 hG hK hSt (hmo 3 (Or.inl (by decide))) rfl rfl (by decide) (by decide +kernel) ⟨by decide, by decide, by decide +kernel⟩ (hmet 3 _ _ _ (by decide) (Nat.le_of_ble_eq_true rfl) e1) (z_wd_good (pl := 703) (by decide +kernel) rfl) rfl (Nat.le_of_ble_eq_true rfl) z_ld64 hl.1 (Nat.le_of_ble_eq_true rfl) hcl hR hS (fun H locs hR hS => ?_)
  refine lv_aload_n hx hb z_ld65 rfl (lv_at hl 2 rfl) ?_
  refine z_lcall (As := []) (rest := [.int r]) (o := 122) C0 hG hK hSt (hmo 151 (Or.inl (by decide))) rfl rfl (by decide) (by decide +kernel) ⟨by decide, by decide, by decide +kernel⟩ (hmet 151 _ _ _ (by decide) (Nat.le_of_ble_eq_true rfl) e2) (z_wd_good (pl := 1293) (by decide +kernel) rfl) rfl (Nat.le_of_ble_eq_true rfl) z_ld66 hl.1 (Nat.le_of_ble_eq_true rfl) hcl hR hS (fun H locs hR hS => ?_)
  refine lv_icmp_eq (tgt := 1071) hx hb z_ld67 (by decide) (fun _ => ?_) (fun q => absurd rfl q)
  exact k h2 H locs hI2 hR hS
set_option maxRecDepth 8000 in
set_option maxHeartbeats 1000000 in
theorem z_law_4 {p : Program} {l : Launch} {e : Env} {s : State} {m : MethodId} {below : List Frame} {meth : Method} {c : Code} {Q : State → Prop} {b L : Nat} {xs : Nat → Int32} {G : z_G} {cells slots : Nat} {H : Heap} {locs : List Loc} {ls : Array Slot} {h : z_H} {Inv : z_H → Prop} (C0 : lw_At p s m meth c b L xs) (hL : L ≤ 2560) (hG : G.1 = s.heap.size) (hK : z_Kn G s) (hSt : z_St G s s.heap) (hmo : ∀ i, z_idok i → z_mok i) (hmet : ∀ id a h r, id < 221 → z_cat a ≤ z_ml id → z_M id a h = some r → z_Met l G id a h r) (hop : z_opok Inv 4 183 1) (hcl : cells ≤ room_1.cells ∧ slots ≤ room_1.slots)
    {i : Nat} (hi : i + 5 ≤ L) (hl : lv_has ls 4 [(0, .ref b), (1, .ref (G.1 + 0)), (2, .ref (G.1 + 122)), (3, .int (nI i))]) (hI : Inv h) (hR : z_Rep G h H) (hS : va_S (fun q : Nat => s.heap.size ≤ q) s.heap H locs)
    (k : ∀ (h2 : z_H) (H : Heap) (locs : List Loc), Inv h2 → z_Rep G h2 H → va_S (fun q : Nat => s.heap.size ≤ q) s.heap H locs → W p l e room_1 s m #[Value.ref b] below meth c H locs cells slots Q (F0 m 1071 ls [])) : W p l e room_1 s m #[Value.ref b] below meth c H locs cells slots Q (F0 m 236 ls []) := by
  obtain ⟨hx, hb, -⟩ := id C0
  obtain ⟨r, h1, h2, e1, e2, hI2⟩ := hop h hI [xs (i + 1)] rfl
  refine lv_aload_n hx hb z_ld70 rfl (lv_at hl 1 rfl) ?_
  refine z_larg C0 hS hi (j := 1) (by decide) hL hl rfl z_ld71 z_ld72 z_ld73 z_ld74 z_ld75 ?_
  refine z_lcall (As := [.int (xs (i + 1))]) (rest := []) (o := 0) C0 hG hK hSt (hmo 4 (Or.inl (by decide))) rfl rfl (by decide) (by decide +kernel) ⟨by decide, by decide, by decide +kernel⟩ (hmet 4 _ _ _ (by decide) (Nat.le_of_ble_eq_true rfl) e1) (z_wd_good (pl := 707) (by decide +kernel) rfl) rfl (Nat.le_of_ble_eq_true rfl) z_ld76 hl.1 (Nat.le_of_ble_eq_true rfl) hcl hR hS (fun H locs hR hS => ?_)
  refine lv_aload_n hx hb z_ld77 rfl (lv_at hl 2 rfl) ?_
  refine z_larg C0 hS hi (j := 1) (by decide) hL hl rfl z_ld78 z_ld79 z_ld80 z_ld81 z_ld82 ?_
  refine z_lcall (As := [.int (xs (i + 1))]) (rest := [.int r]) (o := 122) C0 hG hK hSt (hmo 183 (Or.inl (by decide))) rfl rfl (by decide) (by decide +kernel) ⟨by decide, by decide, by decide +kernel⟩ (hmet 183 _ _ _ (by decide) (Nat.le_of_ble_eq_true rfl) e2) (z_wd_good (pl := 1297) (by decide +kernel) rfl) rfl (Nat.le_of_ble_eq_true rfl) z_ld83 hl.1 (Nat.le_of_ble_eq_true rfl) hcl hR hS (fun H locs hR hS => ?_)
  refine lv_icmp_eq (tgt := 1071) hx hb z_ld84 (by decide) (fun _ => ?_) (fun q => absurd rfl q)
  exact k h2 H locs hI2 hR hS
set_option maxRecDepth 8000 in
set_option maxHeartbeats 1000000 in
theorem z_law_5 {p : Program} {l : Launch} {e : Env} {s : State} {m : MethodId} {below : List Frame} {meth : Method} {c : Code} {Q : State → Prop} {b L : Nat} {xs : Nat → Int32} {G : z_G} {cells slots : Nat} {H : Heap} {locs : List Loc} {ls : Array Slot} {h : z_H} {Inv : z_H → Prop} (C0 : lw_At p s m meth c b L xs) (hL : L ≤ 2560) (hG : G.1 = s.heap.size) (hK : z_Kn G s) (hSt : z_St G s s.heap) (hmo : ∀ i, z_idok i → z_mok i) (hmet : ∀ id a h r, id < 221 → z_cat a ≤ z_ml id → z_M id a h = some r → z_Met l G id a h r) (hop : z_opok Inv 5 184 3) (hcl : cells ≤ room_1.cells ∧ slots ≤ room_1.slots)
    {i : Nat} (hi : i + 5 ≤ L) (hl : lv_has ls 4 [(0, .ref b), (1, .ref (G.1 + 0)), (2, .ref (G.1 + 122)), (3, .int (nI i))]) (hI : Inv h) (hR : z_Rep G h H) (hS : va_S (fun q : Nat => s.heap.size ≤ q) s.heap H locs)
    (k : ∀ (h2 : z_H) (H : Heap) (locs : List Loc), Inv h2 → z_Rep G h2 H → va_S (fun q : Nat => s.heap.size ≤ q) s.heap H locs → W p l e room_1 s m #[Value.ref b] below meth c H locs cells slots Q (F0 m 1071 ls [])) : W p l e room_1 s m #[Value.ref b] below meth c H locs cells slots Q (F0 m 259 ls []) := by
  obtain ⟨hx, hb, -⟩ := id C0
  obtain ⟨r, h1, h2, e1, e2, hI2⟩ := hop h hI [xs (i + 1), xs (i + 2), xs (i + 3)] rfl
  refine lv_aload_n hx hb z_ld87 rfl (lv_at hl 1 rfl) ?_
  refine z_larg C0 hS hi (j := 1) (by decide) hL hl rfl z_ld88 z_ld89 z_ld90 z_ld91 z_ld92 ?_
  refine z_larg C0 hS hi (j := 2) (by decide) hL hl rfl z_ld93 z_ld94 z_ld95 z_ld96 z_ld97 ?_
  refine z_larg C0 hS hi (j := 3) (by decide) hL hl rfl z_ld98 z_ld99 z_ld100 z_ld101 z_ld102 ?_
  refine z_lcall (As := [.int (xs (i + 1)), .int (xs (i + 2)), .int (xs (i + 3))]) (rest := []) (o := 0) C0 hG hK hSt (hmo 5 (Or.inl (by decide))) rfl rfl (by decide) (by decide +kernel) ⟨by decide, by decide, by decide +kernel⟩ (hmet 5 _ _ _ (by decide) (Nat.le_of_ble_eq_true rfl) e1) (z_wd_good (pl := 847) (by decide +kernel) rfl) rfl (Nat.le_of_ble_eq_true rfl) z_ld103 hl.1 (Nat.le_of_ble_eq_true rfl) hcl hR hS (fun H locs hR hS => ?_)
  refine lv_aload_n hx hb z_ld104 rfl (lv_at hl 2 rfl) ?_
  refine z_larg C0 hS hi (j := 1) (by decide) hL hl rfl z_ld105 z_ld106 z_ld107 z_ld108 z_ld109 ?_
  refine z_larg C0 hS hi (j := 2) (by decide) hL hl rfl z_ld110 z_ld111 z_ld112 z_ld113 z_ld114 ?_
  refine z_larg C0 hS hi (j := 3) (by decide) hL hl rfl z_ld115 z_ld116 z_ld117 z_ld118 z_ld119 ?_
  refine z_lcall (As := [.int (xs (i + 1)), .int (xs (i + 2)), .int (xs (i + 3))]) (rest := [.int r]) (o := 122) C0 hG hK hSt (hmo 184 (Or.inl (by decide))) rfl rfl (by decide) (by decide +kernel) ⟨by decide, by decide, by decide +kernel⟩ (hmet 184 _ _ _ (by decide) (Nat.le_of_ble_eq_true rfl) e2) (z_wd_good (pl := 1400) (by decide +kernel) rfl) rfl (Nat.le_of_ble_eq_true rfl) z_ld120 hl.1 (Nat.le_of_ble_eq_true rfl) hcl hR hS (fun H locs hR hS => ?_)
  refine lv_icmp_eq (tgt := 1071) hx hb z_ld121 (by decide) (fun _ => ?_) (fun q => absurd rfl q)
  exact k h2 H locs hI2 hR hS
set_option maxRecDepth 8000 in
set_option maxHeartbeats 1000000 in
theorem z_law_6 {p : Program} {l : Launch} {e : Env} {s : State} {m : MethodId} {below : List Frame} {meth : Method} {c : Code} {Q : State → Prop} {b L : Nat} {xs : Nat → Int32} {G : z_G} {cells slots : Nat} {H : Heap} {locs : List Loc} {ls : Array Slot} {h : z_H} {Inv : z_H → Prop} (C0 : lw_At p s m meth c b L xs) (hL : L ≤ 2560) (hG : G.1 = s.heap.size) (hK : z_Kn G s) (hSt : z_St G s s.heap) (hmo : ∀ i, z_idok i → z_mok i) (hmet : ∀ id a h r, id < 221 → z_cat a ≤ z_ml id → z_M id a h = some r → z_Met l G id a h r) (hop : z_opok Inv 6 185 3) (hcl : cells ≤ room_1.cells ∧ slots ≤ room_1.slots)
    {i : Nat} (hi : i + 5 ≤ L) (hl : lv_has ls 4 [(0, .ref b), (1, .ref (G.1 + 0)), (2, .ref (G.1 + 122)), (3, .int (nI i))]) (hI : Inv h) (hR : z_Rep G h H) (hS : va_S (fun q : Nat => s.heap.size ≤ q) s.heap H locs)
    (k : ∀ (h2 : z_H) (H : Heap) (locs : List Loc), Inv h2 → z_Rep G h2 H → va_S (fun q : Nat => s.heap.size ≤ q) s.heap H locs → W p l e room_1 s m #[Value.ref b] below meth c H locs cells slots Q (F0 m 1071 ls [])) : W p l e room_1 s m #[Value.ref b] below meth c H locs cells slots Q (F0 m 302 ls []) := by
  obtain ⟨hx, hb, -⟩ := id C0
  obtain ⟨r, h1, h2, e1, e2, hI2⟩ := hop h hI [xs (i + 1), xs (i + 2), xs (i + 3)] rfl
  refine lv_aload_n hx hb z_ld124 rfl (lv_at hl 1 rfl) ?_
  refine z_larg C0 hS hi (j := 1) (by decide) hL hl rfl z_ld125 z_ld126 z_ld127 z_ld128 z_ld129 ?_
  refine z_larg C0 hS hi (j := 2) (by decide) hL hl rfl z_ld130 z_ld131 z_ld132 z_ld133 z_ld134 ?_
  refine z_larg C0 hS hi (j := 3) (by decide) hL hl rfl z_ld135 z_ld136 z_ld137 z_ld138 z_ld139 ?_
  refine z_lcall (As := [.int (xs (i + 1)), .int (xs (i + 2)), .int (xs (i + 3))]) (rest := []) (o := 0) C0 hG hK hSt (hmo 6 (Or.inl (by decide))) rfl rfl (by decide) (by decide +kernel) ⟨by decide, by decide, by decide +kernel⟩ (hmet 6 _ _ _ (by decide) (Nat.le_of_ble_eq_true rfl) e1) (z_wd_good (pl := 863) (by decide +kernel) rfl) rfl (Nat.le_of_ble_eq_true rfl) z_ld140 hl.1 (Nat.le_of_ble_eq_true rfl) hcl hR hS (fun H locs hR hS => ?_)
  refine lv_aload_n hx hb z_ld141 rfl (lv_at hl 2 rfl) ?_
  refine z_larg C0 hS hi (j := 1) (by decide) hL hl rfl z_ld142 z_ld143 z_ld144 z_ld145 z_ld146 ?_
  refine z_larg C0 hS hi (j := 2) (by decide) hL hl rfl z_ld147 z_ld148 z_ld149 z_ld150 z_ld151 ?_
  refine z_larg C0 hS hi (j := 3) (by decide) hL hl rfl z_ld152 z_ld153 z_ld154 z_ld155 z_ld156 ?_
  refine z_lcall (As := [.int (xs (i + 1)), .int (xs (i + 2)), .int (xs (i + 3))]) (rest := [.int r]) (o := 122) C0 hG hK hSt (hmo 185 (Or.inl (by decide))) rfl rfl (by decide) (by decide +kernel) ⟨by decide, by decide, by decide +kernel⟩ (hmet 185 _ _ _ (by decide) (Nat.le_of_ble_eq_true rfl) e2) (z_wd_good (pl := 1413) (by decide +kernel) rfl) rfl (Nat.le_of_ble_eq_true rfl) z_ld157 hl.1 (Nat.le_of_ble_eq_true rfl) hcl hR hS (fun H locs hR hS => ?_)
  refine lv_icmp_eq (tgt := 1071) hx hb z_ld158 (by decide) (fun _ => ?_) (fun q => absurd rfl q)
  exact k h2 H locs hI2 hR hS
set_option maxRecDepth 8000 in
set_option maxHeartbeats 1000000 in
theorem z_law_7 {p : Program} {l : Launch} {e : Env} {s : State} {m : MethodId} {below : List Frame} {meth : Method} {c : Code} {Q : State → Prop} {b L : Nat} {xs : Nat → Int32} {G : z_G} {cells slots : Nat} {H : Heap} {locs : List Loc} {ls : Array Slot} {h : z_H} {Inv : z_H → Prop} (C0 : lw_At p s m meth c b L xs) (hL : L ≤ 2560) (hG : G.1 = s.heap.size) (hK : z_Kn G s) (hSt : z_St G s s.heap) (hmo : ∀ i, z_idok i → z_mok i) (hmet : ∀ id a h r, id < 221 → z_cat a ≤ z_ml id → z_M id a h = some r → z_Met l G id a h r) (hop : z_opok Inv 7 190 2) (hcl : cells ≤ room_1.cells ∧ slots ≤ room_1.slots)
    {i : Nat} (hi : i + 5 ≤ L) (hl : lv_has ls 4 [(0, .ref b), (1, .ref (G.1 + 0)), (2, .ref (G.1 + 122)), (3, .int (nI i))]) (hI : Inv h) (hR : z_Rep G h H) (hS : va_S (fun q : Nat => s.heap.size ≤ q) s.heap H locs)
    (k : ∀ (h2 : z_H) (H : Heap) (locs : List Loc), Inv h2 → z_Rep G h2 H → va_S (fun q : Nat => s.heap.size ≤ q) s.heap H locs → W p l e room_1 s m #[Value.ref b] below meth c H locs cells slots Q (F0 m 1071 ls [])) : W p l e room_1 s m #[Value.ref b] below meth c H locs cells slots Q (F0 m 345 ls []) := by
  obtain ⟨hx, hb, -⟩ := id C0
  obtain ⟨r, h1, h2, e1, e2, hI2⟩ := hop h hI [xs (i + 1), xs (i + 2)] rfl
  refine lv_aload_n hx hb z_ld161 rfl (lv_at hl 1 rfl) ?_
  refine z_larg C0 hS hi (j := 1) (by decide) hL hl rfl z_ld162 z_ld163 z_ld164 z_ld165 z_ld166 ?_
  refine z_larg C0 hS hi (j := 2) (by decide) hL hl rfl z_ld167 z_ld168 z_ld169 z_ld170 z_ld171 ?_
  refine z_lcall (As := [.int (xs (i + 1)), .int (xs (i + 2))]) (rest := []) (o := 0) C0 hG hK hSt (hmo 7 (Or.inl (by decide))) rfl rfl (by decide) (by decide +kernel) ⟨by decide, by decide, by decide +kernel⟩ (hmet 7 _ _ _ (by decide) (Nat.le_of_ble_eq_true rfl) e1) (z_wd_good (pl := 877) (by decide +kernel) rfl) rfl (Nat.le_of_ble_eq_true rfl) z_ld172 hl.1 (Nat.le_of_ble_eq_true rfl) hcl hR hS (fun H locs hR hS => ?_)
  refine lv_aload_n hx hb z_ld173 rfl (lv_at hl 2 rfl) ?_
  refine z_larg C0 hS hi (j := 1) (by decide) hL hl rfl z_ld174 z_ld175 z_ld176 z_ld177 z_ld178 ?_
  refine z_larg C0 hS hi (j := 2) (by decide) hL hl rfl z_ld179 z_ld180 z_ld181 z_ld182 z_ld183 ?_
  refine z_lcall (As := [.int (xs (i + 1)), .int (xs (i + 2))]) (rest := [.int r]) (o := 122) C0 hG hK hSt (hmo 190 (Or.inl (by decide))) rfl rfl (by decide) (by decide +kernel) ⟨by decide, by decide, by decide +kernel⟩ (hmet 190 _ _ _ (by decide) (Nat.le_of_ble_eq_true rfl) e2) (z_wd_good (pl := 1428) (by decide +kernel) rfl) rfl (Nat.le_of_ble_eq_true rfl) z_ld184 hl.1 (Nat.le_of_ble_eq_true rfl) hcl hR hS (fun H locs hR hS => ?_)
  refine lv_icmp_eq (tgt := 1071) hx hb z_ld185 (by decide) (fun _ => ?_) (fun q => absurd rfl q)
  exact k h2 H locs hI2 hR hS
set_option maxRecDepth 8000 in
set_option maxHeartbeats 1000000 in
theorem z_law_8 {p : Program} {l : Launch} {e : Env} {s : State} {m : MethodId} {below : List Frame} {meth : Method} {c : Code} {Q : State → Prop} {b L : Nat} {xs : Nat → Int32} {G : z_G} {cells slots : Nat} {H : Heap} {locs : List Loc} {ls : Array Slot} {h : z_H} {Inv : z_H → Prop} (C0 : lw_At p s m meth c b L xs) (hL : L ≤ 2560) (hG : G.1 = s.heap.size) (hK : z_Kn G s) (hSt : z_St G s s.heap) (hmo : ∀ i, z_idok i → z_mok i) (hmet : ∀ id a h r, id < 221 → z_cat a ≤ z_ml id → z_M id a h = some r → z_Met l G id a h r) (hop : z_opok Inv 8 191 2) (hcl : cells ≤ room_1.cells ∧ slots ≤ room_1.slots)
    {i : Nat} (hi : i + 5 ≤ L) (hl : lv_has ls 4 [(0, .ref b), (1, .ref (G.1 + 0)), (2, .ref (G.1 + 122)), (3, .int (nI i))]) (hI : Inv h) (hR : z_Rep G h H) (hS : va_S (fun q : Nat => s.heap.size ≤ q) s.heap H locs)
    (k : ∀ (h2 : z_H) (H : Heap) (locs : List Loc), Inv h2 → z_Rep G h2 H → va_S (fun q : Nat => s.heap.size ≤ q) s.heap H locs → W p l e room_1 s m #[Value.ref b] below meth c H locs cells slots Q (F0 m 1071 ls [])) : W p l e room_1 s m #[Value.ref b] below meth c H locs cells slots Q (F0 m 378 ls []) := by
  obtain ⟨hx, hb, -⟩ := id C0
  obtain ⟨r, h1, h2, e1, e2, hI2⟩ := hop h hI [xs (i + 1), xs (i + 2)] rfl
  refine lv_aload_n hx hb z_ld188 rfl (lv_at hl 1 rfl) ?_
  refine z_larg C0 hS hi (j := 1) (by decide) hL hl rfl z_ld189 z_ld190 z_ld191 z_ld192 z_ld193 ?_
  refine z_larg C0 hS hi (j := 2) (by decide) hL hl rfl z_ld194 z_ld195 z_ld196 z_ld197 z_ld198 ?_
  refine z_lcall (As := [.int (xs (i + 1)), .int (xs (i + 2))]) (rest := []) (o := 0) C0 hG hK hSt (hmo 8 (Or.inl (by decide))) rfl rfl (by decide) (by decide +kernel) ⟨by decide, by decide, by decide +kernel⟩ (hmet 8 _ _ _ (by decide) (Nat.le_of_ble_eq_true rfl) e1) (z_wd_good (pl := 894) (by decide +kernel) rfl) rfl (Nat.le_of_ble_eq_true rfl) z_ld199 hl.1 (Nat.le_of_ble_eq_true rfl) hcl hR hS (fun H locs hR hS => ?_)
  refine lv_aload_n hx hb z_ld200 rfl (lv_at hl 2 rfl) ?_
  refine z_larg C0 hS hi (j := 1) (by decide) hL hl rfl z_ld201 z_ld202 z_ld203 z_ld204 z_ld205 ?_
  refine z_larg C0 hS hi (j := 2) (by decide) hL hl rfl z_ld206 z_ld207 z_ld208 z_ld209 z_ld210 ?_
  refine z_lcall (As := [.int (xs (i + 1)), .int (xs (i + 2))]) (rest := [.int r]) (o := 122) C0 hG hK hSt (hmo 191 (Or.inl (by decide))) rfl rfl (by decide) (by decide +kernel) ⟨by decide, by decide, by decide +kernel⟩ (hmet 191 _ _ _ (by decide) (Nat.le_of_ble_eq_true rfl) e2) (z_wd_good (pl := 1456) (by decide +kernel) rfl) rfl (Nat.le_of_ble_eq_true rfl) z_ld211 hl.1 (Nat.le_of_ble_eq_true rfl) hcl hR hS (fun H locs hR hS => ?_)
  refine lv_icmp_eq (tgt := 1071) hx hb z_ld212 (by decide) (fun _ => ?_) (fun q => absurd rfl q)
  exact k h2 H locs hI2 hR hS
set_option maxRecDepth 8000 in
set_option maxHeartbeats 1000000 in
theorem z_law_9 {p : Program} {l : Launch} {e : Env} {s : State} {m : MethodId} {below : List Frame} {meth : Method} {c : Code} {Q : State → Prop} {b L : Nat} {xs : Nat → Int32} {G : z_G} {cells slots : Nat} {H : Heap} {locs : List Loc} {ls : Array Slot} {h : z_H} {Inv : z_H → Prop} (C0 : lw_At p s m meth c b L xs) (hL : L ≤ 2560) (hG : G.1 = s.heap.size) (hK : z_Kn G s) (hSt : z_St G s s.heap) (hmo : ∀ i, z_idok i → z_mok i) (hmet : ∀ id a h r, id < 221 → z_cat a ≤ z_ml id → z_M id a h = some r → z_Met l G id a h r) (hop : z_opok Inv 9 194 2) (hcl : cells ≤ room_1.cells ∧ slots ≤ room_1.slots)
    {i : Nat} (hi : i + 5 ≤ L) (hl : lv_has ls 4 [(0, .ref b), (1, .ref (G.1 + 0)), (2, .ref (G.1 + 122)), (3, .int (nI i))]) (hI : Inv h) (hR : z_Rep G h H) (hS : va_S (fun q : Nat => s.heap.size ≤ q) s.heap H locs)
    (k : ∀ (h2 : z_H) (H : Heap) (locs : List Loc), Inv h2 → z_Rep G h2 H → va_S (fun q : Nat => s.heap.size ≤ q) s.heap H locs → W p l e room_1 s m #[Value.ref b] below meth c H locs cells slots Q (F0 m 1071 ls [])) : W p l e room_1 s m #[Value.ref b] below meth c H locs cells slots Q (F0 m 411 ls []) := by
  obtain ⟨hx, hb, -⟩ := id C0
  obtain ⟨r, h1, h2, e1, e2, hI2⟩ := hop h hI [xs (i + 1), xs (i + 2)] rfl
  refine lv_aload_n hx hb z_ld215 rfl (lv_at hl 1 rfl) ?_
  refine z_larg C0 hS hi (j := 1) (by decide) hL hl rfl z_ld216 z_ld217 z_ld218 z_ld219 z_ld220 ?_
  refine z_larg C0 hS hi (j := 2) (by decide) hL hl rfl z_ld221 z_ld222 z_ld223 z_ld224 z_ld225 ?_
  refine z_lcall (As := [.int (xs (i + 1)), .int (xs (i + 2))]) (rest := []) (o := 0) C0 hG hK hSt (hmo 9 (Or.inl (by decide))) rfl rfl (by decide) (by decide +kernel) ⟨by decide, by decide, by decide +kernel⟩ (hmet 9 _ _ _ (by decide) (Nat.le_of_ble_eq_true rfl) e1) (z_wd_good (pl := 898) (by decide +kernel) rfl) rfl (Nat.le_of_ble_eq_true rfl) z_ld226 hl.1 (Nat.le_of_ble_eq_true rfl) hcl hR hS (fun H locs hR hS => ?_)
  refine lv_aload_n hx hb z_ld227 rfl (lv_at hl 2 rfl) ?_
  refine z_larg C0 hS hi (j := 1) (by decide) hL hl rfl z_ld228 z_ld229 z_ld230 z_ld231 z_ld232 ?_
  refine z_larg C0 hS hi (j := 2) (by decide) hL hl rfl z_ld233 z_ld234 z_ld235 z_ld236 z_ld237 ?_
  refine z_lcall (As := [.int (xs (i + 1)), .int (xs (i + 2))]) (rest := [.int r]) (o := 122) C0 hG hK hSt (hmo 194 (Or.inl (by decide))) rfl rfl (by decide) (by decide +kernel) ⟨by decide, by decide, by decide +kernel⟩ (hmet 194 _ _ _ (by decide) (Nat.le_of_ble_eq_true rfl) e2) (z_wd_good (pl := 1460) (by decide +kernel) rfl) rfl (Nat.le_of_ble_eq_true rfl) z_ld238 hl.1 (Nat.le_of_ble_eq_true rfl) hcl hR hS (fun H locs hR hS => ?_)
  refine lv_icmp_eq (tgt := 1071) hx hb z_ld239 (by decide) (fun _ => ?_) (fun q => absurd rfl q)
  exact k h2 H locs hI2 hR hS
set_option maxRecDepth 8000 in
set_option maxHeartbeats 1000000 in
theorem z_law_10 {p : Program} {l : Launch} {e : Env} {s : State} {m : MethodId} {below : List Frame} {meth : Method} {c : Code} {Q : State → Prop} {b L : Nat} {xs : Nat → Int32} {G : z_G} {cells slots : Nat} {H : Heap} {locs : List Loc} {ls : Array Slot} {h : z_H} {Inv : z_H → Prop} (C0 : lw_At p s m meth c b L xs) (hL : L ≤ 2560) (hG : G.1 = s.heap.size) (hK : z_Kn G s) (hSt : z_St G s s.heap) (hmo : ∀ i, z_idok i → z_mok i) (hmet : ∀ id a h r, id < 221 → z_cat a ≤ z_ml id → z_M id a h = some r → z_Met l G id a h r) (hop : z_opok Inv 10 195 2) (hcl : cells ≤ room_1.cells ∧ slots ≤ room_1.slots)
    {i : Nat} (hi : i + 5 ≤ L) (hl : lv_has ls 4 [(0, .ref b), (1, .ref (G.1 + 0)), (2, .ref (G.1 + 122)), (3, .int (nI i))]) (hI : Inv h) (hR : z_Rep G h H) (hS : va_S (fun q : Nat => s.heap.size ≤ q) s.heap H locs)
    (k : ∀ (h2 : z_H) (H : Heap) (locs : List Loc), Inv h2 → z_Rep G h2 H → va_S (fun q : Nat => s.heap.size ≤ q) s.heap H locs → W p l e room_1 s m #[Value.ref b] below meth c H locs cells slots Q (F0 m 1071 ls [])) : W p l e room_1 s m #[Value.ref b] below meth c H locs cells slots Q (F0 m 444 ls []) := by
  obtain ⟨hx, hb, -⟩ := id C0
  obtain ⟨r, h1, h2, e1, e2, hI2⟩ := hop h hI [xs (i + 1), xs (i + 2)] rfl
  refine lv_aload_n hx hb z_ld242 rfl (lv_at hl 1 rfl) ?_
  refine z_larg C0 hS hi (j := 1) (by decide) hL hl rfl z_ld243 z_ld244 z_ld245 z_ld246 z_ld247 ?_
  refine z_larg C0 hS hi (j := 2) (by decide) hL hl rfl z_ld248 z_ld249 z_ld250 z_ld251 z_ld252 ?_
  refine z_lcall (As := [.int (xs (i + 1)), .int (xs (i + 2))]) (rest := []) (o := 0) C0 hG hK hSt (hmo 10 (Or.inl (by decide))) rfl rfl (by decide) (by decide +kernel) ⟨by decide, by decide, by decide +kernel⟩ (hmet 10 _ _ _ (by decide) (Nat.le_of_ble_eq_true rfl) e1) (z_wd_good (pl := 921) (by decide +kernel) rfl) rfl (Nat.le_of_ble_eq_true rfl) z_ld253 hl.1 (Nat.le_of_ble_eq_true rfl) hcl hR hS (fun H locs hR hS => ?_)
  refine lv_aload_n hx hb z_ld254 rfl (lv_at hl 2 rfl) ?_
  refine z_larg C0 hS hi (j := 1) (by decide) hL hl rfl z_ld255 z_ld256 z_ld257 z_ld258 z_ld259 ?_
  refine z_larg C0 hS hi (j := 2) (by decide) hL hl rfl z_ld260 z_ld261 z_ld262 z_ld263 z_ld264 ?_
  refine z_lcall (As := [.int (xs (i + 1)), .int (xs (i + 2))]) (rest := [.int r]) (o := 122) C0 hG hK hSt (hmo 195 (Or.inl (by decide))) rfl rfl (by decide) (by decide +kernel) ⟨by decide, by decide, by decide +kernel⟩ (hmet 195 _ _ _ (by decide) (Nat.le_of_ble_eq_true rfl) e2) (z_wd_good (pl := 1477) (by decide +kernel) rfl) rfl (Nat.le_of_ble_eq_true rfl) z_ld265 hl.1 (Nat.le_of_ble_eq_true rfl) hcl hR hS (fun H locs hR hS => ?_)
  refine lv_icmp_eq (tgt := 1071) hx hb z_ld266 (by decide) (fun _ => ?_) (fun q => absurd rfl q)
  exact k h2 H locs hI2 hR hS
set_option maxRecDepth 8000 in
set_option maxHeartbeats 1000000 in
theorem z_law_11 {p : Program} {l : Launch} {e : Env} {s : State} {m : MethodId} {below : List Frame} {meth : Method} {c : Code} {Q : State → Prop} {b L : Nat} {xs : Nat → Int32} {G : z_G} {cells slots : Nat} {H : Heap} {locs : List Loc} {ls : Array Slot} {h : z_H} {Inv : z_H → Prop} (C0 : lw_At p s m meth c b L xs) (hL : L ≤ 2560) (hG : G.1 = s.heap.size) (hK : z_Kn G s) (hSt : z_St G s s.heap) (hmo : ∀ i, z_idok i → z_mok i) (hmet : ∀ id a h r, id < 221 → z_cat a ≤ z_ml id → z_M id a h = some r → z_Met l G id a h r) (hop : z_opok Inv 11 196 2) (hcl : cells ≤ room_1.cells ∧ slots ≤ room_1.slots)
    {i : Nat} (hi : i + 5 ≤ L) (hl : lv_has ls 4 [(0, .ref b), (1, .ref (G.1 + 0)), (2, .ref (G.1 + 122)), (3, .int (nI i))]) (hI : Inv h) (hR : z_Rep G h H) (hS : va_S (fun q : Nat => s.heap.size ≤ q) s.heap H locs)
    (k : ∀ (h2 : z_H) (H : Heap) (locs : List Loc), Inv h2 → z_Rep G h2 H → va_S (fun q : Nat => s.heap.size ≤ q) s.heap H locs → W p l e room_1 s m #[Value.ref b] below meth c H locs cells slots Q (F0 m 1071 ls [])) : W p l e room_1 s m #[Value.ref b] below meth c H locs cells slots Q (F0 m 477 ls []) := by
  obtain ⟨hx, hb, -⟩ := id C0
  obtain ⟨r, h1, h2, e1, e2, hI2⟩ := hop h hI [xs (i + 1), xs (i + 2)] rfl
  refine lv_aload_n hx hb z_ld269 rfl (lv_at hl 1 rfl) ?_
  refine z_larg C0 hS hi (j := 1) (by decide) hL hl rfl z_ld270 z_ld271 z_ld272 z_ld273 z_ld274 ?_
  refine z_larg C0 hS hi (j := 2) (by decide) hL hl rfl z_ld275 z_ld276 z_ld277 z_ld278 z_ld279 ?_
  refine z_lcall (As := [.int (xs (i + 1)), .int (xs (i + 2))]) (rest := []) (o := 0) C0 hG hK hSt (hmo 11 (Or.inl (by decide))) rfl rfl (by decide) (by decide +kernel) ⟨by decide, by decide, by decide +kernel⟩ (hmet 11 _ _ _ (by decide) (Nat.le_of_ble_eq_true rfl) e1) (z_wd_good (pl := 925) (by decide +kernel) rfl) rfl (Nat.le_of_ble_eq_true rfl) z_ld280 hl.1 (Nat.le_of_ble_eq_true rfl) hcl hR hS (fun H locs hR hS => ?_)
  refine lv_aload_n hx hb z_ld281 rfl (lv_at hl 2 rfl) ?_
  refine z_larg C0 hS hi (j := 1) (by decide) hL hl rfl z_ld282 z_ld283 z_ld284 z_ld285 z_ld286 ?_
  refine z_larg C0 hS hi (j := 2) (by decide) hL hl rfl z_ld287 z_ld288 z_ld289 z_ld290 z_ld291 ?_
  refine z_lcall (As := [.int (xs (i + 1)), .int (xs (i + 2))]) (rest := [.int r]) (o := 122) C0 hG hK hSt (hmo 196 (Or.inl (by decide))) rfl rfl (by decide) (by decide +kernel) ⟨by decide, by decide, by decide +kernel⟩ (hmet 196 _ _ _ (by decide) (Nat.le_of_ble_eq_true rfl) e2) (z_wd_good (pl := 1481) (by decide +kernel) rfl) rfl (Nat.le_of_ble_eq_true rfl) z_ld292 hl.1 (Nat.le_of_ble_eq_true rfl) hcl hR hS (fun H locs hR hS => ?_)
  refine lv_icmp_eq (tgt := 1071) hx hb z_ld293 (by decide) (fun _ => ?_) (fun q => absurd rfl q)
  exact k h2 H locs hI2 hR hS
set_option maxRecDepth 8000 in
set_option maxHeartbeats 1000000 in
theorem z_law_12 {p : Program} {l : Launch} {e : Env} {s : State} {m : MethodId} {below : List Frame} {meth : Method} {c : Code} {Q : State → Prop} {b L : Nat} {xs : Nat → Int32} {G : z_G} {cells slots : Nat} {H : Heap} {locs : List Loc} {ls : Array Slot} {h : z_H} {Inv : z_H → Prop} (C0 : lw_At p s m meth c b L xs) (hL : L ≤ 2560) (hG : G.1 = s.heap.size) (hK : z_Kn G s) (hSt : z_St G s s.heap) (hmo : ∀ i, z_idok i → z_mok i) (hmet : ∀ id a h r, id < 221 → z_cat a ≤ z_ml id → z_M id a h = some r → z_Met l G id a h r) (hop : z_opok Inv 12 197 1) (hcl : cells ≤ room_1.cells ∧ slots ≤ room_1.slots)
    {i : Nat} (hi : i + 5 ≤ L) (hl : lv_has ls 4 [(0, .ref b), (1, .ref (G.1 + 0)), (2, .ref (G.1 + 122)), (3, .int (nI i))]) (hI : Inv h) (hR : z_Rep G h H) (hS : va_S (fun q : Nat => s.heap.size ≤ q) s.heap H locs)
    (k : ∀ (h2 : z_H) (H : Heap) (locs : List Loc), Inv h2 → z_Rep G h2 H → va_S (fun q : Nat => s.heap.size ≤ q) s.heap H locs → W p l e room_1 s m #[Value.ref b] below meth c H locs cells slots Q (F0 m 1071 ls [])) : W p l e room_1 s m #[Value.ref b] below meth c H locs cells slots Q (F0 m 510 ls []) := by
  obtain ⟨hx, hb, -⟩ := id C0
  obtain ⟨r, h1, h2, e1, e2, hI2⟩ := hop h hI [xs (i + 1)] rfl
  refine lv_aload_n hx hb z_ld296 rfl (lv_at hl 1 rfl) ?_
  refine z_larg C0 hS hi (j := 1) (by decide) hL hl rfl z_ld297 z_ld298 z_ld299 z_ld300 z_ld301 ?_
  refine z_lcall (As := [.int (xs (i + 1))]) (rest := []) (o := 0) C0 hG hK hSt (hmo 12 (Or.inl (by decide))) rfl rfl (by decide) (by decide +kernel) ⟨by decide, by decide, by decide +kernel⟩ (hmet 12 _ _ _ (by decide) (Nat.le_of_ble_eq_true rfl) e1) (z_wd_good (pl := 929) (by decide +kernel) rfl) rfl (Nat.le_of_ble_eq_true rfl) z_ld302 hl.1 (Nat.le_of_ble_eq_true rfl) hcl hR hS (fun H locs hR hS => ?_)
  refine lv_aload_n hx hb z_ld303 rfl (lv_at hl 2 rfl) ?_
  refine z_larg C0 hS hi (j := 1) (by decide) hL hl rfl z_ld304 z_ld305 z_ld306 z_ld307 z_ld308 ?_
  refine z_lcall (As := [.int (xs (i + 1))]) (rest := [.int r]) (o := 122) C0 hG hK hSt (hmo 197 (Or.inl (by decide))) rfl rfl (by decide) (by decide +kernel) ⟨by decide, by decide, by decide +kernel⟩ (hmet 197 _ _ _ (by decide) (Nat.le_of_ble_eq_true rfl) e2) (z_wd_good (pl := 1485) (by decide +kernel) rfl) rfl (Nat.le_of_ble_eq_true rfl) z_ld309 hl.1 (Nat.le_of_ble_eq_true rfl) hcl hR hS (fun H locs hR hS => ?_)
  refine lv_icmp_eq (tgt := 1071) hx hb z_ld310 (by decide) (fun _ => ?_) (fun q => absurd rfl q)
  exact k h2 H locs hI2 hR hS
set_option maxRecDepth 8000 in
set_option maxHeartbeats 1000000 in
theorem z_law_13 {p : Program} {l : Launch} {e : Env} {s : State} {m : MethodId} {below : List Frame} {meth : Method} {c : Code} {Q : State → Prop} {b L : Nat} {xs : Nat → Int32} {G : z_G} {cells slots : Nat} {H : Heap} {locs : List Loc} {ls : Array Slot} {h : z_H} {Inv : z_H → Prop} (C0 : lw_At p s m meth c b L xs) (hL : L ≤ 2560) (hG : G.1 = s.heap.size) (hK : z_Kn G s) (hSt : z_St G s s.heap) (hmo : ∀ i, z_idok i → z_mok i) (hmet : ∀ id a h r, id < 221 → z_cat a ≤ z_ml id → z_M id a h = some r → z_Met l G id a h r) (hop : z_opok Inv 13 198 4) (hcl : cells ≤ room_1.cells ∧ slots ≤ room_1.slots)
    {i : Nat} (hi : i + 5 ≤ L) (hl : lv_has ls 4 [(0, .ref b), (1, .ref (G.1 + 0)), (2, .ref (G.1 + 122)), (3, .int (nI i))]) (hI : Inv h) (hR : z_Rep G h H) (hS : va_S (fun q : Nat => s.heap.size ≤ q) s.heap H locs)
    (k : ∀ (h2 : z_H) (H : Heap) (locs : List Loc), Inv h2 → z_Rep G h2 H → va_S (fun q : Nat => s.heap.size ≤ q) s.heap H locs → W p l e room_1 s m #[Value.ref b] below meth c H locs cells slots Q (F0 m 1071 ls [])) : W p l e room_1 s m #[Value.ref b] below meth c H locs cells slots Q (F0 m 533 ls []) := by
  obtain ⟨hx, hb, -⟩ := id C0
  obtain ⟨r, h1, h2, e1, e2, hI2⟩ := hop h hI [xs (i + 1), xs (i + 2), xs (i + 3), xs (i + 4)] rfl
  refine lv_aload_n hx hb z_ld313 rfl (lv_at hl 1 rfl) ?_
  refine z_larg C0 hS hi (j := 1) (by decide) hL hl rfl z_ld314 z_ld315 z_ld316 z_ld317 z_ld318 ?_
  refine z_larg C0 hS hi (j := 2) (by decide) hL hl rfl z_ld319 z_ld320 z_ld321 z_ld322 z_ld323 ?_
  refine z_larg C0 hS hi (j := 3) (by decide) hL hl rfl z_ld324 z_ld325 z_ld326 z_ld327 z_ld328 ?_
  refine z_larg C0 hS hi (j := 4) (by decide) hL hl rfl z_ld329 z_ld330 z_ld331 z_ld332 z_ld333 ?_
  refine z_lcall (As := [.int (xs (i + 1)), .int (xs (i + 2)), .int (xs (i + 3)), .int (xs (i + 4))]) (rest := []) (o := 0) C0 hG hK hSt (hmo 13 (Or.inl (by decide))) rfl rfl (by decide) (by decide +kernel) ⟨by decide, by decide, by decide +kernel⟩ (hmet 13 _ _ _ (by decide) (Nat.le_of_ble_eq_true rfl) e1) (z_wd_good (pl := 933) (by decide +kernel) rfl) rfl (Nat.le_of_ble_eq_true rfl) z_ld334 hl.1 (Nat.le_of_ble_eq_true rfl) hcl hR hS (fun H locs hR hS => ?_)
  refine lv_aload_n hx hb z_ld335 rfl (lv_at hl 2 rfl) ?_
  refine z_larg C0 hS hi (j := 1) (by decide) hL hl rfl z_ld336 z_ld337 z_ld338 z_ld339 z_ld340 ?_
  refine z_larg C0 hS hi (j := 2) (by decide) hL hl rfl z_ld341 z_ld342 z_ld343 z_ld344 z_ld345 ?_
  refine z_larg C0 hS hi (j := 3) (by decide) hL hl rfl z_ld346 z_ld347 z_ld348 z_ld349 z_ld350 ?_
  refine z_larg C0 hS hi (j := 4) (by decide) hL hl rfl z_ld351 z_ld352 z_ld353 z_ld354 z_ld355 ?_
  refine z_lcall (As := [.int (xs (i + 1)), .int (xs (i + 2)), .int (xs (i + 3)), .int (xs (i + 4))]) (rest := [.int r]) (o := 122) C0 hG hK hSt (hmo 198 (Or.inl (by decide))) rfl rfl (by decide) (by decide +kernel) ⟨by decide, by decide, by decide +kernel⟩ (hmet 198 _ _ _ (by decide) (Nat.le_of_ble_eq_true rfl) e2) (z_wd_good (pl := 1489) (by decide +kernel) rfl) rfl (Nat.le_of_ble_eq_true rfl) z_ld356 hl.1 (Nat.le_of_ble_eq_true rfl) hcl hR hS (fun H locs hR hS => ?_)
  refine lv_icmp_eq (tgt := 1071) hx hb z_ld357 (by decide) (fun _ => ?_) (fun q => absurd rfl q)
  exact k h2 H locs hI2 hR hS
set_option maxRecDepth 8000 in
set_option maxHeartbeats 1000000 in
theorem z_law_14 {p : Program} {l : Launch} {e : Env} {s : State} {m : MethodId} {below : List Frame} {meth : Method} {c : Code} {Q : State → Prop} {b L : Nat} {xs : Nat → Int32} {G : z_G} {cells slots : Nat} {H : Heap} {locs : List Loc} {ls : Array Slot} {h : z_H} {Inv : z_H → Prop} (C0 : lw_At p s m meth c b L xs) (hL : L ≤ 2560) (hG : G.1 = s.heap.size) (hK : z_Kn G s) (hSt : z_St G s s.heap) (hmo : ∀ i, z_idok i → z_mok i) (hmet : ∀ id a h r, id < 221 → z_cat a ≤ z_ml id → z_M id a h = some r → z_Met l G id a h r) (hop : z_opok Inv 14 199 4) (hcl : cells ≤ room_1.cells ∧ slots ≤ room_1.slots)
    {i : Nat} (hi : i + 5 ≤ L) (hl : lv_has ls 4 [(0, .ref b), (1, .ref (G.1 + 0)), (2, .ref (G.1 + 122)), (3, .int (nI i))]) (hI : Inv h) (hR : z_Rep G h H) (hS : va_S (fun q : Nat => s.heap.size ≤ q) s.heap H locs)
    (k : ∀ (h2 : z_H) (H : Heap) (locs : List Loc), Inv h2 → z_Rep G h2 H → va_S (fun q : Nat => s.heap.size ≤ q) s.heap H locs → W p l e room_1 s m #[Value.ref b] below meth c H locs cells slots Q (F0 m 1071 ls [])) : W p l e room_1 s m #[Value.ref b] below meth c H locs cells slots Q (F0 m 586 ls []) := by
  obtain ⟨hx, hb, -⟩ := id C0
  obtain ⟨r, h1, h2, e1, e2, hI2⟩ := hop h hI [xs (i + 1), xs (i + 2), xs (i + 3), xs (i + 4)] rfl
  refine lv_aload_n hx hb z_ld360 rfl (lv_at hl 1 rfl) ?_
  refine z_larg C0 hS hi (j := 1) (by decide) hL hl rfl z_ld361 z_ld362 z_ld363 z_ld364 z_ld365 ?_
  refine z_larg C0 hS hi (j := 2) (by decide) hL hl rfl z_ld366 z_ld367 z_ld368 z_ld369 z_ld370 ?_
  refine z_larg C0 hS hi (j := 3) (by decide) hL hl rfl z_ld371 z_ld372 z_ld373 z_ld374 z_ld375 ?_
  refine z_larg C0 hS hi (j := 4) (by decide) hL hl rfl z_ld376 z_ld377 z_ld378 z_ld379 z_ld380 ?_
  refine z_lcall (As := [.int (xs (i + 1)), .int (xs (i + 2)), .int (xs (i + 3)), .int (xs (i + 4))]) (rest := []) (o := 0) C0 hG hK hSt (hmo 14 (Or.inl (by decide))) rfl rfl (by decide) (by decide +kernel) ⟨by decide, by decide, by decide +kernel⟩ (hmet 14 _ _ _ (by decide) (Nat.le_of_ble_eq_true rfl) e1) (z_wd_good (pl := 941) (by decide +kernel) rfl) rfl (Nat.le_of_ble_eq_true rfl) z_ld381 hl.1 (Nat.le_of_ble_eq_true rfl) hcl hR hS (fun H locs hR hS => ?_)
  refine lv_aload_n hx hb z_ld382 rfl (lv_at hl 2 rfl) ?_
  refine z_larg C0 hS hi (j := 1) (by decide) hL hl rfl z_ld383 z_ld384 z_ld385 z_ld386 z_ld387 ?_
  refine z_larg C0 hS hi (j := 2) (by decide) hL hl rfl z_ld388 z_ld389 z_ld390 z_ld391 z_ld392 ?_
  refine z_larg C0 hS hi (j := 3) (by decide) hL hl rfl z_ld393 z_ld394 z_ld395 z_ld396 z_ld397 ?_
  refine z_larg C0 hS hi (j := 4) (by decide) hL hl rfl z_ld398 z_ld399 z_ld400 z_ld401 z_ld402 ?_
  refine z_lcall (As := [.int (xs (i + 1)), .int (xs (i + 2)), .int (xs (i + 3)), .int (xs (i + 4))]) (rest := [.int r]) (o := 122) C0 hG hK hSt (hmo 199 (Or.inl (by decide))) rfl rfl (by decide) (by decide +kernel) ⟨by decide, by decide, by decide +kernel⟩ (hmet 199 _ _ _ (by decide) (Nat.le_of_ble_eq_true rfl) e2) (z_wd_good (pl := 1494) (by decide +kernel) rfl) rfl (Nat.le_of_ble_eq_true rfl) z_ld403 hl.1 (Nat.le_of_ble_eq_true rfl) hcl hR hS (fun H locs hR hS => ?_)
  refine lv_icmp_eq (tgt := 1071) hx hb z_ld404 (by decide) (fun _ => ?_) (fun q => absurd rfl q)
  exact k h2 H locs hI2 hR hS
set_option maxRecDepth 8000 in
set_option maxHeartbeats 1000000 in
theorem z_law_15 {p : Program} {l : Launch} {e : Env} {s : State} {m : MethodId} {below : List Frame} {meth : Method} {c : Code} {Q : State → Prop} {b L : Nat} {xs : Nat → Int32} {G : z_G} {cells slots : Nat} {H : Heap} {locs : List Loc} {ls : Array Slot} {h : z_H} {Inv : z_H → Prop} (C0 : lw_At p s m meth c b L xs) (hL : L ≤ 2560) (hG : G.1 = s.heap.size) (hK : z_Kn G s) (hSt : z_St G s s.heap) (hmo : ∀ i, z_idok i → z_mok i) (hmet : ∀ id a h r, id < 221 → z_cat a ≤ z_ml id → z_M id a h = some r → z_Met l G id a h r) (hop : z_opok Inv 15 200 3) (hcl : cells ≤ room_1.cells ∧ slots ≤ room_1.slots)
    {i : Nat} (hi : i + 5 ≤ L) (hl : lv_has ls 4 [(0, .ref b), (1, .ref (G.1 + 0)), (2, .ref (G.1 + 122)), (3, .int (nI i))]) (hI : Inv h) (hR : z_Rep G h H) (hS : va_S (fun q : Nat => s.heap.size ≤ q) s.heap H locs)
    (k : ∀ (h2 : z_H) (H : Heap) (locs : List Loc), Inv h2 → z_Rep G h2 H → va_S (fun q : Nat => s.heap.size ≤ q) s.heap H locs → W p l e room_1 s m #[Value.ref b] below meth c H locs cells slots Q (F0 m 1071 ls [])) : W p l e room_1 s m #[Value.ref b] below meth c H locs cells slots Q (F0 m 639 ls []) := by
  obtain ⟨hx, hb, -⟩ := id C0
  obtain ⟨r, h1, h2, e1, e2, hI2⟩ := hop h hI [xs (i + 1), xs (i + 2), xs (i + 3)] rfl
  refine lv_aload_n hx hb z_ld407 rfl (lv_at hl 1 rfl) ?_
  refine z_larg C0 hS hi (j := 1) (by decide) hL hl rfl z_ld408 z_ld409 z_ld410 z_ld411 z_ld412 ?_
  refine z_larg C0 hS hi (j := 2) (by decide) hL hl rfl z_ld413 z_ld414 z_ld415 z_ld416 z_ld417 ?_
  refine z_larg C0 hS hi (j := 3) (by decide) hL hl rfl z_ld418 z_ld419 z_ld420 z_ld421 z_ld422 ?_
  refine z_lcall (As := [.int (xs (i + 1)), .int (xs (i + 2)), .int (xs (i + 3))]) (rest := []) (o := 0) C0 hG hK hSt (hmo 15 (Or.inl (by decide))) rfl rfl (by decide) (by decide +kernel) ⟨by decide, by decide, by decide +kernel⟩ (hmet 15 _ _ _ (by decide) (Nat.le_of_ble_eq_true rfl) e1) (z_wd_good (pl := 954) (by decide +kernel) rfl) rfl (Nat.le_of_ble_eq_true rfl) z_ld423 hl.1 (Nat.le_of_ble_eq_true rfl) hcl hR hS (fun H locs hR hS => ?_)
  refine lv_aload_n hx hb z_ld424 rfl (lv_at hl 2 rfl) ?_
  refine z_larg C0 hS hi (j := 1) (by decide) hL hl rfl z_ld425 z_ld426 z_ld427 z_ld428 z_ld429 ?_
  refine z_larg C0 hS hi (j := 2) (by decide) hL hl rfl z_ld430 z_ld431 z_ld432 z_ld433 z_ld434 ?_
  refine z_larg C0 hS hi (j := 3) (by decide) hL hl rfl z_ld435 z_ld436 z_ld437 z_ld438 z_ld439 ?_
  refine z_lcall (As := [.int (xs (i + 1)), .int (xs (i + 2)), .int (xs (i + 3))]) (rest := [.int r]) (o := 122) C0 hG hK hSt (hmo 200 (Or.inl (by decide))) rfl rfl (by decide) (by decide +kernel) ⟨by decide, by decide, by decide +kernel⟩ (hmet 200 _ _ _ (by decide) (Nat.le_of_ble_eq_true rfl) e2) (z_wd_good (pl := 1498) (by decide +kernel) rfl) rfl (Nat.le_of_ble_eq_true rfl) z_ld440 hl.1 (Nat.le_of_ble_eq_true rfl) hcl hR hS (fun H locs hR hS => ?_)
  refine lv_icmp_eq (tgt := 1071) hx hb z_ld441 (by decide) (fun _ => ?_) (fun q => absurd rfl q)
  exact k h2 H locs hI2 hR hS
set_option maxRecDepth 8000 in
set_option maxHeartbeats 1000000 in
theorem z_law_16 {p : Program} {l : Launch} {e : Env} {s : State} {m : MethodId} {below : List Frame} {meth : Method} {c : Code} {Q : State → Prop} {b L : Nat} {xs : Nat → Int32} {G : z_G} {cells slots : Nat} {H : Heap} {locs : List Loc} {ls : Array Slot} {h : z_H} {Inv : z_H → Prop} (C0 : lw_At p s m meth c b L xs) (hL : L ≤ 2560) (hG : G.1 = s.heap.size) (hK : z_Kn G s) (hSt : z_St G s s.heap) (hmo : ∀ i, z_idok i → z_mok i) (hmet : ∀ id a h r, id < 221 → z_cat a ≤ z_ml id → z_M id a h = some r → z_Met l G id a h r) (hop : z_opok Inv 16 201 3) (hcl : cells ≤ room_1.cells ∧ slots ≤ room_1.slots)
    {i : Nat} (hi : i + 5 ≤ L) (hl : lv_has ls 4 [(0, .ref b), (1, .ref (G.1 + 0)), (2, .ref (G.1 + 122)), (3, .int (nI i))]) (hI : Inv h) (hR : z_Rep G h H) (hS : va_S (fun q : Nat => s.heap.size ≤ q) s.heap H locs)
    (k : ∀ (h2 : z_H) (H : Heap) (locs : List Loc), Inv h2 → z_Rep G h2 H → va_S (fun q : Nat => s.heap.size ≤ q) s.heap H locs → W p l e room_1 s m #[Value.ref b] below meth c H locs cells slots Q (F0 m 1071 ls [])) : W p l e room_1 s m #[Value.ref b] below meth c H locs cells slots Q (F0 m 682 ls []) := by
  obtain ⟨hx, hb, -⟩ := id C0
  obtain ⟨r, h1, h2, e1, e2, hI2⟩ := hop h hI [xs (i + 1), xs (i + 2), xs (i + 3)] rfl
  refine lv_aload_n hx hb z_ld444 rfl (lv_at hl 1 rfl) ?_
  refine z_larg C0 hS hi (j := 1) (by decide) hL hl rfl z_ld445 z_ld446 z_ld447 z_ld448 z_ld449 ?_
  refine z_larg C0 hS hi (j := 2) (by decide) hL hl rfl z_ld450 z_ld451 z_ld452 z_ld453 z_ld454 ?_
  refine z_larg C0 hS hi (j := 3) (by decide) hL hl rfl z_ld455 z_ld456 z_ld457 z_ld458 z_ld459 ?_
  refine z_lcall (As := [.int (xs (i + 1)), .int (xs (i + 2)), .int (xs (i + 3))]) (rest := []) (o := 0) C0 hG hK hSt (hmo 16 (Or.inl (by decide))) rfl rfl (by decide) (by decide +kernel) ⟨by decide, by decide, by decide +kernel⟩ (hmet 16 _ _ _ (by decide) (Nat.le_of_ble_eq_true rfl) e1) (z_wd_good (pl := 962) (by decide +kernel) rfl) rfl (Nat.le_of_ble_eq_true rfl) z_ld460 hl.1 (Nat.le_of_ble_eq_true rfl) hcl hR hS (fun H locs hR hS => ?_)
  refine lv_aload_n hx hb z_ld461 rfl (lv_at hl 2 rfl) ?_
  refine z_larg C0 hS hi (j := 1) (by decide) hL hl rfl z_ld462 z_ld463 z_ld464 z_ld465 z_ld466 ?_
  refine z_larg C0 hS hi (j := 2) (by decide) hL hl rfl z_ld467 z_ld468 z_ld469 z_ld470 z_ld471 ?_
  refine z_larg C0 hS hi (j := 3) (by decide) hL hl rfl z_ld472 z_ld473 z_ld474 z_ld475 z_ld476 ?_
  refine z_lcall (As := [.int (xs (i + 1)), .int (xs (i + 2)), .int (xs (i + 3))]) (rest := [.int r]) (o := 122) C0 hG hK hSt (hmo 201 (Or.inl (by decide))) rfl rfl (by decide) (by decide +kernel) ⟨by decide, by decide, by decide +kernel⟩ (hmet 201 _ _ _ (by decide) (Nat.le_of_ble_eq_true rfl) e2) (z_wd_good (pl := 1503) (by decide +kernel) rfl) rfl (Nat.le_of_ble_eq_true rfl) z_ld477 hl.1 (Nat.le_of_ble_eq_true rfl) hcl hR hS (fun H locs hR hS => ?_)
  refine lv_icmp_eq (tgt := 1071) hx hb z_ld478 (by decide) (fun _ => ?_) (fun q => absurd rfl q)
  exact k h2 H locs hI2 hR hS
set_option maxRecDepth 8000 in
set_option maxHeartbeats 1000000 in
theorem z_law_17 {p : Program} {l : Launch} {e : Env} {s : State} {m : MethodId} {below : List Frame} {meth : Method} {c : Code} {Q : State → Prop} {b L : Nat} {xs : Nat → Int32} {G : z_G} {cells slots : Nat} {H : Heap} {locs : List Loc} {ls : Array Slot} {h : z_H} {Inv : z_H → Prop} (C0 : lw_At p s m meth c b L xs) (hL : L ≤ 2560) (hG : G.1 = s.heap.size) (hK : z_Kn G s) (hSt : z_St G s s.heap) (hmo : ∀ i, z_idok i → z_mok i) (hmet : ∀ id a h r, id < 221 → z_cat a ≤ z_ml id → z_M id a h = some r → z_Met l G id a h r) (hop : z_opok Inv 17 203 0) (hcl : cells ≤ room_1.cells ∧ slots ≤ room_1.slots)
    {i : Nat} (hi : i + 5 ≤ L) (hl : lv_has ls 4 [(0, .ref b), (1, .ref (G.1 + 0)), (2, .ref (G.1 + 122)), (3, .int (nI i))]) (hI : Inv h) (hR : z_Rep G h H) (hS : va_S (fun q : Nat => s.heap.size ≤ q) s.heap H locs)
    (k : ∀ (h2 : z_H) (H : Heap) (locs : List Loc), Inv h2 → z_Rep G h2 H → va_S (fun q : Nat => s.heap.size ≤ q) s.heap H locs → W p l e room_1 s m #[Value.ref b] below meth c H locs cells slots Q (F0 m 1071 ls [])) : W p l e room_1 s m #[Value.ref b] below meth c H locs cells slots Q (F0 m 725 ls []) := by
  obtain ⟨hx, hb, -⟩ := id C0
  obtain ⟨r, h1, h2, e1, e2, hI2⟩ := hop h hI [] rfl
  refine lv_aload_n hx hb z_ld481 rfl (lv_at hl 1 rfl) ?_
  refine z_lcall (As := []) (rest := []) (o := 0) C0 hG hK hSt (hmo 17 (Or.inl (by decide))) rfl rfl (by decide) (by decide +kernel) ⟨by decide, by decide, by decide +kernel⟩ (hmet 17 _ _ _ (by decide) (Nat.le_of_ble_eq_true rfl) e1) (z_wd_good (pl := 967) (by decide +kernel) rfl) rfl (Nat.le_of_ble_eq_true rfl) z_ld482 hl.1 (Nat.le_of_ble_eq_true rfl) hcl hR hS (fun H locs hR hS => ?_)
  refine lv_aload_n hx hb z_ld483 rfl (lv_at hl 2 rfl) ?_
  refine z_lcall (As := []) (rest := [.int r]) (o := 122) C0 hG hK hSt (hmo 203 (Or.inl (by decide))) rfl rfl (by decide) (by decide +kernel) ⟨by decide, by decide, by decide +kernel⟩ (hmet 203 _ _ _ (by decide) (Nat.le_of_ble_eq_true rfl) e2) (z_wd_good (pl := 1507) (by decide +kernel) rfl) rfl (Nat.le_of_ble_eq_true rfl) z_ld484 hl.1 (Nat.le_of_ble_eq_true rfl) hcl hR hS (fun H locs hR hS => ?_)
  refine lv_icmp_eq (tgt := 1071) hx hb z_ld485 (by decide) (fun _ => ?_) (fun q => absurd rfl q)
  exact k h2 H locs hI2 hR hS
set_option maxRecDepth 8000 in
set_option maxHeartbeats 1000000 in
theorem z_law_18 {p : Program} {l : Launch} {e : Env} {s : State} {m : MethodId} {below : List Frame} {meth : Method} {c : Code} {Q : State → Prop} {b L : Nat} {xs : Nat → Int32} {G : z_G} {cells slots : Nat} {H : Heap} {locs : List Loc} {ls : Array Slot} {h : z_H} {Inv : z_H → Prop} (C0 : lw_At p s m meth c b L xs) (hL : L ≤ 2560) (hG : G.1 = s.heap.size) (hK : z_Kn G s) (hSt : z_St G s s.heap) (hmo : ∀ i, z_idok i → z_mok i) (hmet : ∀ id a h r, id < 221 → z_cat a ≤ z_ml id → z_M id a h = some r → z_Met l G id a h r) (hop : z_opok Inv 18 204 0) (hcl : cells ≤ room_1.cells ∧ slots ≤ room_1.slots)
    {i : Nat} (hi : i + 5 ≤ L) (hl : lv_has ls 4 [(0, .ref b), (1, .ref (G.1 + 0)), (2, .ref (G.1 + 122)), (3, .int (nI i))]) (hI : Inv h) (hR : z_Rep G h H) (hS : va_S (fun q : Nat => s.heap.size ≤ q) s.heap H locs)
    (k : ∀ (h2 : z_H) (H : Heap) (locs : List Loc), Inv h2 → z_Rep G h2 H → va_S (fun q : Nat => s.heap.size ≤ q) s.heap H locs → W p l e room_1 s m #[Value.ref b] below meth c H locs cells slots Q (F0 m 1071 ls [])) : W p l e room_1 s m #[Value.ref b] below meth c H locs cells slots Q (F0 m 738 ls []) := by
  obtain ⟨hx, hb, -⟩ := id C0
  obtain ⟨r, h1, h2, e1, e2, hI2⟩ := hop h hI [] rfl
  refine lv_aload_n hx hb z_ld488 rfl (lv_at hl 1 rfl) ?_
  refine z_lcall (As := []) (rest := []) (o := 0) C0 hG hK hSt (hmo 18 (Or.inl (by decide))) rfl rfl (by decide) (by decide +kernel) ⟨by decide, by decide, by decide +kernel⟩ (hmet 18 _ _ _ (by decide) (Nat.le_of_ble_eq_true rfl) e1) (z_wd_good (pl := 971) (by decide +kernel) rfl) rfl (Nat.le_of_ble_eq_true rfl) z_ld489 hl.1 (Nat.le_of_ble_eq_true rfl) hcl hR hS (fun H locs hR hS => ?_)
  refine lv_aload_n hx hb z_ld490 rfl (lv_at hl 2 rfl) ?_
  refine z_lcall (As := []) (rest := [.int r]) (o := 122) C0 hG hK hSt (hmo 204 (Or.inl (by decide))) rfl rfl (by decide) (by decide +kernel) ⟨by decide, by decide, by decide +kernel⟩ (hmet 204 _ _ _ (by decide) (Nat.le_of_ble_eq_true rfl) e2) (z_wd_good (pl := 1515) (by decide +kernel) rfl) rfl (Nat.le_of_ble_eq_true rfl) z_ld491 hl.1 (Nat.le_of_ble_eq_true rfl) hcl hR hS (fun H locs hR hS => ?_)
  refine lv_icmp_eq (tgt := 1071) hx hb z_ld492 (by decide) (fun _ => ?_) (fun q => absurd rfl q)
  exact k h2 H locs hI2 hR hS
set_option maxRecDepth 8000 in
set_option maxHeartbeats 1000000 in
theorem z_law_19 {p : Program} {l : Launch} {e : Env} {s : State} {m : MethodId} {below : List Frame} {meth : Method} {c : Code} {Q : State → Prop} {b L : Nat} {xs : Nat → Int32} {G : z_G} {cells slots : Nat} {H : Heap} {locs : List Loc} {ls : Array Slot} {h : z_H} {Inv : z_H → Prop} (C0 : lw_At p s m meth c b L xs) (hL : L ≤ 2560) (hG : G.1 = s.heap.size) (hK : z_Kn G s) (hSt : z_St G s s.heap) (hmo : ∀ i, z_idok i → z_mok i) (hmet : ∀ id a h r, id < 221 → z_cat a ≤ z_ml id → z_M id a h = some r → z_Met l G id a h r) (hop : z_opok Inv 19 206 3) (hcl : cells ≤ room_1.cells ∧ slots ≤ room_1.slots)
    {i : Nat} (hi : i + 5 ≤ L) (hl : lv_has ls 4 [(0, .ref b), (1, .ref (G.1 + 0)), (2, .ref (G.1 + 122)), (3, .int (nI i))]) (hI : Inv h) (hR : z_Rep G h H) (hS : va_S (fun q : Nat => s.heap.size ≤ q) s.heap H locs)
    (k : ∀ (h2 : z_H) (H : Heap) (locs : List Loc), Inv h2 → z_Rep G h2 H → va_S (fun q : Nat => s.heap.size ≤ q) s.heap H locs → W p l e room_1 s m #[Value.ref b] below meth c H locs cells slots Q (F0 m 1071 ls [])) : W p l e room_1 s m #[Value.ref b] below meth c H locs cells slots Q (F0 m 751 ls []) := by
  obtain ⟨hx, hb, -⟩ := id C0
  obtain ⟨r, h1, h2, e1, e2, hI2⟩ := hop h hI [xs (i + 1), xs (i + 2), xs (i + 3)] rfl
  refine lv_aload_n hx hb z_ld495 rfl (lv_at hl 1 rfl) ?_
  refine z_larg C0 hS hi (j := 1) (by decide) hL hl rfl z_ld496 z_ld497 z_ld498 z_ld499 z_ld500 ?_
  refine z_larg C0 hS hi (j := 2) (by decide) hL hl rfl z_ld501 z_ld502 z_ld503 z_ld504 z_ld505 ?_
  refine z_larg C0 hS hi (j := 3) (by decide) hL hl rfl z_ld506 z_ld507 z_ld508 z_ld509 z_ld510 ?_
  refine z_lcall (As := [.int (xs (i + 1)), .int (xs (i + 2)), .int (xs (i + 3))]) (rest := []) (o := 0) C0 hG hK hSt (hmo 19 (Or.inl (by decide))) rfl rfl (by decide) (by decide +kernel) ⟨by decide, by decide, by decide +kernel⟩ (hmet 19 _ _ _ (by decide) (Nat.le_of_ble_eq_true rfl) e1) (z_wd_good (pl := 975) (by decide +kernel) rfl) rfl (Nat.le_of_ble_eq_true rfl) z_ld511 hl.1 (Nat.le_of_ble_eq_true rfl) hcl hR hS (fun H locs hR hS => ?_)
  refine lv_aload_n hx hb z_ld512 rfl (lv_at hl 2 rfl) ?_
  refine z_larg C0 hS hi (j := 1) (by decide) hL hl rfl z_ld513 z_ld514 z_ld515 z_ld516 z_ld517 ?_
  refine z_larg C0 hS hi (j := 2) (by decide) hL hl rfl z_ld518 z_ld519 z_ld520 z_ld521 z_ld522 ?_
  refine z_larg C0 hS hi (j := 3) (by decide) hL hl rfl z_ld523 z_ld524 z_ld525 z_ld526 z_ld527 ?_
  refine z_lcall (As := [.int (xs (i + 1)), .int (xs (i + 2)), .int (xs (i + 3))]) (rest := [.int r]) (o := 122) C0 hG hK hSt (hmo 206 (Or.inl (by decide))) rfl rfl (by decide) (by decide +kernel) ⟨by decide, by decide, by decide +kernel⟩ (hmet 206 _ _ _ (by decide) (Nat.le_of_ble_eq_true rfl) e2) (z_wd_good (pl := 1519) (by decide +kernel) rfl) rfl (Nat.le_of_ble_eq_true rfl) z_ld528 hl.1 (Nat.le_of_ble_eq_true rfl) hcl hR hS (fun H locs hR hS => ?_)
  refine lv_icmp_eq (tgt := 1071) hx hb z_ld529 (by decide) (fun _ => ?_) (fun q => absurd rfl q)
  exact k h2 H locs hI2 hR hS
set_option maxRecDepth 8000 in
set_option maxHeartbeats 1000000 in
theorem z_law_20 {p : Program} {l : Launch} {e : Env} {s : State} {m : MethodId} {below : List Frame} {meth : Method} {c : Code} {Q : State → Prop} {b L : Nat} {xs : Nat → Int32} {G : z_G} {cells slots : Nat} {H : Heap} {locs : List Loc} {ls : Array Slot} {h : z_H} {Inv : z_H → Prop} (C0 : lw_At p s m meth c b L xs) (hL : L ≤ 2560) (hG : G.1 = s.heap.size) (hK : z_Kn G s) (hSt : z_St G s s.heap) (hmo : ∀ i, z_idok i → z_mok i) (hmet : ∀ id a h r, id < 221 → z_cat a ≤ z_ml id → z_M id a h = some r → z_Met l G id a h r) (hop : z_opok Inv 20 207 1) (hcl : cells ≤ room_1.cells ∧ slots ≤ room_1.slots)
    {i : Nat} (hi : i + 5 ≤ L) (hl : lv_has ls 4 [(0, .ref b), (1, .ref (G.1 + 0)), (2, .ref (G.1 + 122)), (3, .int (nI i))]) (hI : Inv h) (hR : z_Rep G h H) (hS : va_S (fun q : Nat => s.heap.size ≤ q) s.heap H locs)
    (k : ∀ (h2 : z_H) (H : Heap) (locs : List Loc), Inv h2 → z_Rep G h2 H → va_S (fun q : Nat => s.heap.size ≤ q) s.heap H locs → W p l e room_1 s m #[Value.ref b] below meth c H locs cells slots Q (F0 m 1071 ls [])) : W p l e room_1 s m #[Value.ref b] below meth c H locs cells slots Q (F0 m 794 ls []) := by
  obtain ⟨hx, hb, -⟩ := id C0
  obtain ⟨r, h1, h2, e1, e2, hI2⟩ := hop h hI [xs (i + 1)] rfl
  refine lv_aload_n hx hb z_ld532 rfl (lv_at hl 1 rfl) ?_
  refine z_larg C0 hS hi (j := 1) (by decide) hL hl rfl z_ld533 z_ld534 z_ld535 z_ld536 z_ld537 ?_
  refine z_lcall (As := [.int (xs (i + 1))]) (rest := []) (o := 0) C0 hG hK hSt (hmo 20 (Or.inl (by decide))) rfl rfl (by decide) (by decide +kernel) ⟨by decide, by decide, by decide +kernel⟩ (hmet 20 _ _ _ (by decide) (Nat.le_of_ble_eq_true rfl) e1) (z_wd_good (pl := 981) (by decide +kernel) rfl) rfl (Nat.le_of_ble_eq_true rfl) z_ld538 hl.1 (Nat.le_of_ble_eq_true rfl) hcl hR hS (fun H locs hR hS => ?_)
  refine lv_aload_n hx hb z_ld539 rfl (lv_at hl 2 rfl) ?_
  refine z_larg C0 hS hi (j := 1) (by decide) hL hl rfl z_ld540 z_ld541 z_ld542 z_ld543 z_ld544 ?_
  refine z_lcall (As := [.int (xs (i + 1))]) (rest := [.int r]) (o := 122) C0 hG hK hSt (hmo 207 (Or.inl (by decide))) rfl rfl (by decide) (by decide +kernel) ⟨by decide, by decide, by decide +kernel⟩ (hmet 207 _ _ _ (by decide) (Nat.le_of_ble_eq_true rfl) e2) (z_wd_good (pl := 1528) (by decide +kernel) rfl) rfl (Nat.le_of_ble_eq_true rfl) z_ld545 hl.1 (Nat.le_of_ble_eq_true rfl) hcl hR hS (fun H locs hR hS => ?_)
  refine lv_icmp_eq (tgt := 1071) hx hb z_ld546 (by decide) (fun _ => ?_) (fun q => absurd rfl q)
  exact k h2 H locs hI2 hR hS
set_option maxRecDepth 8000 in
set_option maxHeartbeats 1000000 in
theorem z_law_21 {p : Program} {l : Launch} {e : Env} {s : State} {m : MethodId} {below : List Frame} {meth : Method} {c : Code} {Q : State → Prop} {b L : Nat} {xs : Nat → Int32} {G : z_G} {cells slots : Nat} {H : Heap} {locs : List Loc} {ls : Array Slot} {h : z_H} {Inv : z_H → Prop} (C0 : lw_At p s m meth c b L xs) (hL : L ≤ 2560) (hG : G.1 = s.heap.size) (hK : z_Kn G s) (hSt : z_St G s s.heap) (hmo : ∀ i, z_idok i → z_mok i) (hmet : ∀ id a h r, id < 221 → z_cat a ≤ z_ml id → z_M id a h = some r → z_Met l G id a h r) (hop : z_opok Inv 21 208 2) (hcl : cells ≤ room_1.cells ∧ slots ≤ room_1.slots)
    {i : Nat} (hi : i + 5 ≤ L) (hl : lv_has ls 4 [(0, .ref b), (1, .ref (G.1 + 0)), (2, .ref (G.1 + 122)), (3, .int (nI i))]) (hI : Inv h) (hR : z_Rep G h H) (hS : va_S (fun q : Nat => s.heap.size ≤ q) s.heap H locs)
    (k : ∀ (h2 : z_H) (H : Heap) (locs : List Loc), Inv h2 → z_Rep G h2 H → va_S (fun q : Nat => s.heap.size ≤ q) s.heap H locs → W p l e room_1 s m #[Value.ref b] below meth c H locs cells slots Q (F0 m 1071 ls [])) : W p l e room_1 s m #[Value.ref b] below meth c H locs cells slots Q (F0 m 817 ls []) := by
  obtain ⟨hx, hb, -⟩ := id C0
  obtain ⟨r, h1, h2, e1, e2, hI2⟩ := hop h hI [xs (i + 1), xs (i + 2)] rfl
  refine lv_aload_n hx hb z_ld549 rfl (lv_at hl 1 rfl) ?_
  refine z_larg C0 hS hi (j := 1) (by decide) hL hl rfl z_ld550 z_ld551 z_ld552 z_ld553 z_ld554 ?_
  refine z_larg C0 hS hi (j := 2) (by decide) hL hl rfl z_ld555 z_ld556 z_ld557 z_ld558 z_ld559 ?_
  refine z_lcall (As := [.int (xs (i + 1)), .int (xs (i + 2))]) (rest := []) (o := 0) C0 hG hK hSt (hmo 21 (Or.inl (by decide))) rfl rfl (by decide) (by decide +kernel) ⟨by decide, by decide, by decide +kernel⟩ (hmet 21 _ _ _ (by decide) (Nat.le_of_ble_eq_true rfl) e1) (z_wd_good (pl := 989) (by decide +kernel) rfl) rfl (Nat.le_of_ble_eq_true rfl) z_ld560 hl.1 (Nat.le_of_ble_eq_true rfl) hcl hR hS (fun H locs hR hS => ?_)
  refine lv_aload_n hx hb z_ld561 rfl (lv_at hl 2 rfl) ?_
  refine z_larg C0 hS hi (j := 1) (by decide) hL hl rfl z_ld562 z_ld563 z_ld564 z_ld565 z_ld566 ?_
  refine z_larg C0 hS hi (j := 2) (by decide) hL hl rfl z_ld567 z_ld568 z_ld569 z_ld570 z_ld571 ?_
  refine z_lcall (As := [.int (xs (i + 1)), .int (xs (i + 2))]) (rest := [.int r]) (o := 122) C0 hG hK hSt (hmo 208 (Or.inl (by decide))) rfl rfl (by decide) (by decide +kernel) ⟨by decide, by decide, by decide +kernel⟩ (hmet 208 _ _ _ (by decide) (Nat.le_of_ble_eq_true rfl) e2) (z_wd_good (pl := 1532) (by decide +kernel) rfl) rfl (Nat.le_of_ble_eq_true rfl) z_ld572 hl.1 (Nat.le_of_ble_eq_true rfl) hcl hR hS (fun H locs hR hS => ?_)
  refine lv_icmp_eq (tgt := 1071) hx hb z_ld573 (by decide) (fun _ => ?_) (fun q => absurd rfl q)
  exact k h2 H locs hI2 hR hS
set_option maxRecDepth 8000 in
set_option maxHeartbeats 1000000 in
theorem z_law_22 {p : Program} {l : Launch} {e : Env} {s : State} {m : MethodId} {below : List Frame} {meth : Method} {c : Code} {Q : State → Prop} {b L : Nat} {xs : Nat → Int32} {G : z_G} {cells slots : Nat} {H : Heap} {locs : List Loc} {ls : Array Slot} {h : z_H} {Inv : z_H → Prop} (C0 : lw_At p s m meth c b L xs) (hL : L ≤ 2560) (hG : G.1 = s.heap.size) (hK : z_Kn G s) (hSt : z_St G s s.heap) (hmo : ∀ i, z_idok i → z_mok i) (hmet : ∀ id a h r, id < 221 → z_cat a ≤ z_ml id → z_M id a h = some r → z_Met l G id a h r) (hop : z_opok Inv 22 209 1) (hcl : cells ≤ room_1.cells ∧ slots ≤ room_1.slots)
    {i : Nat} (hi : i + 5 ≤ L) (hl : lv_has ls 4 [(0, .ref b), (1, .ref (G.1 + 0)), (2, .ref (G.1 + 122)), (3, .int (nI i))]) (hI : Inv h) (hR : z_Rep G h H) (hS : va_S (fun q : Nat => s.heap.size ≤ q) s.heap H locs)
    (k : ∀ (h2 : z_H) (H : Heap) (locs : List Loc), Inv h2 → z_Rep G h2 H → va_S (fun q : Nat => s.heap.size ≤ q) s.heap H locs → W p l e room_1 s m #[Value.ref b] below meth c H locs cells slots Q (F0 m 1071 ls [])) : W p l e room_1 s m #[Value.ref b] below meth c H locs cells slots Q (F0 m 850 ls []) := by
  obtain ⟨hx, hb, -⟩ := id C0
  obtain ⟨r, h1, h2, e1, e2, hI2⟩ := hop h hI [xs (i + 1)] rfl
  refine lv_aload_n hx hb z_ld576 rfl (lv_at hl 1 rfl) ?_
  refine z_larg C0 hS hi (j := 1) (by decide) hL hl rfl z_ld577 z_ld578 z_ld579 z_ld580 z_ld581 ?_
  refine z_lcall (As := [.int (xs (i + 1))]) (rest := []) (o := 0) C0 hG hK hSt (hmo 22 (Or.inl (by decide))) rfl rfl (by decide) (by decide +kernel) ⟨by decide, by decide, by decide +kernel⟩ (hmet 22 _ _ _ (by decide) (Nat.le_of_ble_eq_true rfl) e1) (z_wd_good (pl := 994) (by decide +kernel) rfl) rfl (Nat.le_of_ble_eq_true rfl) z_ld582 hl.1 (Nat.le_of_ble_eq_true rfl) hcl hR hS (fun H locs hR hS => ?_)
  refine lv_aload_n hx hb z_ld583 rfl (lv_at hl 2 rfl) ?_
  refine z_larg C0 hS hi (j := 1) (by decide) hL hl rfl z_ld584 z_ld585 z_ld586 z_ld587 z_ld588 ?_
  refine z_lcall (As := [.int (xs (i + 1))]) (rest := [.int r]) (o := 122) C0 hG hK hSt (hmo 209 (Or.inl (by decide))) rfl rfl (by decide) (by decide +kernel) ⟨by decide, by decide, by decide +kernel⟩ (hmet 209 _ _ _ (by decide) (Nat.le_of_ble_eq_true rfl) e2) (z_wd_good (pl := 1538) (by decide +kernel) rfl) rfl (Nat.le_of_ble_eq_true rfl) z_ld589 hl.1 (Nat.le_of_ble_eq_true rfl) hcl hR hS (fun H locs hR hS => ?_)
  refine lv_icmp_eq (tgt := 1071) hx hb z_ld590 (by decide) (fun _ => ?_) (fun q => absurd rfl q)
  exact k h2 H locs hI2 hR hS
set_option maxRecDepth 8000 in
set_option maxHeartbeats 1000000 in
theorem z_law_23 {p : Program} {l : Launch} {e : Env} {s : State} {m : MethodId} {below : List Frame} {meth : Method} {c : Code} {Q : State → Prop} {b L : Nat} {xs : Nat → Int32} {G : z_G} {cells slots : Nat} {H : Heap} {locs : List Loc} {ls : Array Slot} {h : z_H} {Inv : z_H → Prop} (C0 : lw_At p s m meth c b L xs) (hL : L ≤ 2560) (hG : G.1 = s.heap.size) (hK : z_Kn G s) (hSt : z_St G s s.heap) (hmo : ∀ i, z_idok i → z_mok i) (hmet : ∀ id a h r, id < 221 → z_cat a ≤ z_ml id → z_M id a h = some r → z_Met l G id a h r) (hop : z_opok Inv 23 210 1) (hcl : cells ≤ room_1.cells ∧ slots ≤ room_1.slots)
    {i : Nat} (hi : i + 5 ≤ L) (hl : lv_has ls 4 [(0, .ref b), (1, .ref (G.1 + 0)), (2, .ref (G.1 + 122)), (3, .int (nI i))]) (hI : Inv h) (hR : z_Rep G h H) (hS : va_S (fun q : Nat => s.heap.size ≤ q) s.heap H locs)
    (k : ∀ (h2 : z_H) (H : Heap) (locs : List Loc), Inv h2 → z_Rep G h2 H → va_S (fun q : Nat => s.heap.size ≤ q) s.heap H locs → W p l e room_1 s m #[Value.ref b] below meth c H locs cells slots Q (F0 m 1071 ls [])) : W p l e room_1 s m #[Value.ref b] below meth c H locs cells slots Q (F0 m 873 ls []) := by
  obtain ⟨hx, hb, -⟩ := id C0
  obtain ⟨r, h1, h2, e1, e2, hI2⟩ := hop h hI [xs (i + 1)] rfl
  refine lv_aload_n hx hb z_ld593 rfl (lv_at hl 1 rfl) ?_
  refine z_larg C0 hS hi (j := 1) (by decide) hL hl rfl z_ld594 z_ld595 z_ld596 z_ld597 z_ld598 ?_
  refine z_lcall (As := [.int (xs (i + 1))]) (rest := []) (o := 0) C0 hG hK hSt (hmo 23 (Or.inl (by decide))) rfl rfl (by decide) (by decide +kernel) ⟨by decide, by decide, by decide +kernel⟩ (hmet 23 _ _ _ (by decide) (Nat.le_of_ble_eq_true rfl) e1) (z_wd_good (pl := 1001) (by decide +kernel) rfl) rfl (Nat.le_of_ble_eq_true rfl) z_ld599 hl.1 (Nat.le_of_ble_eq_true rfl) hcl hR hS (fun H locs hR hS => ?_)
  refine lv_aload_n hx hb z_ld600 rfl (lv_at hl 2 rfl) ?_
  refine z_larg C0 hS hi (j := 1) (by decide) hL hl rfl z_ld601 z_ld602 z_ld603 z_ld604 z_ld605 ?_
  refine z_lcall (As := [.int (xs (i + 1))]) (rest := [.int r]) (o := 122) C0 hG hK hSt (hmo 210 (Or.inl (by decide))) rfl rfl (by decide) (by decide +kernel) ⟨by decide, by decide, by decide +kernel⟩ (hmet 210 _ _ _ (by decide) (Nat.le_of_ble_eq_true rfl) e2) (z_wd_good (pl := 1542) (by decide +kernel) rfl) rfl (Nat.le_of_ble_eq_true rfl) z_ld606 hl.1 (Nat.le_of_ble_eq_true rfl) hcl hR hS (fun H locs hR hS => ?_)
  refine lv_icmp_eq (tgt := 1071) hx hb z_ld607 (by decide) (fun _ => ?_) (fun q => absurd rfl q)
  exact k h2 H locs hI2 hR hS
set_option maxRecDepth 8000 in
set_option maxHeartbeats 1000000 in
theorem z_law_24 {p : Program} {l : Launch} {e : Env} {s : State} {m : MethodId} {below : List Frame} {meth : Method} {c : Code} {Q : State → Prop} {b L : Nat} {xs : Nat → Int32} {G : z_G} {cells slots : Nat} {H : Heap} {locs : List Loc} {ls : Array Slot} {h : z_H} {Inv : z_H → Prop} (C0 : lw_At p s m meth c b L xs) (hL : L ≤ 2560) (hG : G.1 = s.heap.size) (hK : z_Kn G s) (hSt : z_St G s s.heap) (hmo : ∀ i, z_idok i → z_mok i) (hmet : ∀ id a h r, id < 221 → z_cat a ≤ z_ml id → z_M id a h = some r → z_Met l G id a h r) (hop : z_opok Inv 24 212 3) (hcl : cells ≤ room_1.cells ∧ slots ≤ room_1.slots)
    {i : Nat} (hi : i + 5 ≤ L) (hl : lv_has ls 4 [(0, .ref b), (1, .ref (G.1 + 0)), (2, .ref (G.1 + 122)), (3, .int (nI i))]) (hI : Inv h) (hR : z_Rep G h H) (hS : va_S (fun q : Nat => s.heap.size ≤ q) s.heap H locs)
    (k : ∀ (h2 : z_H) (H : Heap) (locs : List Loc), Inv h2 → z_Rep G h2 H → va_S (fun q : Nat => s.heap.size ≤ q) s.heap H locs → W p l e room_1 s m #[Value.ref b] below meth c H locs cells slots Q (F0 m 1071 ls [])) : W p l e room_1 s m #[Value.ref b] below meth c H locs cells slots Q (F0 m 896 ls []) := by
  obtain ⟨hx, hb, -⟩ := id C0
  obtain ⟨r, h1, h2, e1, e2, hI2⟩ := hop h hI [xs (i + 1), xs (i + 2), xs (i + 3)] rfl
  refine lv_aload_n hx hb z_ld610 rfl (lv_at hl 1 rfl) ?_
  refine z_larg C0 hS hi (j := 1) (by decide) hL hl rfl z_ld611 z_ld612 z_ld613 z_ld614 z_ld615 ?_
  refine z_larg C0 hS hi (j := 2) (by decide) hL hl rfl z_ld616 z_ld617 z_ld618 z_ld619 z_ld620 ?_
  refine z_larg C0 hS hi (j := 3) (by decide) hL hl rfl z_ld621 z_ld622 z_ld623 z_ld624 z_ld625 ?_
  refine z_lcall (As := [.int (xs (i + 1)), .int (xs (i + 2)), .int (xs (i + 3))]) (rest := []) (o := 0) C0 hG hK hSt (hmo 24 (Or.inl (by decide))) rfl rfl (by decide) (by decide +kernel) ⟨by decide, by decide, by decide +kernel⟩ (hmet 24 _ _ _ (by decide) (Nat.le_of_ble_eq_true rfl) e1) (z_wd_good (pl := 1005) (by decide +kernel) rfl) rfl (Nat.le_of_ble_eq_true rfl) z_ld626 hl.1 (Nat.le_of_ble_eq_true rfl) hcl hR hS (fun H locs hR hS => ?_)
  refine lv_aload_n hx hb z_ld627 rfl (lv_at hl 2 rfl) ?_
  refine z_larg C0 hS hi (j := 1) (by decide) hL hl rfl z_ld628 z_ld629 z_ld630 z_ld631 z_ld632 ?_
  refine z_larg C0 hS hi (j := 2) (by decide) hL hl rfl z_ld633 z_ld634 z_ld635 z_ld636 z_ld637 ?_
  refine z_larg C0 hS hi (j := 3) (by decide) hL hl rfl z_ld638 z_ld639 z_ld640 z_ld641 z_ld642 ?_
  refine z_lcall (As := [.int (xs (i + 1)), .int (xs (i + 2)), .int (xs (i + 3))]) (rest := [.int r]) (o := 122) C0 hG hK hSt (hmo 212 (Or.inl (by decide))) rfl rfl (by decide) (by decide +kernel) ⟨by decide, by decide, by decide +kernel⟩ (hmet 212 _ _ _ (by decide) (Nat.le_of_ble_eq_true rfl) e2) (z_wd_good (pl := 1546) (by decide +kernel) rfl) rfl (Nat.le_of_ble_eq_true rfl) z_ld643 hl.1 (Nat.le_of_ble_eq_true rfl) hcl hR hS (fun H locs hR hS => ?_)
  refine lv_icmp_eq (tgt := 1071) hx hb z_ld644 (by decide) (fun _ => ?_) (fun q => absurd rfl q)
  exact k h2 H locs hI2 hR hS
set_option maxRecDepth 8000 in
set_option maxHeartbeats 1000000 in
theorem z_law_25 {p : Program} {l : Launch} {e : Env} {s : State} {m : MethodId} {below : List Frame} {meth : Method} {c : Code} {Q : State → Prop} {b L : Nat} {xs : Nat → Int32} {G : z_G} {cells slots : Nat} {H : Heap} {locs : List Loc} {ls : Array Slot} {h : z_H} {Inv : z_H → Prop} (C0 : lw_At p s m meth c b L xs) (hL : L ≤ 2560) (hG : G.1 = s.heap.size) (hK : z_Kn G s) (hSt : z_St G s s.heap) (hmo : ∀ i, z_idok i → z_mok i) (hmet : ∀ id a h r, id < 221 → z_cat a ≤ z_ml id → z_M id a h = some r → z_Met l G id a h r) (hop : z_opok Inv 25 213 3) (hcl : cells ≤ room_1.cells ∧ slots ≤ room_1.slots)
    {i : Nat} (hi : i + 5 ≤ L) (hl : lv_has ls 4 [(0, .ref b), (1, .ref (G.1 + 0)), (2, .ref (G.1 + 122)), (3, .int (nI i))]) (hI : Inv h) (hR : z_Rep G h H) (hS : va_S (fun q : Nat => s.heap.size ≤ q) s.heap H locs)
    (k : ∀ (h2 : z_H) (H : Heap) (locs : List Loc), Inv h2 → z_Rep G h2 H → va_S (fun q : Nat => s.heap.size ≤ q) s.heap H locs → W p l e room_1 s m #[Value.ref b] below meth c H locs cells slots Q (F0 m 1071 ls [])) : W p l e room_1 s m #[Value.ref b] below meth c H locs cells slots Q (F0 m 939 ls []) := by
  obtain ⟨hx, hb, -⟩ := id C0
  obtain ⟨r, h1, h2, e1, e2, hI2⟩ := hop h hI [xs (i + 1), xs (i + 2), xs (i + 3)] rfl
  refine lv_aload_n hx hb z_ld647 rfl (lv_at hl 1 rfl) ?_
  refine z_larg C0 hS hi (j := 1) (by decide) hL hl rfl z_ld648 z_ld649 z_ld650 z_ld651 z_ld652 ?_
  refine z_larg C0 hS hi (j := 2) (by decide) hL hl rfl z_ld653 z_ld654 z_ld655 z_ld656 z_ld657 ?_
  refine z_larg C0 hS hi (j := 3) (by decide) hL hl rfl z_ld658 z_ld659 z_ld660 z_ld661 z_ld662 ?_
  refine z_lcall (As := [.int (xs (i + 1)), .int (xs (i + 2)), .int (xs (i + 3))]) (rest := []) (o := 0) C0 hG hK hSt (hmo 25 (Or.inl (by decide))) rfl rfl (by decide) (by decide +kernel) ⟨by decide, by decide, by decide +kernel⟩ (hmet 25 _ _ _ (by decide) (Nat.le_of_ble_eq_true rfl) e1) (z_wd_good (pl := 1020) (by decide +kernel) rfl) rfl (Nat.le_of_ble_eq_true rfl) z_ld663 hl.1 (Nat.le_of_ble_eq_true rfl) hcl hR hS (fun H locs hR hS => ?_)
  refine lv_aload_n hx hb z_ld664 rfl (lv_at hl 2 rfl) ?_
  refine z_larg C0 hS hi (j := 1) (by decide) hL hl rfl z_ld665 z_ld666 z_ld667 z_ld668 z_ld669 ?_
  refine z_larg C0 hS hi (j := 2) (by decide) hL hl rfl z_ld670 z_ld671 z_ld672 z_ld673 z_ld674 ?_
  refine z_larg C0 hS hi (j := 3) (by decide) hL hl rfl z_ld675 z_ld676 z_ld677 z_ld678 z_ld679 ?_
  refine z_lcall (As := [.int (xs (i + 1)), .int (xs (i + 2)), .int (xs (i + 3))]) (rest := [.int r]) (o := 122) C0 hG hK hSt (hmo 213 (Or.inl (by decide))) rfl rfl (by decide) (by decide +kernel) ⟨by decide, by decide, by decide +kernel⟩ (hmet 213 _ _ _ (by decide) (Nat.le_of_ble_eq_true rfl) e2) (z_wd_good (pl := 1553) (by decide +kernel) rfl) rfl (Nat.le_of_ble_eq_true rfl) z_ld680 hl.1 (Nat.le_of_ble_eq_true rfl) hcl hR hS (fun H locs hR hS => ?_)
  refine lv_icmp_eq (tgt := 1071) hx hb z_ld681 (by decide) (fun _ => ?_) (fun q => absurd rfl q)
  exact k h2 H locs hI2 hR hS
set_option maxRecDepth 8000 in
set_option maxHeartbeats 1000000 in
theorem z_law_26 {p : Program} {l : Launch} {e : Env} {s : State} {m : MethodId} {below : List Frame} {meth : Method} {c : Code} {Q : State → Prop} {b L : Nat} {xs : Nat → Int32} {G : z_G} {cells slots : Nat} {H : Heap} {locs : List Loc} {ls : Array Slot} {h : z_H} {Inv : z_H → Prop} (C0 : lw_At p s m meth c b L xs) (hL : L ≤ 2560) (hG : G.1 = s.heap.size) (hK : z_Kn G s) (hSt : z_St G s s.heap) (hmo : ∀ i, z_idok i → z_mok i) (hmet : ∀ id a h r, id < 221 → z_cat a ≤ z_ml id → z_M id a h = some r → z_Met l G id a h r) (hop : z_opok Inv 26 214 4) (hcl : cells ≤ room_1.cells ∧ slots ≤ room_1.slots)
    {i : Nat} (hi : i + 5 ≤ L) (hl : lv_has ls 4 [(0, .ref b), (1, .ref (G.1 + 0)), (2, .ref (G.1 + 122)), (3, .int (nI i))]) (hI : Inv h) (hR : z_Rep G h H) (hS : va_S (fun q : Nat => s.heap.size ≤ q) s.heap H locs)
    (k : ∀ (h2 : z_H) (H : Heap) (locs : List Loc), Inv h2 → z_Rep G h2 H → va_S (fun q : Nat => s.heap.size ≤ q) s.heap H locs → W p l e room_1 s m #[Value.ref b] below meth c H locs cells slots Q (F0 m 1071 ls [])) : W p l e room_1 s m #[Value.ref b] below meth c H locs cells slots Q (F0 m 982 ls []) := by
  obtain ⟨hx, hb, -⟩ := id C0
  obtain ⟨r, h1, h2, e1, e2, hI2⟩ := hop h hI [xs (i + 1), xs (i + 2), xs (i + 3), xs (i + 4)] rfl
  refine lv_aload_n hx hb z_ld684 rfl (lv_at hl 1 rfl) ?_
  refine z_larg C0 hS hi (j := 1) (by decide) hL hl rfl z_ld685 z_ld686 z_ld687 z_ld688 z_ld689 ?_
  refine z_larg C0 hS hi (j := 2) (by decide) hL hl rfl z_ld690 z_ld691 z_ld692 z_ld693 z_ld694 ?_
  refine z_larg C0 hS hi (j := 3) (by decide) hL hl rfl z_ld695 z_ld696 z_ld697 z_ld698 z_ld699 ?_
  refine z_larg C0 hS hi (j := 4) (by decide) hL hl rfl z_ld700 z_ld701 z_ld702 z_ld703 z_ld704 ?_
  refine z_lcall (As := [.int (xs (i + 1)), .int (xs (i + 2)), .int (xs (i + 3)), .int (xs (i + 4))]) (rest := []) (o := 0) C0 hG hK hSt (hmo 26 (Or.inl (by decide))) rfl rfl (by decide) (by decide +kernel) ⟨by decide, by decide, by decide +kernel⟩ (hmet 26 _ _ _ (by decide) (Nat.le_of_ble_eq_true rfl) e1) (z_wd_good (pl := 1028) (by decide +kernel) rfl) rfl (Nat.le_of_ble_eq_true rfl) z_ld705 hl.1 (Nat.le_of_ble_eq_true rfl) hcl hR hS (fun H locs hR hS => ?_)
  refine lv_aload_n hx hb z_ld706 rfl (lv_at hl 2 rfl) ?_
  refine z_larg C0 hS hi (j := 1) (by decide) hL hl rfl z_ld707 z_ld708 z_ld709 z_ld710 z_ld711 ?_
  refine z_larg C0 hS hi (j := 2) (by decide) hL hl rfl z_ld712 z_ld713 z_ld714 z_ld715 z_ld716 ?_
  refine z_larg C0 hS hi (j := 3) (by decide) hL hl rfl z_ld717 z_ld718 z_ld719 z_ld720 z_ld721 ?_
  refine z_larg C0 hS hi (j := 4) (by decide) hL hl rfl z_ld722 z_ld723 z_ld724 z_ld725 z_ld726 ?_
  refine z_lcall (As := [.int (xs (i + 1)), .int (xs (i + 2)), .int (xs (i + 3)), .int (xs (i + 4))]) (rest := [.int r]) (o := 122) C0 hG hK hSt (hmo 214 (Or.inl (by decide))) rfl rfl (by decide) (by decide +kernel) ⟨by decide, by decide, by decide +kernel⟩ (hmet 214 _ _ _ (by decide) (Nat.le_of_ble_eq_true rfl) e2) (z_wd_good (pl := 1557) (by decide +kernel) rfl) rfl (Nat.le_of_ble_eq_true rfl) z_ld727 hl.1 (Nat.le_of_ble_eq_true rfl) hcl hR hS (fun H locs hR hS => ?_)
  refine lv_icmp_eq (tgt := 1071) hx hb z_ld728 (by decide) (fun _ => ?_) (fun q => absurd rfl q)
  exact k h2 H locs hI2 hR hS
set_option maxRecDepth 8000 in
set_option maxHeartbeats 1000000 in
theorem z_law_27 {p : Program} {l : Launch} {e : Env} {s : State} {m : MethodId} {below : List Frame} {meth : Method} {c : Code} {Q : State → Prop} {b L : Nat} {xs : Nat → Int32} {G : z_G} {cells slots : Nat} {H : Heap} {locs : List Loc} {ls : Array Slot} {h : z_H} {Inv : z_H → Prop} (C0 : lw_At p s m meth c b L xs) (hL : L ≤ 2560) (hG : G.1 = s.heap.size) (hK : z_Kn G s) (hSt : z_St G s s.heap) (hmo : ∀ i, z_idok i → z_mok i) (hmet : ∀ id a h r, id < 221 → z_cat a ≤ z_ml id → z_M id a h = some r → z_Met l G id a h r) (hop : z_opok Inv 27 215 0) (hcl : cells ≤ room_1.cells ∧ slots ≤ room_1.slots)
    {i : Nat} (hi : i + 5 ≤ L) (hl : lv_has ls 4 [(0, .ref b), (1, .ref (G.1 + 0)), (2, .ref (G.1 + 122)), (3, .int (nI i))]) (hI : Inv h) (hR : z_Rep G h H) (hS : va_S (fun q : Nat => s.heap.size ≤ q) s.heap H locs)
    (k : ∀ (h2 : z_H) (H : Heap) (locs : List Loc), Inv h2 → z_Rep G h2 H → va_S (fun q : Nat => s.heap.size ≤ q) s.heap H locs → W p l e room_1 s m #[Value.ref b] below meth c H locs cells slots Q (F0 m 1071 ls [])) : W p l e room_1 s m #[Value.ref b] below meth c H locs cells slots Q (F0 m 1035 ls []) := by
  obtain ⟨hx, hb, -⟩ := id C0
  obtain ⟨r, h1, h2, e1, e2, hI2⟩ := hop h hI [] rfl
  refine lv_aload_n hx hb z_ld731 rfl (lv_at hl 1 rfl) ?_
  refine z_lcall (As := []) (rest := []) (o := 0) C0 hG hK hSt (hmo 27 (Or.inl (by decide))) rfl rfl (by decide) (by decide +kernel) ⟨by decide, by decide, by decide +kernel⟩ (hmet 27 _ _ _ (by decide) (Nat.le_of_ble_eq_true rfl) e1) (z_wd_good (pl := 1055) (by decide +kernel) rfl) rfl (Nat.le_of_ble_eq_true rfl) z_ld732 hl.1 (Nat.le_of_ble_eq_true rfl) hcl hR hS (fun H locs hR hS => ?_)
  refine lv_aload_n hx hb z_ld733 rfl (lv_at hl 2 rfl) ?_
  refine z_lcall (As := []) (rest := [.int r]) (o := 122) C0 hG hK hSt (hmo 215 (Or.inl (by decide))) rfl rfl (by decide) (by decide +kernel) ⟨by decide, by decide, by decide +kernel⟩ (hmet 215 _ _ _ (by decide) (Nat.le_of_ble_eq_true rfl) e2) (z_wd_good (pl := 1563) (by decide +kernel) rfl) rfl (Nat.le_of_ble_eq_true rfl) z_ld734 hl.1 (Nat.le_of_ble_eq_true rfl) hcl hR hS (fun H locs hR hS => ?_)
  refine lv_icmp_eq (tgt := 1071) hx hb z_ld735 (by decide) (fun _ => ?_) (fun q => absurd rfl q)
  exact k h2 H locs hI2 hR hS
set_option maxRecDepth 8000 in
set_option maxHeartbeats 1000000 in
theorem z_law_28 {p : Program} {l : Launch} {e : Env} {s : State} {m : MethodId} {below : List Frame} {meth : Method} {c : Code} {Q : State → Prop} {b L : Nat} {xs : Nat → Int32} {G : z_G} {cells slots : Nat} {H : Heap} {locs : List Loc} {ls : Array Slot} {h : z_H} {Inv : z_H → Prop} (C0 : lw_At p s m meth c b L xs) (hL : L ≤ 2560) (hG : G.1 = s.heap.size) (hK : z_Kn G s) (hSt : z_St G s s.heap) (hmo : ∀ i, z_idok i → z_mok i) (hmet : ∀ id a h r, id < 221 → z_cat a ≤ z_ml id → z_M id a h = some r → z_Met l G id a h r) (hop : z_opok Inv 28 220 1) (hcl : cells ≤ room_1.cells ∧ slots ≤ room_1.slots)
    {i : Nat} (hi : i + 5 ≤ L) (hl : lv_has ls 4 [(0, .ref b), (1, .ref (G.1 + 0)), (2, .ref (G.1 + 122)), (3, .int (nI i))]) (hI : Inv h) (hR : z_Rep G h H) (hS : va_S (fun q : Nat => s.heap.size ≤ q) s.heap H locs)
    (k : ∀ (h2 : z_H) (H : Heap) (locs : List Loc), Inv h2 → z_Rep G h2 H → va_S (fun q : Nat => s.heap.size ≤ q) s.heap H locs → W p l e room_1 s m #[Value.ref b] below meth c H locs cells slots Q (F0 m 1071 ls [])) : W p l e room_1 s m #[Value.ref b] below meth c H locs cells slots Q (F0 m 1048 ls []) := by
  obtain ⟨hx, hb, -⟩ := id C0
  obtain ⟨r, h1, h2, e1, e2, hI2⟩ := hop h hI [xs (i + 1)] rfl
  refine lv_aload_n hx hb z_ld738 rfl (lv_at hl 1 rfl) ?_
  refine z_larg C0 hS hi (j := 1) (by decide) hL hl rfl z_ld739 z_ld740 z_ld741 z_ld742 z_ld743 ?_
  refine z_lcall (As := [.int (xs (i + 1))]) (rest := []) (o := 0) C0 hG hK hSt (hmo 28 (Or.inl (by decide))) rfl rfl (by decide) (by decide +kernel) ⟨by decide, by decide, by decide +kernel⟩ (hmet 28 _ _ _ (by decide) (Nat.le_of_ble_eq_true rfl) e1) (z_wd_good (pl := 1059) (by decide +kernel) rfl) rfl (Nat.le_of_ble_eq_true rfl) z_ld744 hl.1 (Nat.le_of_ble_eq_true rfl) hcl hR hS (fun H locs hR hS => ?_)
  refine lv_aload_n hx hb z_ld745 rfl (lv_at hl 2 rfl) ?_
  refine z_larg C0 hS hi (j := 1) (by decide) hL hl rfl z_ld746 z_ld747 z_ld748 z_ld749 z_ld750 ?_
  refine z_lcall (As := [.int (xs (i + 1))]) (rest := [.int r]) (o := 122) C0 hG hK hSt (hmo 220 (Or.inl (by decide))) rfl rfl (by decide) (by decide +kernel) ⟨by decide, by decide, by decide +kernel⟩ (hmet 220 _ _ _ (by decide) (Nat.le_of_ble_eq_true rfl) e2) (z_wd_good (pl := 1567) (by decide +kernel) rfl) rfl (Nat.le_of_ble_eq_true rfl) z_ld751 hl.1 (Nat.le_of_ble_eq_true rfl) hcl hR hS (fun H locs hR hS => ?_)
  refine lv_icmp_eq (tgt := 1071) hx hb z_ld752 (by decide) (fun _ => ?_) (fun q => absurd rfl q)
  exact k h2 H locs hI2 hR hS
/-- all of the law's calls -/
def z_allop (Inv : z_H → Prop) : Prop := z_opok Inv 0 133 1 ∧ z_opok Inv 1 134 1 ∧ z_opok Inv 2 150 0 ∧ z_opok Inv 3 151 0 ∧ z_opok Inv 4 183 1 ∧ z_opok Inv 5 184 3 ∧ z_opok Inv 6 185 3 ∧ z_opok Inv 7 190 2 ∧ z_opok Inv 8 191 2 ∧ z_opok Inv 9 194 2 ∧ z_opok Inv 10 195 2 ∧ z_opok Inv 11 196 2 ∧ z_opok Inv 12 197 1 ∧ z_opok Inv 13 198 4 ∧ z_opok Inv 14 199 4 ∧ z_opok Inv 15 200 3 ∧ z_opok Inv 16 201 3 ∧ z_opok Inv 17 203 0 ∧ z_opok Inv 18 204 0 ∧ z_opok Inv 19 206 3 ∧ z_opok Inv 20 207 1 ∧ z_opok Inv 21 208 2 ∧ z_opok Inv 22 209 1 ∧ z_opok Inv 23 210 1 ∧ z_opok Inv 24 212 3 ∧ z_opok Inv 25 213 3 ∧ z_opok Inv 26 214 4 ∧ z_opok Inv 27 215 0 ∧ z_opok Inv 28 220 1
theorem z_lgt {i L : Nat} (h1 : i ≤ 2570) (h2 : L ≤ 2560) (h : L < i + 5) : nI L - nI 5 < nI i := by
  rw [Int32.lt_iff_toInt_lt, pk_sub_toInt (by omega) (by omega), nI_toInt (by omega)]
  omega
theorem z_lngt {i L : Nat} (h1 : i ≤ 2570) (h2 : L ≤ 2560) (h : ¬ L < i + 5) : ¬ nI L - nI 5 < nI i := by
  rw [Int32.lt_iff_toInt_lt, pk_sub_toInt (by omega) (by omega), nI_toInt (by omega)]
  omega
/-! THE LAW'S LOOP -/
set_option maxRecDepth 8000 in
set_option maxHeartbeats 4000000 in
theorem z_law_loop {p : Program} {l : Launch} {e : Env} {s : State} {m : MethodId} {below : List Frame} {meth : Method} {c : Code} {b L : Nat} {xs : Nat → Int32} {G : z_G} {Inv : z_H → Prop} (C0 : lw_At p s m meth c b L xs) (hL : L ≤ 2560) (hG : G.1 = s.heap.size) (hK : z_Kn G s) (hSt : z_St G s s.heap) (hmo : ∀ i, z_idok i → z_mok i) (hmet : ∀ id a h r, id < 221 → z_cat a ≤ z_ml id → z_M id a h = some r → z_Met l G id a h r) (hop : z_allop Inv) :
    ∀ (n i : Nat) (h : z_H) (H : Heap) (locs : List Loc) (ls : Array Slot), L < i + n → i ≤ L + 5 → lv_has ls 4 [(0, .ref b), (1, .ref (G.1 + 0)), (2, .ref (G.1 + 122)), (3, .int (nI i))] → Inv h → z_Rep G h H → va_S (fun q : Nat => s.heap.size ≤ q) s.heap H locs → W p l e room_1 s m #[Value.ref b] below meth c H locs 600000 7302250 (lw_Z below #[Value.ref b] s) (F0 m 18 ls []) := by
  obtain ⟨hx, hb, hr, hml, hown, hts, hX, hbl, hlocks, hgv⟩ := id C0
  have hbA : ¬ (fun q : Nat => s.heap.size ≤ q) b := Nat.not_le.mpr hbl
  have hcl : 600000 ≤ room_1.cells ∧ 7302250 ≤ room_1.slots := ⟨Nat.le_of_ble_eq_true rfl, Nat.le_of_ble_eq_true rfl⟩
  intro n
  induction n with
  | zero =>
    intro i h H locs ls h1 h2 hl hI hR hS
    have hgt : L < i + 5 := by omega
    refine lv_iload_n hx hb z_ld10 rfl (lv_at hl 3 rfl) ?_
    refine lv_aload_n hx hb z_ld11 rfl (lv_at hl 0 rfl) ?_
    refine va_slen hx hb hX hbl hbA hS z_ld12 ?_
    refine lv_iconst (v := nI 5) hx hb z_ld13 (by decide) ?_
    refine lv_isub hx hb z_ld14 ?_
    refine lv_icmp_gt (tgt := 1077) hx hb z_ld15 (by decide) (fun _ => ?_) (fun q => absurd (z_lgt (by omega) (by omega) hgt) q)
    refine lv_iconst (v := 1) hx hb z_ld757 (by decide) ?_
    refine va_forget (fun q hq => hS.2.2 q hq) ?_
    exact lw_ret hx hb hr hlocks z_ld758
  | succ n ih =>
    intro i h H locs ls h1 h2 hl hI hR hS
    refine lv_iload_n hx hb z_ld10 rfl (lv_at hl 3 rfl) ?_
    refine lv_aload_n hx hb z_ld11 rfl (lv_at hl 0 rfl) ?_
    refine va_slen hx hb hX hbl hbA hS z_ld12 ?_
    refine lv_iconst (v := nI 5) hx hb z_ld13 (by decide) ?_
    refine lv_isub hx hb z_ld14 ?_
    by_cases hgt : L < i + 5
    · refine lv_icmp_gt (tgt := 1077) hx hb z_ld15 (by decide) (fun _ => ?_) (fun q => absurd (z_lgt (by omega) (by omega) hgt) q)
      refine lv_iconst (v := 1) hx hb z_ld757 (by decide) ?_
      refine va_forget (fun q hq => hS.2.2 q hq) ?_
      exact lw_ret hx hb hr hlocks z_ld758
    · refine lv_icmp_gt (tgt := 1077) hx hb z_ld15 (by decide) (fun q => absurd q (z_lngt (by omega) (by omega) hgt)) (fun _ => ?_)
      refine lv_aload_n hx hb z_ld16 rfl (lv_at hl 0 rfl) ?_
      refine lv_iload_n hx hb z_ld17 rfl (lv_at hl 3 rfl) ?_
      refine va_sld hx hb hX hbl hbA hS (vp_in_nI (by omega) (by omega)) z_ld18 ?_
      refine lv_bipush (v := 31) hx hb z_ld19 (by decide) ?_
      refine lv_iand hx hb z_ld20 ?_
      obtain ⟨j, hj, ej⟩ := pk_andE (xs (nI i).toNatClampNeg) (m := 31) 5 (by decide)
      rw [ej]
      have tail : ∀ (h2 : z_H) (H : Heap) (locs : List Loc), Inv h2 → z_Rep G h2 H → va_S (fun q : Nat => s.heap.size ≤ q) s.heap H locs → W p l e room_1 s m #[Value.ref b] below meth c H locs 600000 7302250 (lw_Z below #[Value.ref b] s) (F0 m 1071 ls []) := by
        intro h2 H locs hI hR hS
        refine lv_iinc (v := nI (i + 5)) (lv' := [(3, .int (nI (i + 5))), (0, .ref b), (1, .ref (G.1 + 0)), (2, .ref (G.1 + 122))]) hx hb z_ld755 hl (k := 3) rfl (by rw [← nI_add]; rfl) (by decide) rfl (fun ls hl => ?_)
        refine lv_goto (tgt := 18) hx hb z_ld756 (by decide) ?_
        exact ih (i + 5) h2 H locs ls (by omega) (by omega) (lv_sub hl [1, 2, 3, 0] rfl) hI hR hS
      obtain ⟨o0, o1, o2, o3, o4, o5, o6, o7, o8, o9, o10, o11, o12, o13, o14, o15, o16, o17, o18, o19, o20, o21, o22, o23, o24, o25, o26, o27, o28⟩ := hop
      have hsw := z_ld21
      have key : j = 0 ∨ j = 1 ∨ j = 2 ∨ j = 3 ∨ j = 4 ∨ j = 5 ∨ j = 6 ∨ j = 7 ∨ j = 8 ∨ j = 9 ∨ j = 10 ∨ j = 11 ∨ j = 12 ∨ j = 13 ∨ j = 14 ∨ j = 15 ∨ j = 16 ∨ j = 17 ∨ j = 18 ∨ j = 19 ∨ j = 20 ∨ j = 21 ∨ j = 22 ∨ j = 23 ∨ j = 24 ∨ j = 25 ∨ j = 26 ∨ j = 27 ∨ j = 28 ∨ j = 29 ∨ j = 30 ∨ j = 31 := by omega
      rcases key with rfl | rfl | rfl | rfl | rfl | rfl | rfl | rfl | rfl | rfl | rfl | rfl | rfl | rfl | rfl | rfl | rfl | rfl | rfl | rfl | rfl | rfl | rfl | rfl | rfl | rfl | rfl | rfl | rfl | rfl | rfl | rfl
      · exact lv_tableIn (tgt := 164) hx hb hsw (by decide) (by decide) rfl (by decide) (z_law_0 C0 hL hG hK hSt hmo hmet o0 hcl (by omega) hl hI hR hS tail)
      · exact lv_tableIn (tgt := 187) hx hb hsw (by decide) (by decide) rfl (by decide) (z_law_1 C0 hL hG hK hSt hmo hmet o1 hcl (by omega) hl hI hR hS tail)
      · exact lv_tableIn (tgt := 210) hx hb hsw (by decide) (by decide) rfl (by decide) (z_law_2 C0 hL hG hK hSt hmo hmet o2 hcl (by omega) hl hI hR hS tail)
      · exact lv_tableIn (tgt := 223) hx hb hsw (by decide) (by decide) rfl (by decide) (z_law_3 C0 hL hG hK hSt hmo hmet o3 hcl (by omega) hl hI hR hS tail)
      · exact lv_tableIn (tgt := 236) hx hb hsw (by decide) (by decide) rfl (by decide) (z_law_4 C0 hL hG hK hSt hmo hmet o4 hcl (by omega) hl hI hR hS tail)
      · exact lv_tableIn (tgt := 259) hx hb hsw (by decide) (by decide) rfl (by decide) (z_law_5 C0 hL hG hK hSt hmo hmet o5 hcl (by omega) hl hI hR hS tail)
      · exact lv_tableIn (tgt := 302) hx hb hsw (by decide) (by decide) rfl (by decide) (z_law_6 C0 hL hG hK hSt hmo hmet o6 hcl (by omega) hl hI hR hS tail)
      · exact lv_tableIn (tgt := 345) hx hb hsw (by decide) (by decide) rfl (by decide) (z_law_7 C0 hL hG hK hSt hmo hmet o7 hcl (by omega) hl hI hR hS tail)
      · exact lv_tableIn (tgt := 378) hx hb hsw (by decide) (by decide) rfl (by decide) (z_law_8 C0 hL hG hK hSt hmo hmet o8 hcl (by omega) hl hI hR hS tail)
      · exact lv_tableIn (tgt := 411) hx hb hsw (by decide) (by decide) rfl (by decide) (z_law_9 C0 hL hG hK hSt hmo hmet o9 hcl (by omega) hl hI hR hS tail)
      · exact lv_tableIn (tgt := 444) hx hb hsw (by decide) (by decide) rfl (by decide) (z_law_10 C0 hL hG hK hSt hmo hmet o10 hcl (by omega) hl hI hR hS tail)
      · exact lv_tableIn (tgt := 477) hx hb hsw (by decide) (by decide) rfl (by decide) (z_law_11 C0 hL hG hK hSt hmo hmet o11 hcl (by omega) hl hI hR hS tail)
      · exact lv_tableIn (tgt := 510) hx hb hsw (by decide) (by decide) rfl (by decide) (z_law_12 C0 hL hG hK hSt hmo hmet o12 hcl (by omega) hl hI hR hS tail)
      · exact lv_tableIn (tgt := 533) hx hb hsw (by decide) (by decide) rfl (by decide) (z_law_13 C0 hL hG hK hSt hmo hmet o13 hcl (by omega) hl hI hR hS tail)
      · exact lv_tableIn (tgt := 586) hx hb hsw (by decide) (by decide) rfl (by decide) (z_law_14 C0 hL hG hK hSt hmo hmet o14 hcl (by omega) hl hI hR hS tail)
      · exact lv_tableIn (tgt := 639) hx hb hsw (by decide) (by decide) rfl (by decide) (z_law_15 C0 hL hG hK hSt hmo hmet o15 hcl (by omega) hl hI hR hS tail)
      · exact lv_tableIn (tgt := 682) hx hb hsw (by decide) (by decide) rfl (by decide) (z_law_16 C0 hL hG hK hSt hmo hmet o16 hcl (by omega) hl hI hR hS tail)
      · exact lv_tableIn (tgt := 725) hx hb hsw (by decide) (by decide) rfl (by decide) (z_law_17 C0 hL hG hK hSt hmo hmet o17 hcl (by omega) hl hI hR hS tail)
      · exact lv_tableIn (tgt := 738) hx hb hsw (by decide) (by decide) rfl (by decide) (z_law_18 C0 hL hG hK hSt hmo hmet o18 hcl (by omega) hl hI hR hS tail)
      · exact lv_tableIn (tgt := 751) hx hb hsw (by decide) (by decide) rfl (by decide) (z_law_19 C0 hL hG hK hSt hmo hmet o19 hcl (by omega) hl hI hR hS tail)
      · exact lv_tableIn (tgt := 794) hx hb hsw (by decide) (by decide) rfl (by decide) (z_law_20 C0 hL hG hK hSt hmo hmet o20 hcl (by omega) hl hI hR hS tail)
      · exact lv_tableIn (tgt := 817) hx hb hsw (by decide) (by decide) rfl (by decide) (z_law_21 C0 hL hG hK hSt hmo hmet o21 hcl (by omega) hl hI hR hS tail)
      · exact lv_tableIn (tgt := 850) hx hb hsw (by decide) (by decide) rfl (by decide) (z_law_22 C0 hL hG hK hSt hmo hmet o22 hcl (by omega) hl hI hR hS tail)
      · exact lv_tableIn (tgt := 873) hx hb hsw (by decide) (by decide) rfl (by decide) (z_law_23 C0 hL hG hK hSt hmo hmet o23 hcl (by omega) hl hI hR hS tail)
      · exact lv_tableIn (tgt := 896) hx hb hsw (by decide) (by decide) rfl (by decide) (z_law_24 C0 hL hG hK hSt hmo hmet o24 hcl (by omega) hl hI hR hS tail)
      · exact lv_tableIn (tgt := 939) hx hb hsw (by decide) (by decide) rfl (by decide) (z_law_25 C0 hL hG hK hSt hmo hmet o25 hcl (by omega) hl hI hR hS tail)
      · exact lv_tableIn (tgt := 982) hx hb hsw (by decide) (by decide) rfl (by decide) (z_law_26 C0 hL hG hK hSt hmo hmet o26 hcl (by omega) hl hI hR hS tail)
      · exact lv_tableIn (tgt := 1035) hx hb hsw (by decide) (by decide) rfl (by decide) (z_law_27 C0 hL hG hK hSt hmo hmet o27 hcl (by omega) hl hI hR hS tail)
      · exact lv_tableIn (tgt := 1048) hx hb hsw (by decide) (by decide) rfl (by decide) (z_law_28 C0 hL hG hK hSt hmo hmet o28 hcl (by omega) hl hI hR hS tail)
      · exact lv_tableOut (tgt := 1071) hx hb hsw (by decide) (by decide) (tail h H locs hI hR hS)
      · exact lv_tableOut (tgt := 1071) hx hb hsw (by decide) (by decide) (tail h H locs hI hR hS)
      · exact lv_tableOut (tgt := 1071) hx hb hsw (by decide) (by decide) (tail h H locs hI hR hS)
end
section
/-! CONTRACTS OF THE LIBRARY'S OWN METHODS -/
def y_Qc (rv : Option Value) : Array Value → State → Outcome → State → Prop := fun _ st o t => o = .returned rv ∧ t.heap = st.heap
def y_Pc (P : State → Prop) (a : List Value) : Array Value → State → Prop := fun v U => v = a.toArray ∧ P U
def y_ws (t : z_Mt) : List Cond := Cond.code t.1 t.2.1 t.2.2.1 t.2.2.2 :: z_good
def y_Met (l : Launch) (t : z_Mt) (n : Nat) (P : State → Prop) (a : List Value) (rv : Option Value) : Prop := Met l t.1 (y_ws t) (z_rm n) (y_Pc P a) (y_Qc rv) 0 0 (fun _ => False)
def y_blind (P : State → Prop) : Prop := ∀ a : List Value, FrameBlind (y_Pc P a)
theorem y_goodIn {own t : z_Mt} (hm : Cond.code t.1 t.2.1 t.2.2.1 t.2.2.2 ∈ z_good) : GoodIn (y_ws own) (y_ws t) := by
  have key : ∀ w ∈ z_good, w ∈ y_ws own ∧ ((w.onTables && w.keeps) = true ∨ ∃ ty, w = .arrayClass ty) := fun w hw => ⟨List.mem_cons_of_mem _ hw, good_of_word (List.mem_filter.mp hw).2⟩
  intro w hw
  rcases List.mem_cons.mp hw with rfl | hw
  · exact key _ hm
  · exact key w hw
theorem y_ofW {l : Launch} {t : z_Mt} {n : Nat} {P : State → Prop} {a : List Value} {rv : Option Value} (h1 : plainName t.1.cls = true) (hcat : z_cat a ≤ t.2.2.1)
    (hk : ∀ (p : Program) (e : Env) (s : State) (m : MethodId) (below : List Frame) (meth : Method) (c : Code) (ls : Array Slot), p.tables.exec = Jvm.exec → c.code = t.2.1 → c.maxLocals = t.2.2.1 → s.vm.findClass t.1.cls = some m.cls → (∀ w ∈ y_ws t, w.before a.toArray s = true) → meth.sig.returnType = t.2.2.2 → meth.locks = false → P s → lv_has ls t.2.2.1 (lv_args 0 a) →
      W p l e (headSpec (y_ws t) (z_rm n)).room s m a.toArray below meth c s.heap [] 0 0 (MQ below (y_Qc rv) a.toArray s 0 0 (fun _ => False)) (F0 m 0 ls [])) : y_Met l t n P a rv := by
  unfold y_Met
  refine Met.ofW (cc := t.2.1) (maxL := t.2.2.1) (ret := t.2.2.2) h1 rfl ?_
  intro p e s m args below meth c s₁ B hml hv
  obtain ⟨rfl, hP⟩ := hv
  have hent := lv_entry a (n := t.2.2.1) (by rw [z_lgsl]; exact hcat)
  rw [lg_entry_eq]
  exact hk p e s m below meth c _ B.exec B.bytes hml (findClass_of_methodNamed B.named) (atoms_spec (ws := y_ws t) B.pre) B.returns B.notSynchronized hP hent
section YCL
variable {p : Program} {l : Launch} {e : Env} {R : Room} {s : State} {m : MethodId} {args : Array Value} {below : List Frame} {meth : Method} {c : Code} {Q : State → Prop}
variable {H : Heap} {locs : List Loc} {ls : Array Slot} {pc nL : Nat} {cc : ByteArray}
theorem y_back {a : Array Value} {rest st0 : List Value} {rv : Option Value} (hr : va_Run p l e R s m args below meth c H locs 0 0 0 0 (F0 m pc ls st0) rest (y_Qc rv a) (fun _ => False)) (k : W p l e R s m args below meth c H locs 0 0 Q (F0 m (pc + 3) ls (rv.toList ++ rest))) : W p l e R s m args below meth c H locs 0 0 Q (F0 m pc ls st0) := by
  intro T hT X
  obtain ⟨v, st₀, t, T', L, h0, X', hL, e1, e2, ⟨hv, hq⟩, st⟩ := hr T hT X
  cases hv
  have hL0 : L = [] := by
    cases L with
    | nil => rfl
    | cons q r => exact absurd (hL q List.mem_cons_self) (fun h => h)
  subst hL0
  rw [List.append_nil] at X'
  obtain ⟨t2, a1, b1⟩ := k T' (by rw [e1, hq, h0]) X'
  exact ⟨t2, st t2 a1, b1⟩
/-- what a call needs of the tables -/
def y_ok (own t : z_Mt) (i n : Nat) : Prop := Cond.code t.1 t.2.1 t.2.2.1 t.2.2.2 ∈ z_good ∧ Cond.initialized t.1.cls ∈ z_good ∧ (t.1.cls ≠ "java/lang/invoke/MethodHandle" ∧ t.1.cls ≠ "java/lang/invoke/VarHandle") ∧ (parseMethodDescriptor t.1.desc).map (fun d => d.parameters.length) = some n ∧ Cond.methodLink own.1.cls i t.1 ∈ z_good ∧ t.2.2.1 ≤ 60
theorem y_callS {own t : z_Mt} {i k : Nat} {P : State → Prop} {a rest : List Value} {rv : Option Value} (hx : p.tables.exec = Jvm.exec) (hb : c.code = cc) (hml : c.maxLocals = nL) (hown : s.vm.findClass own.1.cls = some m.cls) (hts : ∀ w ∈ y_ws own, w.before args s = true) (hls : ls.size = nL)
    (hM : y_Met l t k P a rv) (hok : y_ok own t i a.length) (hst : Cond.static t.1 ∈ z_good) (hbl : y_blind P) (hP : ∀ U : State, U.heap = H → s.WarmedH U.vm → P U) (hfr : k + 1 ≤ R.frames ∧ 80 * k + 80 ≤ R.locals) (hcat : z_cat rest ≤ 8) {st : List Value} (hstk : st = a.reverse ++ rest) (hd : decode cc pc = .ok (.invokestatic i, 3))
    (kk : W p l e R s m args below meth c H locs 0 0 Q (F0 m (pc + 3) ls (rv.toList ++ rest))) : W p l e R s m args below meth c H locs 0 0 Q (F0 m pc ls st) := by
  obtain ⟨m1, m2, m3, m4, m5, m6⟩ := hok
  have hgood : ∀ w ∈ z_good, w.before args s = true := fun w hw => hts w (List.mem_cons_of_mem _ hw)
  have hfix : CallFix p m c cc nL s args (y_ws own) own.1.cls := ⟨hx, hb, hml, hown, hts⟩
  have hpay := pay_in hts (y_goodIn (own := own) m1)
  have hlen : ∀ sig, parseMethodDescriptor t.1.desc = some sig → a.length = sig.parameters.length := fun sig hs => by
    rw [hs] at m4
    exact (Option.some.inj m4).symm
  have hlo : 8 + (t.2.2.1 + 11) + (z_rm k).locals ≤ R.locals := by
    show 8 + (_ + 11) + 80 * _ ≤ _
    omega
  have hpre : PreS s H (y_Pc P a) a := ⟨hbl a, fun U hU hW => ⟨rfl, hP U hU hW⟩⟩
  have hW : 2 * (F0 m pc ls st).monitorRoom + (rest.map fun v => v.category).sum ≤ 8 := by
    show 2 * 0 + _ ≤ 8
    rw [Nat.mul_zero, Nat.zero_add]
    exact hcat
  exact y_back (va_runS (R := R) (p := p) (l := l) (e := e) (below := below) (meth := meth) (cells := 0) (slots := 0) (locs := locs) hfix hM (cw := ⟨⟨rfl, rfl, hfr.1, hlo, hpay, List.mem_cons_self, hgood _ m1, hgood _ m2, m3, hlen, hgood _ m5⟩, hgood _ hst⟩) hpre (g := F0 m pc ls st) rfl rfl hls hstk hW hd ⟨Nat.zero_le _, Nat.zero_le _⟩) kk
theorem y_callV {own t : z_Mt} {i k b : Nat} {P : State → Prop} {As rest : List Value} {rv : Option Value} (hx : p.tables.exec = Jvm.exec) (hb : c.code = cc) (hml : c.maxLocals = nL) (hown : s.vm.findClass own.1.cls = some m.cls) (hts : ∀ w ∈ y_ws own, w.before args s = true) (hls : ls.size = nL)
    (hM : y_Met l t k P (.ref b :: As) rv) (hok : y_ok own t i As.length) (hst : Cond.instanceMethod t.1 ∈ z_good ∧ Cond.selects t.1.cls t.1 t.1 ∈ z_good) (hbl : y_blind P) (hP : ∀ U : State, U.heap = H → s.WarmedH U.vm → P U) (hcell : ∃ cellB : Cell, H[b]? = some cellB ∧ cellB.vm.isStatics = false ∧ s.vm.findClass t.1.cls = some cellB.cls) (hfr : k + 1 ≤ R.frames ∧ 80 * k + 80 ≤ R.locals) (hcat : z_cat rest ≤ 8) {st : List Value} (hstk : st = As.reverse ++ .ref b :: rest) (hd : decode cc pc = .ok (.invokevirtual i, 3))
    (kk : W p l e R s m args below meth c H locs 0 0 Q (F0 m (pc + 3) ls (rv.toList ++ rest))) : W p l e R s m args below meth c H locs 0 0 Q (F0 m pc ls st) := by
  obtain ⟨m1, m2, m3, m4, m5, m6⟩ := hok
  have hgood : ∀ w ∈ z_good, w.before args s = true := fun w hw => hts w (List.mem_cons_of_mem _ hw)
  have hfix : CallFix p m c cc nL s args (y_ws own) own.1.cls := ⟨hx, hb, hml, hown, hts⟩
  have hpay := pay_in hts (y_goodIn (own := own) m1)
  have hlen : ∀ sig, parseMethodDescriptor t.1.desc = some sig → As.length = sig.parameters.length := fun sig hs => by
    rw [hs] at m4
    exact (Option.some.inj m4).symm
  have hlo : 8 + (t.2.2.1 + 11) + (z_rm k).locals ≤ R.locals := by
    show 8 + (_ + 11) + 80 * _ ≤ _
    omega
  have hpre : PreV s H t.1.cls b (y_Pc P (.ref b :: As)) As := ⟨hbl _, hcell, fun U hU hW => ⟨rfl, hP U hU hW⟩⟩
  have hW : 2 * (F0 m pc ls st).monitorRoom + (rest.map fun v => v.category).sum ≤ 8 := by
    show 2 * 0 + _ ≤ 8
    rw [Nat.mul_zero, Nat.zero_add]
    exact hcat
  exact y_back (va_runV (R := R) (p := p) (l := l) (e := e) (below := below) (meth := meth) (cells := 0) (slots := 0) (locs := locs) hfix hM (cw := ⟨⟨rfl, rfl, hfr.1, hlo, hpay, List.mem_cons_self, hgood _ m1, hgood _ m2, m3, hlen, hgood _ m5⟩, hgood _ hst.1, hgood _ hst.2⟩) hpre (g := F0 m pc ls st) rfl rfl hls hstk hW hd ⟨Nat.zero_le _, Nat.zero_le _⟩) kk
theorem y_ret {free : Addr → Prop} {Qc : Array Value → State → Outcome → State → Prop} {v : Int32} {ty : FieldType} {cells slots : Nat} (hexec : p.tables.exec = Jvm.exec) (hb : c.code = cc) (hr : meth.sig.returnType = some ty) (hn : narrow ty (.int v) = .int v)
    (hq : ∀ t : State, t.heap = H → s.WarmedH t.vm → Qc args s (.returned (some (.int v))) t) (hf : ∀ q ∈ locs, free q.base)
    {stk : List Value} (hdg : decode cc pc = .ok (.ireturn, 1)) (hlocks : meth.locks = false) : W p l e R s m args below meth c H locs cells slots (MQ below Qc args s cells slots free) (F0 m pc ls (.int v :: stk)) := by
  intro T hT X
  obtain ⟨fs, hret, hrun, hended, hW, hframe⟩ := X.leave (v := some (.int v)) (fun h => by rw [hr] at h; cases h)
  have hmeth' : T.vm.method? m = some meth := X.method'
  refine ⟨T.setFrames fs, ?_, .returned (some (.int v)), hrun, hended, hq _ hT hW, locs, ⟨⟨_, rfl⟩, hW, hframe⟩, hf⟩
  jvm_step X.here [X.here.top, hexec, hb, hdg, hmeth', hr, hn]
  (try refine ⟨rfl, ?_⟩); (try refine ⟨rfl, ?_⟩)
  first | (intro acts; rw [hret _ acts rfl rfl rfl]) | rw [hret _ _ rfl rfl rfl]
  exact Steps.refl _
end YCL
theorem y_g {w : Cond} (i : Nat) (h : lw_tbl[i]? = some w) (g : goodWord w = true) : w ∈ z_good := List.mem_filter.mpr ⟨List.mem_of_getElem? (i := i) h, g⟩
theorem y_S0 {G : z_G} (H : Heap) : va_S (fun q => G.1 ≤ q) H H [] := ⟨Nat.le_refl _, fun _ _ _ => rfl, fun _ h => by cases h⟩
def y_P0 (G : z_G) : State → Prop := fun U => z_St G U U.heap
def y_P1 (G : z_G) (t N : Nat) (f : Nat → Value) : State → Prop := fun U => z_St G U U.heap ∧ va_T .byte t N f (fun q => G.1 ≤ q) U U.heap
theorem y_b0 (G : z_G) : y_blind (y_P0 G) := fun _ _ U _ _ q => ⟨q.1, z_St.to (s := U) (Vm.Alike.refl _) (fun _ _ _ => rfl) q.2⟩
theorem y_b1 (G : z_G) (t N : Nat) (f : Nat → Value) : y_blind (y_P1 G t N f) := fun _ _ U _ _ q => ⟨q.1, z_St.to (s := U) (Vm.Alike.refl _) (fun _ _ _ => rfl) q.2.1, va_T.moved (u := U) (Vm.Alike.refl _) q.2.2⟩
def y_coder : z_Mt := (⟨"java/lang/String", "coder", "()B"⟩, prog_16_method_152_code, 1, some .byte)
def y_latin : z_Mt := (⟨"java/lang/String", "isLatin1", "()Z"⟩, prog_16_method_154_code, 1, some .boolean)
def y_pre : z_Mt := (⟨"jdk/internal/util/Preconditions", "checkIndex", "(IILjava/util/function/BiFunction;)I"⟩, prog_21_method_11_code, 3, some .int)
def y_chk : z_Mt := (⟨"java/lang/String", "checkIndex", "(II)V"⟩, prog_16_method_155_code, 2, none)
def y_lat : z_Mt := (⟨"java/lang/StringLatin1", "charAt", "([BI)C"⟩, prog_17_method_2_code, 2, some .char)
theorem y_m_coder (l : Launch) (G : z_G) {i : Nat} (hi : i < 6) : y_Met l y_coder 1 (y_P0 G) [.ref (G.2.1 (1000 + i))] (some (.int 0)) := by
  refine y_ofW (by decide) (Nat.le_of_ble_eq_true rfl) ?_
  intro p e s m below meth c ls hx hb hml hown hts hret hlk hP hl
  obtain ⟨adV, hS, hZ, -⟩ := hP
  obtain ⟨-, hC, -, -⟩ := hS.1 i hi
  have hg : ∀ w ∈ z_good, w.before _ s = true := fun w hw => hts w (List.mem_cons_of_mem _ hw)
  refine va_gets (index := 38) (own := "java/lang/String") (ref := "java/lang/String") hx hb hZ (y_S0 _) hown (hg _ (y_g 572 (by decide +kernel) rfl)) (fun _ h => h) (by decide +kernel) ?_
  refine lv_if_eq hx hb (off := 10) (tgt := 13) (by decide +kernel) rfl (fun h => absurd h (by decide)) (fun _ => ?_)
  refine lv_aload_n hx hb (k := 0) (i := 0) (by decide +kernel) rfl (lv_at hl 0 rfl) ?_
  refine vk_getf (index := 15) (own := "java/lang/String") (ref := "java/lang/String") hx hb hC (y_S0 _) hown (hg _ (y_g 1588 (by decide +kernel) rfl)) (fun _ h => h) (by decide +kernel) ?_
  refine lv_goto hx hb (off := 4) (tgt := 14) (by decide +kernel) rfl ?_
  exact y_ret hx hb hret rfl (fun t ht _ => ⟨rfl, ht⟩) (fun _ h => by cases h) (by decide +kernel) hlk
theorem y_m_latin (l : Launch) (G : z_G) {i : Nat} (hi : i < 6) : y_Met l y_latin 1 (y_P0 G) [.ref (G.2.1 (1000 + i))] (some (.int 1)) := by
  refine y_ofW (by decide) (Nat.le_of_ble_eq_true rfl) ?_
  intro p e s m below meth c ls hx hb hml hown hts hret hlk hP hl
  obtain ⟨adV, hS, hZ, -⟩ := hP
  obtain ⟨-, hC, -, -⟩ := hS.1 i hi
  have hg : ∀ w ∈ z_good, w.before _ s = true := fun w hw => hts w (List.mem_cons_of_mem _ hw)
  refine va_gets (index := 38) (own := "java/lang/String") (ref := "java/lang/String") hx hb hZ (y_S0 _) hown (hg _ (y_g 572 (by decide +kernel) rfl)) (fun _ h => h) (by decide +kernel) ?_
  refine lv_if_eq hx hb (off := 14) (tgt := 17) (by decide +kernel) rfl (fun h => absurd h (by decide)) (fun _ => ?_)
  refine lv_aload_n hx hb (k := 0) (i := 0) (by decide +kernel) rfl (lv_at hl 0 rfl) ?_
  refine vk_getf (index := 15) (own := "java/lang/String") (ref := "java/lang/String") hx hb hC (y_S0 _) hown (hg _ (y_g 1588 (by decide +kernel) rfl)) (fun _ h => h) (by decide +kernel) ?_
  refine lv_if_ne hx hb (off := 7) (tgt := 17) (by decide +kernel) rfl (fun h => absurd rfl h) (fun _ => ?_)
  refine lv_iconst hx hb (n := 1) (v := 1) (by decide +kernel) rfl ?_
  refine lv_goto hx hb (off := 4) (tgt := 18) (by decide +kernel) rfl ?_
  exact y_ret hx hb hret rfl (fun t ht _ => ⟨rfl, ht⟩) (fun _ h => by cases h) (by decide +kernel) hlk
theorem y_m_pre (l : Launch) (G : z_G) {k n : Int32} (v : Value) (hv : v.category = 1) (h0 : ¬ k < 0) (h1 : k < n) : y_Met l y_pre 1 (y_P0 G) [.int k, .int n, v] (some (.int k)) := by
  refine y_ofW (by decide) (by show 1 + (1 + (v.category + 0)) ≤ 3; omega) ?_
  intro p e s m below meth c ls hx hb hml hown hts hret hlk hP hl
  refine lv_iload_n hx hb (k := 0) (i := 0) (by decide +kernel) rfl (lv_at hl 0 rfl) ?_
  refine lv_if_lt hx hb (off := 8) (tgt := 9) (by decide +kernel) rfl (fun h => absurd h h0) (fun _ => ?_)
  refine lv_iload_n hx hb (k := 0) (i := 0) (by decide +kernel) rfl (lv_at hl 0 rfl) ?_
  refine lv_iload_n hx hb (k := 1) (i := 1) (by decide +kernel) rfl (lv_at hl 1 rfl) ?_
  refine lv_icmp_lt hx hb (off := 10) (tgt := 16) (by decide +kernel) rfl (fun _ => ?_) (fun h => absurd h1 h)
  refine lv_iload_n hx hb (k := 0) (i := 0) (by decide +kernel) rfl (lv_at hl 0 rfl) ?_
  exact y_ret hx hb hret rfl (fun t ht _ => ⟨rfl, ht⟩) (fun _ h => by cases h) (by decide +kernel) hlk
theorem y_m_chk (l : Launch) (G : z_G) {k n : Int32} (h0 : ¬ k < 0) (h1 : k < n) : y_Met l y_chk 2 (y_P0 G) [.int k, .int n] none := by
  refine y_ofW (by decide) (Nat.le_of_ble_eq_true rfl) ?_
  intro p e s m below meth c ls hx hb hml hown hts hret hlk hP hl
  have hP0 : ∀ U : State, U.heap = s.heap → s.WarmedH U.vm → y_P0 G U := fun U hU hW => by
    show z_St G U U.heap
    rw [hU]
    exact z_St.to hW.alike (fun _ _ _ => rfl) hP
  obtain ⟨adV, hS, -, hZ⟩ := hP
  have hg : ∀ w ∈ z_good, w.before _ s = true := fun w hw => hts w (List.mem_cons_of_mem _ hw)
  refine lv_iload_n hx hb (k := 0) (i := 0) (by decide +kernel) rfl (lv_at hl 0 rfl) ?_
  refine lv_iload_n hx hb (k := 1) (i := 1) (by decide +kernel) rfl (lv_at hl 1 rfl) ?_
  have key : ∀ v : Value, v.category = 1 → va_Z "jdk/internal/util/Preconditions" "SIOOBE_FORMATTER" "Ljava/util/function/BiFunction;" v (fun q => G.1 ≤ q) s s.heap → W p l e (headSpec (y_ws y_chk) (z_rm 2)).room s m [Value.int k, .int n].toArray below meth c s.heap [] 0 0 (MQ below (y_Qc none) [Value.int k, .int n].toArray s 0 0 (fun _ => False)) (F0 m 2 ls [.int n, .int k]) := by
    intro v hv hZ
    refine va_gets (index := 1053) (own := "java/lang/String") (ref := "jdk/internal/util/Preconditions") hx hb hZ (y_S0 _) hown (hg _ (y_g 588 (by decide +kernel) rfl)) (fun _ h => h) (by decide +kernel) ?_
    refine y_callS (own := y_chk) (t := y_pre) (i := 1059) (a := [.int k, .int n, v]) (rest := []) (k := 1) hx hb hml hown hts hl.1 (y_m_pre l G v hv h0 h1) ⟨y_g 592 (by decide +kernel) rfl, y_g 108 (by decide +kernel) rfl, by decide, (show _ = some 3 from by decide +kernel), y_g 590 (by decide +kernel) rfl, by decide⟩ (y_g 591 (by decide +kernel) rfl) (y_b0 G) hP0 ⟨Nat.le_of_ble_eq_true rfl, Nat.le_of_ble_eq_true rfl⟩ (Nat.le_of_ble_eq_true rfl) rfl (by decide +kernel) ?_
    refine lv_pop hx hb (by decide +kernel) rfl ?_
    exact z_vret hx hb hret (fun t ht _ => ⟨rfl, ht⟩) (fun _ h => by cases h) (by decide +kernel) hlk
  rcases hZ with hZ | ⟨t, hZ⟩
  · exact key _ rfl hZ
  · exact key _ rfl hZ
theorem y_m_lat (l : Launch) (G : z_G) {t N j : Nat} {f : Nat → Value} {x v : Int32} (hj : j < N) (hN : N < 1000) (hf : f j = .int x) (hv : ((x &&& 255).toUInt32 % 65536).toInt32 = v) (hn : narrow .char (.int v) = .int v) : y_Met l y_lat 3 (y_P1 G t N f) [.ref t, .int (nI j)] (some (.int v)) := by
  refine y_ofW (by decide) (Nat.le_of_ble_eq_true rfl) ?_
  intro p e s m below meth c ls hx hb hml hown hts hret hlk hP hl
  obtain ⟨hP, hT⟩ := hP
  have hP0 : ∀ U : State, U.heap = s.heap → s.WarmedH U.vm → y_P0 G U := fun U hU hW => by
    show z_St G U U.heap
    rw [hU]
    exact z_St.to hW.alike (fun _ _ _ => rfl) hP
  have hjn : (nI j).toNatClampNeg = j := nI_clamp (by omega)
  refine lv_iload_n hx hb (k := 1) (i := 1) (by decide +kernel) rfl (lv_at hl 1 rfl) ?_
  refine lv_aload_n hx hb (k := 0) (i := 0) (by decide +kernel) rfl (lv_at hl 0 rfl) ?_
  refine va_tlen hx hb hT (y_S0 _) (v := nI N) rfl (by decide +kernel) ?_
  refine y_callS (own := y_lat) (t := y_chk) (i := 9) (a := [.int (nI j), .int (nI N)]) (rest := []) (k := 2) hx hb hml hown hts hl.1 (y_m_chk l G (nI_pos (by omega)) (nI_lt hj (by omega))) ⟨y_g 587 (by decide +kernel) rfl, y_g 106 (by decide +kernel) rfl, by decide, (show _ = some 2 from by decide +kernel), y_g 585 (by decide +kernel) rfl, by decide⟩ (y_g 586 (by decide +kernel) rfl) (y_b0 G) hP0 ⟨Nat.le_of_ble_eq_true rfl, Nat.le_of_ble_eq_true rfl⟩ (Nat.le_of_ble_eq_true rfl) rfl (by decide +kernel) ?_
  refine lv_aload_n hx hb (k := 0) (i := 0) (by decide +kernel) rfl (lv_at hl 0 rfl) ?_
  refine lv_iload_n hx hb (k := 1) (i := 1) (by decide +kernel) rfl (lv_at hl 1 rfl) ?_
  refine va_tb hx hb hT (y_S0 _) (vp_in_nI hj (by omega)) (v := .int x) (by rw [hjn]; exact hf) (by decide +kernel) ?_
  refine lv_sipush hx hb (n := 255) (v := 255) (by decide +kernel) rfl ?_
  refine lv_iand hx hb (by decide +kernel) ?_
  refine lv_i2c hx hb (by decide +kernel) hv ?_
  exact y_ret hx hb hret hn (fun t ht _ => ⟨rfl, ht⟩) (fun _ h => by cases h) (by decide +kernel) hlk
end
section
/-! the library's methods that the small machine calls: fill, bitCount, length, charAt -/
theorem z_MetW {l : Launch} {G : z_G} {id : Nat} {a : List Value} {h : z_H} {r : z_A} (hm : z_mok id) (hcat : z_cat a ≤ z_ml id)
    (hk : ∀ (p : Program) (e : Env) (s : State) (m : MethodId) (below : List Frame) (meth : Method) (c : Code) (ls : Array Slot), p.tables.exec = Jvm.exec → c.code = (z_mt id).2.1 → c.maxLocals = (z_mt id).2.2.1 → s.vm.findClass (z_mt id).1.cls = some m.cls → (∀ w ∈ z_ws id, w.before (a.map (z_up G)).toArray s = true) → meth.sig.returnType = (z_mt id).2.2.2 → meth.locks = false → z_Kn G s → z_St G s s.heap → z_Rep G h s.heap → lv_has ls (z_mt id).2.2.1 (z_ul G (lv_args 0 a)) →
      W p l e (headSpec (z_ws id) (z_rm (z_rank id a))).room s m (a.map (z_up G)).toArray below meth c s.heap [] 0 0 (MQ below (z_Qc G (z_mt id).2.2.2 r) (a.map (z_up G)).toArray s 0 0 (fun q => G.1 ≤ q)) (F0 m 0 ls [])) : z_Met l G id a h r := by
  unfold z_Met
  refine Met.ofW (cc := (z_mt id).2.1) (maxL := (z_mt id).2.2.1) (ret := (z_mt id).2.2.2) hm.2.2.2.2.2.2.2.1 rfl ?_
  intro p e s m args below meth c s₁ B hml hv
  obtain ⟨rfl, hK, hSt, hR⟩ := hv
  have hent := lv_entry (a.map (z_up G)) (n := (z_mt id).2.2.1) (by
    rw [z_lgsl, hm.2.2.2.2.2.1]
    have : z_cat (a.map (z_up G)) = z_cat a := z_cat_up G a
    omega)
  rw [lg_entry_eq]
  rw [z_lvargs] at hent
  exact hk p e s m below meth c _ B.exec B.bytes hml (findClass_of_methodNamed B.named) (atoms_spec (ws := z_ws id) B.pre) B.returns B.notSynchronized hK hSt hR hent
theorem z_WQ {p : Program} {l : Launch} {e : Env} {R : Room} {s : State} {m : MethodId} {args : Array Value} {below : List Frame} {meth : Method} {c : Code} {Q Q' : State → Prop} {H : Heap} {locs : List Loc} {cells slots : Nat} {g : JFrame} (h : ∀ t, Q t → Q' t) (w : W p l e R s m args below meth c H locs cells slots Q g) : W p l e R s m args below meth c H locs cells slots Q' g := fun T hT X => by
  obtain ⟨t, a, b⟩ := w T hT X
  exact ⟨t, a, h t b⟩
theorem z_MQc {below : List Frame} {Qc Qc' : Array Value → State → Outcome → State → Prop} {a : Array Value} {s : State} {mc ms : Nat} {free : Addr → Prop} (h : ∀ o t, Qc a s o t → Qc' a s o t) (t : State) (q : MQ below Qc a s mc ms free t) : MQ below Qc' a s mc ms free t := by
  obtain ⟨o, q1, q2, q3, q4⟩ := q
  exact ⟨o, q1, q2, h o t q3, q4⟩
theorem z_Rep.congr {G : z_G} {h h' : z_H} {H : Heap} (h1 : ∀ o k, o < 141 → k < z_N o → h'.1 o k = h.1 o k ∧ h'.2.1 o k = h.2.1 o k) (h2 : h'.2.2 = h.2.2) (hR : z_Rep G h H) : z_Rep G h' H := by
  intro o ho
  obtain ⟨a1, a2⟩ := hR o ho
  refine ⟨fun hk => ?_, fun hk => ?_⟩
  · obtain ⟨cell, c1, c2, c3, c4⟩ := a1 hk
    refine ⟨cell, c1, c2, c3, fun k hkN => ?_⟩
    rw [c4 k hkN]
    unfold z_fv
    split <;> first | rfl | (rw [h2]) | (rw [(h1 o k ho hkN).1])
  · rw [a2 hk]
    have : arrV (G.2.2.2.2 (z_K o)) (z_N o) (z_av G h o) = arrV (G.2.2.2.2 (z_K o)) (z_N o) (z_av G h' o) := by
      unfold arrV
      congr 2
      funext j
      unfold z_av
      rw [(h1 o j.val ho j.isLt).1, (h1 o j.val ho j.isLt).2]
    rw [this]
theorem z_if_t {c : Bool} {x : Option z_O} (h : c = true) : z_if c x = x := by
  subst h
  rfl
theorem z_GoN {p : Program} {l : Launch} {e : Env} {R : Room} {s : State} {m : MethodId} {args : Array Value} {below : List Frame} {meth : Method} {c : Code} {Q : State → Prop} {G : z_G} {nL pc : Nat} {lo : z_L} {st : List Value} {h : z_H} (L : List Nat) (k : z_Go p l e R s m args below meth c Q G nL pc (z_norm (some L) lo) st h) : z_Go p l e R s m args below meth c Q G nL pc lo st h := fun ls H locs x y z => k ls H locs (z_norm_has x) y z
theorem z_in_nI {i N : Nat} (h : i < N) (hN : N < 2 ^ 31) : z_in (nI i) N = true := by
  unfold z_in
  rw [nI_clamp (by omega)]
  simp only [Bool.and_eq_true, Bool.not_eq_true', decide_eq_false_iff_not]
  exact ⟨nI_pos (by omega), Nat.ble_eq_true_of_le h⟩
theorem z_fill902_end {p : Program} {l : Launch} {e : Env} {R : Room} {s : State} {m : MethodId} {args : Array Value} {below : List Frame} {meth : Method} {c : Code} {G : z_G} {x : Int32} {o : Nat} {h h0 : z_H} (hx : p.tables.exec = Jvm.exec) (hb : c.code = (z_mt 902).2.1) (hml : c.maxLocals = (z_mt 902).2.2.1) (hown : s.vm.findClass (z_mt 902).1.cls = some m.cls) (hts : ∀ w ∈ z_good, w.before args s = true) (hK : z_Kn G s) (hr1 : 1 ≤ R.frames) (hr2 : 60 ≤ R.locals) (hr : meth.sig.returnType = (z_mt 902).2.2.2) (hlk : meth.locks = false) {lo : z_L} {st : List Value} (hh : ∀ o' k', h.1 o' k' = if o' = o ∧ k' < z_N o then x else h0.1 o' k') (hh2 : h.2 = h0.2) :
    z_Go p l e R s m args below meth c (MQ below (z_Qc G (z_mt 902).2.2.2 (0, z_fiI h0 o x)) args s 0 0 (fun q => G.1 ≤ q)) G (z_mt 902).2.2.1 20 lo st h := by
  intro ls H locs a b d
  refine z_WQ (z_MQc (Qc := z_Qc G (z_mt 902).2.2.2 (0, h)) fun _ _ q => ⟨q.1, z_Rep.congr (fun o' k' ho hk => ?_) ?_ q.2.1, q.2.2⟩) (z_sound_ret (id := 902) (pl := 0) (ins := .return_) (n := 21) (v := 0) (a := 0) (b := 0) (c' := 0) (sw := []) hx hb hr hlk (by decide +kernel) rfl ls H locs a b d)
  · refine ⟨?_, by show h0.2.1 o' k' = h.2.1 o' k'; rw [hh2]⟩
    rw [hh]
    show (bif Nat.beq o' o then x else h0.1 o' k') = _
    by_cases he : o' = o
    · subst he
      rw [z_beqT, if_pos ⟨rfl, hk⟩]
      rfl
    · rw [z_beqF he, if_neg (fun q => he q.1)]
      rfl
  · show h0.2.2 = h.2.2
    rw [hh2]
theorem z_fill902_loop {p : Program} {l : Launch} {e : Env} {R : Room} {s : State} {m : MethodId} {args : Array Value} {below : List Frame} {meth : Method} {c : Code} {G : z_G} {x : Int32} {o : Nat} {h0 : z_H} (hx : p.tables.exec = Jvm.exec) (hb : c.code = (z_mt 902).2.1) (hml : c.maxLocals = (z_mt 902).2.2.1) (hown : s.vm.findClass (z_mt 902).1.cls = some m.cls) (hts : ∀ w ∈ z_good, w.before args s = true) (hK : z_Kn G s) (hr1 : 1 ≤ R.frames) (hr2 : 60 ≤ R.locals) (hr : meth.sig.returnType = (z_mt 902).2.2.2) (hlk : meth.locks = false) (ho : o < 141) (hKo : z_K o = 20) :
    ∀ (n i : Nat) (h : z_H), i + n = z_N o → (∀ o' k', h.1 o' k' = if o' = o ∧ k' < i then x else h0.1 o' k') → (h.2 = h0.2) → z_Go p l e R s m args below meth c (MQ below (z_Qc G (z_mt 902).2.2.2 (0, z_fiI h0 o x)) args s 0 0 (fun q => G.1 ≤ q)) G (z_mt 902).2.2.1 5 [(0, .ref o), (1, .int x), (2, .int (nI i)), (3, .int (nI (z_N o)))] [] h := by
  have hN : z_N o < 65536 := (z_K_row o ho (by omega)).2
  intro n
  induction n with
  | zero =>
    intro i h hi hh hh2
    refine z_sound_step (id := 902) (pc := 5) (pl := 0) (ins := .iload_n 2) (n := 6) (v := 0) (a := 2) (b := 0) (c' := 0) (sw := []) hx hb hml hown hts hK hr1 hr2 (by decide +kernel) (s' := (6, [(0, .ref o), (1, .int x), (2, .int (nI i)), (3, .int (nI (z_N o)))], [.int (nI i)], h)) rfl ?_
    refine z_sound_step (id := 902) (pc := 6) (pl := 0) (ins := .iload_n 3) (n := 7) (v := 0) (a := 3) (b := 0) (c' := 0) (sw := []) hx hb hml hown hts hK hr1 hr2 (by decide +kernel) (s' := (7, [(0, .ref o), (1, .int x), (2, .int (nI i)), (3, .int (nI (z_N o)))], [.int (nI (z_N o)), .int (nI i)], h)) rfl ?_
    refine z_sound_step (id := 902) (pc := 7) (pl := 0) (ins := .if_icmp .ge 13) (n := 10) (v := 0) (a := 20) (b := 0) (c' := 0) (sw := []) hx hb hml hown hts hK hr1 hr2 (by decide +kernel) (s' := (20, [(0, .ref o), (1, .int x), (2, .int (nI i)), (3, .int (nI (z_N o)))], [], h)) (congrArg (fun q => some (Sum.inl q)) (if_pos (nI_le (by omega) (by omega)))) ?_
    have hi : i = z_N o := by omega
    subst hi
    exact z_fill902_end hx hb hml hown hts hK hr1 hr2 hr hlk hh hh2
  | succ n ih =>
    intro i h hi hh hh2
    have hc : (nI i).toNatClampNeg = i := nI_clamp (by omega)
    have hin : z_in (nI i) (z_N o) = true := z_in_nI (by omega) (by omega)
    have h999 : (!Nat.beq o 999) = true := by rw [z_beqF (by omega)]; rfl
    refine z_sound_step (id := 902) (pc := 5) (pl := 0) (ins := .iload_n 2) (n := 6) (v := 0) (a := 2) (b := 0) (c' := 0) (sw := []) hx hb hml hown hts hK hr1 hr2 (by decide +kernel) (s' := (6, [(0, .ref o), (1, .int x), (2, .int (nI i)), (3, .int (nI (z_N o)))], [.int (nI i)], h)) rfl ?_
    refine z_sound_step (id := 902) (pc := 6) (pl := 0) (ins := .iload_n 3) (n := 7) (v := 0) (a := 3) (b := 0) (c' := 0) (sw := []) hx hb hml hown hts hK hr1 hr2 (by decide +kernel) (s' := (7, [(0, .ref o), (1, .int x), (2, .int (nI i)), (3, .int (nI (z_N o)))], [.int (nI (z_N o)), .int (nI i)], h)) rfl ?_
    refine z_sound_step (id := 902) (pc := 7) (pl := 0) (ins := .if_icmp .ge 13) (n := 10) (v := 0) (a := 20) (b := 0) (c' := 0) (sw := []) hx hb hml hown hts hK hr1 hr2 (by decide +kernel) (s' := (10, [(0, .ref o), (1, .int x), (2, .int (nI i)), (3, .int (nI (z_N o)))], [], h)) (congrArg (fun q => some (Sum.inl q)) (if_neg (nI_ge (by omega) (by omega)))) ?_
    refine z_sound_step (id := 902) (pc := 10) (pl := 0) (ins := .aload_n 0) (n := 11) (v := 0) (a := 0) (b := 0) (c' := 0) (sw := []) hx hb hml hown hts hK hr1 hr2 (by decide +kernel) (s' := (11, [(0, .ref o), (1, .int x), (2, .int (nI i)), (3, .int (nI (z_N o)))], [.ref o], h)) (z_if_t h999) ?_
    refine z_sound_step (id := 902) (pc := 11) (pl := 0) (ins := .iload_n 2) (n := 12) (v := 0) (a := 2) (b := 0) (c' := 0) (sw := []) hx hb hml hown hts hK hr1 hr2 (by decide +kernel) (s' := (12, [(0, .ref o), (1, .int x), (2, .int (nI i)), (3, .int (nI (z_N o)))], [.int (nI i), .ref o], h)) rfl ?_
    refine z_sound_step (id := 902) (pc := 12) (pl := 0) (ins := .iload_n 1) (n := 13) (v := 0) (a := 1) (b := 0) (c' := 0) (sw := []) hx hb hml hown hts hK hr1 hr2 (by decide +kernel) (s' := (13, [(0, .ref o), (1, .int x), (2, .int (nI i)), (3, .int (nI (z_N o)))], [.int x, .int (nI i), .ref o], h)) rfl ?_
    refine z_sound_step (id := 902) (pc := 13) (pl := 0) (ins := .iastore) (n := 14) (v := 0) (a := 0) (b := 0) (c' := 0) (sw := []) hx hb hml hown hts hK hr1 hr2 (by decide +kernel) (s' := (14, [(0, .ref o), (1, .int x), (2, .int (nI i)), (3, .int (nI (z_N o)))], [], z_wI h o i x)) (by
      refine (z_if_t (by rw [hKo]; rfl)).trans ((z_if_t hin).trans ?_)
      rw [hc]
      rfl) ?_
    refine z_sound_step (id := 902) (pc := 14) (pl := 0) (ins := .iinc 2 1) (n := 17) (v := 1) (a := 2) (b := 0) (c' := 0) (sw := []) hx hb hml hown hts hK hr1 hr2 (by decide +kernel) (s' := (17, z_put1 [(0, .ref o), (1, .int x), (2, .int (nI i)), (3, .int (nI (z_N o)))] 2 (.int (nI i + 1)), [], z_wI h o i x)) rfl ?_
    refine z_sound_step (id := 902) (pc := 17) (pl := 0) (ins := .goto (-12)) (n := 20) (v := 0) (a := 5) (b := 0) (c' := 0) (sw := []) hx hb hml hown hts hK hr1 hr2 (by decide +kernel) (s' := (5, z_put1 [(0, .ref o), (1, .int x), (2, .int (nI i)), (3, .int (nI (z_N o)))] 2 (.int (nI i + 1)), [], z_wI h o i x)) rfl ?_
    refine z_GoN [0, 1, 2, 3] ?_
    have := ih (i + 1) (z_wI h o i x) (by omega) (fun o' k' => ?_) hh2
    · rw [← nI_1] at this
      exact this
    · rw [z_wI1, hh]
      by_cases h1 : o' = o
      · by_cases h2 : k' = i
        · rw [if_pos ⟨h1, h2⟩, if_pos ⟨h1, by omega⟩]
        · rw [if_neg (fun q => h2 q.2)]
          by_cases h3 : k' < i
          · rw [if_pos ⟨h1, h3⟩, if_pos ⟨h1, by omega⟩]
          · rw [if_neg (fun q => h3 q.2), if_neg (fun q => by omega)]
      · rw [if_neg (fun q => h1 q.1), if_neg (fun q => h1 q.1), if_neg (fun q => h1 q.1)]
theorem z_p902 (l : Launch) (G : z_G) (hm : z_mok 902) {o : Nat} {x : Int32} {h : z_H} (hKo : z_K o = 20) : z_Met l G 902 [.ref o, .int x] h (0, z_fiI h o x) := by
  have ho : o < 141 := z_K_lt (by omega)
  have h999 : (!Nat.beq o 999) = true := by rw [z_beqF (by omega)]; rfl
  refine z_MetW hm (Nat.le_of_ble_eq_true rfl) ?_
  intro p e s m below meth c ls hx hb hml hown hts hr hlk hK hSt hR hl
  have hts : ∀ w ∈ z_good, w.before _ s = true := fun w hw => hts w (List.mem_cons_of_mem _ hw)
  have hr1 : 1 ≤ (headSpec (z_ws 902) (z_rm (z_rank 902 [.ref o, .int x]))).room.frames := Nat.le_of_ble_eq_true rfl
  have hr2 : 60 ≤ (headSpec (z_ws 902) (z_rm (z_rank 902 [.ref o, .int x]))).room.locals := Nat.le_of_ble_eq_true rfl
  refine (?_ : z_Go p l e _ s m _ below meth c _ G (z_mt 902).2.2.1 0 (lv_args 0 [.ref o, .int x]) [] h) ls s.heap [] hl hR ⟨rfl, fun _ _ => rfl, fun _ h => by cases h⟩
  refine z_sound_step (id := 902) (pc := 0) (pl := 0) (ins := .iconst 0) (n := 1) (v := 0) (a := 0) (b := 0) (c' := 0) (sw := []) hx hb hml hown hts hK hr1 hr2 (by decide +kernel) (s' := (1, lv_args 0 [.ref o, .int x], [.int 0], h)) rfl ?_
  refine z_sound_step (id := 902) (pc := 1) (pl := 0) (ins := .istore_n 2) (n := 2) (v := 0) (a := 2) (b := 0) (c' := 0) (sw := []) hx hb hml hown hts hK hr1 hr2 (by decide +kernel) (s' := (2, z_put1 (lv_args 0 [.ref o, .int x]) 2 (.int 0), [], h)) rfl ?_
  refine z_sound_step (id := 902) (pc := 2) (pl := 0) (ins := .aload_n 0) (n := 3) (v := 0) (a := 0) (b := 0) (c' := 0) (sw := []) hx hb hml hown hts hK hr1 hr2 (by decide +kernel) (s' := (3, z_put1 (lv_args 0 [.ref o, .int x]) 2 (.int 0), [.ref o], h)) (z_if_t h999) ?_
  refine z_sound_step (id := 902) (pc := 3) (pl := 0) (ins := .arraylength) (n := 4) (v := 0) (a := 0) (b := 0) (c' := 0) (sw := []) hx hb hml hown hts hK hr1 hr2 (by decide +kernel) (s' := (4, z_put1 (lv_args 0 [.ref o, .int x]) 2 (.int 0), [.int (nI (z_N o))], h)) (z_if_t (by rw [hKo]; rfl)) ?_
  refine z_sound_step (id := 902) (pc := 4) (pl := 0) (ins := .istore_n 3) (n := 5) (v := 0) (a := 3) (b := 0) (c' := 0) (sw := []) hx hb hml hown hts hK hr1 hr2 (by decide +kernel) (s' := (5, z_put1 (z_put1 (lv_args 0 [.ref o, .int x]) 2 (.int 0)) 3 (.int (nI (z_N o))), [], h)) rfl ?_
  refine z_GoN [0, 1, 2, 3] ?_
  exact z_fill902_loop (h0 := h) hx hb hml hown hts hK hr1 hr2 hr hlk ho hKo (z_N o) 0 h (Nat.zero_add _) (fun o' k' => by rw [if_neg (fun q => absurd q.2 (Nat.not_lt_zero _))]) rfl
theorem z_fill903_end {p : Program} {l : Launch} {e : Env} {R : Room} {s : State} {m : MethodId} {args : Array Value} {below : List Frame} {meth : Method} {c : Code} {G : z_G} {x : Int64} {o : Nat} {h h0 : z_H} (hx : p.tables.exec = Jvm.exec) (hb : c.code = (z_mt 903).2.1) (hml : c.maxLocals = (z_mt 903).2.2.1) (hown : s.vm.findClass (z_mt 903).1.cls = some m.cls) (hts : ∀ w ∈ z_good, w.before args s = true) (hK : z_Kn G s) (hr1 : 1 ≤ R.frames) (hr2 : 60 ≤ R.locals) (hr : meth.sig.returnType = (z_mt 903).2.2.2) (hlk : meth.locks = false) {lo : z_L} {st : List Value} (hh : ∀ o' k', h.2.1 o' k' = if o' = o ∧ k' < z_N o then x else h0.2.1 o' k') (hh2 : h.1 = h0.1 ∧ h.2.2 = h0.2.2) :
    z_Go p l e R s m args below meth c (MQ below (z_Qc G (z_mt 903).2.2.2 (0, z_fiL h0 o x)) args s 0 0 (fun q => G.1 ≤ q)) G (z_mt 903).2.2.1 22 lo st h := by
  intro ls H locs a b d
  refine z_WQ (z_MQc (Qc := z_Qc G (z_mt 903).2.2.2 (0, h)) fun _ _ q => ⟨q.1, z_Rep.congr (fun o' k' ho hk => ?_) ?_ q.2.1, q.2.2⟩) (z_sound_ret (id := 903) (pl := 0) (ins := .return_) (n := 23) (v := 0) (a := 0) (b := 0) (c' := 0) (sw := []) hx hb hr hlk (by decide +kernel) rfl ls H locs a b d)
  · refine ⟨by show h0.1 o' k' = h.1 o' k'; rw [hh2.1], ?_⟩
    rw [hh]
    show (bif Nat.beq o' o then x else h0.2.1 o' k') = _
    by_cases he : o' = o
    · subst he
      rw [z_beqT, if_pos ⟨rfl, hk⟩]
      rfl
    · rw [z_beqF he, if_neg (fun q => he q.1)]
      rfl
  · show h0.2.2 = h.2.2
    rw [hh2.2]
theorem z_fill903_loop {p : Program} {l : Launch} {e : Env} {R : Room} {s : State} {m : MethodId} {args : Array Value} {below : List Frame} {meth : Method} {c : Code} {G : z_G} {x : Int64} {o : Nat} {h0 : z_H} (hx : p.tables.exec = Jvm.exec) (hb : c.code = (z_mt 903).2.1) (hml : c.maxLocals = (z_mt 903).2.2.1) (hown : s.vm.findClass (z_mt 903).1.cls = some m.cls) (hts : ∀ w ∈ z_good, w.before args s = true) (hK : z_Kn G s) (hr1 : 1 ≤ R.frames) (hr2 : 60 ≤ R.locals) (hr : meth.sig.returnType = (z_mt 903).2.2.2) (hlk : meth.locks = false) (ho : o < 141) (hKo : z_K o = 21) :
    ∀ (n i : Nat) (h : z_H), i + n = z_N o → (∀ o' k', h.2.1 o' k' = if o' = o ∧ k' < i then x else h0.2.1 o' k') → (h.1 = h0.1 ∧ h.2.2 = h0.2.2) → z_Go p l e R s m args below meth c (MQ below (z_Qc G (z_mt 903).2.2.2 (0, z_fiL h0 o x)) args s 0 0 (fun q => G.1 ≤ q)) G (z_mt 903).2.2.1 6 [(0, .ref o), (1, .long x), (3, .int (nI i)), (4, .int (nI (z_N o)))] [] h := by
  have hN : z_N o < 65536 := (z_K_row o ho (by omega)).2
  intro n
  induction n with
  | zero =>
    intro i h hi hh hh2
    refine z_sound_step (id := 903) (pc := 6) (pl := 0) (ins := .iload_n 3) (n := 7) (v := 0) (a := 3) (b := 0) (c' := 0) (sw := []) hx hb hml hown hts hK hr1 hr2 (by decide +kernel) (s' := (7, [(0, .ref o), (1, .long x), (3, .int (nI i)), (4, .int (nI (z_N o)))], [.int (nI i)], h)) rfl ?_
    refine z_sound_step (id := 903) (pc := 7) (pl := 0) (ins := .iload 4) (n := 9) (v := 0) (a := 4) (b := 0) (c' := 0) (sw := []) hx hb hml hown hts hK hr1 hr2 (by decide +kernel) (s' := (9, [(0, .ref o), (1, .long x), (3, .int (nI i)), (4, .int (nI (z_N o)))], [.int (nI (z_N o)), .int (nI i)], h)) rfl ?_
    refine z_sound_step (id := 903) (pc := 9) (pl := 0) (ins := .if_icmp .ge 13) (n := 12) (v := 0) (a := 22) (b := 0) (c' := 0) (sw := []) hx hb hml hown hts hK hr1 hr2 (by decide +kernel) (s' := (22, [(0, .ref o), (1, .long x), (3, .int (nI i)), (4, .int (nI (z_N o)))], [], h)) (congrArg (fun q => some (Sum.inl q)) (if_pos (nI_le (by omega) (by omega)))) ?_
    have hi : i = z_N o := by omega
    subst hi
    exact z_fill903_end hx hb hml hown hts hK hr1 hr2 hr hlk hh hh2
  | succ n ih =>
    intro i h hi hh hh2
    have hc : (nI i).toNatClampNeg = i := nI_clamp (by omega)
    have hin : z_in (nI i) (z_N o) = true := z_in_nI (by omega) (by omega)
    have h999 : (!Nat.beq o 999) = true := by rw [z_beqF (by omega)]; rfl
    refine z_sound_step (id := 903) (pc := 6) (pl := 0) (ins := .iload_n 3) (n := 7) (v := 0) (a := 3) (b := 0) (c' := 0) (sw := []) hx hb hml hown hts hK hr1 hr2 (by decide +kernel) (s' := (7, [(0, .ref o), (1, .long x), (3, .int (nI i)), (4, .int (nI (z_N o)))], [.int (nI i)], h)) rfl ?_
    refine z_sound_step (id := 903) (pc := 7) (pl := 0) (ins := .iload 4) (n := 9) (v := 0) (a := 4) (b := 0) (c' := 0) (sw := []) hx hb hml hown hts hK hr1 hr2 (by decide +kernel) (s' := (9, [(0, .ref o), (1, .long x), (3, .int (nI i)), (4, .int (nI (z_N o)))], [.int (nI (z_N o)), .int (nI i)], h)) rfl ?_
    refine z_sound_step (id := 903) (pc := 9) (pl := 0) (ins := .if_icmp .ge 13) (n := 12) (v := 0) (a := 22) (b := 0) (c' := 0) (sw := []) hx hb hml hown hts hK hr1 hr2 (by decide +kernel) (s' := (12, [(0, .ref o), (1, .long x), (3, .int (nI i)), (4, .int (nI (z_N o)))], [], h)) (congrArg (fun q => some (Sum.inl q)) (if_neg (nI_ge (by omega) (by omega)))) ?_
    refine z_sound_step (id := 903) (pc := 12) (pl := 0) (ins := .aload_n 0) (n := 13) (v := 0) (a := 0) (b := 0) (c' := 0) (sw := []) hx hb hml hown hts hK hr1 hr2 (by decide +kernel) (s' := (13, [(0, .ref o), (1, .long x), (3, .int (nI i)), (4, .int (nI (z_N o)))], [.ref o], h)) (z_if_t h999) ?_
    refine z_sound_step (id := 903) (pc := 13) (pl := 0) (ins := .iload_n 3) (n := 14) (v := 0) (a := 3) (b := 0) (c' := 0) (sw := []) hx hb hml hown hts hK hr1 hr2 (by decide +kernel) (s' := (14, [(0, .ref o), (1, .long x), (3, .int (nI i)), (4, .int (nI (z_N o)))], [.int (nI i), .ref o], h)) rfl ?_
    refine z_sound_step (id := 903) (pc := 14) (pl := 0) (ins := .lload_n 1) (n := 15) (v := 0) (a := 1) (b := 0) (c' := 0) (sw := []) hx hb hml hown hts hK hr1 hr2 (by decide +kernel) (s' := (15, [(0, .ref o), (1, .long x), (3, .int (nI i)), (4, .int (nI (z_N o)))], [.long x, .int (nI i), .ref o], h)) rfl ?_
    refine z_sound_step (id := 903) (pc := 15) (pl := 0) (ins := .lastore) (n := 16) (v := 0) (a := 0) (b := 0) (c' := 0) (sw := []) hx hb hml hown hts hK hr1 hr2 (by decide +kernel) (s' := (16, [(0, .ref o), (1, .long x), (3, .int (nI i)), (4, .int (nI (z_N o)))], [], z_wL h o i x)) (by
      refine (z_if_t (by rw [hKo]; rfl)).trans ((z_if_t hin).trans ?_)
      rw [hc]
      rfl) ?_
    refine z_sound_step (id := 903) (pc := 16) (pl := 0) (ins := .iinc 3 1) (n := 19) (v := 1) (a := 3) (b := 0) (c' := 0) (sw := []) hx hb hml hown hts hK hr1 hr2 (by decide +kernel) (s' := (19, z_put1 [(0, .ref o), (1, .long x), (3, .int (nI i)), (4, .int (nI (z_N o)))] 3 (.int (nI i + 1)), [], z_wL h o i x)) rfl ?_
    refine z_sound_step (id := 903) (pc := 19) (pl := 0) (ins := .goto (-13)) (n := 22) (v := 0) (a := 6) (b := 0) (c' := 0) (sw := []) hx hb hml hown hts hK hr1 hr2 (by decide +kernel) (s' := (6, z_put1 [(0, .ref o), (1, .long x), (3, .int (nI i)), (4, .int (nI (z_N o)))] 3 (.int (nI i + 1)), [], z_wL h o i x)) rfl ?_
    refine z_GoN [0, 1, 3, 4] ?_
    have := ih (i + 1) (z_wL h o i x) (by omega) (fun o' k' => ?_) hh2
    · rw [← nI_1] at this
      exact this
    · rw [z_wL1, hh]
      by_cases h1 : o' = o
      · by_cases h2 : k' = i
        · rw [if_pos ⟨h1, h2⟩, if_pos ⟨h1, by omega⟩]
        · rw [if_neg (fun q => h2 q.2)]
          by_cases h3 : k' < i
          · rw [if_pos ⟨h1, h3⟩, if_pos ⟨h1, by omega⟩]
          · rw [if_neg (fun q => h3 q.2), if_neg (fun q => by omega)]
      · rw [if_neg (fun q => h1 q.1), if_neg (fun q => h1 q.1), if_neg (fun q => h1 q.1)]
theorem z_p903 (l : Launch) (G : z_G) (hm : z_mok 903) {o : Nat} {x : Int64} {h : z_H} (hKo : z_K o = 21) : z_Met l G 903 [.ref o, .long x] h (0, z_fiL h o x) := by
  have ho : o < 141 := z_K_lt (by omega)
  have h999 : (!Nat.beq o 999) = true := by rw [z_beqF (by omega)]; rfl
  refine z_MetW hm (Nat.le_of_ble_eq_true rfl) ?_
  intro p e s m below meth c ls hx hb hml hown hts hr hlk hK hSt hR hl
  have hts : ∀ w ∈ z_good, w.before _ s = true := fun w hw => hts w (List.mem_cons_of_mem _ hw)
  have hr1 : 1 ≤ (headSpec (z_ws 903) (z_rm (z_rank 903 [.ref o, .long x]))).room.frames := Nat.le_of_ble_eq_true rfl
  have hr2 : 60 ≤ (headSpec (z_ws 903) (z_rm (z_rank 903 [.ref o, .long x]))).room.locals := Nat.le_of_ble_eq_true rfl
  refine (?_ : z_Go p l e _ s m _ below meth c _ G (z_mt 903).2.2.1 0 (lv_args 0 [.ref o, .long x]) [] h) ls s.heap [] hl hR ⟨rfl, fun _ _ => rfl, fun _ h => by cases h⟩
  refine z_sound_step (id := 903) (pc := 0) (pl := 0) (ins := .iconst 0) (n := 1) (v := 0) (a := 0) (b := 0) (c' := 0) (sw := []) hx hb hml hown hts hK hr1 hr2 (by decide +kernel) (s' := (1, lv_args 0 [.ref o, .long x], [.int 0], h)) rfl ?_
  refine z_sound_step (id := 903) (pc := 1) (pl := 0) (ins := .istore_n 3) (n := 2) (v := 0) (a := 3) (b := 0) (c' := 0) (sw := []) hx hb hml hown hts hK hr1 hr2 (by decide +kernel) (s' := (2, z_put1 (lv_args 0 [.ref o, .long x]) 3 (.int 0), [], h)) rfl ?_
  refine z_sound_step (id := 903) (pc := 2) (pl := 0) (ins := .aload_n 0) (n := 3) (v := 0) (a := 0) (b := 0) (c' := 0) (sw := []) hx hb hml hown hts hK hr1 hr2 (by decide +kernel) (s' := (3, z_put1 (lv_args 0 [.ref o, .long x]) 3 (.int 0), [.ref o], h)) (z_if_t h999) ?_
  refine z_sound_step (id := 903) (pc := 3) (pl := 0) (ins := .arraylength) (n := 4) (v := 0) (a := 0) (b := 0) (c' := 0) (sw := []) hx hb hml hown hts hK hr1 hr2 (by decide +kernel) (s' := (4, z_put1 (lv_args 0 [.ref o, .long x]) 3 (.int 0), [.int (nI (z_N o))], h)) (z_if_t (by rw [hKo]; rfl)) ?_
  refine z_sound_step (id := 903) (pc := 4) (pl := 0) (ins := .istore 4) (n := 6) (v := 0) (a := 4) (b := 0) (c' := 0) (sw := []) hx hb hml hown hts hK hr1 hr2 (by decide +kernel) (s' := (6, z_put1 (z_put1 (lv_args 0 [.ref o, .long x]) 3 (.int 0)) 4 (.int (nI (z_N o))), [], h)) rfl ?_
  refine z_GoN [0, 1, 3, 4] ?_
  exact z_fill903_loop (h0 := h) hx hb hml hown hts hK hr1 hr2 hr hlk ho hKo (z_N o) 0 h (Nat.zero_add _) (fun o' k' => by rw [if_neg (fun q => absurd q.2 (Nat.not_lt_zero _))]) ⟨rfl, rfl⟩
theorem z_p906 (l : Launch) (G : z_G) (hm : z_mok 906) {x : Int64} {h : z_H} : z_Met l G 906 [.long x] h (z_bits x, h) := by
  refine z_MetW hm (Nat.le_of_ble_eq_true rfl) ?_
  intro p e s m below meth c ls hx hb hml hown hts hr hlk hK hSt hR hl
  have hg : ∀ w ∈ z_good, w.before _ s = true := fun w hw => hts w (List.mem_cons_of_mem _ hw)
  refine lv_lload_n hx hb (k := 0) (i := 0) (by decide +kernel) rfl (lv_at hl 0 rfl) ?_
  refine lv_lload_n hx hb (k := 0) (i := 0) (by decide +kernel) rfl (lv_at hl 0 rfl) ?_
  refine lv_iconst hx hb (n := 1) (v := 1) (by decide +kernel) rfl ?_
  refine lv_lushr hx hb (by decide +kernel) rfl ?_
  refine lv_ldc2 (own := "java/lang/Long") (index := 314) (v := 6148914691236517205) hx hb hown (hg _ (y_g 772 (by decide +kernel) rfl)) (by decide +kernel) ?_
  refine lv_land hx hb (by decide +kernel) ?_
  refine lv_lsub hx hb (by decide +kernel) ?_
  refine lv_lstore_n hx hb (k := 0) (i := 0) (by decide +kernel) rfl hl (by decide) rfl (fun ls hl => ?_)
  refine lv_lload_n hx hb (k := 0) (i := 0) (by decide +kernel) rfl (lv_at hl 0 rfl) ?_
  refine lv_ldc2 (own := "java/lang/Long") (index := 316) (v := 3689348814741910323) hx hb hown (hg _ (y_g 773 (by decide +kernel) rfl)) (by decide +kernel) ?_
  refine lv_land hx hb (by decide +kernel) ?_
  refine lv_lload_n hx hb (k := 0) (i := 0) (by decide +kernel) rfl (lv_at hl 0 rfl) ?_
  refine lv_iconst hx hb (n := 2) (v := 2) (by decide +kernel) rfl ?_
  refine lv_lushr hx hb (by decide +kernel) rfl ?_
  refine lv_ldc2 (own := "java/lang/Long") (index := 316) (v := 3689348814741910323) hx hb hown (hg _ (y_g 773 (by decide +kernel) rfl)) (by decide +kernel) ?_
  refine lv_land hx hb (by decide +kernel) ?_
  refine lv_ladd hx hb (by decide +kernel) ?_
  refine lv_lstore_n hx hb (k := 0) (i := 0) (by decide +kernel) rfl hl (by decide) rfl (fun ls hl => ?_)
  refine lv_lload_n hx hb (k := 0) (i := 0) (by decide +kernel) rfl (lv_at hl 0 rfl) ?_
  refine lv_lload_n hx hb (k := 0) (i := 0) (by decide +kernel) rfl (lv_at hl 0 rfl) ?_
  refine lv_iconst hx hb (n := 4) (v := 4) (by decide +kernel) rfl ?_
  refine lv_lushr hx hb (by decide +kernel) rfl ?_
  refine lv_ladd hx hb (by decide +kernel) ?_
  refine lv_ldc2 (own := "java/lang/Long") (index := 318) (v := 1085102592571150095) hx hb hown (hg _ (y_g 774 (by decide +kernel) rfl)) (by decide +kernel) ?_
  refine lv_land hx hb (by decide +kernel) ?_
  refine lv_lstore_n hx hb (k := 0) (i := 0) (by decide +kernel) rfl hl (by decide) rfl (fun ls hl => ?_)
  refine lv_lload_n hx hb (k := 0) (i := 0) (by decide +kernel) rfl (lv_at hl 0 rfl) ?_
  refine lv_lload_n hx hb (k := 0) (i := 0) (by decide +kernel) rfl (lv_at hl 0 rfl) ?_
  refine lv_bipush hx hb (n := 8) (v := 8) (by decide +kernel) rfl ?_
  refine lv_lushr hx hb (by decide +kernel) rfl ?_
  refine lv_ladd hx hb (by decide +kernel) ?_
  refine lv_lstore_n hx hb (k := 0) (i := 0) (by decide +kernel) rfl hl (by decide) rfl (fun ls hl => ?_)
  refine lv_lload_n hx hb (k := 0) (i := 0) (by decide +kernel) rfl (lv_at hl 0 rfl) ?_
  refine lv_lload_n hx hb (k := 0) (i := 0) (by decide +kernel) rfl (lv_at hl 0 rfl) ?_
  refine lv_bipush hx hb (n := 16) (v := 16) (by decide +kernel) rfl ?_
  refine lv_lushr hx hb (by decide +kernel) rfl ?_
  refine lv_ladd hx hb (by decide +kernel) ?_
  refine lv_lstore_n hx hb (k := 0) (i := 0) (by decide +kernel) rfl hl (by decide) rfl (fun ls hl => ?_)
  refine lv_lload_n hx hb (k := 0) (i := 0) (by decide +kernel) rfl (lv_at hl 0 rfl) ?_
  refine lv_lload_n hx hb (k := 0) (i := 0) (by decide +kernel) rfl (lv_at hl 0 rfl) ?_
  refine lv_bipush hx hb (n := 32) (v := 32) (by decide +kernel) rfl ?_
  refine lv_lushr hx hb (by decide +kernel) rfl ?_
  refine lv_ladd hx hb (by decide +kernel) ?_
  refine lv_lstore_n hx hb (k := 0) (i := 0) (by decide +kernel) rfl hl (by decide) rfl (fun ls hl => ?_)
  refine lv_lload_n hx hb (k := 0) (i := 0) (by decide +kernel) rfl (lv_at hl 0 rfl) ?_
  refine lv_l2i hx hb (by decide +kernel) rfl ?_
  refine lv_bipush hx hb (n := 127) (v := 127) (by decide +kernel) rfl ?_
  refine lv_iand hx hb (by decide +kernel) ?_
  exact z_iret hx hb hr (fun t ht _ => ⟨rfl, by rw [ht]; exact hR, by rw [ht], fun q _ => by rw [ht]⟩) (fun _ h => by cases h) (by decide +kernel) hlk
theorem y_txt : ∀ i, i < 6 → ([6, 3, 4, 5, 3, 4] : List Nat).getD i 0 = (z_txt (1000 + i)).length ∧ (z_txt (1000 + i)).length < 1000 ∧ ((List.range 6).map (fun j => z_txt (1000 + j))).getD i [] = z_txt (1000 + i) := by decide +kernel
theorem y_chr : ∀ i, i < 6 → ∀ j, j < (z_txt (1000 + i)).length → (((z_txt (1000 + i)).getD j 0 &&& 255).toUInt32 % 65536).toInt32 = (z_txt (1000 + i)).getD j 0 ∧ vp_nar .char ((z_txt (1000 + i)).getD j 0) = (z_txt (1000 + i)).getD j 0 := by decide +kernel
theorem y_adr (G : z_G) {i : Nat} (hi : i < 6) : z_up G (.ref (1000 + i)) = .ref (G.2.1 (1000 + i)) := by
  show z_rv G _ = _
  unfold z_rv z_ad
  rw [z_beqF (by omega)]
  have : Nat.blt (1000 + i) 141 = false := by
    cases hb : Nat.blt (1000 + i) 141 with
    | false => rfl
    | true => have := Nat.le_of_ble_eq_true hb; omega
  rw [this]
  rfl
theorem z_p907 (l : Launch) (G : z_G) (hm : z_mok 907) {i : Nat} (hi : i < 6) {h : z_H} : z_Met l G 907 [.ref (1000 + i)] h (Int32.ofNat (z_txt (1000 + i)).length, h) := by
  refine z_MetW hm (Nat.le_of_ble_eq_true rfl) ?_
  intro p e s m below meth c ls hx hb hml hown hts hr hlk hK hSt hR hl
  have hl : lv_has ls 1 [(0, .ref (G.2.1 (1000 + i)))] := by
    have : z_ul G (lv_args 0 [.ref (1000 + i)]) = [(0, z_up G (.ref (1000 + i)))] := rfl
    rw [this, y_adr G hi] at hl
    exact hl
  have hP0 : ∀ U : State, U.heap = s.heap → s.WarmedH U.vm → y_P0 G U := fun U hU hW => by
    show z_St G U U.heap
    rw [hU]
    exact z_St.to hW.alike (fun _ _ _ => rfl) hSt
  obtain ⟨adV, hS, -, -⟩ := hSt
  obtain ⟨hO, hC, hV, hT⟩ := hS.1 i hi
  obtain ⟨t1, t2, t3⟩ := y_txt i hi
  have hg : ∀ w ∈ z_good, w.before _ s = true := fun w hw => hts w (List.mem_cons_of_mem _ hw)
  refine lv_aload_n hx hb (k := 0) (i := 0) (by decide +kernel) rfl (lv_at hl 0 rfl) ?_
  refine vk_getf (index := 9) (own := "java/lang/String") (ref := "java/lang/String") hx hb hV (y_S0 _) hown (hg _ (y_g 1587 (by decide +kernel) rfl)) (fun _ h => h) (by decide +kernel) ?_
  refine va_tlen hx hb hT (y_S0 _) (v := nI (z_txt (1000 + i)).length) (by rw [t1]; rfl) (by decide +kernel) ?_
  refine lv_aload_n hx hb (k := 0) (i := 0) (by decide +kernel) rfl (lv_at hl 0 rfl) ?_
  obtain ⟨cell, g1, g2, g3, g4⟩ := hO
  refine y_callV (own := z_mt 907) (t := y_coder) (i := 335) (As := []) (rest := [.int (nI (z_txt (1000 + i)).length)]) (k := 1) hx hb hml hown hts hl.1 (y_m_coder l G hi) ⟨y_g 571 (by decide +kernel) rfl, y_g 106 (by decide +kernel) rfl, by decide, (show _ = some 0 from by decide +kernel), y_g 568 (by decide +kernel) rfl, by decide⟩ ⟨y_g 569 (by decide +kernel) rfl, y_g 570 (by decide +kernel) rfl⟩ (y_b0 G) hP0 ⟨cell, g1, g2, g3⟩ ⟨Nat.le_of_ble_eq_true rfl, Nat.le_of_ble_eq_true rfl⟩ (Nat.le_of_ble_eq_true rfl) rfl (by decide +kernel) ?_
  refine lv_ishr hx hb (by decide +kernel) ?_
  have hsh : nI (z_txt (1000 + i)).length >>> ((0 : Int32) &&& 31) = nI (z_txt (1000 + i)).length := by
    have : ∀ i, i < 6 → nI (z_txt (1000 + i)).length >>> ((0 : Int32) &&& 31) = nI (z_txt (1000 + i)).length := by decide +kernel
    exact this i hi
  rw [hsh]
  exact z_iret hx hb hr (fun t ht _ => ⟨rfl, by rw [ht]; exact hR, by rw [ht], fun q _ => by rw [ht]⟩) (fun _ h => by cases h) (by decide +kernel) hlk
theorem z_p908 (l : Launch) (G : z_G) (hm : z_mok 908) {i j : Nat} (hi : i < 6) (hj : j < (z_txt (1000 + i)).length) {h : z_H} : z_Met l G 908 [.ref (1000 + i), .int (nI j)] h ((z_txt (1000 + i)).getD j 0, h) := by
  refine z_MetW hm (Nat.le_of_ble_eq_true rfl) ?_
  intro p e s m below meth c ls hx hb hml hown hts hr hlk hK hSt hR hl
  have hl : lv_has ls 2 [(0, .ref (G.2.1 (1000 + i))), (1, .int (nI j))] := by
    have : z_ul G (lv_args 0 [.ref (1000 + i), .int (nI j)]) = [(0, z_up G (.ref (1000 + i))), (1, .int (nI j))] := rfl
    rw [this, y_adr G hi] at hl
    exact hl
  have hP0 : ∀ U : State, U.heap = s.heap → s.WarmedH U.vm → y_P0 G U := fun U hU hW => by
    show z_St G U U.heap
    rw [hU]
    exact z_St.to hW.alike (fun _ _ _ => rfl) hSt
  have hSt0 := hSt
  obtain ⟨adV, hS, -, -⟩ := hSt
  obtain ⟨hO, hC, hV, hT⟩ := hS.1 i hi
  obtain ⟨t1, t2, t3⟩ := y_txt i hi
  have hP1 : ∀ U : State, U.heap = s.heap → s.WarmedH U.vm → y_P1 G (adV i) (z_txt (1000 + i)).length (fun j => .int ((z_txt (1000 + i)).getD j 0)) U := fun U hU hW => by
    refine ⟨hP0 U hU hW, ?_⟩
    rw [hU]
    rw [t1, t3] at hT
    exact va_T.moved hW.alike hT
  obtain ⟨q1, q2⟩ := y_chr i hi j hj
  have hg : ∀ w ∈ z_good, w.before _ s = true := fun w hw => hts w (List.mem_cons_of_mem _ hw)
  have hn : narrow .char (.int ((z_txt (1000 + i)).getD j 0)) = .int ((z_txt (1000 + i)).getD j 0) := by
    have : narrow .char (.int ((z_txt (1000 + i)).getD j 0)) = .int (vp_nar .char ((z_txt (1000 + i)).getD j 0)) := rfl
    rw [this, q2]
  refine lv_aload_n hx hb (k := 0) (i := 0) (by decide +kernel) rfl (lv_at hl 0 rfl) ?_
  obtain ⟨cell, g1, g2, g3, g4⟩ := hO
  refine y_callV (own := z_mt 908) (t := y_latin) (i := 492) (As := []) (rest := []) (k := 1) hx hb hml hown hts hl.1 (y_m_latin l G hi) ⟨y_g 581 (by decide +kernel) rfl, y_g 106 (by decide +kernel) rfl, by decide, (show _ = some 0 from by decide +kernel), y_g 578 (by decide +kernel) rfl, by decide⟩ ⟨y_g 579 (by decide +kernel) rfl, y_g 580 (by decide +kernel) rfl⟩ (y_b0 G) hP0 ⟨cell, g1, g2, g3⟩ ⟨Nat.le_of_ble_eq_true rfl, Nat.le_of_ble_eq_true rfl⟩ (Nat.le_of_ble_eq_true rfl) rfl (by decide +kernel) ?_
  refine lv_if_eq hx hb (off := 12) (tgt := 16) (by decide +kernel) rfl (fun h => absurd h (by decide)) (fun _ => ?_)
  refine lv_aload_n hx hb (k := 0) (i := 0) (by decide +kernel) rfl (lv_at hl 0 rfl) ?_
  refine vk_getf (index := 9) (own := "java/lang/String") (ref := "java/lang/String") hx hb hV (y_S0 _) hown (hg _ (y_g 1587 (by decide +kernel) rfl)) (fun _ h => h) (by decide +kernel) ?_
  refine lv_iload_n hx hb (k := 1) (i := 1) (by decide +kernel) rfl (lv_at hl 1 rfl) ?_
  refine y_callS (own := z_mt 908) (t := y_lat) (i := 495) (a := [.ref (adV i), .int (nI j)]) (rest := []) (k := 3) hx hb hml hown hts hl.1 (y_m_lat l G hj t2 rfl q1 hn) ⟨y_g 584 (by decide +kernel) rfl, y_g 107 (by decide +kernel) rfl, by decide, (show _ = some 2 from by decide +kernel), y_g 582 (by decide +kernel) rfl, by decide⟩ (y_g 583 (by decide +kernel) rfl) (y_b1 G _ _ _) hP1 ⟨Nat.le_of_ble_eq_true rfl, Nat.le_of_ble_eq_true rfl⟩ (Nat.le_of_ble_eq_true rfl) rfl (by decide +kernel) ?_
  exact y_ret hx hb hr hn (fun t ht _ => ⟨rfl, by rw [ht]; exact hR, by rw [ht], fun q _ => by rw [ht]⟩) (fun _ h => by cases h) (by decide +kernel) hlk
theorem y_i902 {a : List Value} {h : z_H} {r : z_A} (he : z_prim 902 a h = some r) : ∃ o x, a = [.ref o, .int x] ∧ z_K o = 20 ∧ r = (0, z_fiI h o x) := by
  unfold z_prim at he
  split at he
  all_goals first | (exfalso; omega) | skip
  · rename_i o x _
    cases hb : Nat.beq (z_K o) 20 with
    | false => rw [hb] at he; cases he
    | true => rw [hb] at he; cases he; exact ⟨o, x, rfl, z_beq hb, rfl⟩
  · cases he
theorem y_i903 {a : List Value} {h : z_H} {r : z_A} (he : z_prim 903 a h = some r) : ∃ o x, a = [.ref o, .long x] ∧ z_K o = 21 ∧ r = (0, z_fiL h o x) := by
  unfold z_prim at he
  split at he
  all_goals first | (exfalso; omega) | skip
  · rename_i o x _
    cases hb : Nat.beq (z_K o) 21 with
    | false => rw [hb] at he; cases he
    | true => rw [hb] at he; cases he; exact ⟨o, x, rfl, z_beq hb, rfl⟩
  · cases he
theorem y_i906 {a : List Value} {h : z_H} {r : z_A} (he : z_prim 906 a h = some r) : ∃ x, a = [.long x] ∧ r = (z_bits x, h) := by
  unfold z_prim at he
  split at he
  all_goals first | (exfalso; omega) | skip
  · rename_i x _
    cases he
    exact ⟨x, rfl, rfl⟩
  · cases he
theorem y_i907 {a : List Value} {h : z_H} {r : z_A} (he : z_prim 907 a h = some r) : ∃ i, i < 6 ∧ a = [.ref (1000 + i)] ∧ r = (Int32.ofNat (z_txt (1000 + i)).length, h) := by
  unfold z_prim at he
  split at he
  all_goals first | (exfalso; omega) | skip
  · rename_i o _
    cases hb : (Nat.ble 1000 o && Nat.ble o 1005) with
    | false => rw [hb] at he; cases he
    | true =>
      rw [hb] at he
      rw [Bool.and_eq_true] at hb
      have b1 := Nat.le_of_ble_eq_true hb.1
      have b2 := Nat.le_of_ble_eq_true hb.2
      obtain ⟨i, rfl⟩ : ∃ i, o = 1000 + i := ⟨o - 1000, (Nat.add_sub_of_le b1).symm⟩
      cases he
      exact ⟨i, Nat.lt_succ_of_le (Nat.le_of_add_le_add_left (show 1000 + i ≤ 1000 + 5 from b2)), rfl, rfl⟩
  · cases he
theorem y_i908 {a : List Value} {h : z_H} {r : z_A} (he : z_prim 908 a h = some r) : ∃ i j, i < 6 ∧ j < (z_txt (1000 + i)).length ∧ a = [.ref (1000 + i), .int (nI j)] ∧ r = ((z_txt (1000 + i)).getD j 0, h) := by
  unfold z_prim at he
  split at he
  all_goals first | (exfalso; omega) | skip
  · rename_i o x _
    cases hb : (Nat.ble 1000 o && Nat.ble o 1005 && z_in x (z_txt o).length) with
    | false => rw [hb] at he; cases he
    | true =>
      rw [hb] at he
      rw [Bool.and_eq_true, Bool.and_eq_true] at hb
      have b1 := Nat.le_of_ble_eq_true hb.1.1
      have b2 := Nat.le_of_ble_eq_true hb.1.2
      obtain ⟨i, rfl⟩ : ∃ i, o = 1000 + i := ⟨o - 1000, (Nat.add_sub_of_le b1).symm⟩
      obtain ⟨b3, b4⟩ := z_vin hb.2
      have b5 : ¬ x < 0 := fun q => b3 (Or.inl q)
      obtain ⟨j, hj, rfl⟩ := nI_of b5
      rw [nI_clamp hj] at b4 he
      cases he
      exact ⟨i, j, Nat.lt_succ_of_le (Nat.le_of_add_le_add_left (show 1000 + i ≤ 1000 + 5 from b2)), b4, rfl, rfl⟩
  · cases he
theorem z_prims (l : Launch) (G : z_G) (hmo : ∀ i, z_idok i → z_mok i) : ∀ id a h r, 902 ≤ id → z_idok id → z_cat a ≤ z_ml id → z_prim id a h = some r → z_Met l G id a h r := by
  intro id a h r hid hok hcat he
  have hcase : id = 902 ∨ id = 903 ∨ id = 906 ∨ id = 907 ∨ id = 908 := by
    rcases hok with h | h <;> omega
  have hm := hmo id hok
  rcases hcase with rfl | rfl | rfl | rfl | rfl
  · obtain ⟨o, x, rfl, h1, rfl⟩ := y_i902 he
    exact z_p902 l G hm h1
  · obtain ⟨o, x, rfl, h1, rfl⟩ := y_i903 he
    exact z_p903 l G hm h1
  · obtain ⟨x, rfl, rfl⟩ := y_i906 he
    exact z_p906 l G hm
  · obtain ⟨i, hi, rfl, rfl⟩ := y_i907 he
    exact z_p907 l G hm hi
  · obtain ⟨i, j, hi, hj, rfl, rfl⟩ := y_i908 he
    exact z_p908 l G hm hi hj
end
section
/-! THE BUILDING MACHINE: the constructors, on a list of the objects made so far -/
abbrev y_C : Type := (Nat × List Value) ⊕ ((Nat × Nat × List (Nat × Int32)) ⊕ (Nat ⊕ (Nat × Nat × List (Nat × Nat))))
def y_fi : List (Nat × Int32) → Nat → Int32
  | [], _ => 0
  | (i, x) :: r, j => bif Nat.beq i j then x else y_fi r j
def y_fr : List (Nat × Nat) → Nat → Nat
  | [], _ => 999
  | (i, x) :: r, j => bif Nat.beq i j then x else y_fr r j
def y_at (G : z_G) (H : Heap) (a : Nat) : y_C → Prop
  | .inl (k, fs) => 1 ≤ k ∧ k ≤ 12 ∧ fs.length = (z_q k).2.2 ∧ t_OB a (G.2.2.1 (k - 1)) (z_q k).2.2 (G.2.2.2.1 (k - 1)) H (fun j => z_up G (fs.getD j .null))
  | .inr (.inl (k, N, f)) => (k = 20 ∨ k = 22 ∨ k = 23) ∧ H[a]? = some (arrV (G.2.2.2.2 k) N (fun j => .int (y_fi f j)))
  | .inr (.inr (.inl N)) => H[a]? = some (arrV (G.2.2.2.2 21) N (fun _ => .long 0))
  | .inr (.inr (.inr (k, N, f))) => 24 ≤ k ∧ k ≤ 26 ∧ H[a]? = some (arrV (G.2.2.2.2 k) N (fun j => z_rv G (y_fr f j)))
theorem y_at.kept {G : z_G} {H H1 : Heap} {a : Nat} {c : y_C} (h : y_at G H a c) (h1 : H1[a]? = H[a]?) : y_at G H1 a c := by
  rcases c with ⟨k, fs⟩ | ⟨k, N, f⟩ | N | ⟨k, N, f⟩
  · exact ⟨h.1, h.2.1, h.2.2.1, h.2.2.2.kept h1⟩
  · exact ⟨h.1, h1.trans h.2⟩
  · exact h1.trans h
  · exact ⟨h.1, h.2.1, h1.trans h.2.2⟩
def y_Rep (G : z_G) (cs : List y_C) (H : Heap) : Prop := H.size = G.1 + cs.length ∧ ∀ o c, cs[o]? = some c → y_at G H (G.1 + o) c
theorem y_Rep.push {G : z_G} {cs : List y_C} {H H1 : Heap} {c : y_C} (h : y_Rep G cs H) (z : H1.size = H.size + 1) (hq : ∀ q, q < H.size → H1[q]? = H[q]?) (hc : y_at G H1 H.size c) : y_Rep G (cs ++ [c]) H1 := by
  refine ⟨by rw [z, h.1, List.length_append]; rfl, fun o c' ho => ?_⟩
  by_cases hl : o < cs.length
  · rw [List.getElem?_append_left hl] at ho
    exact (h.2 o c' ho).kept (hq _ (by rw [h.1]; omega))
  · rw [List.getElem?_append_right (by omega)] at ho
    have hz : o - cs.length < 1 := (List.getElem?_eq_some_iff.mp ho).1
    rw [show o - cs.length = 0 by omega] at ho
    cases ho
    rw [show G.1 + o = H.size by rw [h.1]; omega]
    exact hc
theorem y_Rep.set {G : z_G} {cs : List y_C} {H H1 : Heap} {o : Nat} {c : y_C} (h : y_Rep G cs H) (z : H1.size = H.size) (hq : ∀ q, q ≠ G.1 + o → H1[q]? = H[q]?) (hc : y_at G H1 (G.1 + o) c) : y_Rep G (cs.set o c) H1 := by
  refine ⟨by rw [z, h.1, List.length_set], fun o' c' ho => ?_⟩
  by_cases he : o = o'
  · subst he
    rw [List.getElem?_set_self' ] at ho
    cases hx : cs[o]? with
    | none => rw [hx] at ho; cases ho
    | some c0 => rw [hx] at ho; cases ho; exact hc
  · rw [List.getElem?_set_ne he] at ho
    exact (h.2 o' c' ho).kept (hq _ (by omega))
def y_Fr (G : z_G) (s : State) (H : Heap) (locs : List Loc) : Prop := s.heap.size ≤ H.size ∧ (∀ q, q < G.1 → H[q]? = s.heap[q]?) ∧ ∀ q ∈ locs, G.1 ≤ q.base
def y_Kn (G : z_G) (U : State) : Prop := z_Kn G U ∧ ∀ k, 24 ≤ k → k ≤ 26 → ∃ C, z_rowTy k = .object C ∧ va_AO C U
abbrev y_S : Type := Nat × z_L × List Value × List y_C × Nat × Nat
/-- instruction, next pc, a constant, two numbers -/
abbrev y_I : Type := Instr × Nat × Int32 × Nat × Nat
abbrev y_O : Type := y_S ⊕ ((List y_C × Nat × Nat) ⊕ (Nat × List Value × y_S))
def y_nx (pc : Nat) (l : z_L) (st : List Value) (cs : List y_C) (ce sl : Nat) : Option y_O := some (.inl (pc, l, st, cs, ce, sl))
def y_if (c : Bool) (a : Option y_O) : Option y_O := match c with
  | true => a
  | false => none
def y_kd (a N : Nat) : y_C := match a with
  | 21 => .inr (.inr (.inl N))
  | _ => .inr (.inl (a, N, []))
def y_def (k : Nat) : List Value := (List.range (z_q k).2.2).map (fun j => defaultValue (z_qT k j))
def y_isR : FieldType → Bool
  | .object _ => true
  | .array _ => true
  | _ => false
def y_cK (k : Nat) : Nat := match k with
  | 24 => 7
  | 25 => 10
  | _ => 11
def y_i1 (st : List Value) (f : Int32 → List Value → Option y_O) : Option y_O := match st with
  | .int x :: r => f x r
  | _ => none
def y_i2 (st : List Value) (f : Int32 → Int32 → List Value → Option y_O) : Option y_O := match st with
  | .int y :: .int x :: r => f x y r
  | _ => none
def y_r1 (st : List Value) (f : Nat → List Value → Option y_O) : Option y_O := match st with
  | .ref o :: r => f o r
  | _ => none
def y_rr (st : List Value) (f : Nat → Nat → List Value → Option y_O) : Option y_O := match st with
  | .ref x :: .ref o :: r => f o x r
  | _ => none
def y_rir (st : List Value) (f : Nat → Int32 → Nat → List Value → Option y_O) : Option y_O := match st with
  | .ref x :: .int j :: .ref o :: r => f o j x r
  | _ => none
def y_rii (st : List Value) (f : Nat → Int32 → Int32 → List Value → Option y_O) : Option y_O := match st with
  | .int x :: .int j :: .ref o :: r => f o j x r
  | _ => none
def y_vi (v : Option Value) (f : Int32 → Option y_O) : Option y_O := match v with
  | some (.int x) => f x
  | _ => none
def y_vr (v : Option Value) (f : Nat → Option y_O) : Option y_O := match v with
  | some (.ref x) => f x
  | _ => none
def y_co (c : Option y_C) (f : Nat → List Value → Option y_O) : Option y_O := match c with
  | some (.inl (k, fs)) => f k fs
  | _ => none
def y_cr (c : Option y_C) (f : Nat → Nat → List (Nat × Nat) → Option y_O) : Option y_O := match c with
  | some (.inr (.inr (.inr (k, N, g)))) => f k N g
  | _ => none
def y_ci (c : Option y_C) (f : Nat → Nat → List (Nat × Int32) → Option y_O) : Option y_O := match c with
  | some (.inr (.inl (k, N, g))) => f k N g
  | _ => none
def y_exec (MC MS : Nat) (ins : Instr) (n : Nat) (v : Int32) (a b : Nat) (l : z_L) (st : List Value) (cs : List y_C) (ce sl : Nat) : Option y_O := match ins with
  | .iconst _ => y_nx n l (.int v :: st) cs ce sl
  | .bipush _ => y_nx n l (.int v :: st) cs ce sl
  | .sipush _ => y_nx n l (.int v :: st) cs ce sl
  | .iload _ => y_vi (z_get l a) fun x => y_nx n l (.int x :: st) cs ce sl
  | .iload_n _ => y_vi (z_get l a) fun x => y_nx n l (.int x :: st) cs ce sl
  | .aload _ => y_vr (z_get l a) fun o => y_if (Nat.blt o 141) (y_nx n l (.ref o :: st) cs ce sl)
  | .aload_n _ => y_vr (z_get l a) fun o => y_if (Nat.blt o 141) (y_nx n l (.ref o :: st) cs ce sl)
  | .istore _ => y_i1 st fun x r => y_nx n (z_put1 l a (.int x)) r cs ce sl
  | .istore_n _ => y_i1 st fun x r => y_nx n (z_put1 l a (.int x)) r cs ce sl
  | .iinc _ _ => y_vi (z_get l a) fun x => y_nx n (z_put1 l a (.int (x + v))) st cs ce sl
  | .if_icmp .ge _ => y_i2 st fun x y r => y_nx (if y ≤ x then a else n) l r cs ce sl
  | .goto _ => y_nx a l st cs ce sl
  | .dup => y_r1 st fun o r => y_if (Nat.blt o 141) (y_nx n l (.ref o :: .ref o :: r) cs ce sl)
  | .getfield _ => y_r1 st fun o r => y_co cs[o]? fun k fs => y_vr fs[b]? fun x => y_if (Nat.beq k a && Nat.blt o 141 && Nat.blt x 141) (y_nx n l (.ref x :: r) cs ce sl)
  | .putfield _ => y_rr st fun o x r => y_co cs[o]? fun k fs => y_if (Nat.beq k a && Nat.blt o 141 && Nat.blt x 141) (y_nx n l r (cs.set o (.inl (k, fs.set b (.ref x)))) ce sl)
  | .newarray _ => y_i1 st fun x r => y_if (!(decide (x < 0)) && Nat.ble x.toNatClampNeg 2000 && Nat.blt cs.length 141 && Nat.ble (ce + 1) MC && Nat.ble (sl + x.toNatClampNeg) MS) (y_nx n l (.ref cs.length :: r) (cs ++ [y_kd a x.toNatClampNeg]) (ce + 1) (sl + x.toNatClampNeg))
  | .anewarray _ => y_i1 st fun x r => y_if (!(decide (x < 0)) && Nat.ble x.toNatClampNeg 2000 && Nat.blt cs.length 141 && Nat.ble (ce + 1) MC && Nat.ble (sl + x.toNatClampNeg) MS) (y_nx n l (.ref cs.length :: r) (cs ++ [.inr (.inr (.inr (a, x.toNatClampNeg, [])))]) (ce + 1) (sl + x.toNatClampNeg))
  | .aastore => y_rir st fun o j x r => y_cr cs[o]? fun k N g => y_co cs[x]? fun kc _ => y_if (Nat.beq kc (y_cK k) && z_in j N && Nat.blt o 141 && Nat.blt x 141) (y_nx n l r (cs.set o (.inr (.inr (.inr (k, N, (j.toNatClampNeg, x) :: g))))) ce sl)
  | .iastore => y_rii st fun o j x r => y_ci cs[o]? fun k N g => y_if (Nat.beq k 20 && z_in j N && Nat.blt o 141) (y_nx n l r (cs.set o (.inr (.inl (k, N, (j.toNatClampNeg, x) :: g)))) ce sl)
  | .new _ => y_if (Nat.blt cs.length 141 && Nat.ble (ce + 1) MC && Nat.ble (sl + (z_q a).2.2) MS) (y_nx n l (.ref cs.length :: st) (cs ++ [.inl (a, y_def a)]) (ce + 1) (sl + (z_q a).2.2))
  | .invokespecial _ => match a with
    | 99 => y_r1 st fun o r => y_if (Nat.blt o 141 && Nat.ble (z_cat r) 8) (y_nx n l r cs ce sl)
    | _ => y_if (Nat.ble b st.length && Nat.ble (z_cat (st.drop b)) 8) (some (.inr (.inr (a, (st.take b).reverse, (n, l, st.drop b, cs, ce, sl)))))
  | .return_ => some (.inr (.inl (cs, ce, sl)))
  | _ => none
def y_isRet : Instr → Bool
  | .return_ => true
  | _ => false
def y_isSp : Instr → Bool
  | .invokespecial _ => true
  | _ => false
def y_rcv : List Value → Bool
  | .ref o :: _ => Nat.blt o 141
  | _ => false
def y_run (call : Nat → List Value → List y_C → Option (List y_C)) (cost : Nat → Nat × Nat × Nat) (C : Nat → Option y_I) (me : Nat) : Nat → y_S → Option (List y_C)
  | 0, _ => none
  | n + 1, s => match C s.1 with
    | none => none
    | some i => match y_exec (cost me).1 (cost me).2.1 i.1 i.2.1 i.2.2.1 i.2.2.2.1 i.2.2.2.2 s.2.1 s.2.2.1 s.2.2.2.1 s.2.2.2.2.1 s.2.2.2.2.2 with
      | none => none
      | some (.inl s') => y_run call cost C me n s'
      | some (.inr (.inl r)) => bif y_isRet i.1 && Nat.ble r.2.1 (cost me).1 && Nat.ble r.2.2 (cost me).2.1 then some r.1 else none
      | some (.inr (.inr (id, args, s'))) => bif y_isSp i.1 && y_rcv args && Nat.blt (cost id).2.2 (cost me).2.2 && Nat.ble (s'.2.2.2.2.1 + (cost id).1) (cost me).1 && Nat.ble (s'.2.2.2.2.2 + (cost id).2.1) (cost me).2.1 then (match call id args s'.2.2.2.1 with
        | none => none
        | some cs' => y_run call cost C me n (s'.1, s'.2.1, s'.2.2.1, cs', s'.2.2.2.2.1 + (cost id).1, s'.2.2.2.2.2 + (cost id).2.1)) else none
def y_cost (id : Nat) : Nat × Nat × Nat := match id with
  | 0 => (1, 320, 2)
  | 1 => (13, 306, 3)
  | 2 => (7, 266, 2)
  | 3 => (3, 24, 2)
  | 4 => (2, 5, 3)
  | 5 => (1, 4, 2)
  | 6 => (4, 133, 3)
  | 7 => (24, 82, 3)
  | 8 => (20, 578, 3)
  | 9 => (1, 40, 2)
  | 10 => (121, 2810, 4)
  | _ => (18, 3981, 2)
def yd_0 : List (Nat × y_I) := [(0, .aload_n 0, 1, 0, 0, 0), (1, .invokespecial 3, 4, 0, 99, 0), (4, .aload_n 0, 5, 0, 0, 0), (5, .sipush 320, 8, 320, 0, 0), (8, .newarray .byte, 10, 0, 22, 0), (10, .putfield 9, 13, 0, 2, 5), (13, .return_, 14, 0, 0, 0)]
def yp_0 : List (Nat × Nat) := [(0, 0), (1, 126), (4, 0), (5, 0), (8, 0), (10, 136), (13, 0)]
def yd_1 : List (Nat × y_I) := [(0, .aload_n 0, 1, 0, 0, 0), (1, .invokespecial 3, 4, 0, 99, 0), (4, .aload_n 0, 5, 0, 0, 0), (5, .new 9, 8, 0, 4, 0), (8, .dup, 9, 0, 0, 0), (9, .invokespecial 11, 12, 0, 2, 1), (12, .putfield 12, 15, 0, 3, 3), (15, .aload_n 0, 16, 0, 0, 0), (16, .new 18, 19, 0, 5, 0), (19, .dup, 20, 0, 0, 0), (20, .invokespecial 20, 23, 0, 3, 1), (23, .putfield 21, 26, 0, 3, 4), (26, .aload_n 0, 27, 0, 0, 0), (27, .iconst 3, 28, 3, 0, 0), (28, .newarray .int, 30, 0, 20, 0), (30, .putfield 25, 33, 0, 3, 6), (33, .aload_n 0, 34, 0, 0, 0), (34, .aload_n 1, 35, 0, 1, 0), (35, .putfield 29, 38, 0, 3, 5), (38, .return_, 39, 0, 0, 0)]
def yp_1 : List (Nat × Nat) := [(0, 0), (1, 156), (4, 0), (5, 157), (8, 0), (9, 159), (12, 248), (15, 0), (16, 214), (19, 0), (20, 216), (23, 250), (26, 0), (27, 0), (28, 0), (30, 253), (33, 0), (34, 0), (35, 252), (38, 0)]
def yd_2 : List (Nat × y_I) := [(0, .aload_n 0, 1, 0, 0, 0), (1, .invokespecial 3, 4, 0, 99, 0), (4, .aload_n 0, 5, 0, 0, 0), (5, .bipush 6, 7, 6, 0, 0), (7, .newarray .int, 9, 0, 20, 0), (9, .putfield 9, 12, 0, 4, 2), (12, .aload_n 0, 13, 0, 0, 0), (13, .bipush 48, 15, 48, 0, 0), (15, .newarray .int, 17, 0, 20, 0), (17, .putfield 15, 20, 0, 4, 3), (20, .aload_n 0, 21, 0, 0, 0), (21, .bipush 48, 23, 48, 0, 0), (23, .newarray .int, 25, 0, 20, 0), (25, .putfield 18, 28, 0, 4, 4), (28, .aload_n 0, 29, 0, 0, 0), (29, .bipush 48, 31, 48, 0, 0), (31, .newarray .int, 33, 0, 20, 0), (33, .putfield 21, 36, 0, 4, 5), (36, .aload_n 0, 37, 0, 0, 0), (37, .bipush 96, 39, 96, 0, 0), (39, .newarray .int, 41, 0, 20, 0), (41, .putfield 24, 44, 0, 4, 6), (44, .aload_n 0, 45, 0, 0, 0), (45, .iconst 4, 46, 4, 0, 0), (46, .newarray .int, 48, 0, 20, 0), (48, .putfield 27, 51, 0, 4, 7), (51, .aload_n 0, 52, 0, 0, 0), (52, .bipush 16, 54, 16, 0, 0), (54, .newarray .int, 56, 0, 20, 0), (56, .putfield 30, 59, 0, 4, 8), (59, .return_, 60, 0, 0, 0)]
def yp_2 : List (Nat × Nat) := [(0, 0), (1, 162), (4, 0), (5, 0), (7, 0), (9, 172), (12, 0), (13, 0), (15, 0), (17, 176), (20, 0), (21, 0), (23, 0), (25, 180), (28, 0), (29, 0), (31, 0), (33, 184), (36, 0), (37, 0), (39, 0), (41, 188), (44, 0), (45, 0), (46, 0), (48, 190), (51, 0), (52, 0), (54, 0), (56, 191), (59, 0)]
def yd_3 : List (Nat × y_I) := [(0, .aload_n 0, 1, 0, 0, 0), (1, .invokespecial 3, 4, 0, 99, 0), (4, .aload_n 0, 5, 0, 0, 0), (5, .bipush 8, 7, 8, 0, 0), (7, .newarray .int, 9, 0, 20, 0), (9, .putfield 9, 12, 0, 5, 1), (12, .aload_n 0, 13, 0, 0, 0), (13, .bipush 8, 15, 8, 0, 0), (15, .newarray .int, 17, 0, 20, 0), (17, .putfield 15, 20, 0, 5, 2), (20, .aload_n 0, 21, 0, 0, 0), (21, .bipush 8, 23, 8, 0, 0), (23, .newarray .int, 25, 0, 20, 0), (25, .putfield 18, 28, 0, 5, 3), (28, .return_, 29, 0, 0, 0)]
def yp_3 : List (Nat × Nat) := [(0, 0), (1, 219), (4, 0), (5, 0), (7, 0), (9, 224), (12, 0), (13, 0), (15, 0), (17, 227), (20, 0), (21, 0), (23, 0), (25, 230), (28, 0)]
def yd_4 : List (Nat × y_I) := [(0, .aload_n 0, 1, 0, 0, 0), (1, .invokespecial 3, 4, 0, 99, 0), (4, .aload_n 0, 5, 0, 0, 0), (5, .new 9, 8, 0, 7, 0), (8, .dup, 9, 0, 0, 0), (9, .invokespecial 11, 12, 0, 5, 1), (12, .putfield 12, 15, 0, 6, 2), (15, .return_, 16, 0, 0, 0)]
def yp_4 : List (Nat × Nat) := [(0, 0), (1, 284), (4, 0), (5, 285), (8, 0), (9, 287), (12, 300), (15, 0)]
def yd_5 : List (Nat × y_I) := [(0, .aload_n 0, 1, 0, 0, 0), (1, .invokespecial 3, 4, 0, 99, 0), (4, .aload_n 0, 5, 0, 0, 0), (5, .iconst 4, 6, 4, 0, 0), (6, .newarray .long, 8, 0, 21, 0), (8, .putfield 11, 11, 0, 7, 0), (11, .return_, 12, 0, 0, 0)]
def yp_5 : List (Nat × Nat) := [(0, 0), (1, 290), (4, 0), (5, 0), (6, 0), (8, 291), (11, 0)]
def yd_6 : List (Nat × y_I) := [(0, .aload_n 0, 1, 0, 0, 0), (1, .invokespecial 3, 4, 0, 99, 0), (4, .aload_n 0, 5, 0, 0, 0), (5, .new 9, 8, 0, 7, 0), (8, .dup, 9, 0, 0, 0), (9, .invokespecial 11, 12, 0, 5, 1), (12, .putfield 12, 15, 0, 8, 0), (15, .aload_n 0, 16, 0, 0, 0), (16, .bipush 64, 18, 64, 0, 0), (18, .newarray .int, 20, 0, 20, 0), (20, .putfield 18, 23, 0, 8, 3), (23, .aload_n 0, 24, 0, 0, 0), (24, .bipush 64, 26, 64, 0, 0), (26, .newarray .int, 28, 0, 20, 0), (28, .putfield 22, 31, 0, 8, 4), (31, .aload_n 0, 32, 0, 0, 0), (32, .aload_n 1, 33, 0, 1, 0), (33, .putfield 25, 36, 0, 8, 1), (36, .aload_n 0, 37, 0, 0, 0), (37, .aload_n 2, 38, 0, 2, 0), (38, .putfield 29, 41, 0, 8, 2), (41, .return_, 42, 0, 0, 0)]
def yp_6 : List (Nat × Nat) := [(0, 0), (1, 330), (4, 0), (5, 331), (8, 0), (9, 332), (12, 333), (15, 0), (16, 0), (18, 0), (20, 338), (23, 0), (24, 0), (26, 0), (28, 339), (31, 0), (32, 0), (33, 336), (36, 0), (37, 0), (38, 337), (41, 0)]
def yd_7 : List (Nat × y_I) := [(0, .aload_n 0, 1, 0, 0, 0), (1, .invokespecial 3, 4, 0, 99, 0), (4, .aload_n 0, 5, 0, 0, 0), (5, .bipush 8, 7, 8, 0, 0), (7, .newarray .int, 9, 0, 20, 0), (9, .putfield 9, 12, 0, 9, 1), (12, .aload_n 0, 13, 0, 0, 0), (13, .bipush 8, 15, 8, 0, 0), (15, .newarray .int, 17, 0, 20, 0), (17, .putfield 15, 20, 0, 9, 2), (20, .aload_n 0, 21, 0, 0, 0), (21, .bipush 8, 23, 8, 0, 0), (23, .newarray .int, 25, 0, 20, 0), (25, .putfield 18, 28, 0, 9, 3), (28, .aload_n 0, 29, 0, 0, 0), (29, .bipush 8, 31, 8, 0, 0), (31, .anewarray 21, 34, 0, 24, 0), (34, .putfield 23, 37, 0, 9, 4), (37, .aload_n 0, 38, 0, 0, 0), (38, .new 21, 41, 0, 7, 0), (41, .dup, 42, 0, 0, 0), (42, .invokespecial 27, 45, 0, 5, 1), (45, .putfield 28, 48, 0, 9, 5), (48, .aload_n 0, 49, 0, 0, 0), (49, .new 21, 52, 0, 7, 0), (52, .dup, 53, 0, 0, 0), (53, .invokespecial 27, 56, 0, 5, 1), (56, .putfield 32, 59, 0, 9, 6), (59, .aload_n 0, 60, 0, 0, 0), (60, .aload_n 1, 61, 0, 1, 0), (61, .putfield 35, 64, 0, 9, 7), (64, .aload_n 0, 65, 0, 0, 0), (65, .aload_n 2, 66, 0, 2, 0), (66, .putfield 39, 69, 0, 9, 8), (69, .aload_n 0, 70, 0, 0, 0), (70, .aload_n 3, 71, 0, 3, 0), (71, .putfield 43, 74, 0, 9, 9), (74, .aload_n 0, 75, 0, 0, 0), (75, .aload 4, 77, 0, 4, 0), (77, .putfield 47, 80, 0, 9, 10), (80, .iconst 0, 81, 0, 0, 0), (81, .istore 5, 83, 0, 5, 0), (83, .iload 5, 85, 0, 5, 0), (85, .bipush 8, 87, 8, 0, 0), (87, .if_icmp .ge 23, 90, 0, 110, 0), (90, .aload_n 0, 91, 0, 0, 0), (91, .getfield 23, 94, 0, 9, 4), (94, .iload 5, 96, 0, 5, 0), (96, .new 21, 99, 0, 7, 0), (99, .dup, 100, 0, 0, 0), (100, .invokespecial 27, 103, 0, 5, 1), (103, .aastore, 104, 0, 0, 0), (104, .iinc 5 1, 107, 1, 5, 0), (107, .goto (-24), 110, 0, 83, 0), (110, .return_, 111, 0, 0, 0)]
def yp_7 : List (Nat × Nat) := [(0, 0), (1, 359), (4, 0), (5, 0), (7, 0), (9, 365), (12, 0), (13, 0), (15, 0), (17, 367), (20, 0), (21, 0), (23, 0), (25, 369), (28, 0), (29, 0), (31, 360), (34, 370), (37, 0), (38, 360), (41, 0), (42, 362), (45, 371), (48, 0), (49, 360), (52, 0), (53, 362), (56, 372), (59, 0), (60, 0), (61, 373), (64, 0), (65, 0), (66, 374), (69, 0), (70, 0), (71, 375), (74, 0), (75, 0), (77, 376), (80, 0), (81, 0), (83, 0), (85, 0), (87, 0), (90, 0), (91, 370), (94, 0), (96, 360), (99, 0), (100, 362), (103, 0), (104, 0), (107, 0), (110, 0)]
def yd_8 : List (Nat × y_I) := [(0, .aload_n 0, 1, 0, 0, 0), (1, .invokespecial 1, 4, 0, 99, 0), (4, .aload_n 0, 5, 0, 0, 0), (5, .new 7, 8, 0, 4, 0), (8, .dup, 9, 0, 0, 0), (9, .invokespecial 9, 12, 0, 2, 1), (12, .putfield 10, 15, 0, 10, 1), (15, .aload_n 0, 16, 0, 0, 0), (16, .new 7, 19, 0, 4, 0), (19, .dup, 20, 0, 0, 0), (20, .invokespecial 9, 23, 0, 2, 1), (23, .putfield 16, 26, 0, 10, 2), (26, .aload_n 0, 27, 0, 0, 0), (27, .new 19, 30, 0, 5, 0), (30, .dup, 31, 0, 0, 0), (31, .invokespecial 21, 34, 0, 3, 1), (34, .putfield 22, 37, 0, 10, 3), (37, .return_, 38, 0, 0, 0)]
def yp_8 : List (Nat × Nat) := [(0, 0), (1, 408), (4, 0), (5, 409), (8, 0), (9, 410), (12, 414), (15, 0), (16, 409), (19, 0), (20, 410), (23, 416), (26, 0), (27, 411), (30, 0), (31, 412), (34, 418), (37, 0)]
def yd_9 : List (Nat × y_I) := [(0, .aload_n 0, 1, 0, 0, 0), (1, .invokespecial 3, 4, 0, 99, 0), (4, .aload_n 0, 5, 0, 0, 0), (5, .bipush 40, 7, 40, 0, 0), (7, .newarray .int, 9, 0, 20, 0), (9, .putfield 9, 12, 0, 11, 3), (12, .return_, 13, 0, 0, 0)]
def yp_9 : List (Nat × Nat) := [(0, 0), (1, 433), (4, 0), (5, 0), (7, 0), (9, 439), (12, 0)]
def yd_10 : List (Nat × y_I) := [(0, .aload_n 0, 1, 0, 0, 0), (1, .invokespecial 1, 4, 0, 99, 0), (4, .aload_n 0, 5, 0, 0, 0), (5, .new 7, 8, 0, 2, 0), (8, .dup, 9, 0, 0, 0), (9, .invokespecial 9, 12, 0, 0, 1), (12, .putfield 10, 15, 0, 1, 0), (15, .aload_n 0, 16, 0, 0, 0), (16, .new 16, 19, 0, 3, 0), (19, .dup, 20, 0, 0, 0), (20, .aload_n 0, 21, 0, 0, 0), (21, .getfield 10, 24, 0, 1, 0), (24, .invokespecial 18, 27, 0, 1, 2), (27, .putfield 21, 30, 0, 1, 1), (30, .aload_n 0, 31, 0, 0, 0), (31, .new 25, 34, 0, 4, 0), (34, .dup, 35, 0, 0, 0), (35, .invokespecial 27, 38, 0, 2, 1), (38, .putfield 28, 41, 0, 1, 2), (41, .aload_n 0, 42, 0, 0, 0), (42, .new 25, 45, 0, 4, 0), (45, .dup, 46, 0, 0, 0), (46, .invokespecial 27, 49, 0, 2, 1), (49, .putfield 32, 52, 0, 1, 3), (52, .aload_n 0, 53, 0, 0, 0), (53, .new 35, 56, 0, 5, 0), (56, .dup, 57, 0, 0, 0), (57, .invokespecial 37, 60, 0, 3, 1), (60, .putfield 38, 63, 0, 1, 4), (63, .aload_n 0, 64, 0, 0, 0), (64, .new 42, 67, 0, 6, 0), (67, .dup, 68, 0, 0, 0), (68, .invokespecial 44, 71, 0, 4, 1), (71, .putfield 45, 74, 0, 1, 5), (74, .aload_n 0, 75, 0, 0, 0), (75, .new 49, 78, 0, 8, 0), (78, .dup, 79, 0, 0, 0), (79, .aload_n 0, 80, 0, 0, 0), (80, .getfield 28, 83, 0, 1, 2), (83, .aload_n 0, 84, 0, 0, 0), (84, .getfield 32, 87, 0, 1, 3), (87, .invokespecial 51, 90, 0, 6, 3), (90, .putfield 54, 93, 0, 1, 6), (93, .aload_n 0, 94, 0, 0, 0), (94, .new 58, 97, 0, 9, 0), (97, .dup, 98, 0, 0, 0), (98, .aload_n 0, 99, 0, 0, 0), (99, .getfield 28, 102, 0, 1, 2), (102, .aload_n 0, 103, 0, 0, 0), (103, .getfield 38, 106, 0, 1, 4), (106, .aload_n 0, 107, 0, 0, 0), (107, .getfield 54, 110, 0, 1, 6), (110, .aload_n 0, 111, 0, 0, 0), (111, .getfield 45, 114, 0, 1, 5), (114, .invokespecial 60, 117, 0, 7, 5), (117, .putfield 63, 120, 0, 1, 7), (120, .aload_n 0, 121, 0, 0, 0), (121, .iconst 2, 122, 2, 0, 0), (122, .anewarray 67, 125, 0, 25, 0), (125, .putfield 69, 128, 0, 1, 8), (128, .aload_n 0, 129, 0, 0, 0), (129, .iconst 4, 130, 4, 0, 0), (130, .anewarray 73, 133, 0, 26, 0), (133, .putfield 75, 136, 0, 1, 9), (136, .iconst 0, 137, 0, 0, 0), (137, .istore_n 1, 138, 0, 1, 0), (138, .iload_n 1, 139, 0, 1, 0), (139, .iconst 2, 140, 2, 0, 0), (140, .if_icmp .ge 22, 143, 0, 162, 0), (143, .aload_n 0, 144, 0, 0, 0), (144, .getfield 69, 147, 0, 1, 8), (147, .iload_n 1, 148, 0, 1, 0), (148, .new 67, 151, 0, 10, 0), (151, .dup, 152, 0, 0, 0), (152, .invokespecial 79, 155, 0, 8, 1), (155, .aastore, 156, 0, 0, 0), (156, .iinc 1 1, 159, 1, 1, 0), (159, .goto (-21), 162, 0, 138, 0), (162, .iconst 0, 163, 0, 0, 0), (163, .istore_n 1, 164, 0, 1, 0), (164, .iload_n 1, 165, 0, 1, 0), (165, .iconst 4, 166, 4, 0, 0), (166, .if_icmp .ge 22, 169, 0, 188, 0), (169, .aload_n 0, 170, 0, 0, 0), (170, .getfield 75, 173, 0, 1, 9), (173, .iload_n 1, 174, 0, 1, 0), (174, .new 73, 177, 0, 11, 0), (177, .dup, 178, 0, 0, 0), (178, .invokespecial 80, 181, 0, 9, 1), (181, .aastore, 182, 0, 0, 0), (182, .iinc 1 1, 185, 1, 1, 0), (185, .goto (-21), 188, 0, 164, 0), (188, .return_, 189, 0, 0, 0)]
def yp_10 : List (Nat × Nat) := [(0, 0), (1, 118), (4, 0), (5, 121), (8, 0), (9, 123), (12, 449), (15, 0), (16, 151), (19, 0), (20, 0), (21, 449), (24, 153), (27, 450), (30, 0), (31, 275), (34, 0), (35, 276), (38, 451), (41, 0), (42, 275), (45, 0), (46, 276), (49, 452), (52, 0), (53, 277), (56, 0), (57, 278), (60, 453), (63, 0), (64, 279), (67, 0), (68, 281), (71, 454), (74, 0), (75, 325), (78, 0), (79, 0), (80, 451), (83, 0), (84, 452), (87, 327), (90, 455), (93, 0), (94, 354), (97, 0), (98, 0), (99, 451), (102, 0), (103, 453), (106, 0), (107, 455), (110, 0), (111, 454), (114, 356), (117, 456), (120, 0), (121, 0), (122, 400), (125, 457), (128, 0), (129, 0), (130, 402), (133, 458), (136, 0), (137, 0), (138, 0), (139, 0), (140, 0), (143, 0), (144, 457), (147, 0), (148, 400), (151, 0), (152, 405), (155, 0), (156, 0), (159, 0), (162, 0), (163, 0), (164, 0), (165, 0), (166, 0), (169, 0), (170, 458), (173, 0), (174, 402), (177, 0), (178, 430), (181, 0), (182, 0), (185, 0), (188, 0)]
def yd_11 : List (Nat × y_I) := [(0, .aload_n 0, 1, 0, 0, 0), (1, .invokespecial 1, 4, 0, 99, 0), (4, .aload_n 0, 5, 0, 0, 0), (5, .sipush 549, 8, 549, 0, 0), (8, .newarray .int, 10, 0, 20, 0), (10, .putfield 7, 13, 0, 12, 0), (13, .aload_n 0, 14, 0, 0, 0), (14, .sipush 1098, 17, 1098, 0, 0), (17, .newarray .int, 19, 0, 20, 0), (19, .putfield 13, 22, 0, 12, 1), (22, .aload_n 0, 23, 0, 0, 0), (23, .iconst 2, 24, 2, 0, 0), (24, .newarray .boolean, 26, 0, 23, 0), (26, .putfield 16, 29, 0, 12, 2), (29, .aload_n 0, 30, 0, 0, 0), (30, .sipush 549, 33, 549, 0, 0), (33, .newarray .int, 35, 0, 20, 0), (35, .putfield 20, 38, 0, 12, 3), (38, .aload_n 0, 39, 0, 0, 0), (39, .sipush 320, 42, 320, 0, 0), (42, .newarray .int, 44, 0, 20, 0), (44, .putfield 23, 47, 0, 12, 6), (47, .aload_n 0, 48, 0, 0, 0), (48, .iconst 5, 49, 5, 0, 0), (49, .newarray .int, 51, 0, 20, 0), (51, .putfield 26, 54, 0, 12, 14), (54, .aload_n 0, 55, 0, 0, 0), (55, .iconst 5, 56, 5, 0, 0), (56, .newarray .int, 58, 0, 20, 0), (58, .putfield 29, 61, 0, 12, 15), (61, .aload_n 0, 62, 0, 0, 0), (62, .sipush 216, 65, 216, 0, 0), (65, .newarray .boolean, 67, 0, 23, 0), (67, .putfield 32, 70, 0, 12, 16), (70, .aload_n 0, 71, 0, 0, 0), (71, .sipush 216, 74, 216, 0, 0), (74, .newarray .boolean, 76, 0, 23, 0), (76, .putfield 35, 79, 0, 12, 22), (79, .aload_n 0, 80, 0, 0, 0), (80, .bipush 64, 82, 64, 0, 0), (82, .newarray .boolean, 84, 0, 23, 0), (84, .putfield 38, 87, 0, 12, 23), (87, .aload_n 0, 88, 0, 0, 0), (88, .sipush 216, 91, 216, 0, 0), (91, .newarray .boolean, 93, 0, 23, 0), (93, .putfield 41, 96, 0, 12, 24), (96, .aload_n 0, 97, 0, 0, 0), (97, .bipush 8, 99, 8, 0, 0), (99, .newarray .boolean, 101, 0, 23, 0), (101, .putfield 44, 104, 0, 12, 25), (104, .aload_n 0, 105, 0, 0, 0), (105, .bipush 8, 107, 8, 0, 0), (107, .newarray .int, 109, 0, 20, 0), (109, .putfield 47, 112, 0, 12, 26), (112, .aload_n 0, 113, 0, 0, 0), (113, .bipush 8, 115, 8, 0, 0), (115, .newarray .int, 117, 0, 20, 0), (117, .putfield 50, 120, 0, 12, 27), (120, .aload_n 0, 121, 0, 0, 0), (121, .iconst 4, 122, 4, 0, 0), (122, .newarray .int, 124, 0, 20, 0), (124, .putfield 53, 127, 0, 12, 29), (127, .aload_n 0, 128, 0, 0, 0), (128, .iconst 4, 129, 4, 0, 0), (129, .newarray .int, 131, 0, 20, 0), (131, .putfield 56, 134, 0, 12, 30), (134, .aload_n 0, 135, 0, 0, 0), (135, .sipush 160, 138, 160, 0, 0), (138, .newarray .int, 140, 0, 20, 0), (140, .putfield 59, 143, 0, 12, 31), (143, .aload_n 0, 144, 0, 0, 0), (144, .sipush 549, 147, 549, 0, 0), (147, .newarray .int, 149, 0, 20, 0), (149, .putfield 62, 152, 0, 12, 32), (152, .iconst 0, 153, 0, 0, 0), (153, .istore_n 1, 154, 0, 1, 0), (154, .iload_n 1, 155, 0, 1, 0), (155, .iconst 4, 156, 4, 0, 0), (156, .if_icmp .ge 17, 159, 0, 173, 0), (159, .aload_n 0, 160, 0, 0, 0), (160, .getfield 53, 163, 0, 12, 29), (163, .iload_n 1, 164, 0, 1, 0), (164, .bipush (-4), 166, (-4), 0, 0), (166, .iastore, 167, 0, 0, 0), (167, .iinc 1 1, 170, 1, 1, 0), (170, .goto (-16), 173, 0, 154, 0)]
def yp_11 : List (Nat × Nat) := [(0, 0), (1, 1094), (4, 0), (5, 0), (8, 0), (10, 1106), (13, 0), (14, 0), (17, 0), (19, 1107), (22, 0), (23, 0), (24, 0), (26, 1108), (29, 0), (30, 0), (33, 0), (35, 1109), (38, 0), (39, 0), (42, 0), (44, 1112), (47, 0), (48, 0), (49, 0), (51, 1120), (54, 0), (55, 0), (56, 0), (58, 1121), (61, 0), (62, 0), (65, 0), (67, 1122), (70, 0), (71, 0), (74, 0), (76, 1128), (79, 0), (80, 0), (82, 0), (84, 1129), (87, 0), (88, 0), (91, 0), (93, 1130), (96, 0), (97, 0), (99, 0), (101, 1131), (104, 0), (105, 0), (107, 0), (109, 1132), (112, 0), (113, 0), (115, 0), (117, 1133), (120, 0), (121, 0), (122, 0), (124, 1135), (127, 0), (128, 0), (129, 0), (131, 1136), (134, 0), (135, 0), (138, 0), (140, 1137), (143, 0), (144, 0), (147, 0), (149, 1138), (152, 0), (153, 0), (154, 0), (155, 0), (156, 0), (159, 0), (160, 1135), (163, 0), (164, 0), (166, 0), (167, 0), (170, 0)]
def y_fd : List (Nat × y_I) → Nat → Option y_I
  | [], _ => none
  | (k, i) :: r, pc => bif Nat.beq k pc then some i else y_fd r pc
def y_fp : List (Nat × Nat) → Nat → Nat
  | [], _ => 0
  | (k, i) :: r, pc => bif Nat.beq k pc then i else y_fp r pc
def y_ds (id : Nat) : List (Nat × y_I) := match id with
  | 0 => yd_0
  | 1 => yd_1
  | 2 => yd_2
  | 3 => yd_3
  | 4 => yd_4
  | 5 => yd_5
  | 6 => yd_6
  | 7 => yd_7
  | 8 => yd_8
  | 9 => yd_9
  | 10 => yd_10
  | _ => yd_11
def y_ps (id : Nat) : List (Nat × Nat) := match id with
  | 0 => yp_0
  | 1 => yp_1
  | 2 => yp_2
  | 3 => yp_3
  | 4 => yp_4
  | 5 => yp_5
  | 6 => yp_6
  | 7 => yp_7
  | 8 => yp_8
  | 9 => yp_9
  | 10 => yp_10
  | _ => yp_11
def y_mt (id : Nat) : z_Mt := match id with
  | 0 => (⟨"TestChoice$Tape", "<init>", "()V"⟩, prog_10_method_1_code, 1, none)
  | 1 => (⟨"TestChoice$Reader", "<init>", "(LTestChoice$Tape;)V"⟩, prog_7_method_1_code, 2, none)
  | 2 => (⟨"TestChoice$Program", "<init>", "()V"⟩, prog_6_method_1_code, 1, none)
  | 3 => (⟨"TestChoice$Tests", "<init>", "()V"⟩, prog_11_method_1_code, 1, none)
  | 4 => (⟨"TestChoice$Run", "<init>", "()V"⟩, prog_8_method_1_code, 1, none)
  | 5 => (⟨"TestChoice$EdgeSet", "<init>", "()V"⟩, prog_4_method_1_code, 1, none)
  | 6 => (⟨"TestChoice$Danger", "<init>", "(LTestChoice$Program;LTestChoice$Program;)V"⟩, prog_3_method_1_code, 3, none)
  | 7 => (⟨"TestChoice$Choice", "<init>", "(LTestChoice$Program;LTestChoice$Tests;LTestChoice$Danger;LTestChoice$Run;)V"⟩, prog_2_method_1_code, 6, none)
  | 8 => (⟨"TestChoice$Image", "<init>", "()V"⟩, prog_5_method_1_code, 1, none)
  | 9 => (⟨"TestChoice$Sheet", "<init>", "()V"⟩, prog_9_method_1_code, 1, none)
  | 10 => (⟨"TestChoice", "<init>", "()V"⟩, prog_1_method_1_code, 2, none)
  | _ => (⟨"TestChoiceModel", "<init>", "()V"⟩, prog_13_method_1_code, 2, none)
def y_ev : Nat → Nat → List Value → List y_C → Option (List y_C)
  | 0, _, _, _ => none
  | n + 1, id, args, cs => bif Nat.ble (z_cat args) (y_mt id).2.2.1 then y_run (y_ev n) y_cost (y_fd (y_ds id)) id 2000 (0, lv_args 0 args, [], cs, 0, 0) else none
end
section
/-! THE BUILDING MACHINE IS RIGHT -/
def y_dk (id pc : Nat) (ins : Instr) (n L : Nat) : Bool := decide (decode (y_mt id).2.1 pc = .ok (ins, L)) && Nat.beq n (pc + L)
def y_prm (id : Nat) : Nat := match id with
  | 1 => 1
  | 6 => 2
  | 7 => 4
  | _ => 0
def y_ok1 (id pc pl : Nat) (ins : Instr) (n : Nat) (v : Int32) (a b : Nat) : Bool := match ins with
  | .iconst k => y_dk id pc ins n 1 && decide (Int32.ofInt k = v)
  | .bipush k => y_dk id pc ins n 2 && decide ((Int8.ofInt k).toInt32 = v)
  | .sipush k => y_dk id pc ins n 3 && decide ((Int16.ofInt k).toInt32 = v)
  | .iload k => y_dk id pc ins n 2 && Nat.beq a k
  | .aload k => y_dk id pc ins n 2 && Nat.beq a k
  | .iload_n k => y_dk id pc ins n 1 && Nat.beq a k
  | .aload_n k => y_dk id pc ins n 1 && Nat.beq a k
  | .istore k => y_dk id pc ins n 2 && Nat.beq a k && Nat.blt a (y_mt id).2.2.1
  | .istore_n k => y_dk id pc ins n 1 && Nat.beq a k && Nat.blt a (y_mt id).2.2.1
  | .iinc k q => y_dk id pc ins n 3 && Nat.beq a k && decide (Int32.ofInt q = v) && Nat.blt a (y_mt id).2.2.1
  | .if_icmp .ge off => y_dk id pc ins n 3 && decide ((pc : Int) + off = (a : Int))
  | .goto off => y_dk id pc ins n 3 && decide ((pc : Int) + off = (a : Int))
  | .dup | .aastore | .iastore | .return_ => y_dk id pc ins n 1
  | .getfield i => y_dk id pc ins n 3 && z_fk (y_mt id).1.cls i pl a b
  | .putfield i => y_dk id pc ins n 3 && z_fk (y_mt id).1.cls i pl a b && ((z_q a).2.1 b).2.2.2 && y_isR (z_qT a b) && decide ((z_q a).1 = (y_mt id).1.cls)
  | .newarray t => y_dk id pc ins n 2 && decide (newarray.typeOf t = z_rowTy a) && Nat.ble 20 a && Nat.ble a 23
  | .anewarray i => y_dk id pc ins n 3 && Nat.ble 24 a && Nat.ble a 26 && (match z_rowTy a with
    | .object C => z_wd pl (.classLink (y_mt id).1.cls i C)
    | _ => false)
  | .new i => y_dk id pc ins n 3 && Nat.ble 1 a && Nat.ble a 12 && z_wd pl (.classLink (y_mt id).1.cls i (z_q a).1)
  | .invokespecial i => y_dk id pc ins n 3 && (match a with
    | 99 => z_wd pl (.methodLink (y_mt id).1.cls i objectInit)
    | _ => Nat.ble a 10 && Nat.beq b (y_prm a + 1) && (z_wd pl (.methodLink (y_mt id).1.cls i (y_mt a).1) || z_wd pl (.methodLinkNest (y_mt id).1.cls i (y_mt a).1 "TestChoice")))
  | _ => false
theorem y_dk_inv {id pc : Nat} {ins : Instr} {n L : Nat} (h : y_dk id pc ins n L = true) : decode (y_mt id).2.1 pc = .ok (ins, L) ∧ n = pc + L := by
  unfold y_dk at h
  simp only [Bool.and_eq_true, decide_eq_true_eq] at h
  exact ⟨h.1, z_beq h.2⟩
theorem y_i1_inv {st : List Value} {f : Int32 → List Value → Option y_O} {o : y_O} (e : y_i1 st f = some o) : ∃ x r, st = .int x :: r ∧ f x r = some o := by
  unfold y_i1 at e
  split at e
  · exact ⟨_, _, rfl, e⟩
  · cases e
theorem y_i2_inv {st : List Value} {f : Int32 → Int32 → List Value → Option y_O} {o : y_O} (e : y_i2 st f = some o) : ∃ x y r, st = .int y :: .int x :: r ∧ f x y r = some o := by
  unfold y_i2 at e
  split at e
  · exact ⟨_, _, _, rfl, e⟩
  · cases e
theorem y_r1_inv {st : List Value} {f : Nat → List Value → Option y_O} {o : y_O} (e : y_r1 st f = some o) : ∃ x r, st = .ref x :: r ∧ f x r = some o := by
  unfold y_r1 at e
  split at e
  · exact ⟨_, _, rfl, e⟩
  · cases e
theorem y_rr_inv {st : List Value} {f : Nat → Nat → List Value → Option y_O} {o : y_O} (e : y_rr st f = some o) : ∃ q x r, st = .ref x :: .ref q :: r ∧ f q x r = some o := by
  unfold y_rr at e
  split at e
  · exact ⟨_, _, _, rfl, e⟩
  · cases e
theorem y_rir_inv {st : List Value} {f : Nat → Int32 → Nat → List Value → Option y_O} {o : y_O} (e : y_rir st f = some o) : ∃ q j x r, st = .ref x :: .int j :: .ref q :: r ∧ f q j x r = some o := by
  unfold y_rir at e
  split at e
  · exact ⟨_, _, _, _, rfl, e⟩
  · cases e
theorem y_rii_inv {st : List Value} {f : Nat → Int32 → Int32 → List Value → Option y_O} {o : y_O} (e : y_rii st f = some o) : ∃ q j x r, st = .int x :: .int j :: .ref q :: r ∧ f q j x r = some o := by
  unfold y_rii at e
  split at e
  · exact ⟨_, _, _, _, rfl, e⟩
  · cases e
theorem y_vi_inv {v : Option Value} {f : Int32 → Option y_O} {o : y_O} (e : y_vi v f = some o) : ∃ x, v = some (.int x) ∧ f x = some o := by
  unfold y_vi at e
  split at e
  · exact ⟨_, rfl, e⟩
  · cases e
theorem y_vr_inv {v : Option Value} {f : Nat → Option y_O} {o : y_O} (e : y_vr v f = some o) : ∃ x, v = some (.ref x) ∧ f x = some o := by
  unfold y_vr at e
  split at e
  · exact ⟨_, rfl, e⟩
  · cases e
theorem y_co_inv {c : Option y_C} {f : Nat → List Value → Option y_O} {o : y_O} (e : y_co c f = some o) : ∃ k fs, c = some (.inl (k, fs)) ∧ f k fs = some o := by
  unfold y_co at e
  split at e
  · exact ⟨_, _, rfl, e⟩
  · cases e
theorem y_cr_inv {c : Option y_C} {f : Nat → Nat → List (Nat × Nat) → Option y_O} {o : y_O} (e : y_cr c f = some o) : ∃ k N g, c = some (.inr (.inr (.inr (k, N, g)))) ∧ f k N g = some o := by
  unfold y_cr at e
  split at e
  · exact ⟨_, _, _, rfl, e⟩
  · cases e
theorem y_ci_inv {c : Option y_C} {f : Nat → Nat → List (Nat × Int32) → Option y_O} {o : y_O} (e : y_ci c f = some o) : ∃ k N g, c = some (.inr (.inl (k, N, g))) ∧ f k N g = some o := by
  unfold y_ci at e
  split at e
  · exact ⟨_, _, _, rfl, e⟩
  · cases e
theorem y_if_inv {g : Bool} {x : Option y_O} {o : y_O} (e : y_if g x = some o) : g = true ∧ x = some o := by
  cases g with
  | true => exact ⟨rfl, e⟩
  | false => cases e
theorem y_nx_inv {pc : Nat} {l : z_L} {st : List Value} {cs : List y_C} {ce sl : Nat} {s' : y_S} (e : y_nx pc l st cs ce sl = some (.inl s')) : s' = (pc, l, st, cs, ce, sl) := (Sum.inl.inj (Option.some.inj e)).symm
def y_Go (p : Program) (l : Launch) (e : Env) (R : Room) (s : State) (m : MethodId) (args : Array Value) (below : List Frame) (meth : Method) (c : Code) (Q : State → Prop) (G : z_G) (nL : Nat) (t : y_S) : Prop :=
  ∀ (ls : Array Slot) (H : Heap) (locs : List Loc), lv_has ls nL (z_ul G t.2.1) → y_Rep G t.2.2.2.1 H → y_Fr G s H locs → W p l e R s m args below meth c H locs t.2.2.2.2.1 t.2.2.2.2.2 Q (F0 m t.1 ls (t.2.2.1.map (z_up G)))
theorem y_inst : ∀ k, 1 ≤ k → k ≤ 12 → Cond.instantiable (z_q k).1 (z_q k).2.2 ∈ z_good ∧ Cond.initialized (z_q k).1 ∈ z_good := by
  have g : ∀ (w : Cond) (i : Nat), lw_tbl[i]? = some w → goodWord w = true → w ∈ z_good := fun w i h q => List.mem_filter.mpr ⟨List.mem_of_getElem? h, q⟩
  intro a h1 h2
  match a, h1, h2 with
  | 1, _, _ => exact ⟨g _ 114 (by decide +kernel) rfl, g _ 93 (by decide +kernel) rfl⟩
  | 2, _, _ => exact ⟨g _ 122 (by decide +kernel) rfl, g _ 94 (by decide +kernel) rfl⟩
  | 3, _, _ => exact ⟨g _ 152 (by decide +kernel) rfl, g _ 95 (by decide +kernel) rfl⟩
  | 4, _, _ => exact ⟨g _ 158 (by decide +kernel) rfl, g _ 96 (by decide +kernel) rfl⟩
  | 5, _, _ => exact ⟨g _ 215 (by decide +kernel) rfl, g _ 97 (by decide +kernel) rfl⟩
  | 6, _, _ => exact ⟨g _ 280 (by decide +kernel) rfl, g _ 98 (by decide +kernel) rfl⟩
  | 7, _, _ => exact ⟨g _ 286 (by decide +kernel) rfl, g _ 99 (by decide +kernel) rfl⟩
  | 8, _, _ => exact ⟨g _ 326 (by decide +kernel) rfl, g _ 100 (by decide +kernel) rfl⟩
  | 9, _, _ => exact ⟨g _ 355 (by decide +kernel) rfl, g _ 101 (by decide +kernel) rfl⟩
  | 10, _, _ => exact ⟨g _ 404 (by decide +kernel) rfl, g _ 102 (by decide +kernel) rfl⟩
  | 11, _, _ => exact ⟨g _ 429 (by decide +kernel) rfl, g _ 103 (by decide +kernel) rfl⟩
  | 12, _, _ => exact ⟨g _ 1090 (by decide +kernel) rfl, g _ 104 (by decide +kernel) rfl⟩
theorem y_ac : ∀ a, 20 ≤ a → a ≤ 23 → Cond.arrayClass (z_rowTy a) ∈ z_good := by
  have g : ∀ (w : Cond) (i : Nat), lw_tbl[i]? = some w → goodWord w = true → w ∈ z_good := fun w i h q => List.mem_filter.mpr ⟨List.mem_of_getElem? h, q⟩
  intro a h1 h2
  rcases (show a = 20 ∨ a = 21 ∨ a = 22 ∨ a = 23 by omega) with rfl | rfl | rfl | rfl
  · exact g _ 213 (by decide +kernel) rfl
  · exact g _ 295 (by decide +kernel) rfl
  · exact g _ 150 (by decide +kernel) rfl
  · exact g _ 1209 (by decide +kernel) rfl
theorem y_up_def (G : z_G) (ty : FieldType) : z_up G (defaultValue ty) = defaultValue ty := by
  cases ty <;> rfl
theorem y_getD {fs : List Value} {b : Nat} {v : Value} (h : fs[b]? = some v) : fs.getD b .null = v := by
  rw [List.getD_eq_getElem?_getD, h]; rfl
theorem y_fits {ty : FieldType} (h : y_isR ty = true) (x : Nat) : narrow ty (.ref x) = .ref x ∧ fits ty (.ref x) = true := by
  cases ty <;> first | exact ⟨rfl, rfl⟩ | cases h
section YST
variable {p : Program} {l : Launch} {e : Env} {R : Room} {s : State} {m : MethodId} {args : Array Value} {below : List Frame} {meth : Method} {c : Code} {Q : State → Prop}
variable {G : z_G}
theorem y_Fr.put {H H1 : Heap} {locs : List Loc} {o k : Nat} (h : y_Fr G s H locs) (z : H1.size = H.size) (oq : ∀ q, q ≠ G.1 + o → H1[q]? = H[q]?) : y_Fr G s H1 (locs ++ [⟨G.1 + o, k⟩]) := by
  refine ⟨by rw [z]; exact h.1, fun q hq => (oq q (by omega)).trans (h.2.1 q hq), fun q hq => ?_⟩
  rcases List.mem_append.mp hq with h1 | h1
  · exact h.2.2 q h1
  · rw [List.mem_singleton] at h1
    subst h1
    exact Nat.le_add_right _ _
theorem y_Fr.push {H H1 : Heap} {locs : List Loc} {cs : List y_C} (h : y_Fr G s H locs) (y : y_Rep G cs H) (z : H1.size = H.size + 1) (oq : ∀ q, q < H.size → H1[q]? = H[q]?) : y_Fr G s H1 locs := by
  refine ⟨by rw [z]; exact Nat.le_succ_of_le h.1, fun q hq => (oq q (by rw [y.1]; omega)).trans (h.2.1 q hq), h.2.2⟩
theorem y_step {id pc pl : Nat} {lo : z_L} {st : List Value} {cs : List y_C} {ce sl MC MS : Nat} (hx : p.tables.exec = Jvm.exec) (hb : c.code = (y_mt id).2.1) (hml : c.maxLocals = (y_mt id).2.2.1) (hown : s.vm.findClass (y_mt id).1.cls = some m.cls) (hts : ∀ w ∈ z_good, w.before args s = true) (hK : y_Kn G s) (hin : meth.name = "<init>") (hr1 : 1 ≤ R.frames) (hr2 : 60 ≤ R.locals) (hRc : MC ≤ R.cells) (hRs : MS ≤ R.slots)
    {ins : Instr} {n : Nat} {v : Int32} {a b : Nat} {s' : y_S} (hc : y_ok1 id pc pl ins n v a b = true) (he : y_exec MC MS ins n v a b lo st cs ce sl = some (.inl s'))
    (k : y_Go p l e R s m args below meth c Q G (y_mt id).2.2.1 s') : y_Go p l e R s m args below meth c Q G (y_mt id).2.2.1 (pc, lo, st, cs, ce, sl) := by
  have hord := hK.1.1.1
  have hrow := hK.1.1.2
  intro ls H locs x y z
  cases ins
  all_goals first | exact absurd hc Bool.false_ne_true | skip
  case iconst q =>
    simp only [y_ok1, Bool.and_eq_true, decide_eq_true_eq] at hc
    obtain ⟨h1, h2⟩ := hc
    obtain ⟨hd, rfl⟩ := y_dk_inv h1
    cases y_nx_inv he
    exact lv_iconst hx hb hd h2 (k ls H locs x y z)
  case bipush q =>
    simp only [y_ok1, Bool.and_eq_true, decide_eq_true_eq] at hc
    obtain ⟨h1, h2⟩ := hc
    obtain ⟨hd, rfl⟩ := y_dk_inv h1
    cases y_nx_inv he
    exact lv_bipush hx hb hd h2 (k ls H locs x y z)
  case sipush q =>
    simp only [y_ok1, Bool.and_eq_true, decide_eq_true_eq] at hc
    obtain ⟨h1, h2⟩ := hc
    obtain ⟨hd, rfl⟩ := y_dk_inv h1
    cases y_nx_inv he
    exact lv_sipush hx hb hd h2 (k ls H locs x y z)
  case iload q =>
    simp only [y_ok1, Bool.and_eq_true] at hc
    obtain ⟨h1, h2⟩ := hc
    obtain ⟨hd, rfl⟩ := y_dk_inv h1
    obtain ⟨w, hw, he⟩ := y_vi_inv he
    cases y_nx_inv he
    obtain ⟨j, hj⟩ := z_ul_get (G := G) hw
    rw [z_beq h2] at hj
    exact lv_iload hx hb hd (lv_at x j hj) (k ls H locs x y z)
  case iload_n q =>
    simp only [y_ok1, Bool.and_eq_true] at hc
    obtain ⟨h1, h2⟩ := hc
    obtain ⟨hd, rfl⟩ := y_dk_inv h1
    obtain ⟨w, hw, he⟩ := y_vi_inv he
    cases y_nx_inv he
    obtain ⟨j, hj⟩ := z_ul_get (G := G) hw
    exact lv_iload_n hx hb hd (z_beq h2).symm (lv_at x j hj) (k ls H locs x y z)
  case aload q =>
    simp only [y_ok1, Bool.and_eq_true] at hc
    obtain ⟨h1, h2⟩ := hc
    obtain ⟨hd, rfl⟩ := y_dk_inv h1
    obtain ⟨w, hw, he⟩ := y_vr_inv he
    obtain ⟨g, he⟩ := y_if_inv he
    cases y_nx_inv he
    obtain ⟨j, hj⟩ := z_ul_get (G := G) hw
    have hw1 : w < 141 := Nat.le_of_ble_eq_true g
    rw [z_beq h2, z_up_obj hw1] at hj
    have h3 := k ls H locs x y z
    simp only [List.map_cons] at h3
    rw [z_up_obj hw1] at h3
    exact lv_aload hx hb hd (lv_at x j hj) h3
  case aload_n q =>
    simp only [y_ok1, Bool.and_eq_true] at hc
    obtain ⟨h1, h2⟩ := hc
    obtain ⟨hd, rfl⟩ := y_dk_inv h1
    obtain ⟨w, hw, he⟩ := y_vr_inv he
    obtain ⟨g, he⟩ := y_if_inv he
    cases y_nx_inv he
    obtain ⟨j, hj⟩ := z_ul_get (G := G) hw
    have hw1 : w < 141 := Nat.le_of_ble_eq_true g
    rw [z_up_obj hw1] at hj
    have h3 := k ls H locs x y z
    simp only [List.map_cons] at h3
    rw [z_up_obj hw1] at h3
    exact lv_aload_n hx hb hd (z_beq h2).symm (lv_at x j hj) h3
  case istore q =>
    simp only [y_ok1, Bool.and_eq_true] at hc
    obtain ⟨⟨h1, h2⟩, h3⟩ := hc
    obtain ⟨hd, rfl⟩ := y_dk_inv h1
    obtain ⟨w, r, rfl, he⟩ := y_i1_inv he
    cases y_nx_inv he
    have h2 := z_beq h2
    subst h2
    exact lv_istore hx hb hd x (Nat.le_of_ble_eq_true h3) (z_ul_put1 G lo a (.int w)) (fun ls' x' => k ls' H locs x' y z)
  case istore_n q =>
    simp only [y_ok1, Bool.and_eq_true] at hc
    obtain ⟨⟨h1, h2⟩, h3⟩ := hc
    obtain ⟨hd, rfl⟩ := y_dk_inv h1
    obtain ⟨w, r, rfl, he⟩ := y_i1_inv he
    cases y_nx_inv he
    exact lv_istore_n hx hb hd (z_beq h2).symm x (Nat.le_of_ble_eq_true h3) (z_ul_put1 G lo a (.int w)) (fun ls' x' => k ls' H locs x' y z)
  case iinc q1 q2 =>
    simp only [y_ok1, Bool.and_eq_true, decide_eq_true_eq] at hc
    obtain ⟨⟨⟨h1, h2⟩, h3⟩, h4⟩ := hc
    obtain ⟨hd, rfl⟩ := y_dk_inv h1
    obtain ⟨w, hw, he⟩ := y_vi_inv he
    cases y_nx_inv he
    have h2 := z_beq h2
    subst h2
    obtain ⟨j, hj⟩ := z_ul_get (G := G) hw
    exact lv_iinc hx hb hd x hj (by rw [h3]) (Nat.le_of_ble_eq_true h4) (z_ul_put1 G lo a (.int (w + v))) (fun ls' x' => k ls' H locs x' y z)
  case if_icmp cnd off =>
    cases cnd
    all_goals first | exact absurd hc Bool.false_ne_true | skip
    simp only [y_ok1, Bool.and_eq_true, decide_eq_true_eq] at hc
    obtain ⟨h1, h2⟩ := hc
    obtain ⟨hd, rfl⟩ := y_dk_inv h1
    obtain ⟨w1, w2, r, rfl, he⟩ := y_i2_inv he
    cases y_nx_inv he
    refine lv_icmp_ge hx hb hd h2 (fun hle => ?_) (fun hle => ?_)
    · have := k ls H locs x y z
      simp only [if_pos hle] at this
      exact this
    · have := k ls H locs x y z
      simp only [if_neg hle] at this
      exact this
  case goto off =>
    simp only [y_ok1, Bool.and_eq_true, decide_eq_true_eq] at hc
    obtain ⟨h1, h2⟩ := hc
    obtain ⟨hd, rfl⟩ := y_dk_inv h1
    cases y_nx_inv he
    exact lv_goto hx hb hd h2 (k ls H locs x y z)
  case dup =>
    simp only [y_ok1] at hc
    obtain ⟨hd, rfl⟩ := y_dk_inv hc
    obtain ⟨w, r, rfl, he⟩ := y_r1_inv he
    obtain ⟨g, he⟩ := y_if_inv he
    cases y_nx_inv he
    have h3 := k ls H locs x y z
    have hw1 : w < 141 := Nat.le_of_ble_eq_true g
    simp only [List.map_cons] at h3 ⊢
    rw [z_up_obj hw1] at h3 ⊢
    exact lv_dup hx hb hd rfl h3
  case getfield i =>
    simp only [y_ok1, Bool.and_eq_true] at hc
    obtain ⟨h1, h2⟩ := hc
    obtain ⟨hd, rfl⟩ := y_dk_inv h1
    obtain ⟨a1, a12, hbN, hC, hw⟩ := z_fk_inv h2
    obtain ⟨o, r, rfl, he⟩ := y_r1_inv he
    obtain ⟨k1, fs, hcs, he⟩ := y_co_inv he
    obtain ⟨w, hfs, he⟩ := y_vr_inv he
    obtain ⟨g, he⟩ := y_if_inv he
    cases y_nx_inv he
    simp only [Bool.and_eq_true] at g
    have hka := z_beq g.1.1
    subst hka
    have ho : o < 141 := Nat.le_of_ble_eq_true g.1.2
    have hw1 : w < 141 := Nat.le_of_ble_eq_true g.2
    obtain ⟨-, -, hlen, cell, c1, c2, c3, c4⟩ := y.2 o _ hcs
    obtain ⟨q1, q2, q3, q4⟩ := z_q_ok k1 a1 a12
    obtain ⟨hS, hfc, kC, hkC, hkind⟩ := hord (k1 - 1) _ q1
    obtain ⟨cf, kf, fi, f, hi, hsl⟩ := hS b hbN
    have hst := (u_facts hfc hkC (u_lays hts q2 hbN) hi).1
    have h3 := k ls H locs x y z
    simp only [List.map_cons] at h3 ⊢
    rw [z_up_obj hw1] at h3
    rw [z_up_obj ho]
    refine W.getf hx hb hown (hts _ hw) (by rw [← hC]; exact hi) hst c1 (by rw [c3]; exact fun h => by cases h) (v := .ref (G.1 + w)) ?_ rfl rfl hd h3
    rw [hsl, c4 b hbN]
    show some (z_up G (fs.getD b .null)) = _
    rw [y_getD hfs, z_up_obj hw1]
  case putfield i =>
    simp only [y_ok1, Bool.and_eq_true, decide_eq_true_eq] at hc
    obtain ⟨⟨⟨⟨h1, h2⟩, hfin⟩, hty⟩, hcl⟩ := hc
    obtain ⟨hd, rfl⟩ := y_dk_inv h1
    obtain ⟨a1, a12, hbN, hC, hw⟩ := z_fk_inv h2
    obtain ⟨o, w, r, rfl, he⟩ := y_rr_inv he
    obtain ⟨k1, fs, hcs, he⟩ := y_co_inv he
    obtain ⟨g, he⟩ := y_if_inv he
    cases y_nx_inv he
    simp only [Bool.and_eq_true] at g
    have hka := z_beq g.1.1
    subst hka
    have ho : o < 141 := Nat.le_of_ble_eq_true g.1.2
    have hw1 : w < 141 := Nat.le_of_ble_eq_true g.2
    obtain ⟨-, -, hlen, cell, c1, c2, c3, c4⟩ := y.2 o _ hcs
    obtain ⟨q1, q2, q3, q4⟩ := z_q_ok k1 a1 a12
    obtain ⟨hS, hfc, kC, hkC, hkind⟩ := hord (k1 - 1) _ q1
    obtain ⟨cf, kf, fi, f, hi, hsl⟩ := hS b hbN
    have hst := (u_facts hfc hkC (u_lays hts q2 hbN) hi).1
    have hlay := hts _ (q2 _ (u_in_lay hbN))
    unfold u_lay at hlay
    rw [if_pos hfin] at hlay
    have hcf : m.cls = cf := by
      obtain ⟨_, _, c', _, _, _, -, -, hf', -, -, -, hown2, -⟩ := Cond.laysFinal_spec hlay
      have e1 : c' = cf := by have := hi.symm.trans hf'; simp at this; exact this.1.symm
      rw [hC, hcl] at hown2
      rw [← e1]; exact Option.some.inj (hown.symm.trans hown2)
    obtain ⟨hn1, hf1⟩ := y_fits hty (G.1 + w)
    have h6 := u_fits hfc hkC hkind (Or.inr hlay) hi (q4 b hbN) hn1 hf1
    simp only [List.map_cons]
    rw [z_up_obj hw1, z_up_obj ho]
    refine W.putFinK hx hb hown (hts _ hw) (by rw [← hC]; exact hi) hst hcf hin (by rw [c2]; exact h6) c1 c3 (by rw [hsl]; exact k2_hasslot (c4 b hbN)) rfl rfl hd fun H' e1 e2 e3 => ?_
    rw [hsl] at e1 ⊢
    refine k ls H' _ x (y.set e2 e3 ⟨a1, a12, by rw [List.length_set]; exact hlen, _, e1, c2, c3, fun j hj => ?_⟩) (z.put e2 e3)
    rw [t_set c4 (z_apart hts hK.1 a1 a12) hbN (.ref (G.1 + w)) j hj]
    unfold updV
    by_cases hjb : j = b
    · subst hjb
      rw [if_pos rfl]
      show _ = some (z_up G ((fs.set j (.ref w)).getD j .null))
      have hs : (fs.set j (.ref w))[j]? = some (.ref w) := List.getElem?_set_self (by rw [hlen]; exact hbN)
      rw [y_getD hs, z_up_obj hw1]
    · rw [if_neg hjb]
      show some (z_up G (fs.getD j .null)) = some (z_up G ((fs.set b (.ref w)).getD j .null))
      rw [List.getD_eq_getElem?_getD, List.getD_eq_getElem?_getD, List.getElem?_set_ne (fun q => hjb q.symm)]
  case newarray t =>
    simp only [y_ok1, Bool.and_eq_true, decide_eq_true_eq] at hc
    obtain ⟨⟨⟨h1, hty⟩, h20⟩, h23⟩ := hc
    have h20 := Nat.le_of_ble_eq_true h20
    have h23 := Nat.le_of_ble_eq_true h23
    obtain ⟨hd, rfl⟩ := y_dk_inv h1
    obtain ⟨w, r, rfl, he⟩ := y_i1_inv he
    obtain ⟨g, he⟩ := y_if_inv he
    cases y_nx_inv he
    simp only [Bool.and_eq_true, Bool.not_eq_true', decide_eq_false_iff_not] at g
    obtain ⟨⟨⟨⟨g1, g2⟩, g3⟩, g4⟩, g5⟩ := g
    have g2 := Nat.le_of_ble_eq_true g2
    have g3 : cs.length < 141 := Nat.le_of_ble_eq_true g3
    have g4 := Nat.le_of_ble_eq_true g4
    have g5 := Nat.le_of_ble_eq_true g5
    simp only [List.map_cons]
    have hb8 : componentBytes (newarray.typeOf t) ≤ 8 := by
      rw [hty]
      rcases (show a = 20 ∨ a = 21 ∨ a = 22 ∨ a = 23 by omega) with rfl | rfl | rfl | rfl <;> decide
    refine va_newaK hx hb (by rw [hty]; exact hts _ (y_ac a h20 h23)) rfl hd rfl g1 rfl (Nat.le_trans (Nat.mul_le_mul g2 hb8) (Nat.le_of_ble_eq_true rfl)) (Nat.le_trans g4 hRc) (Nat.le_trans g5 hRs) rfl fun H1 cA e1 z1 o1 hAr hNm => ?_
    have h3 := k ls H1 locs x (y.push (c := y_kd a w.toNatClampNeg) z1 o1 ?_) (z.push y z1 o1)
    · simp only [List.map_cons] at h3
      rw [z_up_obj g3, ← y.1] at h3
      exact h3
    · have hra := (hrow (a - 20) _ (z_rows h20 (by omega))).2
      rw [hty] at e1 hNm
      rcases (show a = 20 ∨ a = 21 ∨ a = 22 ∨ a = 23 by omega) with rfl | rfl | rfl | rfl
      · have : cA = G.2.2.2.2 20 := Option.some.inj (hNm.symm.trans hra)
        subst this
        exact ⟨Or.inl rfl, e1⟩
      · have : cA = G.2.2.2.2 21 := Option.some.inj (hNm.symm.trans hra)
        subst this
        exact e1
      · have : cA = G.2.2.2.2 22 := Option.some.inj (hNm.symm.trans hra)
        subst this
        exact ⟨Or.inr (Or.inl rfl), e1⟩
      · have : cA = G.2.2.2.2 23 := Option.some.inj (hNm.symm.trans hra)
        subst this
        exact ⟨Or.inr (Or.inr rfl), e1⟩
  case anewarray i =>
    simp only [y_ok1, Bool.and_eq_true] at hc
    obtain ⟨⟨⟨h1, h24⟩, h26⟩, hwd⟩ := hc
    have h24 := Nat.le_of_ble_eq_true h24
    have h26 := Nat.le_of_ble_eq_true h26
    obtain ⟨hd, rfl⟩ := y_dk_inv h1
    obtain ⟨w, r, rfl, he⟩ := y_i1_inv he
    obtain ⟨g, he⟩ := y_if_inv he
    cases y_nx_inv he
    simp only [Bool.and_eq_true, Bool.not_eq_true', decide_eq_false_iff_not] at g
    obtain ⟨⟨⟨⟨g1, g2⟩, g3⟩, g4⟩, g5⟩ := g
    have g2 := Nat.le_of_ble_eq_true g2
    have g3 : cs.length < 141 := Nat.le_of_ble_eq_true g3
    have g4 := Nat.le_of_ble_eq_true g4
    have g5 := Nat.le_of_ble_eq_true g5
    obtain ⟨C, hC, hO⟩ := hK.2 a h24 h26
    rw [hC] at hwd
    simp only [List.map_cons]
    have hra := (hrow (a - 20) _ (z_rows (by omega) h26)).2
    rw [hC] at hra
    obtain ⟨kA0, comp0, -, -, -, hra4⟩ := hra
    refine W.anew hx hb hown (hts _ (z_wd_good hwd rfl)) (va_AO.use hO) rfl hd rfl g1 (Nat.le_trans (Nat.mul_le_mul g2 (Nat.le_refl 4)) (Nat.le_of_ble_eq_true rfl)) (Nat.le_trans g4 hRc) (Nat.le_trans g5 hRs) fun cA kA comp f1 f2 f3 f4 => ?_
    have hcA : cA = G.2.2.2.2 a := Option.some.inj (f1.symm.trans hra4)
    subst hcA
    generalize hH1 : H.push ({ cls := G.2.2.2.2 a, slots := Array.replicate w.toNatClampNeg .null, vm := .none } : Cell) = H1
    have z1 : H1.size = H.size + 1 := by rw [← hH1, Array.size_push]
    have e1 : H1[H.size]? = some (arrV (G.2.2.2.2 a) w.toNatClampNeg (fun _ => .null)) := by rw [← hH1, Array.getElem?_push_size, ← arrV_new]
    have o1 : ∀ q : Nat, q < H.size → H1[q]? = H[q]? := fun q hq => by rw [← hH1, Array.getElem?_push, if_neg (Nat.ne_of_lt hq)]
    have h3 := k ls H1 locs x (y.push (c := .inr (.inr (.inr (a, w.toNatClampNeg, [])))) z1 o1 ⟨h24, h26, e1⟩) (z.push y z1 o1)
    simp only [List.map_cons] at h3
    rw [z_up_obj g3, ← y.1] at h3
    exact h3
  case aastore =>
    simp only [y_ok1] at hc
    obtain ⟨hd, rfl⟩ := y_dk_inv hc
    obtain ⟨o, j, w, r, rfl, he⟩ := y_rir_inv he
    obtain ⟨k1, N, g0, hcs, he⟩ := y_cr_inv he
    obtain ⟨kc, fs, hcw, he⟩ := y_co_inv he
    obtain ⟨g, he⟩ := y_if_inv he
    cases y_nx_inv he
    simp only [Bool.and_eq_true] at g
    obtain ⟨⟨⟨g1, g2⟩, g3⟩, g4⟩ := g
    have g1 := z_beq g1
    subst g1
    have ho : o < 141 := Nat.le_of_ble_eq_true g3
    have hw1 : w < 141 := Nat.le_of_ble_eq_true g4
    obtain ⟨hi1, hi2⟩ := z_vin g2
    obtain ⟨h24, h26, e0⟩ := y.2 o _ hcs
    obtain ⟨a1, a12, hlen, cellV, v1, v2, v3, -⟩ := y.2 w _ hcw
    have hcls := (hord (y_cK k1 - 1) _ (z_q_ok _ a1 a12).1).2
    have hra := (hrow (k1 - 20) _ (z_rows (by omega) h26)).2
    have hCn : z_rowTy k1 = .object (z_q (y_cK k1)).1 := by
      rcases (show k1 = 24 ∨ k1 = 25 ∨ k1 = 26 by omega) with rfl | rfl | rfl <;> rfl
    rw [hCn] at hra
    obtain ⟨kA, comp, r1, r2, r3, -⟩ := hra
    have hcomp : comp = G.2.2.1 (y_cK k1 - 1) := Option.some.inj (r3.symm.trans hcls.1)
    subst hcomp
    obtain ⟨kC, hkC, -⟩ := hcls.2
    simp only [List.map_cons]
    rw [z_up_obj hw1, z_up_obj ho]
    refine W.aast hx hb e0 (fun q h => by cases h) (fun h => by cases h) r1 r2 rfl hkC ⟨fun q => hi1 (Or.inl q), by rw [arrV_size]; exact hi2⟩ v1 (fun q h => by rw [v3] at h; cases h) (by rw [v2]; exact hkC) (by rw [v2]; exact va_assign hcls) rfl rfl hd fun H1 f1 f2 f3 => ?_
    refine k ls H1 _ x (y.set f2 f3 ⟨h24, h26, ?_⟩) (z.put f2 f3)
    rw [f1, arrV_store]
    congr 2
    funext q
    unfold updV
    show _ = z_rv G (bif Nat.beq j.toNatClampNeg q then w else y_fr g0 q)
    by_cases hq : q = j.toNatClampNeg
    · subst hq
      rw [if_pos rfl, z_beqT]
      exact (z_up_obj (G := G) hw1).symm
    · rw [if_neg hq, z_beqF (fun h => hq h.symm)]
      rfl
  case iastore =>
    simp only [y_ok1] at hc
    obtain ⟨hd, rfl⟩ := y_dk_inv hc
    obtain ⟨o, j, w, r, rfl, he⟩ := y_rii_inv he
    obtain ⟨k1, N, g0, hcs, he⟩ := y_ci_inv he
    obtain ⟨g, he⟩ := y_if_inv he
    cases y_nx_inv he
    simp only [Bool.and_eq_true] at g
    obtain ⟨⟨g1, g2⟩, g3⟩ := g
    have g1 := z_beq g1
    subst g1
    have ho : o < 141 := Nat.le_of_ble_eq_true g3
    obtain ⟨hi1, hi2⟩ := z_vin g2
    obtain ⟨-, e0⟩ := y.2 o _ hcs
    have ha := (hrow 0 _ (z_rows (K := 20) (by omega) (by omega))).1 N (fun j => .int (y_fi g0 j))
    simp only [List.map_cons]
    rw [z_up_obj ho]
    refine W.iast hx hb e0 ha (fun q => by cases q) (by rw [arrV_size]; exact hi1) rfl rfl hd fun H1 f1 f2 f3 => ?_
    refine k ls H1 _ x (y.set f2 f3 ⟨Or.inl rfl, ?_⟩) (z.put f2 f3)
    rw [f1, arrV_store]
    congr 2
    funext q
    unfold updV
    show _ = Value.int (bif Nat.beq j.toNatClampNeg q then w else y_fi g0 q)
    by_cases hq : q = j.toNatClampNeg
    · subst hq
      rw [if_pos rfl, z_beqT]
      rfl
    · rw [if_neg hq, z_beqF (fun h => hq h.symm)]
      rfl
  case new i =>
    simp only [y_ok1, Bool.and_eq_true] at hc
    obtain ⟨⟨⟨h1, a1⟩, a12⟩, hwd⟩ := hc
    have a1 := Nat.le_of_ble_eq_true a1
    have a12 := Nat.le_of_ble_eq_true a12
    obtain ⟨hd, rfl⟩ := y_dk_inv h1
    obtain ⟨g, he⟩ := y_if_inv he
    cases y_nx_inv he
    simp only [Bool.and_eq_true] at g
    obtain ⟨⟨g3, g4⟩, g5⟩ := g
    have g3 : cs.length < 141 := Nat.le_of_ble_eq_true g3
    have g4 := Nat.le_of_ble_eq_true g4
    have g5 := Nat.le_of_ble_eq_true g5
    obtain ⟨q1, q2, q3, q4⟩ := z_q_ok a a1 a12
    have hKn := hord (a - 1) _ q1
    obtain ⟨i1, i2⟩ := y_inst a a1 a12
    refine W.newcK hx hb hown (hts _ (z_wd_good hwd rfl)) (hts _ i1) (hts _ i2) rfl hd (Nat.le_trans g4 hRc) (Nat.le_trans g5 hRs) hKn.2.1 rfl fun H1 kC hkC e1 z1 o1 => ?_
    have h3 := k ls H1 locs x (y.push (c := .inl (a, y_def a)) z1 o1 ⟨a1, a12, by unfold y_def; rw [List.length_map, List.length_range], (u_born (z_qT a) hts q2 hKn hkC e1 q4).to (fun j hj => ?_)⟩) (z.push y z1 o1)
    · simp only [List.map_cons] at h3
      rw [z_up_obj g3, ← y.1] at h3
      exact h3
    · have : (y_def a).getD j .null = defaultValue (z_qT a j) := by
        unfold y_def
        rw [List.getD_eq_getElem?_getD, List.getElem?_map, List.getElem?_range hj]
        rfl
      rw [this, y_up_def]
  case invokespecial i =>
    simp only [y_ok1, Bool.and_eq_true] at hc
    obtain ⟨h1, h2⟩ := hc
    obtain ⟨hd, rfl⟩ := y_dk_inv h1
    by_cases h99 : a = 99
    · subst h99
      obtain ⟨o, r, rfl, he⟩ := y_r1_inv (show y_r1 _ _ = _ from he)
      obtain ⟨g, he⟩ := y_if_inv he
      cases y_nx_inv he
      simp only [Bool.and_eq_true] at g
      have ho : o < 141 := Nat.le_of_ble_eq_true g.1
      have h8 := Nat.le_of_ble_eq_true g.2
      simp only [List.map_cons]
      rw [z_up_obj ho]
      refine W.objInit hx hb hown (hts _ (z_wd_good h2 rfl)) (hts _ (y_g 119 (by decide +kernel) rfl)) (hts _ (y_g 120 (by decide +kernel) rfl)) rfl (by rw [hml]; exact x.1) rfl hd hr1 ?_ (k ls H locs x y z)
      show 2 * 0 + _ + 12 ≤ _
      have : ((r.map (z_up G)).map fun v => v.category).sum = z_cat r := z_cat_up G r
      rw [this]
      omega
    · exfalso
      have : ∀ a, a ≠ 99 → y_exec MC MS (.invokespecial i) (pc + 3) v a b lo st cs ce sl = y_if (Nat.ble b st.length && Nat.ble (z_cat (st.drop b)) 8) (some (.inr (.inr (a, (st.take b).reverse, (pc + 3, lo, st.drop b, cs, ce, sl))))) := by
        intro a ha
        show (match a with | 99 => _ | _ => _) = _
        split
        · exact absurd rfl ha
        · rfl
      rw [this a h99] at he
      obtain ⟨-, he⟩ := y_if_inv he
      cases he
  case return_ => cases he
end YST
/-! contracts of the constructors -/
def y_rm (id : Nat) : Room := { frames := (y_cost id).2.2, cells := (y_cost id).1, slots := (y_cost id).2.1, locals := 80 * (y_cost id).2.2 }
def y_cP (G : z_G) (a : List Value) (cs : List y_C) : Array Value → State → Prop := fun v U => v = (a.map (z_up G)).toArray ∧ y_Kn G U ∧ y_Rep G cs U.heap
def y_cQ (G : z_G) (cs : List y_C) : Array Value → State → Outcome → State → Prop := fun _ st o t => o = .returned none ∧ y_Rep G cs t.heap ∧ st.heap.size ≤ t.heap.size ∧ ∀ q, q < G.1 → t.heap[q]? = st.heap[q]?
def y_Con (l : Launch) (G : z_G) (id : Nat) (a : List Value) (cs cs' : List y_C) : Prop := Met l (y_mt id).1 (y_ws (y_mt id)) (y_rm id) (y_cP G a cs) (y_cQ G cs') (y_cost id).1 (y_cost id).2.1 (fun q => G.1 ≤ q)
theorem y_Kn.warm {G : z_G} {s U : State} (hW : s.WarmedH U.vm) (h : y_Kn G s) : y_Kn G U := ⟨h.1.warm hW, fun k h1 h2 => by
  obtain ⟨C, q1, q2⟩ := h.2 k h1 h2
  exact ⟨C, q1, va_AO.moved hW.alike q2⟩⟩
theorem y_Kn.same {G : z_G} {s U : State} (hv : U.vm = s.vm) (h : y_Kn G s) : y_Kn G U := ⟨h.1.same hv, fun k h1 h2 => by
  obtain ⟨C, q1, q2⟩ := h.2 k h1 h2
  exact ⟨C, q1, va_AO.moved (u := s) (by rw [hv]; exact Vm.Alike.refl _) q2⟩⟩
theorem y_cblind (G : z_G) (a : List Value) (cs : List y_C) : FrameBlind (y_cP G a cs) := fun _ U _ _ q => ⟨q.1, y_Kn.same (s := U) rfl q.2.1, q.2.2⟩
/-- what the tables say of a constructor -/
def y_mok (id : Nat) : Prop := Cond.code (y_mt id).1 (y_mt id).2.1 (y_mt id).2.2.1 (y_mt id).2.2.2 ∈ z_good ∧ Cond.initialized (y_mt id).1.cls ∈ z_good ∧ ((y_mt id).1.cls ≠ "java/lang/invoke/MethodHandle" ∧ (y_mt id).1.cls ≠ "java/lang/invoke/VarHandle") ∧ (parseMethodDescriptor (y_mt id).1.desc).map (fun d => d.parameters.length) = some (y_prm id) ∧ Cond.instanceMethod (y_mt id).1 ∈ z_good ∧ (y_mt id).2.2.1 ≤ 60 ∧ plainName (y_mt id).1.cls = true ∧ (y_mt id).1.name = "<init>" ∧ 2 ≤ (y_cost id).2.2 ∧ (y_mt id).2.2.2 = none
theorem y_moks : ∀ id, id ≤ 11 → y_mok id := by
  have g : ∀ (w : Cond) (i : Nat), lw_tbl[i]? = some w → goodWord w = true → w ∈ z_good := fun w i h q => List.mem_filter.mpr ⟨List.mem_of_getElem? h, q⟩
  intro a h1
  match a, h1 with
  | 0, _ => exact ⟨g _ 125 (by decide +kernel) rfl, g _ 94 (by decide +kernel) rfl, by decide, by decide +kernel, g _ 124 (by decide +kernel) rfl, by decide, by decide, rfl, by decide, rfl⟩
  | 1, _ => exact ⟨g _ 155 (by decide +kernel) rfl, g _ 95 (by decide +kernel) rfl, by decide, by decide +kernel, g _ 154 (by decide +kernel) rfl, by decide, by decide, rfl, by decide, rfl⟩
  | 2, _ => exact ⟨g _ 161 (by decide +kernel) rfl, g _ 96 (by decide +kernel) rfl, by decide, by decide +kernel, g _ 160 (by decide +kernel) rfl, by decide, by decide, rfl, by decide, rfl⟩
  | 3, _ => exact ⟨g _ 218 (by decide +kernel) rfl, g _ 97 (by decide +kernel) rfl, by decide, by decide +kernel, g _ 217 (by decide +kernel) rfl, by decide, by decide, rfl, by decide, rfl⟩
  | 4, _ => exact ⟨g _ 283 (by decide +kernel) rfl, g _ 98 (by decide +kernel) rfl, by decide, by decide +kernel, g _ 282 (by decide +kernel) rfl, by decide, by decide, rfl, by decide, rfl⟩
  | 5, _ => exact ⟨g _ 289 (by decide +kernel) rfl, g _ 99 (by decide +kernel) rfl, by decide, by decide +kernel, g _ 288 (by decide +kernel) rfl, by decide, by decide, rfl, by decide, rfl⟩
  | 6, _ => exact ⟨g _ 329 (by decide +kernel) rfl, g _ 100 (by decide +kernel) rfl, by decide, by decide +kernel, g _ 328 (by decide +kernel) rfl, by decide, by decide, rfl, by decide, rfl⟩
  | 7, _ => exact ⟨g _ 358 (by decide +kernel) rfl, g _ 101 (by decide +kernel) rfl, by decide, by decide +kernel, g _ 357 (by decide +kernel) rfl, by decide, by decide, rfl, by decide, rfl⟩
  | 8, _ => exact ⟨g _ 407 (by decide +kernel) rfl, g _ 102 (by decide +kernel) rfl, by decide, by decide +kernel, g _ 406 (by decide +kernel) rfl, by decide, by decide, rfl, by decide, rfl⟩
  | 9, _ => exact ⟨g _ 432 (by decide +kernel) rfl, g _ 103 (by decide +kernel) rfl, by decide, by decide +kernel, g _ 431 (by decide +kernel) rfl, by decide, by decide, rfl, by decide, rfl⟩
  | 10, _ => exact ⟨g _ 117 (by decide +kernel) rfl, g _ 93 (by decide +kernel) rfl, by decide, by decide +kernel, g _ 116 (by decide +kernel) rfl, by decide, by decide, rfl, by decide, rfl⟩
  | 11, _ => exact ⟨g _ 1093 (by decide +kernel) rfl, g _ 104 (by decide +kernel) rfl, by decide, by decide +kernel, g _ 1092 (by decide +kernel) rfl, by decide, by decide, rfl, by decide, rfl⟩
end
section
/-! the constructors' contracts, out of a run of the building machine -/
def y_allok : Prop := ∀ id, id ≤ 11 → ∀ pc i, y_fd (y_ds id) pc = some i → y_ok1 id pc (y_fp (y_ps id) pc) i.1 i.2.1 i.2.2.1 i.2.2.2.1 i.2.2.2.2 = true
section YCO
variable {p : Program} {l : Launch} {e : Env} {R : Room} {s : State} {m : MethodId} {args : Array Value} {below : List Frame} {meth : Method} {c : Code} {Q : State → Prop}
variable {G : z_G}
theorem y_backC {H : Heap} {locs : List Loc} {ls : Array Slot} {pc ce sl mc ms : Nat} {a : Array Value} {rest st0 : List Value} {cs' : List y_C} (hr : va_Run p l e R s m args below meth c H locs ce sl mc ms (F0 m pc ls st0) rest (y_cQ G cs' a) (fun q => G.1 ≤ q)) (z : y_Fr G s H locs) (k : ∀ (H1 : Heap) (locs1 : List Loc), y_Rep G cs' H1 → y_Fr G s H1 locs1 → W p l e R s m args below meth c H1 locs1 (ce + mc) (sl + ms) Q (F0 m (pc + 3) ls rest)) : W p l e R s m args below meth c H locs ce sl Q (F0 m pc ls st0) := by
  intro T hT X
  obtain ⟨v, st₀, t, T', L, h0, X', hL, e1, e2, ⟨hv, hR, hz, hq⟩, st⟩ := hr T hT X
  cases hv
  rw [h0] at hz hq
  obtain ⟨t2, a1, b1⟩ := k T'.heap (locs ++ L) (by rw [e1]; exact hR) ⟨by rw [e1]; exact Nat.le_trans z.1 hz, fun q h1 => by rw [e1, hq q h1]; exact z.2.1 q h1, fun q hq => by
      rcases List.mem_append.mp hq with h | h
      · exact z.2.2 q h
      · exact hL q h⟩ T' rfl X'
  exact ⟨t2, st t2 a1, b1⟩
theorem y_call {id pc pl : Nat} {lo : z_L} {st : List Value} {cs : List y_C} {ce sl MC MS : Nat} (hx : p.tables.exec = Jvm.exec) (hb : c.code = (y_mt id).2.1) (hml : c.maxLocals = (y_mt id).2.2.1) (hown : s.vm.findClass (y_mt id).1.cls = some m.cls) (hts : ∀ w ∈ y_ws (y_mt id), w.before args s = true) (hK : y_Kn G s) (hRc : MC ≤ R.cells) (hRs : MS ≤ R.slots)
    {ins : Instr} {n : Nat} {v : Int32} {a b : Nat} {idc : Nat} {as : List Value} {s' : y_S} {cs' : List y_C} (hc : y_ok1 id pc pl ins n v a b = true) (he : y_exec MC MS ins n v a b lo st cs ce sl = some (.inr (.inr (idc, as, s')))) (hsp : y_isSp ins = true) (hrcv : y_rcv as = true)
    (hce : s'.2.2.2.2.1 + (y_cost idc).1 ≤ MC ∧ s'.2.2.2.2.2 + (y_cost idc).2.1 ≤ MS) (hfr : (y_cost idc).2.2 + 1 ≤ R.frames ∧ 80 * (y_cost idc).2.2 + 80 ≤ R.locals) (hM : idc ≤ 10 → y_Con l G idc as s'.2.2.2.1 cs')
    (k : y_Go p l e R s m args below meth c Q G (y_mt id).2.2.1 (s'.1, s'.2.1, s'.2.2.1, cs', s'.2.2.2.2.1 + (y_cost idc).1, s'.2.2.2.2.2 + (y_cost idc).2.1)) : y_Go p l e R s m args below meth c Q G (y_mt id).2.2.1 (pc, lo, st, cs, ce, sl) := by
  cases ins
  all_goals first | exact absurd hsp Bool.false_ne_true | skip
  rename_i i
  simp only [y_ok1, Bool.and_eq_true] at hc
  obtain ⟨h1, h2⟩ := hc
  obtain ⟨hd, rfl⟩ := y_dk_inv h1
  by_cases h99 : a = 99
  · subst h99
    obtain ⟨o, r, rfl, he⟩ := y_r1_inv (show y_r1 _ _ = _ from he)
    obtain ⟨g, he⟩ := y_if_inv he
    cases he
  · have hex : ∀ a, a ≠ 99 → y_exec MC MS (.invokespecial i) (pc + 3) v a b lo st cs ce sl = y_if (Nat.ble b st.length && Nat.ble (z_cat (st.drop b)) 8) (some (.inr (.inr (a, (st.take b).reverse, (pc + 3, lo, st.drop b, cs, ce, sl))))) := by
      intro a ha
      show (match a with | 99 => _ | _ => _) = _
      split
      · exact absurd rfl ha
      · rfl
    have hck : ∀ a, a ≠ 99 → (match a with | 99 => z_wd pl (.methodLink (y_mt id).1.cls i objectInit) | _ => Nat.ble a 10 && Nat.beq b (y_prm a + 1) && (z_wd pl (.methodLink (y_mt id).1.cls i (y_mt a).1) || z_wd pl (.methodLinkNest (y_mt id).1.cls i (y_mt a).1 "TestChoice"))) = (Nat.ble a 10 && Nat.beq b (y_prm a + 1) && (z_wd pl (.methodLink (y_mt id).1.cls i (y_mt a).1) || z_wd pl (.methodLinkNest (y_mt id).1.cls i (y_mt a).1 "TestChoice"))) := by
      intro a ha
      split
      · exact absurd rfl ha
      · rfl
    have h2 := (hck a h99).symm.trans h2
    rw [hex a h99] at he
    obtain ⟨g, he⟩ := y_if_inv he
    cases he
    simp only [Bool.and_eq_true, Bool.or_eq_true] at g h2
    obtain ⟨⟨h10, hbp⟩, hlk⟩ := h2
    have h10 := Nat.le_of_ble_eq_true h10
    have hbp := z_beq hbp
    have gb := Nat.le_of_ble_eq_true g.1
    have g8 := Nat.le_of_ble_eq_true g.2
    obtain ⟨m1, m2, m3, m4, m5, m6, m7, m8, m9, m10⟩ := y_moks a (by omega)
    cases has : (st.take b).reverse with
    | nil => rw [has] at hrcv; cases hrcv
    | cons v0 As =>
      rw [has] at hrcv hM
      cases v0 <;> first | (cases hrcv; done) | skip
      rename_i o
      have ho : o < 141 := Nat.le_of_ble_eq_true hrcv
      have hst : st = As.reverse ++ .ref o :: st.drop b := by
        have : st.take b = (.ref o :: As).reverse := by rw [← has, List.reverse_reverse]
        rw [List.reverse_cons] at this
        conv => lhs; rw [← List.take_append_drop b st, this]
        rw [List.append_assoc]
        rfl
      have hAl : As.length = y_prm a := by
        have := congrArg List.length has
        rw [List.length_reverse, List.length_take, List.length_cons] at this
        omega
      intro ls H locs x y z
      have hgood : ∀ w ∈ z_good, w.before args s = true := fun w hw => hts w (List.mem_cons_of_mem _ hw)
      have hfix : CallFix p m c (y_mt id).2.1 (y_mt id).2.2.1 s args (y_ws (y_mt id)) (y_mt id).1.cls := ⟨hx, hb, hml, hown, hts⟩
      have hpay := pay_in hts (y_goodIn (own := y_mt id) m1)
      have hlen : ∀ sig, parseMethodDescriptor (y_mt a).1.desc = some sig → y_prm a = sig.parameters.length := fun sig hs => by
        rw [hs] at m4
        exact (Option.some.inj m4).symm
      have hlo : 8 + ((y_mt a).2.2.1 + 11) + (y_rm a).locals ≤ R.locals := by
        show 8 + (_ + 11) + 80 * _ ≤ _
        omega
      have hW : 2 * (F0 m pc ls (st.map (z_up G))).monitorRoom + (((st.drop b).map (z_up G)).map fun v => v.category).sum ≤ 8 := by
        show 2 * 0 + _ ≤ 8
        rw [z_cat_up]
        omega
      have hup : z_up G (.ref o) = .ref (G.1 + o) := z_up_obj ho
      have hpre : PreS s H (y_cP G (.ref o :: As) cs) (.ref (G.1 + o) :: As.map (z_up G)) := ⟨y_cblind G _ cs, fun U hU hW => ⟨by rw [List.map_cons, hup], hK.warm hW, by rw [hU]; exact y⟩⟩
      have hstk : (F0 m pc ls (st.map (z_up G))).stack = (As.map (z_up G)).reverse ++ .ref (G.1 + o) :: (st.drop b).map (z_up G) := by
        show st.map (z_up G) = _
        conv => lhs; rw [hst]
        simp [hup]
      have hAl2 : (As.map (z_up G)).length = y_prm a := by rw [List.length_map]; exact hAl
      have hM' := hM h10
      unfold y_Con at hM'
      have m1' := m1
      rw [m10] at m1'
      have hws0 : Cond.code (y_mt a).1 (y_mt a).2.1 (y_mt a).2.2.1 none ∈ y_ws (y_mt a) := by
        have : Cond.code (y_mt a).1 (y_mt a).2.1 (y_mt a).2.2.1 (y_mt a).2.2.2 ∈ y_ws (y_mt a) := List.mem_cons_self
        rw [m10] at this
        exact this
      rcases hlk with hlk | hlk
      · exact y_backC (va_runI (R := R) (p := p) (l := l) (e := e) (below := below) (meth := meth) (cells := ce) (slots := sl) (locs := locs) (index := i) hfix hM' (cw := ⟨⟨rfl, rfl, hfr.1, hlo, hpay, hws0, hgood _ m1', hgood _ m2, m3, hlen, hgood _ (z_wd_good hlk rfl)⟩, m8, hgood _ m5⟩) hpre (g := F0 m pc ls (st.map (z_up G))) rfl hAl2 x.1 hstk hW hd ⟨Nat.le_trans hce.1 hRc, Nat.le_trans hce.2 hRs⟩) z (fun H1 locs1 y1 z1 => k ls H1 locs1 x y1 z1)
      · exact y_backC (va_runIN (R := R) (p := p) (l := l) (e := e) (below := below) (meth := meth) (cells := ce) (slots := sl) (locs := locs) (index := i) (host := "TestChoice") hfix hM' (cw := ⟨⟨⟨rfl, rfl, hfr.1, hlo, hpay, hws0⟩, hgood _ m1', hgood _ m2, m3, hlen, va_Nw.use rfl (hK.1.2.1 _ _ _ _ (z_wd_inv hlk))⟩, m8, hgood _ m5⟩) hpre (g := F0 m pc ls (st.map (z_up G))) rfl hAl2 x.1 hstk hW hd ⟨Nat.le_trans hce.1 hRc, Nat.le_trans hce.2 hRs⟩) z (fun H1 locs1 y1 z1 => k ls H1 locs1 x y1 z1)
end YCO
theorem y_sound (l : Launch) (G : z_G) (hok : y_allok) : ∀ (n id : Nat) (a : List Value) (cs cs' : List y_C), y_ev n id a cs = some cs' → id ≤ 10 → y_Con l G id a cs cs' := by
  intro n
  induction n with
  | zero => intro id a cs cs' e; cases e
  | succ n ih =>
    intro id a cs cs' hev hid
    unfold y_ev at hev
    cases hcat : Nat.ble (z_cat a) (y_mt id).2.2.1 with
    | false => rw [hcat] at hev; cases hev
    | true =>
      rw [hcat] at hev
      simp only [cond_true] at hev
      have hcat := Nat.le_of_ble_eq_true hcat
      obtain ⟨m1, m2, m3, m4, m5, m6, m7, m8, m9, m10⟩ := y_moks id (by omega)
      unfold y_Con
      refine Met.ofW (cc := (y_mt id).2.1) (maxL := (y_mt id).2.2.1) (ret := (y_mt id).2.2.2) m7 rfl ?_
      intro p e s m args below meth c s₁ B hml hv
      obtain ⟨rfl, hK, hR⟩ := hv
      have hts := atoms_spec (ws := y_ws (y_mt id)) B.pre
      have hown : s.vm.findClass (y_mt id).1.cls = some m.cls := findClass_of_methodNamed B.named
      have hgood : ∀ w ∈ z_good, w.before (a.map (z_up G)).toArray s = true := fun w hw => hts w (List.mem_cons_of_mem _ hw)
      have hin : meth.name = "<init>" := (name_of_methodNamed B.named B.method).1.trans m8
      have hr1 : 1 ≤ (headSpec (y_ws (y_mt id)) (y_rm id)).room.frames := Nat.le_trans (by decide) m9
      have hr2 : 60 ≤ (headSpec (y_ws (y_mt id)) (y_rm id)).room.locals := by
        show 60 ≤ 80 * _
        omega
      have key : ∀ (k : Nat) (t : y_S), y_run (y_ev n) y_cost (y_fd (y_ds id)) id k t = some cs' → y_Go p l e (headSpec (y_ws (y_mt id)) (y_rm id)).room s m (a.map (z_up G)).toArray below meth c (MQ below (y_cQ G cs') (a.map (z_up G)).toArray s (y_cost id).1 (y_cost id).2.1 (fun q => G.1 ≤ q)) G (y_mt id).2.2.1 t := by
        intro k
        induction k with
        | zero => intro t ht; cases ht
        | succ k ihk =>
          intro t ht
          obtain ⟨pc, lo, st, cs0, ce, sl⟩ := t
          unfold y_run at ht
          cases hcode : y_fd (y_ds id) pc with
          | none => simp only [hcode] at ht; cases ht
          | some i =>
            have hchk := hok id (by omega) pc i hcode
            simp only [hcode] at ht
            cases hs : y_exec (y_cost id).1 (y_cost id).2.1 i.1 i.2.1 i.2.2.1 i.2.2.2.1 i.2.2.2.2 lo st cs0 ce sl with
            | none => simp only [hs] at ht; cases ht
            | some o =>
              simp only [hs] at ht
              match o, hs, ht with
              | .inl s', hs, ht => exact y_step B.exec B.bytes hml hown hgood hK hin hr1 hr2 (Nat.le_refl _) (Nat.le_refl _) hchk hs (ihk s' ht)
              | .inr (.inl r), hs, ht =>
                simp only at ht
                cases hg : (y_isRet i.1 && Nat.ble r.2.1 (y_cost id).1 && Nat.ble r.2.2 (y_cost id).2.1) with
                | false => rw [hg] at ht; cases ht
                | true =>
                  rw [hg] at ht
                  simp only [cond_true] at ht
                  cases ht
                  simp only [Bool.and_eq_true] at hg
                  obtain ⟨ins, n1, v1, a1, b1⟩ := i
                  cases ins <;> first | exact absurd hg.1.1 Bool.false_ne_true | skip
                  simp only [y_ok1] at hchk
                  obtain ⟨hd, -⟩ := y_dk_inv hchk
                  cases hs
                  intro ls H locs x y z
                  refine W.widen (Nat.le_of_ble_eq_true hg.1.2) (Nat.le_of_ble_eq_true hg.2) (z_vret B.exec B.bytes (B.returns.trans m10) (fun t ht hW => ⟨rfl, by rw [ht]; exact y, by rw [ht]; exact z.1, fun q hq => by rw [ht]; exact z.2.1 q hq⟩) z.2.2 hd B.notSynchronized)
              | .inr (.inr (id', a', s')), hs, ht =>
                simp only at ht
                cases hg : (y_isSp i.1 && y_rcv a' && Nat.blt (y_cost id').2.2 (y_cost id).2.2 && Nat.ble (s'.2.2.2.2.1 + (y_cost id').1) (y_cost id).1 && Nat.ble (s'.2.2.2.2.2 + (y_cost id').2.1) (y_cost id).2.1) with
                | false => rw [hg] at ht; cases ht
                | true =>
                  rw [hg] at ht
                  simp only [cond_true] at ht
                  simp only [Bool.and_eq_true] at hg
                  obtain ⟨⟨⟨⟨g1, g2⟩, g3⟩, g4⟩, g5⟩ := hg
                  have g3 : (y_cost id').2.2 + 1 ≤ (y_cost id).2.2 := Nat.le_of_ble_eq_true g3
                  cases hcl : y_ev n id' a' s'.2.2.2.1 with
                  | none => simp only [hcl] at ht; cases ht
                  | some cs1 =>
                    simp only [hcl] at ht
                    refine y_call B.exec B.bytes hml hown hts hK (Nat.le_refl _) (Nat.le_refl _) hchk hs g1 g2 ⟨Nat.le_of_ble_eq_true g4, Nat.le_of_ble_eq_true g5⟩ ⟨g3, ?_⟩ (fun h10 => ih id' a' _ _ hcl h10) (ihk _ ht)
                    show 80 * _ + 80 ≤ 80 * _
                    omega
      have hent := lv_entry (a.map (z_up G)) (n := (y_mt id).2.2.1) (by
        rw [z_lgsl]
        have : z_cat (a.map (z_up G)) = z_cat a := z_cat_up G a
        omega)
      rw [lg_entry_eq]
      rw [z_lvargs] at hent
      exact key 2000 (0, lv_args 0 a, [], cs, 0, 0) hev _ s.heap [] hent hR ⟨Nat.le_refl _, fun _ _ => rfl, fun _ hq => by cases hq⟩
end
section
/-! the constructors run: what stands in the heap behind them -/
theorem y_fd_mem : ∀ {L : List (Nat × y_I)} {pc : Nat} {i : y_I}, y_fd L pc = some i → (pc, i) ∈ L := by
  intro L
  induction L with
  | nil => intro pc i h; cases h
  | cons q r ih =>
    intro pc i h
    obtain ⟨k, j⟩ := q
    unfold y_fd at h
    by_cases hk : k = pc
    · subst hk
      rw [z_beqT] at h
      cases h
      exact List.mem_cons_self
    · rw [z_beqF hk] at h
      exact List.mem_cons_of_mem _ (ih h)
def y_allb (id : Nat) : Bool := (y_ds id).all (fun q => y_ok1 id q.1 (y_fp (y_ps id) q.1) q.2.1 q.2.2.1 q.2.2.2.1 q.2.2.2.2.1 q.2.2.2.2.2)
theorem y_b : ∀ id, id ≤ 11 → y_allb id = true := by
  intro a h
  match a, h with
  | 0, _ => decide +kernel
  | 1, _ => decide +kernel
  | 2, _ => decide +kernel
  | 3, _ => decide +kernel
  | 4, _ => decide +kernel
  | 5, _ => decide +kernel
  | 6, _ => decide +kernel
  | 7, _ => decide +kernel
  | 8, _ => decide +kernel
  | 9, _ => decide +kernel
  | 10, _ => decide +kernel
  | 11, _ => decide +kernel
theorem y_allok_ok : y_allok := fun id h pc i hi => List.all_eq_true.mp (y_b id h) (pc, i) (y_fd_mem hi)
/-- so many steps of the model's constructor -/
def y_st : Nat → y_S → Option y_S
  | 0, s => some s
  | n + 1, s => match y_fd (y_ds 11) s.1 with
    | none => none
    | some i => match y_exec 18 3981 i.1 i.2.1 i.2.2.1 i.2.2.2.1 i.2.2.2.2 s.2.1 s.2.2.1 s.2.2.2.1 s.2.2.2.2.1 s.2.2.2.2.2 with
      | some (.inl s') => y_st n s'
      | _ => none
def y_cs1 : Option (List y_C) := y_ev 5 10 [.ref 0] [.inl (1, y_def 1)]
def y_cs2 : Option y_S := match y_cs1 with
  | none => none
  | some cs => y_st 119 (0, [(0, .ref 122)], [], cs ++ [.inl (12, y_def 12)], 0, 0)
def y_isI (v : Value) (x : Int32) : Bool := match v with
  | .int y => decide (y = x)
  | _ => false
def y_isRf (v : Value) (x : Nat) : Bool := match v with
  | .ref y => Nat.beq y x
  | _ => false
def y_isN (v : Value) : Bool := match v with
  | .null => true
  | _ => false
def y_fld (o : Nat) : Nat → List Value → Bool
  | _, [] => true
  | j, v :: r => (match z_ft (z_K o) j with
    | 1 => y_isRf v (z_R o j)
    | 2 => y_isN v
    | _ => y_isI v 0) && y_fld o (j + 1) r
def y_h1 : z_H := (fun o _ => bif Nat.beq o 137 then -4 else 0, fun _ _ => 0, 999)
def y_mat (o : Nat) : y_C → Bool
  | .inl (k, fs) => Nat.beq (z_K o) k && Nat.beq fs.length (z_N o) && y_fld o 0 fs
  | .inr (.inl (k, N, f)) => Nat.beq (z_K o) k && Nat.beq N (z_N o) && (bif Nat.beq o 137 then (List.range N).all (fun j => decide (y_fi f j = -4)) else f.isEmpty)
  | .inr (.inr (.inl N)) => Nat.beq (z_K o) 21 && Nat.beq N (z_N o)
  | .inr (.inr (.inr (k, N, f))) => Nat.beq (z_K o) k && Nat.beq N (z_N o) && (List.range N).all (fun j => Nat.beq (y_fr f j) (z_R o j))
def y_mats : Nat → List y_C → Bool
  | _, [] => true
  | o, c :: r => y_mat o c && y_mats (o + 1) r
def y_fin : Bool := match y_cs2 with
  | none => false
  | some s => Nat.beq s.1 173 && Nat.beq s.2.2.2.1.length 141 && y_mats 0 s.2.2.2.1
theorem y_t1 : y_cs1.isSome = true := by decide +kernel
theorem y_t2 : y_fin = true := by decide +kernel
end
section
/-! the reference's constructor; the picture that stands behind the constructors -/
theorem y_isI_t {v : Value} {x : Int32} (h : y_isI v x = true) : v = .int x := by
  cases v <;> first | (unfold y_isI at h; exact congrArg Value.int (of_decide_eq_true h)) | (exact absurd h Bool.false_ne_true)
theorem y_isRf_t {v : Value} {x : Nat} (h : y_isRf v x = true) : v = .ref x := by
  cases v <;> first | (unfold y_isRf at h; exact congrArg Value.ref (z_beq h)) | (exact absurd h Bool.false_ne_true)
theorem y_isN_t {v : Value} (h : y_isN v = true) : v = .null := by
  cases v <;> first | rfl | (exact absurd h Bool.false_ne_true)
theorem y_fld_t {o : Nat} : ∀ {fs : List Value} {j : Nat}, y_fld o j fs = true → ∀ k v, fs[k]? = some v → (match z_ft (z_K o) (j + k) with
    | 1 => y_isRf v (z_R o (j + k))
    | 2 => y_isN v
    | _ => y_isI v 0) = true := by
  intro fs
  induction fs with
  | nil => intro j h k v hk; cases hk
  | cons w r ih =>
    intro j h k v hk
    unfold y_fld at h
    rw [Bool.and_eq_true] at h
    cases k with
    | zero =>
      cases hk
      exact h.1
    | succ k =>
      have := ih h.2 k v hk
      rw [show j + 1 + k = j + (k + 1) by omega] at this
      exact this
theorem y_mats_t : ∀ {cs : List y_C} {o : Nat}, y_mats o cs = true → ∀ k c, cs[k]? = some c → y_mat (o + k) c = true := by
  intro cs
  induction cs with
  | nil => intro o h k c hk; cases hk
  | cons w r ih =>
    intro o h k c hk
    unfold y_mats at h
    rw [Bool.and_eq_true] at h
    cases k with
    | zero =>
      cases hk
      exact h.1
    | succ k =>
      have := ih h.2 k c hk
      rw [show o + 1 + k = o + (k + 1) by omega] at this
      exact this
theorem y_arrE {cA : ClassId} {N : Nat} {f g : Nat → Value} (h : ∀ j, j < N → f j = g j) : arrV cA N f = arrV cA N g := by
  unfold arrV
  congr 2
  funext j
  exact h j.val j.isLt
theorem y_toRep {G : z_G} {cs : List y_C} {H : Heap} (hR : y_Rep G cs H) (hl : cs.length = 141) (hm : y_mats 0 cs = true) : z_Rep G y_h1 H := by
  intro o ho
  obtain ⟨c, hc⟩ : ∃ c, cs[o]? = some c := ⟨cs[o]'(by omega), List.getElem?_eq_getElem (by omega)⟩
  have hat := hR.2 o c hc
  have hmt := y_mats_t hm o c hc
  rw [Nat.zero_add] at hmt
  rcases c with ⟨k, fs⟩ | ⟨k, N, f⟩ | N | ⟨k, N, f⟩
  · obtain ⟨a1, a12, hlen, cell, c1, c2, c3, c4⟩ := hat
    simp only [y_mat, Bool.and_eq_true] at hmt
    obtain ⟨⟨hk, hn⟩, hf⟩ := hmt
    have hk := z_beq hk
    have hn := z_beq hn
    subst hk
    refine ⟨fun _ => ⟨cell, c1, c2, c3, fun j hj => ?_⟩, fun h => absurd h (by omega)⟩
    obtain ⟨v, hv⟩ : ∃ v, fs[j]? = some v := ⟨fs[j]'(by omega), List.getElem?_eq_getElem (by omega)⟩
    have h3 := y_fld_t hf j v hv
    rw [Nat.zero_add] at h3
    have h4 := c4 j (by omega)
    rw [h4]
    show some (z_up G (fs.getD j .null)) = _
    rw [y_getD hv]
    unfold z_fv
    split at h3
    · rename_i e
      rw [e, y_isRf_t h3]
      rfl
    · rename_i e
      rw [e, y_isN_t h3]
      rfl
    · rename_i e1 e2
      split
      · rename_i e; exact absurd e e1
      · rename_i e; exact absurd e e2
      · rw [y_isI_t h3]
        have : y_h1.1 o j = 0 := by
          show (bif Nat.beq o 137 then (-4 : Int32) else 0) = 0
          by_cases h137 : o = 137
          · subst h137
            exact absurd (show z_K 137 ≤ 12 from a12) (by decide)
          · rw [z_beqF h137]
            rfl
        rw [this]
        rfl
  · obtain ⟨hk3, e0⟩ := hat
    simp only [y_mat, Bool.and_eq_true] at hmt
    obtain ⟨⟨hk, hn⟩, hf⟩ := hmt
    have hk := z_beq hk
    have hn := z_beq hn
    subst hk
    subst hn
    refine ⟨fun h => absurd h (by omega), fun _ => ?_⟩
    rw [e0]
    congr 1
    refine y_arrE fun j hj => ?_
    rw [z_av_int hk3]
    show Value.int (y_fi f j) = Value.int (bif Nat.beq o 137 then (-4 : Int32) else 0)
    cases h137 : Nat.beq o 137 with
    | true =>
      rw [h137] at hf
      have := List.all_eq_true.mp hf j (List.mem_range.mpr hj)
      exact congrArg Value.int (of_decide_eq_true this)
    | false =>
      rw [h137] at hf
      cases f with
      | nil => rfl
      | cons q r => cases hf
  · simp only [y_mat, Bool.and_eq_true] at hmt
    obtain ⟨hk, hn⟩ := hmt
    have hk := z_beq hk
    have hn := z_beq hn
    subst hn
    refine ⟨fun h => absurd h (by omega), fun _ => ?_⟩
    have e0 : H[G.1 + o]? = some (arrV (G.2.2.2.2 21) (z_N o) (fun _ => .long 0)) := hat
    rw [e0, hk]
    congr 1
    refine y_arrE fun j hj => ?_
    unfold z_av
    rw [hk]
    rfl
  · obtain ⟨h24, h26, e0⟩ := hat
    simp only [y_mat, Bool.and_eq_true] at hmt
    obtain ⟨⟨hk, hn⟩, hf⟩ := hmt
    have hk := z_beq hk
    have hn := z_beq hn
    subst hk
    subst hn
    refine ⟨fun h => absurd h (by omega), fun _ => ?_⟩
    rw [e0]
    congr 1
    refine y_arrE fun j hj => ?_
    have := z_beq (List.all_eq_true.mp hf j (List.mem_range.mpr hj))
    unfold z_av
    rw [z_beqF (by omega), Nat.ble_eq_true_of_le h24]
    show z_rv G (y_fr f j) = z_rv G (z_R o j)
    rw [this]
section YMO
variable {p : Program} {l : Launch} {e : Env} {R : Room} {s : State} {m : MethodId} {args : Array Value} {below : List Frame} {meth : Method} {c : Code} {Q : State → Prop}
variable {G : z_G}
theorem y_callZ {own : z_Mt} {H : Heap} {locs : List Loc} {ls : Array Slot} {pc cells slots nL : Nat} {cc : ByteArray} {rest : List Value} {h : z_H} (hx : p.tables.exec = Jvm.exec) (hb : c.code = cc) (hml : c.maxLocals = nL) (hown : s.vm.findClass own.1.cls = some m.cls) (hts : ∀ w ∈ y_ws own, w.before args s = true) (hK : z_Kn G s) (hSt : z_St G s s.heap) {id i o : Nat} {r : z_A} (hm : z_mok id) (hv : (z_sg id).1 = false) (hn : 0 = (z_sg id).2.1) (ho : o < 141) (hk : z_K o = (z_sg id).2.2) (h12 : 1 ≤ (z_sg id).2.2 ∧ (z_sg id).2.2 ≤ 12 ∧ (z_q (z_sg id).2.2).1 = (z_mt id).1.cls) (hM : z_Met l G id [.ref o] h r) (hlk : Cond.methodLink own.1.cls i (z_mt id).1 ∈ z_good) (hrt : (z_mt id).2.2.2 = none)
    (hfr : z_rank id [.ref o] + 1 ≤ R.frames ∧ 80 * (z_rank id [.ref o]) + 80 ≤ R.locals) (hd : decode cc pc = .ok (.invokevirtual i, 3)) (hls : ls.size = nL) (hrest : (rest.map fun v => v.category).sum ≤ 8) (hcl : cells ≤ R.cells ∧ slots ≤ R.slots) (hR : z_Rep G h H) (z : y_Fr G s H locs)
    (k : ∀ (H1 : Heap) (locs1 : List Loc), z_Rep G r.2 H1 → y_Fr G s H1 locs1 → W p l e R s m args below meth c H1 locs1 cells slots Q (F0 m (pc + 3) ls rest)) : W p l e R s m args below meth c H locs cells slots Q (F0 m pc ls (.ref (G.1 + o) :: rest)) := by
  have hgood : ∀ w ∈ z_good, w.before args s = true := fun w hw => hts w (List.mem_cons_of_mem _ hw)
  obtain ⟨m1, m2, m3, m4, m5, m6, m7, m8, -⟩ := hm
  rw [hv] at m5
  obtain ⟨m5a, m5b, -⟩ := m5
  have hup : z_up G (.ref o) = .ref (G.1 + o) := z_up_obj ho
  have hcell : ∃ cellB : Cell, H[G.1 + o]? = some cellB ∧ cellB.vm.isStatics = false ∧ s.vm.findClass (z_mt id).1.cls = some cellB.cls := by
    obtain ⟨cell, c1, c2, c3, -⟩ := (hR o ho).1 (by omega)
    refine ⟨cell, c1, by rw [c3]; rfl, ?_⟩
    obtain ⟨q1, -⟩ := z_q_ok _ h12.1 h12.2.1
    obtain ⟨-, hfc, -⟩ := hK.1.1 _ _ q1
    rw [c2, hk, ← h12.2.2]
    exact hfc
  have hPc : ∀ U : State, U.heap = H → s.WarmedH U.vm → z_Pc G [.ref o] h (Value.ref (G.1 + o) :: []).toArray U := fun U hU hW => ⟨by rw [List.map_cons, hup]; rfl, z_Kn.warm hW hK, by
    rw [hU]
    exact hSt.to hW.alike (fun q h1 h2 => z.2.1 q (by omega)), by rw [hU]; exact hR⟩
  have hlen : ∀ sig, parseMethodDescriptor (z_mt id).1.desc = some sig → (z_sg id).2.1 = sig.parameters.length := fun sig hs => by
    rw [hs] at m4
    exact (Option.some.inj m4).symm
  have hpay := pay_in hts (y_goodIn (own := own) (t := z_mt id) m1)
  have hrun := va_runV (R := R) (p := p) (l := l) (e := e) (below := below) (meth := meth) (cells := cells) (slots := slots) (locs := locs) (C := (z_mt id).1.cls) (index := i) ⟨hx, hb, hml, hown, hts⟩ hM (cw := ⟨⟨rfl, rfl, hfr.1, by rw [m6]; show 8 + (_ + 11) + 80 * _ ≤ _; omega, hpay, List.mem_cons_self, hgood _ m1, hgood _ m2, m3, hlen, hgood _ hlk⟩, hgood _ m5a, hgood _ m5b⟩) (b := G.1 + o) (As := []) (rest := rest) ⟨z_blind G _ h, hcell, hPc⟩ (g := F0 m pc ls (.ref (G.1 + o) :: rest)) rfl hn hls rfl (by show 2 * 0 + _ ≤ 8; omega) hd ⟨hcl.1, hcl.2⟩
  intro T hT X
  obtain ⟨v, st₀, t, T', LL, h0, X', hL, e1, e2, ⟨hv, hR1, hz, hq⟩, st⟩ := hrun T hT X
  rw [hrt] at hv
  cases hv
  rw [h0] at hz hq
  obtain ⟨t2, a1, b1⟩ := k T'.heap (locs ++ LL) (by rw [e1]; exact hR1) ⟨by rw [e1, hz]; exact z.1, fun q h1 => by rw [e1, hq q h1]; exact z.2.1 q h1, fun q hq => by
      rcases List.mem_append.mp hq with h | h
      · exact z.2.2 q h
      · exact hL q h⟩ T' rfl X'
  exact ⟨t2, st t2 a1, b1⟩
theorem y_st_go {MC MS : Nat} (hMC : MC = 18) (hMS : MS = 3981) (hx : p.tables.exec = Jvm.exec) (hb : c.code = (y_mt 11).2.1) (hml : c.maxLocals = (y_mt 11).2.2.1) (hown : s.vm.findClass (y_mt 11).1.cls = some m.cls) (hts : ∀ w ∈ z_good, w.before args s = true) (hK : y_Kn G s) (hin : meth.name = "<init>") (hr1 : 1 ≤ R.frames) (hr2 : 60 ≤ R.locals) (hRc : MC ≤ R.cells) (hRs : MS ≤ R.slots) :
    ∀ (n : Nat) (t t' : y_S), y_st n t = some t' → y_Go p l e R s m args below meth c Q G (y_mt 11).2.2.1 t' → y_Go p l e R s m args below meth c Q G (y_mt 11).2.2.1 t := by
  subst hMC
  subst hMS
  intro n
  induction n with
  | zero => intro t t' h k; cases h; exact k
  | succ n ih =>
    intro t t' h k
    obtain ⟨pc, lo, st, cs0, ce, sl⟩ := t
    unfold y_st at h
    cases hcode : y_fd (y_ds 11) pc with
    | none => simp only [hcode] at h; cases h
    | some i =>
      simp only [hcode] at h
      have hchk := y_allok_ok 11 (by decide) pc i hcode
      cases hs : y_exec 18 3981 i.1 i.2.1 i.2.2.1 i.2.2.2.1 i.2.2.2.2 lo st cs0 ce sl with
      | none => simp only [hs] at h; cases h
      | some o =>
        simp only [hs] at h
        rcases o with s' | o
        · exact y_step hx hb hml hown hts hK hin hr1 hr2 hRc hRs hchk hs (ih s' t' h k)
        · cases h
end YMO
def y_rmM : Room := { frames := 40, cells := 18, slots := 3981, locals := 3200 }
def y_cPM (G : z_G) (cs : List y_C) : Array Value → State → Prop := fun v U => v = ([.ref 122].map (z_up G)).toArray ∧ y_Kn G U ∧ z_St G U U.heap ∧ y_Rep G cs U.heap
def y_cQM (G : z_G) (h : z_H) : Array Value → State → Outcome → State → Prop := fun _ st o t => o = .returned none ∧ z_Rep G h t.heap ∧ st.heap.size ≤ t.heap.size ∧ ∀ q, q < G.1 → t.heap[q]? = st.heap[q]?
def y_end (t : y_S) : Bool := Nat.beq t.1 173 && Nat.beq t.2.2.2.1.length 141 && y_mats 0 t.2.2.2.1 && t.2.2.1.isEmpty && Nat.ble t.2.2.2.2.1 18 && Nat.ble t.2.2.2.2.2 3981 && (match z_get t.2.1 0 with
  | some (.ref x) => Nat.beq x 122
  | _ => false)
set_option maxRecDepth 20000 in
theorem y_ConM (l : Launch) (G : z_G) (hmo : ∀ i, z_idok i → z_mok i) {cs : List y_C} {t' : y_S} {h2 h3 : z_H} {x2 x3 : Int32} (hst : y_st 119 (0, [(0, .ref 122)], [], cs, 0, 0) = some t') (hend : y_end t' = true) (hM1 : z_Met l G 131 [.ref 122] y_h1 (x2, h2)) (hM2 : z_Met l G 132 [.ref 122] h2 (x3, h3)) : Met l (y_mt 11).1 (y_ws (y_mt 11)) y_rmM (y_cPM G cs) (y_cQM G h3) 18 3981 (fun q => G.1 ≤ q) := by
  obtain ⟨m1, m2, m3, m4, m5, m6, m7, m8, m9, m10⟩ := y_moks 11 (by decide)
  refine Met.ofW (cc := (y_mt 11).2.1) (maxL := (y_mt 11).2.2.1) (ret := (y_mt 11).2.2.2) m7 rfl ?_
  intro p e s m args below meth c s₁ B hml hv
  obtain ⟨rfl, hK, hSt, hR⟩ := hv
  have hts := atoms_spec (ws := y_ws (y_mt 11)) B.pre
  have hx := B.exec
  have hb := B.bytes
  have hown : s.vm.findClass (y_mt 11).1.cls = some m.cls := findClass_of_methodNamed B.named
  have hgood : ∀ w ∈ z_good, w.before _ s = true := fun w hw => hts w (List.mem_cons_of_mem _ hw)
  have hin : meth.name = "<init>" := (name_of_methodNamed B.named B.method).1.trans m8
  have hent := lv_entry ([Value.ref 122].map (z_up G)) (n := (y_mt 11).2.2.1) (Nat.le_of_ble_eq_true rfl)
  rw [lg_entry_eq]
  rw [z_lvargs] at hent
  refine (y_st_go rfl rfl hx hb hml hown hgood hK hin (Nat.le_of_ble_eq_true rfl) (Nat.le_of_ble_eq_true rfl) (Nat.le_of_ble_eq_true rfl) (Nat.le_of_ble_eq_true rfl) 119 (0, [(0, .ref 122)], [], cs, 0, 0) t' hst ?_) _ s.heap [] hent hR ⟨Nat.le_refl _, fun _ _ => rfl, fun _ hq => by cases hq⟩
  obtain ⟨pc, lo, st, cs', ce, sl⟩ := t'
  unfold y_end at hend
  simp only [Bool.and_eq_true] at hend
  obtain ⟨⟨⟨⟨⟨⟨e1, e2⟩, e3⟩, e4⟩, e5⟩, e6⟩, e7⟩ := hend
  have e1 := z_beq e1
  have e2 := z_beq e2
  have e5 : ce ≤ 18 := Nat.le_of_ble_eq_true e5
  have e6 : sl ≤ 3981 := Nat.le_of_ble_eq_true e6
  have e4 : st = [] := List.isEmpty_iff.mp e4
  have e1 : pc = 173 := e1
  subst e1
  subst e4
  intro ls H locs x y z
  have hR1 := y_toRep y e2 e3
  refine W.widen e5 e6 ?_
  show W p l e _ s m _ below meth c H locs 18 3981 _ (F0 m 173 ls [])
  cases hg : z_get lo 0 with
  | none => simp only [hg] at e7; cases e7
  | some v0 =>
    simp only [hg] at e7
    cases v0 <;> first | (cases e7; done) | skip
    rename_i a0
    have ha0 : a0 = 122 := z_beq e7
    subst ha0
    obtain ⟨j, hj⟩ := z_ul_get (G := G) hg
    rw [z_up_obj (by decide)] at hj
    have hl0 := lv_at x j hj
    refine lv_aload_n hx hb (k := 0) (i := 0) (by decide +kernel) rfl hl0 ?_
    refine y_callZ (own := y_mt 11) (id := 131) (i := 65) (o := 122) hx hb hml hown hts hK.1 hSt (hmo 131 (Or.inl (by decide))) rfl rfl (by decide) (by decide +kernel) ⟨by decide, by decide, by decide +kernel⟩ hM1 (z_wd_good (pl := 1095) (by decide +kernel) rfl) rfl ⟨Nat.le_of_ble_eq_true rfl, Nat.le_of_ble_eq_true rfl⟩ (by decide +kernel) x.1 (Nat.le_of_ble_eq_true rfl) ⟨Nat.le_of_ble_eq_true rfl, Nat.le_of_ble_eq_true rfl⟩ hR1 z (fun H locs y z => ?_)
    refine lv_aload_n hx hb (k := 0) (i := 0) (by decide +kernel) rfl hl0 ?_
    refine y_callZ (own := y_mt 11) (id := 132) (i := 68) (o := 122) hx hb hml hown hts hK.1 hSt (hmo 132 (Or.inl (by decide))) rfl rfl (by decide) (by decide +kernel) ⟨by decide, by decide, by decide +kernel⟩ hM2 (z_wd_good (pl := 1102) (by decide +kernel) rfl) rfl ⟨Nat.le_of_ble_eq_true rfl, Nat.le_of_ble_eq_true rfl⟩ (by decide +kernel) x.1 (Nat.le_of_ble_eq_true rfl) ⟨Nat.le_of_ble_eq_true rfl, Nat.le_of_ble_eq_true rfl⟩ y z (fun H locs y z => ?_)
    exact z_vret hx hb (B.returns.trans m10) (fun t ht hW => ⟨rfl, by rw [ht]; exact y, by rw [ht]; exact z.1, fun q hq => by rw [ht]; exact z.2.1 q hq⟩) z.2.2 (by decide +kernel) B.notSynchronized
end
section
/-! FROM THE LAW'S ENTRY: the tables' facts, the two constructors, the loop -/
section YLA
variable {p : Program} {l : Launch} {e : Env} {R : Room} {s : State} {m : MethodId} {args : Array Value} {below : List Frame} {meth : Method} {c : Code} {Q : State → Prop}
variable {G : z_G}
theorem y_backM {H : Heap} {locs : List Loc} {ls : Array Slot} {pc ce sl mc ms : Nat} {a : Array Value} {rest st0 : List Value} {h : z_H} (hr : va_Run p l e R s m args below meth c H locs ce sl mc ms (F0 m pc ls st0) rest (y_cQM G h a) (fun q => G.1 ≤ q)) (z : y_Fr G s H locs) (k : ∀ (H1 : Heap) (locs1 : List Loc), z_Rep G h H1 → y_Fr G s H1 locs1 → W p l e R s m args below meth c H1 locs1 (ce + mc) (sl + ms) Q (F0 m (pc + 3) ls rest)) : W p l e R s m args below meth c H locs ce sl Q (F0 m pc ls st0) := by
  intro T hT X
  obtain ⟨v, st₀, t, T', L, h0, X', hL, e1, e2, ⟨hv, hR, hz, hq⟩, st⟩ := hr T hT X
  cases hv
  rw [h0] at hz hq
  obtain ⟨t2, a1, b1⟩ := k T'.heap (locs ++ L) (by rw [e1]; exact hR) ⟨by rw [e1]; exact Nat.le_trans z.1 hz, fun q h1 => by rw [e1, hq q h1]; exact z.2.1 q h1, fun q hq => by
      rcases List.mem_append.mp hq with h | h
      · exact z.2.2 q h
      · exact hL q h⟩ T' rfl X'
  exact ⟨t2, st t2 a1, b1⟩
theorem y_newL {own : String} {a i pc ce sl : Nat} {cc : ByteArray} {cs : List y_C} {H : Heap} {locs : List Loc} {ls : Array Slot} {rest : List Value} (hx : p.tables.exec = Jvm.exec) (hb : c.code = cc) (hown : s.vm.findClass own = some m.cls) (hts : ∀ w ∈ z_good, w.before args s = true) (hK : z_Kn G s) (a1 : 1 ≤ a) (a12 : a ≤ 12) (hwd : (Cond.classLink own i (z_q a).1).before args s = true) (hd : decode cc pc = .ok (.new i, 3)) (g4 : ce + 1 ≤ R.cells) (g5 : sl + (z_q a).2.2 ≤ R.slots) (y : y_Rep G cs H) (z : y_Fr G s H locs)
    (k : ∀ H1 : Heap, y_Rep G (cs ++ [.inl (a, y_def a)]) H1 → y_Fr G s H1 locs → W p l e R s m args below meth c H1 locs (ce + 1) (sl + (z_q a).2.2) Q (F0 m (pc + 3) ls (.ref (G.1 + cs.length) :: rest))) : W p l e R s m args below meth c H locs ce sl Q (F0 m pc ls rest) := by
  have hord := hK.1.1
  obtain ⟨q1, q2, q3, q4⟩ := z_q_ok a a1 a12
  have hKn := hord (a - 1) _ q1
  obtain ⟨i1, i2⟩ := y_inst a a1 a12
  refine W.newcK hx hb hown hwd (hts _ i1) (hts _ i2) rfl hd g4 g5 hKn.2.1 rfl fun H1 kC hkC e1 z1 o1 => ?_
  have h3 := k H1 (y.push (c := .inl (a, y_def a)) z1 o1 ⟨a1, a12, by unfold y_def; rw [List.length_map, List.length_range], (u_born (z_qT a) hts q2 hKn hkC e1 q4).to (fun j hj => ?_)⟩) (z.push y z1 o1)
  · rw [← y.1] at h3
    exact h3
  · have : (y_def a).getD j .null = defaultValue (z_qT a j) := by
      unfold y_def
      rw [List.getD_eq_getElem?_getD, List.getElem?_map, List.getElem?_range hj]
      rfl
    rw [this, y_up_def]
end YLA
def y_tm (i : Nat) : Term := .string "TestChoice$Reader" (100 + 2 * i)
def y_len : List Nat := [6, 3, 4, 5, 3, 4]
def y_byt : List (List Int32) := (List.range 6).map (fun j => z_txt (1000 + j))
def y_flat : List Cond := flatC (Jvm.Cond.and given_1 narrow_1)
theorem y_f1 : ∀ i, i < 6 → Cond.exactly (y_tm i) "java/lang/String" ∈ y_flat ∧ Cond.eq (.field (y_tm i) "java/lang/String" "coder" "B") (.int 0) ∈ y_flat ∧ Cond.arrayOf (.field (y_tm i) "java/lang/String" "value" "[B") .byte ∈ y_flat ∧ Cond.eq (.length (.field (y_tm i) "java/lang/String" "value" "[B")) (.int (Int32.ofNat (y_len.getD i 0))) ∈ y_flat := by decide +kernel
theorem y_f2 : ∀ i, i < 6 → ∀ j, j < y_len.getD i 0 → Cond.eq (.elem (.field (y_tm i) "java/lang/String" "value" "[B") (.int (Int32.ofNat j))) (.int ((y_byt.getD i []).getD j 0)) ∈ y_flat := by decide +kernel
theorem y_f3 : ∀ i, i < 6 → ∀ j, j < 6 → i ≠ j → Cond.not (Cond.eq (y_tm i) (y_tm j)) ∈ y_flat ∨ Cond.not (Cond.eq (y_tm j) (y_tm i)) ∈ y_flat := by decide +kernel
theorem y_f4 : Cond.eq (.static "java/lang/String" "COMPACT_STRINGS" "Z") (.int 1) ∈ y_flat ∧ Cond.isRef (.static "jdk/internal/util/Preconditions" "SIOOBE_FORMATTER" "Ljava/util/function/BiFunction;") ∈ y_flat := by decide +kernel
theorem y_f5 : ∀ j, j < 6 → Cond.stringRef "TestChoice$Reader" (100 + 2 * j) (z_word j) ∈ lw_tbl := by decide +kernel
theorem y_arrK {s : State} {args : Array Value} {ty : FieldType} (h : (Cond.arrayClass ty).before args s = true) : ∃ c : ClassId, ArrOfT s c ty ∧ s.vm.findClass ("[" ++ ty.toString) = some c := by
  obtain ⟨c, k, comp, h1, h2, h3⟩ := Cond.arrayClass_spec h
  exact ⟨c, fun n z => ⟨(fun _ h => nomatch h), k, h2, comp, h3⟩, h1⟩
theorem y_arrO {s : State} {args : Array Value} {C : String} (h : (Cond.arrayOver (.object C)).before args s = true) : ∃ c : ClassId, ArrOfT s c (.object C) ∧ va_RA s c (.object C) := by
  obtain ⟨comp, c, k, h1, h2, h3, h4, h5⟩ := Cond.arrayOver_spec h
  exact ⟨c, fun n z => ⟨(fun _ h => nomatch h), k, h3, comp, h4⟩, k, comp, h3, h4, h1, h5⟩
/-- what the tables and the start give: all that the picture's world is made of -/
theorem y_world {s : State} {args : Array Value} (hts : ∀ w ∈ lw_tbl, w.before args s = true) (hgv : (Jvm.Cond.and given_1 narrow_1).before args s = true) : ∃ G : z_G, G.1 = s.heap.size ∧ y_Kn G s ∧ z_St G s s.heap := by
  have hf := flat_of_before _ hgv
  have hA : ∀ a : Nat, a < s.heap.size → ¬ s.heap.size ≤ a := fun a h => Nat.not_le.mpr h
  obtain ⟨adK, adV, hS, hev⟩ := vk_Sof (N := 6) (tm := y_tm) (len := y_len) (byt := y_byt) (A := fun q => s.heap.size ≤ q) (by decide +kernel) (fun i hi => hf _ (y_f1 i hi).1) (fun i hi => hf _ (y_f1 i hi).2.1) (fun i hi => hf _ (y_f1 i hi).2.2.1) (fun i hi => hf _ (y_f1 i hi).2.2.2) (fun i hi j hj => hf _ (y_f2 i hi j hj)) (fun i j hi hj hne => (y_f3 i hi j hj hne).imp (hf _) (hf _)) hA
  have hZ := va_Zof (A := fun q => s.heap.size ≤ q) (hts (.laysStatic "java/lang/String" "COMPACT_STRINGS" "Z") (List.mem_of_getElem? (i := 573) (by decide +kernel))) (hts (.initialized "java/lang/String") (List.mem_of_getElem? (i := 106) (by decide +kernel))) (va_eqi (hf _ y_f4.1)) hA
  have hZq := va_Zqof (A := fun q => s.heap.size ≤ q) (hts (.laysStatic "jdk/internal/util/Preconditions" "SIOOBE_FORMATTER" "Ljava/util/function/BiFunction;") (List.mem_of_getElem? (i := 589) (by decide +kernel))) (hts (.initialized "jdk/internal/util/Preconditions") (List.mem_of_getElem? (i := 108) (by decide +kernel))) (hf _ y_f4.2) hA
  have hcl : ∀ k : Nat, ∃ q : ClassId × (Nat → Nat), ∀ r : vw_C, z_cl[k]? = some r → u_Kn s r.1 r.2.1 r.2.2 q.1 q.2 := by
    intro k
    by_cases hk : k < 12
    · obtain ⟨q1, q2, q3, q4⟩ := z_q_ok (k + 1) (by omega) (by omega)
      obtain ⟨i1, -⟩ := y_inst (k + 1) (by omega) (by omega)
      obtain ⟨cC, iS, hKn⟩ := u_known (C := (z_q (k + 1)).1) (T := (z_q (k + 1)).2.1) (N := (z_q (k + 1)).2.2) (ws := z_good) (fun w hw => hts w (List.mem_filter.mp hw).1) q2 (hts _ (List.mem_filter.mp i1).1)
      refine ⟨(cC, iS), fun r hr => ?_⟩
      rw [show k + 1 - 1 = k by omega] at q1
      cases q1.symm.trans hr
      exact hKn
    · refine ⟨(0, fun _ => 0), fun r hr => ?_⟩
      have : k < z_cl.length := (List.getElem?_eq_some_iff.mp hr).1
      exact absurd this (by show ¬ k < 12; exact hk)
  obtain ⟨c20, a20, b20⟩ := y_arrK (ty := .int) (hts _ (List.mem_of_getElem? (i := 213) (by decide +kernel)))
  obtain ⟨c21, a21, b21⟩ := y_arrK (ty := .long) (hts _ (List.mem_of_getElem? (i := 295) (by decide +kernel)))
  obtain ⟨c22, a22, b22⟩ := y_arrK (ty := .byte) (hts _ (List.mem_of_getElem? (i := 150) (by decide +kernel)))
  obtain ⟨c23, a23, b23⟩ := y_arrK (ty := .boolean) (hts _ (List.mem_of_getElem? (i := 1209) (by decide +kernel)))
  have o24 := hts (.arrayOver (.object "TestChoice$EdgeSet")) (List.mem_of_getElem? (i := 361) (by decide +kernel))
  have o25 := hts (.arrayOver (.object "TestChoice$Image")) (List.mem_of_getElem? (i := 401) (by decide +kernel))
  have o26 := hts (.arrayOver (.object "TestChoice$Sheet")) (List.mem_of_getElem? (i := 403) (by decide +kernel))
  obtain ⟨c24, a24, b24⟩ := y_arrO o24
  obtain ⟨c25, a25, b25⟩ := y_arrO o25
  obtain ⟨c26, a26, b26⟩ := y_arrO o26
  refine ⟨(s.heap.size, fun o => adK (o - 1000), fun k => (Classical.choose (hcl k)).1, fun k => (Classical.choose (hcl k)).2, fun k => match k with
    | 20 => c20
    | 21 => c21
    | 22 => c22
    | 23 => c23
    | 24 => c24
    | 25 => c25
    | _ => c26), rfl, ⟨⟨⟨fun k q hq => Classical.choose_spec (hcl k) q hq, fun k q hq => ?_⟩, fun a i x h hm => va_Nw.of rfl (hts _ hm), fun j hj => vk_R.of (hts _ (y_f5 j hj)) ?_⟩, fun k h1 h2 => ?_⟩, adV, ?_, hZ, hZq⟩
  · match k, hq with
    | 0, hq => cases hq; exact ⟨a20, b20⟩
    | 1, hq => cases hq; exact ⟨a21, b21⟩
    | 2, hq => cases hq; exact ⟨a22, b22⟩
    | 3, hq => cases hq; exact ⟨a23, b23⟩
    | 4, hq => cases hq; exact ⟨a24, b24⟩
    | 5, hq => cases hq; exact ⟨a25, b25⟩
    | 6, hq => cases hq; exact ⟨a26, b26⟩
    | k + 7, hq => cases hq
  · have := hev j hj
    show _ = some (Value.ref (adK (1000 + j - 1000)))
    rw [show 1000 + j - 1000 = j by omega]
    exact this
  · rcases (show k = 24 ∨ k = 25 ∨ k = 26 by omega) with rfl | rfl | rfl
    · exact ⟨_, rfl, va_AO.of o24⟩
    · exact ⟨_, rfl, va_AO.of o25⟩
    · exact ⟨_, rfl, va_AO.of o26⟩
  · have : (fun j => adK (1000 + j - 1000)) = adK := by
      funext j
      rw [show 1000 + j - 1000 = j by omega]
    show vk_S 6 _ _ (fun j => adK (1000 + j - 1000)) adV _ s s.heap
    rw [this]
    exact hS

theorem y_pm : Cond.methodLink "TestChoiceLaw" 9 (y_mt 10).1 ∈ z_good ∧ Cond.methodLink "TestChoiceLaw" 12 (y_mt 11).1 ∈ z_good := ⟨y_g 115 (by decide +kernel) rfl, y_g 1091 (by decide +kernel) rfl⟩
theorem y_csx : ∃ cs, y_ev 5 10 [.ref 0] [.inl (1, y_def 1)] = some cs ∧ cs.length = 122 ∧ ∃ t, y_st 119 (0, [(0, .ref 122)], [], cs ++ [.inl (12, y_def 12)], 0, 0) = some t ∧ y_end t = true := by
  have h1 : (match y_ev 5 10 [.ref 0] [.inl (1, y_def 1)] with
    | none => false
    | some cs => Nat.beq cs.length 122 && (match y_st 119 (0, [(0, .ref 122)], [], cs ++ [.inl (12, y_def 12)], 0, 0) with
      | none => false
      | some t => y_end t)) = true := by decide +kernel
  cases hc : y_ev 5 10 [.ref 0] [.inl (1, y_def 1)] with
  | none => rw [hc] at h1; cases h1
  | some cs =>
    rw [hc] at h1
    simp only [Bool.and_eq_true] at h1
    cases ht : y_st 119 (0, [(0, .ref 122)], [], cs ++ [.inl (12, y_def 12)], 0, 0) with
    | none => rw [ht] at h1; cases h1.2
    | some t =>
      rw [ht] at h1
      exact ⟨cs, rfl, z_beq h1.1, t, ht, h1.2⟩
set_option maxRecDepth 20000 in
set_option maxHeartbeats 2000000 in
/-- the law, from its entry, out of the pure part: an invariant that the first picture has and that every call keeps -/
theorem y_whole {Inv : z_H → Prop} {h2 h3 : z_H} {x2 x3 : Int32} (hd1 : z_M 131 [.ref 122] y_h1 = some (x2, h2)) (hd2 : z_M 132 [.ref 122] h2 = some (x3, h3)) (hI : Inv h3) (hop : z_allop Inv)
    {p : Program} {e : Env} {s : State} {m : MethodId} {below : List Frame} {meth : Method} {c : Code} (l : Launch) {b L : Nat} {xs : Nat → Int32} (hL : L ≤ 2560) (C0 : lw_At p s m meth c b L xs) : W p l e room_1 s m #[Value.ref b] below meth c s.heap [] 0 0 (lw_Z below #[Value.ref b] s) (entryFrame m ([Value.ref b] : List Value).toArray 4) := by
  obtain ⟨hx, hb, hr, hml, hown, hts, hX, hbl, hlocks, hgv⟩ := id C0
  obtain ⟨G, hG, hK, hSt⟩ := y_world hts hgv
  have hgood : ∀ w ∈ z_good, w.before #[Value.ref b] s = true := fun w hw => hts w (List.mem_filter.mp hw).1
  have hmo := z_moks
  have hmet : ∀ id a h r, id < 221 → z_cat a ≤ z_ml id → z_M id a h = some r → z_Met l G id a h r := fun id a h r hid hcat hM => by
    obtain ⟨n, hn⟩ := z_M_iff.mp hM
    exact z_sound l G z_moks z_allok_ok (z_prims l G z_moks) n id a h r hn hcat (Or.inl hid)
  obtain ⟨cs, hcs, hlen, t, ht, hend⟩ := y_csx
  have hl := lv_entry ([Value.ref b]) (n := 4) (Nat.le_of_ble_eq_true rfl)
  rw [lg_entry_eq]
  generalize (lg_sl ([Value.ref b]) ++ List.replicate (4 - (lg_sl ([Value.ref b])).length) Slot.unset).toArray = ls at hl ⊢
  have hl : lv_has ls 4 [(0, .ref b)] := hl
  have hgi : ∀ tt : z_Mt, Cond.code tt.1 tt.2.1 tt.2.2.1 tt.2.2.2 ∈ z_good → GoodIn lw_tbl (y_ws tt) := by
    intro tt hm w hw
    have key : ∀ w ∈ z_good, w ∈ lw_tbl ∧ ((w.onTables && w.keeps) = true ∨ ∃ ty, w = .arrayClass ty) := fun w hw => ⟨(List.mem_filter.mp hw).1, good_of_word (List.mem_filter.mp hw).2⟩
    rcases List.mem_cons.mp hw with rfl | hw
    · exact key _ hm
    · exact key w hw
  have hfix : CallFix p m c code 4 s #[Value.ref b] lw_tbl R_law := ⟨hx, hb, hml, hown, hts⟩
  have hR0 : y_Rep G [] s.heap := ⟨by rw [hG]; rfl, fun o c h => by cases h⟩
  have hF0 : y_Fr G s s.heap [] := ⟨Nat.le_refl _, fun _ _ => rfl, fun _ h => by cases h⟩
  refine y_newL (own := R_law) (a := 1) (i := 7) hx hb hown hgood hK.1 (by decide) (by decide) (hts _ (List.mem_of_getElem? (i := 113) (by decide +kernel))) z_ld0 (Nat.le_of_ble_eq_true rfl) (Nat.le_of_ble_eq_true rfl) hR0 hF0 (fun H y z => ?_)
  refine lv_dup hx hb z_ld1 rfl ?_
  obtain ⟨m1, m2, m3, m4, m5, m6, m7, m8, m9, m10⟩ := y_moks 10 (by decide)
  have up0 : z_up G (.ref 0) = .ref (G.1 + 0) := z_up_obj (by decide)
  have hcon := y_sound l G y_allok_ok 5 10 [.ref 0] [.inl (1, y_def 1)] cs hcs (by decide)
  unfold y_Con at hcon
  refine y_backC (cs' := cs) (va_runI (R := room_1) (p := p) (l := l) (e := e) (below := below) (meth := meth) (cells := 0 + 1) (slots := 0 + (z_q 1).2.2) (locs := []) (index := 9) (As := []) (b := G.1 + 0) (rest := [.ref (G.1 + 0)]) hfix hcon (cw := ⟨⟨rfl, rfl, Nat.le_of_ble_eq_true rfl, Nat.le_of_ble_eq_true rfl, pay_in hts (hgi _ m1), List.mem_cons_self, hgood _ m1, hgood _ m2, m3, fun sig hs => (by rw [hs] at m4; exact (Option.some.inj m4).symm), hgood _ y_pm.1⟩, m8, hgood _ m5⟩) ⟨y_cblind G _ _, fun U hU hW => ⟨by rw [List.map_cons, up0]; rfl, hK.warm hW, by rw [hU]; exact y⟩⟩ rfl rfl hl.1 rfl (Nat.le_of_ble_eq_true rfl) z_ld2 ⟨Nat.le_of_ble_eq_true rfl, Nat.le_of_ble_eq_true rfl⟩) z (fun H locs y z => ?_)
  refine lv_astore_n (lv' := [(1, .ref (G.1 + 0)), (0, .ref b)]) hx hb z_ld3 rfl hl (by decide) rfl (fun ls hl => ?_)
  refine y_newL (own := R_law) (a := 12) (i := 10) hx hb hown hgood hK.1 (by decide) (by decide) (hts _ (List.mem_of_getElem? (i := 1089) (by decide +kernel))) z_ld4 (Nat.le_of_ble_eq_true rfl) (Nat.le_of_ble_eq_true rfl) y z (fun H y z => ?_)
  rw [hlen]
  refine lv_dup hx hb z_ld5 rfl ?_
  obtain ⟨n1, n2, n3, n4, n5, n6, n7, n8, n9, n10⟩ := y_moks 11 (by decide)
  have up1 : z_up G (.ref 122) = .ref (G.1 + 122) := z_up_obj (by decide)
  have hcat1 : z_cat [.ref 122] ≤ z_ml 131 := Nat.le_of_ble_eq_true rfl
  have hcat2 : z_cat [.ref 122] ≤ z_ml 132 := Nat.le_of_ble_eq_true rfl
  have hconM := y_ConM l G hmo ht hend (hmet 131 _ _ _ (by decide) hcat1 hd1) (hmet 132 _ _ _ (by decide) hcat2 hd2)
  have hSt2 : ∀ U : State, U.heap = H → s.WarmedH U.vm → z_St G U U.heap := fun U hU hW => by
    rw [hU]
    exact hSt.to hW.alike (fun q h1 h2 => z.2.1 q (by omega))
  refine y_backM (h := h3) (va_runI (R := room_1) (p := p) (l := l) (e := e) (below := below) (meth := meth) (cells := 0 + 1 + (y_cost 10).1 + 1) (slots := 0 + (z_q 1).2.2 + (y_cost 10).2.1 + (z_q 12).2.2) (locs := locs) (index := 12) (As := []) (b := G.1 + 122) (rest := [.ref (G.1 + 122)]) hfix hconM (cw := ⟨⟨rfl, rfl, Nat.le_of_ble_eq_true rfl, Nat.le_of_ble_eq_true rfl, pay_in hts (hgi _ n1), List.mem_cons_self, hgood _ n1, hgood _ n2, n3, fun sig hs => (by rw [hs] at n4; exact (Option.some.inj n4).symm), hgood _ y_pm.2⟩, n8, hgood _ n5⟩) ⟨fun _ U _ _ q => ⟨q.1, y_Kn.same (s := U) rfl q.2.1, z_St.to (s := U) (Vm.Alike.refl _) (fun _ _ _ => rfl) q.2.2.1, q.2.2.2⟩, fun U hU hW => ⟨by rw [List.map_cons, up1]; rfl, hK.warm hW, hSt2 U hU hW, by rw [hU]; exact y⟩⟩ rfl rfl hl.1 rfl (Nat.le_of_ble_eq_true rfl) z_ld6 ⟨Nat.le_of_ble_eq_true rfl, Nat.le_of_ble_eq_true rfl⟩) z (fun H locs y z => ?_)
  refine lv_astore_n (lv' := [(2, .ref (G.1 + 122)), (1, .ref (G.1 + 0)), (0, .ref b)]) hx hb z_ld7 rfl hl (by decide) rfl (fun ls hl => ?_)
  refine lv_iconst hx hb (v := nI 0) z_ld8 rfl ?_
  refine lv_istore_n (lv' := [(3, .int (nI 0)), (2, .ref (G.1 + 122)), (1, .ref (G.1 + 0)), (0, .ref b)]) hx hb z_ld9 rfl hl (by decide) rfl (fun ls hl => ?_)
  refine W.widen (k := 600000) (n := 7302250) (Nat.le_of_ble_eq_true rfl) (Nat.le_of_ble_eq_true rfl) ?_
  exact z_law_loop C0 hL hG hK.1 hSt hmo hmet hop (L + 1) 0 h3 H locs ls (by omega) (by omega) (lv_sub hl [3, 2, 1, 0] rfl) hI y ⟨z.1, fun q h1 h2 => z.2.1 q (by omega), fun q hq => by rw [← hG]; exact z.2.2 q hq⟩
end
