section
-- ===== PART A: goes FIRST, ahead of the names: the tables' words, and 'selects' of the private methods out of them =====
/-- a private method of a class that the tables say can be made, by its rows of tables_1 -/
def lw_okq (q : MethodName × Nat) : Prop := (q.1.cls ≠ "java/lang/invoke/MethodHandle" ∧ q.1.cls ≠ "java/lang/invoke/VarHandle") ∧ Cond.instantiable q.1.cls q.2 ∈ tables_1 ∧ Cond.privateMethod q.1 ∈ tables_1 ∧ Cond.instanceMethod q.1 ∈ tables_1
theorem lw_p0 : lw_okq (⟨"TestChoice$Reader", "advance", "()V"⟩, 9) := ⟨⟨by decide +kernel, by decide +kernel⟩, List.mem_of_getElem? (i := 60) (by decide +kernel), List.mem_of_getElem? (i := 426) (by decide +kernel), List.mem_of_getElem? (i := 427) (by decide +kernel)⟩
theorem lw_p1 : lw_okq (⟨"TestChoice$Tape", "takeWord", "()V"⟩, 6) := ⟨⟨by decide +kernel, by decide +kernel⟩, List.mem_of_getElem? (i := 30) (by decide +kernel), List.mem_of_getElem? (i := 437) (by decide +kernel), List.mem_of_getElem? (i := 438) (by decide +kernel)⟩
theorem lw_p2 : lw_okq (⟨"TestChoice$Tape", "takeNumber", "()V"⟩, 6) := ⟨⟨by decide +kernel, by decide +kernel⟩, List.mem_of_getElem? (i := 30) (by decide +kernel), List.mem_of_getElem? (i := 444) (by decide +kernel), List.mem_of_getElem? (i := 445) (by decide +kernel)⟩
theorem lw_p3 : lw_okq (⟨"TestChoice$Reader", "fail", "(I)V"⟩, 9) := ⟨⟨by decide +kernel, by decide +kernel⟩, List.mem_of_getElem? (i := 60) (by decide +kernel), List.mem_of_getElem? (i := 448) (by decide +kernel), List.mem_of_getElem? (i := 449) (by decide +kernel)⟩
theorem lw_p4 : lw_okq (⟨"TestChoice$Reader", "readLine", "()V"⟩, 9) := ⟨⟨by decide +kernel, by decide +kernel⟩, List.mem_of_getElem? (i := 60) (by decide +kernel), List.mem_of_getElem? (i := 452) (by decide +kernel), List.mem_of_getElem? (i := 453) (by decide +kernel)⟩
theorem lw_p5 : lw_okq (⟨"TestChoice$Reader", "lineOfWord", "()I"⟩, 9) := ⟨⟨by decide +kernel, by decide +kernel⟩, List.mem_of_getElem? (i := 60) (by decide +kernel), List.mem_of_getElem? (i := 456) (by decide +kernel), List.mem_of_getElem? (i := 457) (by decide +kernel)⟩
theorem lw_p6 : lw_okq (⟨"TestChoice$Reader", "hasRoomFor", "(I)Z"⟩, 9) := ⟨⟨by decide +kernel, by decide +kernel⟩, List.mem_of_getElem? (i := 60) (by decide +kernel), List.mem_of_getElem? (i := 521) (by decide +kernel), List.mem_of_getElem? (i := 522) (by decide +kernel)⟩
theorem lw_p7 : lw_okq (⟨"TestChoice$Reader", "readRest", "(I)V"⟩, 9) := ⟨⟨by decide +kernel, by decide +kernel⟩, List.mem_of_getElem? (i := 60) (by decide +kernel), List.mem_of_getElem? (i := 529) (by decide +kernel), List.mem_of_getElem? (i := 530) (by decide +kernel)⟩
theorem lw_p8 : lw_okq (⟨"TestChoice$Reader", "isWithin", "(III)Z"⟩, 9) := ⟨⟨by decide +kernel, by decide +kernel⟩, List.mem_of_getElem? (i := 60) (by decide +kernel), List.mem_of_getElem? (i := 536) (by decide +kernel), List.mem_of_getElem? (i := 537) (by decide +kernel)⟩
theorem lw_p9 : lw_okq (⟨"TestChoice$Reader", "tell", "(II)V"⟩, 9) := ⟨⟨by decide +kernel, by decide +kernel⟩, List.mem_of_getElem? (i := 60) (by decide +kernel), List.mem_of_getElem? (i := 546) (by decide +kernel), List.mem_of_getElem? (i := 547) (by decide +kernel)⟩
theorem lw_p10 : lw_okq (⟨"TestChoice$Reader", "tellNode", "(II)V"⟩, 9) := ⟨⟨by decide +kernel, by decide +kernel⟩, List.mem_of_getElem? (i := 60) (by decide +kernel), List.mem_of_getElem? (i := 554) (by decide +kernel), List.mem_of_getElem? (i := 555) (by decide +kernel)⟩
theorem lw_p11 : lw_okq (⟨"TestChoice$Reader", "tellHas", "()V"⟩, 9) := ⟨⟨by decide +kernel, by decide +kernel⟩, List.mem_of_getElem? (i := 60) (by decide +kernel), List.mem_of_getElem? (i := 576) (by decide +kernel), List.mem_of_getElem? (i := 577) (by decide +kernel)⟩
theorem lw_p12 : lw_okq (⟨"TestChoice$Reader", "tellsWhatIsNotThere", "()Z"⟩, 9) := ⟨⟨by decide +kernel, by decide +kernel⟩, List.mem_of_getElem? (i := 60) (by decide +kernel), List.mem_of_getElem? (i := 588) (by decide +kernel), List.mem_of_getElem? (i := 589) (by decide +kernel)⟩
theorem lw_p13 : lw_okq (⟨"TestChoice", "edgesInDanger", "()I"⟩, 12) := ⟨⟨by decide +kernel, by decide +kernel⟩, List.mem_of_getElem? (i := 22) (by decide +kernel), List.mem_of_getElem? (i := 624) (by decide +kernel), List.mem_of_getElem? (i := 625) (by decide +kernel)⟩
theorem lw_p14 : lw_okq (⟨"TestChoice$Danger", "compareMethod", "(I)V"⟩, 6) := ⟨⟨by decide +kernel, by decide +kernel⟩, List.mem_of_getElem? (i := 234) (by decide +kernel), List.mem_of_getElem? (i := 639) (by decide +kernel), List.mem_of_getElem? (i := 640) (by decide +kernel)⟩
theorem lw_p15 : lw_okq (⟨"TestChoice$Danger", "pairUp", "(III)Z"⟩, 6) := ⟨⟨by decide +kernel, by decide +kernel⟩, List.mem_of_getElem? (i := 234) (by decide +kernel), List.mem_of_getElem? (i := 644) (by decide +kernel), List.mem_of_getElem? (i := 645) (by decide +kernel)⟩
def lw_privs_1 : List (MethodName × Nat) := [(⟨"TestChoice$Reader", "advance", "()V"⟩, 9), (⟨"TestChoice$Tape", "takeWord", "()V"⟩, 6), (⟨"TestChoice$Tape", "takeNumber", "()V"⟩, 6), (⟨"TestChoice$Reader", "fail", "(I)V"⟩, 9), (⟨"TestChoice$Reader", "readLine", "()V"⟩, 9), (⟨"TestChoice$Reader", "lineOfWord", "()I"⟩, 9), (⟨"TestChoice$Reader", "hasRoomFor", "(I)Z"⟩, 9), (⟨"TestChoice$Reader", "readRest", "(I)V"⟩, 9), (⟨"TestChoice$Reader", "isWithin", "(III)Z"⟩, 9), (⟨"TestChoice$Reader", "tell", "(II)V"⟩, 9), (⟨"TestChoice$Reader", "tellNode", "(II)V"⟩, 9), (⟨"TestChoice$Reader", "tellHas", "()V"⟩, 9), (⟨"TestChoice$Reader", "tellsWhatIsNotThere", "()Z"⟩, 9), (⟨"TestChoice", "edgesInDanger", "()I"⟩, 12), (⟨"TestChoice$Danger", "compareMethod", "(I)V"⟩, 6), (⟨"TestChoice$Danger", "pairUp", "(III)Z"⟩, 6)]
theorem lw_r1 : ∀ q ∈ lw_privs_1, lw_okq q := List.forall_mem_cons.mpr ⟨lw_p0, List.forall_mem_cons.mpr ⟨lw_p1, List.forall_mem_cons.mpr ⟨lw_p2, List.forall_mem_cons.mpr ⟨lw_p3, List.forall_mem_cons.mpr ⟨lw_p4, List.forall_mem_cons.mpr ⟨lw_p5, List.forall_mem_cons.mpr ⟨lw_p6, List.forall_mem_cons.mpr ⟨lw_p7, List.forall_mem_cons.mpr ⟨lw_p8, List.forall_mem_cons.mpr ⟨lw_p9, List.forall_mem_cons.mpr ⟨lw_p10, List.forall_mem_cons.mpr ⟨lw_p11, List.forall_mem_cons.mpr ⟨lw_p12, List.forall_mem_cons.mpr ⟨lw_p13, List.forall_mem_cons.mpr ⟨lw_p14, List.forall_mem_cons.mpr ⟨lw_p15, fun _ h => absurd h List.not_mem_nil⟩⟩⟩⟩⟩⟩⟩⟩⟩⟩⟩⟩⟩⟩⟩⟩
theorem lw_p16 : lw_okq (⟨"TestChoice$Danger", "areAlike", "(II)Z"⟩, 6) := ⟨⟨by decide +kernel, by decide +kernel⟩, List.mem_of_getElem? (i := 234) (by decide +kernel), List.mem_of_getElem? (i := 649) (by decide +kernel), List.mem_of_getElem? (i := 650) (by decide +kernel)⟩
theorem lw_p17 : lw_okq (⟨"TestChoice$Danger", "compareNexts", "(III)V"⟩, 6) := ⟨⟨by decide +kernel, by decide +kernel⟩, List.mem_of_getElem? (i := 234) (by decide +kernel), List.mem_of_getElem? (i := 657) (by decide +kernel), List.mem_of_getElem? (i := 658) (by decide +kernel)⟩
theorem lw_p18 : lw_okq (⟨"TestChoice$Run", "enter", "(II)V"⟩, 8) := ⟨⟨by decide +kernel, by decide +kernel⟩, List.mem_of_getElem? (i := 188) (by decide +kernel), List.mem_of_getElem? (i := 694) (by decide +kernel), List.mem_of_getElem? (i := 695) (by decide +kernel)⟩
theorem lw_p19 : lw_okq (⟨"TestChoice$Run", "visit", "(III)I"⟩, 8) := ⟨⟨by decide +kernel, by decide +kernel⟩, List.mem_of_getElem? (i := 188) (by decide +kernel), List.mem_of_getElem? (i := 699) (by decide +kernel), List.mem_of_getElem? (i := 700) (by decide +kernel)⟩
theorem lw_p20 : lw_okq (⟨"TestChoice$Run", "enterMeant", "(II)V"⟩, 8) := ⟨⟨by decide +kernel, by decide +kernel⟩, List.mem_of_getElem? (i := 188) (by decide +kernel), List.mem_of_getElem? (i := 704) (by decide +kernel), List.mem_of_getElem? (i := 705) (by decide +kernel)⟩
theorem lw_p21 : lw_okq (⟨"TestChoice$Run", "goOn", "(III)I"⟩, 8) := ⟨⟨by decide +kernel, by decide +kernel⟩, List.mem_of_getElem? (i := 188) (by decide +kernel), List.mem_of_getElem? (i := 710) (by decide +kernel), List.mem_of_getElem? (i := 711) (by decide +kernel)⟩
theorem lw_p22 : lw_okq (⟨"TestChoice$Run", "decide", "()I"⟩, 8) := ⟨⟨by decide +kernel, by decide +kernel⟩, List.mem_of_getElem? (i := 188) (by decide +kernel), List.mem_of_getElem? (i := 714) (by decide +kernel), List.mem_of_getElem? (i := 715) (by decide +kernel)⟩
theorem lw_p23 : lw_okq (⟨"TestChoice$Choice", "rankAll", "()V"⟩, 11) := ⟨⟨by decide +kernel, by decide +kernel⟩, List.mem_of_getElem? (i := 263) (by decide +kernel), List.mem_of_getElem? (i := 724) (by decide +kernel), List.mem_of_getElem? (i := 725) (by decide +kernel)⟩
theorem lw_p24 : lw_okq (⟨"TestChoice$Choice", "nextOne", "()I"⟩, 11) := ⟨⟨by decide +kernel, by decide +kernel⟩, List.mem_of_getElem? (i := 263) (by decide +kernel), List.mem_of_getElem? (i := 729) (by decide +kernel), List.mem_of_getElem? (i := 730) (by decide +kernel)⟩
theorem lw_p25 : lw_okq (⟨"TestChoice$Choice", "rank", "(I)V"⟩, 11) := ⟨⟨by decide +kernel, by decide +kernel⟩, List.mem_of_getElem? (i := 263) (by decide +kernel), List.mem_of_getElem? (i := 734) (by decide +kernel), List.mem_of_getElem? (i := 735) (by decide +kernel)⟩
theorem lw_p26 : lw_okq (⟨"TestChoice", "testsThatSayOther", "()I"⟩, 12) := ⟨⟨by decide +kernel, by decide +kernel⟩, List.mem_of_getElem? (i := 22) (by decide +kernel), List.mem_of_getElem? (i := 747) (by decide +kernel), List.mem_of_getElem? (i := 748) (by decide +kernel)⟩
theorem lw_p27 : lw_okq (⟨"TestChoice", "saysTheSame", "(II)Z"⟩, 12) := ⟨⟨by decide +kernel, by decide +kernel⟩, List.mem_of_getElem? (i := 22) (by decide +kernel), List.mem_of_getElem? (i := 751) (by decide +kernel), List.mem_of_getElem? (i := 752) (by decide +kernel)⟩
theorem lw_p28 : lw_okq (⟨"TestChoice", "programOf", "(I)LTestChoice$Program;"⟩, 12) := ⟨⟨by decide +kernel, by decide +kernel⟩, List.mem_of_getElem? (i := 22) (by decide +kernel), List.mem_of_getElem? (i := 781) (by decide +kernel), List.mem_of_getElem? (i := 782) (by decide +kernel)⟩
theorem lw_p29 : lw_okq (⟨"TestChoice", "runTest", "(LTestChoice$Program;I)V"⟩, 12) := ⟨⟨by decide +kernel, by decide +kernel⟩, List.mem_of_getElem? (i := 22) (by decide +kernel), List.mem_of_getElem? (i := 794) (by decide +kernel), List.mem_of_getElem? (i := 795) (by decide +kernel)⟩
theorem lw_p30 : lw_okq (⟨"TestChoice", "firstRefused", "(LTestChoice$Sheet;II)I"⟩, 12) := ⟨⟨by decide +kernel, by decide +kernel⟩, List.mem_of_getElem? (i := 22) (by decide +kernel), List.mem_of_getElem? (i := 952) (by decide +kernel), List.mem_of_getElem? (i := 953) (by decide +kernel)⟩
theorem lw_p31 : lw_okq (⟨"TestChoice", "turnAll", "(LTestChoice$Sheet;II)V"⟩, 12) := ⟨⟨by decide +kernel, by decide +kernel⟩, List.mem_of_getElem? (i := 22) (by decide +kernel), List.mem_of_getElem? (i := 960) (by decide +kernel), List.mem_of_getElem? (i := 961) (by decide +kernel)⟩
def lw_privs_2 : List (MethodName × Nat) := [(⟨"TestChoice$Danger", "areAlike", "(II)Z"⟩, 6), (⟨"TestChoice$Danger", "compareNexts", "(III)V"⟩, 6), (⟨"TestChoice$Run", "enter", "(II)V"⟩, 8), (⟨"TestChoice$Run", "visit", "(III)I"⟩, 8), (⟨"TestChoice$Run", "enterMeant", "(II)V"⟩, 8), (⟨"TestChoice$Run", "goOn", "(III)I"⟩, 8), (⟨"TestChoice$Run", "decide", "()I"⟩, 8), (⟨"TestChoice$Choice", "rankAll", "()V"⟩, 11), (⟨"TestChoice$Choice", "nextOne", "()I"⟩, 11), (⟨"TestChoice$Choice", "rank", "(I)V"⟩, 11), (⟨"TestChoice", "testsThatSayOther", "()I"⟩, 12), (⟨"TestChoice", "saysTheSame", "(II)Z"⟩, 12), (⟨"TestChoice", "programOf", "(I)LTestChoice$Program;"⟩, 12), (⟨"TestChoice", "runTest", "(LTestChoice$Program;I)V"⟩, 12), (⟨"TestChoice", "firstRefused", "(LTestChoice$Sheet;II)I"⟩, 12), (⟨"TestChoice", "turnAll", "(LTestChoice$Sheet;II)V"⟩, 12)]
theorem lw_r2 : ∀ q ∈ lw_privs_2, lw_okq q := List.forall_mem_cons.mpr ⟨lw_p16, List.forall_mem_cons.mpr ⟨lw_p17, List.forall_mem_cons.mpr ⟨lw_p18, List.forall_mem_cons.mpr ⟨lw_p19, List.forall_mem_cons.mpr ⟨lw_p20, List.forall_mem_cons.mpr ⟨lw_p21, List.forall_mem_cons.mpr ⟨lw_p22, List.forall_mem_cons.mpr ⟨lw_p23, List.forall_mem_cons.mpr ⟨lw_p24, List.forall_mem_cons.mpr ⟨lw_p25, List.forall_mem_cons.mpr ⟨lw_p26, List.forall_mem_cons.mpr ⟨lw_p27, List.forall_mem_cons.mpr ⟨lw_p28, List.forall_mem_cons.mpr ⟨lw_p29, List.forall_mem_cons.mpr ⟨lw_p30, List.forall_mem_cons.mpr ⟨lw_p31, fun _ h => absurd h List.not_mem_nil⟩⟩⟩⟩⟩⟩⟩⟩⟩⟩⟩⟩⟩⟩⟩⟩
theorem lw_p32 : lw_okq (⟨"TestChoice", "imagesKept", "()I"⟩, 12) := ⟨⟨by decide +kernel, by decide +kernel⟩, List.mem_of_getElem? (i := 22) (by decide +kernel), List.mem_of_getElem? (i := 972) (by decide +kernel), List.mem_of_getElem? (i := 973) (by decide +kernel)⟩
theorem lw_p33 : lw_okq (⟨"TestChoice$Program", "isNodeAsIn", "(LTestChoice$Program;II)Z"⟩, 9) := ⟨⟨by decide +kernel, by decide +kernel⟩, List.mem_of_getElem? (i := 66) (by decide +kernel), List.mem_of_getElem? (i := 993) (by decide +kernel), List.mem_of_getElem? (i := 994) (by decide +kernel)⟩
theorem lw_p34 : lw_okq (⟨"TestChoiceModel", "firstDraft", "()V"⟩, 34) := ⟨⟨by decide +kernel, by decide +kernel⟩, List.mem_of_getElem? (i := 998) (by decide +kernel), List.mem_of_getElem? (i := 1004) (by decide +kernel), List.mem_of_getElem? (i := 1005) (by decide +kernel)⟩
theorem lw_p35 : lw_okq (⟨"TestChoiceModel", "keepDraft", "()V"⟩, 34) := ⟨⟨by decide +kernel, by decide +kernel⟩, List.mem_of_getElem? (i := 998) (by decide +kernel), List.mem_of_getElem? (i := 1011) (by decide +kernel), List.mem_of_getElem? (i := 1012) (by decide +kernel)⟩
theorem lw_p36 : lw_okq (⟨"TestChoiceModel", "reads", "()V"⟩, 34) := ⟨⟨by decide +kernel, by decide +kernel⟩, List.mem_of_getElem? (i := 998) (by decide +kernel), List.mem_of_getElem? (i := 1135) (by decide +kernel), List.mem_of_getElem? (i := 1136) (by decide +kernel)⟩
theorem lw_p37 : lw_okq (⟨"TestChoiceModel", "byteAt", "(I)I"⟩, 34) := ⟨⟨by decide +kernel, by decide +kernel⟩, List.mem_of_getElem? (i := 998) (by decide +kernel), List.mem_of_getElem? (i := 1139) (by decide +kernel), List.mem_of_getElem? (i := 1140) (by decide +kernel)⟩
theorem lw_p38 : lw_okq (⟨"TestChoiceModel", "requires", "(ZI)V"⟩, 34) := ⟨⟨by decide +kernel, by decide +kernel⟩, List.mem_of_getElem? (i := 998) (by decide +kernel), List.mem_of_getElem? (i := 1147) (by decide +kernel), List.mem_of_getElem? (i := 1148) (by decide +kernel)⟩
theorem lw_p39 : lw_okq (⟨"TestChoiceModel", "readLine", "()V"⟩, 34) := ⟨⟨by decide +kernel, by decide +kernel⟩, List.mem_of_getElem? (i := 998) (by decide +kernel), List.mem_of_getElem? (i := 1151) (by decide +kernel), List.mem_of_getElem? (i := 1152) (by decide +kernel)⟩
theorem lw_p40 : lw_okq (⟨"TestChoiceModel", "lineNow", "()I"⟩, 34) := ⟨⟨by decide +kernel, by decide +kernel⟩, List.mem_of_getElem? (i := 998) (by decide +kernel), List.mem_of_getElem? (i := 1155) (by decide +kernel), List.mem_of_getElem? (i := 1156) (by decide +kernel)⟩
theorem lw_p41 : lw_okq (⟨"TestChoiceModel", "is", "(IIIII)Z"⟩, 34) := ⟨⟨by decide +kernel, by decide +kernel⟩, List.mem_of_getElem? (i := 998) (by decide +kernel), List.mem_of_getElem? (i := 1159) (by decide +kernel), List.mem_of_getElem? (i := 1160) (by decide +kernel)⟩
theorem lw_p42 : lw_okq (⟨"TestChoiceModel", "hasRoom", "(I)Z"⟩, 34) := ⟨⟨by decide +kernel, by decide +kernel⟩, List.mem_of_getElem? (i := 998) (by decide +kernel), List.mem_of_getElem? (i := 1163) (by decide +kernel), List.mem_of_getElem? (i := 1164) (by decide +kernel)⟩
theorem lw_p43 : lw_okq (⟨"TestChoiceModel", "methodNow", "()I"⟩, 34) := ⟨⟨by decide +kernel, by decide +kernel⟩, List.mem_of_getElem? (i := 998) (by decide +kernel), List.mem_of_getElem? (i := 1167) (by decide +kernel), List.mem_of_getElem? (i := 1168) (by decide +kernel)⟩
theorem lw_p44 : lw_okq (⟨"TestChoiceModel", "readLineOf", "(I)V"⟩, 34) := ⟨⟨by decide +kernel, by decide +kernel⟩, List.mem_of_getElem? (i := 998) (by decide +kernel), List.mem_of_getElem? (i := 1171) (by decide +kernel), List.mem_of_getElem? (i := 1172) (by decide +kernel)⟩
theorem lw_p45 : lw_okq (⟨"TestChoiceModel", "readNode", "(I)V"⟩, 34) := ⟨⟨by decide +kernel, by decide +kernel⟩, List.mem_of_getElem? (i := 998) (by decide +kernel), List.mem_of_getElem? (i := 1175) (by decide +kernel), List.mem_of_getElem? (i := 1176) (by decide +kernel)⟩
theorem lw_p46 : lw_okq (⟨"TestChoiceModel", "readNumber", "(III)I"⟩, 34) := ⟨⟨by decide +kernel, by decide +kernel⟩, List.mem_of_getElem? (i := 998) (by decide +kernel), List.mem_of_getElem? (i := 1182) (by decide +kernel), List.mem_of_getElem? (i := 1183) (by decide +kernel)⟩
theorem lw_p47 : lw_okq (⟨"TestChoiceModel", "readHas", "()V"⟩, 34) := ⟨⟨by decide +kernel, by decide +kernel⟩, List.mem_of_getElem? (i := 998) (by decide +kernel), List.mem_of_getElem? (i := 1186) (by decide +kernel), List.mem_of_getElem? (i := 1187) (by decide +kernel)⟩
def lw_privs_3 : List (MethodName × Nat) := [(⟨"TestChoice", "imagesKept", "()I"⟩, 12), (⟨"TestChoice$Program", "isNodeAsIn", "(LTestChoice$Program;II)Z"⟩, 9), (⟨"TestChoiceModel", "firstDraft", "()V"⟩, 34), (⟨"TestChoiceModel", "keepDraft", "()V"⟩, 34), (⟨"TestChoiceModel", "reads", "()V"⟩, 34), (⟨"TestChoiceModel", "byteAt", "(I)I"⟩, 34), (⟨"TestChoiceModel", "requires", "(ZI)V"⟩, 34), (⟨"TestChoiceModel", "readLine", "()V"⟩, 34), (⟨"TestChoiceModel", "lineNow", "()I"⟩, 34), (⟨"TestChoiceModel", "is", "(IIIII)Z"⟩, 34), (⟨"TestChoiceModel", "hasRoom", "(I)Z"⟩, 34), (⟨"TestChoiceModel", "methodNow", "()I"⟩, 34), (⟨"TestChoiceModel", "readLineOf", "(I)V"⟩, 34), (⟨"TestChoiceModel", "readNode", "(I)V"⟩, 34), (⟨"TestChoiceModel", "readNumber", "(III)I"⟩, 34), (⟨"TestChoiceModel", "readHas", "()V"⟩, 34)]
theorem lw_r3 : ∀ q ∈ lw_privs_3, lw_okq q := List.forall_mem_cons.mpr ⟨lw_p32, List.forall_mem_cons.mpr ⟨lw_p33, List.forall_mem_cons.mpr ⟨lw_p34, List.forall_mem_cons.mpr ⟨lw_p35, List.forall_mem_cons.mpr ⟨lw_p36, List.forall_mem_cons.mpr ⟨lw_p37, List.forall_mem_cons.mpr ⟨lw_p38, List.forall_mem_cons.mpr ⟨lw_p39, List.forall_mem_cons.mpr ⟨lw_p40, List.forall_mem_cons.mpr ⟨lw_p41, List.forall_mem_cons.mpr ⟨lw_p42, List.forall_mem_cons.mpr ⟨lw_p43, List.forall_mem_cons.mpr ⟨lw_p44, List.forall_mem_cons.mpr ⟨lw_p45, List.forall_mem_cons.mpr ⟨lw_p46, List.forall_mem_cons.mpr ⟨lw_p47, fun _ h => absurd h List.not_mem_nil⟩⟩⟩⟩⟩⟩⟩⟩⟩⟩⟩⟩⟩⟩⟩⟩
theorem lw_p48 : lw_okq (⟨"TestChoiceModel", "readClass", "()I"⟩, 34) := ⟨⟨by decide +kernel, by decide +kernel⟩, List.mem_of_getElem? (i := 998) (by decide +kernel), List.mem_of_getElem? (i := 1190) (by decide +kernel), List.mem_of_getElem? (i := 1191) (by decide +kernel)⟩
theorem lw_p49 : lw_okq (⟨"TestChoiceModel", "readTest", "()V"⟩, 34) := ⟨⟨by decide +kernel, by decide +kernel⟩, List.mem_of_getElem? (i := 998) (by decide +kernel), List.mem_of_getElem? (i := 1194) (by decide +kernel), List.mem_of_getElem? (i := 1195) (by decide +kernel)⟩
theorem lw_p50 : lw_okq (⟨"TestChoiceModel", "isWhole", "()Z"⟩, 34) := ⟨⟨by decide +kernel, by decide +kernel⟩, List.mem_of_getElem? (i := 998) (by decide +kernel), List.mem_of_getElem? (i := 1198) (by decide +kernel), List.mem_of_getElem? (i := 1199) (by decide +kernel)⟩
theorem lw_p51 : lw_okq (⟨"TestChoiceModel", "nodesOfAll", "()I"⟩, 34) := ⟨⟨by decide +kernel, by decide +kernel⟩, List.mem_of_getElem? (i := 998) (by decide +kernel), List.mem_of_getElem? (i := 1210) (by decide +kernel), List.mem_of_getElem? (i := 1211) (by decide +kernel)⟩
theorem lw_p52 : lw_okq (⟨"TestChoiceModel", "dangers", "()I"⟩, 34) := ⟨⟨by decide +kernel, by decide +kernel⟩, List.mem_of_getElem? (i := 998) (by decide +kernel), List.mem_of_getElem? (i := 1214) (by decide +kernel), List.mem_of_getElem? (i := 1215) (by decide +kernel)⟩
theorem lw_p53 : lw_okq (⟨"TestChoiceModel", "findDanger", "()V"⟩, 34) := ⟨⟨by decide +kernel, by decide +kernel⟩, List.mem_of_getElem? (i := 998) (by decide +kernel), List.mem_of_getElem? (i := 1218) (by decide +kernel), List.mem_of_getElem? (i := 1219) (by decide +kernel)⟩
theorem lw_p54 : lw_okq (⟨"TestChoiceModel", "findPairs", "(I)V"⟩, 34) := ⟨⟨by decide +kernel, by decide +kernel⟩, List.mem_of_getElem? (i := 998) (by decide +kernel), List.mem_of_getElem? (i := 1222) (by decide +kernel), List.mem_of_getElem? (i := 1223) (by decide +kernel)⟩
theorem lw_p55 : lw_okq (⟨"TestChoiceModel", "areAlike", "(III)Z"⟩, 34) := ⟨⟨by decide +kernel, by decide +kernel⟩, List.mem_of_getElem? (i := 998) (by decide +kernel), List.mem_of_getElem? (i := 1226) (by decide +kernel), List.mem_of_getElem? (i := 1227) (by decide +kernel)⟩
theorem lw_p56 : lw_okq (⟨"TestChoiceModel", "ofNode", "(IIII)I"⟩, 34) := ⟨⟨by decide +kernel, by decide +kernel⟩, List.mem_of_getElem? (i := 998) (by decide +kernel), List.mem_of_getElem? (i := 1230) (by decide +kernel), List.mem_of_getElem? (i := 1231) (by decide +kernel)⟩
theorem lw_p57 : lw_okq (⟨"TestChoiceModel", "pairsOn", "(III)Z"⟩, 34) := ⟨⟨by decide +kernel, by decide +kernel⟩, List.mem_of_getElem? (i := 998) (by decide +kernel), List.mem_of_getElem? (i := 1234) (by decide +kernel), List.mem_of_getElem? (i := 1235) (by decide +kernel)⟩
theorem lw_p58 : lw_okq (⟨"TestChoiceModel", "meantBy", "(III)I"⟩, 34) := ⟨⟨by decide +kernel, by decide +kernel⟩, List.mem_of_getElem? (i := 998) (by decide +kernel), List.mem_of_getElem? (i := 1238) (by decide +kernel), List.mem_of_getElem? (i := 1239) (by decide +kernel)⟩
theorem lw_p59 : lw_okq (⟨"TestChoiceModel", "chosen", "()I"⟩, 34) := ⟨⟨by decide +kernel, by decide +kernel⟩, List.mem_of_getElem? (i := 998) (by decide +kernel), List.mem_of_getElem? (i := 1245) (by decide +kernel), List.mem_of_getElem? (i := 1246) (by decide +kernel)⟩
theorem lw_p60 : lw_okq (⟨"TestChoiceModel", "findOrder", "()V"⟩, 34) := ⟨⟨by decide +kernel, by decide +kernel⟩, List.mem_of_getElem? (i := 998) (by decide +kernel), List.mem_of_getElem? (i := 1249) (by decide +kernel), List.mem_of_getElem? (i := 1250) (by decide +kernel)⟩
theorem lw_p61 : lw_okq (⟨"TestChoiceModel", "dangersOf", "(IZ)I"⟩, 34) := ⟨⟨by decide +kernel, by decide +kernel⟩, List.mem_of_getElem? (i := 998) (by decide +kernel), List.mem_of_getElem? (i := 1253) (by decide +kernel), List.mem_of_getElem? (i := 1254) (by decide +kernel)⟩
theorem lw_p62 : lw_okq (⟨"TestChoiceModel", "runsTest", "(II)V"⟩, 34) := ⟨⟨by decide +kernel, by decide +kernel⟩, List.mem_of_getElem? (i := 998) (by decide +kernel), List.mem_of_getElem? (i := 1257) (by decide +kernel), List.mem_of_getElem? (i := 1258) (by decide +kernel)⟩
theorem lw_p63 : lw_okq (⟨"TestChoiceModel", "ofTest", "(II)I"⟩, 34) := ⟨⟨by decide +kernel, by decide +kernel⟩, List.mem_of_getElem? (i := 998) (by decide +kernel), List.mem_of_getElem? (i := 1261) (by decide +kernel), List.mem_of_getElem? (i := 1262) (by decide +kernel)⟩
def lw_privs_4 : List (MethodName × Nat) := [(⟨"TestChoiceModel", "readClass", "()I"⟩, 34), (⟨"TestChoiceModel", "readTest", "()V"⟩, 34), (⟨"TestChoiceModel", "isWhole", "()Z"⟩, 34), (⟨"TestChoiceModel", "nodesOfAll", "()I"⟩, 34), (⟨"TestChoiceModel", "dangers", "()I"⟩, 34), (⟨"TestChoiceModel", "findDanger", "()V"⟩, 34), (⟨"TestChoiceModel", "findPairs", "(I)V"⟩, 34), (⟨"TestChoiceModel", "areAlike", "(III)Z"⟩, 34), (⟨"TestChoiceModel", "ofNode", "(IIII)I"⟩, 34), (⟨"TestChoiceModel", "pairsOn", "(III)Z"⟩, 34), (⟨"TestChoiceModel", "meantBy", "(III)I"⟩, 34), (⟨"TestChoiceModel", "chosen", "()I"⟩, 34), (⟨"TestChoiceModel", "findOrder", "()V"⟩, 34), (⟨"TestChoiceModel", "dangersOf", "(IZ)I"⟩, 34), (⟨"TestChoiceModel", "runsTest", "(II)V"⟩, 34), (⟨"TestChoiceModel", "ofTest", "(II)I"⟩, 34)]
theorem lw_r4 : ∀ q ∈ lw_privs_4, lw_okq q := List.forall_mem_cons.mpr ⟨lw_p48, List.forall_mem_cons.mpr ⟨lw_p49, List.forall_mem_cons.mpr ⟨lw_p50, List.forall_mem_cons.mpr ⟨lw_p51, List.forall_mem_cons.mpr ⟨lw_p52, List.forall_mem_cons.mpr ⟨lw_p53, List.forall_mem_cons.mpr ⟨lw_p54, List.forall_mem_cons.mpr ⟨lw_p55, List.forall_mem_cons.mpr ⟨lw_p56, List.forall_mem_cons.mpr ⟨lw_p57, List.forall_mem_cons.mpr ⟨lw_p58, List.forall_mem_cons.mpr ⟨lw_p59, List.forall_mem_cons.mpr ⟨lw_p60, List.forall_mem_cons.mpr ⟨lw_p61, List.forall_mem_cons.mpr ⟨lw_p62, List.forall_mem_cons.mpr ⟨lw_p63, fun _ h => absurd h List.not_mem_nil⟩⟩⟩⟩⟩⟩⟩⟩⟩⟩⟩⟩⟩⟩⟩⟩
theorem lw_p64 : lw_okq (⟨"TestChoiceModel", "runs", "(III)V"⟩, 34) := ⟨⟨by decide +kernel, by decide +kernel⟩, List.mem_of_getElem? (i := 998) (by decide +kernel), List.mem_of_getElem? (i := 1265) (by decide +kernel), List.mem_of_getElem? (i := 1266) (by decide +kernel)⟩
theorem lw_p65 : lw_okq (⟨"TestChoiceModel", "enters", "(II)Z"⟩, 34) := ⟨⟨by decide +kernel, by decide +kernel⟩, List.mem_of_getElem? (i := 998) (by decide +kernel), List.mem_of_getElem? (i := 1269) (by decide +kernel), List.mem_of_getElem? (i := 1270) (by decide +kernel)⟩
theorem lw_p66 : lw_okq (⟨"TestChoiceModel", "says", "(I)V"⟩, 34) := ⟨⟨by decide +kernel, by decide +kernel⟩, List.mem_of_getElem? (i := 998) (by decide +kernel), List.mem_of_getElem? (i := 1273) (by decide +kernel), List.mem_of_getElem? (i := 1274) (by decide +kernel)⟩
theorem lw_p67 : lw_okq (⟨"TestChoiceModel", "comesBack", "()V"⟩, 34) := ⟨⟨by decide +kernel, by decide +kernel⟩, List.mem_of_getElem? (i := 998) (by decide +kernel), List.mem_of_getElem? (i := 1277) (by decide +kernel), List.mem_of_getElem? (i := 1278) (by decide +kernel)⟩
theorem lw_p68 : lw_okq (⟨"TestChoiceModel", "goesTo", "(II)V"⟩, 34) := ⟨⟨by decide +kernel, by decide +kernel⟩, List.mem_of_getElem? (i := 998) (by decide +kernel), List.mem_of_getElem? (i := 1281) (by decide +kernel), List.mem_of_getElem? (i := 1282) (by decide +kernel)⟩
theorem lw_p69 : lw_okq (⟨"TestChoiceModel", "callsIn", "(II)Z"⟩, 34) := ⟨⟨by decide +kernel, by decide +kernel⟩, List.mem_of_getElem? (i := 998) (by decide +kernel), List.mem_of_getElem? (i := 1285) (by decide +kernel), List.mem_of_getElem? (i := 1286) (by decide +kernel)⟩
theorem lw_p70 : lw_okq (⟨"TestChoiceModel", "goesOn", "(II)V"⟩, 34) := ⟨⟨by decide +kernel, by decide +kernel⟩, List.mem_of_getElem? (i := 998) (by decide +kernel), List.mem_of_getElem? (i := 1289) (by decide +kernel), List.mem_of_getElem? (i := 1290) (by decide +kernel)⟩
theorem lw_p71 : lw_okq (⟨"TestChoiceModel", "comesNext", "(II)V"⟩, 34) := ⟨⟨by decide +kernel, by decide +kernel⟩, List.mem_of_getElem? (i := 998) (by decide +kernel), List.mem_of_getElem? (i := 1293) (by decide +kernel), List.mem_of_getElem? (i := 1294) (by decide +kernel)⟩
theorem lw_p72 : lw_okq (⟨"TestChoiceModel", "costsChosen", "()I"⟩, 34) := ⟨⟨by decide +kernel, by decide +kernel⟩, List.mem_of_getElem? (i := 998) (by decide +kernel), List.mem_of_getElem? (i := 1297) (by decide +kernel), List.mem_of_getElem? (i := 1298) (by decide +kernel)⟩
theorem lw_p73 : lw_okq (⟨"TestChoiceModel", "others", "()I"⟩, 34) := ⟨⟨by decide +kernel, by decide +kernel⟩, List.mem_of_getElem? (i := 998) (by decide +kernel), List.mem_of_getElem? (i := 1301) (by decide +kernel), List.mem_of_getElem? (i := 1302) (by decide +kernel)⟩
theorem lw_p74 : lw_okq (⟨"TestChoiceModel", "areSame", "(II)Z"⟩, 34) := ⟨⟨by decide +kernel, by decide +kernel⟩, List.mem_of_getElem? (i := 998) (by decide +kernel), List.mem_of_getElem? (i := 1305) (by decide +kernel), List.mem_of_getElem? (i := 1306) (by decide +kernel)⟩
theorem lw_p75 : lw_okq (⟨"TestChoiceModel", "isNode", "(II)Z"⟩, 34) := ⟨⟨by decide +kernel, by decide +kernel⟩, List.mem_of_getElem? (i := 998) (by decide +kernel), List.mem_of_getElem? (i := 1313) (by decide +kernel), List.mem_of_getElem? (i := 1314) (by decide +kernel)⟩
theorem lw_p76 : lw_okq (⟨"TestChoiceModel", "isMethod", "(I)Z"⟩, 34) := ⟨⟨by decide +kernel, by decide +kernel⟩, List.mem_of_getElem? (i := 998) (by decide +kernel), List.mem_of_getElem? (i := 1317) (by decide +kernel), List.mem_of_getElem? (i := 1318) (by decide +kernel)⟩
theorem lw_p77 : lw_okq (⟨"TestChoiceModel", "isClass", "(I)Z"⟩, 34) := ⟨⟨by decide +kernel, by decide +kernel⟩, List.mem_of_getElem? (i := 998) (by decide +kernel), List.mem_of_getElem? (i := 1326) (by decide +kernel), List.mem_of_getElem? (i := 1327) (by decide +kernel)⟩
theorem lw_p78 : lw_okq (⟨"TestChoiceModel", "isTest", "(I)Z"⟩, 34) := ⟨⟨by decide +kernel, by decide +kernel⟩, List.mem_of_getElem? (i := 998) (by decide +kernel), List.mem_of_getElem? (i := 1341) (by decide +kernel), List.mem_of_getElem? (i := 1342) (by decide +kernel)⟩
theorem lw_p79 : lw_okq (⟨"TestChoiceModel", "nodesRun", "(II)I"⟩, 34) := ⟨⟨by decide +kernel, by decide +kernel⟩, List.mem_of_getElem? (i := 998) (by decide +kernel), List.mem_of_getElem? (i := 1345) (by decide +kernel), List.mem_of_getElem? (i := 1346) (by decide +kernel)⟩
def lw_privs_5 : List (MethodName × Nat) := [(⟨"TestChoiceModel", "runs", "(III)V"⟩, 34), (⟨"TestChoiceModel", "enters", "(II)Z"⟩, 34), (⟨"TestChoiceModel", "says", "(I)V"⟩, 34), (⟨"TestChoiceModel", "comesBack", "()V"⟩, 34), (⟨"TestChoiceModel", "goesTo", "(II)V"⟩, 34), (⟨"TestChoiceModel", "callsIn", "(II)Z"⟩, 34), (⟨"TestChoiceModel", "goesOn", "(II)V"⟩, 34), (⟨"TestChoiceModel", "comesNext", "(II)V"⟩, 34), (⟨"TestChoiceModel", "costsChosen", "()I"⟩, 34), (⟨"TestChoiceModel", "others", "()I"⟩, 34), (⟨"TestChoiceModel", "areSame", "(II)Z"⟩, 34), (⟨"TestChoiceModel", "isNode", "(II)Z"⟩, 34), (⟨"TestChoiceModel", "isMethod", "(I)Z"⟩, 34), (⟨"TestChoiceModel", "isClass", "(I)Z"⟩, 34), (⟨"TestChoiceModel", "isTest", "(I)Z"⟩, 34), (⟨"TestChoiceModel", "nodesRun", "(II)I"⟩, 34)]
theorem lw_r5 : ∀ q ∈ lw_privs_5, lw_okq q := List.forall_mem_cons.mpr ⟨lw_p64, List.forall_mem_cons.mpr ⟨lw_p65, List.forall_mem_cons.mpr ⟨lw_p66, List.forall_mem_cons.mpr ⟨lw_p67, List.forall_mem_cons.mpr ⟨lw_p68, List.forall_mem_cons.mpr ⟨lw_p69, List.forall_mem_cons.mpr ⟨lw_p70, List.forall_mem_cons.mpr ⟨lw_p71, List.forall_mem_cons.mpr ⟨lw_p72, List.forall_mem_cons.mpr ⟨lw_p73, List.forall_mem_cons.mpr ⟨lw_p74, List.forall_mem_cons.mpr ⟨lw_p75, List.forall_mem_cons.mpr ⟨lw_p76, List.forall_mem_cons.mpr ⟨lw_p77, List.forall_mem_cons.mpr ⟨lw_p78, List.forall_mem_cons.mpr ⟨lw_p79, fun _ h => absurd h List.not_mem_nil⟩⟩⟩⟩⟩⟩⟩⟩⟩⟩⟩⟩⟩⟩⟩⟩
theorem lw_p80 : lw_okq (⟨"TestChoiceModel", "dangersBy", "(I)I"⟩, 34) := ⟨⟨by decide +kernel, by decide +kernel⟩, List.mem_of_getElem? (i := 998) (by decide +kernel), List.mem_of_getElem? (i := 1349) (by decide +kernel), List.mem_of_getElem? (i := 1350) (by decide +kernel)⟩
theorem lw_p81 : lw_okq (⟨"TestChoiceModel", "rankOf", "(I)I"⟩, 34) := ⟨⟨by decide +kernel, by decide +kernel⟩, List.mem_of_getElem? (i := 998) (by decide +kernel), List.mem_of_getElem? (i := 1353) (by decide +kernel), List.mem_of_getElem? (i := 1354) (by decide +kernel)⟩
theorem lw_p82 : lw_okq (⟨"TestChoiceModel", "coveredBy", "(I)I"⟩, 34) := ⟨⟨by decide +kernel, by decide +kernel⟩, List.mem_of_getElem? (i := 998) (by decide +kernel), List.mem_of_getElem? (i := 1357) (by decide +kernel), List.mem_of_getElem? (i := 1358) (by decide +kernel)⟩
theorem lw_p83 : lw_okq (⟨"TestChoiceModel", "coveredMany", "()I"⟩, 34) := ⟨⟨by decide +kernel, by decide +kernel⟩, List.mem_of_getElem? (i := 998) (by decide +kernel), List.mem_of_getElem? (i := 1361) (by decide +kernel), List.mem_of_getElem? (i := 1362) (by decide +kernel)⟩
theorem lw_p84 : lw_okq (⟨"TestChoiceModel", "isEdge", "(I)Z"⟩, 34) := ⟨⟨by decide +kernel, by decide +kernel⟩, List.mem_of_getElem? (i := 998) (by decide +kernel), List.mem_of_getElem? (i := 1373) (by decide +kernel), List.mem_of_getElem? (i := 1374) (by decide +kernel)⟩
theorem lw_p85 : lw_okq (⟨"TestChoiceModel", "testsOver", "(I)I"⟩, 34) := ⟨⟨by decide +kernel, by decide +kernel⟩, List.mem_of_getElem? (i := 998) (by decide +kernel), List.mem_of_getElem? (i := 1382) (by decide +kernel), List.mem_of_getElem? (i := 1383) (by decide +kernel)⟩
theorem lw_p86 : lw_okq (⟨"TestChoiceModel", "becomes", "(II)I"⟩, 34) := ⟨⟨by decide +kernel, by decide +kernel⟩, List.mem_of_getElem? (i := 998) (by decide +kernel), List.mem_of_getElem? (i := 1420) (by decide +kernel), List.mem_of_getElem? (i := 1421) (by decide +kernel)⟩
theorem lw_p87 : lw_okq (⟨"TestChoiceModel", "comes", "(III)V"⟩, 34) := ⟨⟨by decide +kernel, by decide +kernel⟩, List.mem_of_getElem? (i := 998) (by decide +kernel), List.mem_of_getElem? (i := 1433) (by decide +kernel), List.mem_of_getElem? (i := 1434) (by decide +kernel)⟩
theorem lw_p88 : lw_okq (⟨"TestChoiceModel", "callsOld", "()I"⟩, 34) := ⟨⟨by decide +kernel, by decide +kernel⟩, List.mem_of_getElem? (i := 998) (by decide +kernel), List.mem_of_getElem? (i := 1480) (by decide +kernel), List.mem_of_getElem? (i := 1481) (by decide +kernel)⟩
theorem lw_p89 : lw_okq (⟨"TestChoiceModel", "edgesOver", "()I"⟩, 34) := ⟨⟨by decide +kernel, by decide +kernel⟩, List.mem_of_getElem? (i := 998) (by decide +kernel), List.mem_of_getElem? (i := 1484) (by decide +kernel), List.mem_of_getElem? (i := 1485) (by decide +kernel)⟩
theorem lw_p90 : lw_okq (⟨"TestChoiceModel", "nodesOther", "()I"⟩, 34) := ⟨⟨by decide +kernel, by decide +kernel⟩, List.mem_of_getElem? (i := 998) (by decide +kernel), List.mem_of_getElem? (i := 1488) (by decide +kernel), List.mem_of_getElem? (i := 1489) (by decide +kernel)⟩
theorem lw_p91 : lw_okq (⟨"TestChoiceModel", "isOther", "(II)Z"⟩, 34) := ⟨⟨by decide +kernel, by decide +kernel⟩, List.mem_of_getElem? (i := 998) (by decide +kernel), List.mem_of_getElem? (i := 1492) (by decide +kernel), List.mem_of_getElem? (i := 1493) (by decide +kernel)⟩
def lw_privs_6 : List (MethodName × Nat) := [(⟨"TestChoiceModel", "dangersBy", "(I)I"⟩, 34), (⟨"TestChoiceModel", "rankOf", "(I)I"⟩, 34), (⟨"TestChoiceModel", "coveredBy", "(I)I"⟩, 34), (⟨"TestChoiceModel", "coveredMany", "()I"⟩, 34), (⟨"TestChoiceModel", "isEdge", "(I)Z"⟩, 34), (⟨"TestChoiceModel", "testsOver", "(I)I"⟩, 34), (⟨"TestChoiceModel", "becomes", "(II)I"⟩, 34), (⟨"TestChoiceModel", "comes", "(III)V"⟩, 34), (⟨"TestChoiceModel", "callsOld", "()I"⟩, 34), (⟨"TestChoiceModel", "edgesOver", "()I"⟩, 34), (⟨"TestChoiceModel", "nodesOther", "()I"⟩, 34), (⟨"TestChoiceModel", "isOther", "(II)Z"⟩, 34)]
theorem lw_r6 : ∀ q ∈ lw_privs_6, lw_okq q := List.forall_mem_cons.mpr ⟨lw_p80, List.forall_mem_cons.mpr ⟨lw_p81, List.forall_mem_cons.mpr ⟨lw_p82, List.forall_mem_cons.mpr ⟨lw_p83, List.forall_mem_cons.mpr ⟨lw_p84, List.forall_mem_cons.mpr ⟨lw_p85, List.forall_mem_cons.mpr ⟨lw_p86, List.forall_mem_cons.mpr ⟨lw_p87, List.forall_mem_cons.mpr ⟨lw_p88, List.forall_mem_cons.mpr ⟨lw_p89, List.forall_mem_cons.mpr ⟨lw_p90, List.forall_mem_cons.mpr ⟨lw_p91, fun _ h => absurd h List.not_mem_nil⟩⟩⟩⟩⟩⟩⟩⟩⟩⟩⟩⟩
def lw_privs : List (MethodName × Nat) := lw_privs_1 ++ (lw_privs_2 ++ (lw_privs_3 ++ (lw_privs_4 ++ (lw_privs_5 ++ (lw_privs_6)))))
def lw_tbl : List Cond := k2_sels lw_privs ++ tables_1
theorem lw_privs_ok : ∀ q ∈ lw_privs, lw_okq q := by
  show ∀ q ∈ lw_privs_1 ++ (lw_privs_2 ++ (lw_privs_3 ++ (lw_privs_4 ++ (lw_privs_5 ++ (lw_privs_6))))), lw_okq q
  exact List.forall_mem_append.mpr ⟨lw_r1, List.forall_mem_append.mpr ⟨lw_r2, List.forall_mem_append.mpr ⟨lw_r3, List.forall_mem_append.mpr ⟨lw_r4, List.forall_mem_append.mpr ⟨lw_r5, lw_r6⟩⟩⟩⟩⟩
end
section
/-! A SMALL MACHINE over a picture of the heap: the objects of a run are numbered from 0 in the order of their making; a heap is what the int places, the long places hold, and the one reference that moves. Its steps are a function: so whole runs of the bytecode are reckoned, not walked. -/
abbrev z_H : Type := (Nat → Nat → Int32) × (Nat → Nat → Int64) × Nat
abbrev z_L : Type := List (Nat × Value)
/-- pc, locals, stack, heap -/
abbrev z_S : Type := Nat × z_L × List Value × z_H
/-- instruction, next pc, a constant, three numbers, which locals are kept here (at a label), a switch's targets -/
abbrev z_I : Type := Instr × Nat × Int32 × Nat × Nat × Nat × Option (List Nat) × List (Int32 × Nat)
abbrev z_C : Type := Nat → Option z_I
abbrev z_A : Type := Int32 × z_H
/-- a next state; the method's answer; a call: whom, with what, how its answer comes back (0 none, 1 int, 2 reference), the state behind it -/
abbrev z_O : Type := z_S ⊕ (z_A ⊕ (Nat × List Value × Nat × z_S))
def z_wI (h : z_H) (o k : Nat) (x : Int32) : z_H := (fun o' k' => bif Nat.beq o' o then (bif Nat.beq k' k then x else h.1 o' k') else h.1 o' k', h.2)
def z_wL (h : z_H) (o k : Nat) (x : Int64) : z_H := (h.1, fun o' k' => bif Nat.beq o' o then (bif Nat.beq k' k then x else h.2.1 o' k') else h.2.1 o' k', h.2.2)
def z_wD (h : z_H) (d : Nat) : z_H := (h.1, h.2.1, d)
def z_cpI (h : z_H) (s sp d dp n : Nat) : z_H := (fun o' k' => bif Nat.beq o' d then (va_cpy (h.1 s) (h.1 d) sp dp n) k' else h.1 o' k', h.2)
def z_cpL (h : z_H) (s sp d dp n : Nat) : z_H := (h.1, fun o' k' => bif Nat.beq o' d then (va_cpy (h.2.1 s) (h.2.1 d) sp dp n) k' else h.2.1 o' k', h.2.2)
def z_in (j : Int32) (n : Nat) : Bool := !(decide (j < 0)) && Nat.blt j.toNatClampNeg n
def z_get : z_L → Nat → Option Value
  | [], _ => none
  | (i, v) :: r, a => bif Nat.beq i a then some v else z_get r a
def z_put1 (l : z_L) (i : Nat) (v : Value) : z_L := (i, v) :: l.filter (fun q => !(q.1 == i) && !(q.1 + 1 == i && q.2.category == 2))
def z_put2 (l : z_L) (i : Nat) (v : Value) : z_L := (i, v) :: l.filter (fun q => !(q.1 == i) && (!(q.1 == i + 1) && !(q.1 + 1 == i && q.2.category == 2)))
def z_norm (lab : Option (List Nat)) (l : z_L) : z_L := match lab with
  | none => l
  | some L => L.filterMap (fun i => (z_get l i).map (fun v => (i, v)))
def z_nx (pc : Nat) (l : z_L) (st : List Value) (h : z_H) : Option z_O := some (.inl (pc, l, st, h))
def z_i1 (st : List Value) (f : Int32 → List Value → Option z_O) : Option z_O := match st with
  | .int x :: r => f x r
  | _ => none
def z_i2 (st : List Value) (f : Int32 → Int32 → List Value → Option z_O) : Option z_O := match st with
  | .int y :: .int x :: r => f x y r
  | _ => none
def z_l1 (st : List Value) (f : Int64 → List Value → Option z_O) : Option z_O := match st with
  | .long x :: r => f x r
  | _ => none
def z_l2 (st : List Value) (f : Int64 → Int64 → List Value → Option z_O) : Option z_O := match st with
  | .long y :: .long x :: r => f x y r
  | _ => none
def z_li (st : List Value) (f : Int64 → Int32 → List Value → Option z_O) : Option z_O := match st with
  | .int y :: .long x :: r => f x y r
  | _ => none
def z_r1 (st : List Value) (f : Nat → List Value → Option z_O) : Option z_O := match st with
  | .ref o :: r => f o r
  | _ => none
def z_ri (st : List Value) (f : Nat → Int32 → List Value → Option z_O) : Option z_O := match st with
  | .int j :: .ref o :: r => f o j r
  | _ => none
def z_rii (st : List Value) (f : Nat → Int32 → Int32 → List Value → Option z_O) : Option z_O := match st with
  | .int x :: .int j :: .ref o :: r => f o j x r
  | _ => none
def z_ril (st : List Value) (f : Nat → Int32 → Int64 → List Value → Option z_O) : Option z_O := match st with
  | .long x :: .int j :: .ref o :: r => f o j x r
  | _ => none
def z_rr (st : List Value) (f : Nat → Nat → List Value → Option z_O) : Option z_O := match st with
  | .ref x :: .ref o :: r => f o x r
  | _ => none
def z_cp (st : List Value) (f : Nat → Int32 → Nat → Int32 → Int32 → List Value → Option z_O) : Option z_O := match st with
  | .int n :: .int dp :: .ref d :: .int sp :: .ref s :: r => f s sp d dp n r
  | _ => none
def z_vi (v : Option Value) (f : Int32 → Option z_O) : Option z_O := match v with
  | some (.int x) => f x
  | _ => none
def z_vl (v : Option Value) (f : Int64 → Option z_O) : Option z_O := match v with
  | some (.long x) => f x
  | _ => none
def z_vr (v : Option Value) (f : Nat → Option z_O) : Option z_O := match v with
  | some (.ref x) => f x
  | _ => none
def z_sw (d : z_S) (x : Int32) (f : Nat → z_S) : List (Int32 × Nat) → z_S
  | [] => d
  | (k, t) :: r => if x = k then f t else z_sw d x f r
def z_cat (st : List Value) : Nat := (st.map fun v => v.category).sum
/-! the objects: kinds (1 to 12 the classes, 20 int, 21 long, 22 byte, 23 boolean rows, 24 to 26 rows of references), lengths, the references that stay -/
def z_KT : Nat := 285972929434903004923040216459093570233014006958313980162047911515773339775059562137093260082359924337541618214318671408923136321429751530002420449915575294214490074296188965753145958643355773879063164541466425090802589487124242261790835800130021939809138991368797763225968943454969066716718762847686660392548671597691395336060142433468929
def z_NT : Nat := 111369062312973706523976019251547330459264063167566880440936494462277133393601955339616798140001104835487378616155776406615994015086212350832063443730453063684466115357443601588212760509167156366364533272503700723868980692563796817966875648829863001733922854419591871700067635864805890111486040663030492712429170272290503105646561988345235930769161929828755294259978008122284110609158581735904044678252948119884087412449010569110979806964520805724916242146789930944819707688046748749875422699624849638999160055308536249979361149596006965953831930715734465224299078613704978044236525312478195394007667446243234315759258573142191285943236651329974382424986769610326690208598589452
def z_K (o : Nat) : Nat := (z_KT >>> (8 * o)) % 256
def z_N (o : Nat) : Nat := (z_NT >>> (16 * o)) % 65536
-- the references of the objects that there is one of: by 8 bits each
def z_R0 : Nat := 336582546260459338662657
def z_R1 : Nat := 2199023255552
def z_R3 : Nat := 4504750745714688
def z_R37 : Nat := 2490368
def z_R40 : Nat := 189701624105
def z_R45 : Nat := 44919759967281481964793344
def z_R122 : Nat := 16274008749625908538242086340594913409598934555745922677923817521735537585388667
def z_R (o k : Nat) : Nat := match z_K o with
  | 4 => o + k - 1
  | 5 => o + k
  | 7 => o + 1
  | 10 => o + 8 * k - 7
  | 11 => o + 1
  | 24 => 54 + 2 * k
  | 25 => 72 + 21 * k
  | 26 => 114 + 2 * k
  | 1 => (z_R0 >>> (8 * k)) % 256
  | 2 => (z_R1 >>> (8 * k)) % 256
  | 3 => (z_R3 >>> (8 * k)) % 256
  | 6 => (z_R37 >>> (8 * k)) % 256
  | 8 => (z_R40 >>> (8 * k)) % 256
  | 9 => (z_R45 >>> (8 * k)) % 256
  | 12 => (z_R122 >>> (8 * k)) % 256
  | _ => 0
def z_if (c : Bool) (a : Option z_O) : Option z_O := match c with
  | true => a
  | false => none
def z_br (c : Prop) [Decidable c] (t n : Nat) (l : z_L) (st : List Value) (h : z_H) : Option z_O := some (.inl (if c then (t, l, st, h) else (n, l, st, h)))
/-- one instruction: ins, next pc n, constant v, numbers a b c, a switch's targets; the locals, the stack, the heap -/
def z_exec (ins : Instr) (n : Nat) (v : Int32) (a b c : Nat) (sw : List (Int32 × Nat)) (l : z_L) (st : List Value) (h : z_H) : Option z_O := match ins with
  | .iconst _ => z_nx n l (.int v :: st) h
  | .bipush _ => z_nx n l (.int v :: st) h
  | .sipush _ => z_nx n l (.int v :: st) h
  | .ldc _ => z_nx n l ((bif Nat.beq a 0 then .int v else .ref a) :: st) h
  | .ldc_w _ => z_nx n l (.int v :: st) h
  | .lconst _ => z_nx n l (.long v.toInt64 :: st) h
  | .ldc2_w _ => z_nx n l (.long v.toInt64 :: st) h
  | .iload _ => z_vi (z_get l a) fun x => z_nx n l (.int x :: st) h
  | .iload_n _ => z_vi (z_get l a) fun x => z_nx n l (.int x :: st) h
  | .lload _ => z_vl (z_get l a) fun x => z_nx n l (.long x :: st) h
  | .lload_n _ => z_vl (z_get l a) fun x => z_nx n l (.long x :: st) h
  | .aload _ => z_vr (z_get l a) fun o => z_if (!Nat.beq o 999) (z_nx n l (.ref o :: st) h)
  | .aload_n _ => z_vr (z_get l a) fun o => z_if (!Nat.beq o 999) (z_nx n l (.ref o :: st) h)
  | .istore _ => z_i1 st fun x r => z_nx n (z_put1 l a (.int x)) r h
  | .istore_n _ => z_i1 st fun x r => z_nx n (z_put1 l a (.int x)) r h
  | .lstore _ => z_l1 st fun x r => z_nx n (z_put2 l a (.long x)) r h
  | .lstore_n _ => z_l1 st fun x r => z_nx n (z_put2 l a (.long x)) r h
  | .astore _ => z_r1 st fun o r => z_if (!Nat.beq o 999) (z_nx n (z_put1 l a (.ref o)) r h)
  | .astore_n _ => z_r1 st fun o r => z_if (!Nat.beq o 999) (z_nx n (z_put1 l a (.ref o)) r h)
  | .iinc _ _ => z_vi (z_get l a) fun x => z_nx n (z_put1 l a (.int (x + v))) st h
  | .iaload => z_ri st fun o j r => z_if (Nat.beq (z_K o) 20) (z_if (z_in j (z_N o)) (z_nx n l (.int (h.1 o j.toNatClampNeg) :: r) h))
  | .laload => z_ri st fun o j r => z_if (Nat.beq (z_K o) 21) (z_if (z_in j (z_N o)) (z_nx n l (.long (h.2.1 o j.toNatClampNeg) :: r) h))
  | .baload => z_ri st fun o j r => z_if (Nat.beq (z_K o) 22 || Nat.beq (z_K o) 23) (z_if (z_in j (z_N o)) (z_nx n l (.int (h.1 o j.toNatClampNeg) :: r) h))
  | .aaload => z_ri st fun o j r => z_if (Nat.ble 24 (z_K o) && Nat.ble (z_K o) 26) (z_if (z_in j (z_N o)) (z_nx n l (.ref (z_R o j.toNatClampNeg) :: r) h))
  | .iastore => z_rii st fun o j x r => z_if (Nat.beq (z_K o) 20) (z_if (z_in j (z_N o)) (z_nx n l r (z_wI h o j.toNatClampNeg x)))
  | .bastore => z_rii st fun o j x r => z_if (Nat.beq (z_K o) 22 || Nat.beq (z_K o) 23) (z_if (z_in j (z_N o)) (z_nx n l r (z_wI h o j.toNatClampNeg (bif Nat.beq (z_K o) 22 then x.toInt8.toInt32 else x &&& 1))))
  | .lastore => z_ril st fun o j x r => z_if (Nat.beq (z_K o) 21) (z_if (z_in j (z_N o)) (z_nx n l r (z_wL h o j.toNatClampNeg x)))
  | .arraylength => z_r1 st fun o r => z_if (Nat.ble 20 (z_K o) && Nat.ble (z_K o) 26) (z_nx n l (.int (Int32.ofNat (z_N o)) :: r) h)
  | .getfield _ => z_r1 st fun o r => z_if (Nat.beq (z_K o) a) (z_nx n l ((match c with | 1 => .ref (z_R o b) | 2 => .ref h.2.2 | _ => .int (h.1 o b)) :: r) h)
  | .putfield _ => match c with
    | 0 => z_rii (.int 0 :: st) fun _ _ _ _ => none
    | 2 => z_rr st fun o x r => z_if (Nat.beq (z_K o) a && Nat.blt x 141) (z_nx n l r (z_wD h x))
    | 3 => match st with
      | .int x :: .ref o :: r => z_if (Nat.beq (z_K o) a && (decide (x = 0) || decide (x = 1))) (z_nx n l r (z_wI h o b x))
      | _ => none
    | 4 => match st with
      | .int x :: .ref o :: r => z_if (Nat.beq (z_K o) a) (z_nx n l r (z_wI h o b x))
      | _ => none
    | _ => none
  | .pop => match st with
    | .int _ :: r => z_nx n l r h
    | .ref _ :: r => z_nx n l r h
    | _ => none
  | .dup => match st with
    | .int x :: r => z_nx n l (.int x :: .int x :: r) h
    | .ref x :: r => z_nx n l (.ref x :: .ref x :: r) h
    | _ => none
  | .dup2 => z_ri st fun o j r => z_nx n l (.int j :: .ref o :: .int j :: .ref o :: r) h
  | .iadd => z_i2 st fun x y r => z_nx n l (.int (x + y) :: r) h
  | .isub => z_i2 st fun x y r => z_nx n l (.int (x - y) :: r) h
  | .imul => z_i2 st fun x y r => z_nx n l (.int (x * y) :: r) h
  | .iand => z_i2 st fun x y r => z_nx n l (.int (x &&& y) :: r) h
  | .idiv => z_i2 st fun x y r => z_if (!decide (y = 0)) (z_nx n l (.int (x / y) :: r) h)
  | .irem => z_i2 st fun x y r => z_if (!decide (y = 0)) (z_nx n l (.int (x - x / y * y) :: r) h)
  | .ishr => z_i2 st fun x y r => z_nx n l (.int (x >>> (y &&& 31)) :: r) h
  | .iushr => z_i2 st fun x y r => z_nx n l (.int ((x.toUInt32 >>> (y.toUInt32 &&& Int32.toUInt32 31)).toInt32) :: r) h
  | .ladd => z_l2 st fun x y r => z_nx n l (.long (x + y) :: r) h
  | .land => z_l2 st fun x y r => z_nx n l (.long (x &&& y) :: r) h
  | .lor => z_l2 st fun x y r => z_nx n l (.long (x ||| y) :: r) h
  | .lxor => z_l2 st fun x y r => z_nx n l (.long (x ^^^ y) :: r) h
  | .lcmp => z_l2 st fun x y r => z_nx n l (.int (lg_cmp x y) :: r) h
  | .lshl => z_li st fun x y r => z_nx n l (.long (x <<< (y.toInt64 &&& 63)) :: r) h
  | .lushr => z_li st fun x y r => z_nx n l (.long ((x.toUInt64 >>> (y.toInt64.toUInt64 &&& Int64.toUInt64 63)).toInt64) :: r) h
  | .i2l => z_i1 st fun x r => z_nx n l (.long x.toInt64 :: r) h
  | .l2i => z_l1 st fun x r => z_nx n l (.int x.toInt32 :: r) h
  | .i2b => z_i1 st fun x r => z_nx n l (.int x.toInt8.toInt32 :: r) h
  | .i2s => z_i1 st fun x r => z_nx n l (.int x.toInt16.toInt32 :: r) h
  | .ifCond .eq _ => z_i1 st fun x r => z_br (x = 0) a n l r h
  | .ifCond .ne _ => z_i1 st fun x r => z_br (¬ x = 0) a n l r h
  | .ifCond .lt _ => z_i1 st fun x r => z_br (x < 0) a n l r h
  | .ifCond .ge _ => z_i1 st fun x r => z_br (0 ≤ x) a n l r h
  | .ifCond .gt _ => z_i1 st fun x r => z_br (0 < x) a n l r h
  | .ifCond .le _ => z_i1 st fun x r => z_br (x ≤ 0) a n l r h
  | .if_icmp .eq _ => z_i2 st fun x y r => z_br (x = y) a n l r h
  | .if_icmp .ne _ => z_i2 st fun x y r => z_br (¬ x = y) a n l r h
  | .if_icmp .lt _ => z_i2 st fun x y r => z_br (x < y) a n l r h
  | .if_icmp .ge _ => z_i2 st fun x y r => z_br (y ≤ x) a n l r h
  | .if_icmp .gt _ => z_i2 st fun x y r => z_br (y < x) a n l r h
  | .if_icmp .le _ => z_i2 st fun x y r => z_br (x ≤ y) a n l r h
  | .goto _ => z_nx a l st h
  | .tableswitch _ _ _ _ => z_i1 st fun x r => some (.inl (z_sw (a, l, r, h) x (fun t => (t, l, r, h)) sw))
  | .lookupswitch _ _ => z_i1 st fun x r => some (.inl (z_sw (a, l, r, h) x (fun t => (t, l, r, h)) sw))
  | .ireturn => z_i1 st fun x _ => some (.inr (.inl ((bif Nat.beq a 1 then x &&& 1 else x), h)))
  | .areturn => z_r1 st fun o _ => some (.inr (.inl (Int32.ofNat o, h)))
  | .return_ => some (.inr (.inl (0, h)))
  | .invokevirtual _ => z_if (Nat.ble (z_cat (st.drop b)) 8) (some (.inr (.inr (a, (st.take b).reverse, c, (n, l, st.drop b, h)))))
  | .invokestatic _ => match a with
    | 900 => z_cp st fun s sp d dp k r => z_if (Nat.beq (z_K s) 20 && Nat.beq (z_K d) 20 && !Nat.beq s d && !(decide (sp < 0)) && !(decide (dp < 0)) && !(decide (k < 0)) && Nat.ble (sp.toNatClampNeg + k.toNatClampNeg) (z_N s) && Nat.ble (dp.toNatClampNeg + k.toNatClampNeg) (z_N d) && Nat.ble (z_cat r) 8) (z_nx n l r (z_cpI h s sp.toNatClampNeg d dp.toNatClampNeg k.toNatClampNeg))
    | 901 => z_cp st fun s sp d dp k r => z_if (Nat.beq (z_K s) 21 && Nat.beq (z_K d) 21 && !Nat.beq s d && !(decide (sp < 0)) && !(decide (dp < 0)) && !(decide (k < 0)) && Nat.ble (sp.toNatClampNeg + k.toNatClampNeg) (z_N s) && Nat.ble (dp.toNatClampNeg + k.toNatClampNeg) (z_N d) && Nat.ble (z_cat r) 8) (z_nx n l r (z_cpL h s sp.toNatClampNeg d dp.toNatClampNeg k.toNatClampNeg))
    | _ => z_if (Nat.ble (z_cat (st.drop b)) 8) (some (.inr (.inr (a, (st.take b).reverse, c, (n, l, st.drop b, h)))))
  | _ => none
def z_step (C : z_C) (s : z_S) : Option z_O := match C s.1 with
  | none => none
  | some i => z_exec i.1 i.2.1 i.2.2.1 i.2.2.2.1 i.2.2.2.2.1 i.2.2.2.2.2.1 i.2.2.2.2.2.2.2 (z_norm i.2.2.2.2.2.2.1 s.2.1) s.2.2.1 s.2.2.2
end
