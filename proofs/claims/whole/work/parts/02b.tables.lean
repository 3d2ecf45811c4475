/-- a private method of a class that the tables say can be made, by its rows of tables_1 -/
def lw_okq (q : MethodName × Nat) : Prop := (q.1.cls ≠ "java/lang/invoke/MethodHandle" ∧ q.1.cls ≠ "java/lang/invoke/VarHandle") ∧ Cond.instantiable q.1.cls q.2 ∈ tables_1 ∧ Cond.privateMethod q.1 ∈ tables_1 ∧ Cond.instanceMethod q.1 ∈ tables_1
set_option maxRecDepth 20000 in
theorem lw_p0 : lw_okq (⟨"OpenPoll$Audit", "takes", "(LOpenPoll$Board;I)Z"⟩, 5) := ⟨⟨by decide +kernel, by decide +kernel⟩, List.mem_of_getElem? (i := 116) rfl, List.mem_of_getElem? (i := 196) rfl, List.mem_of_getElem? (i := 197) rfl⟩
set_option maxRecDepth 20000 in
theorem lw_p1 : lw_okq (⟨"OpenPoll$Audit", "takesEntry", "(LOpenPoll$Board;I)Z"⟩, 5) := ⟨⟨by decide +kernel, by decide +kernel⟩, List.mem_of_getElem? (i := 116) rfl, List.mem_of_getElem? (i := 204) rfl, List.mem_of_getElem? (i := 205) rfl⟩
set_option maxRecDepth 20000 in
theorem lw_p2 : lw_okq (⟨"OpenPoll$Audit", "takesBegun", "(LOpenPoll$Board;I)Z"⟩, 5) := ⟨⟨by decide +kernel, by decide +kernel⟩, List.mem_of_getElem? (i := 116) rfl, List.mem_of_getElem? (i := 215) rfl, List.mem_of_getElem? (i := 216) rfl⟩
set_option maxRecDepth 20000 in
theorem lw_p3 : lw_okq (⟨"OpenPoll$Audit", "takesVoter", "(LOpenPoll$Board;I)Z"⟩, 5) := ⟨⟨by decide +kernel, by decide +kernel⟩, List.mem_of_getElem? (i := 116) rfl, List.mem_of_getElem? (i := 232) rfl, List.mem_of_getElem? (i := 233) rfl⟩
set_option maxRecDepth 20000 in
theorem lw_p4 : lw_okq (⟨"OpenPoll$Audit", "takesBallot", "(LOpenPoll$Board;I)Z"⟩, 5) := ⟨⟨by decide +kernel, by decide +kernel⟩, List.mem_of_getElem? (i := 116) rfl, List.mem_of_getElem? (i := 239) rfl, List.mem_of_getElem? (i := 240) rfl⟩
set_option maxRecDepth 20000 in
theorem lw_p5 : lw_okq (⟨"OpenPoll$Audit", "takesClosed", "(LOpenPoll$Board;I)Z"⟩, 5) := ⟨⟨by decide +kernel, by decide +kernel⟩, List.mem_of_getElem? (i := 116) rfl, List.mem_of_getElem? (i := 247) rfl, List.mem_of_getElem? (i := 248) rfl⟩
set_option maxRecDepth 20000 in
theorem lw_p6 : lw_okq (⟨"OpenPoll$Audit", "takesMixed", "(LOpenPoll$Board;I)Z"⟩, 5) := ⟨⟨by decide +kernel, by decide +kernel⟩, List.mem_of_getElem? (i := 116) rfl, List.mem_of_getElem? (i := 259) rfl, List.mem_of_getElem? (i := 260) rfl⟩
set_option maxRecDepth 20000 in
theorem lw_p7 : lw_okq (⟨"OpenPoll$Poll", "takeEntry", "(I)I"⟩, 15) := ⟨⟨by decide +kernel, by decide +kernel⟩, List.mem_of_getElem? (i := 48) rfl, List.mem_of_getElem? (i := 271) rfl, List.mem_of_getElem? (i := 272) rfl⟩
set_option maxRecDepth 20000 in
theorem lw_p8 : lw_okq (⟨"OpenPoll$Audit", "takesShare", "(LOpenPoll$Board;I)Z"⟩, 5) := ⟨⟨by decide +kernel, by decide +kernel⟩, List.mem_of_getElem? (i := 116) rfl, List.mem_of_getElem? (i := 287) rfl, List.mem_of_getElem? (i := 288) rfl⟩
set_option maxRecDepth 20000 in
theorem lw_p9 : lw_okq (⟨"OpenPoll$Audit", "provesShare", "(LOpenPoll$Board;III)Z"⟩, 5) := ⟨⟨by decide +kernel, by decide +kernel⟩, List.mem_of_getElem? (i := 116) rfl, List.mem_of_getElem? (i := 294) rfl, List.mem_of_getElem? (i := 295) rfl⟩
set_option maxRecDepth 20000 in
theorem lw_p10 : lw_okq (⟨"OpenPoll$Audit", "takesResult", "(LOpenPoll$Board;I)Z"⟩, 5) := ⟨⟨by decide +kernel, by decide +kernel⟩, List.mem_of_getElem? (i := 116) rfl, List.mem_of_getElem? (i := 313) rfl, List.mem_of_getElem? (i := 314) rfl⟩
set_option maxRecDepth 20000 in
theorem lw_p11 : lw_okq (⟨"OpenPoll$Proof", "goToRecord", "(II)V"⟩, 4) := ⟨⟨by decide +kernel, by decide +kernel⟩, List.mem_of_getElem? (i := 140) rfl, List.mem_of_getElem? (i := 336) rfl, List.mem_of_getElem? (i := 337) rfl⟩
set_option maxRecDepth 20000 in
theorem lw_p12 : lw_okq (⟨"OpenPoll$Proof", "goDown", "(Z)V"⟩, 4) := ⟨⟨by decide +kernel, by decide +kernel⟩, List.mem_of_getElem? (i := 140) rfl, List.mem_of_getElem? (i := 343) rfl, List.mem_of_getElem? (i := 344) rfl⟩
set_option maxRecDepth 20000 in
theorem lw_p13 : lw_okq (⟨"OpenPoll$Proof", "isSecond", "(I)Z"⟩, 4) := ⟨⟨by decide +kernel, by decide +kernel⟩, List.mem_of_getElem? (i := 140) rfl, List.mem_of_getElem? (i := 347) rfl, List.mem_of_getElem? (i := 348) rfl⟩
set_option maxRecDepth 20000 in
theorem lw_p14 : lw_okq (⟨"OpenPoll$Proof", "goToFirst", "(II)V"⟩, 4) := ⟨⟨by decide +kernel, by decide +kernel⟩, List.mem_of_getElem? (i := 140) rfl, List.mem_of_getElem? (i := 365) rfl, List.mem_of_getElem? (i := 366) rfl⟩
set_option maxRecDepth 20000 in
theorem lw_p15 : lw_okq (⟨"OpenPoll$Proof", "digestsBelow", "()I"⟩, 4) := ⟨⟨by decide +kernel, by decide +kernel⟩, List.mem_of_getElem? (i := 140) rfl, List.mem_of_getElem? (i := 369) rfl, List.mem_of_getElem? (i := 370) rfl⟩
def lw_privs_1 : List (MethodName × Nat) := [(⟨"OpenPoll$Audit", "takes", "(LOpenPoll$Board;I)Z"⟩, 5), (⟨"OpenPoll$Audit", "takesEntry", "(LOpenPoll$Board;I)Z"⟩, 5), (⟨"OpenPoll$Audit", "takesBegun", "(LOpenPoll$Board;I)Z"⟩, 5), (⟨"OpenPoll$Audit", "takesVoter", "(LOpenPoll$Board;I)Z"⟩, 5), (⟨"OpenPoll$Audit", "takesBallot", "(LOpenPoll$Board;I)Z"⟩, 5), (⟨"OpenPoll$Audit", "takesClosed", "(LOpenPoll$Board;I)Z"⟩, 5), (⟨"OpenPoll$Audit", "takesMixed", "(LOpenPoll$Board;I)Z"⟩, 5), (⟨"OpenPoll$Poll", "takeEntry", "(I)I"⟩, 15), (⟨"OpenPoll$Audit", "takesShare", "(LOpenPoll$Board;I)Z"⟩, 5), (⟨"OpenPoll$Audit", "provesShare", "(LOpenPoll$Board;III)Z"⟩, 5), (⟨"OpenPoll$Audit", "takesResult", "(LOpenPoll$Board;I)Z"⟩, 5), (⟨"OpenPoll$Proof", "goToRecord", "(II)V"⟩, 4), (⟨"OpenPoll$Proof", "goDown", "(Z)V"⟩, 4), (⟨"OpenPoll$Proof", "isSecond", "(I)Z"⟩, 4), (⟨"OpenPoll$Proof", "goToFirst", "(II)V"⟩, 4), (⟨"OpenPoll$Proof", "digestsBelow", "()I"⟩, 4)]
theorem lw_r1 : ∀ q ∈ lw_privs_1, lw_okq q := List.forall_mem_cons.mpr ⟨lw_p0, List.forall_mem_cons.mpr ⟨lw_p1, List.forall_mem_cons.mpr ⟨lw_p2, List.forall_mem_cons.mpr ⟨lw_p3, List.forall_mem_cons.mpr ⟨lw_p4, List.forall_mem_cons.mpr ⟨lw_p5, List.forall_mem_cons.mpr ⟨lw_p6, List.forall_mem_cons.mpr ⟨lw_p7, List.forall_mem_cons.mpr ⟨lw_p8, List.forall_mem_cons.mpr ⟨lw_p9, List.forall_mem_cons.mpr ⟨lw_p10, List.forall_mem_cons.mpr ⟨lw_p11, List.forall_mem_cons.mpr ⟨lw_p12, List.forall_mem_cons.mpr ⟨lw_p13, List.forall_mem_cons.mpr ⟨lw_p14, List.forall_mem_cons.mpr ⟨lw_p15, fun _ h => absurd h List.not_mem_nil⟩⟩⟩⟩⟩⟩⟩⟩⟩⟩⟩⟩⟩⟩⟩⟩
set_option maxRecDepth 20000 in
theorem lw_p16 : lw_okq (⟨"java/lang/Throwable", "fillInStackTrace", "(I)Ljava/lang/Throwable;"⟩, 6) := ⟨⟨by decide +kernel, by decide +kernel⟩, List.mem_of_getElem? (i := 421) rfl, List.mem_of_getElem? (i := 419) rfl, List.mem_of_getElem? (i := 420) rfl⟩
set_option maxRecDepth 20000 in
theorem lw_p17 : lw_okq (⟨"OpenPoll", "putEntries", "()V"⟩, 6) := ⟨⟨by decide +kernel, by decide +kernel⟩, List.mem_of_getElem? (i := 17) rfl, List.mem_of_getElem? (i := 537) rfl, List.mem_of_getElem? (i := 538) rfl⟩
set_option maxRecDepth 20000 in
theorem lw_p18 : lw_okq (⟨"OpenPoll", "putShare", "(III)V"⟩, 6) := ⟨⟨by decide +kernel, by decide +kernel⟩, List.mem_of_getElem? (i := 17) rfl, List.mem_of_getElem? (i := 562) rfl, List.mem_of_getElem? (i := 563) rfl⟩
set_option maxRecDepth 20000 in
theorem lw_p19 : lw_okq (⟨"OpenPoll$Board", "joinNeighbours", "(I)V"⟩, 4) := ⟨⟨by decide +kernel, by decide +kernel⟩, List.mem_of_getElem? (i := 25) rfl, List.mem_of_getElem? (i := 655) rfl, List.mem_of_getElem? (i := 656) rfl⟩
set_option maxRecDepth 20000 in
theorem lw_p20 : lw_okq (⟨"OpenPoll$Proof", "fill", "(LOpenPoll$Board;II)V"⟩, 4) := ⟨⟨by decide +kernel, by decide +kernel⟩, List.mem_of_getElem? (i := 140) rfl, List.mem_of_getElem? (i := 672) rfl, List.mem_of_getElem? (i := 673) rfl⟩
set_option maxRecDepth 20000 in
theorem lw_p21 : lw_okq (⟨"OpenPollModel", "put", "(IIII)I"⟩, 39) := ⟨⟨by decide +kernel, by decide +kernel⟩, List.mem_of_getElem? (i := 697) rfl, List.mem_of_getElem? (i := 836) rfl, List.mem_of_getElem? (i := 837) rfl⟩
set_option maxRecDepth 20000 in
theorem lw_p22 : lw_okq (⟨"OpenPollModel", "noRoom", "(I)Z"⟩, 39) := ⟨⟨by decide +kernel, by decide +kernel⟩, List.mem_of_getElem? (i := 697) rfl, List.mem_of_getElem? (i := 847) rfl, List.mem_of_getElem? (i := 848) rfl⟩
set_option maxRecDepth 20000 in
theorem lw_p23 : lw_okq (⟨"OpenPollModel", "publicKey", "()I"⟩, 39) := ⟨⟨by decide +kernel, by decide +kernel⟩, List.mem_of_getElem? (i := 697) rfl, List.mem_of_getElem? (i := 855) rfl, List.mem_of_getElem? (i := 856) rfl⟩
set_option maxRecDepth 20000 in
theorem lw_p24 : lw_okq (⟨"OpenPollModel", "free", "()V"⟩, 39) := ⟨⟨by decide +kernel, by decide +kernel⟩, List.mem_of_getElem? (i := 697) rfl, List.mem_of_getElem? (i := 873) rfl, List.mem_of_getElem? (i := 874) rfl⟩
set_option maxRecDepth 20000 in
theorem lw_p25 : lw_okq (⟨"OpenPollModel", "take", "(II)I"⟩, 39) := ⟨⟨by decide +kernel, by decide +kernel⟩, List.mem_of_getElem? (i := 697) rfl, List.mem_of_getElem? (i := 877) rfl, List.mem_of_getElem? (i := 878) rfl⟩
set_option maxRecDepth 20000 in
theorem lw_p26 : lw_okq (⟨"OpenPollModel", "digestOfTwo", "(II)I"⟩, 39) := ⟨⟨by decide +kernel, by decide +kernel⟩, List.mem_of_getElem? (i := 697) rfl, List.mem_of_getElem? (i := 881) rfl, List.mem_of_getElem? (i := 882) rfl⟩
set_option maxRecDepth 20000 in
theorem lw_p27 : lw_okq (⟨"OpenPollModel", "mingle", "(J)V"⟩, 39) := ⟨⟨by decide +kernel, by decide +kernel⟩, List.mem_of_getElem? (i := 697) rfl, List.mem_of_getElem? (i := 885) rfl, List.mem_of_getElem? (i := 886) rfl⟩
set_option maxRecDepth 20000 in
theorem lw_p28 : lw_okq (⟨"OpenPollModel", "asNumber", "()I"⟩, 39) := ⟨⟨by decide +kernel, by decide +kernel⟩, List.mem_of_getElem? (i := 697) rfl, List.mem_of_getElem? (i := 890) rfl, List.mem_of_getElem? (i := 891) rfl⟩
set_option maxRecDepth 20000 in
theorem lw_p29 : lw_okq (⟨"OpenPollModel", "sealed", "()J"⟩, 39) := ⟨⟨by decide +kernel, by decide +kernel⟩, List.mem_of_getElem? (i := 697) rfl, List.mem_of_getElem? (i := 894) rfl, List.mem_of_getElem? (i := 895) rfl⟩
set_option maxRecDepth 20000 in
theorem lw_p30 : lw_okq (⟨"OpenPollModel", "digestOfThree", "(III)I"⟩, 39) := ⟨⟨by decide +kernel, by decide +kernel⟩, List.mem_of_getElem? (i := 697) rfl, List.mem_of_getElem? (i := 903) rfl, List.mem_of_getElem? (i := 904) rfl⟩
set_option maxRecDepth 20000 in
theorem lw_p31 : lw_okq (⟨"OpenPollModel", "digestOfFive", "(IIIII)I"⟩, 39) := ⟨⟨by decide +kernel, by decide +kernel⟩, List.mem_of_getElem? (i := 697) rfl, List.mem_of_getElem? (i := 907) rfl, List.mem_of_getElem? (i := 908) rfl⟩
def lw_privs_2 : List (MethodName × Nat) := [(⟨"java/lang/Throwable", "fillInStackTrace", "(I)Ljava/lang/Throwable;"⟩, 6), (⟨"OpenPoll", "putEntries", "()V"⟩, 6), (⟨"OpenPoll", "putShare", "(III)V"⟩, 6), (⟨"OpenPoll$Board", "joinNeighbours", "(I)V"⟩, 4), (⟨"OpenPoll$Proof", "fill", "(LOpenPoll$Board;II)V"⟩, 4), (⟨"OpenPollModel", "put", "(IIII)I"⟩, 39), (⟨"OpenPollModel", "noRoom", "(I)Z"⟩, 39), (⟨"OpenPollModel", "publicKey", "()I"⟩, 39), (⟨"OpenPollModel", "free", "()V"⟩, 39), (⟨"OpenPollModel", "take", "(II)I"⟩, 39), (⟨"OpenPollModel", "digestOfTwo", "(II)I"⟩, 39), (⟨"OpenPollModel", "mingle", "(J)V"⟩, 39), (⟨"OpenPollModel", "asNumber", "()I"⟩, 39), (⟨"OpenPollModel", "sealed", "()J"⟩, 39), (⟨"OpenPollModel", "digestOfThree", "(III)I"⟩, 39), (⟨"OpenPollModel", "digestOfFive", "(IIIII)I"⟩, 39)]
theorem lw_r2 : ∀ q ∈ lw_privs_2, lw_okq q := List.forall_mem_cons.mpr ⟨lw_p16, List.forall_mem_cons.mpr ⟨lw_p17, List.forall_mem_cons.mpr ⟨lw_p18, List.forall_mem_cons.mpr ⟨lw_p19, List.forall_mem_cons.mpr ⟨lw_p20, List.forall_mem_cons.mpr ⟨lw_p21, List.forall_mem_cons.mpr ⟨lw_p22, List.forall_mem_cons.mpr ⟨lw_p23, List.forall_mem_cons.mpr ⟨lw_p24, List.forall_mem_cons.mpr ⟨lw_p25, List.forall_mem_cons.mpr ⟨lw_p26, List.forall_mem_cons.mpr ⟨lw_p27, List.forall_mem_cons.mpr ⟨lw_p28, List.forall_mem_cons.mpr ⟨lw_p29, List.forall_mem_cons.mpr ⟨lw_p30, List.forall_mem_cons.mpr ⟨lw_p31, fun _ h => absurd h List.not_mem_nil⟩⟩⟩⟩⟩⟩⟩⟩⟩⟩⟩⟩⟩⟩⟩⟩
set_option maxRecDepth 20000 in
theorem lw_p32 : lw_okq (⟨"OpenPollModel", "noRecord", "(I)Z"⟩, 39) := ⟨⟨by decide +kernel, by decide +kernel⟩, List.mem_of_getElem? (i := 697) rfl, List.mem_of_getElem? (i := 937) rfl, List.mem_of_getElem? (i := 938) rfl⟩
set_option maxRecDepth 20000 in
theorem lw_p33 : lw_okq (⟨"OpenPollModel", "right", "(I)Z"⟩, 39) := ⟨⟨by decide +kernel, by decide +kernel⟩, List.mem_of_getElem? (i := 697) rfl, List.mem_of_getElem? (i := 949) rfl, List.mem_of_getElem? (i := 950) rfl⟩
set_option maxRecDepth 20000 in
theorem lw_p34 : lw_okq (⟨"OpenPollModel", "rightBegun", "(I)Z"⟩, 39) := ⟨⟨by decide +kernel, by decide +kernel⟩, List.mem_of_getElem? (i := 697) rfl, List.mem_of_getElem? (i := 953) rfl, List.mem_of_getElem? (i := 954) rfl⟩
set_option maxRecDepth 20000 in
theorem lw_p35 : lw_okq (⟨"OpenPollModel", "bare", "(II)Z"⟩, 39) := ⟨⟨by decide +kernel, by decide +kernel⟩, List.mem_of_getElem? (i := 697) rfl, List.mem_of_getElem? (i := 957) rfl, List.mem_of_getElem? (i := 958) rfl⟩
set_option maxRecDepth 20000 in
theorem lw_p36 : lw_okq (⟨"OpenPollModel", "rightVoter", "(I)Z"⟩, 39) := ⟨⟨by decide +kernel, by decide +kernel⟩, List.mem_of_getElem? (i := 697) rfl, List.mem_of_getElem? (i := 964) rfl, List.mem_of_getElem? (i := 965) rfl⟩
set_option maxRecDepth 20000 in
theorem lw_p37 : lw_okq (⟨"OpenPollModel", "rightBallot", "(I)Z"⟩, 39) := ⟨⟨by decide +kernel, by decide +kernel⟩, List.mem_of_getElem? (i := 697) rfl, List.mem_of_getElem? (i := 968) rfl, List.mem_of_getElem? (i := 969) rfl⟩
set_option maxRecDepth 20000 in
theorem lw_p38 : lw_okq (⟨"OpenPollModel", "rightClosed", "(I)Z"⟩, 39) := ⟨⟨by decide +kernel, by decide +kernel⟩, List.mem_of_getElem? (i := 697) rfl, List.mem_of_getElem? (i := 972) rfl, List.mem_of_getElem? (i := 973) rfl⟩
set_option maxRecDepth 20000 in
theorem lw_p39 : lw_okq (⟨"OpenPollModel", "await", "(I)V"⟩, 39) := ⟨⟨by decide +kernel, by decide +kernel⟩, List.mem_of_getElem? (i := 697) rfl, List.mem_of_getElem? (i := 976) rfl, List.mem_of_getElem? (i := 977) rfl⟩
set_option maxRecDepth 20000 in
theorem lw_p40 : lw_okq (⟨"OpenPollModel", "rightMixed", "(I)Z"⟩, 39) := ⟨⟨by decide +kernel, by decide +kernel⟩, List.mem_of_getElem? (i := 697) rfl, List.mem_of_getElem? (i := 980) rfl, List.mem_of_getElem? (i := 981) rfl⟩
set_option maxRecDepth 20000 in
theorem lw_p41 : lw_okq (⟨"OpenPollModel", "rightEntry", "(I)Z"⟩, 39) := ⟨⟨by decide +kernel, by decide +kernel⟩, List.mem_of_getElem? (i := 697) rfl, List.mem_of_getElem? (i := 984) rfl, List.mem_of_getElem? (i := 985) rfl⟩
set_option maxRecDepth 20000 in
theorem lw_p42 : lw_okq (⟨"OpenPollModel", "rightShare", "(I)Z"⟩, 39) := ⟨⟨by decide +kernel, by decide +kernel⟩, List.mem_of_getElem? (i := 697) rfl, List.mem_of_getElem? (i := 988) rfl, List.mem_of_getElem? (i := 989) rfl⟩
set_option maxRecDepth 20000 in
theorem lw_p43 : lw_okq (⟨"OpenPollModel", "rightResult", "(I)Z"⟩, 39) := ⟨⟨by decide +kernel, by decide +kernel⟩, List.mem_of_getElem? (i := 697) rfl, List.mem_of_getElem? (i := 992) rfl, List.mem_of_getElem? (i := 993) rfl⟩
set_option maxRecDepth 20000 in
theorem lw_p44 : lw_okq (⟨"OpenPollModel", "leafOf", "(I)J"⟩, 39) := ⟨⟨by decide +kernel, by decide +kernel⟩, List.mem_of_getElem? (i := 697) rfl, List.mem_of_getElem? (i := 1000) rfl, List.mem_of_getElem? (i := 1001) rfl⟩
set_option maxRecDepth 20000 in
theorem lw_p45 : lw_okq (⟨"OpenPollModel", "headOf", "(II)J"⟩, 39) := ⟨⟨by decide +kernel, by decide +kernel⟩, List.mem_of_getElem? (i := 697) rfl, List.mem_of_getElem? (i := 1008) rfl, List.mem_of_getElem? (i := 1009) rfl⟩
set_option maxRecDepth 20000 in
theorem lw_p46 : lw_okq (⟨"OpenPollModel", "joined", "(JJ)J"⟩, 39) := ⟨⟨by decide +kernel, by decide +kernel⟩, List.mem_of_getElem? (i := 697) rfl, List.mem_of_getElem? (i := 1012) rfl, List.mem_of_getElem? (i := 1013) rfl⟩
set_option maxRecDepth 20000 in
theorem lw_p47 : lw_okq (⟨"OpenPollModel", "turnRound", "(II)V"⟩, 39) := ⟨⟨by decide +kernel, by decide +kernel⟩, List.mem_of_getElem? (i := 697) rfl, List.mem_of_getElem? (i := 1023) rfl, List.mem_of_getElem? (i := 1024) rfl⟩
def lw_privs_3 : List (MethodName × Nat) := [(⟨"OpenPollModel", "noRecord", "(I)Z"⟩, 39), (⟨"OpenPollModel", "right", "(I)Z"⟩, 39), (⟨"OpenPollModel", "rightBegun", "(I)Z"⟩, 39), (⟨"OpenPollModel", "bare", "(II)Z"⟩, 39), (⟨"OpenPollModel", "rightVoter", "(I)Z"⟩, 39), (⟨"OpenPollModel", "rightBallot", "(I)Z"⟩, 39), (⟨"OpenPollModel", "rightClosed", "(I)Z"⟩, 39), (⟨"OpenPollModel", "await", "(I)V"⟩, 39), (⟨"OpenPollModel", "rightMixed", "(I)Z"⟩, 39), (⟨"OpenPollModel", "rightEntry", "(I)Z"⟩, 39), (⟨"OpenPollModel", "rightShare", "(I)Z"⟩, 39), (⟨"OpenPollModel", "rightResult", "(I)Z"⟩, 39), (⟨"OpenPollModel", "leafOf", "(I)J"⟩, 39), (⟨"OpenPollModel", "headOf", "(II)J"⟩, 39), (⟨"OpenPollModel", "joined", "(JJ)J"⟩, 39), (⟨"OpenPollModel", "turnRound", "(II)V"⟩, 39)]
theorem lw_r3 : ∀ q ∈ lw_privs_3, lw_okq q := List.forall_mem_cons.mpr ⟨lw_p32, List.forall_mem_cons.mpr ⟨lw_p33, List.forall_mem_cons.mpr ⟨lw_p34, List.forall_mem_cons.mpr ⟨lw_p35, List.forall_mem_cons.mpr ⟨lw_p36, List.forall_mem_cons.mpr ⟨lw_p37, List.forall_mem_cons.mpr ⟨lw_p38, List.forall_mem_cons.mpr ⟨lw_p39, List.forall_mem_cons.mpr ⟨lw_p40, List.forall_mem_cons.mpr ⟨lw_p41, List.forall_mem_cons.mpr ⟨lw_p42, List.forall_mem_cons.mpr ⟨lw_p43, List.forall_mem_cons.mpr ⟨lw_p44, List.forall_mem_cons.mpr ⟨lw_p45, List.forall_mem_cons.mpr ⟨lw_p46, List.forall_mem_cons.mpr ⟨lw_p47, fun _ h => absurd h List.not_mem_nil⟩⟩⟩⟩⟩⟩⟩⟩⟩⟩⟩⟩⟩⟩⟩⟩
def lw_privs : List (MethodName × Nat) := lw_privs_1 ++ (lw_privs_2 ++ (lw_privs_3))
def lw_tbl : List Cond := k2_sels lw_privs ++ tables_1
theorem lw_privs_ok : ∀ q ∈ lw_privs, lw_okq q := by
  show ∀ q ∈ lw_privs_1 ++ (lw_privs_2 ++ (lw_privs_3)), lw_okq q
  exact List.forall_mem_append.mpr ⟨lw_r1, List.forall_mem_append.mpr ⟨lw_r2, lw_r3⟩⟩
